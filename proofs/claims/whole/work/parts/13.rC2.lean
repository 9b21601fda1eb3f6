set_option maxRecDepth 20000 in
theorem r_Rr_understands {x2 : Int32} {x3 : Int32} {C0 D : St} {v : Int32} {C' : St} (h : f_Rr_understands x2 x3 C0 = some (v, C')) : mj_R M_Rr_understands 0 (mj_lv M_Rr_understands.2.2.1 [.ref 21, .ref 19, .int x2, .int x3]) [] (SH, jn C0 D) (some (.int v)) (SH, jn (C') D) := by
  show mj_R M_Rr_understands 0 [some (.ref 21), some (.ref 19), some (.int x2), some (.int x3)] [] _ _ _
  unfold f_Rr_understands at h
  refine mj_aload_n (pc := 0) (i := 0) d_Rr_understands_0 rfl rfl (by decide) ?_
  obtain ⟨C1, hb2, h⟩ := bd1_some h
  refine mj_callV (pc := 1) (b := 21) (vs := []) (st := []) d_Rr_understands_1 bB_Rr_understands_Rr_clearRow lk_Rr_17 iv_Rr_clearRow rc_21 rfl (Nat.le_of_ble_eq_true rfl) (Nat.le_of_ble_eq_true rfl) (r_Rr_clearRow hb2) ?_
  show mj_R M_Rr_understands 4 [some (.ref 21), some (.ref 19), some (.int x2), some (.int x3)] [] (SH, jn C1 D) (some (.int v)) (SH, jn (C') D)
  refine mj_aload_n (pc := 4) (i := 0) d_Rr_understands_4 rfl rfl (by decide) ?_
  refine mj_iconst (pc := 5) (v := 0) d_Rr_understands_5 (by decide) ?_
  refine cj_putI (pc := 6) d_Rr_understands_6 fl_Rr_20 sh_21 rfl (fun _ _ _ h => by cases h; rfl) (by decide) (by decide) (by decide) ?_
  refine mj_aload_n (pc := 9) (i := 0) d_Rr_understands_9 rfl rfl (by decide) ?_
  refine mj_aload_n (pc := 10) (i := 1) d_Rr_understands_10 rfl rfl (by decide) ?_
  obtain ⟨v3, C4, hb5, h⟩ := bd2_some h
  refine mj_callV (pc := 11) (b := 21) (vs := [.ref 19]) (st := []) d_Rr_understands_11 bB_Rr_understands_Rr_nextWord lk_Rr_24 iv_Rr_nextWord rc_21 rfl (Nat.le_of_ble_eq_true rfl) (Nat.le_of_ble_eq_true rfl) (r_Rr_nextWord hb5) ?_
  show mj_R M_Rr_understands 14 [some (.ref 21), some (.ref 19), some (.int x2), some (.int x3)] [.int v3] (SH, jn C4 D) (some (.int v)) (SH, jn (C') D)
  refine mj_popI (pc := 14) d_Rr_understands_14 ?_
  refine mj_aload_n (pc := 15) (i := 0) d_Rr_understands_15 rfl rfl (by decide) ?_
  refine mj_aload_n (pc := 16) (i := 1) d_Rr_understands_16 rfl rfl (by decide) ?_
  refine mj_ldcS (pc := 17) (j := 0) d_Rr_understands_17 rfl (by decide) rfl ?_
  obtain ⟨v6, hb7, h⟩ := bd1_some h
  refine mj_callV (pc := 19) (b := 21) (vs := [.ref 19, .ref (1000000 + 0)]) (st := []) d_Rr_understands_19 bB_Rr_understands_Rr_isWord lk_Rr_30 iv_Rr_isWord rc_21 rfl (Nat.le_of_ble_eq_true rfl) (Nat.le_of_ble_eq_true rfl) (r_Rr_isWord (by decide) hb7) ?_
  show mj_R M_Rr_understands 22 [some (.ref 21), some (.ref 19), some (.int x2), some (.int x3)] [.int v6] (SH, jn C4 D) (some (.int v)) (SH, jn (C') D)
  refine mj_if_eq (y := 0) (pc := 22) (tgt := 47) d_Rr_understands_22 (by decide) mj_hs (fun hc8 => ?_) (fun hc8 => ?_)
  · rw [if_pos hc8] at h
    refine mj_aload_n (pc := 47) (i := 0) d_Rr_understands_47 rfl rfl (by decide) ?_
    refine mj_aload_n (pc := 48) (i := 1) d_Rr_understands_48 rfl rfl (by decide) ?_
    refine mj_ldcS (pc := 49) (j := 1) d_Rr_understands_49 rfl (by decide) rfl ?_
    obtain ⟨v9, hb10, h⟩ := bd1_some h
    refine mj_callV (pc := 51) (b := 21) (vs := [.ref 19, .ref (1000000 + 1)]) (st := []) d_Rr_understands_51 bB_Rr_understands_Rr_isWord lk_Rr_30 iv_Rr_isWord rc_21 rfl (Nat.le_of_ble_eq_true rfl) (Nat.le_of_ble_eq_true rfl) (r_Rr_isWord (by decide) hb10) ?_
    show mj_R M_Rr_understands 54 [some (.ref 21), some (.ref 19), some (.int x2), some (.int x3)] [.int v9] (SH, jn C4 D) (some (.int v)) (SH, jn (C') D)
    refine mj_if_eq (y := 0) (pc := 54) (tgt := 75) d_Rr_understands_54 (by decide) mj_hs (fun hc11 => ?_) (fun hc11 => ?_)
    · rw [if_pos hc11] at h
      refine mj_aload_n (pc := 75) (i := 0) d_Rr_understands_75 rfl rfl (by decide) ?_
      refine mj_aload_n (pc := 76) (i := 1) d_Rr_understands_76 rfl rfl (by decide) ?_
      refine mj_iload_n (pc := 77) (i := 2) d_Rr_understands_77 rfl rfl ?_
      refine mj_iload_n (pc := 78) (i := 3) d_Rr_understands_78 rfl rfl ?_
      obtain ⟨v12, C13, hb14, h⟩ := bd2_some h
      refine mj_callV (pc := 79) (b := 21) (vs := [.ref 19, .int x2, .int x3]) (st := []) d_Rr_understands_79 bB_Rr_understands_Rr_readsAct lk_Rr_43 iv_Rr_readsAct rc_21 rfl (Nat.le_of_ble_eq_true rfl) (Nat.le_of_ble_eq_true rfl) (r_Rr_readsAct hb14) ?_
      show mj_R M_Rr_understands 82 [some (.ref 21), some (.ref 19), some (.int x2), some (.int x3)] [.int v12] (SH, jn C13 D) (some (.int v)) (SH, jn (C') D)
      obtain ⟨w20, C21, hb23, h⟩ := bd2_some h
      have k22 : mj_R M_Rr_understands 98 [none, none, none, none] [.int w20] (SH, jn C21 D) (some (.int v)) (SH, jn (C') D) := by
        obtain ⟨hg24, h⟩ := mj_gd h
        obtain ⟨e_1, e_2⟩ := inj2 h
        subst e_1
        subst e_2
        exact mj_zret (pc := 98) (ty := .boolean) d_Rr_understands_98 rfl (mj_b01 hg24)
      have h := hb23
      refine mj_if_eq (y := 0) (pc := 82) (tgt := 97) d_Rr_understands_82 (by decide) mj_hs (fun hc15 => ?_) (fun hc15 => ?_)
      · rw [if_pos hc15] at h
        refine mj_iconst (pc := 97) (v := 0) d_Rr_understands_97 (by decide) ?_
        obtain ⟨e_1, e_2⟩ := inj2 h
        subst e_1
        subst e_2
        exact mj_wk k22 trivial
      · rw [if_neg hc15] at h
        refine mj_aload_n (pc := 85) (i := 0) d_Rr_understands_85 rfl rfl (by decide) ?_
        refine mj_aload_n (pc := 86) (i := 1) d_Rr_understands_86 rfl rfl (by decide) ?_
        obtain ⟨v16, C17, hb18, h⟩ := bd2_some h
        refine mj_callV (pc := 87) (b := 21) (vs := [.ref 19]) (st := []) d_Rr_understands_87 bB_Rr_understands_Rr_nextWord lk_Rr_24 iv_Rr_nextWord rc_21 rfl (Nat.le_of_ble_eq_true rfl) (Nat.le_of_ble_eq_true rfl) (r_Rr_nextWord hb18) ?_
        show mj_R M_Rr_understands 90 [some (.ref 21), some (.ref 19), some (.int x2), some (.int x3)] [.int v16] (SH, jn C17 D) (some (.int v)) (SH, jn (C') D)
        refine mj_if_ne (y := 0) (pc := 90) (tgt := 97) d_Rr_understands_90 (by decide) mj_hs (fun hc19 => ?_) (fun hc19 => ?_)
        · rw [if_neg hc19] at h
          refine mj_iconst (pc := 97) (v := 0) d_Rr_understands_97 (by decide) ?_
          obtain ⟨e_1, e_2⟩ := inj2 h
          subst e_1
          subst e_2
          exact mj_wk k22 trivial
        · rw [if_pos hc19] at h
          refine mj_iconst (pc := 93) (v := 1) d_Rr_understands_93 (by decide) ?_
          refine mj_goto (pc := 94) (tgt := 98) d_Rr_understands_94 (by decide) ?_
          obtain ⟨e_1, e_2⟩ := inj2 h
          subst e_1
          subst e_2
          exact mj_wk k22 trivial
    · rw [if_neg hc11] at h
      refine mj_aload_n (pc := 57) (i := 0) d_Rr_understands_57 rfl rfl (by decide) ?_
      refine mj_aload_n (pc := 58) (i := 1) d_Rr_understands_58 rfl rfl (by decide) ?_
      obtain ⟨v25, C26, hb27, h⟩ := bd2_some h
      refine mj_callV (pc := 59) (b := 21) (vs := [.ref 19]) (st := []) d_Rr_understands_59 bB_Rr_understands_Rr_readsCond lk_Rr_40 iv_Rr_readsCond rc_21 rfl (Nat.le_of_ble_eq_true rfl) (Nat.le_of_ble_eq_true rfl) (r_Rr_readsCond hb27) ?_
      show mj_R M_Rr_understands 62 [some (.ref 21), some (.ref 19), some (.int x2), some (.int x3)] [.int v25] (SH, jn C26 D) (some (.int v)) (SH, jn (C') D)
      refine mj_if_eq (y := 0) (pc := 62) (tgt := 73) d_Rr_understands_62 (by decide) mj_hs (fun hc28 => ?_) (fun hc28 => ?_)
      · rw [if_pos hc28] at h
        refine mj_iconst (pc := 73) (v := 0) d_Rr_understands_73 (by decide) ?_
        obtain ⟨e_1, e_2⟩ := inj2 h
        subst e_1
        subst e_2
        exact mj_zret (pc := 74) (ty := .boolean) d_Rr_understands_74 rfl (mj_b01 (by decide))
      · rw [if_neg hc28] at h
        refine mj_aload_n (pc := 65) (i := 0) d_Rr_understands_65 rfl rfl (by decide) ?_
        refine mj_aload_n (pc := 66) (i := 1) d_Rr_understands_66 rfl rfl (by decide) ?_
        obtain ⟨v29, C30, hb31, h⟩ := bd2_some h
        refine mj_callV (pc := 67) (b := 21) (vs := [.ref 19]) (st := []) d_Rr_understands_67 bB_Rr_understands_Rr_nextWord lk_Rr_24 iv_Rr_nextWord rc_21 rfl (Nat.le_of_ble_eq_true rfl) (Nat.le_of_ble_eq_true rfl) (r_Rr_nextWord hb31) ?_
        show mj_R M_Rr_understands 70 [some (.ref 21), some (.ref 19), some (.int x2), some (.int x3)] [.int v29] (SH, jn C30 D) (some (.int v)) (SH, jn (C') D)
        refine mj_if_ne (y := 0) (pc := 70) (tgt := 75) d_Rr_understands_70 (by decide) mj_hs (fun hc32 => ?_) (fun hc32 => ?_)
        · rw [if_neg hc32] at h
          refine mj_aload_n (pc := 75) (i := 0) d_Rr_understands_75 rfl rfl (by decide) ?_
          refine mj_aload_n (pc := 76) (i := 1) d_Rr_understands_76 rfl rfl (by decide) ?_
          refine mj_iload_n (pc := 77) (i := 2) d_Rr_understands_77 rfl rfl ?_
          refine mj_iload_n (pc := 78) (i := 3) d_Rr_understands_78 rfl rfl ?_
          obtain ⟨v33, C34, hb35, h⟩ := bd2_some h
          refine mj_callV (pc := 79) (b := 21) (vs := [.ref 19, .int x2, .int x3]) (st := []) d_Rr_understands_79 bB_Rr_understands_Rr_readsAct lk_Rr_43 iv_Rr_readsAct rc_21 rfl (Nat.le_of_ble_eq_true rfl) (Nat.le_of_ble_eq_true rfl) (r_Rr_readsAct hb35) ?_
          show mj_R M_Rr_understands 82 [some (.ref 21), some (.ref 19), some (.int x2), some (.int x3)] [.int v33] (SH, jn C34 D) (some (.int v)) (SH, jn (C') D)
          obtain ⟨w41, C42, hb44, h⟩ := bd2_some h
          have k43 : mj_R M_Rr_understands 98 [none, none, none, none] [.int w41] (SH, jn C42 D) (some (.int v)) (SH, jn (C') D) := by
            obtain ⟨hg45, h⟩ := mj_gd h
            obtain ⟨e_1, e_2⟩ := inj2 h
            subst e_1
            subst e_2
            exact mj_zret (pc := 98) (ty := .boolean) d_Rr_understands_98 rfl (mj_b01 hg45)
          have h := hb44
          refine mj_if_eq (y := 0) (pc := 82) (tgt := 97) d_Rr_understands_82 (by decide) mj_hs (fun hc36 => ?_) (fun hc36 => ?_)
          · rw [if_pos hc36] at h
            refine mj_iconst (pc := 97) (v := 0) d_Rr_understands_97 (by decide) ?_
            obtain ⟨e_1, e_2⟩ := inj2 h
            subst e_1
            subst e_2
            exact mj_wk k43 trivial
          · rw [if_neg hc36] at h
            refine mj_aload_n (pc := 85) (i := 0) d_Rr_understands_85 rfl rfl (by decide) ?_
            refine mj_aload_n (pc := 86) (i := 1) d_Rr_understands_86 rfl rfl (by decide) ?_
            obtain ⟨v37, C38, hb39, h⟩ := bd2_some h
            refine mj_callV (pc := 87) (b := 21) (vs := [.ref 19]) (st := []) d_Rr_understands_87 bB_Rr_understands_Rr_nextWord lk_Rr_24 iv_Rr_nextWord rc_21 rfl (Nat.le_of_ble_eq_true rfl) (Nat.le_of_ble_eq_true rfl) (r_Rr_nextWord hb39) ?_
            show mj_R M_Rr_understands 90 [some (.ref 21), some (.ref 19), some (.int x2), some (.int x3)] [.int v37] (SH, jn C38 D) (some (.int v)) (SH, jn (C') D)
            refine mj_if_ne (y := 0) (pc := 90) (tgt := 97) d_Rr_understands_90 (by decide) mj_hs (fun hc40 => ?_) (fun hc40 => ?_)
            · rw [if_neg hc40] at h
              refine mj_iconst (pc := 97) (v := 0) d_Rr_understands_97 (by decide) ?_
              obtain ⟨e_1, e_2⟩ := inj2 h
              subst e_1
              subst e_2
              exact mj_wk k43 trivial
            · rw [if_pos hc40] at h
              refine mj_iconst (pc := 93) (v := 1) d_Rr_understands_93 (by decide) ?_
              refine mj_goto (pc := 94) (tgt := 98) d_Rr_understands_94 (by decide) ?_
              obtain ⟨e_1, e_2⟩ := inj2 h
              subst e_1
              subst e_2
              exact mj_wk k43 trivial
        · rw [if_pos hc32] at h
          refine mj_iconst (pc := 73) (v := 0) d_Rr_understands_73 (by decide) ?_
          obtain ⟨e_1, e_2⟩ := inj2 h
          subst e_1
          subst e_2
          exact mj_zret (pc := 74) (ty := .boolean) d_Rr_understands_74 rfl (mj_b01 (by decide))
  · rw [if_neg hc8] at h
    refine mj_aload_n (pc := 25) (i := 0) d_Rr_understands_25 rfl rfl (by decide) ?_
    refine mj_aload_n (pc := 26) (i := 1) d_Rr_understands_26 rfl rfl (by decide) ?_
    refine mj_iconst (pc := 27) (v := 4) d_Rr_understands_27 (by decide) ?_
    refine mj_iconst (pc := 28) (v := 1) d_Rr_understands_28 (by decide) ?_
    refine mj_bipush (pc := 29) (v := 99) d_Rr_understands_29 (by decide) ?_
    obtain ⟨v46, C47, hb48, h⟩ := bd2_some h
    refine mj_callV (pc := 31) (b := 21) (vs := [.ref 19, .int 4, .int 1, .int 99]) (st := []) d_Rr_understands_31 bB_Rr_understands_Rr_reads lk_Rr_34 iv_Rr_reads rc_21 rfl (Nat.le_of_ble_eq_true rfl) (Nat.le_of_ble_eq_true rfl) (r_Rr_reads hb48) ?_
    show mj_R M_Rr_understands 34 [some (.ref 21), some (.ref 19), some (.int x2), some (.int x3)] [.int v46] (SH, jn C47 D) (some (.int v)) (SH, jn (C') D)
    refine mj_if_eq (y := 0) (pc := 34) (tgt := 45) d_Rr_understands_34 (by decide) mj_hs (fun hc49 => ?_) (fun hc49 => ?_)
    · rw [if_pos hc49] at h
      refine mj_iconst (pc := 45) (v := 0) d_Rr_understands_45 (by decide) ?_
      obtain ⟨e_1, e_2⟩ := inj2 h
      subst e_1
      subst e_2
      exact mj_zret (pc := 46) (ty := .boolean) d_Rr_understands_46 rfl (mj_b01 (by decide))
    · rw [if_neg hc49] at h
      refine mj_aload_n (pc := 37) (i := 0) d_Rr_understands_37 rfl rfl (by decide) ?_
      refine mj_aload_n (pc := 38) (i := 1) d_Rr_understands_38 rfl rfl (by decide) ?_
      obtain ⟨v50, C51, hb52, h⟩ := bd2_some h
      refine mj_callV (pc := 39) (b := 21) (vs := [.ref 19]) (st := []) d_Rr_understands_39 bB_Rr_understands_Rr_nextWord lk_Rr_24 iv_Rr_nextWord rc_21 rfl (Nat.le_of_ble_eq_true rfl) (Nat.le_of_ble_eq_true rfl) (r_Rr_nextWord hb52) ?_
      show mj_R M_Rr_understands 42 [some (.ref 21), some (.ref 19), some (.int x2), some (.int x3)] [.int v50] (SH, jn C51 D) (some (.int v)) (SH, jn (C') D)
      refine mj_if_ne (y := 0) (pc := 42) (tgt := 47) d_Rr_understands_42 (by decide) mj_hs (fun hc53 => ?_) (fun hc53 => ?_)
      · rw [if_neg hc53] at h
        refine mj_aload_n (pc := 47) (i := 0) d_Rr_understands_47 rfl rfl (by decide) ?_
        refine mj_aload_n (pc := 48) (i := 1) d_Rr_understands_48 rfl rfl (by decide) ?_
        refine mj_ldcS (pc := 49) (j := 1) d_Rr_understands_49 rfl (by decide) rfl ?_
        obtain ⟨v54, hb55, h⟩ := bd1_some h
        refine mj_callV (pc := 51) (b := 21) (vs := [.ref 19, .ref (1000000 + 1)]) (st := []) d_Rr_understands_51 bB_Rr_understands_Rr_isWord lk_Rr_30 iv_Rr_isWord rc_21 rfl (Nat.le_of_ble_eq_true rfl) (Nat.le_of_ble_eq_true rfl) (r_Rr_isWord (by decide) hb55) ?_
        show mj_R M_Rr_understands 54 [some (.ref 21), some (.ref 19), some (.int x2), some (.int x3)] [.int v54] (SH, jn C51 D) (some (.int v)) (SH, jn (C') D)
        refine mj_if_eq (y := 0) (pc := 54) (tgt := 75) d_Rr_understands_54 (by decide) mj_hs (fun hc56 => ?_) (fun hc56 => ?_)
        · rw [if_pos hc56] at h
          refine mj_aload_n (pc := 75) (i := 0) d_Rr_understands_75 rfl rfl (by decide) ?_
          refine mj_aload_n (pc := 76) (i := 1) d_Rr_understands_76 rfl rfl (by decide) ?_
          refine mj_iload_n (pc := 77) (i := 2) d_Rr_understands_77 rfl rfl ?_
          refine mj_iload_n (pc := 78) (i := 3) d_Rr_understands_78 rfl rfl ?_
          obtain ⟨v57, C58, hb59, h⟩ := bd2_some h
          refine mj_callV (pc := 79) (b := 21) (vs := [.ref 19, .int x2, .int x3]) (st := []) d_Rr_understands_79 bB_Rr_understands_Rr_readsAct lk_Rr_43 iv_Rr_readsAct rc_21 rfl (Nat.le_of_ble_eq_true rfl) (Nat.le_of_ble_eq_true rfl) (r_Rr_readsAct hb59) ?_
          show mj_R M_Rr_understands 82 [some (.ref 21), some (.ref 19), some (.int x2), some (.int x3)] [.int v57] (SH, jn C58 D) (some (.int v)) (SH, jn (C') D)
          obtain ⟨w65, C66, hb68, h⟩ := bd2_some h
          have k67 : mj_R M_Rr_understands 98 [none, none, none, none] [.int w65] (SH, jn C66 D) (some (.int v)) (SH, jn (C') D) := by
            obtain ⟨hg69, h⟩ := mj_gd h
            obtain ⟨e_1, e_2⟩ := inj2 h
            subst e_1
            subst e_2
            exact mj_zret (pc := 98) (ty := .boolean) d_Rr_understands_98 rfl (mj_b01 hg69)
          have h := hb68
          refine mj_if_eq (y := 0) (pc := 82) (tgt := 97) d_Rr_understands_82 (by decide) mj_hs (fun hc60 => ?_) (fun hc60 => ?_)
          · rw [if_pos hc60] at h
            refine mj_iconst (pc := 97) (v := 0) d_Rr_understands_97 (by decide) ?_
            obtain ⟨e_1, e_2⟩ := inj2 h
            subst e_1
            subst e_2
            exact mj_wk k67 trivial
          · rw [if_neg hc60] at h
            refine mj_aload_n (pc := 85) (i := 0) d_Rr_understands_85 rfl rfl (by decide) ?_
            refine mj_aload_n (pc := 86) (i := 1) d_Rr_understands_86 rfl rfl (by decide) ?_
            obtain ⟨v61, C62, hb63, h⟩ := bd2_some h
            refine mj_callV (pc := 87) (b := 21) (vs := [.ref 19]) (st := []) d_Rr_understands_87 bB_Rr_understands_Rr_nextWord lk_Rr_24 iv_Rr_nextWord rc_21 rfl (Nat.le_of_ble_eq_true rfl) (Nat.le_of_ble_eq_true rfl) (r_Rr_nextWord hb63) ?_
            show mj_R M_Rr_understands 90 [some (.ref 21), some (.ref 19), some (.int x2), some (.int x3)] [.int v61] (SH, jn C62 D) (some (.int v)) (SH, jn (C') D)
            refine mj_if_ne (y := 0) (pc := 90) (tgt := 97) d_Rr_understands_90 (by decide) mj_hs (fun hc64 => ?_) (fun hc64 => ?_)
            · rw [if_neg hc64] at h
              refine mj_iconst (pc := 97) (v := 0) d_Rr_understands_97 (by decide) ?_
              obtain ⟨e_1, e_2⟩ := inj2 h
              subst e_1
              subst e_2
              exact mj_wk k67 trivial
            · rw [if_pos hc64] at h
              refine mj_iconst (pc := 93) (v := 1) d_Rr_understands_93 (by decide) ?_
              refine mj_goto (pc := 94) (tgt := 98) d_Rr_understands_94 (by decide) ?_
              obtain ⟨e_1, e_2⟩ := inj2 h
              subst e_1
              subst e_2
              exact mj_wk k67 trivial
        · rw [if_neg hc56] at h
          refine mj_aload_n (pc := 57) (i := 0) d_Rr_understands_57 rfl rfl (by decide) ?_
          refine mj_aload_n (pc := 58) (i := 1) d_Rr_understands_58 rfl rfl (by decide) ?_
          obtain ⟨v70, C71, hb72, h⟩ := bd2_some h
          refine mj_callV (pc := 59) (b := 21) (vs := [.ref 19]) (st := []) d_Rr_understands_59 bB_Rr_understands_Rr_readsCond lk_Rr_40 iv_Rr_readsCond rc_21 rfl (Nat.le_of_ble_eq_true rfl) (Nat.le_of_ble_eq_true rfl) (r_Rr_readsCond hb72) ?_
          show mj_R M_Rr_understands 62 [some (.ref 21), some (.ref 19), some (.int x2), some (.int x3)] [.int v70] (SH, jn C71 D) (some (.int v)) (SH, jn (C') D)
          refine mj_if_eq (y := 0) (pc := 62) (tgt := 73) d_Rr_understands_62 (by decide) mj_hs (fun hc73 => ?_) (fun hc73 => ?_)
          · rw [if_pos hc73] at h
            refine mj_iconst (pc := 73) (v := 0) d_Rr_understands_73 (by decide) ?_
            obtain ⟨e_1, e_2⟩ := inj2 h
            subst e_1
            subst e_2
            exact mj_zret (pc := 74) (ty := .boolean) d_Rr_understands_74 rfl (mj_b01 (by decide))
          · rw [if_neg hc73] at h
            refine mj_aload_n (pc := 65) (i := 0) d_Rr_understands_65 rfl rfl (by decide) ?_
            refine mj_aload_n (pc := 66) (i := 1) d_Rr_understands_66 rfl rfl (by decide) ?_
            obtain ⟨v74, C75, hb76, h⟩ := bd2_some h
            refine mj_callV (pc := 67) (b := 21) (vs := [.ref 19]) (st := []) d_Rr_understands_67 bB_Rr_understands_Rr_nextWord lk_Rr_24 iv_Rr_nextWord rc_21 rfl (Nat.le_of_ble_eq_true rfl) (Nat.le_of_ble_eq_true rfl) (r_Rr_nextWord hb76) ?_
            show mj_R M_Rr_understands 70 [some (.ref 21), some (.ref 19), some (.int x2), some (.int x3)] [.int v74] (SH, jn C75 D) (some (.int v)) (SH, jn (C') D)
            refine mj_if_ne (y := 0) (pc := 70) (tgt := 75) d_Rr_understands_70 (by decide) mj_hs (fun hc77 => ?_) (fun hc77 => ?_)
            · rw [if_neg hc77] at h
              refine mj_aload_n (pc := 75) (i := 0) d_Rr_understands_75 rfl rfl (by decide) ?_
              refine mj_aload_n (pc := 76) (i := 1) d_Rr_understands_76 rfl rfl (by decide) ?_
              refine mj_iload_n (pc := 77) (i := 2) d_Rr_understands_77 rfl rfl ?_
              refine mj_iload_n (pc := 78) (i := 3) d_Rr_understands_78 rfl rfl ?_
              obtain ⟨v78, C79, hb80, h⟩ := bd2_some h
              refine mj_callV (pc := 79) (b := 21) (vs := [.ref 19, .int x2, .int x3]) (st := []) d_Rr_understands_79 bB_Rr_understands_Rr_readsAct lk_Rr_43 iv_Rr_readsAct rc_21 rfl (Nat.le_of_ble_eq_true rfl) (Nat.le_of_ble_eq_true rfl) (r_Rr_readsAct hb80) ?_
              show mj_R M_Rr_understands 82 [some (.ref 21), some (.ref 19), some (.int x2), some (.int x3)] [.int v78] (SH, jn C79 D) (some (.int v)) (SH, jn (C') D)
              obtain ⟨w86, C87, hb89, h⟩ := bd2_some h
              have k88 : mj_R M_Rr_understands 98 [none, none, none, none] [.int w86] (SH, jn C87 D) (some (.int v)) (SH, jn (C') D) := by
                obtain ⟨hg90, h⟩ := mj_gd h
                obtain ⟨e_1, e_2⟩ := inj2 h
                subst e_1
                subst e_2
                exact mj_zret (pc := 98) (ty := .boolean) d_Rr_understands_98 rfl (mj_b01 hg90)
              have h := hb89
              refine mj_if_eq (y := 0) (pc := 82) (tgt := 97) d_Rr_understands_82 (by decide) mj_hs (fun hc81 => ?_) (fun hc81 => ?_)
              · rw [if_pos hc81] at h
                refine mj_iconst (pc := 97) (v := 0) d_Rr_understands_97 (by decide) ?_
                obtain ⟨e_1, e_2⟩ := inj2 h
                subst e_1
                subst e_2
                exact mj_wk k88 trivial
              · rw [if_neg hc81] at h
                refine mj_aload_n (pc := 85) (i := 0) d_Rr_understands_85 rfl rfl (by decide) ?_
                refine mj_aload_n (pc := 86) (i := 1) d_Rr_understands_86 rfl rfl (by decide) ?_
                obtain ⟨v82, C83, hb84, h⟩ := bd2_some h
                refine mj_callV (pc := 87) (b := 21) (vs := [.ref 19]) (st := []) d_Rr_understands_87 bB_Rr_understands_Rr_nextWord lk_Rr_24 iv_Rr_nextWord rc_21 rfl (Nat.le_of_ble_eq_true rfl) (Nat.le_of_ble_eq_true rfl) (r_Rr_nextWord hb84) ?_
                show mj_R M_Rr_understands 90 [some (.ref 21), some (.ref 19), some (.int x2), some (.int x3)] [.int v82] (SH, jn C83 D) (some (.int v)) (SH, jn (C') D)
                refine mj_if_ne (y := 0) (pc := 90) (tgt := 97) d_Rr_understands_90 (by decide) mj_hs (fun hc85 => ?_) (fun hc85 => ?_)
                · rw [if_neg hc85] at h
                  refine mj_iconst (pc := 97) (v := 0) d_Rr_understands_97 (by decide) ?_
                  obtain ⟨e_1, e_2⟩ := inj2 h
                  subst e_1
                  subst e_2
                  exact mj_wk k88 trivial
                · rw [if_pos hc85] at h
                  refine mj_iconst (pc := 93) (v := 1) d_Rr_understands_93 (by decide) ?_
                  refine mj_goto (pc := 94) (tgt := 98) d_Rr_understands_94 (by decide) ?_
                  obtain ⟨e_1, e_2⟩ := inj2 h
                  subst e_1
                  subst e_2
                  exact mj_wk k88 trivial
            · rw [if_pos hc77] at h
              refine mj_iconst (pc := 73) (v := 0) d_Rr_understands_73 (by decide) ?_
              obtain ⟨e_1, e_2⟩ := inj2 h
              subst e_1
              subst e_2
              exact mj_zret (pc := 74) (ty := .boolean) d_Rr_understands_74 rfl (mj_b01 (by decide))
      · rw [if_pos hc53] at h
        refine mj_iconst (pc := 45) (v := 0) d_Rr_understands_45 (by decide) ?_
        obtain ⟨e_1, e_2⟩ := inj2 h
        subst e_1
        subst e_2
        exact mj_zret (pc := 46) (ty := .boolean) d_Rr_understands_46 rfl (mj_b01 (by decide))
set_option maxRecDepth 20000 in
theorem r_Rl_start {x0 : Int32} {x1 : Int32} {mem : mj_Mem} {v : Int32} (h : f_Rl_start x0 x1 = some v) : mj_R M_Rl_start 0 (mj_lv M_Rl_start.2.2.1 [.int x0, .int x1]) [] mem (some (.int v)) mem := by
  show mj_R M_Rl_start 0 [some (.int x0), some (.int x1)] [] _ _ _
  unfold f_Rl_start at h
  refine mj_iload_n (pc := 0) (i := 0) d_Rl_start_0 rfl rfl ?_
  refine mj_bipush (pc := 1) (v := 6) d_Rl_start_1 (by decide) ?_
  refine mj_imul (pc := 3) d_Rl_start_3 ?_
  refine mj_iload_n (pc := 4) (i := 1) d_Rl_start_4 rfl rfl ?_
  refine mj_iadd (pc := 5) d_Rl_start_5 ?_
  refine mj_bipush (pc := 6) (v := 9) d_Rl_start_6 (by decide) ?_
  refine mj_imul (pc := 8) d_Rl_start_8 ?_
  obtain e_1 := inj1 h
  subst e_1
  exact mj_iret (pc := 9) d_Rl_start_9 rfl
set_option maxRecDepth 20000 in
theorem r_Rl_append {x1 : Int32} {C0 D : St} {v : Int32} {C' : St} (h : f_Rl_append x1 C0 = some (v, C')) : mj_R M_Rl_append 0 (mj_lv M_Rl_append.2.2.1 [.ref 12, .int x1, .ref 22]) [] (SH, jn C0 D) (some (.int v)) (SH, jn (C') D) := by
  show mj_R M_Rl_append 0 [some (.ref 12), some (.int x1), some (.ref 22), none] [] _ _ _
  unfold f_Rl_append at h
  refine mj_aload_n (pc := 0) (i := 0) d_Rl_append_0 rfl rfl (by decide) ?_
  refine mj_getR (pc := 1) d_Rl_append_1 fl_Rl_9 sh_12 rfl rfl (by decide) (by decide) (by decide) ?_
  refine mj_iload_n (pc := 4) (i := 1) d_Rl_append_4 rfl rfl ?_
  obtain ⟨hg1, h⟩ := mj_gd h
  refine cj_iald (pc := 5) d_Rl_append_5 sh_13 (by decide) hg1 (by decide) ?_
  refine mj_istore_n (pc := 6) (i := 3) d_Rl_append_6 rfl rfl (by decide) ?_
  refine mj_iload_n (pc := 7) (i := 3) d_Rl_append_7 rfl rfl ?_
  refine mj_bipush (pc := 8) (v := 6) d_Rl_append_8 (by decide) ?_
  refine mj_icmp_lt (pc := 10) (tgt := 16) d_Rl_append_10 (by decide) mj_hs (fun hc2 => ?_) (fun hc2 => ?_)
  · rw [if_pos hc2] at h
    refine mj_aload_n (pc := 16) (i := 2) d_Rl_append_16 rfl rfl (by decide) ?_
    refine mj_iconst (pc := 17) (v := 0) d_Rl_append_17 (by decide) ?_
    refine mj_aload_n (pc := 18) (i := 0) d_Rl_append_18 rfl rfl (by decide) ?_
    refine mj_getR (pc := 19) d_Rl_append_19 fl_Rl_15 sh_12 rfl rfl (by decide) (by decide) (by decide) ?_
    refine mj_iload_n (pc := 22) (i := 1) d_Rl_append_22 rfl rfl ?_
    refine mj_iload_n (pc := 23) (i := 3) d_Rl_append_23 rfl rfl ?_
    obtain ⟨v3, hb4, h⟩ := bd1_some h
    refine mj_callS (pc := 24) (vs := [.int x1, .int (C0 13 x1.toNatClampNeg)]) (st := [.ref 14, .int 0, .ref 22]) d_Rl_append_24 bB_Rl_append_Rl_start lk_Rl_18 st_Rl_start rfl (Nat.le_of_ble_eq_true rfl) (Nat.le_of_ble_eq_true rfl) (r_Rl_start hb4) ?_
    show mj_R M_Rl_append 27 [some (.ref 12), some (.int x1), some (.ref 22), some (.int (C0 13 x1.toNatClampNeg))] [.int v3, .ref 14, .int 0, .ref 22] (SH, jn C0 D) (some (.int v)) (SH, jn (C') D)
    refine mj_bipush (pc := 27) (v := 9) d_Rl_append_27 (by decide) ?_
    obtain ⟨hg5, h⟩ := mj_gd h
    refine cj_copy (pc := 29) d_Rl_append_29 cp_Rl_23 sh_22 sh_14 (by decide) (by decide) hg5 (by decide) (Nat.le_of_ble_eq_true rfl) ?_
    show mj_R M_Rl_append 32 [some (.ref 12), some (.int x1), some (.ref 22), some (.int (C0 13 x1.toNatClampNeg))] [] (SH, jn (mj_cp C0 22 14 0 (v3.toNatClampNeg) 9) D) (some (.int v)) (SH, jn (C') D)
    refine mj_aload_n (pc := 32) (i := 0) d_Rl_append_32 rfl rfl (by decide) ?_
    refine mj_getR (pc := 33) d_Rl_append_33 fl_Rl_9 sh_12 rfl rfl (by decide) (by decide) (by decide) ?_
    refine mj_iload_n (pc := 36) (i := 1) d_Rl_append_36 rfl rfl ?_
    refine mj_dup2 (pc := 37) d_Rl_append_37 rfl rfl ?_
    refine cj_iald (pc := 38) d_Rl_append_38 sh_13 (by decide) hg1 (by decide) ?_
    refine mj_iconst (pc := 39) (v := 1) d_Rl_append_39 (by decide) ?_
    refine mj_iadd (pc := 40) d_Rl_append_40 ?_
    refine cj_iast (pc := 41) d_Rl_append_41 sh_13 (by decide) hg1 (by decide) ?_
    refine mj_iload_n (pc := 42) (i := 3) d_Rl_append_42 rfl rfl ?_
    obtain ⟨e_1, e_2⟩ := inj2 h
    subst e_1
    subst e_2
    exact mj_iret (pc := 43) d_Rl_append_43 rfl
  · rw [if_neg hc2] at h
    refine mj_ldc (pc := 13) (v := -1000000003) d_Rl_append_13 k_Rl_22 ?_
    obtain ⟨e_1, e_2⟩ := inj2 h
    subst e_1
    subst e_2
    exact mj_iret (pc := 15) d_Rl_append_15 rfl
set_option maxRecDepth 20000 in
theorem r_Mk_readRule {x1 : Int32} {C0 D : St} {v : Int32} {C' : St} (h : f_Mk_readRule x1 C0 = some (v, C')) : mj_R M_Mk_readRule 0 (mj_lv M_Mk_readRule.2.2.1 [.ref 0, .int x1]) [] (SH, jn C0 D) (some (.int v)) (SH, jn (C') D) := by
  show mj_R M_Mk_readRule 0 [some (.ref 0), some (.int x1)] [] _ _ _
  unfold f_Mk_readRule at h
  refine mj_aload_n (pc := 0) (i := 0) d_Mk_readRule_0 rfl rfl (by decide) ?_
  refine mj_getR (pc := 1) d_Mk_readRule_1 fl_Mk_12 sh_0 rfl rfl (by decide) (by decide) (by decide) ?_
  refine mj_iload_n (pc := 4) (i := 1) d_Mk_readRule_4 rfl rfl ?_
  obtain ⟨v1, hb2, h⟩ := bd1_some h
  refine mj_callV (pc := 5) (b := 1) (vs := [.int x1]) (st := []) d_Mk_readRule_5 bB_Mk_readRule_Tw_isThere lk_Mk_64 iv_Tw_isThere rc_1 rfl (Nat.le_of_ble_eq_true rfl) (Nat.le_of_ble_eq_true rfl) (r_Tw_isThere hb2) ?_
  show mj_R M_Mk_readRule 8 [some (.ref 0), some (.int x1)] [.int v1] (SH, jn C0 D) (some (.int v)) (SH, jn (C') D)
  refine mj_if_ne (y := 0) (pc := 8) (tgt := 14) d_Mk_readRule_8 (by decide) mj_hs (fun hc3 => ?_) (fun hc3 => ?_)
  · rw [if_neg hc3] at h
    refine mj_aload_n (pc := 14) (i := 0) d_Mk_readRule_14 rfl rfl (by decide) ?_
    refine mj_getR (pc := 15) d_Mk_readRule_15 fl_Mk_34 sh_0 rfl rfl (by decide) (by decide) (by decide) ?_
    refine mj_aload_n (pc := 18) (i := 0) d_Mk_readRule_18 rfl rfl (by decide) ?_
    refine mj_getR (pc := 19) d_Mk_readRule_19 fl_Mk_27 sh_0 rfl rfl (by decide) (by decide) (by decide) ?_
    refine mj_iload_n (pc := 22) (i := 1) d_Mk_readRule_22 rfl rfl ?_
    refine mj_aload_n (pc := 23) (i := 0) d_Mk_readRule_23 rfl rfl (by decide) ?_
    refine mj_getR (pc := 24) d_Mk_readRule_24 fl_Mk_12 sh_0 rfl rfl (by decide) (by decide) (by decide) ?_
    refine cj_getI (pc := 27) d_Mk_readRule_27 fl_Mk_55 sh_1 rfl (by decide) (by decide) (by decide) ?_
    obtain ⟨v4, C5, hb6, h⟩ := bd2_some h
    refine mj_callV (pc := 30) (b := 21) (vs := [.ref 19, .int x1, .int (C0 1 0)]) (st := []) d_Mk_readRule_30 bB_Mk_readRule_Rr_understands lk_Mk_116 iv_Rr_understands rc_21 rfl (Nat.le_of_ble_eq_true rfl) (Nat.le_of_ble_eq_true rfl) (r_Rr_understands hb6) ?_
    show mj_R M_Mk_readRule 33 [some (.ref 0), some (.int x1)] [.int v4] (SH, jn C5 D) (some (.int v)) (SH, jn (C') D)
    refine mj_if_ne (y := 0) (pc := 33) (tgt := 47) d_Mk_readRule_33 (by decide) mj_hs (fun hc7 => ?_) (fun hc7 => ?_)
    · rw [if_neg hc7] at h
      refine mj_aload_n (pc := 47) (i := 0) d_Mk_readRule_47 rfl rfl (by decide) ?_
      refine mj_getR (pc := 48) d_Mk_readRule_48 fl_Mk_12 sh_0 rfl rfl (by decide) (by decide) (by decide) ?_
      refine mj_getR (pc := 51) d_Mk_readRule_51 fl_Mk_123 sh_1 rfl rfl (by decide) (by decide) (by decide) ?_
      refine mj_iload_n (pc := 54) (i := 1) d_Mk_readRule_54 rfl rfl ?_
      refine mj_aload_n (pc := 55) (i := 0) d_Mk_readRule_55 rfl rfl (by decide) ?_
      refine mj_getR (pc := 56) d_Mk_readRule_56 fl_Mk_34 sh_0 rfl rfl (by decide) (by decide) (by decide) ?_
      refine mj_getR (pc := 59) d_Mk_readRule_59 fl_Mk_127 sh_21 rfl rfl (by decide) (by decide) (by decide) ?_
      obtain ⟨v8, C9, hb10, h⟩ := bd2_some h
      refine mj_callV (pc := 62) (b := 12) (vs := [.int x1, .ref 22]) (st := []) d_Mk_readRule_62 bB_Mk_readRule_Rl_append lk_Mk_131 iv_Rl_append rc_12 rfl (Nat.le_of_ble_eq_true rfl) (Nat.le_of_ble_eq_true rfl) (r_Rl_append hb10) ?_
      show mj_R M_Mk_readRule 65 [some (.ref 0), some (.int x1)] [.int v8] (SH, jn C9 D) (some (.int v)) (SH, jn (C') D)
      obtain ⟨e_1, e_2⟩ := inj2 h
      subst e_1
      subst e_2
      exact mj_iret (pc := 65) d_Mk_readRule_65 rfl
    · rw [if_pos hc7] at h
      refine mj_bipush (pc := 36) (v := -100) d_Mk_readRule_36 (by decide) ?_
      refine mj_aload_n (pc := 38) (i := 0) d_Mk_readRule_38 rfl rfl (by decide) ?_
      refine mj_getR (pc := 39) d_Mk_readRule_39 fl_Mk_34 sh_0 rfl rfl (by decide) (by decide) (by decide) ?_
      refine cj_getI (pc := 42) d_Mk_readRule_42 fl_Mk_120 sh_21 rfl (by decide) (by decide) (by decide) ?_
      refine mj_isub (pc := 45) d_Mk_readRule_45 ?_
      obtain ⟨e_1, e_2⟩ := inj2 h
      subst e_1
      subst e_2
      exact mj_iret (pc := 46) d_Mk_readRule_46 rfl
  · rw [if_pos hc3] at h
    refine mj_ldc (pc := 11) (v := -1000000001) d_Mk_readRule_11 k_Mk_54 ?_
    obtain ⟨e_1, e_2⟩ := inj2 h
    subst e_1
    subst e_2
    exact mj_iret (pc := 13) d_Mk_readRule_13 rfl
set_option maxRecDepth 20000 in
theorem r_Mk_rule {x1 : Int32} {C0 D : St} {v : Int32} {C' : St} (h : f_Mk_rule x1 C0 = some (v, C')) : mj_R M_Mk_rule 0 (mj_lv M_Mk_rule.2.2.1 [.ref 0, .int x1]) [] (SH, jn C0 D) (some (.int v)) (SH, jn (C') D) := by
  show mj_R M_Mk_rule 0 [some (.ref 0), some (.int x1), none] [] _ _ _
  unfold f_Mk_rule at h
  refine mj_aload_n (pc := 0) (i := 0) d_Mk_rule_0 rfl rfl (by decide) ?_
  refine mj_iload_n (pc := 1) (i := 1) d_Mk_rule_1 rfl rfl ?_
  obtain ⟨v1, C2, hb3, h⟩ := bd2_some h
  refine mj_callV (pc := 2) (b := 0) (vs := [.int x1]) (st := []) d_Mk_rule_2 bB_Mk_rule_Mk_readRule lk_Mk_112 iv_Mk_readRule rc_0 rfl (Nat.le_of_ble_eq_true rfl) (Nat.le_of_ble_eq_true rfl) (r_Mk_readRule hb3) ?_
  show mj_R M_Mk_rule 5 [some (.ref 0), some (.int x1), none] [.int v1] (SH, jn C2 D) (some (.int v)) (SH, jn (C') D)
  refine mj_istore_n (pc := 5) (i := 2) d_Mk_rule_5 rfl rfl (by decide) ?_
  refine mj_aload_n (pc := 6) (i := 0) d_Mk_rule_6 rfl rfl (by decide) ?_
  refine mj_getR (pc := 7) d_Mk_rule_7 fl_Mk_27 sh_0 rfl rfl (by decide) (by decide) (by decide) ?_
  refine mj_iconst (pc := 10) (v := 0) d_Mk_rule_10 (by decide) ?_
  refine cj_putI (pc := 11) d_Mk_rule_11 fl_Mk_109 sh_19 rfl (fun _ _ _ h => by cases h; rfl) (by decide) (by decide) (by decide) ?_
  refine mj_iload_n (pc := 14) (i := 2) d_Mk_rule_14 rfl rfl ?_
  obtain ⟨e_1, e_2⟩ := inj2 h
  subst e_1
  subst e_2
  exact mj_iret (pc := 15) d_Mk_rule_15 rfl
set_option maxRecDepth 20000 in
theorem r_Rl_dropLast {x1 : Int32} {C0 D : St} {v : Int32} {C' : St} (h : f_Rl_dropLast x1 C0 = some (v, C')) : mj_R M_Rl_dropLast 0 (mj_lv M_Rl_dropLast.2.2.1 [.ref 12, .int x1]) [] (SH, jn C0 D) (some (.int v)) (SH, jn (C') D) := by
  show mj_R M_Rl_dropLast 0 [some (.ref 12), some (.int x1)] [] _ _ _
  unfold f_Rl_dropLast at h
  refine mj_aload_n (pc := 0) (i := 0) d_Rl_dropLast_0 rfl rfl (by decide) ?_
  refine mj_getR (pc := 1) d_Rl_dropLast_1 fl_Rl_9 sh_12 rfl rfl (by decide) (by decide) (by decide) ?_
  refine mj_iload_n (pc := 4) (i := 1) d_Rl_dropLast_4 rfl rfl ?_
  obtain ⟨hg1, h⟩ := mj_gd h
  refine cj_iald (pc := 5) d_Rl_dropLast_5 sh_13 (by decide) hg1 (by decide) ?_
  refine mj_if_gt (y := 0) (pc := 6) (tgt := 12) d_Rl_dropLast_6 (by decide) mj_hs (fun hc2 => ?_) (fun hc2 => ?_)
  · rw [if_pos hc2] at h
    refine mj_aload_n (pc := 12) (i := 0) d_Rl_dropLast_12 rfl rfl (by decide) ?_
    refine mj_getR (pc := 13) d_Rl_dropLast_13 fl_Rl_9 sh_12 rfl rfl (by decide) (by decide) (by decide) ?_
    refine mj_iload_n (pc := 16) (i := 1) d_Rl_dropLast_16 rfl rfl ?_
    refine mj_dup2 (pc := 17) d_Rl_dropLast_17 rfl rfl ?_
    refine cj_iald (pc := 18) d_Rl_dropLast_18 sh_13 (by decide) hg1 (by decide) ?_
    refine mj_iconst (pc := 19) (v := 1) d_Rl_dropLast_19 (by decide) ?_
    refine mj_isub (pc := 20) d_Rl_dropLast_20 ?_
    refine cj_iast (pc := 21) d_Rl_dropLast_21 sh_13 (by decide) hg1 (by decide) ?_
    refine mj_aload_n (pc := 22) (i := 0) d_Rl_dropLast_22 rfl rfl (by decide) ?_
    refine mj_getR (pc := 23) d_Rl_dropLast_23 fl_Rl_9 sh_12 rfl rfl (by decide) (by decide) (by decide) ?_
    refine mj_iload_n (pc := 26) (i := 1) d_Rl_dropLast_26 rfl rfl ?_
    refine cj_iald (pc := 27) d_Rl_dropLast_27 sh_13 (by decide) hg1 (by decide) ?_
    obtain ⟨e_1, e_2⟩ := inj2 h
    subst e_1
    subst e_2
    exact mj_iret (pc := 28) d_Rl_dropLast_28 rfl
  · rw [if_neg hc2] at h
    refine mj_ldc (pc := 9) (v := -1000000002) d_Rl_dropLast_9 k_Rl_29 ?_
    obtain ⟨e_1, e_2⟩ := inj2 h
    subst e_1
    subst e_2
    exact mj_iret (pc := 11) d_Rl_dropLast_11 rfl
set_option maxRecDepth 20000 in
theorem r_Mk_unrule {x1 : Int32} {C0 D : St} {v : Int32} {C' : St} (h : f_Mk_unrule x1 C0 = some (v, C')) : mj_R M_Mk_unrule 0 (mj_lv M_Mk_unrule.2.2.1 [.ref 0, .int x1]) [] (SH, jn C0 D) (some (.int v)) (SH, jn (C') D) := by
  show mj_R M_Mk_unrule 0 [some (.ref 0), some (.int x1)] [] _ _ _
  unfold f_Mk_unrule at h
  refine mj_aload_n (pc := 0) (i := 0) d_Mk_unrule_0 rfl rfl (by decide) ?_
  refine mj_getR (pc := 1) d_Mk_unrule_1 fl_Mk_12 sh_0 rfl rfl (by decide) (by decide) (by decide) ?_
  refine mj_iload_n (pc := 4) (i := 1) d_Mk_unrule_4 rfl rfl ?_
  obtain ⟨v1, hb2, h⟩ := bd1_some h
  refine mj_callV (pc := 5) (b := 1) (vs := [.int x1]) (st := []) d_Mk_unrule_5 bB_Mk_unrule_Tw_isThere lk_Mk_64 iv_Tw_isThere rc_1 rfl (Nat.le_of_ble_eq_true rfl) (Nat.le_of_ble_eq_true rfl) (r_Tw_isThere hb2) ?_
  show mj_R M_Mk_unrule 8 [some (.ref 0), some (.int x1)] [.int v1] (SH, jn C0 D) (some (.int v)) (SH, jn (C') D)
  refine mj_if_ne (y := 0) (pc := 8) (tgt := 14) d_Mk_unrule_8 (by decide) mj_hs (fun hc3 => ?_) (fun hc3 => ?_)
  · rw [if_neg hc3] at h
    refine mj_aload_n (pc := 14) (i := 0) d_Mk_unrule_14 rfl rfl (by decide) ?_
    refine mj_getR (pc := 15) d_Mk_unrule_15 fl_Mk_12 sh_0 rfl rfl (by decide) (by decide) (by decide) ?_
    refine mj_getR (pc := 18) d_Mk_unrule_18 fl_Mk_123 sh_1 rfl rfl (by decide) (by decide) (by decide) ?_
    refine mj_iload_n (pc := 21) (i := 1) d_Mk_unrule_21 rfl rfl ?_
    obtain ⟨v4, C5, hb6, h⟩ := bd2_some h
    refine mj_callV (pc := 22) (b := 12) (vs := [.int x1]) (st := []) d_Mk_unrule_22 bB_Mk_unrule_Rl_dropLast lk_Mk_136 iv_Rl_dropLast rc_12 rfl (Nat.le_of_ble_eq_true rfl) (Nat.le_of_ble_eq_true rfl) (r_Rl_dropLast hb6) ?_
    show mj_R M_Mk_unrule 25 [some (.ref 0), some (.int x1)] [.int v4] (SH, jn C5 D) (some (.int v)) (SH, jn (C') D)
    obtain ⟨e_1, e_2⟩ := inj2 h
    subst e_1
    subst e_2
    exact mj_iret (pc := 25) d_Mk_unrule_25 rfl
  · rw [if_pos hc3] at h
    refine mj_ldc (pc := 11) (v := -1000000001) d_Mk_unrule_11 k_Mk_54 ?_
    obtain ⟨e_1, e_2⟩ := inj2 h
    subst e_1
    subst e_2
    exact mj_iret (pc := 13) d_Mk_unrule_13 rfl
set_option maxRecDepth 20000 in
theorem l_Dy_drawOrder_2 {r : Option Value} {D y : St} : ∀ (n : Nat) (y2 : Int32) (C : St) (Q_ : St), L_Dy_drawOrder_2 n y2 C = some Q_ → mj_R M_Dy_drawOrder 23 [some (.ref 23), some (.ref 1), none, none, none] [] (SH, jn Q_ D) r (SH, y) → mj_R M_Dy_drawOrder 2 [some (.ref 23), some (.ref 1), some (.int y2), none, none] [] (SH, jn C D) r (SH, y) := by
  intro n
  induction n with
  | zero => intro y2 C Q_ h; cases h
  | succ n ih =>
    intro y2 C Q_ h hX
    unfold L_Dy_drawOrder_2 at h
    refine mj_iload_n (pc := 2) (i := 2) d_Dy_drawOrder_2 rfl rfl ?_
    refine mj_aload_n (pc := 3) (i := 1) d_Dy_drawOrder_3 rfl rfl (by decide) ?_
    refine cj_getI (pc := 4) d_Dy_drawOrder_4 fl_Dy_29 sh_1 rfl (by decide) (by decide) (by decide) ?_
    refine mj_icmp_ge (pc := 7) (tgt := 23) d_Dy_drawOrder_7 (by decide) mj_hs (fun hc1 => ?_) (fun hc1 => ?_)
    · rw [if_pos hc1] at h
      obtain e_1 := inj1 h
      subst e_1
      exact mj_wk hX (And.intro rfl (And.intro rfl trivial))
    · rw [if_neg hc1] at h
      refine mj_aload_n (pc := 10) (i := 0) d_Dy_drawOrder_10 rfl rfl (by decide) ?_
      refine mj_getR (pc := 11) d_Dy_drawOrder_11 fl_Dy_9 sh_23 rfl rfl (by decide) (by decide) (by decide) ?_
      refine mj_iload_n (pc := 14) (i := 2) d_Dy_drawOrder_14 rfl rfl ?_
      refine mj_iload_n (pc := 15) (i := 2) d_Dy_drawOrder_15 rfl rfl ?_
      obtain ⟨hg2, h⟩ := mj_gd h
      refine cj_iast (pc := 16) d_Dy_drawOrder_16 sh_24 (by decide) hg2 (by decide) ?_
      refine mj_iinc (pc := 17) (i := 2) (v := y2 + 1) d_Dy_drawOrder_17 rfl (by rfl) rfl (by decide) ?_
      refine mj_goto (pc := 20) (tgt := 2) d_Dy_drawOrder_20 (by decide) ?_
      exact mj_weak [some (.ref 23), some (.ref 1), some (.int (y2 + 1)), none, none] (And.intro rfl (And.intro rfl (And.intro rfl trivial))) (ih _ _ _ h hX)
set_option maxRecDepth 20000 in
theorem l_Dy_drawOrder_30 {r : Option Value} {D y : St} : ∀ (n : Nat) (y2 : Int32) (C : St) (Q_ : St), L_Dy_drawOrder_30 n y2 C = some Q_ → mj_R M_Dy_drawOrder 103 [some (.ref 23), some (.ref 1), none, none, none] [] (SH, jn Q_ D) r (SH, y) → mj_R M_Dy_drawOrder 30 [some (.ref 23), some (.ref 1), some (.int y2), none, none] [] (SH, jn C D) r (SH, y) := by
  intro n
  induction n with
  | zero => intro y2 C Q_ h; cases h
  | succ n ih =>
    intro y2 C Q_ h hX
    unfold L_Dy_drawOrder_30 at h
    refine mj_iload_n (pc := 30) (i := 2) d_Dy_drawOrder_30 rfl rfl ?_
    refine mj_iconst (pc := 31) (v := 1) d_Dy_drawOrder_31 (by decide) ?_
    refine mj_icmp_lt (pc := 32) (tgt := 103) d_Dy_drawOrder_32 (by decide) mj_hs (fun hc5 => ?_) (fun hc5 => ?_)
    · rw [if_pos hc5] at h
      obtain e_1 := inj1 h
      subst e_1
      exact mj_wk hX (And.intro rfl (And.intro rfl trivial))
    · rw [if_neg hc5] at h
      refine mj_aload_n (pc := 35) (i := 1) d_Dy_drawOrder_35 rfl rfl (by decide) ?_
      refine mj_aload_n (pc := 36) (i := 1) d_Dy_drawOrder_36 rfl rfl (by decide) ?_
      refine cj_getI (pc := 37) d_Dy_drawOrder_37 fl_Dy_80 sh_1 rfl (by decide) (by decide) (by decide) ?_
      refine mj_i2l (pc := 40) d_Dy_drawOrder_40 ?_
      refine mj_ldc2 (pc := 41) (v := 1103515245) d_Dy_drawOrder_41 k_Dy_83 ?_
      refine mj_lmul (pc := 44) d_Dy_drawOrder_44 ?_
      refine mj_ldc2 (pc := 45) (v := 12345) d_Dy_drawOrder_45 k_Dy_85 ?_
      refine mj_ladd (pc := 48) d_Dy_drawOrder_48 ?_
      refine mj_ldc2 (pc := 49) (v := 2147483648) d_Dy_drawOrder_49 k_Dy_87 ?_
      refine mj_lrem (pc := 52) d_Dy_drawOrder_52 (by decide) ?_
      refine mj_l2i (pc := 53) d_Dy_drawOrder_53 ?_
      refine cj_putI (pc := 54) d_Dy_drawOrder_54 fl_Dy_80 sh_1 rfl (fun _ _ _ h => by cases h; rfl) (by decide) (by decide) (by decide) ?_
      refine mj_aload_n (pc := 57) (i := 1) d_Dy_drawOrder_57 rfl rfl (by decide) ?_
      refine cj_getI (pc := 58) d_Dy_drawOrder_58 fl_Dy_80 sh_1 rfl (by decide) (by decide) (by decide) ?_
      refine mj_ldc (pc := 61) (v := 65536) d_Dy_drawOrder_61 k_Dy_89 ?_
      refine mj_idiv (pc := 63) d_Dy_drawOrder_63 (by decide) ?_
      refine mj_iload_n (pc := 64) (i := 2) d_Dy_drawOrder_64 rfl rfl ?_
      refine mj_iconst (pc := 65) (v := 1) d_Dy_drawOrder_65 (by decide) ?_
      refine mj_iadd (pc := 66) d_Dy_drawOrder_66 ?_
      obtain ⟨hg6, h⟩ := mj_gz h
      refine mj_irem (pc := 67) d_Dy_drawOrder_67 hg6 ?_
      refine mj_istore_n (pc := 68) (i := 3) d_Dy_drawOrder_68 rfl rfl (by decide) ?_
      refine mj_aload_n (pc := 69) (i := 0) d_Dy_drawOrder_69 rfl rfl (by decide) ?_
      refine mj_getR (pc := 70) d_Dy_drawOrder_70 fl_Dy_9 sh_23 rfl rfl (by decide) (by decide) (by decide) ?_
      refine mj_iload_n (pc := 73) (i := 3) d_Dy_drawOrder_73 rfl rfl ?_
      obtain ⟨hg7, h⟩ := mj_gd h
      refine cj_iald (pc := 74) d_Dy_drawOrder_74 sh_24 (by decide) hg7 (by decide) ?_
      refine mj_istore (pc := 75) (i := 4) d_Dy_drawOrder_75 rfl (by decide) ?_
      refine mj_aload_n (pc := 77) (i := 0) d_Dy_drawOrder_77 rfl rfl (by decide) ?_
      refine mj_getR (pc := 78) d_Dy_drawOrder_78 fl_Dy_9 sh_23 rfl rfl (by decide) (by decide) (by decide) ?_
      refine mj_iload_n (pc := 81) (i := 3) d_Dy_drawOrder_81 rfl rfl ?_
      refine mj_aload_n (pc := 82) (i := 0) d_Dy_drawOrder_82 rfl rfl (by decide) ?_
      refine mj_getR (pc := 83) d_Dy_drawOrder_83 fl_Dy_9 sh_23 rfl rfl (by decide) (by decide) (by decide) ?_
      refine mj_iload_n (pc := 86) (i := 2) d_Dy_drawOrder_86 rfl rfl ?_
      obtain ⟨hg8, h⟩ := mj_gd h
      refine cj_iald (pc := 87) d_Dy_drawOrder_87 sh_24 (by decide) hg8 (by decide) ?_
      refine cj_iast (pc := 88) d_Dy_drawOrder_88 sh_24 (by decide) hg7 (by decide) ?_
      refine mj_aload_n (pc := 89) (i := 0) d_Dy_drawOrder_89 rfl rfl (by decide) ?_
      refine mj_getR (pc := 90) d_Dy_drawOrder_90 fl_Dy_9 sh_23 rfl rfl (by decide) (by decide) (by decide) ?_
      refine mj_iload_n (pc := 93) (i := 2) d_Dy_drawOrder_93 rfl rfl ?_
      refine mj_iload (pc := 94) (i := 4) d_Dy_drawOrder_94 rfl ?_
      refine cj_iast (pc := 96) d_Dy_drawOrder_96 sh_24 (by decide) hg8 (by decide) ?_
      refine mj_iinc (pc := 97) (i := 2) (v := y2 + (-1)) d_Dy_drawOrder_97 rfl (by rfl) rfl (by decide) ?_
      refine mj_goto (pc := 100) (tgt := 30) d_Dy_drawOrder_100 (by decide) ?_
      exact mj_weak [some (.ref 23), some (.ref 1), some (.int (y2 + (-1))), none, none] (And.intro rfl (And.intro rfl (And.intro rfl trivial))) (ih _ _ _ h hX)
set_option maxRecDepth 20000 in
theorem l_Dy_drawOrder_105 {r : Option Value} {D y : St} : ∀ (n : Nat) (y2 : Int32) (C : St) (Q_ : St), L_Dy_drawOrder_105 n y2 C = some Q_ → mj_R M_Dy_drawOrder 131 [none, none, none, none, none] [] (SH, jn Q_ D) r (SH, y) → mj_R M_Dy_drawOrder 105 [some (.ref 23), some (.ref 1), some (.int y2), none, none] [] (SH, jn C D) r (SH, y) := by
  intro n
  induction n with
  | zero => intro y2 C Q_ h; cases h
  | succ n ih =>
    intro y2 C Q_ h hX
    unfold L_Dy_drawOrder_105 at h
    refine mj_iload_n (pc := 105) (i := 2) d_Dy_drawOrder_105 rfl rfl ?_
    refine mj_aload_n (pc := 106) (i := 1) d_Dy_drawOrder_106 rfl rfl (by decide) ?_
    refine cj_getI (pc := 107) d_Dy_drawOrder_107 fl_Dy_29 sh_1 rfl (by decide) (by decide) (by decide) ?_
    refine mj_icmp_ge (pc := 110) (tgt := 131) d_Dy_drawOrder_110 (by decide) mj_hs (fun hc11 => ?_) (fun hc11 => ?_)
    · rw [if_pos hc11] at h
      obtain e_1 := inj1 h
      subst e_1
      exact mj_wk hX trivial
    · rw [if_neg hc11] at h
      refine mj_aload_n (pc := 113) (i := 1) d_Dy_drawOrder_113 rfl rfl (by decide) ?_
      refine mj_getR (pc := 114) d_Dy_drawOrder_114 fl_Dy_90 sh_1 rfl rfl (by decide) (by decide) (by decide) ?_
      refine mj_aload_n (pc := 117) (i := 0) d_Dy_drawOrder_117 rfl rfl (by decide) ?_
      refine mj_getR (pc := 118) d_Dy_drawOrder_118 fl_Dy_9 sh_23 rfl rfl (by decide) (by decide) (by decide) ?_
      refine mj_iload_n (pc := 121) (i := 2) d_Dy_drawOrder_121 rfl rfl ?_
      obtain ⟨hg12, h⟩ := mj_gd h
      refine cj_iald (pc := 122) d_Dy_drawOrder_122 sh_24 (by decide) hg12 (by decide) ?_
      refine mj_iload_n (pc := 123) (i := 2) d_Dy_drawOrder_123 rfl rfl ?_
      obtain ⟨hg13, h⟩ := mj_gd h
      refine cj_iast (pc := 124) d_Dy_drawOrder_124 sh_5 (by decide) hg13 (by decide) ?_
      refine mj_iinc (pc := 125) (i := 2) (v := y2 + 1) d_Dy_drawOrder_125 rfl (by rfl) rfl (by decide) ?_
      refine mj_goto (pc := 128) (tgt := 105) d_Dy_drawOrder_128 (by decide) ?_
      exact mj_weak [some (.ref 23), some (.ref 1), some (.int (y2 + 1)), none, none] (And.intro rfl (And.intro rfl (And.intro rfl trivial))) (ih _ _ _ h hX)
set_option maxRecDepth 20000 in
theorem r_Dy_drawOrder  {C0 D : St} {C' : St} (h : f_Dy_drawOrder C0 = some (C')) : mj_R M_Dy_drawOrder 0 (mj_lv M_Dy_drawOrder.2.2.1 [.ref 23, .ref 1]) [] (SH, jn C0 D) none (SH, jn (C') D) := by
  show mj_R M_Dy_drawOrder 0 [some (.ref 23), some (.ref 1), none, none, none] [] _ _ _
  unfold f_Dy_drawOrder at h
  refine mj_iconst (pc := 0) (v := 0) d_Dy_drawOrder_0 (by decide) ?_
  refine mj_istore_n (pc := 1) (i := 2) d_Dy_drawOrder_1 rfl rfl (by decide) ?_
  obtain ⟨C3, hl4, h⟩ := bd1_some h
  refine mj_weak [some (.ref 23), some (.ref 1), some (.int 0), none, none] (And.intro rfl (And.intro rfl (And.intro rfl trivial))) (l_Dy_drawOrder_2 3000 _ _ _ hl4 ?_)
  refine mj_aload_n (pc := 23) (i := 1) d_Dy_drawOrder_23 rfl rfl (by decide) ?_
  refine cj_getI (pc := 24) d_Dy_drawOrder_24 fl_Dy_29 sh_1 rfl (by decide) (by decide) (by decide) ?_
  refine mj_iconst (pc := 27) (v := 1) d_Dy_drawOrder_27 (by decide) ?_
  refine mj_isub (pc := 28) d_Dy_drawOrder_28 ?_
  refine mj_istore_n (pc := 29) (i := 2) d_Dy_drawOrder_29 rfl rfl (by decide) ?_
  obtain ⟨C9, hl10, h⟩ := bd1_some h
  refine mj_weak [some (.ref 23), some (.ref 1), some (.int ((C3 1 0) - 1)), none, none] (And.intro rfl (And.intro rfl (And.intro rfl trivial))) (l_Dy_drawOrder_30 3000 _ _ _ hl10 ?_)
  refine mj_iconst (pc := 103) (v := 0) d_Dy_drawOrder_103 (by decide) ?_
  refine mj_istore_n (pc := 104) (i := 2) d_Dy_drawOrder_104 rfl rfl (by decide) ?_
  obtain ⟨C14, hl15, h⟩ := bd1_some h
  refine mj_weak [some (.ref 23), some (.ref 1), some (.int 0), none, none] (And.intro rfl (And.intro rfl (And.intro rfl trivial))) (l_Dy_drawOrder_105 3000 _ _ _ hl15 ?_)
  obtain e_1 := inj1 h
  subst e_1
  exact mj_vret (pc := 131) d_Dy_drawOrder_131 rfl
set_option maxRecDepth 20000 in
theorem r_Of_clear  {C0 D : St} {C' : St} (h : f_Of_clear C0 = some (C')) : mj_R M_Of_clear 0 (mj_lv M_Of_clear.2.2.1 [.ref 26]) [] (SH, jn C0 D) none (SH, jn (C') D) := by
  show mj_R M_Of_clear 0 [some (.ref 26)] [] _ _ _
  unfold f_Of_clear at h
  refine mj_aload_n (pc := 0) (i := 0) d_Of_clear_0 rfl rfl (by decide) ?_
  refine mj_iconst (pc := 1) (v := 0) d_Of_clear_1 (by decide) ?_
  refine cj_putI (pc := 2) d_Of_clear_2 fl_Of_27 sh_26 rfl (fun _ _ _ h => by cases h; rfl) (by decide) (by decide) (by decide) ?_
  refine mj_aload_n (pc := 5) (i := 0) d_Of_clear_5 rfl rfl (by decide) ?_
  refine mj_iconst (pc := 6) (v := 0) d_Of_clear_6 (by decide) ?_
  refine cj_putI (pc := 7) d_Of_clear_7 fl_Of_31 sh_26 rfl (fun _ _ _ h => by cases h; rfl) (by decide) (by decide) (by decide) ?_
  obtain e_1 := inj1 h
  subst e_1
  exact mj_vret (pc := 10) d_Of_clear_10 rfl
set_option maxRecDepth 20000 in
theorem r_Of_clear_1  {C0 D : St} {C' : St} (h : f_Of_clear_1 C0 = some (C')) : mj_R M_Of_clear 0 (mj_lv M_Of_clear.2.2.1 [.ref 32]) [] (SH, jn C0 D) none (SH, jn (C') D) := by
  show mj_R M_Of_clear 0 [some (.ref 32)] [] _ _ _
  unfold f_Of_clear_1 at h
  refine mj_aload_n (pc := 0) (i := 0) d_Of_clear_0 rfl rfl (by decide) ?_
  refine mj_iconst (pc := 1) (v := 0) d_Of_clear_1 (by decide) ?_
  refine cj_putI (pc := 2) d_Of_clear_2 fl_Of_27 sh_32 rfl (fun _ _ _ h => by cases h; rfl) (by decide) (by decide) (by decide) ?_
  refine mj_aload_n (pc := 5) (i := 0) d_Of_clear_5 rfl rfl (by decide) ?_
  refine mj_iconst (pc := 6) (v := 0) d_Of_clear_6 (by decide) ?_
  refine cj_putI (pc := 7) d_Of_clear_7 fl_Of_31 sh_32 rfl (fun _ _ _ h => by cases h; rfl) (by decide) (by decide) (by decide) ?_
  obtain e_1 := inj1 h
  subst e_1
  exact mj_vret (pc := 10) d_Of_clear_10 rfl
set_option maxRecDepth 20000 in
theorem l_Mt_clear_16 {r : Option Value} {D y : St} : ∀ (n : Nat) (y1 : Int32) (C : St) (Q_ : St), L_Mt_clear_16 n y1 C = some Q_ → mj_R M_Mt_clear 38 [some (.ref 25), none] [] (SH, jn Q_ D) r (SH, y) → mj_R M_Mt_clear 16 [some (.ref 25), some (.int y1)] [] (SH, jn C D) r (SH, y) := by
  intro n
  induction n with
  | zero => intro y1 C Q_ h; cases h
  | succ n ih =>
    intro y1 C Q_ h hX
    unfold L_Mt_clear_16 at h
    refine mj_iload_n (pc := 16) (i := 1) d_Mt_clear_16 rfl rfl ?_
    refine mj_aload_n (pc := 17) (i := 0) d_Mt_clear_17 rfl rfl (by decide) ?_
    refine mj_getR (pc := 18) d_Mt_clear_18 fl_Mt_21 sh_25 rfl rfl (by decide) (by decide) (by decide) ?_
    refine mj_alen (pc := 21) (v := 60) d_Mt_clear_21 sh_38 (by decide) (by decide) ?_
    refine mj_icmp_ge (pc := 22) (tgt := 38) d_Mt_clear_22 (by decide) mj_hs (fun hc5 => ?_) (fun hc5 => ?_)
    · rw [if_pos hc5] at h
      obtain e_1 := inj1 h
      subst e_1
      exact mj_wk hX (And.intro rfl trivial)
    · rw [if_neg hc5] at h
      refine mj_aload_n (pc := 25) (i := 0) d_Mt_clear_25 rfl rfl (by decide) ?_
      refine mj_getR (pc := 26) d_Mt_clear_26 fl_Mt_21 sh_25 rfl rfl (by decide) (by decide) (by decide) ?_
      refine mj_iload_n (pc := 29) (i := 1) d_Mt_clear_29 rfl rfl ?_
      refine mj_iconst (pc := 30) (v := 0) d_Mt_clear_30 (by decide) ?_
      obtain ⟨hg6, h⟩ := mj_gd h
      refine cj_iast (pc := 31) d_Mt_clear_31 sh_38 (by decide) hg6 (by decide) ?_
      refine mj_iinc (pc := 32) (i := 1) (v := y1 + 1) d_Mt_clear_32 rfl (by rfl) rfl (by decide) ?_
      refine mj_goto (pc := 35) (tgt := 16) d_Mt_clear_35 (by decide) ?_
      exact mj_weak [some (.ref 25), some (.int (y1 + 1))] (And.intro rfl (And.intro rfl trivial)) (ih _ _ _ h hX)
set_option maxRecDepth 20000 in
theorem l_Mt_clear_40 {r : Option Value} {D y : St} : ∀ (n : Nat) (y1 : Int32) (C : St) (Q_ : St), L_Mt_clear_40 n y1 C = some Q_ → mj_R M_Mt_clear 62 [none, none] [] (SH, jn Q_ D) r (SH, y) → mj_R M_Mt_clear 40 [some (.ref 25), some (.int y1)] [] (SH, jn C D) r (SH, y) := by
  intro n
  induction n with
  | zero => intro y1 C Q_ h; cases h
  | succ n ih =>
    intro y1 C Q_ h hX
    unfold L_Mt_clear_40 at h
    refine mj_iload_n (pc := 40) (i := 1) d_Mt_clear_40 rfl rfl ?_
    refine mj_aload_n (pc := 41) (i := 0) d_Mt_clear_41 rfl rfl (by decide) ?_
    refine mj_getR (pc := 42) d_Mt_clear_42 fl_Mt_25 sh_25 rfl rfl (by decide) (by decide) (by decide) ?_
    refine mj_alen (pc := 45) (v := 12) d_Mt_clear_45 sh_39 (by decide) (by decide) ?_
    refine mj_icmp_ge (pc := 46) (tgt := 62) d_Mt_clear_46 (by decide) mj_hs (fun hc9 => ?_) (fun hc9 => ?_)
    · rw [if_pos hc9] at h
      obtain e_1 := inj1 h
      subst e_1
      exact mj_wk hX trivial
    · rw [if_neg hc9] at h
      refine mj_aload_n (pc := 49) (i := 0) d_Mt_clear_49 rfl rfl (by decide) ?_
      refine mj_getR (pc := 50) d_Mt_clear_50 fl_Mt_25 sh_25 rfl rfl (by decide) (by decide) (by decide) ?_
      refine mj_iload_n (pc := 53) (i := 1) d_Mt_clear_53 rfl rfl ?_
      refine mj_iconst (pc := 54) (v := 0) d_Mt_clear_54 (by decide) ?_
      obtain ⟨hg10, h⟩ := mj_gd h
      refine cj_iast (pc := 55) d_Mt_clear_55 sh_39 (by decide) hg10 (by decide) ?_
      refine mj_iinc (pc := 56) (i := 1) (v := y1 + 1) d_Mt_clear_56 rfl (by rfl) rfl (by decide) ?_
      refine mj_goto (pc := 59) (tgt := 40) d_Mt_clear_59 (by decide) ?_
      exact mj_weak [some (.ref 25), some (.int (y1 + 1))] (And.intro rfl (And.intro rfl trivial)) (ih _ _ _ h hX)
set_option maxRecDepth 20000 in
theorem r_Mt_clear  {C0 D : St} {C' : St} (h : f_Mt_clear C0 = some (C')) : mj_R M_Mt_clear 0 (mj_lv M_Mt_clear.2.2.1 [.ref 25]) [] (SH, jn C0 D) none (SH, jn (C') D) := by
  show mj_R M_Mt_clear 0 [some (.ref 25), none] [] _ _ _
  unfold f_Mt_clear at h
  refine mj_aload_n (pc := 0) (i := 0) d_Mt_clear_0 rfl rfl (by decide) ?_
  refine mj_getR (pc := 1) d_Mt_clear_1 fl_Mt_12 sh_25 rfl rfl (by decide) (by decide) (by decide) ?_
  obtain ⟨C1, hb2, h⟩ := bd1_some h
  refine mj_callV (pc := 4) (b := 26) (vs := []) (st := []) d_Mt_clear_4 bB_Mt_clear_Of_clear lk_Mt_28 iv_Of_clear rc_26 rfl (Nat.le_of_ble_eq_true rfl) (Nat.le_of_ble_eq_true rfl) (r_Of_clear hb2) ?_
  show mj_R M_Mt_clear 7 [some (.ref 25), none] [] (SH, jn C1 D) none (SH, jn (C') D)
  refine mj_aload_n (pc := 7) (i := 0) d_Mt_clear_7 rfl rfl (by decide) ?_
  refine mj_getR (pc := 8) d_Mt_clear_8 fl_Mt_18 sh_25 rfl rfl (by decide) (by decide) (by decide) ?_
  obtain ⟨C3, hb4, h⟩ := bd1_some h
  refine mj_callV (pc := 11) (b := 32) (vs := []) (st := []) d_Mt_clear_11 bB_Mt_clear_Of_clear lk_Mt_28 iv_Of_clear rc_32 rfl (Nat.le_of_ble_eq_true rfl) (Nat.le_of_ble_eq_true rfl) (r_Of_clear_1 hb4) ?_
  show mj_R M_Mt_clear 14 [some (.ref 25), none] [] (SH, jn C3 D) none (SH, jn (C') D)
  refine mj_iconst (pc := 14) (v := 0) d_Mt_clear_14 (by decide) ?_
  refine mj_istore_n (pc := 15) (i := 1) d_Mt_clear_15 rfl rfl (by decide) ?_
  obtain ⟨C7, hl8, h⟩ := bd1_some h
  refine mj_weak [some (.ref 25), some (.int 0)] (And.intro rfl (And.intro rfl trivial)) (l_Mt_clear_16 3000 _ _ _ hl8 ?_)
  refine mj_iconst (pc := 38) (v := 0) d_Mt_clear_38 (by decide) ?_
  refine mj_istore_n (pc := 39) (i := 1) d_Mt_clear_39 rfl rfl (by decide) ?_
  obtain ⟨C11, hl12, h⟩ := bd1_some h
  refine mj_weak [some (.ref 25), some (.int 0)] (And.intro rfl (And.intro rfl trivial)) (l_Mt_clear_40 3000 _ _ _ hl12 ?_)
  obtain e_1 := inj1 h
  subst e_1
  exact mj_vret (pc := 62) d_Mt_clear_62 rfl
set_option maxRecDepth 20000 in
theorem r_Rl_get {x1 : Int32} {x2 : Int32} {x3 : Int32} {C0 D : St} {v : Int32} (h : f_Rl_get x1 x2 x3 C0 = some v) : mj_R M_Rl_get 0 (mj_lv M_Rl_get.2.2.1 [.ref 12, .int x1, .int x2, .int x3]) [] (SH, jn C0 D) (some (.int v)) (SH, jn C0 D) := by
  show mj_R M_Rl_get 0 [some (.ref 12), some (.int x1), some (.int x2), some (.int x3)] [] _ _ _
  unfold f_Rl_get at h
  refine mj_aload_n (pc := 0) (i := 0) d_Rl_get_0 rfl rfl (by decide) ?_
  refine mj_getR (pc := 1) d_Rl_get_1 fl_Rl_15 sh_12 rfl rfl (by decide) (by decide) (by decide) ?_
  refine mj_iload_n (pc := 4) (i := 1) d_Rl_get_4 rfl rfl ?_
  refine mj_iload_n (pc := 5) (i := 2) d_Rl_get_5 rfl rfl ?_
  obtain ⟨v1, hb2, h⟩ := bd1_some h
  refine mj_callS (pc := 6) (vs := [.int x1, .int x2]) (st := [.ref 14]) d_Rl_get_6 bB_Rl_get_Rl_start lk_Rl_18 st_Rl_start rfl (Nat.le_of_ble_eq_true rfl) (Nat.le_of_ble_eq_true rfl) (r_Rl_start hb2) ?_
  show mj_R M_Rl_get 9 [some (.ref 12), some (.int x1), some (.int x2), some (.int x3)] [.int v1, .ref 14] (SH, jn C0 D) (some (.int v)) (SH, jn C0 D)
  refine mj_iload_n (pc := 9) (i := 3) d_Rl_get_9 rfl rfl ?_
  refine mj_iadd (pc := 10) d_Rl_get_10 ?_
  obtain ⟨hg3, h⟩ := mj_gd h
  refine cj_iald (pc := 11) d_Rl_get_11 sh_14 (by decide) hg3 (by decide) ?_
  obtain e_1 := inj1 h
  subst e_1
  exact mj_iret (pc := 12) d_Rl_get_12 rfl
set_option maxRecDepth 20000 in
theorem r_Tw_belongs {x1 : Int32} {x2 : Int32} {C0 D : St} {v : Int32} (h : f_Tw_belongs x1 x2 C0 = some v) : mj_R M_Tw_belongs 0 (mj_lv M_Tw_belongs.2.2.1 [.ref 1, .int x1, .int x2]) [] (SH, jn C0 D) (some (.int v)) (SH, jn C0 D) := by
  show mj_R M_Tw_belongs 0 [some (.ref 1), some (.int x1), some (.int x2), none] [] _ _ _
  unfold f_Tw_belongs at h
  refine mj_aload_n (pc := 0) (i := 0) d_Tw_belongs_0 rfl rfl (by decide) ?_
  refine mj_getR (pc := 1) d_Tw_belongs_1 fl_Tw_15 sh_1 rfl rfl (by decide) (by decide) (by decide) ?_
  refine mj_iload_n (pc := 4) (i := 1) d_Tw_belongs_4 rfl rfl ?_
  obtain ⟨hg1, h⟩ := mj_gd h
  refine cj_iald (pc := 5) d_Tw_belongs_5 sh_2 (by decide) hg1 (by decide) ?_
  refine mj_istore_n (pc := 6) (i := 3) d_Tw_belongs_6 rfl rfl (by decide) ?_
  refine mj_iload_n (pc := 7) (i := 2) d_Tw_belongs_7 rfl rfl ?_
  have k6 : mj_R M_Tw_belongs 31 [none, none, none, none] [.int (if x2 = 0 then 1 else (if (C0 2 x1.toNatClampNeg) = x2 then 1 else (if x2 = 2 then (if (C0 2 x1.toNatClampNeg) = 3 then 1 else 0 : Int32) else 0 : Int32) : Int32) : Int32)] (SH, jn C0 D) (some (.int v)) (SH, jn C0 D) := by
    obtain e_1 := inj1 h
    subst e_1
    exact mj_zret (pc := 31) (ty := .boolean) d_Tw_belongs_31 rfl (mj_b01 (by (repeat' split) <;> simp))
  refine mj_if_eq (y := 0) (pc := 8) (tgt := 26) d_Tw_belongs_8 (by decide) mj_hs (fun hc2 => ?_) (fun hc2 => ?_)
  · refine mj_iconst (pc := 26) (v := 1) d_Tw_belongs_26 (by decide) ?_
    refine mj_goto (pc := 27) (tgt := 31) d_Tw_belongs_27 (by decide) ?_
    try simp only [if_pos hc2] at k6
    exact mj_wk k6 trivial
  · refine mj_iload_n (pc := 11) (i := 3) d_Tw_belongs_11 rfl rfl ?_
    refine mj_iload_n (pc := 12) (i := 2) d_Tw_belongs_12 rfl rfl ?_
    refine mj_icmp_eq (pc := 13) (tgt := 26) d_Tw_belongs_13 (by decide) mj_hs (fun hc3 => ?_) (fun hc3 => ?_)
    · refine mj_iconst (pc := 26) (v := 1) d_Tw_belongs_26 (by decide) ?_
      refine mj_goto (pc := 27) (tgt := 31) d_Tw_belongs_27 (by decide) ?_
      try simp only [if_neg hc2, if_pos hc3] at k6
      exact mj_wk k6 trivial
    · refine mj_iload_n (pc := 16) (i := 2) d_Tw_belongs_16 rfl rfl ?_
      refine mj_iconst (pc := 17) (v := 2) d_Tw_belongs_17 (by decide) ?_
      refine mj_icmp_ne (pc := 18) (tgt := 30) d_Tw_belongs_18 (by decide) mj_hs (fun hc4 => ?_) (fun hc4 => ?_)
      · refine mj_iconst (pc := 30) (v := 0) d_Tw_belongs_30 (by decide) ?_
        try simp only [if_neg hc2, if_neg hc3, if_neg hc4] at k6
        exact mj_wk k6 trivial
      · refine mj_iload_n (pc := 21) (i := 3) d_Tw_belongs_21 rfl rfl ?_
        refine mj_iconst (pc := 22) (v := 3) d_Tw_belongs_22 (by decide) ?_
        refine mj_icmp_ne (pc := 23) (tgt := 30) d_Tw_belongs_23 (by decide) mj_hs (fun hc5 => ?_) (fun hc5 => ?_)
        · refine mj_iconst (pc := 30) (v := 0) d_Tw_belongs_30 (by decide) ?_
          try simp only [if_neg hc2, if_neg hc3, if_pos hc4, if_neg hc5] at k6
          exact mj_wk k6 trivial
        · refine mj_iconst (pc := 26) (v := 1) d_Tw_belongs_26 (by decide) ?_
          refine mj_goto (pc := 27) (tgt := 31) d_Tw_belongs_27 (by decide) ?_
          try simp only [if_neg hc2, if_neg hc3, if_pos hc4, if_pos hc5] at k6
          exact mj_wk k6 trivial
set_option maxRecDepth 20000 in
theorem r_Dy_mayAct {x1 : Int32} {x2 : Int32} {C0 D : St} {v : Int32} (h : f_Dy_mayAct x1 x2 C0 = some v) : mj_R M_Dy_mayAct 0 (mj_lv M_Dy_mayAct.2.2.1 [.ref 1, .int x1, .int x2]) [] (SH, jn C0 D) (some (.int v)) (SH, jn C0 D) := by
  show mj_R M_Dy_mayAct 0 [some (.ref 1), some (.int x1), some (.int x2)] [] _ _ _
  unfold f_Dy_mayAct at h
  refine mj_iload_n (pc := 0) (i := 2) d_Dy_mayAct_0 rfl rfl ?_
  by_cases hc1 : x2 = 0
  · rw [if_pos hc1] at h
    refine mj_lkEq (pc := 1) (tgt := 36) 0 d_Dy_mayAct_1 hc1 (by decide) (by rfl) (by decide) ?_
    refine mj_aload_n (pc := 36) (i := 0) d_Dy_mayAct_36 rfl rfl (by decide) ?_
    refine mj_iload_n (pc := 37) (i := 1) d_Dy_mayAct_37 rfl rfl ?_
    refine mj_iconst (pc := 38) (v := 2) d_Dy_mayAct_38 (by decide) ?_
    obtain ⟨v4, hb5, h⟩ := bd1_some h
    refine mj_callV (pc := 39) (b := 1) (vs := [.int x1, .int 2]) (st := []) d_Dy_mayAct_39 bB_Dy_mayAct_Tw_belongs lk_Dy_123 iv_Tw_belongs rc_1 rfl (Nat.le_of_ble_eq_true rfl) (Nat.le_of_ble_eq_true rfl) (r_Tw_belongs hb5) ?_
    show mj_R M_Dy_mayAct 42 [some (.ref 1), some (.int x1), some (.int x2)] [.int v4] (SH, jn C0 D) (some (.int v)) (SH, jn C0 D)
    obtain ⟨hg6, h⟩ := mj_gd h
    obtain e_1 := inj1 h
    subst e_1
    exact mj_zret (pc := 42) (ty := .boolean) d_Dy_mayAct_42 rfl (mj_b01 hg6)
  · rw [if_neg hc1] at h
    by_cases hc2 : x2 = 1
    · rw [if_pos hc2] at h
      refine mj_lkEq (pc := 1) (tgt := 43) 1 d_Dy_mayAct_1 hc2 (by decide) (by rfl) (by decide) ?_
      refine mj_aload_n (pc := 43) (i := 0) d_Dy_mayAct_43 rfl rfl (by decide) ?_
      refine mj_iload_n (pc := 44) (i := 1) d_Dy_mayAct_44 rfl rfl ?_
      refine mj_iconst (pc := 45) (v := 1) d_Dy_mayAct_45 (by decide) ?_
      obtain ⟨v7, hb8, h⟩ := bd1_some h
      refine mj_callV (pc := 46) (b := 1) (vs := [.int x1, .int 1]) (st := []) d_Dy_mayAct_46 bB_Dy_mayAct_Tw_belongs lk_Dy_123 iv_Tw_belongs rc_1 rfl (Nat.le_of_ble_eq_true rfl) (Nat.le_of_ble_eq_true rfl) (r_Tw_belongs hb8) ?_
      show mj_R M_Dy_mayAct 49 [some (.ref 1), some (.int x1), some (.int x2)] [.int v7] (SH, jn C0 D) (some (.int v)) (SH, jn C0 D)
      obtain ⟨hg9, h⟩ := mj_gd h
      obtain e_1 := inj1 h
      subst e_1
      exact mj_zret (pc := 49) (ty := .boolean) d_Dy_mayAct_49 rfl (mj_b01 hg9)
    · rw [if_neg hc2] at h
      by_cases hc3 : x2 = 5
      · rw [if_pos hc3] at h
        refine mj_lkEq (pc := 1) (tgt := 50) 5 d_Dy_mayAct_1 hc3 (by decide) (by rfl) (by decide) ?_
        refine mj_aload_n (pc := 50) (i := 0) d_Dy_mayAct_50 rfl rfl (by decide) ?_
        refine mj_iload_n (pc := 51) (i := 1) d_Dy_mayAct_51 rfl rfl ?_
        refine mj_iconst (pc := 52) (v := 4) d_Dy_mayAct_52 (by decide) ?_
        obtain ⟨v10, hb11, h⟩ := bd1_some h
        refine mj_callV (pc := 53) (b := 1) (vs := [.int x1, .int 4]) (st := []) d_Dy_mayAct_53 bB_Dy_mayAct_Tw_belongs lk_Dy_123 iv_Tw_belongs rc_1 rfl (Nat.le_of_ble_eq_true rfl) (Nat.le_of_ble_eq_true rfl) (r_Tw_belongs hb11) ?_
        show mj_R M_Dy_mayAct 56 [some (.ref 1), some (.int x1), some (.int x2)] [.int v10] (SH, jn C0 D) (some (.int v)) (SH, jn C0 D)
        obtain ⟨w16, hb18, h⟩ := bd1_some h
        have k17 : mj_R M_Dy_mayAct 73 [none, none, none] [.int w16] (SH, jn C0 D) (some (.int v)) (SH, jn C0 D) := by
          obtain ⟨hg19, h⟩ := mj_gd h
          obtain e_1 := inj1 h
          subst e_1
          exact mj_zret (pc := 73) (ty := .boolean) d_Dy_mayAct_73 rfl (mj_b01 hg19)
        have h := hb18
        refine mj_if_ne (y := 0) (pc := 56) (tgt := 68) d_Dy_mayAct_56 (by decide) mj_hs (fun hc12 => ?_) (fun hc12 => ?_)
        · rw [if_neg hc12] at h
          refine mj_iconst (pc := 68) (v := 1) d_Dy_mayAct_68 (by decide) ?_
          refine mj_goto (pc := 69) (tgt := 73) d_Dy_mayAct_69 (by decide) ?_
          obtain e_1 := inj1 h
          subst e_1
          exact mj_wk k17 trivial
        · rw [if_pos hc12] at h
          refine mj_aload_n (pc := 59) (i := 0) d_Dy_mayAct_59 rfl rfl (by decide) ?_
          refine mj_iload_n (pc := 60) (i := 1) d_Dy_mayAct_60 rfl rfl ?_
          refine mj_iconst (pc := 61) (v := 5) d_Dy_mayAct_61 (by decide) ?_
          obtain ⟨v13, hb14, h⟩ := bd1_some h
          refine mj_callV (pc := 62) (b := 1) (vs := [.int x1, .int 5]) (st := []) d_Dy_mayAct_62 bB_Dy_mayAct_Tw_belongs lk_Dy_123 iv_Tw_belongs rc_1 rfl (Nat.le_of_ble_eq_true rfl) (Nat.le_of_ble_eq_true rfl) (r_Tw_belongs hb14) ?_
          show mj_R M_Dy_mayAct 65 [some (.ref 1), some (.int x1), some (.int x2)] [.int v13] (SH, jn C0 D) (some (.int v)) (SH, jn C0 D)
          refine mj_if_eq (y := 0) (pc := 65) (tgt := 72) d_Dy_mayAct_65 (by decide) mj_hs (fun hc15 => ?_) (fun hc15 => ?_)
          · rw [if_pos hc15] at h
            refine mj_iconst (pc := 72) (v := 0) d_Dy_mayAct_72 (by decide) ?_
            obtain e_1 := inj1 h
            subst e_1
            exact mj_wk k17 trivial
          · rw [if_neg hc15] at h
            refine mj_iconst (pc := 68) (v := 1) d_Dy_mayAct_68 (by decide) ?_
            refine mj_goto (pc := 69) (tgt := 73) d_Dy_mayAct_69 (by decide) ?_
            obtain e_1 := inj1 h
            subst e_1
            exact mj_wk k17 trivial
      · rw [if_neg hc3] at h
        refine mj_lookup (pc := 1) (tgt := 74) d_Dy_mayAct_1 (by decide) (by have q0 := i32_ne (n := 0) (by decide) hc1; have q1 := i32_ne (n := 1) (by decide) hc2; have q2 := i32_ne (n := 5) (by decide) hc3; simp [Op.lookupswitch.offset, Ne.symm q0, Ne.symm q1, Ne.symm q2]; rfl) (by decide) ?_
        refine mj_iconst (pc := 74) (v := 1) d_Dy_mayAct_74 (by decide) ?_
        obtain e_1 := inj1 h
        subst e_1
        exact mj_zret (pc := 75) (ty := .boolean) d_Dy_mayAct_75 rfl (mj_b01 (by decide))
set_option maxRecDepth 20000 in
theorem r_Wr_get {x1 : Int32} {x2 : Int32} {C0 D : St} {v : Int32} (h : f_Wr_get x1 x2 C0 = some v) : mj_R M_Wr_get 0 (mj_lv M_Wr_get.2.2.1 [.ref 10, .int x1, .int x2]) [] (SH, jn C0 D) (some (.int v)) (SH, jn C0 D) := by
  show mj_R M_Wr_get 0 [some (.ref 10), some (.int x1), some (.int x2)] [] _ _ _
  unfold f_Wr_get at h
  refine mj_aload_n (pc := 0) (i := 0) d_Wr_get_0 rfl rfl (by decide) ?_
  refine mj_getR (pc := 1) d_Wr_get_1 fl_Wr_11 sh_10 rfl rfl (by decide) (by decide) (by decide) ?_
  refine mj_iload_n (pc := 4) (i := 1) d_Wr_get_4 rfl rfl ?_
  refine mj_bipush (pc := 5) (v := 11) d_Wr_get_5 (by decide) ?_
  refine mj_imul (pc := 7) d_Wr_get_7 ?_
  refine mj_iload_n (pc := 8) (i := 2) d_Wr_get_8 rfl rfl ?_
  refine mj_iadd (pc := 9) d_Wr_get_9 ?_
  obtain ⟨hg1, h⟩ := mj_gd h
  refine cj_iald (pc := 10) d_Wr_get_10 sh_11 (by decide) hg1 (by decide) ?_
  obtain e_1 := inj1 h
  subst e_1
  exact mj_iret (pc := 11) d_Wr_get_11 rfl
set_option maxRecDepth 20000 in
theorem r_Dy_subjectOf {x1 : Int32} {x2 : Int32} {x3 : Int32} {C0 D : St} {v : Int32} (h : f_Dy_subjectOf x1 x2 x3 C0 = some v) : mj_R M_Dy_subjectOf 0 (mj_lv M_Dy_subjectOf.2.2.1 [.ref 1, .int x1, .int x2, .int x3]) [] (SH, jn C0 D) (some (.int v)) (SH, jn C0 D) := by
  show mj_R M_Dy_subjectOf 0 [some (.ref 1), some (.int x1), some (.int x2), some (.int x3)] [] _ _ _
  unfold f_Dy_subjectOf at h
  refine mj_iload_n (pc := 0) (i := 2) d_Dy_subjectOf_0 rfl rfl ?_
  by_cases hc1 : x2 = 0
  · rw [if_pos hc1] at h
    refine mj_tsEq (pc := 1) (tgt := 28) 0 d_Dy_subjectOf_1 hc1 (by decide) (by decide) (by rfl) (by decide) ?_
    refine mj_aload_n (pc := 28) (i := 0) d_Dy_subjectOf_28 rfl rfl (by decide) ?_
    refine mj_getR (pc := 29) d_Dy_subjectOf_29 fl_Dy_132 sh_1 rfl rfl (by decide) (by decide) (by decide) ?_
    refine mj_iload_n (pc := 32) (i := 1) d_Dy_subjectOf_32 rfl rfl ?_
    obtain ⟨hg4, h⟩ := mj_gd h
    refine cj_iald (pc := 33) d_Dy_subjectOf_33 sh_3 (by decide) hg4 (by decide) ?_
    obtain e_1 := inj1 h
    subst e_1
    exact mj_iret (pc := 34) d_Dy_subjectOf_34 rfl
  · rw [if_neg hc1] at h
    by_cases hc2 : x2 = 1
    · rw [if_pos hc2] at h
      refine mj_tsEq (pc := 1) (tgt := 35) 1 d_Dy_subjectOf_1 hc2 (by decide) (by decide) (by rfl) (by decide) ?_
      refine mj_aload_n (pc := 35) (i := 0) d_Dy_subjectOf_35 rfl rfl (by decide) ?_
      refine mj_getR (pc := 36) d_Dy_subjectOf_36 fl_Dy_54 sh_1 rfl rfl (by decide) (by decide) (by decide) ?_
      refine mj_iload_n (pc := 39) (i := 1) d_Dy_subjectOf_39 rfl rfl ?_
      refine mj_iload_n (pc := 40) (i := 3) d_Dy_subjectOf_40 rfl rfl ?_
      obtain ⟨v5, hb6, h⟩ := bd1_some h
      refine mj_callV (pc := 41) (b := 7) (vs := [.int x1, .int x3]) (st := []) d_Dy_subjectOf_41 bB_Dy_subjectOf_Sk_all lk_Dy_135 iv_Sk_all rc_7 rfl (Nat.le_of_ble_eq_true rfl) (Nat.le_of_ble_eq_true rfl) (r_Sk_all hb6) ?_
      show mj_R M_Dy_subjectOf 44 [some (.ref 1), some (.int x1), some (.int x2), some (.int x3)] [.int v5] (SH, jn C0 D) (some (.int v)) (SH, jn C0 D)
      obtain e_1 := inj1 h
      subst e_1
      exact mj_iret (pc := 44) d_Dy_subjectOf_44 rfl
    · rw [if_neg hc2] at h
      by_cases hc3 : x2 = 2
      · rw [if_pos hc3] at h
        refine mj_tsEq (pc := 1) (tgt := 45) 2 d_Dy_subjectOf_1 hc3 (by decide) (by decide) (by rfl) (by decide) ?_
        refine mj_aload_n (pc := 45) (i := 0) d_Dy_subjectOf_45 rfl rfl (by decide) ?_
        refine cj_getI (pc := 46) d_Dy_subjectOf_46 fl_Dy_77 sh_1 rfl (by decide) (by decide) (by decide) ?_
        obtain e_1 := inj1 h
        subst e_1
        exact mj_iret (pc := 49) d_Dy_subjectOf_49 rfl
      · rw [if_neg hc3] at h
        refine mj_tableOut (pc := 1) (tgt := 50) d_Dy_subjectOf_1 (by have q0 := i32_ne (n := 0) (by decide) hc1; have q1 := i32_ne (n := 1) (by decide) hc2; have q2 := i32_ne (n := 2) (by decide) hc3; omega) (by decide) ?_
        refine mj_aload_n (pc := 50) (i := 0) d_Dy_subjectOf_50 rfl rfl (by decide) ?_
        refine mj_getR (pc := 51) d_Dy_subjectOf_51 fl_Dy_58 sh_1 rfl rfl (by decide) (by decide) (by decide) ?_
        refine mj_iload_n (pc := 54) (i := 3) d_Dy_subjectOf_54 rfl rfl ?_
        refine mj_iconst (pc := 55) (v := 2) d_Dy_subjectOf_55 (by decide) ?_
        obtain ⟨v7, hb8, h⟩ := bd1_some h
        refine mj_callV (pc := 56) (b := 10) (vs := [.int x3, .int 2]) (st := []) d_Dy_subjectOf_56 bB_Dy_subjectOf_Wr_get lk_Dy_64 iv_Wr_get rc_10 rfl (Nat.le_of_ble_eq_true rfl) (Nat.le_of_ble_eq_true rfl) (r_Wr_get hb8) ?_
        show mj_R M_Dy_subjectOf 59 [some (.ref 1), some (.int x1), some (.int x2), some (.int x3)] [.int v7] (SH, jn C0 D) (some (.int v)) (SH, jn C0 D)
        obtain e_1 := inj1 h
        subst e_1
        exact mj_iret (pc := 59) d_Dy_subjectOf_59 rfl
