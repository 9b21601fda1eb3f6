set_option maxRecDepth 20000 in
theorem r_Dy_condHolds {x1 : Int32} {x2 : Int32} {C0 D : St} {v : Int32} (h : f_Dy_condHolds x1 x2 C0 = some v) : mj_R M_Dy_condHolds 0 (mj_lv M_Dy_condHolds.2.2.1 [.ref 1, .int x1, .int x2]) [] (SH, jn C0 D) (some (.int v)) (SH, jn C0 D) := by
  show mj_R M_Dy_condHolds 0 [some (.ref 1), some (.int x1), some (.int x2), none, none, none, none, none] [] _ _ _
  unfold f_Dy_condHolds at h
  refine mj_aload_n (pc := 0) (i := 0) d_Dy_condHolds_0 rfl rfl (by decide) ?_
  refine mj_getR (pc := 1) d_Dy_condHolds_1 fl_Dy_93 sh_1 rfl rfl (by decide) (by decide) (by decide) ?_
  refine mj_iload_n (pc := 4) (i := 1) d_Dy_condHolds_4 rfl rfl ?_
  refine mj_iload_n (pc := 5) (i := 2) d_Dy_condHolds_5 rfl rfl ?_
  refine mj_iconst (pc := 6) (v := 5) d_Dy_condHolds_6 (by decide) ?_
  obtain ⟨v1, hb2, h⟩ := bd1_some h
  refine mj_callV (pc := 7) (b := 12) (vs := [.int x1, .int x2, .int 5]) (st := []) d_Dy_condHolds_7 bB_Dy_condHolds_Rl_get lk_Dy_114 iv_Rl_get rc_12 rfl (Nat.le_of_ble_eq_true rfl) (Nat.le_of_ble_eq_true rfl) (r_Rl_get hb2) ?_
  show mj_R M_Dy_condHolds 10 [some (.ref 1), some (.int x1), some (.int x2), none, none, none, none, none] [.int v1] (SH, jn C0 D) (some (.int v)) (SH, jn C0 D)
  refine mj_istore_n (pc := 10) (i := 3) d_Dy_condHolds_10 rfl rfl (by decide) ?_
  refine mj_iload_n (pc := 11) (i := 3) d_Dy_condHolds_11 rfl rfl ?_
  refine mj_ldc (pc := 12) (v := -1000000005) d_Dy_condHolds_12 k_Dy_127 ?_
  refine mj_icmp_ne (pc := 14) (tgt := 19) d_Dy_condHolds_14 (by decide) mj_hs (fun hc3 => ?_) (fun hc3 => ?_)
  · rw [if_neg hc3] at h
    refine mj_iload_n (pc := 19) (i := 3) d_Dy_condHolds_19 rfl rfl ?_
    refine mj_iconst (pc := 20) (v := 4) d_Dy_condHolds_20 (by decide) ?_
    have k5 : mj_R M_Dy_condHolds 29 [some (.ref 1), some (.int x1), some (.int x2), some (.int v1), none, none, none, none] [.int (if v1 < 4 then 0 else 1 : Int32)] (SH, jn C0 D) (some (.int v)) (SH, jn C0 D) := by
      refine mj_istore (pc := 29) (i := 4) d_Dy_condHolds_29 rfl (by decide) ?_
      refine mj_iload (pc := 31) (i := 4) d_Dy_condHolds_31 rfl ?_
      have k7 : mj_R M_Dy_condHolds 43 [some (.ref 1), some (.int x1), some (.int x2), none, some (.int (if v1 < 4 then 0 else 1 : Int32)), none, none, none] [.int (if (if v1 < 4 then 0 else 1 : Int32) = 0 then v1 else v1 - 4 : Int32)] (SH, jn C0 D) (some (.int v)) (SH, jn C0 D) := by
        refine mj_istore (pc := 43) (i := 5) d_Dy_condHolds_43 rfl (by decide) ?_
        refine mj_aload_n (pc := 45) (i := 0) d_Dy_condHolds_45 rfl rfl (by decide) ?_
        refine mj_iload_n (pc := 46) (i := 1) d_Dy_condHolds_46 rfl rfl ?_
        refine mj_iload (pc := 47) (i := 5) d_Dy_condHolds_47 rfl ?_
        refine mj_aload_n (pc := 49) (i := 0) d_Dy_condHolds_49 rfl rfl (by decide) ?_
        refine mj_getR (pc := 50) d_Dy_condHolds_50 fl_Dy_93 sh_1 rfl rfl (by decide) (by decide) (by decide) ?_
        refine mj_iload_n (pc := 53) (i := 1) d_Dy_condHolds_53 rfl rfl ?_
        refine mj_iload_n (pc := 54) (i := 2) d_Dy_condHolds_54 rfl rfl ?_
        refine mj_bipush (pc := 55) (v := 6) d_Dy_condHolds_55 (by decide) ?_
        obtain ⟨v8, hb9, h⟩ := bd1_some h
        refine mj_callV (pc := 57) (b := 12) (vs := [.int x1, .int x2, .int 6]) (st := [.int (if (if v1 < 4 then 0 else 1 : Int32) = 0 then v1 else v1 - 4 : Int32), .int x1, .ref 1]) d_Dy_condHolds_57 bB_Dy_condHolds_Rl_get lk_Dy_114 iv_Rl_get rc_12 rfl (Nat.le_of_ble_eq_true rfl) (Nat.le_of_ble_eq_true rfl) (r_Rl_get hb9) ?_
        show mj_R M_Dy_condHolds 60 [some (.ref 1), some (.int x1), some (.int x2), none, some (.int (if v1 < 4 then 0 else 1 : Int32)), some (.int (if (if v1 < 4 then 0 else 1 : Int32) = 0 then v1 else v1 - 4 : Int32)), none, none] [.int v8, .int (if (if v1 < 4 then 0 else 1 : Int32) = 0 then v1 else v1 - 4 : Int32), .int x1, .ref 1] (SH, jn C0 D) (some (.int v)) (SH, jn C0 D)
        obtain ⟨v10, hb11, h⟩ := bd1_some h
        refine mj_callS (pc := 60) (vs := [.ref 1, .int x1, .int (if (if v1 < 4 then 0 else 1 : Int32) = 0 then v1 else v1 - 4 : Int32), .int v8]) (st := []) d_Dy_condHolds_60 bB_Dy_condHolds_Dy_subjectOf lk_Dy_128 st_Dy_subjectOf rfl (Nat.le_of_ble_eq_true rfl) (Nat.le_of_ble_eq_true rfl) (r_Dy_subjectOf hb11) ?_
        show mj_R M_Dy_condHolds 63 [some (.ref 1), some (.int x1), some (.int x2), none, some (.int (if v1 < 4 then 0 else 1 : Int32)), some (.int (if (if v1 < 4 then 0 else 1 : Int32) = 0 then v1 else v1 - 4 : Int32)), none, none] [.int v10] (SH, jn C0 D) (some (.int v)) (SH, jn C0 D)
        refine mj_istore (pc := 63) (i := 6) d_Dy_condHolds_63 rfl (by decide) ?_
        refine mj_aload_n (pc := 65) (i := 0) d_Dy_condHolds_65 rfl rfl (by decide) ?_
        refine mj_getR (pc := 66) d_Dy_condHolds_66 fl_Dy_93 sh_1 rfl rfl (by decide) (by decide) (by decide) ?_
        refine mj_iload_n (pc := 69) (i := 1) d_Dy_condHolds_69 rfl rfl ?_
        refine mj_iload_n (pc := 70) (i := 2) d_Dy_condHolds_70 rfl rfl ?_
        refine mj_bipush (pc := 71) (v := 7) d_Dy_condHolds_71 (by decide) ?_
        obtain ⟨v12, hb13, h⟩ := bd1_some h
        refine mj_callV (pc := 73) (b := 12) (vs := [.int x1, .int x2, .int 7]) (st := []) d_Dy_condHolds_73 bB_Dy_condHolds_Rl_get lk_Dy_114 iv_Rl_get rc_12 rfl (Nat.le_of_ble_eq_true rfl) (Nat.le_of_ble_eq_true rfl) (r_Rl_get hb13) ?_
        show mj_R M_Dy_condHolds 76 [some (.ref 1), some (.int x1), some (.int x2), none, some (.int (if v1 < 4 then 0 else 1 : Int32)), some (.int (if (if v1 < 4 then 0 else 1 : Int32) = 0 then v1 else v1 - 4 : Int32)), some (.int v10), none] [.int v12] (SH, jn C0 D) (some (.int v)) (SH, jn C0 D)
        refine mj_istore (pc := 76) (i := 7) d_Dy_condHolds_76 rfl (by decide) ?_
        refine mj_iload (pc := 78) (i := 4) d_Dy_condHolds_78 rfl ?_
        have k17 : mj_R M_Dy_condHolds 110 [none, none, none, none, none, none, none, none] [.int (if (if v1 < 4 then 0 else 1 : Int32) = 0 then (if v12 ≤ v10 then 0 else 1 : Int32) else (if v10 ≤ v12 then 0 else 1 : Int32) : Int32)] (SH, jn C0 D) (some (.int v)) (SH, jn C0 D) := by
          obtain e_1 := inj1 h
          subst e_1
          exact mj_zret (pc := 110) (ty := .boolean) d_Dy_condHolds_110 rfl (mj_b01 (by (repeat' split) <;> simp))
        refine mj_if_eq (y := 0) (pc := 80) (tgt := 98) d_Dy_condHolds_80 (by decide) mj_hs (fun hc14 => ?_) (fun hc14 => ?_)
        · refine mj_iload (pc := 98) (i := 6) d_Dy_condHolds_98 rfl ?_
          refine mj_iload (pc := 100) (i := 7) d_Dy_condHolds_100 rfl ?_
          refine mj_icmp_ge (pc := 102) (tgt := 109) d_Dy_condHolds_102 (by decide) mj_hs (fun hc15 => ?_) (fun hc15 => ?_)
          · refine mj_iconst (pc := 109) (v := 0) d_Dy_condHolds_109 (by decide) ?_
            try simp only [if_pos hc14, if_pos hc15] at k17
            exact mj_wk k17 trivial
          · refine mj_iconst (pc := 105) (v := 1) d_Dy_condHolds_105 (by decide) ?_
            refine mj_goto (pc := 106) (tgt := 110) d_Dy_condHolds_106 (by decide) ?_
            try simp only [if_pos hc14, if_neg hc15] at k17
            exact mj_wk k17 trivial
        · refine mj_iload (pc := 83) (i := 6) d_Dy_condHolds_83 rfl ?_
          refine mj_iload (pc := 85) (i := 7) d_Dy_condHolds_85 rfl ?_
          refine mj_icmp_le (pc := 87) (tgt := 94) d_Dy_condHolds_87 (by decide) mj_hs (fun hc16 => ?_) (fun hc16 => ?_)
          · refine mj_iconst (pc := 94) (v := 0) d_Dy_condHolds_94 (by decide) ?_
            refine mj_goto (pc := 95) (tgt := 110) d_Dy_condHolds_95 (by decide) ?_
            try simp only [if_neg hc14, if_pos hc16] at k17
            exact mj_wk k17 trivial
          · refine mj_iconst (pc := 90) (v := 1) d_Dy_condHolds_90 (by decide) ?_
            refine mj_goto (pc := 91) (tgt := 110) d_Dy_condHolds_91 (by decide) ?_
            try simp only [if_neg hc14, if_neg hc16] at k17
            exact mj_wk k17 trivial
      refine mj_if_eq (y := 0) (pc := 33) (tgt := 42) d_Dy_condHolds_33 (by decide) mj_hs (fun hc6 => ?_) (fun hc6 => ?_)
      · refine mj_iload_n (pc := 42) (i := 3) d_Dy_condHolds_42 rfl rfl ?_
        try simp only [if_pos hc6] at k7
        exact mj_wk k7 (And.intro rfl (And.intro rfl (And.intro rfl (And.intro rfl trivial))))
      · refine mj_iload_n (pc := 36) (i := 3) d_Dy_condHolds_36 rfl rfl ?_
        refine mj_iconst (pc := 37) (v := 4) d_Dy_condHolds_37 (by decide) ?_
        refine mj_isub (pc := 38) d_Dy_condHolds_38 ?_
        refine mj_goto (pc := 39) (tgt := 43) d_Dy_condHolds_39 (by decide) ?_
        try simp only [if_neg hc6] at k7
        exact mj_wk k7 (And.intro rfl (And.intro rfl (And.intro rfl (And.intro rfl trivial))))
    refine mj_icmp_lt (pc := 21) (tgt := 28) d_Dy_condHolds_21 (by decide) mj_hs (fun hc4 => ?_) (fun hc4 => ?_)
    · refine mj_iconst (pc := 28) (v := 0) d_Dy_condHolds_28 (by decide) ?_
      try simp only [if_pos hc4] at k5
      exact mj_wk k5 (And.intro rfl (And.intro rfl (And.intro rfl (And.intro rfl trivial))))
    · refine mj_iconst (pc := 24) (v := 1) d_Dy_condHolds_24 (by decide) ?_
      refine mj_goto (pc := 25) (tgt := 29) d_Dy_condHolds_25 (by decide) ?_
      try simp only [if_neg hc4] at k5
      exact mj_wk k5 (And.intro rfl (And.intro rfl (And.intro rfl (And.intro rfl trivial))))
  · rw [if_pos hc3] at h
    refine mj_iconst (pc := 17) (v := 1) d_Dy_condHolds_17 (by decide) ?_
    obtain e_1 := inj1 h
    subst e_1
    exact mj_zret (pc := 18) (ty := .boolean) d_Dy_condHolds_18 rfl (mj_b01 (by decide))
set_option maxRecDepth 20000 in
theorem r_Dy_fires {x1 : Int32} {x2 : Int32} {C0 D : St} {v : Int32} (h : f_Dy_fires x1 x2 C0 = some v) : mj_R M_Dy_fires 0 (mj_lv M_Dy_fires.2.2.1 [.ref 1, .int x1, .int x2]) [] (SH, jn C0 D) (some (.int v)) (SH, jn C0 D) := by
  show mj_R M_Dy_fires 0 [some (.ref 1), some (.int x1), some (.int x2), none] [] _ _ _
  unfold f_Dy_fires at h
  refine mj_aload_n (pc := 0) (i := 0) d_Dy_fires_0 rfl rfl (by decide) ?_
  refine mj_getR (pc := 1) d_Dy_fires_1 fl_Dy_93 sh_1 rfl rfl (by decide) (by decide) (by decide) ?_
  refine mj_iload_n (pc := 4) (i := 1) d_Dy_fires_4 rfl rfl ?_
  refine mj_iload_n (pc := 5) (i := 2) d_Dy_fires_5 rfl rfl ?_
  refine mj_iconst (pc := 6) (v := 4) d_Dy_fires_6 (by decide) ?_
  obtain ⟨v1, hb2, h⟩ := bd1_some h
  refine mj_callV (pc := 7) (b := 12) (vs := [.int x1, .int x2, .int 4]) (st := []) d_Dy_fires_7 bB_Dy_fires_Rl_get lk_Dy_114 iv_Rl_get rc_12 rfl (Nat.le_of_ble_eq_true rfl) (Nat.le_of_ble_eq_true rfl) (r_Rl_get hb2) ?_
  show mj_R M_Dy_fires 10 [some (.ref 1), some (.int x1), some (.int x2), none] [.int v1] (SH, jn C0 D) (some (.int v)) (SH, jn C0 D)
  refine mj_istore_n (pc := 10) (i := 3) d_Dy_fires_10 rfl rfl (by decide) ?_
  refine mj_aload_n (pc := 11) (i := 0) d_Dy_fires_11 rfl rfl (by decide) ?_
  refine mj_iload_n (pc := 12) (i := 1) d_Dy_fires_12 rfl rfl ?_
  refine mj_aload_n (pc := 13) (i := 0) d_Dy_fires_13 rfl rfl (by decide) ?_
  refine mj_getR (pc := 14) d_Dy_fires_14 fl_Dy_93 sh_1 rfl rfl (by decide) (by decide) (by decide) ?_
  refine mj_iload_n (pc := 17) (i := 1) d_Dy_fires_17 rfl rfl ?_
  refine mj_iload_n (pc := 18) (i := 2) d_Dy_fires_18 rfl rfl ?_
  refine mj_iconst (pc := 19) (v := 0) d_Dy_fires_19 (by decide) ?_
  obtain ⟨v3, hb4, h⟩ := bd1_some h
  refine mj_callV (pc := 20) (b := 12) (vs := [.int x1, .int x2, .int 0]) (st := [.int x1, .ref 1]) d_Dy_fires_20 bB_Dy_fires_Rl_get lk_Dy_114 iv_Rl_get rc_12 rfl (Nat.le_of_ble_eq_true rfl) (Nat.le_of_ble_eq_true rfl) (r_Rl_get hb4) ?_
  show mj_R M_Dy_fires 23 [some (.ref 1), some (.int x1), some (.int x2), some (.int v1)] [.int v3, .int x1, .ref 1] (SH, jn C0 D) (some (.int v)) (SH, jn C0 D)
  obtain ⟨v5, hb6, h⟩ := bd1_some h
  refine mj_callS (pc := 23) (vs := [.ref 1, .int x1, .int v3]) (st := []) d_Dy_fires_23 bB_Dy_fires_Dy_mayAct lk_Dy_117 st_Dy_mayAct rfl (Nat.le_of_ble_eq_true rfl) (Nat.le_of_ble_eq_true rfl) (r_Dy_mayAct hb6) ?_
  show mj_R M_Dy_fires 26 [some (.ref 1), some (.int x1), some (.int x2), some (.int v1)] [.int v5] (SH, jn C0 D) (some (.int v)) (SH, jn C0 D)
  obtain ⟨w14, hb16, h⟩ := bd1_some h
  have k15 : mj_R M_Dy_fires 56 [none, none, none, none] [.int w14] (SH, jn C0 D) (some (.int v)) (SH, jn C0 D) := by
    obtain ⟨hg17, h⟩ := mj_gd h
    obtain e_1 := inj1 h
    subst e_1
    exact mj_zret (pc := 56) (ty := .boolean) d_Dy_fires_56 rfl (mj_b01 hg17)
  have h := hb16
  refine mj_if_eq (y := 0) (pc := 26) (tgt := 55) d_Dy_fires_26 (by decide) mj_hs (fun hc7 => ?_) (fun hc7 => ?_)
  · rw [if_pos hc7] at h
    refine mj_iconst (pc := 55) (v := 0) d_Dy_fires_55 (by decide) ?_
    obtain e_1 := inj1 h
    subst e_1
    exact mj_wk k15 trivial
  · rw [if_neg hc7] at h
    refine mj_iload_n (pc := 29) (i := 3) d_Dy_fires_29 rfl rfl ?_
    refine mj_if_le (y := 0) (pc := 30) (tgt := 55) d_Dy_fires_30 (by decide) mj_hs (fun hc8 => ?_) (fun hc8 => ?_)
    · rw [if_pos hc8] at h
      refine mj_iconst (pc := 55) (v := 0) d_Dy_fires_55 (by decide) ?_
      obtain e_1 := inj1 h
      subst e_1
      exact mj_wk k15 trivial
    · rw [if_neg hc8] at h
      refine mj_aload_n (pc := 33) (i := 0) d_Dy_fires_33 rfl rfl (by decide) ?_
      refine cj_getI (pc := 34) d_Dy_fires_34 fl_Dy_77 sh_1 rfl (by decide) (by decide) (by decide) ?_
      refine mj_iload_n (pc := 37) (i := 3) d_Dy_fires_37 rfl rfl ?_
      obtain ⟨hg9, h⟩ := mj_gz h
      refine mj_irem (pc := 38) d_Dy_fires_38 hg9 ?_
      refine mj_if_ne (y := 0) (pc := 39) (tgt := 55) d_Dy_fires_39 (by decide) mj_hs (fun hc10 => ?_) (fun hc10 => ?_)
      · rw [if_neg hc10] at h
        refine mj_iconst (pc := 55) (v := 0) d_Dy_fires_55 (by decide) ?_
        obtain e_1 := inj1 h
        subst e_1
        exact mj_wk k15 trivial
      · rw [if_pos hc10] at h
        refine mj_aload_n (pc := 42) (i := 0) d_Dy_fires_42 rfl rfl (by decide) ?_
        refine mj_iload_n (pc := 43) (i := 1) d_Dy_fires_43 rfl rfl ?_
        refine mj_iload_n (pc := 44) (i := 2) d_Dy_fires_44 rfl rfl ?_
        obtain ⟨v11, hb12, h⟩ := bd1_some h
        refine mj_callS (pc := 45) (vs := [.ref 1, .int x1, .int x2]) (st := []) d_Dy_fires_45 bB_Dy_fires_Dy_condHolds lk_Dy_120 st_Dy_condHolds rfl (Nat.le_of_ble_eq_true rfl) (Nat.le_of_ble_eq_true rfl) (r_Dy_condHolds hb12) ?_
        show mj_R M_Dy_fires 48 [some (.ref 1), some (.int x1), some (.int x2), some (.int v1)] [.int v11] (SH, jn C0 D) (some (.int v)) (SH, jn C0 D)
        refine mj_if_eq (y := 0) (pc := 48) (tgt := 55) d_Dy_fires_48 (by decide) mj_hs (fun hc13 => ?_) (fun hc13 => ?_)
        · rw [if_pos hc13] at h
          refine mj_iconst (pc := 55) (v := 0) d_Dy_fires_55 (by decide) ?_
          obtain e_1 := inj1 h
          subst e_1
          exact mj_wk k15 trivial
        · rw [if_neg hc13] at h
          refine mj_iconst (pc := 51) (v := 1) d_Dy_fires_51 (by decide) ?_
          refine mj_goto (pc := 52) (tgt := 56) d_Dy_fires_52 (by decide) ?_
          obtain e_1 := inj1 h
          subst e_1
          exact mj_wk k15 trivial
set_option maxRecDepth 20000 in
theorem r_Rl_countFire {x1 : Int32} {x2 : Int32} {C0 D : St} {C' : St} (h : f_Rl_countFire x1 x2 C0 = some (C')) : mj_R M_Rl_countFire 0 (mj_lv M_Rl_countFire.2.2.1 [.ref 12, .int x1, .int x2]) [] (SH, jn C0 D) none (SH, jn (C') D) := by
  show mj_R M_Rl_countFire 0 [some (.ref 12), some (.int x1), some (.int x2)] [] _ _ _
  unfold f_Rl_countFire at h
  refine mj_aload_n (pc := 0) (i := 0) d_Rl_countFire_0 rfl rfl (by decide) ?_
  refine mj_getR (pc := 1) d_Rl_countFire_1 fl_Rl_15 sh_12 rfl rfl (by decide) (by decide) (by decide) ?_
  refine mj_iload_n (pc := 4) (i := 1) d_Rl_countFire_4 rfl rfl ?_
  refine mj_iload_n (pc := 5) (i := 2) d_Rl_countFire_5 rfl rfl ?_
  obtain ⟨v1, hb2, h⟩ := bd1_some h
  refine mj_callS (pc := 6) (vs := [.int x1, .int x2]) (st := [.ref 14]) d_Rl_countFire_6 bB_Rl_countFire_Rl_start lk_Rl_18 st_Rl_start rfl (Nat.le_of_ble_eq_true rfl) (Nat.le_of_ble_eq_true rfl) (r_Rl_start hb2) ?_
  show mj_R M_Rl_countFire 9 [some (.ref 12), some (.int x1), some (.int x2)] [.int v1, .ref 14] (SH, jn C0 D) none (SH, jn (C') D)
  refine mj_bipush (pc := 9) (v := 8) d_Rl_countFire_9 (by decide) ?_
  refine mj_iadd (pc := 11) d_Rl_countFire_11 ?_
  refine mj_dup2 (pc := 12) d_Rl_countFire_12 rfl rfl ?_
  obtain ⟨hg3, h⟩ := mj_gd h
  refine cj_iald (pc := 13) d_Rl_countFire_13 sh_14 (by decide) hg3 (by decide) ?_
  refine mj_iconst (pc := 14) (v := 1) d_Rl_countFire_14 (by decide) ?_
  refine mj_iadd (pc := 15) d_Rl_countFire_15 ?_
  refine cj_iast (pc := 16) d_Rl_countFire_16 sh_14 (by decide) hg3 (by decide) ?_
  obtain e_1 := inj1 h
  subst e_1
  exact mj_vret (pc := 17) d_Rl_countFire_17 rfl
set_option maxRecDepth 20000 in
theorem r_Mt_freeOf {x2 : Int32} {x3 : Int32} {C0 D : St} {v : Int32} (h : f_Mt_freeOf x2 x3 C0 = some v) : mj_R M_Mt_freeOf 0 (mj_lv M_Mt_freeOf.2.2.1 [.ref 25, .ref 1, .int x2, .int x3]) [] (SH, jn C0 D) (some (.int v)) (SH, jn C0 D) := by
  show mj_R M_Mt_freeOf 0 [some (.ref 25), some (.ref 1), some (.int x2), some (.int x3)] [] _ _ _
  unfold f_Mt_freeOf at h
  refine mj_aload_n (pc := 0) (i := 1) d_Mt_freeOf_0 rfl rfl (by decide) ?_
  refine mj_getR (pc := 1) d_Mt_freeOf_1 fl_Mt_31 sh_1 rfl rfl (by decide) (by decide) (by decide) ?_
  refine mj_iload_n (pc := 4) (i := 2) d_Mt_freeOf_4 rfl rfl ?_
  refine mj_iload_n (pc := 5) (i := 3) d_Mt_freeOf_5 rfl rfl ?_
  obtain ⟨v1, hb2, h⟩ := bd1_some h
  refine mj_callV (pc := 6) (b := 7) (vs := [.int x2, .int x3]) (st := []) d_Mt_freeOf_6 bB_Mt_freeOf_Sk_all lk_Mt_37 iv_Sk_all rc_7 rfl (Nat.le_of_ble_eq_true rfl) (Nat.le_of_ble_eq_true rfl) (r_Sk_all hb2) ?_
  show mj_R M_Mt_freeOf 9 [some (.ref 25), some (.ref 1), some (.int x2), some (.int x3)] [.int v1] (SH, jn C0 D) (some (.int v)) (SH, jn C0 D)
  refine mj_aload_n (pc := 9) (i := 0) d_Mt_freeOf_9 rfl rfl (by decide) ?_
  refine mj_getR (pc := 10) d_Mt_freeOf_10 fl_Mt_21 sh_25 rfl rfl (by decide) (by decide) (by decide) ?_
  refine mj_iload_n (pc := 13) (i := 2) d_Mt_freeOf_13 rfl rfl ?_
  refine mj_iconst (pc := 14) (v := 5) d_Mt_freeOf_14 (by decide) ?_
  refine mj_imul (pc := 15) d_Mt_freeOf_15 ?_
  refine mj_iload_n (pc := 16) (i := 3) d_Mt_freeOf_16 rfl rfl ?_
  refine mj_iadd (pc := 17) d_Mt_freeOf_17 ?_
  obtain ⟨hg3, h⟩ := mj_gd h
  refine cj_iald (pc := 18) d_Mt_freeOf_18 sh_38 (by decide) hg3 (by decide) ?_
  refine mj_isub (pc := 19) d_Mt_freeOf_19 ?_
  obtain e_1 := inj1 h
  subst e_1
  exact mj_iret (pc := 20) d_Mt_freeOf_20 rfl
set_option maxRecDepth 20000 in
theorem r_Dy_allowed {x0 : Int32} {x1 : Int32} {x2 : Int32} {mem : mj_Mem} {v : Int32} (h : f_Dy_allowed x0 x1 x2 = some v) : mj_R M_Dy_allowed 0 (mj_lv M_Dy_allowed.2.2.1 [.int x0, .int x1, .int x2]) [] mem (some (.int v)) mem := by
  show mj_R M_Dy_allowed 0 [some (.int x0), some (.int x1), some (.int x2)] [] _ _ _
  unfold f_Dy_allowed at h
  refine mj_iload_n (pc := 0) (i := 1) d_Dy_allowed_0 rfl rfl ?_
  obtain ⟨w3, hb5, h⟩ := bd1_some h
  have k4 : mj_R M_Dy_allowed 15 [none, none, none] [.int w3] mem (some (.int v)) mem := by
    obtain e_1 := inj1 h
    subst e_1
    exact mj_iret (pc := 15) d_Dy_allowed_15 rfl
  have h := hb5
  refine mj_if_le (y := 0) (pc := 1) (tgt := 14) d_Dy_allowed_1 (by decide) mj_hn (fun hc1 => ?_) (fun hc1 => ?_)
  · rw [if_pos hc1] at h
    refine mj_iload_n (pc := 14) (i := 0) d_Dy_allowed_14 rfl rfl ?_
    obtain e_1 := inj1 h
    subst e_1
    exact mj_wk k4 trivial
  · rw [if_neg hc1] at h
    refine mj_iload_n (pc := 4) (i := 0) d_Dy_allowed_4 rfl rfl ?_
    refine mj_iload_n (pc := 5) (i := 2) d_Dy_allowed_5 rfl rfl ?_
    refine mj_iload_n (pc := 6) (i := 1) d_Dy_allowed_6 rfl rfl ?_
    obtain ⟨hg2, h⟩ := mj_gz h
    refine mj_idiv (pc := 7) d_Dy_allowed_7 hg2 ?_
    refine mj_min (pc := 8) d_Dy_allowed_8 mn_Dy_156 (by decide) (Nat.le_of_ble_eq_true rfl) ?_
    refine mj_goto (pc := 11) (tgt := 15) d_Dy_allowed_11 (by decide) ?_
    obtain e_1 := inj1 h
    subst e_1
    exact mj_wk k4 trivial
set_option maxRecDepth 20000 in
theorem l_Sk_use_14 {r : Option Value} {D y : St} : ∀ (n : Nat) (y3 : Int32) (y4 : Int32) (y5 : Int32) (y6 : Int32) (C : St) (o5_ : Int32) (Q_ : St), L_Sk_use_14 n y3 y4 y5 y6 C = some (o5_, Q_) → mj_R M_Sk_use 75 [some (.ref 7), none, none, some (.int y3), some (.int y4), some (.int o5_), none, none] [] (SH, jn Q_ D) r (SH, y) → mj_R M_Sk_use 14 [some (.ref 7), none, none, some (.int y3), some (.int y4), some (.int y5), some (.int y6), none] [] (SH, jn C D) r (SH, y) := by
  intro n
  induction n with
  | zero => intro y3 y4 y5 y6 C o5_ Q_ h; cases h
  | succ n ih =>
    intro y3 y4 y5 y6 C o5_ Q_ h hX
    unfold L_Sk_use_14 at h
    refine mj_iload (pc := 14) (i := 6) d_Sk_use_14 rfl ?_
    refine mj_if_lt (y := 0) (pc := 16) (tgt := 75) d_Sk_use_16 (by decide) mj_hs (fun hc1 => ?_) (fun hc1 => ?_)
    · rw [if_pos hc1] at h
      obtain ⟨e_1, e_2⟩ := inj2 h
      subst e_1
      subst e_2
      exact mj_wk hX (And.intro rfl (And.intro rfl (And.intro rfl (And.intro rfl trivial))))
    · rw [if_neg hc1] at h
      refine mj_iload (pc := 19) (i := 5) d_Sk_use_19 rfl ?_
      refine mj_if_le (y := 0) (pc := 21) (tgt := 75) d_Sk_use_21 (by decide) mj_hs (fun hc2 => ?_) (fun hc2 => ?_)
      · rw [if_pos hc2] at h
        obtain ⟨e_1, e_2⟩ := inj2 h
        subst e_1
        subst e_2
        exact mj_wk hX (And.intro rfl (And.intro rfl (And.intro rfl (And.intro rfl trivial))))
      · rw [if_neg hc2] at h
        refine mj_iload (pc := 24) (i := 5) d_Sk_use_24 rfl ?_
        refine mj_aload_n (pc := 26) (i := 0) d_Sk_use_26 rfl rfl (by decide) ?_
        refine mj_getR (pc := 27) d_Sk_use_27 fl_Sk_9 sh_7 rfl rfl (by decide) (by decide) (by decide) ?_
        refine mj_iload (pc := 30) (i := 4) d_Sk_use_30 rfl ?_
        refine mj_bipush (pc := 32) (v := 10) d_Sk_use_32 (by decide) ?_
        refine mj_imul (pc := 34) d_Sk_use_34 ?_
        refine mj_iload (pc := 35) (i := 6) d_Sk_use_35 rfl ?_
        refine mj_iadd (pc := 37) d_Sk_use_37 ?_
        obtain ⟨hg3, h⟩ := mj_gd h
        refine cj_iald (pc := 38) d_Sk_use_38 sh_8 (by decide) hg3 (by decide) ?_
        refine mj_min (pc := 39) d_Sk_use_39 mn_Sk_22 (by decide) (Nat.le_of_ble_eq_true rfl) ?_
        refine mj_istore (pc := 42) (i := 7) d_Sk_use_42 rfl (by decide) ?_
        refine mj_aload_n (pc := 44) (i := 0) d_Sk_use_44 rfl rfl (by decide) ?_
        refine mj_getR (pc := 45) d_Sk_use_45 fl_Sk_9 sh_7 rfl rfl (by decide) (by decide) (by decide) ?_
        refine mj_iload (pc := 48) (i := 4) d_Sk_use_48 rfl ?_
        refine mj_bipush (pc := 50) (v := 10) d_Sk_use_50 (by decide) ?_
        refine mj_imul (pc := 52) d_Sk_use_52 ?_
        refine mj_iload (pc := 53) (i := 6) d_Sk_use_53 rfl ?_
        refine mj_iadd (pc := 55) d_Sk_use_55 ?_
        refine mj_dup2 (pc := 56) d_Sk_use_56 rfl rfl ?_
        refine cj_iald (pc := 57) d_Sk_use_57 sh_8 (by decide) hg3 (by decide) ?_
        refine mj_iload (pc := 58) (i := 7) d_Sk_use_58 rfl ?_
        refine mj_isub (pc := 60) d_Sk_use_60 ?_
        refine cj_iast (pc := 61) d_Sk_use_61 sh_8 (by decide) hg3 (by decide) ?_
        refine mj_iload (pc := 62) (i := 5) d_Sk_use_62 rfl ?_
        refine mj_iload (pc := 64) (i := 7) d_Sk_use_64 rfl ?_
        refine mj_isub (pc := 66) d_Sk_use_66 ?_
        refine mj_istore (pc := 67) (i := 5) d_Sk_use_67 rfl (by decide) ?_
        refine mj_iinc (pc := 69) (i := 6) (v := y6 + (-1)) d_Sk_use_69 rfl (by rfl) rfl (by decide) ?_
        refine mj_goto (pc := 72) (tgt := 14) d_Sk_use_72 (by decide) ?_
        exact mj_weak [some (.ref 7), none, none, some (.int y3), some (.int y4), some (.int (y5 - (if (C 8 ((y4 * 10) + y6).toNatClampNeg) < y5 then C 8 ((y4 * 10) + y6).toNatClampNeg else y5 : Int32))), some (.int (y6 + (-1))), none] (And.intro rfl (And.intro rfl (And.intro rfl (And.intro rfl (And.intro rfl trivial))))) (ih _ _ _ _ _ _ _ h hX)
set_option maxRecDepth 20000 in
theorem r_Sk_use {x1 : Int32} {x2 : Int32} {x3 : Int32} {C0 D : St} {C' : St} (h : f_Sk_use x1 x2 x3 C0 = some (C')) : mj_R M_Sk_use 0 (mj_lv M_Sk_use.2.2.1 [.ref 7, .int x1, .int x2, .int x3]) [] (SH, jn C0 D) none (SH, jn (C') D) := by
  show mj_R M_Sk_use 0 [some (.ref 7), some (.int x1), some (.int x2), some (.int x3), none, none, none, none] [] _ _ _
  unfold f_Sk_use at h
  refine mj_iload_n (pc := 0) (i := 1) d_Sk_use_0 rfl rfl ?_
  refine mj_iconst (pc := 1) (v := 5) d_Sk_use_1 (by decide) ?_
  refine mj_imul (pc := 2) d_Sk_use_2 ?_
  refine mj_iload_n (pc := 3) (i := 2) d_Sk_use_3 rfl rfl ?_
  refine mj_iadd (pc := 4) d_Sk_use_4 ?_
  refine mj_istore (pc := 5) (i := 4) d_Sk_use_5 rfl (by decide) ?_
  refine mj_iload_n (pc := 7) (i := 3) d_Sk_use_7 rfl rfl ?_
  refine mj_istore (pc := 8) (i := 5) d_Sk_use_8 rfl (by decide) ?_
  refine mj_bipush (pc := 10) (v := 9) d_Sk_use_10 (by decide) ?_
  refine mj_istore (pc := 12) (i := 6) d_Sk_use_12 rfl (by decide) ?_
  obtain ⟨o5, C6, hl7, h⟩ := bd2_some h
  refine mj_weak [some (.ref 7), none, none, some (.int x3), some (.int ((x1 * 5) + x2)), some (.int x3), some (.int 9), none] (And.intro rfl (And.intro rfl (And.intro rfl (And.intro rfl (And.intro rfl trivial))))) (l_Sk_use_14 3000 _ _ _ _ _ _ _ hl7 ?_)
  refine mj_aload_n (pc := 75) (i := 0) d_Sk_use_75 rfl rfl (by decide) ?_
  refine mj_getR (pc := 76) d_Sk_use_76 fl_Sk_15 sh_7 rfl rfl (by decide) (by decide) (by decide) ?_
  refine mj_iload (pc := 79) (i := 4) d_Sk_use_79 rfl ?_
  refine mj_dup2 (pc := 81) d_Sk_use_81 rfl rfl ?_
  obtain ⟨hg8, h⟩ := mj_gd h
  refine cj_iald (pc := 82) d_Sk_use_82 sh_9 (by decide) hg8 (by decide) ?_
  refine mj_iload_n (pc := 83) (i := 3) d_Sk_use_83 rfl rfl ?_
  refine mj_iload (pc := 84) (i := 5) d_Sk_use_84 rfl ?_
  refine mj_isub (pc := 86) d_Sk_use_86 ?_
  refine mj_isub (pc := 87) d_Sk_use_87 ?_
  refine cj_iast (pc := 88) d_Sk_use_88 sh_9 (by decide) hg8 (by decide) ?_
  obtain e_1 := inj1 h
  subst e_1
  exact mj_vret (pc := 89) d_Sk_use_89 rfl
set_option maxRecDepth 20000 in
theorem r_Wr_increase {x1 : Int32} {x2 : Int32} {x3 : Int32} {C0 D : St} {C' : St} (h : f_Wr_increase x1 x2 x3 C0 = some (C')) : mj_R M_Wr_increase 0 (mj_lv M_Wr_increase.2.2.1 [.ref 10, .int x1, .int x2, .int x3]) [] (SH, jn C0 D) none (SH, jn (C') D) := by
  show mj_R M_Wr_increase 0 [some (.ref 10), some (.int x1), some (.int x2), some (.int x3)] [] _ _ _
  unfold f_Wr_increase at h
  refine mj_aload_n (pc := 0) (i := 0) d_Wr_increase_0 rfl rfl (by decide) ?_
  refine mj_getR (pc := 1) d_Wr_increase_1 fl_Wr_11 sh_10 rfl rfl (by decide) (by decide) (by decide) ?_
  refine mj_iload_n (pc := 4) (i := 1) d_Wr_increase_4 rfl rfl ?_
  refine mj_bipush (pc := 5) (v := 11) d_Wr_increase_5 (by decide) ?_
  refine mj_imul (pc := 7) d_Wr_increase_7 ?_
  refine mj_iload_n (pc := 8) (i := 2) d_Wr_increase_8 rfl rfl ?_
  refine mj_iadd (pc := 9) d_Wr_increase_9 ?_
  refine mj_dup2 (pc := 10) d_Wr_increase_10 rfl rfl ?_
  obtain ⟨hg1, h⟩ := mj_gd h
  refine cj_iald (pc := 11) d_Wr_increase_11 sh_11 (by decide) hg1 (by decide) ?_
  refine mj_iload_n (pc := 12) (i := 3) d_Wr_increase_12 rfl rfl ?_
  refine mj_iadd (pc := 13) d_Wr_increase_13 ?_
  refine cj_iast (pc := 14) d_Wr_increase_14 sh_11 (by decide) hg1 (by decide) ?_
  obtain e_1 := inj1 h
  subst e_1
  exact mj_vret (pc := 15) d_Wr_increase_15 rfl
set_option maxRecDepth 20000 in
theorem r_Dy_make {x2 : Int32} {x3 : Int32} {x4 : Int32} {C0 D : St} {C' : St} (h : f_Dy_make x2 x3 x4 C0 = some (C')) : mj_R M_Dy_make 0 (mj_lv M_Dy_make.2.2.1 [.ref 23, .ref 1, .int x2, .int x3, .int x4]) [] (SH, jn C0 D) none (SH, jn (C') D) := by
  show mj_R M_Dy_make 0 [some (.ref 23), some (.ref 1), some (.int x2), some (.int x3), some (.int x4), none, none, none, none, none] [] _ _ _
  unfold f_Dy_make at h
  refine mj_aload_n (pc := 0) (i := 1) d_Dy_make_0 rfl rfl (by decide) ?_
  refine mj_getR (pc := 1) d_Dy_make_1 fl_Dy_58 sh_1 rfl rfl (by decide) (by decide) (by decide) ?_
  refine mj_iload_n (pc := 4) (i := 3) d_Dy_make_4 rfl rfl ?_
  refine mj_bipush (pc := 5) (v := 7) d_Dy_make_5 (by decide) ?_
  obtain ⟨v1, hb2, h⟩ := bd1_some h
  refine mj_callV (pc := 7) (b := 10) (vs := [.int x3, .int 7]) (st := []) d_Dy_make_7 bB_Dy_make_Wr_get lk_Dy_64 iv_Wr_get rc_10 rfl (Nat.le_of_ble_eq_true rfl) (Nat.le_of_ble_eq_true rfl) (r_Wr_get hb2) ?_
  show mj_R M_Dy_make 10 [some (.ref 23), some (.ref 1), some (.int x2), some (.int x3), some (.int x4), none, none, none, none, none] [.int v1] (SH, jn C0 D) none (SH, jn (C') D)
  refine mj_istore (pc := 10) (i := 5) d_Dy_make_10 rfl (by decide) ?_
  refine mj_aload_n (pc := 12) (i := 1) d_Dy_make_12 rfl rfl (by decide) ?_
  refine mj_getR (pc := 13) d_Dy_make_13 fl_Dy_58 sh_1 rfl rfl (by decide) (by decide) (by decide) ?_
  refine mj_iload_n (pc := 16) (i := 3) d_Dy_make_16 rfl rfl ?_
  refine mj_bipush (pc := 17) (v := 9) d_Dy_make_17 (by decide) ?_
  obtain ⟨v3, hb4, h⟩ := bd1_some h
  refine mj_callV (pc := 19) (b := 10) (vs := [.int x3, .int 9]) (st := []) d_Dy_make_19 bB_Dy_make_Wr_get lk_Dy_64 iv_Wr_get rc_10 rfl (Nat.le_of_ble_eq_true rfl) (Nat.le_of_ble_eq_true rfl) (r_Wr_get hb4) ?_
  show mj_R M_Dy_make 22 [some (.ref 23), some (.ref 1), some (.int x2), some (.int x3), some (.int x4), some (.int v1), none, none, none, none] [.int v3] (SH, jn C0 D) none (SH, jn (C') D)
  refine mj_istore (pc := 22) (i := 6) d_Dy_make_22 rfl (by decide) ?_
  refine mj_aload_n (pc := 24) (i := 1) d_Dy_make_24 rfl rfl (by decide) ?_
  refine mj_getR (pc := 25) d_Dy_make_25 fl_Dy_58 sh_1 rfl rfl (by decide) (by decide) (by decide) ?_
  refine mj_iload_n (pc := 28) (i := 3) d_Dy_make_28 rfl rfl ?_
  refine mj_bipush (pc := 29) (v := 8) d_Dy_make_29 (by decide) ?_
  obtain ⟨v5, hb6, h⟩ := bd1_some h
  refine mj_callV (pc := 31) (b := 10) (vs := [.int x3, .int 8]) (st := []) d_Dy_make_31 bB_Dy_make_Wr_get lk_Dy_64 iv_Wr_get rc_10 rfl (Nat.le_of_ble_eq_true rfl) (Nat.le_of_ble_eq_true rfl) (r_Wr_get hb6) ?_
  show mj_R M_Dy_make 34 [some (.ref 23), some (.ref 1), some (.int x2), some (.int x3), some (.int x4), some (.int v1), some (.int v3), none, none, none] [.int v5] (SH, jn C0 D) none (SH, jn (C') D)
  refine mj_istore (pc := 34) (i := 7) d_Dy_make_34 rfl (by decide) ?_
  refine mj_aload_n (pc := 36) (i := 1) d_Dy_make_36 rfl rfl (by decide) ?_
  refine mj_getR (pc := 37) d_Dy_make_37 fl_Dy_58 sh_1 rfl rfl (by decide) (by decide) (by decide) ?_
  refine mj_iload_n (pc := 40) (i := 3) d_Dy_make_40 rfl rfl ?_
  refine mj_bipush (pc := 41) (v := 10) d_Dy_make_41 (by decide) ?_
  obtain ⟨v7, hb8, h⟩ := bd1_some h
  refine mj_callV (pc := 43) (b := 10) (vs := [.int x3, .int 10]) (st := []) d_Dy_make_43 bB_Dy_make_Wr_get lk_Dy_64 iv_Wr_get rc_10 rfl (Nat.le_of_ble_eq_true rfl) (Nat.le_of_ble_eq_true rfl) (r_Wr_get hb8) ?_
  show mj_R M_Dy_make 46 [some (.ref 23), some (.ref 1), some (.int x2), some (.int x3), some (.int x4), some (.int v1), some (.int v3), some (.int v5), none, none] [.int v7] (SH, jn C0 D) none (SH, jn (C') D)
  refine mj_istore (pc := 46) (i := 8) d_Dy_make_46 rfl (by decide) ?_
  refine mj_iload (pc := 48) (i := 7) d_Dy_make_48 rfl ?_
  refine mj_iconst (pc := 50) (v := -1) d_Dy_make_50 (by decide) ?_
  refine mj_icmp_ne (pc := 51) (tgt := 55) d_Dy_make_51 (by decide) mj_hs (fun hc9 => ?_) (fun hc9 => ?_)
  · rw [if_neg hc9] at h
    refine mj_iload (pc := 55) (i := 5) d_Dy_make_55 rfl ?_
    refine mj_iload (pc := 57) (i := 6) d_Dy_make_57 rfl ?_
    have k11 : mj_R M_Dy_make 72 [some (.ref 23), some (.ref 1), some (.int x2), some (.int x3), some (.int x4), some (.int v1), some (.int v3), some (.int (if v1 = v3 then v5 + v7 else v5 : Int32)), some (.int (if v1 = v3 then 0 else v7 : Int32)), none] [] (SH, jn C0 D) none (SH, jn (C') D) := by
      refine mj_iload (pc := 72) (i := 4) d_Dy_make_72 rfl ?_
      refine mj_iload (pc := 74) (i := 7) d_Dy_make_74 rfl ?_
      refine mj_aload_n (pc := 76) (i := 0) d_Dy_make_76 rfl rfl (by decide) ?_
      refine mj_getR (pc := 77) d_Dy_make_77 fl_Dy_18 sh_23 rfl rfl (by decide) (by decide) (by decide) ?_
      refine mj_aload_n (pc := 80) (i := 1) d_Dy_make_80 rfl rfl (by decide) ?_
      refine mj_iload_n (pc := 81) (i := 2) d_Dy_make_81 rfl rfl ?_
      refine mj_iload (pc := 82) (i := 5) d_Dy_make_82 rfl ?_
      obtain ⟨v12, hb13, h⟩ := bd1_some h
      refine mj_callV (pc := 84) (b := 25) (vs := [.ref 1, .int x2, .int v1]) (st := [.int (if v1 = v3 then v5 + v7 else v5 : Int32), .int x4]) d_Dy_make_84 bB_Dy_make_Mt_freeOf lk_Dy_168 iv_Mt_freeOf rc_25 rfl (Nat.le_of_ble_eq_true rfl) (Nat.le_of_ble_eq_true rfl) (r_Mt_freeOf hb13) ?_
      show mj_R M_Dy_make 87 [some (.ref 23), some (.ref 1), some (.int x2), some (.int x3), some (.int x4), some (.int v1), some (.int v3), some (.int (if v1 = v3 then v5 + v7 else v5 : Int32)), some (.int (if v1 = v3 then 0 else v7 : Int32)), none] [.int v12, .int (if v1 = v3 then v5 + v7 else v5 : Int32), .int x4] (SH, jn C0 D) none (SH, jn (C') D)
      obtain ⟨v14, hb15, h⟩ := bd1_some h
      refine mj_callS (pc := 87) (vs := [.int x4, .int (if v1 = v3 then v5 + v7 else v5 : Int32), .int v12]) (st := []) d_Dy_make_87 bB_Dy_make_Dy_allowed lk_Dy_172 st_Dy_allowed rfl (Nat.le_of_ble_eq_true rfl) (Nat.le_of_ble_eq_true rfl) (r_Dy_allowed hb15) ?_
      show mj_R M_Dy_make 90 [some (.ref 23), some (.ref 1), some (.int x2), some (.int x3), some (.int x4), some (.int v1), some (.int v3), some (.int (if v1 = v3 then v5 + v7 else v5 : Int32)), some (.int (if v1 = v3 then 0 else v7 : Int32)), none] [.int v14] (SH, jn C0 D) none (SH, jn (C') D)
      refine mj_iload (pc := 90) (i := 4) d_Dy_make_90 rfl ?_
      refine mj_iload (pc := 92) (i := 8) d_Dy_make_92 rfl ?_
      refine mj_aload_n (pc := 94) (i := 0) d_Dy_make_94 rfl rfl (by decide) ?_
      refine mj_getR (pc := 95) d_Dy_make_95 fl_Dy_18 sh_23 rfl rfl (by decide) (by decide) (by decide) ?_
      refine mj_aload_n (pc := 98) (i := 1) d_Dy_make_98 rfl rfl (by decide) ?_
      refine mj_iload_n (pc := 99) (i := 2) d_Dy_make_99 rfl rfl ?_
      refine mj_iload (pc := 100) (i := 6) d_Dy_make_100 rfl ?_
      obtain ⟨v16, hb17, h⟩ := bd1_some h
      refine mj_callV (pc := 102) (b := 25) (vs := [.ref 1, .int x2, .int v3]) (st := [.int (if v1 = v3 then 0 else v7 : Int32), .int x4, .int v14]) d_Dy_make_102 bB_Dy_make_Mt_freeOf lk_Dy_168 iv_Mt_freeOf rc_25 rfl (Nat.le_of_ble_eq_true rfl) (Nat.le_of_ble_eq_true rfl) (r_Mt_freeOf hb17) ?_
      show mj_R M_Dy_make 105 [some (.ref 23), some (.ref 1), some (.int x2), some (.int x3), some (.int x4), some (.int v1), some (.int v3), some (.int (if v1 = v3 then v5 + v7 else v5 : Int32)), some (.int (if v1 = v3 then 0 else v7 : Int32)), none] [.int v16, .int (if v1 = v3 then 0 else v7 : Int32), .int x4, .int v14] (SH, jn C0 D) none (SH, jn (C') D)
      obtain ⟨v18, hb19, h⟩ := bd1_some h
      refine mj_callS (pc := 105) (vs := [.int x4, .int (if v1 = v3 then 0 else v7 : Int32), .int v16]) (st := [.int v14]) d_Dy_make_105 bB_Dy_make_Dy_allowed lk_Dy_172 st_Dy_allowed rfl (Nat.le_of_ble_eq_true rfl) (Nat.le_of_ble_eq_true rfl) (r_Dy_allowed hb19) ?_
      show mj_R M_Dy_make 108 [some (.ref 23), some (.ref 1), some (.int x2), some (.int x3), some (.int x4), some (.int v1), some (.int v3), some (.int (if v1 = v3 then v5 + v7 else v5 : Int32)), some (.int (if v1 = v3 then 0 else v7 : Int32)), none] [.int v18, .int v14] (SH, jn C0 D) none (SH, jn (C') D)
      refine mj_min (pc := 108) d_Dy_make_108 mn_Dy_156 (by decide) (Nat.le_of_ble_eq_true rfl) ?_
      refine mj_istore (pc := 111) (i := 9) d_Dy_make_111 rfl (by decide) ?_
      refine mj_aload_n (pc := 113) (i := 1) d_Dy_make_113 rfl rfl (by decide) ?_
      refine mj_getR (pc := 114) d_Dy_make_114 fl_Dy_54 sh_1 rfl rfl (by decide) (by decide) (by decide) ?_
      refine mj_iload_n (pc := 117) (i := 2) d_Dy_make_117 rfl rfl ?_
      refine mj_iload (pc := 118) (i := 5) d_Dy_make_118 rfl ?_
      refine mj_iload (pc := 120) (i := 9) d_Dy_make_120 rfl ?_
      refine mj_iload (pc := 122) (i := 7) d_Dy_make_122 rfl ?_
      refine mj_imul (pc := 124) d_Dy_make_124 ?_
      obtain ⟨C20, hb21, h⟩ := bd1_some h
      refine mj_callV (pc := 125) (b := 7) (vs := [.int x2, .int v1, .int ((if v18 < v14 then v18 else v14 : Int32) * (if v1 = v3 then v5 + v7 else v5 : Int32))]) (st := []) d_Dy_make_125 bB_Dy_make_Sk_use lk_Dy_175 iv_Sk_use rc_7 rfl (Nat.le_of_ble_eq_true rfl) (Nat.le_of_ble_eq_true rfl) (r_Sk_use hb21) ?_
      show mj_R M_Dy_make 128 [some (.ref 23), some (.ref 1), some (.int x2), some (.int x3), some (.int x4), some (.int v1), some (.int v3), some (.int (if v1 = v3 then v5 + v7 else v5 : Int32)), some (.int (if v1 = v3 then 0 else v7 : Int32)), some (.int (if v18 < v14 then v18 else v14 : Int32))] [] (SH, jn C20 D) none (SH, jn (C') D)
      refine mj_aload_n (pc := 128) (i := 1) d_Dy_make_128 rfl rfl (by decide) ?_
      refine mj_getR (pc := 129) d_Dy_make_129 fl_Dy_54 sh_1 rfl rfl (by decide) (by decide) (by decide) ?_
      refine mj_iload_n (pc := 132) (i := 2) d_Dy_make_132 rfl rfl ?_
      refine mj_iload (pc := 133) (i := 6) d_Dy_make_133 rfl ?_
      refine mj_iload (pc := 135) (i := 9) d_Dy_make_135 rfl ?_
      refine mj_iload (pc := 137) (i := 8) d_Dy_make_137 rfl ?_
      refine mj_imul (pc := 139) d_Dy_make_139 ?_
      obtain ⟨C22, hb23, h⟩ := bd1_some h
      refine mj_callV (pc := 140) (b := 7) (vs := [.int x2, .int v3, .int ((if v18 < v14 then v18 else v14 : Int32) * (if v1 = v3 then 0 else v7 : Int32))]) (st := []) d_Dy_make_140 bB_Dy_make_Sk_use lk_Dy_175 iv_Sk_use rc_7 rfl (Nat.le_of_ble_eq_true rfl) (Nat.le_of_ble_eq_true rfl) (r_Sk_use hb23) ?_
      show mj_R M_Dy_make 143 [some (.ref 23), some (.ref 1), some (.int x2), some (.int x3), some (.int x4), some (.int v1), some (.int v3), some (.int (if v1 = v3 then v5 + v7 else v5 : Int32)), some (.int (if v1 = v3 then 0 else v7 : Int32)), some (.int (if v18 < v14 then v18 else v14 : Int32))] [] (SH, jn C22 D) none (SH, jn (C') D)
      refine mj_aload_n (pc := 143) (i := 1) d_Dy_make_143 rfl rfl (by decide) ?_
      refine mj_getR (pc := 144) d_Dy_make_144 fl_Dy_54 sh_1 rfl rfl (by decide) (by decide) (by decide) ?_
      refine mj_iload_n (pc := 147) (i := 2) d_Dy_make_147 rfl rfl ?_
      refine mj_iload_n (pc := 148) (i := 3) d_Dy_make_148 rfl rfl ?_
      refine mj_iload (pc := 149) (i := 9) d_Dy_make_149 rfl ?_
      obtain ⟨C24, hb25, h⟩ := bd1_some h
      refine mj_callV (pc := 151) (b := 7) (vs := [.int x2, .int x3, .int (if v18 < v14 then v18 else v14 : Int32)]) (st := []) d_Dy_make_151 bB_Dy_make_Sk_bring lk_Dy_178 iv_Sk_bring rc_7 rfl (Nat.le_of_ble_eq_true rfl) (Nat.le_of_ble_eq_true rfl) (r_Sk_bring hb25) ?_
      show mj_R M_Dy_make 154 [some (.ref 23), some (.ref 1), some (.int x2), some (.int x3), some (.int x4), some (.int v1), some (.int v3), some (.int (if v1 = v3 then v5 + v7 else v5 : Int32)), some (.int (if v1 = v3 then 0 else v7 : Int32)), some (.int (if v18 < v14 then v18 else v14 : Int32))] [] (SH, jn C24 D) none (SH, jn (C') D)
      refine mj_aload_n (pc := 154) (i := 1) d_Dy_make_154 rfl rfl (by decide) ?_
      refine mj_getR (pc := 155) d_Dy_make_155 fl_Dy_58 sh_1 rfl rfl (by decide) (by decide) (by decide) ?_
      refine mj_iload_n (pc := 158) (i := 3) d_Dy_make_158 rfl rfl ?_
      refine mj_iconst (pc := 159) (v := 5) d_Dy_make_159 (by decide) ?_
      refine mj_iload (pc := 160) (i := 9) d_Dy_make_160 rfl ?_
      obtain ⟨C26, hb27, h⟩ := bd1_some h
      refine mj_callV (pc := 162) (b := 10) (vs := [.int x3, .int 5, .int (if v18 < v14 then v18 else v14 : Int32)]) (st := []) d_Dy_make_162 bB_Dy_make_Wr_increase lk_Dy_73 iv_Wr_increase rc_10 rfl (Nat.le_of_ble_eq_true rfl) (Nat.le_of_ble_eq_true rfl) (r_Wr_increase hb27) ?_
      show mj_R M_Dy_make 165 [some (.ref 23), some (.ref 1), some (.int x2), some (.int x3), some (.int x4), some (.int v1), some (.int v3), some (.int (if v1 = v3 then v5 + v7 else v5 : Int32)), some (.int (if v1 = v3 then 0 else v7 : Int32)), some (.int (if v18 < v14 then v18 else v14 : Int32))] [] (SH, jn C26 D) none (SH, jn (C') D)
      obtain e_1 := inj1 h
      subst e_1
      exact mj_vret (pc := 165) d_Dy_make_165 rfl
    refine mj_icmp_ne (pc := 59) (tgt := 72) d_Dy_make_59 (by decide) mj_hs (fun hc10 => ?_) (fun hc10 => ?_)
    · try simp only [if_neg hc10] at k11
      exact mj_wk k11 (And.intro rfl (And.intro rfl (And.intro rfl (And.intro rfl (And.intro rfl (And.intro rfl (And.intro rfl (And.intro rfl (And.intro rfl trivial)))))))))
    · refine mj_iload (pc := 62) (i := 7) d_Dy_make_62 rfl ?_
      refine mj_iload (pc := 64) (i := 8) d_Dy_make_64 rfl ?_
      refine mj_iadd (pc := 66) d_Dy_make_66 ?_
      refine mj_istore (pc := 67) (i := 7) d_Dy_make_67 rfl (by decide) ?_
      refine mj_iconst (pc := 69) (v := 0) d_Dy_make_69 (by decide) ?_
      refine mj_istore (pc := 70) (i := 8) d_Dy_make_70 rfl (by decide) ?_
      try simp only [if_pos hc10] at k11
      exact mj_wk k11 (And.intro rfl (And.intro rfl (And.intro rfl (And.intro rfl (And.intro rfl (And.intro rfl (And.intro rfl (And.intro rfl (And.intro rfl trivial)))))))))
  · rw [if_pos hc9] at h
    obtain e_1 := inj1 h
    subst e_1
    exact mj_vret (pc := 54) d_Dy_make_54 rfl
set_option maxRecDepth 20000 in
theorem r_Dy_eat {x2 : Int32} {x3 : Int32} {x4 : Int32} {C0 D : St} {C' : St} (h : f_Dy_eat x2 x3 x4 C0 = some (C')) : mj_R M_Dy_eat 0 (mj_lv M_Dy_eat.2.2.1 [.ref 23, .ref 1, .int x2, .int x3, .int x4]) [] (SH, jn C0 D) none (SH, jn (C') D) := by
  show mj_R M_Dy_eat 0 [some (.ref 23), some (.ref 1), some (.int x2), some (.int x3), some (.int x4), none] [] _ _ _
  unfold f_Dy_eat at h
  refine mj_iload (pc := 0) (i := 4) d_Dy_eat_0 rfl ?_
  refine mj_aload_n (pc := 2) (i := 0) d_Dy_eat_2 rfl rfl (by decide) ?_
  refine mj_getR (pc := 3) d_Dy_eat_3 fl_Dy_18 sh_23 rfl rfl (by decide) (by decide) (by decide) ?_
  refine mj_aload_n (pc := 6) (i := 1) d_Dy_eat_6 rfl rfl (by decide) ?_
  refine mj_iload_n (pc := 7) (i := 2) d_Dy_eat_7 rfl rfl ?_
  refine mj_iload_n (pc := 8) (i := 3) d_Dy_eat_8 rfl rfl ?_
  obtain ⟨v1, hb2, h⟩ := bd1_some h
  refine mj_callV (pc := 9) (b := 25) (vs := [.ref 1, .int x2, .int x3]) (st := [.int x4]) d_Dy_eat_9 bB_Dy_eat_Mt_freeOf lk_Dy_168 iv_Mt_freeOf rc_25 rfl (Nat.le_of_ble_eq_true rfl) (Nat.le_of_ble_eq_true rfl) (r_Mt_freeOf hb2) ?_
  show mj_R M_Dy_eat 12 [some (.ref 23), some (.ref 1), some (.int x2), some (.int x3), some (.int x4), none] [.int v1, .int x4] (SH, jn C0 D) none (SH, jn (C') D)
  refine mj_min (pc := 12) d_Dy_eat_12 mn_Dy_156 (by decide) (Nat.le_of_ble_eq_true rfl) ?_
  refine mj_istore (pc := 15) (i := 5) d_Dy_eat_15 rfl (by decide) ?_
  refine mj_aload_n (pc := 17) (i := 1) d_Dy_eat_17 rfl rfl (by decide) ?_
  refine mj_getR (pc := 18) d_Dy_eat_18 fl_Dy_54 sh_1 rfl rfl (by decide) (by decide) (by decide) ?_
  refine mj_iload_n (pc := 21) (i := 2) d_Dy_eat_21 rfl rfl ?_
  refine mj_iload_n (pc := 22) (i := 3) d_Dy_eat_22 rfl rfl ?_
  refine mj_iload (pc := 23) (i := 5) d_Dy_eat_23 rfl ?_
  obtain ⟨C3, hb4, h⟩ := bd1_some h
  refine mj_callV (pc := 25) (b := 7) (vs := [.int x2, .int x3, .int (if v1 < x4 then v1 else x4 : Int32)]) (st := []) d_Dy_eat_25 bB_Dy_eat_Sk_use lk_Dy_175 iv_Sk_use rc_7 rfl (Nat.le_of_ble_eq_true rfl) (Nat.le_of_ble_eq_true rfl) (r_Sk_use hb4) ?_
  show mj_R M_Dy_eat 28 [some (.ref 23), some (.ref 1), some (.int x2), some (.int x3), some (.int x4), some (.int (if v1 < x4 then v1 else x4 : Int32))] [] (SH, jn C3 D) none (SH, jn (C') D)
  refine mj_aload_n (pc := 28) (i := 1) d_Dy_eat_28 rfl rfl (by decide) ?_
  refine mj_getR (pc := 29) d_Dy_eat_29 fl_Dy_58 sh_1 rfl rfl (by decide) (by decide) (by decide) ?_
  refine mj_iload_n (pc := 32) (i := 3) d_Dy_eat_32 rfl rfl ?_
  refine mj_iconst (pc := 33) (v := 4) d_Dy_eat_33 (by decide) ?_
  refine mj_iload (pc := 34) (i := 5) d_Dy_eat_34 rfl ?_
  obtain ⟨C5, hb6, h⟩ := bd1_some h
  refine mj_callV (pc := 36) (b := 10) (vs := [.int x3, .int 4, .int (if v1 < x4 then v1 else x4 : Int32)]) (st := []) d_Dy_eat_36 bB_Dy_eat_Wr_increase lk_Dy_73 iv_Wr_increase rc_10 rfl (Nat.le_of_ble_eq_true rfl) (Nat.le_of_ble_eq_true rfl) (r_Wr_increase hb6) ?_
  show mj_R M_Dy_eat 39 [some (.ref 23), some (.ref 1), some (.int x2), some (.int x3), some (.int x4), some (.int (if v1 < x4 then v1 else x4 : Int32))] [] (SH, jn C5 D) none (SH, jn (C') D)
  obtain e_1 := inj1 h
  subst e_1
  exact mj_vret (pc := 39) d_Dy_eat_39 rfl
set_option maxRecDepth 20000 in
theorem r_Of_append {x1 : Int32} {x2 : Int32} {x3 : Int32} {x4 : Int32} {C0 D : St} {C' : St} (h : f_Of_append x1 x2 x3 x4 C0 = some (C')) : mj_R M_Of_append 0 (mj_lv M_Of_append.2.2.1 [.ref 26, .int x1, .int x2, .int x3, .int x4]) [] (SH, jn C0 D) none (SH, jn (C') D) := by
  show mj_R M_Of_append 0 [some (.ref 26), some (.int x1), some (.int x2), some (.int x3), some (.int x4)] [] _ _ _
  unfold f_Of_append at h
  refine mj_aload_n (pc := 0) (i := 0) d_Of_append_0 rfl rfl (by decide) ?_
  refine cj_getI (pc := 1) d_Of_append_1 fl_Of_27 sh_26 rfl (by decide) (by decide) (by decide) ?_
  refine mj_bipush (pc := 4) (v := 72) d_Of_append_4 (by decide) ?_
  refine mj_icmp_lt (pc := 6) (tgt := 10) d_Of_append_6 (by decide) mj_hs (fun hc1 => ?_) (fun hc1 => ?_)
  · rw [if_pos hc1] at h
    refine mj_aload_n (pc := 10) (i := 0) d_Of_append_10 rfl rfl (by decide) ?_
    refine mj_getR (pc := 11) d_Of_append_11 fl_Of_11 sh_26 rfl rfl (by decide) (by decide) (by decide) ?_
    refine mj_aload_n (pc := 14) (i := 0) d_Of_append_14 rfl rfl (by decide) ?_
    refine cj_getI (pc := 15) d_Of_append_15 fl_Of_27 sh_26 rfl (by decide) (by decide) (by decide) ?_
    refine mj_iload_n (pc := 18) (i := 1) d_Of_append_18 rfl rfl ?_
    obtain ⟨hg2, h⟩ := mj_gd h
    refine cj_iast (pc := 19) d_Of_append_19 sh_27 (by decide) hg2 (by decide) ?_
    refine mj_aload_n (pc := 20) (i := 0) d_Of_append_20 rfl rfl (by decide) ?_
    refine mj_getR (pc := 21) d_Of_append_21 fl_Of_24 sh_26 rfl rfl (by decide) (by decide) (by decide) ?_
    refine mj_aload_n (pc := 24) (i := 0) d_Of_append_24 rfl rfl (by decide) ?_
    refine cj_getI (pc := 25) d_Of_append_25 fl_Of_27 sh_26 rfl (by decide) (by decide) (by decide) ?_
    refine mj_iload_n (pc := 28) (i := 2) d_Of_append_28 rfl rfl ?_
    obtain ⟨hg3, h⟩ := mj_gd h
    refine cj_iast (pc := 29) d_Of_append_29 sh_31 (by decide) hg3 (by decide) ?_
    refine mj_aload_n (pc := 30) (i := 0) d_Of_append_30 rfl rfl (by decide) ?_
    refine mj_getR (pc := 31) d_Of_append_31 fl_Of_18 sh_26 rfl rfl (by decide) (by decide) (by decide) ?_
    refine mj_aload_n (pc := 34) (i := 0) d_Of_append_34 rfl rfl (by decide) ?_
    refine cj_getI (pc := 35) d_Of_append_35 fl_Of_27 sh_26 rfl (by decide) (by decide) (by decide) ?_
    refine mj_iload_n (pc := 38) (i := 3) d_Of_append_38 rfl rfl ?_
    obtain ⟨hg4, h⟩ := mj_gd h
    refine cj_iast (pc := 39) d_Of_append_39 sh_29 (by decide) hg4 (by decide) ?_
    refine mj_aload_n (pc := 40) (i := 0) d_Of_append_40 rfl rfl (by decide) ?_
    refine mj_getR (pc := 41) d_Of_append_41 fl_Of_15 sh_26 rfl rfl (by decide) (by decide) (by decide) ?_
    refine mj_aload_n (pc := 44) (i := 0) d_Of_append_44 rfl rfl (by decide) ?_
    refine cj_getI (pc := 45) d_Of_append_45 fl_Of_27 sh_26 rfl (by decide) (by decide) (by decide) ?_
    refine mj_iload (pc := 48) (i := 4) d_Of_append_48 rfl ?_
    obtain ⟨hg5, h⟩ := mj_gd h
    refine cj_iast (pc := 50) d_Of_append_50 sh_28 (by decide) hg5 (by decide) ?_
    refine mj_aload_n (pc := 51) (i := 0) d_Of_append_51 rfl rfl (by decide) ?_
    refine mj_dup (pc := 52) d_Of_append_52 rfl ?_
    refine cj_getI (pc := 53) d_Of_append_53 fl_Of_27 sh_26 rfl (by decide) (by decide) (by decide) ?_
    refine mj_iconst (pc := 56) (v := 1) d_Of_append_56 (by decide) ?_
    refine mj_iadd (pc := 57) d_Of_append_57 ?_
    refine cj_putI (pc := 58) d_Of_append_58 fl_Of_27 sh_26 rfl (fun _ _ _ h => by cases h; rfl) (by decide) (by decide) (by decide) ?_
    obtain e_1 := inj1 h
    subst e_1
    exact mj_vret (pc := 61) d_Of_append_61 rfl
  · rw [if_neg hc1] at h
    obtain e_1 := inj1 h
    subst e_1
    exact mj_vret (pc := 9) d_Of_append_9 rfl
set_option maxRecDepth 20000 in
theorem r_Mt_ask {x2 : Int32} {x3 : Int32} {x4 : Int32} {x5 : Int32} {C0 D : St} {C' : St} (h : f_Mt_ask x2 x3 x4 x5 C0 = some (C')) : mj_R M_Mt_ask 0 (mj_lv M_Mt_ask.2.2.1 [.ref 25, .ref 1, .int x2, .int x3, .int x4, .int x5]) [] (SH, jn C0 D) none (SH, jn (C') D) := by
  show mj_R M_Mt_ask 0 [some (.ref 25), some (.ref 1), some (.int x2), some (.int x3), some (.int x4), some (.int x5), none] [] _ _ _
  unfold f_Mt_ask at h
  refine mj_iload (pc := 0) (i := 4) d_Mt_ask_0 rfl ?_
  refine mj_aload_n (pc := 2) (i := 0) d_Mt_ask_2 rfl rfl (by decide) ?_
  refine mj_aload_n (pc := 3) (i := 1) d_Mt_ask_3 rfl rfl (by decide) ?_
  refine mj_iload_n (pc := 4) (i := 2) d_Mt_ask_4 rfl rfl ?_
  refine mj_iload_n (pc := 5) (i := 3) d_Mt_ask_5 rfl rfl ?_
  obtain ⟨v1, hb2, h⟩ := bd1_some h
  refine mj_callV (pc := 6) (b := 25) (vs := [.ref 1, .int x2, .int x3]) (st := [.int x4]) d_Mt_ask_6 bB_Mt_ask_Mt_freeOf lk_Mt_46 iv_Mt_freeOf rc_25 rfl (Nat.le_of_ble_eq_true rfl) (Nat.le_of_ble_eq_true rfl) (r_Mt_freeOf hb2) ?_
  show mj_R M_Mt_ask 9 [some (.ref 25), some (.ref 1), some (.int x2), some (.int x3), some (.int x4), some (.int x5), none] [.int v1, .int x4] (SH, jn C0 D) none (SH, jn (C') D)
  refine mj_min (pc := 9) d_Mt_ask_9 mn_Mt_50 (by decide) (Nat.le_of_ble_eq_true rfl) ?_
  refine mj_istore (pc := 12) (i := 6) d_Mt_ask_12 rfl (by decide) ?_
  refine mj_iload (pc := 14) (i := 6) d_Mt_ask_14 rfl ?_
  obtain ⟨C7, hb9, h⟩ := bd1_some h
  have k8 : mj_R M_Mt_ask 47 [none, none, none, none, none, none, none] [] (SH, jn C7 D) none (SH, jn (C') D) := by
    obtain e_1 := inj1 h
    subst e_1
    exact mj_vret (pc := 47) d_Mt_ask_47 rfl
  have h := hb9
  refine mj_if_le (y := 0) (pc := 16) (tgt := 47) d_Mt_ask_16 (by decide) mj_hs (fun hc3 => ?_) (fun hc3 => ?_)
  · rw [if_pos hc3] at h
    obtain e_1 := inj1 h
    subst e_1
    exact mj_wk k8 trivial
  · rw [if_neg hc3] at h
    refine mj_aload_n (pc := 19) (i := 0) d_Mt_ask_19 rfl rfl (by decide) ?_
    refine mj_getR (pc := 20) d_Mt_ask_20 fl_Mt_12 sh_25 rfl rfl (by decide) (by decide) (by decide) ?_
    refine mj_iload_n (pc := 23) (i := 2) d_Mt_ask_23 rfl rfl ?_
    refine mj_iload_n (pc := 24) (i := 3) d_Mt_ask_24 rfl rfl ?_
    refine mj_iload (pc := 25) (i := 6) d_Mt_ask_25 rfl ?_
    refine mj_iload (pc := 27) (i := 5) d_Mt_ask_27 rfl ?_
    obtain ⟨C4, hb5, h⟩ := bd1_some h
    refine mj_callV (pc := 29) (b := 26) (vs := [.int x2, .int x3, .int (if v1 < x4 then v1 else x4 : Int32), .int x5]) (st := []) d_Mt_ask_29 bB_Mt_ask_Of_append lk_Mt_55 iv_Of_append rc_26 rfl (Nat.le_of_ble_eq_true rfl) (Nat.le_of_ble_eq_true rfl) (r_Of_append hb5) ?_
    show mj_R M_Mt_ask 32 [some (.ref 25), some (.ref 1), some (.int x2), some (.int x3), some (.int x4), some (.int x5), some (.int (if v1 < x4 then v1 else x4 : Int32))] [] (SH, jn C4 D) none (SH, jn (C') D)
    refine mj_aload_n (pc := 32) (i := 0) d_Mt_ask_32 rfl rfl (by decide) ?_
    refine mj_getR (pc := 33) d_Mt_ask_33 fl_Mt_21 sh_25 rfl rfl (by decide) (by decide) (by decide) ?_
    refine mj_iload_n (pc := 36) (i := 2) d_Mt_ask_36 rfl rfl ?_
    refine mj_iconst (pc := 37) (v := 5) d_Mt_ask_37 (by decide) ?_
    refine mj_imul (pc := 38) d_Mt_ask_38 ?_
    refine mj_iload_n (pc := 39) (i := 3) d_Mt_ask_39 rfl rfl ?_
    refine mj_iadd (pc := 40) d_Mt_ask_40 ?_
    refine mj_dup2 (pc := 41) d_Mt_ask_41 rfl rfl ?_
    obtain ⟨hg6, h⟩ := mj_gd h
    refine cj_iald (pc := 42) d_Mt_ask_42 sh_38 (by decide) hg6 (by decide) ?_
    refine mj_iload (pc := 43) (i := 6) d_Mt_ask_43 rfl ?_
    refine mj_iadd (pc := 45) d_Mt_ask_45 ?_
    refine cj_iast (pc := 46) d_Mt_ask_46 sh_38 (by decide) hg6 (by decide) ?_
    obtain e_1 := inj1 h
    subst e_1
    exact mj_wk k8 trivial
set_option maxRecDepth 20000 in
theorem r_Mt_freeCash {x2 : Int32} {C0 D : St} {v : Int32} (h : f_Mt_freeCash x2 C0 = some v) : mj_R M_Mt_freeCash 0 (mj_lv M_Mt_freeCash.2.2.1 [.ref 25, .ref 1, .int x2]) [] (SH, jn C0 D) (some (.int v)) (SH, jn C0 D) := by
  show mj_R M_Mt_freeCash 0 [some (.ref 25), some (.ref 1), some (.int x2)] [] _ _ _
  unfold f_Mt_freeCash at h
  refine mj_aload_n (pc := 0) (i := 1) d_Mt_freeCash_0 rfl rfl (by decide) ?_
  refine mj_getR (pc := 1) d_Mt_freeCash_1 fl_Mt_43 sh_1 rfl rfl (by decide) (by decide) (by decide) ?_
  refine mj_iload_n (pc := 4) (i := 2) d_Mt_freeCash_4 rfl rfl ?_
  obtain ⟨hg1, h⟩ := mj_gd h
  refine cj_iald (pc := 5) d_Mt_freeCash_5 sh_3 (by decide) hg1 (by decide) ?_
  refine mj_aload_n (pc := 6) (i := 0) d_Mt_freeCash_6 rfl rfl (by decide) ?_
  refine mj_getR (pc := 7) d_Mt_freeCash_7 fl_Mt_25 sh_25 rfl rfl (by decide) (by decide) (by decide) ?_
  refine mj_iload_n (pc := 10) (i := 2) d_Mt_freeCash_10 rfl rfl ?_
  refine cj_iald (pc := 11) d_Mt_freeCash_11 sh_39 (by decide) hg1 (by decide) ?_
  refine mj_isub (pc := 12) d_Mt_freeCash_12 ?_
  obtain e_1 := inj1 h
  subst e_1
  exact mj_iret (pc := 13) d_Mt_freeCash_13 rfl
set_option maxRecDepth 20000 in
theorem r_Of_append_1 {x1 : Int32} {x2 : Int32} {x3 : Int32} {x4 : Int32} {C0 D : St} {C' : St} (h : f_Of_append_1 x1 x2 x3 x4 C0 = some (C')) : mj_R M_Of_append 0 (mj_lv M_Of_append.2.2.1 [.ref 32, .int x1, .int x2, .int x3, .int x4]) [] (SH, jn C0 D) none (SH, jn (C') D) := by
  show mj_R M_Of_append 0 [some (.ref 32), some (.int x1), some (.int x2), some (.int x3), some (.int x4)] [] _ _ _
  unfold f_Of_append_1 at h
  refine mj_aload_n (pc := 0) (i := 0) d_Of_append_0 rfl rfl (by decide) ?_
  refine cj_getI (pc := 1) d_Of_append_1 fl_Of_27 sh_32 rfl (by decide) (by decide) (by decide) ?_
  refine mj_bipush (pc := 4) (v := 72) d_Of_append_4 (by decide) ?_
  refine mj_icmp_lt (pc := 6) (tgt := 10) d_Of_append_6 (by decide) mj_hs (fun hc1 => ?_) (fun hc1 => ?_)
  · rw [if_pos hc1] at h
    refine mj_aload_n (pc := 10) (i := 0) d_Of_append_10 rfl rfl (by decide) ?_
    refine mj_getR (pc := 11) d_Of_append_11 fl_Of_11 sh_32 rfl rfl (by decide) (by decide) (by decide) ?_
    refine mj_aload_n (pc := 14) (i := 0) d_Of_append_14 rfl rfl (by decide) ?_
    refine cj_getI (pc := 15) d_Of_append_15 fl_Of_27 sh_32 rfl (by decide) (by decide) (by decide) ?_
    refine mj_iload_n (pc := 18) (i := 1) d_Of_append_18 rfl rfl ?_
    obtain ⟨hg2, h⟩ := mj_gd h
    refine cj_iast (pc := 19) d_Of_append_19 sh_33 (by decide) hg2 (by decide) ?_
    refine mj_aload_n (pc := 20) (i := 0) d_Of_append_20 rfl rfl (by decide) ?_
    refine mj_getR (pc := 21) d_Of_append_21 fl_Of_24 sh_32 rfl rfl (by decide) (by decide) (by decide) ?_
    refine mj_aload_n (pc := 24) (i := 0) d_Of_append_24 rfl rfl (by decide) ?_
    refine cj_getI (pc := 25) d_Of_append_25 fl_Of_27 sh_32 rfl (by decide) (by decide) (by decide) ?_
    refine mj_iload_n (pc := 28) (i := 2) d_Of_append_28 rfl rfl ?_
    obtain ⟨hg3, h⟩ := mj_gd h
    refine cj_iast (pc := 29) d_Of_append_29 sh_37 (by decide) hg3 (by decide) ?_
    refine mj_aload_n (pc := 30) (i := 0) d_Of_append_30 rfl rfl (by decide) ?_
    refine mj_getR (pc := 31) d_Of_append_31 fl_Of_18 sh_32 rfl rfl (by decide) (by decide) (by decide) ?_
    refine mj_aload_n (pc := 34) (i := 0) d_Of_append_34 rfl rfl (by decide) ?_
    refine cj_getI (pc := 35) d_Of_append_35 fl_Of_27 sh_32 rfl (by decide) (by decide) (by decide) ?_
    refine mj_iload_n (pc := 38) (i := 3) d_Of_append_38 rfl rfl ?_
    obtain ⟨hg4, h⟩ := mj_gd h
    refine cj_iast (pc := 39) d_Of_append_39 sh_35 (by decide) hg4 (by decide) ?_
    refine mj_aload_n (pc := 40) (i := 0) d_Of_append_40 rfl rfl (by decide) ?_
    refine mj_getR (pc := 41) d_Of_append_41 fl_Of_15 sh_32 rfl rfl (by decide) (by decide) (by decide) ?_
    refine mj_aload_n (pc := 44) (i := 0) d_Of_append_44 rfl rfl (by decide) ?_
    refine cj_getI (pc := 45) d_Of_append_45 fl_Of_27 sh_32 rfl (by decide) (by decide) (by decide) ?_
    refine mj_iload (pc := 48) (i := 4) d_Of_append_48 rfl ?_
    obtain ⟨hg5, h⟩ := mj_gd h
    refine cj_iast (pc := 50) d_Of_append_50 sh_34 (by decide) hg5 (by decide) ?_
    refine mj_aload_n (pc := 51) (i := 0) d_Of_append_51 rfl rfl (by decide) ?_
    refine mj_dup (pc := 52) d_Of_append_52 rfl ?_
    refine cj_getI (pc := 53) d_Of_append_53 fl_Of_27 sh_32 rfl (by decide) (by decide) (by decide) ?_
    refine mj_iconst (pc := 56) (v := 1) d_Of_append_56 (by decide) ?_
    refine mj_iadd (pc := 57) d_Of_append_57 ?_
    refine cj_putI (pc := 58) d_Of_append_58 fl_Of_27 sh_32 rfl (fun _ _ _ h => by cases h; rfl) (by decide) (by decide) (by decide) ?_
    obtain e_1 := inj1 h
    subst e_1
    exact mj_vret (pc := 61) d_Of_append_61 rfl
  · rw [if_neg hc1] at h
    obtain e_1 := inj1 h
    subst e_1
    exact mj_vret (pc := 9) d_Of_append_9 rfl
set_option maxRecDepth 20000 in
theorem r_Mt_bid {x2 : Int32} {x3 : Int32} {x4 : Int32} {x5 : Int32} {C0 D : St} {C' : St} (h : f_Mt_bid x2 x3 x4 x5 C0 = some (C')) : mj_R M_Mt_bid 0 (mj_lv M_Mt_bid.2.2.1 [.ref 25, .ref 1, .int x2, .int x3, .int x4, .int x5]) [] (SH, jn C0 D) none (SH, jn (C') D) := by
  show mj_R M_Mt_bid 0 [some (.ref 25), some (.ref 1), some (.int x2), some (.int x3), some (.int x4), some (.int x5), none] [] _ _ _
  unfold f_Mt_bid at h
  refine mj_iload (pc := 0) (i := 5) d_Mt_bid_0 rfl ?_
  obtain ⟨w5, hb7, h⟩ := bd1_some h
  have k6 : mj_R M_Mt_bid 23 [some (.ref 25), none, some (.int x2), some (.int x3), none, some (.int x5), none] [.int w5] (SH, jn C0 D) none (SH, jn (C') D) := by
    refine mj_istore (pc := 23) (i := 6) d_Mt_bid_23 rfl (by decide) ?_
    refine mj_iload (pc := 25) (i := 6) d_Mt_bid_25 rfl ?_
    obtain ⟨C12, hb14, h⟩ := bd1_some h
    have k13 : mj_R M_Mt_bid 57 [none, none, none, none, none, none, none] [] (SH, jn C12 D) none (SH, jn (C') D) := by
      obtain e_1 := inj1 h
      subst e_1
      exact mj_vret (pc := 57) d_Mt_bid_57 rfl
    have h := hb14
    refine mj_if_le (y := 0) (pc := 27) (tgt := 57) d_Mt_bid_27 (by decide) mj_hs (fun hc8 => ?_) (fun hc8 => ?_)
    · rw [if_pos hc8] at h
      obtain e_1 := inj1 h
      subst e_1
      exact mj_wk k13 trivial
    · rw [if_neg hc8] at h
      refine mj_aload_n (pc := 30) (i := 0) d_Mt_bid_30 rfl rfl (by decide) ?_
      refine mj_getR (pc := 31) d_Mt_bid_31 fl_Mt_18 sh_25 rfl rfl (by decide) (by decide) (by decide) ?_
      refine mj_iload_n (pc := 34) (i := 2) d_Mt_bid_34 rfl rfl ?_
      refine mj_iload_n (pc := 35) (i := 3) d_Mt_bid_35 rfl rfl ?_
      refine mj_iload (pc := 36) (i := 6) d_Mt_bid_36 rfl ?_
      refine mj_iload (pc := 38) (i := 5) d_Mt_bid_38 rfl ?_
      obtain ⟨C9, hb10, h⟩ := bd1_some h
      refine mj_callV (pc := 40) (b := 32) (vs := [.int x2, .int x3, .int w5, .int x5]) (st := []) d_Mt_bid_40 bB_Mt_bid_Of_append lk_Mt_55 iv_Of_append rc_32 rfl (Nat.le_of_ble_eq_true rfl) (Nat.le_of_ble_eq_true rfl) (r_Of_append_1 hb10) ?_
      show mj_R M_Mt_bid 43 [some (.ref 25), none, some (.int x2), some (.int x3), none, some (.int x5), some (.int w5)] [] (SH, jn C9 D) none (SH, jn (C') D)
      refine mj_aload_n (pc := 43) (i := 0) d_Mt_bid_43 rfl rfl (by decide) ?_
      refine mj_getR (pc := 44) d_Mt_bid_44 fl_Mt_25 sh_25 rfl rfl (by decide) (by decide) (by decide) ?_
      refine mj_iload_n (pc := 47) (i := 2) d_Mt_bid_47 rfl rfl ?_
      refine mj_dup2 (pc := 48) d_Mt_bid_48 rfl rfl ?_
      obtain ⟨hg11, h⟩ := mj_gd h
      refine cj_iald (pc := 49) d_Mt_bid_49 sh_39 (by decide) hg11 (by decide) ?_
      refine mj_iload (pc := 50) (i := 6) d_Mt_bid_50 rfl ?_
      refine mj_iload (pc := 52) (i := 5) d_Mt_bid_52 rfl ?_
      refine mj_imul (pc := 54) d_Mt_bid_54 ?_
      refine mj_iadd (pc := 55) d_Mt_bid_55 ?_
      refine cj_iast (pc := 56) d_Mt_bid_56 sh_39 (by decide) hg11 (by decide) ?_
      obtain e_1 := inj1 h
      subst e_1
      exact mj_wk k13 trivial
  have h := hb7
  refine mj_if_le (y := 0) (pc := 2) (tgt := 22) d_Mt_bid_2 (by decide) mj_hs (fun hc1 => ?_) (fun hc1 => ?_)
  · rw [if_pos hc1] at h
    refine mj_iconst (pc := 22) (v := 0) d_Mt_bid_22 (by decide) ?_
    obtain e_1 := inj1 h
    subst e_1
    exact mj_wk k6 (And.intro rfl (And.intro rfl (And.intro rfl (And.intro rfl trivial))))
  · rw [if_neg hc1] at h
    refine mj_iload (pc := 5) (i := 4) d_Mt_bid_5 rfl ?_
    refine mj_aload_n (pc := 7) (i := 0) d_Mt_bid_7 rfl rfl (by decide) ?_
    refine mj_aload_n (pc := 8) (i := 1) d_Mt_bid_8 rfl rfl (by decide) ?_
    refine mj_iload_n (pc := 9) (i := 2) d_Mt_bid_9 rfl rfl ?_
    obtain ⟨v2, hb3, h⟩ := bd1_some h
    refine mj_callV (pc := 10) (b := 25) (vs := [.ref 1, .int x2]) (st := [.int x4]) d_Mt_bid_10 bB_Mt_bid_Mt_freeCash lk_Mt_59 iv_Mt_freeCash rc_25 rfl (Nat.le_of_ble_eq_true rfl) (Nat.le_of_ble_eq_true rfl) (r_Mt_freeCash hb3) ?_
    show mj_R M_Mt_bid 13 [some (.ref 25), some (.ref 1), some (.int x2), some (.int x3), some (.int x4), some (.int x5), none] [.int v2, .int x4] (SH, jn C0 D) none (SH, jn (C') D)
    refine mj_iload (pc := 13) (i := 5) d_Mt_bid_13 rfl ?_
    obtain ⟨hg4, h⟩ := mj_gz h
    refine mj_idiv (pc := 15) d_Mt_bid_15 hg4 ?_
    refine mj_min (pc := 16) d_Mt_bid_16 mn_Mt_50 (by decide) (Nat.le_of_ble_eq_true rfl) ?_
    refine mj_goto (pc := 19) (tgt := 23) d_Mt_bid_19 (by decide) ?_
    obtain e_1 := inj1 h
    subst e_1
    exact mj_wk k6 (And.intro rfl (And.intro rfl (And.intro rfl (And.intro rfl trivial))))
set_option maxRecDepth 20000 in
theorem r_Tw_entry {x0 : Int32} {x1 : Int32} {x2 : Int32} {mem : mj_Mem} {v : Int32} (h : f_Tw_entry x0 x1 x2 = some v) : mj_R M_Tw_entry 0 (mj_lv M_Tw_entry.2.2.1 [.int x0, .int x1, .int x2]) [] mem (some (.int v)) mem := by
  show mj_R M_Tw_entry 0 [some (.int x0), some (.int x1), some (.int x2)] [] _ _ _
  unfold f_Tw_entry at h
  refine mj_iload_n (pc := 0) (i := 0) d_Tw_entry_0 rfl rfl ?_
  refine mj_bipush (pc := 1) (v := 12) d_Tw_entry_1 (by decide) ?_
  refine mj_imul (pc := 3) d_Tw_entry_3 ?_
  refine mj_iload_n (pc := 4) (i := 1) d_Tw_entry_4 rfl rfl ?_
  refine mj_iadd (pc := 5) d_Tw_entry_5 ?_
  refine mj_iconst (pc := 6) (v := 5) d_Tw_entry_6 (by decide) ?_
  refine mj_imul (pc := 7) d_Tw_entry_7 ?_
  refine mj_iload_n (pc := 8) (i := 2) d_Tw_entry_8 rfl rfl ?_
  refine mj_iadd (pc := 9) d_Tw_entry_9 ?_
  obtain e_1 := inj1 h
  subst e_1
  exact mj_iret (pc := 10) d_Tw_entry_10 rfl
set_option maxRecDepth 20000 in
theorem r_Tw_hand {x1 : Int32} {x2 : Int32} {x3 : Int32} {x4 : Int32} {C0 D : St} {C' : St} (h : f_Tw_hand x1 x2 x3 x4 C0 = some (C')) : mj_R M_Tw_hand 0 (mj_lv M_Tw_hand.2.2.1 [.ref 1, .int x1, .int x2, .int x3, .int x4]) [] (SH, jn C0 D) none (SH, jn (C') D) := by
  show mj_R M_Tw_hand 0 [some (.ref 1), some (.int x1), some (.int x2), some (.int x3), some (.int x4)] [] _ _ _
  unfold f_Tw_hand at h
  refine mj_aload_n (pc := 0) (i := 0) d_Tw_hand_0 rfl rfl (by decide) ?_
  refine mj_getR (pc := 1) d_Tw_hand_1 fl_Tw_19 sh_1 rfl rfl (by decide) (by decide) (by decide) ?_
  refine mj_iload_n (pc := 4) (i := 1) d_Tw_hand_4 rfl rfl ?_
  refine mj_dup2 (pc := 5) d_Tw_hand_5 rfl rfl ?_
  obtain ⟨hg1, h⟩ := mj_gd h
  refine cj_iald (pc := 6) d_Tw_hand_6 sh_3 (by decide) hg1 (by decide) ?_
  refine mj_iload (pc := 7) (i := 4) d_Tw_hand_7 rfl ?_
  refine mj_isub (pc := 9) d_Tw_hand_9 ?_
  refine cj_iast (pc := 10) d_Tw_hand_10 sh_3 (by decide) hg1 (by decide) ?_
  refine mj_aload_n (pc := 11) (i := 0) d_Tw_hand_11 rfl rfl (by decide) ?_
  refine mj_getR (pc := 12) d_Tw_hand_12 fl_Tw_19 sh_1 rfl rfl (by decide) (by decide) (by decide) ?_
  refine mj_iload_n (pc := 15) (i := 2) d_Tw_hand_15 rfl rfl ?_
  refine mj_dup2 (pc := 16) d_Tw_hand_16 rfl rfl ?_
  obtain ⟨hg2, h⟩ := mj_gd h
  refine cj_iald (pc := 17) d_Tw_hand_17 sh_3 (by decide) hg2 (by decide) ?_
  refine mj_iload (pc := 18) (i := 4) d_Tw_hand_18 rfl ?_
  refine mj_iadd (pc := 20) d_Tw_hand_20 ?_
  refine cj_iast (pc := 21) d_Tw_hand_21 sh_3 (by decide) hg2 (by decide) ?_
  refine mj_aload_n (pc := 22) (i := 0) d_Tw_hand_22 rfl rfl (by decide) ?_
  refine mj_getR (pc := 23) d_Tw_hand_23 fl_Tw_28 sh_1 rfl rfl (by decide) (by decide) (by decide) ?_
  refine mj_iload_n (pc := 26) (i := 1) d_Tw_hand_26 rfl rfl ?_
  refine mj_iload_n (pc := 27) (i := 2) d_Tw_hand_27 rfl rfl ?_
  refine mj_iload_n (pc := 28) (i := 3) d_Tw_hand_28 rfl rfl ?_
  obtain ⟨v3, hb4, h⟩ := bd1_some h
  refine mj_callS (pc := 29) (vs := [.int x1, .int x2, .int x3]) (st := [.ref 6]) d_Tw_hand_29 bB_Tw_hand_Tw_entry lk_Tw_67 st_Tw_entry rfl (Nat.le_of_ble_eq_true rfl) (Nat.le_of_ble_eq_true rfl) (r_Tw_entry hb4) ?_
  show mj_R M_Tw_hand 32 [some (.ref 1), some (.int x1), some (.int x2), some (.int x3), some (.int x4)] [.int v3, .ref 6] (SH, jn (mj_wr (mj_wr C0 3 (x1.toNatClampNeg) ((C0 3 x1.toNatClampNeg) - x4)) 3 (x2.toNatClampNeg) ((mj_wr C0 3 (x1.toNatClampNeg) ((C0 3 x1.toNatClampNeg) - x4) 3 x2.toNatClampNeg) + x4)) D) none (SH, jn (C') D)
  refine mj_dup2 (pc := 32) d_Tw_hand_32 rfl rfl ?_
  obtain ⟨hg5, h⟩ := mj_gd h
  refine cj_iald (pc := 33) d_Tw_hand_33 sh_6 (by decide) hg5 (by decide) ?_
  refine mj_iload (pc := 34) (i := 4) d_Tw_hand_34 rfl ?_
  refine mj_iadd (pc := 36) d_Tw_hand_36 ?_
  refine cj_iast (pc := 37) d_Tw_hand_37 sh_6 (by decide) hg5 (by decide) ?_
  obtain e_1 := inj1 h
  subst e_1
  exact mj_vret (pc := 38) d_Tw_hand_38 rfl
set_option maxRecDepth 20000 in
theorem r_Ln_hasRoom  {C0 D : St} {v : Int32} (h : f_Ln_hasRoom C0 = some v) : mj_R M_Ln_hasRoom 0 (mj_lv M_Ln_hasRoom.2.2.1 [.ref 15]) [] (SH, jn C0 D) (some (.int v)) (SH, jn C0 D) := by
  show mj_R M_Ln_hasRoom 0 [some (.ref 15)] [] _ _ _
  unfold f_Ln_hasRoom at h
  refine mj_aload_n (pc := 0) (i := 0) d_Ln_hasRoom_0 rfl rfl (by decide) ?_
  refine cj_getI (pc := 1) d_Ln_hasRoom_1 fl_Ln_15 sh_15 rfl (by decide) (by decide) (by decide) ?_
  refine mj_bipush (pc := 4) (v := 20) d_Ln_hasRoom_4 (by decide) ?_
  have k2 : mj_R M_Ln_hasRoom 14 [none] [.int (if 20 ≤ (C0 15 0) then 0 else 1 : Int32)] (SH, jn C0 D) (some (.int v)) (SH, jn C0 D) := by
    obtain e_1 := inj1 h
    subst e_1
    exact mj_zret (pc := 14) (ty := .boolean) d_Ln_hasRoom_14 rfl (mj_b01 (by (repeat' split) <;> simp))
  refine mj_icmp_ge (pc := 6) (tgt := 13) d_Ln_hasRoom_6 (by decide) mj_hs (fun hc1 => ?_) (fun hc1 => ?_)
  · refine mj_iconst (pc := 13) (v := 0) d_Ln_hasRoom_13 (by decide) ?_
    try simp only [if_pos hc1] at k2
    exact mj_wk k2 trivial
  · refine mj_iconst (pc := 9) (v := 1) d_Ln_hasRoom_9 (by decide) ?_
    refine mj_goto (pc := 10) (tgt := 14) d_Ln_hasRoom_10 (by decide) ?_
    try simp only [if_neg hc1] at k2
    exact mj_wk k2 trivial
set_option maxRecDepth 20000 in
theorem r_Ln_append {x1 : Int32} {x2 : Int32} {x3 : Int32} {x4 : Int32} {C0 D : St} {C' : St} (h : f_Ln_append x1 x2 x3 x4 C0 = some (C')) : mj_R M_Ln_append 0 (mj_lv M_Ln_append.2.2.1 [.ref 15, .int x1, .int x2, .int x3, .int x4]) [] (SH, jn C0 D) none (SH, jn (C') D) := by
  show mj_R M_Ln_append 0 [some (.ref 15), some (.int x1), some (.int x2), some (.int x3), some (.int x4), none] [] _ _ _
  unfold f_Ln_append at h
  refine mj_aload_n (pc := 0) (i := 0) d_Ln_append_0 rfl rfl (by decide) ?_
  obtain ⟨v1, hb2, h⟩ := bd1_some h
  refine mj_callV (pc := 1) (b := 15) (vs := []) (st := []) d_Ln_append_1 bB_Ln_append_Ln_hasRoom lk_Ln_19 iv_Ln_hasRoom rc_15 rfl (Nat.le_of_ble_eq_true rfl) (Nat.le_of_ble_eq_true rfl) (r_Ln_hasRoom hb2) ?_
  show mj_R M_Ln_append 4 [some (.ref 15), some (.int x1), some (.int x2), some (.int x3), some (.int x4), none] [.int v1] (SH, jn C0 D) none (SH, jn (C') D)
  refine mj_if_ne (y := 0) (pc := 4) (tgt := 8) d_Ln_append_4 (by decide) mj_hs (fun hc3 => ?_) (fun hc3 => ?_)
  · rw [if_neg hc3] at h
    refine mj_aload_n (pc := 8) (i := 0) d_Ln_append_8 rfl rfl (by decide) ?_
    refine cj_getI (pc := 9) d_Ln_append_9 fl_Ln_15 sh_15 rfl (by decide) (by decide) (by decide) ?_
    refine mj_iconst (pc := 12) (v := 4) d_Ln_append_12 (by decide) ?_
    refine mj_imul (pc := 13) d_Ln_append_13 ?_
    refine mj_istore (pc := 14) (i := 5) d_Ln_append_14 rfl (by decide) ?_
    refine mj_aload_n (pc := 16) (i := 0) d_Ln_append_16 rfl rfl (by decide) ?_
    refine mj_getR (pc := 17) d_Ln_append_17 fl_Ln_11 sh_15 rfl rfl (by decide) (by decide) (by decide) ?_
    refine mj_iload (pc := 20) (i := 5) d_Ln_append_20 rfl ?_
    refine mj_iconst (pc := 22) (v := 0) d_Ln_append_22 (by decide) ?_
    refine mj_iadd (pc := 23) d_Ln_append_23 ?_
    refine mj_iload_n (pc := 24) (i := 1) d_Ln_append_24 rfl rfl ?_
    obtain ⟨hg4, h⟩ := mj_gd h
    refine cj_iast (pc := 25) d_Ln_append_25 sh_16 (by decide) hg4 (by decide) ?_
    refine mj_aload_n (pc := 26) (i := 0) d_Ln_append_26 rfl rfl (by decide) ?_
    refine mj_getR (pc := 27) d_Ln_append_27 fl_Ln_11 sh_15 rfl rfl (by decide) (by decide) (by decide) ?_
    refine mj_iload (pc := 30) (i := 5) d_Ln_append_30 rfl ?_
    refine mj_iconst (pc := 32) (v := 1) d_Ln_append_32 (by decide) ?_
    refine mj_iadd (pc := 33) d_Ln_append_33 ?_
    refine mj_iload_n (pc := 34) (i := 2) d_Ln_append_34 rfl rfl ?_
    obtain ⟨hg5, h⟩ := mj_gd h
    refine cj_iast (pc := 35) d_Ln_append_35 sh_16 (by decide) hg5 (by decide) ?_
    refine mj_aload_n (pc := 36) (i := 0) d_Ln_append_36 rfl rfl (by decide) ?_
    refine mj_getR (pc := 37) d_Ln_append_37 fl_Ln_11 sh_15 rfl rfl (by decide) (by decide) (by decide) ?_
    refine mj_iload (pc := 40) (i := 5) d_Ln_append_40 rfl ?_
    refine mj_iconst (pc := 42) (v := 2) d_Ln_append_42 (by decide) ?_
    refine mj_iadd (pc := 43) d_Ln_append_43 ?_
    refine mj_iload_n (pc := 44) (i := 3) d_Ln_append_44 rfl rfl ?_
    obtain ⟨hg6, h⟩ := mj_gd h
    refine cj_iast (pc := 45) d_Ln_append_45 sh_16 (by decide) hg6 (by decide) ?_
    refine mj_aload_n (pc := 46) (i := 0) d_Ln_append_46 rfl rfl (by decide) ?_
    refine mj_getR (pc := 47) d_Ln_append_47 fl_Ln_11 sh_15 rfl rfl (by decide) (by decide) (by decide) ?_
    refine mj_iload (pc := 50) (i := 5) d_Ln_append_50 rfl ?_
    refine mj_iconst (pc := 52) (v := 3) d_Ln_append_52 (by decide) ?_
    refine mj_iadd (pc := 53) d_Ln_append_53 ?_
    refine mj_iload (pc := 54) (i := 4) d_Ln_append_54 rfl ?_
    obtain ⟨hg7, h⟩ := mj_gd h
    refine cj_iast (pc := 56) d_Ln_append_56 sh_16 (by decide) hg7 (by decide) ?_
    refine mj_aload_n (pc := 57) (i := 0) d_Ln_append_57 rfl rfl (by decide) ?_
    refine mj_dup (pc := 58) d_Ln_append_58 rfl ?_
    refine cj_getI (pc := 59) d_Ln_append_59 fl_Ln_15 sh_15 rfl (by decide) (by decide) (by decide) ?_
    refine mj_iconst (pc := 62) (v := 1) d_Ln_append_62 (by decide) ?_
    refine mj_iadd (pc := 63) d_Ln_append_63 ?_
    refine cj_putI (pc := 64) d_Ln_append_64 fl_Ln_15 sh_15 rfl (fun _ _ _ h => by cases h; rfl) (by decide) (by decide) (by decide) ?_
    obtain e_1 := inj1 h
    subst e_1
    exact mj_vret (pc := 67) d_Ln_append_67 rfl
  · rw [if_pos hc3] at h
    obtain e_1 := inj1 h
    subst e_1
    exact mj_vret (pc := 7) d_Ln_append_7 rfl
set_option maxRecDepth 20000 in
theorem r_Dy_lend {x2 : Int32} {x3 : Int32} {x4 : Int32} {x5 : Int32} {C0 D : St} {C' : St} (h : f_Dy_lend x2 x3 x4 x5 C0 = some (C')) : mj_R M_Dy_lend 0 (mj_lv M_Dy_lend.2.2.1 [.ref 23, .ref 1, .int x2, .int x3, .int x4, .int x5]) [] (SH, jn C0 D) none (SH, jn (C') D) := by
  show mj_R M_Dy_lend 0 [some (.ref 23), some (.ref 1), some (.int x2), some (.int x3), some (.int x4), some (.int x5), none] [] _ _ _
  unfold f_Dy_lend at h
  refine mj_iload (pc := 0) (i := 4) d_Dy_lend_0 rfl ?_
  refine mj_aload_n (pc := 2) (i := 0) d_Dy_lend_2 rfl rfl (by decide) ?_
  refine mj_getR (pc := 3) d_Dy_lend_3 fl_Dy_18 sh_23 rfl rfl (by decide) (by decide) (by decide) ?_
  refine mj_aload_n (pc := 6) (i := 1) d_Dy_lend_6 rfl rfl (by decide) ?_
  refine mj_iload_n (pc := 7) (i := 2) d_Dy_lend_7 rfl rfl ?_
  obtain ⟨v1, hb2, h⟩ := bd1_some h
  refine mj_callV (pc := 8) (b := 25) (vs := [.ref 1, .int x2]) (st := [.int x4]) d_Dy_lend_8 bB_Dy_lend_Mt_freeCash lk_Dy_152 iv_Mt_freeCash rc_25 rfl (Nat.le_of_ble_eq_true rfl) (Nat.le_of_ble_eq_true rfl) (r_Mt_freeCash hb2) ?_
  show mj_R M_Dy_lend 11 [some (.ref 23), some (.ref 1), some (.int x2), some (.int x3), some (.int x4), some (.int x5), none] [.int v1, .int x4] (SH, jn C0 D) none (SH, jn (C') D)
  refine mj_min (pc := 11) d_Dy_lend_11 mn_Dy_156 (by decide) (Nat.le_of_ble_eq_true rfl) ?_
  refine mj_istore (pc := 14) (i := 6) d_Dy_lend_14 rfl (by decide) ?_
  refine mj_iload (pc := 16) (i := 6) d_Dy_lend_16 rfl ?_
  obtain ⟨C11, hb13, h⟩ := bd1_some h
  have k12 : mj_R M_Dy_lend 69 [none, none, none, none, none, none, none] [] (SH, jn C11 D) none (SH, jn (C') D) := by
    obtain e_1 := inj1 h
    subst e_1
    exact mj_vret (pc := 69) d_Dy_lend_69 rfl
  have h := hb13
  refine mj_if_le (y := 0) (pc := 18) (tgt := 69) d_Dy_lend_18 (by decide) mj_hs (fun hc3 => ?_) (fun hc3 => ?_)
  · rw [if_pos hc3] at h
    obtain e_1 := inj1 h
    subst e_1
    exact mj_wk k12 trivial
  · rw [if_neg hc3] at h
    refine mj_aload_n (pc := 21) (i := 1) d_Dy_lend_21 rfl rfl (by decide) ?_
    refine mj_getR (pc := 22) d_Dy_lend_22 fl_Dy_45 sh_1 rfl rfl (by decide) (by decide) (by decide) ?_
    obtain ⟨v4, hb5, h⟩ := bd1_some h
    refine mj_callV (pc := 25) (b := 15) (vs := []) (st := []) d_Dy_lend_25 bB_Dy_lend_Ln_hasRoom lk_Dy_181 iv_Ln_hasRoom rc_15 rfl (Nat.le_of_ble_eq_true rfl) (Nat.le_of_ble_eq_true rfl) (r_Ln_hasRoom hb5) ?_
    show mj_R M_Dy_lend 28 [some (.ref 23), some (.ref 1), some (.int x2), some (.int x3), some (.int x4), some (.int x5), some (.int (if v1 < x4 then v1 else x4 : Int32))] [.int v4] (SH, jn C0 D) none (SH, jn (C') D)
    refine mj_if_eq (y := 0) (pc := 28) (tgt := 69) d_Dy_lend_28 (by decide) mj_hs (fun hc6 => ?_) (fun hc6 => ?_)
    · rw [if_pos hc6] at h
      obtain e_1 := inj1 h
      subst e_1
      exact mj_wk k12 trivial
    · rw [if_neg hc6] at h
      refine mj_aload_n (pc := 31) (i := 1) d_Dy_lend_31 rfl rfl (by decide) ?_
      refine mj_iload_n (pc := 32) (i := 2) d_Dy_lend_32 rfl rfl ?_
      refine mj_iload_n (pc := 33) (i := 3) d_Dy_lend_33 rfl rfl ?_
      refine mj_iconst (pc := 34) (v := 3) d_Dy_lend_34 (by decide) ?_
      refine mj_iload (pc := 35) (i := 6) d_Dy_lend_35 rfl ?_
      obtain ⟨C7, hb8, h⟩ := bd1_some h
      refine mj_callV (pc := 37) (b := 1) (vs := [.int x2, .int x3, .int 3, .int (if v1 < x4 then v1 else x4 : Int32)]) (st := []) d_Dy_lend_37 bB_Dy_lend_Tw_hand lk_Dy_161 iv_Tw_hand rc_1 rfl (Nat.le_of_ble_eq_true rfl) (Nat.le_of_ble_eq_true rfl) (r_Tw_hand hb8) ?_
      show mj_R M_Dy_lend 40 [some (.ref 23), some (.ref 1), some (.int x2), some (.int x3), some (.int x4), some (.int x5), some (.int (if v1 < x4 then v1 else x4 : Int32))] [] (SH, jn C7 D) none (SH, jn (C') D)
      refine mj_aload_n (pc := 40) (i := 1) d_Dy_lend_40 rfl rfl (by decide) ?_
      refine mj_getR (pc := 41) d_Dy_lend_41 fl_Dy_45 sh_1 rfl rfl (by decide) (by decide) (by decide) ?_
      refine mj_iload_n (pc := 44) (i := 2) d_Dy_lend_44 rfl rfl ?_
      refine mj_iload_n (pc := 45) (i := 3) d_Dy_lend_45 rfl rfl ?_
      refine mj_iload (pc := 46) (i := 6) d_Dy_lend_46 rfl ?_
      refine mj_iload (pc := 48) (i := 6) d_Dy_lend_48 rfl ?_
      refine mj_aload_n (pc := 50) (i := 1) d_Dy_lend_50 rfl rfl (by decide) ?_
      refine cj_getI (pc := 51) d_Dy_lend_51 fl_Dy_185 sh_1 rfl (by decide) (by decide) (by decide) ?_
      refine mj_imul (pc := 54) d_Dy_lend_54 ?_
      refine mj_bipush (pc := 55) (v := 100) d_Dy_lend_55 (by decide) ?_
      refine mj_idiv (pc := 57) d_Dy_lend_57 (by decide) ?_
      refine mj_iadd (pc := 58) d_Dy_lend_58 ?_
      refine mj_aload_n (pc := 59) (i := 1) d_Dy_lend_59 rfl rfl (by decide) ?_
      refine cj_getI (pc := 60) d_Dy_lend_60 fl_Dy_77 sh_1 rfl (by decide) (by decide) (by decide) ?_
      refine mj_iload (pc := 63) (i := 5) d_Dy_lend_63 rfl ?_
      refine mj_iadd (pc := 65) d_Dy_lend_65 ?_
      obtain ⟨C9, hb10, h⟩ := bd1_some h
      refine mj_callV (pc := 66) (b := 15) (vs := [.int x2, .int x3, .int ((if v1 < x4 then v1 else x4 : Int32) + (((if v1 < x4 then v1 else x4 : Int32) * (C7 1 4)) / 100)), .int ((C7 1 1) + x5)]) (st := []) d_Dy_lend_66 bB_Dy_lend_Ln_append lk_Dy_188 iv_Ln_append rc_15 rfl (Nat.le_of_ble_eq_true rfl) (Nat.le_of_ble_eq_true rfl) (r_Ln_append hb10) ?_
      show mj_R M_Dy_lend 69 [some (.ref 23), some (.ref 1), some (.int x2), some (.int x3), some (.int x4), some (.int x5), some (.int (if v1 < x4 then v1 else x4 : Int32))] [] (SH, jn C9 D) none (SH, jn (C') D)
      obtain e_1 := inj1 h
      subst e_1
      exact mj_wk k12 trivial
