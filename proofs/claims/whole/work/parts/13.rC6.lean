set_option maxRecDepth 20000 in
theorem l_Dy_pass_14 {r : Option Value} {D y : St} : ∀ (n : Nat) (y2 : Int32) (C : St) (Q_ : St), L_Dy_pass_14 n y2 C = some Q_ → mj_R M_Dy_pass 53 [some (.ref 23), some (.ref 1), none, none] [] (SH, jn Q_ D) r (SH, y) → mj_R M_Dy_pass 14 [some (.ref 23), some (.ref 1), some (.int y2), none] [] (SH, jn C D) r (SH, y) := by
  intro n
  induction n with
  | zero => intro y2 C Q_ h; cases h
  | succ n ih =>
    intro y2 C Q_ h hX
    unfold L_Dy_pass_14 at h
    refine mj_iload_n (pc := 14) (i := 2) d_Dy_pass_14 rfl rfl ?_
    refine mj_aload_n (pc := 15) (i := 1) d_Dy_pass_15 rfl rfl (by decide) ?_
    refine cj_getI (pc := 16) d_Dy_pass_16 fl_Dy_29 sh_1 rfl (by decide) (by decide) (by decide) ?_
    refine mj_icmp_ge (pc := 19) (tgt := 53) d_Dy_pass_19 (by decide) mj_hs (fun hc5 => ?_) (fun hc5 => ?_)
    · rw [if_pos hc5] at h
      obtain e_1 := inj1 h
      subst e_1
      exact mj_wk hX (And.intro rfl (And.intro rfl trivial))
    · rw [if_neg hc5] at h
      refine mj_aload_n (pc := 22) (i := 1) d_Dy_pass_22 rfl rfl (by decide) ?_
      refine mj_getR (pc := 23) d_Dy_pass_23 fl_Dy_35 sh_1 rfl rfl (by decide) (by decide) (by decide) ?_
      refine mj_aload_n (pc := 26) (i := 0) d_Dy_pass_26 rfl rfl (by decide) ?_
      refine mj_getR (pc := 27) d_Dy_pass_27 fl_Dy_9 sh_23 rfl rfl (by decide) (by decide) (by decide) ?_
      refine mj_iload_n (pc := 30) (i := 2) d_Dy_pass_30 rfl rfl ?_
      obtain ⟨hg6, h⟩ := mj_gd h
      refine cj_iald (pc := 31) d_Dy_pass_31 sh_24 (by decide) hg6 (by decide) ?_
      obtain ⟨hg7, h⟩ := mj_gd h
      refine cj_iald (pc := 32) d_Dy_pass_32 sh_4 (by decide) hg7 (by decide) ?_
      obtain ⟨C12, hb14, h⟩ := bd1_some h
      have k13 : mj_R M_Dy_pass 47 [some (.ref 23), some (.ref 1), some (.int y2), none] [] (SH, jn C12 D) r (SH, y) := by
        refine mj_iinc (pc := 47) (i := 2) (v := y2 + 1) d_Dy_pass_47 rfl (by rfl) rfl (by decide) ?_
        refine mj_goto (pc := 50) (tgt := 14) d_Dy_pass_50 (by decide) ?_
        exact mj_weak [some (.ref 23), some (.ref 1), some (.int (y2 + 1)), none] (And.intro rfl (And.intro rfl (And.intro rfl trivial))) (ih _ _ _ h hX)
      have h := hb14
      refine mj_if_ne (y := 0) (pc := 33) (tgt := 47) d_Dy_pass_33 (by decide) mj_hs (fun hc8 => ?_) (fun hc8 => ?_)
      · rw [if_neg hc8] at h
        obtain e_1 := inj1 h
        subst e_1
        exact mj_wk k13 (And.intro rfl (And.intro rfl (And.intro rfl trivial)))
      · rw [if_pos hc8] at h
        refine mj_aload_n (pc := 36) (i := 0) d_Dy_pass_36 rfl rfl (by decide) ?_
        refine mj_aload_n (pc := 37) (i := 1) d_Dy_pass_37 rfl rfl (by decide) ?_
        refine mj_aload_n (pc := 38) (i := 0) d_Dy_pass_38 rfl rfl (by decide) ?_
        refine mj_getR (pc := 39) d_Dy_pass_39 fl_Dy_9 sh_23 rfl rfl (by decide) (by decide) (by decide) ?_
        refine mj_iload_n (pc := 42) (i := 2) d_Dy_pass_42 rfl rfl ?_
        refine cj_iald (pc := 43) d_Dy_pass_43 sh_24 (by decide) hg6 (by decide) ?_
        obtain ⟨C10, hb11, h⟩ := bd1_some h
        refine mj_callV (pc := 44) (b := 23) (vs := [.ref 1, .int (C 24 y2.toNatClampNeg)]) (st := []) d_Dy_pass_44 bB_Dy_pass_Dy_followRules lk_Dy_38 iv_Dy_followRules rc_23 rfl (Nat.le_of_ble_eq_true rfl) (Nat.le_of_ble_eq_true rfl) (r_Dy_followRules hb11) ?_
        show mj_R M_Dy_pass 47 [some (.ref 23), some (.ref 1), some (.int y2), none] [] (SH, jn C10 D) r (SH, y)
        obtain e_1 := inj1 h
        subst e_1
        exact mj_wk k13 (And.intro rfl (And.intro rfl (And.intro rfl trivial)))
set_option maxRecDepth 20000 in
theorem l_Dy_pass_71 {r : Option Value} {D y : St} : ∀ (n : Nat) (y2 : Int32) (C : St) (Q_ : St), L_Dy_pass_71 n y2 C = some Q_ → mj_R M_Dy_pass 111 [none, some (.ref 1), none, none] [] (SH, jn Q_ D) r (SH, y) → mj_R M_Dy_pass 71 [none, some (.ref 1), some (.int y2), none] [] (SH, jn C D) r (SH, y) := by
  intro n
  induction n with
  | zero => intro y2 C Q_ h; cases h
  | succ n ih =>
    intro y2 C Q_ h hX
    unfold L_Dy_pass_71 at h
    refine mj_iload_n (pc := 71) (i := 2) d_Dy_pass_71 rfl rfl ?_
    refine mj_iconst (pc := 72) (v := 5) d_Dy_pass_72 (by decide) ?_
    refine mj_icmp_ge (pc := 73) (tgt := 111) d_Dy_pass_73 (by decide) mj_hs (fun hc21 => ?_) (fun hc21 => ?_)
    · rw [if_pos hc21] at h
      obtain e_1 := inj1 h
      subst e_1
      exact mj_wk hX (And.intro rfl trivial)
    · rw [if_neg hc21] at h
      refine mj_aload_n (pc := 76) (i := 1) d_Dy_pass_76 rfl rfl (by decide) ?_
      refine mj_getR (pc := 77) d_Dy_pass_77 fl_Dy_54 sh_1 rfl rfl (by decide) (by decide) (by decide) ?_
      refine mj_iload_n (pc := 80) (i := 2) d_Dy_pass_80 rfl rfl ?_
      refine mj_aload_n (pc := 81) (i := 1) d_Dy_pass_81 rfl rfl (by decide) ?_
      refine mj_getR (pc := 82) d_Dy_pass_82 fl_Dy_58 sh_1 rfl rfl (by decide) (by decide) (by decide) ?_
      refine mj_iload_n (pc := 85) (i := 2) d_Dy_pass_85 rfl rfl ?_
      refine mj_iconst (pc := 86) (v := 0) d_Dy_pass_86 (by decide) ?_
      obtain ⟨v22, hb23, h⟩ := bd1_some h
      refine mj_callV (pc := 87) (b := 10) (vs := [.int y2, .int 0]) (st := [.int y2, .ref 7]) d_Dy_pass_87 bB_Dy_pass_Wr_get lk_Dy_64 iv_Wr_get rc_10 rfl (Nat.le_of_ble_eq_true rfl) (Nat.le_of_ble_eq_true rfl) (r_Wr_get hb23) ?_
      show mj_R M_Dy_pass 90 [none, some (.ref 1), some (.int y2), none] [.int v22, .int y2, .ref 7] (SH, jn C D) r (SH, y)
      obtain ⟨v24, C25, hb26, h⟩ := bd2_some h
      refine mj_callV (pc := 90) (b := 7) (vs := [.int y2, .int v22]) (st := []) d_Dy_pass_90 bB_Dy_pass_Sk_grow lk_Dy_68 iv_Sk_grow rc_7 rfl (Nat.le_of_ble_eq_true rfl) (Nat.le_of_ble_eq_true rfl) (r_Sk_grow hb26) ?_
      show mj_R M_Dy_pass 93 [none, some (.ref 1), some (.int y2), none] [.int v24] (SH, jn C25 D) r (SH, y)
      refine mj_istore_n (pc := 93) (i := 3) d_Dy_pass_93 rfl rfl (by decide) ?_
      refine mj_aload_n (pc := 94) (i := 1) d_Dy_pass_94 rfl rfl (by decide) ?_
      refine mj_getR (pc := 95) d_Dy_pass_95 fl_Dy_58 sh_1 rfl rfl (by decide) (by decide) (by decide) ?_
      refine mj_iload_n (pc := 98) (i := 2) d_Dy_pass_98 rfl rfl ?_
      refine mj_bipush (pc := 99) (v := 6) d_Dy_pass_99 (by decide) ?_
      refine mj_iload_n (pc := 101) (i := 3) d_Dy_pass_101 rfl rfl ?_
      obtain ⟨C27, hb28, h⟩ := bd1_some h
      refine mj_callV (pc := 102) (b := 10) (vs := [.int y2, .int 6, .int v24]) (st := []) d_Dy_pass_102 bB_Dy_pass_Wr_increase lk_Dy_73 iv_Wr_increase rc_10 rfl (Nat.le_of_ble_eq_true rfl) (Nat.le_of_ble_eq_true rfl) (r_Wr_increase hb28) ?_
      show mj_R M_Dy_pass 105 [none, some (.ref 1), some (.int y2), some (.int v24)] [] (SH, jn C27 D) r (SH, y)
      refine mj_iinc (pc := 105) (i := 2) (v := y2 + 1) d_Dy_pass_105 rfl (by rfl) rfl (by decide) ?_
      refine mj_goto (pc := 108) (tgt := 71) d_Dy_pass_108 (by decide) ?_
      exact mj_weak [none, some (.ref 1), some (.int (y2 + 1)), none] (And.intro rfl (And.intro rfl trivial)) (ih _ _ _ h hX)
set_option maxRecDepth 20000 in
theorem r_Dy_pass  {C0 D : St} {C' : St} (h : f_Dy_pass C0 = some (C')) : mj_R M_Dy_pass 0 (mj_lv M_Dy_pass.2.2.1 [.ref 23, .ref 1]) [] (SH, jn C0 D) none (SH, jn (C') D) := by
  show mj_R M_Dy_pass 0 [some (.ref 23), some (.ref 1), none, none] [] _ _ _
  unfold f_Dy_pass at h
  refine mj_aload_n (pc := 0) (i := 0) d_Dy_pass_0 rfl rfl (by decide) ?_
  refine mj_aload_n (pc := 1) (i := 1) d_Dy_pass_1 rfl rfl (by decide) ?_
  obtain ⟨C1, hb2, h⟩ := bd1_some h
  refine mj_callV (pc := 2) (b := 23) (vs := [.ref 1]) (st := []) d_Dy_pass_2 bB_Dy_pass_Dy_drawOrder lk_Dy_22 iv_Dy_drawOrder rc_23 rfl (Nat.le_of_ble_eq_true rfl) (Nat.le_of_ble_eq_true rfl) (r_Dy_drawOrder hb2) ?_
  show mj_R M_Dy_pass 5 [some (.ref 23), some (.ref 1), none, none] [] (SH, jn C1 D) none (SH, jn (C') D)
  refine mj_aload_n (pc := 5) (i := 0) d_Dy_pass_5 rfl rfl (by decide) ?_
  refine mj_getR (pc := 6) d_Dy_pass_6 fl_Dy_18 sh_23 rfl rfl (by decide) (by decide) (by decide) ?_
  obtain ⟨C3, hb4, h⟩ := bd1_some h
  refine mj_callV (pc := 9) (b := 25) (vs := []) (st := []) d_Dy_pass_9 bB_Dy_pass_Mt_clear lk_Dy_26 iv_Mt_clear rc_25 rfl (Nat.le_of_ble_eq_true rfl) (Nat.le_of_ble_eq_true rfl) (r_Mt_clear hb4) ?_
  show mj_R M_Dy_pass 12 [some (.ref 23), some (.ref 1), none, none] [] (SH, jn C3 D) none (SH, jn (C') D)
  refine mj_iconst (pc := 12) (v := 0) d_Dy_pass_12 (by decide) ?_
  refine mj_istore_n (pc := 13) (i := 2) d_Dy_pass_13 rfl rfl (by decide) ?_
  obtain ⟨C15, hl16, h⟩ := bd1_some h
  refine mj_weak [some (.ref 23), some (.ref 1), some (.int 0), none] (And.intro rfl (And.intro rfl (And.intro rfl trivial))) (l_Dy_pass_14 3000 _ _ _ hl16 ?_)
  refine mj_aload_n (pc := 53) (i := 0) d_Dy_pass_53 rfl rfl (by decide) ?_
  refine mj_getR (pc := 54) d_Dy_pass_54 fl_Dy_18 sh_23 rfl rfl (by decide) (by decide) (by decide) ?_
  refine mj_aload_n (pc := 57) (i := 1) d_Dy_pass_57 rfl rfl (by decide) ?_
  obtain ⟨C17, hb18, h⟩ := bd1_some h
  refine mj_callV (pc := 58) (b := 25) (vs := [.ref 1]) (st := []) d_Dy_pass_58 bB_Dy_pass_Mt_open lk_Dy_42 iv_Mt_open rc_25 rfl (Nat.le_of_ble_eq_true rfl) (Nat.le_of_ble_eq_true rfl) (r_Mt_open hb18) ?_
  show mj_R M_Dy_pass 61 [some (.ref 23), some (.ref 1), none, none] [] (SH, jn C17 D) none (SH, jn (C') D)
  refine mj_aload_n (pc := 61) (i := 1) d_Dy_pass_61 rfl rfl (by decide) ?_
  refine mj_getR (pc := 62) d_Dy_pass_62 fl_Dy_45 sh_1 rfl rfl (by decide) (by decide) (by decide) ?_
  refine mj_aload_n (pc := 65) (i := 1) d_Dy_pass_65 rfl rfl (by decide) ?_
  obtain ⟨C19, hb20, h⟩ := bd1_some h
  refine mj_callV (pc := 66) (b := 15) (vs := [.ref 1]) (st := []) d_Dy_pass_66 bB_Dy_pass_Ln_fallDue lk_Dy_49 iv_Ln_fallDue rc_15 rfl (Nat.le_of_ble_eq_true rfl) (Nat.le_of_ble_eq_true rfl) (r_Ln_fallDue hb20) ?_
  show mj_R M_Dy_pass 69 [some (.ref 23), some (.ref 1), none, none] [] (SH, jn C19 D) none (SH, jn (C') D)
  refine mj_iconst (pc := 69) (v := 0) d_Dy_pass_69 (by decide) ?_
  refine mj_istore_n (pc := 70) (i := 2) d_Dy_pass_70 rfl rfl (by decide) ?_
  obtain ⟨C29, hl30, h⟩ := bd1_some h
  refine mj_weak [none, some (.ref 1), some (.int 0), none] (And.intro rfl (And.intro rfl trivial)) (l_Dy_pass_71 3000 _ _ _ hl30 ?_)
  refine mj_aload_n (pc := 111) (i := 1) d_Dy_pass_111 rfl rfl (by decide) ?_
  refine mj_dup (pc := 112) d_Dy_pass_112 rfl ?_
  refine cj_getI (pc := 113) d_Dy_pass_113 fl_Dy_77 sh_1 rfl (by decide) (by decide) (by decide) ?_
  refine mj_iconst (pc := 116) (v := 1) d_Dy_pass_116 (by decide) ?_
  refine mj_iadd (pc := 117) d_Dy_pass_117 ?_
  refine cj_putI (pc := 118) d_Dy_pass_118 fl_Dy_77 sh_1 rfl (fun _ _ _ h => by cases h; rfl) (by decide) (by decide) (by decide) ?_
  obtain e_1 := inj1 h
  subst e_1
  exact mj_vret (pc := 121) d_Dy_pass_121 rfl
set_option maxRecDepth 20000 in
theorem l_Mk_live_30 {r : Option Value} {D y : St} : ∀ (n : Nat) (y1 : Int32) (y2 : Int32) (C : St) (Q_ : St), L_Mk_live_30 n y1 y2 C = some Q_ → mj_R M_Mk_live 52 [some (.ref 0), none, none] [] (SH, jn Q_ D) r (SH, y) → mj_R M_Mk_live 30 [some (.ref 0), some (.int y1), some (.int y2)] [] (SH, jn C D) r (SH, y) := by
  intro n
  induction n with
  | zero => intro y1 y2 C Q_ h; cases h
  | succ n ih =>
    intro y1 y2 C Q_ h hX
    unfold L_Mk_live_30 at h
    refine mj_iload_n (pc := 30) (i := 2) d_Mk_live_30 rfl rfl ?_
    refine mj_iload_n (pc := 31) (i := 1) d_Mk_live_31 rfl rfl ?_
    refine mj_icmp_ge (pc := 32) (tgt := 52) d_Mk_live_32 (by decide) mj_hs (fun hc5 => ?_) (fun hc5 => ?_)
    · rw [if_pos hc5] at h
      obtain e_1 := inj1 h
      subst e_1
      exact mj_wk hX (And.intro rfl trivial)
    · rw [if_neg hc5] at h
      refine mj_aload_n (pc := 35) (i := 0) d_Mk_live_35 rfl rfl (by decide) ?_
      refine mj_getR (pc := 36) d_Mk_live_36 fl_Mk_41 sh_0 rfl rfl (by decide) (by decide) (by decide) ?_
      refine mj_aload_n (pc := 39) (i := 0) d_Mk_live_39 rfl rfl (by decide) ?_
      refine mj_getR (pc := 40) d_Mk_live_40 fl_Mk_12 sh_0 rfl rfl (by decide) (by decide) (by decide) ?_
      obtain ⟨C6, hb7, h⟩ := bd1_some h
      refine mj_callV (pc := 43) (b := 23) (vs := [.ref 1]) (st := []) d_Mk_live_43 bB_Mk_live_Dy_pass lk_Mk_142 iv_Dy_pass rc_23 rfl (Nat.le_of_ble_eq_true rfl) (Nat.le_of_ble_eq_true rfl) (r_Dy_pass hb7) ?_
      show mj_R M_Mk_live 46 [some (.ref 0), some (.int y1), some (.int y2)] [] (SH, jn C6 D) r (SH, y)
      refine mj_iinc (pc := 46) (i := 2) (v := y2 + 1) d_Mk_live_46 rfl (by rfl) rfl (by decide) ?_
      refine mj_goto (pc := 49) (tgt := 30) d_Mk_live_49 (by decide) ?_
      exact mj_weak [some (.ref 0), some (.int y1), some (.int (y2 + 1))] (And.intro rfl (And.intro rfl (And.intro rfl trivial))) (ih _ _ _ _ h hX)
set_option maxRecDepth 20000 in
theorem r_Mk_live {x1 : Int32} {C0 D : St} {v : Int32} {C' : St} (h : f_Mk_live x1 C0 = some (v, C')) : mj_R M_Mk_live 0 (mj_lv M_Mk_live.2.2.1 [.ref 0, .int x1]) [] (SH, jn C0 D) (some (.int v)) (SH, jn (C') D) := by
  show mj_R M_Mk_live 0 [some (.ref 0), some (.int x1), none] [] _ _ _
  unfold f_Mk_live at h
  refine mj_iload_n (pc := 0) (i := 1) d_Mk_live_0 rfl rfl ?_
  refine mj_iconst (pc := 1) (v := 1) d_Mk_live_1 (by decide) ?_
  refine mj_bipush (pc := 2) (v := 30) d_Mk_live_2 (by decide) ?_
  obtain ⟨v1, hb2, h⟩ := bd1_some h
  refine mj_callS (pc := 4) (vs := [.int x1, .int 1, .int 30]) (st := []) d_Mk_live_4 bB_Mk_live_Mk_isWithin lk_Mk_50 st_Mk_isWithin rfl (Nat.le_of_ble_eq_true rfl) (Nat.le_of_ble_eq_true rfl) (r_Mk_isWithin hb2) ?_
  show mj_R M_Mk_live 7 [some (.ref 0), some (.int x1), none] [.int v1] (SH, jn C0 D) (some (.int v)) (SH, jn (C') D)
  refine mj_if_eq (y := 0) (pc := 7) (tgt := 25) d_Mk_live_7 (by decide) mj_hs (fun hc3 => ?_) (fun hc3 => ?_)
  · rw [if_pos hc3] at h
    refine mj_ldc (pc := 25) (v := -1000000001) d_Mk_live_25 k_Mk_54 ?_
    obtain ⟨e_1, e_2⟩ := inj2 h
    subst e_1
    subst e_2
    exact mj_iret (pc := 27) d_Mk_live_27 rfl
  · rw [if_neg hc3] at h
    refine mj_aload_n (pc := 10) (i := 0) d_Mk_live_10 rfl rfl (by decide) ?_
    refine mj_getR (pc := 11) d_Mk_live_11 fl_Mk_12 sh_0 rfl rfl (by decide) (by decide) (by decide) ?_
    refine cj_getI (pc := 14) d_Mk_live_14 fl_Mk_139 sh_1 rfl (by decide) (by decide) (by decide) ?_
    refine mj_iload_n (pc := 17) (i := 1) d_Mk_live_17 rfl rfl ?_
    refine mj_iadd (pc := 18) d_Mk_live_18 ?_
    refine mj_sipush (pc := 19) (v := 700) d_Mk_live_19 (by decide) ?_
    refine mj_icmp_le (pc := 22) (tgt := 28) d_Mk_live_22 (by decide) mj_hs (fun hc4 => ?_) (fun hc4 => ?_)
    · rw [if_pos hc4] at h
      refine mj_iconst (pc := 28) (v := 0) d_Mk_live_28 (by decide) ?_
      refine mj_istore_n (pc := 29) (i := 2) d_Mk_live_29 rfl rfl (by decide) ?_
      obtain ⟨C8, hl9, h⟩ := bd1_some h
      refine mj_weak [some (.ref 0), some (.int x1), some (.int 0)] (And.intro rfl (And.intro rfl (And.intro rfl trivial))) (l_Mk_live_30 3000 _ _ _ _ hl9 ?_)
      refine mj_aload_n (pc := 52) (i := 0) d_Mk_live_52 rfl rfl (by decide) ?_
      refine mj_getR (pc := 53) d_Mk_live_53 fl_Mk_12 sh_0 rfl rfl (by decide) (by decide) (by decide) ?_
      refine cj_getI (pc := 56) d_Mk_live_56 fl_Mk_139 sh_1 rfl (by decide) (by decide) (by decide) ?_
      obtain ⟨e_1, e_2⟩ := inj2 h
      subst e_1
      subst e_2
      exact mj_iret (pc := 59) d_Mk_live_59 rfl
    · rw [if_neg hc4] at h
      refine mj_ldc (pc := 25) (v := -1000000001) d_Mk_live_25 k_Mk_54 ?_
      obtain ⟨e_1, e_2⟩ := inj2 h
      subst e_1
      subst e_2
      exact mj_iret (pc := 27) d_Mk_live_27 rfl
set_option maxRecDepth 20000 in
theorem r_Mk_about {x1 : Int32} {x2 : Int32} {C0 D : St} {v : Int32} (h : f_Mk_about x1 x2 C0 = some v) : mj_R M_Mk_about 0 (mj_lv M_Mk_about.2.2.1 [.ref 0, .int x1, .int x2]) [] (SH, jn C0 D) (some (.int v)) (SH, jn C0 D) := by
  show mj_R M_Mk_about 0 [some (.ref 0), some (.int x1), some (.int x2)] [] _ _ _
  unfold f_Mk_about at h
  refine mj_aload_n (pc := 0) (i := 0) d_Mk_about_0 rfl rfl (by decide) ?_
  refine mj_getR (pc := 1) d_Mk_about_1 fl_Mk_12 sh_0 rfl rfl (by decide) (by decide) (by decide) ?_
  refine mj_iload_n (pc := 4) (i := 1) d_Mk_about_4 rfl rfl ?_
  obtain ⟨v1, hb2, h⟩ := bd1_some h
  refine mj_callV (pc := 5) (b := 1) (vs := [.int x1]) (st := []) d_Mk_about_5 bB_Mk_about_Tw_isThere lk_Mk_64 iv_Tw_isThere rc_1 rfl (Nat.le_of_ble_eq_true rfl) (Nat.le_of_ble_eq_true rfl) (r_Tw_isThere hb2) ?_
  show mj_R M_Mk_about 8 [some (.ref 0), some (.int x1), some (.int x2)] [.int v1] (SH, jn C0 D) (some (.int v)) (SH, jn C0 D)
  refine mj_if_ne (y := 0) (pc := 8) (tgt := 14) d_Mk_about_8 (by decide) mj_hs (fun hc3 => ?_) (fun hc3 => ?_)
  · rw [if_neg hc3] at h
    refine mj_iload_n (pc := 14) (i := 2) d_Mk_about_14 rfl rfl ?_
    by_cases hc4 : x2 = 0
    · rw [if_pos hc4] at h
      refine mj_tsEq (pc := 15) (tgt := 56) 0 d_Mk_about_15 hc4 (by decide) (by decide) (by rfl) (by decide) ?_
      refine mj_aload_n (pc := 56) (i := 0) d_Mk_about_56 rfl rfl (by decide) ?_
      refine mj_getR (pc := 57) d_Mk_about_57 fl_Mk_12 sh_0 rfl rfl (by decide) (by decide) (by decide) ?_
      refine mj_getR (pc := 60) d_Mk_about_60 fl_Mk_146 sh_1 rfl rfl (by decide) (by decide) (by decide) ?_
      refine mj_iload_n (pc := 63) (i := 1) d_Mk_about_63 rfl rfl ?_
      obtain ⟨hg11, h⟩ := mj_gd h
      refine cj_iald (pc := 64) d_Mk_about_64 sh_2 (by decide) hg11 (by decide) ?_
      obtain e_1 := inj1 h
      subst e_1
      exact mj_iret (pc := 65) d_Mk_about_65 rfl
    · rw [if_neg hc4] at h
      by_cases hc5 : x2 = 1
      · rw [if_pos hc5] at h
        refine mj_tsEq (pc := 15) (tgt := 66) 1 d_Mk_about_15 hc5 (by decide) (by decide) (by rfl) (by decide) ?_
        refine mj_aload_n (pc := 66) (i := 0) d_Mk_about_66 rfl rfl (by decide) ?_
        refine mj_getR (pc := 67) d_Mk_about_67 fl_Mk_12 sh_0 rfl rfl (by decide) (by decide) (by decide) ?_
        refine mj_getR (pc := 70) d_Mk_about_70 fl_Mk_149 sh_1 rfl rfl (by decide) (by decide) (by decide) ?_
        refine mj_iload_n (pc := 73) (i := 1) d_Mk_about_73 rfl rfl ?_
        obtain ⟨hg12, h⟩ := mj_gd h
        refine cj_iald (pc := 74) d_Mk_about_74 sh_3 (by decide) hg12 (by decide) ?_
        obtain e_1 := inj1 h
        subst e_1
        exact mj_iret (pc := 75) d_Mk_about_75 rfl
      · rw [if_neg hc5] at h
        by_cases hc6 : x2 = 2
        · rw [if_pos hc6] at h
          refine mj_tsEq (pc := 15) (tgt := 76) 2 d_Mk_about_15 hc6 (by decide) (by decide) (by rfl) (by decide) ?_
          refine mj_aload_n (pc := 76) (i := 0) d_Mk_about_76 rfl rfl (by decide) ?_
          refine mj_getR (pc := 77) d_Mk_about_77 fl_Mk_12 sh_0 rfl rfl (by decide) (by decide) (by decide) ?_
          refine mj_getR (pc := 80) d_Mk_about_80 fl_Mk_152 sh_1 rfl rfl (by decide) (by decide) (by decide) ?_
          refine mj_iload_n (pc := 83) (i := 1) d_Mk_about_83 rfl rfl ?_
          obtain ⟨hg13, h⟩ := mj_gd h
          refine cj_iald (pc := 84) d_Mk_about_84 sh_4 (by decide) hg13 (by decide) ?_
          obtain e_1 := inj1 h
          subst e_1
          exact mj_iret (pc := 85) d_Mk_about_85 rfl
        · rw [if_neg hc6] at h
          by_cases hc7 : x2 = 3
          · rw [if_pos hc7] at h
            refine mj_tsEq (pc := 15) (tgt := 86) 3 d_Mk_about_15 hc7 (by decide) (by decide) (by rfl) (by decide) ?_
            refine mj_aload_n (pc := 86) (i := 0) d_Mk_about_86 rfl rfl (by decide) ?_
            refine mj_getR (pc := 87) d_Mk_about_87 fl_Mk_12 sh_0 rfl rfl (by decide) (by decide) (by decide) ?_
            refine mj_getR (pc := 90) d_Mk_about_90 fl_Mk_123 sh_1 rfl rfl (by decide) (by decide) (by decide) ?_
            refine mj_getR (pc := 93) d_Mk_about_93 fl_Mk_155 sh_12 rfl rfl (by decide) (by decide) (by decide) ?_
            refine mj_iload_n (pc := 96) (i := 1) d_Mk_about_96 rfl rfl ?_
            obtain ⟨hg14, h⟩ := mj_gd h
            refine cj_iald (pc := 97) d_Mk_about_97 sh_13 (by decide) hg14 (by decide) ?_
            obtain e_1 := inj1 h
            subst e_1
            exact mj_iret (pc := 98) d_Mk_about_98 rfl
          · rw [if_neg hc7] at h
            by_cases hc8 : x2 = 4
            · rw [if_pos hc8] at h
              refine mj_tsEq (pc := 15) (tgt := 99) 4 d_Mk_about_15 hc8 (by decide) (by decide) (by rfl) (by decide) ?_
              refine mj_aload_n (pc := 99) (i := 0) d_Mk_about_99 rfl rfl (by decide) ?_
              refine mj_getR (pc := 100) d_Mk_about_100 fl_Mk_12 sh_0 rfl rfl (by decide) (by decide) (by decide) ?_
              refine mj_getR (pc := 103) d_Mk_about_103 fl_Mk_158 sh_1 rfl rfl (by decide) (by decide) (by decide) ?_
              refine mj_iconst (pc := 106) (v := 1) d_Mk_about_106 (by decide) ?_
              refine mj_iload_n (pc := 107) (i := 1) d_Mk_about_107 rfl rfl ?_
              obtain ⟨v15, hb16, h⟩ := bd1_some h
              refine mj_callV (pc := 108) (b := 15) (vs := [.int 1, .int x1]) (st := []) d_Mk_about_108 bB_Mk_about_Ln_owedWhere lk_Mk_164 iv_Ln_owedWhere rc_15 rfl (Nat.le_of_ble_eq_true rfl) (Nat.le_of_ble_eq_true rfl) (r_Ln_owedWhere hb16) ?_
              show mj_R M_Mk_about 111 [some (.ref 0), some (.int x1), some (.int x2)] [.int v15] (SH, jn C0 D) (some (.int v)) (SH, jn C0 D)
              obtain e_1 := inj1 h
              subst e_1
              exact mj_iret (pc := 111) d_Mk_about_111 rfl
            · rw [if_neg hc8] at h
              by_cases hc9 : x2 = 5
              · rw [if_pos hc9] at h
                refine mj_tsEq (pc := 15) (tgt := 112) 5 d_Mk_about_15 hc9 (by decide) (by decide) (by rfl) (by decide) ?_
                refine mj_aload_n (pc := 112) (i := 0) d_Mk_about_112 rfl rfl (by decide) ?_
                refine mj_getR (pc := 113) d_Mk_about_113 fl_Mk_12 sh_0 rfl rfl (by decide) (by decide) (by decide) ?_
                refine mj_getR (pc := 116) d_Mk_about_116 fl_Mk_158 sh_1 rfl rfl (by decide) (by decide) (by decide) ?_
                refine mj_iconst (pc := 119) (v := 0) d_Mk_about_119 (by decide) ?_
                refine mj_iload_n (pc := 120) (i := 1) d_Mk_about_120 rfl rfl ?_
                obtain ⟨v17, hb18, h⟩ := bd1_some h
                refine mj_callV (pc := 121) (b := 15) (vs := [.int 0, .int x1]) (st := []) d_Mk_about_121 bB_Mk_about_Ln_owedWhere lk_Mk_164 iv_Ln_owedWhere rc_15 rfl (Nat.le_of_ble_eq_true rfl) (Nat.le_of_ble_eq_true rfl) (r_Ln_owedWhere hb18) ?_
                show mj_R M_Mk_about 124 [some (.ref 0), some (.int x1), some (.int x2)] [.int v17] (SH, jn C0 D) (some (.int v)) (SH, jn C0 D)
                obtain e_1 := inj1 h
                subst e_1
                exact mj_iret (pc := 124) d_Mk_about_124 rfl
              · rw [if_neg hc9] at h
                by_cases hc10 : x2 = 6
                · rw [if_pos hc10] at h
                  refine mj_tsEq (pc := 15) (tgt := 125) 6 d_Mk_about_15 hc10 (by decide) (by decide) (by rfl) (by decide) ?_
                  refine mj_aload_n (pc := 125) (i := 0) d_Mk_about_125 rfl rfl (by decide) ?_
                  refine mj_getR (pc := 126) d_Mk_about_126 fl_Mk_12 sh_0 rfl rfl (by decide) (by decide) (by decide) ?_
                  refine mj_getR (pc := 129) d_Mk_about_129 fl_Mk_167 sh_1 rfl rfl (by decide) (by decide) (by decide) ?_
                  refine mj_iload_n (pc := 132) (i := 1) d_Mk_about_132 rfl rfl ?_
                  obtain ⟨hg19, h⟩ := mj_gd h
                  refine cj_iald (pc := 133) d_Mk_about_133 sh_5 (by decide) hg19 (by decide) ?_
                  obtain e_1 := inj1 h
                  subst e_1
                  exact mj_iret (pc := 134) d_Mk_about_134 rfl
                · rw [if_neg hc10] at h
                  refine mj_tableOut (pc := 15) (tgt := 135) d_Mk_about_15 (by have q0 := i32_ne (n := 0) (by decide) hc4; have q1 := i32_ne (n := 1) (by decide) hc5; have q2 := i32_ne (n := 2) (by decide) hc6; have q3 := i32_ne (n := 3) (by decide) hc7; have q4 := i32_ne (n := 4) (by decide) hc8; have q5 := i32_ne (n := 5) (by decide) hc9; have q6 := i32_ne (n := 6) (by decide) hc10; omega) (by decide) ?_
                  refine mj_ldc (pc := 135) (v := -1000000001) d_Mk_about_135 k_Mk_54 ?_
                  obtain e_1 := inj1 h
                  subst e_1
                  exact mj_iret (pc := 137) d_Mk_about_137 rfl
  · rw [if_pos hc3] at h
    refine mj_ldc (pc := 11) (v := -1000000001) d_Mk_about_11 k_Mk_54 ?_
    obtain e_1 := inj1 h
    subst e_1
    exact mj_iret (pc := 13) d_Mk_about_13 rfl
set_option maxRecDepth 20000 in
theorem r_Mk_isOf {x1 : Int32} {x2 : Int32} {C0 D : St} {v : Int32} (h : f_Mk_isOf x1 x2 C0 = some v) : mj_R M_Mk_isOf 0 (mj_lv M_Mk_isOf.2.2.1 [.ref 0, .int x1, .int x2]) [] (SH, jn C0 D) (some (.int v)) (SH, jn C0 D) := by
  show mj_R M_Mk_isOf 0 [some (.ref 0), some (.int x1), some (.int x2)] [] _ _ _
  unfold f_Mk_isOf at h
  refine mj_aload_n (pc := 0) (i := 0) d_Mk_isOf_0 rfl rfl (by decide) ?_
  refine mj_getR (pc := 1) d_Mk_isOf_1 fl_Mk_12 sh_0 rfl rfl (by decide) (by decide) (by decide) ?_
  refine mj_iload_n (pc := 4) (i := 1) d_Mk_isOf_4 rfl rfl ?_
  obtain ⟨v1, hb2, h⟩ := bd1_some h
  refine mj_callV (pc := 5) (b := 1) (vs := [.int x1]) (st := []) d_Mk_isOf_5 bB_Mk_isOf_Tw_isThere lk_Mk_64 iv_Tw_isThere rc_1 rfl (Nat.le_of_ble_eq_true rfl) (Nat.le_of_ble_eq_true rfl) (r_Tw_isThere hb2) ?_
  show mj_R M_Mk_isOf 8 [some (.ref 0), some (.int x1), some (.int x2)] [.int v1] (SH, jn C0 D) (some (.int v)) (SH, jn C0 D)
  refine mj_if_eq (y := 0) (pc := 8) (tgt := 18) d_Mk_isOf_8 (by decide) mj_hs (fun hc3 => ?_) (fun hc3 => ?_)
  · rw [if_pos hc3] at h
    refine mj_ldc (pc := 18) (v := -1000000001) d_Mk_isOf_18 k_Mk_54 ?_
    obtain e_1 := inj1 h
    subst e_1
    exact mj_iret (pc := 20) d_Mk_isOf_20 rfl
  · rw [if_neg hc3] at h
    refine mj_iload_n (pc := 11) (i := 2) d_Mk_isOf_11 rfl rfl ?_
    obtain ⟨v4, hb5, h⟩ := bd1_some h
    refine mj_callS (pc := 12) (vs := [.int x2]) (st := []) d_Mk_isOf_12 bB_Mk_isOf_Mk_isKind lk_Mk_45 st_Mk_isKind rfl (Nat.le_of_ble_eq_true rfl) (Nat.le_of_ble_eq_true rfl) (r_Mk_isKind hb5) ?_
    show mj_R M_Mk_isOf 15 [some (.ref 0), some (.int x1), some (.int x2)] [.int v4] (SH, jn C0 D) (some (.int v)) (SH, jn C0 D)
    refine mj_if_ne (y := 0) (pc := 15) (tgt := 21) d_Mk_isOf_15 (by decide) mj_hs (fun hc6 => ?_) (fun hc6 => ?_)
    · rw [if_neg hc6] at h
      refine mj_aload_n (pc := 21) (i := 0) d_Mk_isOf_21 rfl rfl (by decide) ?_
      refine mj_getR (pc := 22) d_Mk_isOf_22 fl_Mk_12 sh_0 rfl rfl (by decide) (by decide) (by decide) ?_
      refine mj_iload_n (pc := 25) (i := 1) d_Mk_isOf_25 rfl rfl ?_
      refine mj_iload_n (pc := 26) (i := 2) d_Mk_isOf_26 rfl rfl ?_
      obtain ⟨v7, hb8, h⟩ := bd1_some h
      refine mj_callV (pc := 27) (b := 1) (vs := [.int x1, .int x2]) (st := []) d_Mk_isOf_27 bB_Mk_isOf_Tw_belongs lk_Mk_170 iv_Tw_belongs rc_1 rfl (Nat.le_of_ble_eq_true rfl) (Nat.le_of_ble_eq_true rfl) (r_Tw_belongs hb8) ?_
      show mj_R M_Mk_isOf 30 [some (.ref 0), some (.int x1), some (.int x2)] [.int v7] (SH, jn C0 D) (some (.int v)) (SH, jn C0 D)
      have k10 : mj_R M_Mk_isOf 38 [none, none, none] [.int (if v7 = 0 then 0 else 1 : Int32)] (SH, jn C0 D) (some (.int v)) (SH, jn C0 D) := by
        obtain e_1 := inj1 h
        subst e_1
        exact mj_iret (pc := 38) d_Mk_isOf_38 rfl
      refine mj_if_eq (y := 0) (pc := 30) (tgt := 37) d_Mk_isOf_30 (by decide) mj_hs (fun hc9 => ?_) (fun hc9 => ?_)
      · refine mj_iconst (pc := 37) (v := 0) d_Mk_isOf_37 (by decide) ?_
        try simp only [if_pos hc9] at k10
        exact mj_wk k10 trivial
      · refine mj_iconst (pc := 33) (v := 1) d_Mk_isOf_33 (by decide) ?_
        refine mj_goto (pc := 34) (tgt := 38) d_Mk_isOf_34 (by decide) ?_
        try simp only [if_neg hc9] at k10
        exact mj_wk k10 trivial
    · rw [if_pos hc6] at h
      refine mj_ldc (pc := 18) (v := -1000000001) d_Mk_isOf_18 k_Mk_54 ?_
      obtain e_1 := inj1 h
      subst e_1
      exact mj_iret (pc := 20) d_Mk_isOf_20 rfl
set_option maxRecDepth 20000 in
theorem r_Sk_ofAge {x1 : Int32} {x2 : Int32} {x3 : Int32} {C0 D : St} {v : Int32} (h : f_Sk_ofAge x1 x2 x3 C0 = some v) : mj_R M_Sk_ofAge 0 (mj_lv M_Sk_ofAge.2.2.1 [.ref 7, .int x1, .int x2, .int x3]) [] (SH, jn C0 D) (some (.int v)) (SH, jn C0 D) := by
  show mj_R M_Sk_ofAge 0 [some (.ref 7), some (.int x1), some (.int x2), some (.int x3)] [] _ _ _
  unfold f_Sk_ofAge at h
  refine mj_aload_n (pc := 0) (i := 0) d_Sk_ofAge_0 rfl rfl (by decide) ?_
  refine mj_getR (pc := 1) d_Sk_ofAge_1 fl_Sk_9 sh_7 rfl rfl (by decide) (by decide) (by decide) ?_
  refine mj_iload_n (pc := 4) (i := 1) d_Sk_ofAge_4 rfl rfl ?_
  refine mj_iconst (pc := 5) (v := 5) d_Sk_ofAge_5 (by decide) ?_
  refine mj_imul (pc := 6) d_Sk_ofAge_6 ?_
  refine mj_iload_n (pc := 7) (i := 2) d_Sk_ofAge_7 rfl rfl ?_
  refine mj_iadd (pc := 8) d_Sk_ofAge_8 ?_
  refine mj_bipush (pc := 9) (v := 10) d_Sk_ofAge_9 (by decide) ?_
  refine mj_imul (pc := 11) d_Sk_ofAge_11 ?_
  refine mj_iload_n (pc := 12) (i := 3) d_Sk_ofAge_12 rfl rfl ?_
  refine mj_iadd (pc := 13) d_Sk_ofAge_13 ?_
  obtain ⟨hg1, h⟩ := mj_gd h
  refine cj_iald (pc := 14) d_Sk_ofAge_14 sh_8 (by decide) hg1 (by decide) ?_
  obtain e_1 := inj1 h
  subst e_1
  exact mj_iret (pc := 15) d_Sk_ofAge_15 rfl
set_option maxRecDepth 20000 in
theorem r_Mk_has {x1 : Int32} {x2 : Int32} {x3 : Int32} {C0 D : St} {v : Int32} (h : f_Mk_has x1 x2 x3 C0 = some v) : mj_R M_Mk_has 0 (mj_lv M_Mk_has.2.2.1 [.ref 0, .int x1, .int x2, .int x3]) [] (SH, jn C0 D) (some (.int v)) (SH, jn C0 D) := by
  show mj_R M_Mk_has 0 [some (.ref 0), some (.int x1), some (.int x2), some (.int x3)] [] _ _ _
  unfold f_Mk_has at h
  refine mj_aload_n (pc := 0) (i := 0) d_Mk_has_0 rfl rfl (by decide) ?_
  refine mj_getR (pc := 1) d_Mk_has_1 fl_Mk_12 sh_0 rfl rfl (by decide) (by decide) (by decide) ?_
  refine mj_iload_n (pc := 4) (i := 1) d_Mk_has_4 rfl rfl ?_
  obtain ⟨v1, hb2, h⟩ := bd1_some h
  refine mj_callV (pc := 5) (b := 1) (vs := [.int x1]) (st := []) d_Mk_has_5 bB_Mk_has_Tw_isThere lk_Mk_64 iv_Tw_isThere rc_1 rfl (Nat.le_of_ble_eq_true rfl) (Nat.le_of_ble_eq_true rfl) (r_Tw_isThere hb2) ?_
  show mj_R M_Mk_has 8 [some (.ref 0), some (.int x1), some (.int x2), some (.int x3)] [.int v1] (SH, jn C0 D) (some (.int v)) (SH, jn C0 D)
  refine mj_if_eq (y := 0) (pc := 8) (tgt := 28) d_Mk_has_8 (by decide) mj_hs (fun hc3 => ?_) (fun hc3 => ?_)
  · rw [if_pos hc3] at h
    refine mj_ldc (pc := 28) (v := -1000000001) d_Mk_has_28 k_Mk_54 ?_
    obtain e_1 := inj1 h
    subst e_1
    exact mj_iret (pc := 30) d_Mk_has_30 rfl
  · rw [if_neg hc3] at h
    refine mj_iload_n (pc := 11) (i := 2) d_Mk_has_11 rfl rfl ?_
    obtain ⟨v4, hb5, h⟩ := bd1_some h
    refine mj_callS (pc := 12) (vs := [.int x2]) (st := []) d_Mk_has_12 bB_Mk_has_Mk_isGood lk_Mk_67 st_Mk_isGood rfl (Nat.le_of_ble_eq_true rfl) (Nat.le_of_ble_eq_true rfl) (r_Mk_isGood hb5) ?_
    show mj_R M_Mk_has 15 [some (.ref 0), some (.int x1), some (.int x2), some (.int x3)] [.int v4] (SH, jn C0 D) (some (.int v)) (SH, jn C0 D)
    refine mj_if_eq (y := 0) (pc := 15) (tgt := 28) d_Mk_has_15 (by decide) mj_hs (fun hc6 => ?_) (fun hc6 => ?_)
    · rw [if_pos hc6] at h
      refine mj_ldc (pc := 28) (v := -1000000001) d_Mk_has_28 k_Mk_54 ?_
      obtain e_1 := inj1 h
      subst e_1
      exact mj_iret (pc := 30) d_Mk_has_30 rfl
    · rw [if_neg hc6] at h
      refine mj_iload_n (pc := 18) (i := 3) d_Mk_has_18 rfl rfl ?_
      refine mj_iconst (pc := 19) (v := -1) d_Mk_has_19 (by decide) ?_
      refine mj_bipush (pc := 20) (v := 9) d_Mk_has_20 (by decide) ?_
      obtain ⟨v7, hb8, h⟩ := bd1_some h
      refine mj_callS (pc := 22) (vs := [.int x3, .int (-1), .int 9]) (st := []) d_Mk_has_22 bB_Mk_has_Mk_isWithin lk_Mk_50 st_Mk_isWithin rfl (Nat.le_of_ble_eq_true rfl) (Nat.le_of_ble_eq_true rfl) (r_Mk_isWithin hb8) ?_
      show mj_R M_Mk_has 25 [some (.ref 0), some (.int x1), some (.int x2), some (.int x3)] [.int v7] (SH, jn C0 D) (some (.int v)) (SH, jn C0 D)
      refine mj_if_ne (y := 0) (pc := 25) (tgt := 31) d_Mk_has_25 (by decide) mj_hs (fun hc9 => ?_) (fun hc9 => ?_)
      · rw [if_neg hc9] at h
        refine mj_iload_n (pc := 31) (i := 3) d_Mk_has_31 rfl rfl ?_
        obtain ⟨w15, hb17, h⟩ := bd1_some h
        have k16 : mj_R M_Mk_has 63 [none, none, none, none] [.int w15] (SH, jn C0 D) (some (.int v)) (SH, jn C0 D) := by
          obtain e_1 := inj1 h
          subst e_1
          exact mj_iret (pc := 63) d_Mk_has_63 rfl
        have h := hb17
        refine mj_if_ge (y := 0) (pc := 32) (tgt := 50) d_Mk_has_32 (by decide) mj_hs (fun hc10 => ?_) (fun hc10 => ?_)
        · rw [if_pos hc10] at h
          refine mj_aload_n (pc := 50) (i := 0) d_Mk_has_50 rfl rfl (by decide) ?_
          refine mj_getR (pc := 51) d_Mk_has_51 fl_Mk_12 sh_0 rfl rfl (by decide) (by decide) (by decide) ?_
          refine mj_getR (pc := 54) d_Mk_has_54 fl_Mk_70 sh_1 rfl rfl (by decide) (by decide) (by decide) ?_
          refine mj_iload_n (pc := 57) (i := 1) d_Mk_has_57 rfl rfl ?_
          refine mj_iload_n (pc := 58) (i := 2) d_Mk_has_58 rfl rfl ?_
          refine mj_iload_n (pc := 59) (i := 3) d_Mk_has_59 rfl rfl ?_
          obtain ⟨v11, hb12, h⟩ := bd1_some h
          refine mj_callV (pc := 60) (b := 7) (vs := [.int x1, .int x2, .int x3]) (st := []) d_Mk_has_60 bB_Mk_has_Sk_ofAge lk_Mk_174 iv_Sk_ofAge rc_7 rfl (Nat.le_of_ble_eq_true rfl) (Nat.le_of_ble_eq_true rfl) (r_Sk_ofAge hb12) ?_
          show mj_R M_Mk_has 63 [some (.ref 0), some (.int x1), some (.int x2), some (.int x3)] [.int v11] (SH, jn C0 D) (some (.int v)) (SH, jn C0 D)
          obtain e_1 := inj1 h
          subst e_1
          exact mj_wk k16 trivial
        · rw [if_neg hc10] at h
          refine mj_aload_n (pc := 35) (i := 0) d_Mk_has_35 rfl rfl (by decide) ?_
          refine mj_getR (pc := 36) d_Mk_has_36 fl_Mk_12 sh_0 rfl rfl (by decide) (by decide) (by decide) ?_
          refine mj_getR (pc := 39) d_Mk_has_39 fl_Mk_70 sh_1 rfl rfl (by decide) (by decide) (by decide) ?_
          refine mj_iload_n (pc := 42) (i := 1) d_Mk_has_42 rfl rfl ?_
          refine mj_iload_n (pc := 43) (i := 2) d_Mk_has_43 rfl rfl ?_
          obtain ⟨v13, hb14, h⟩ := bd1_some h
          refine mj_callV (pc := 44) (b := 7) (vs := [.int x1, .int x2]) (st := []) d_Mk_has_44 bB_Mk_has_Sk_all lk_Mk_80 iv_Sk_all rc_7 rfl (Nat.le_of_ble_eq_true rfl) (Nat.le_of_ble_eq_true rfl) (r_Sk_all hb14) ?_
          show mj_R M_Mk_has 47 [some (.ref 0), some (.int x1), some (.int x2), some (.int x3)] [.int v13] (SH, jn C0 D) (some (.int v)) (SH, jn C0 D)
          refine mj_goto (pc := 47) (tgt := 63) d_Mk_has_47 (by decide) ?_
          obtain e_1 := inj1 h
          subst e_1
          exact mj_wk k16 trivial
      · rw [if_pos hc9] at h
        refine mj_ldc (pc := 28) (v := -1000000001) d_Mk_has_28 k_Mk_54 ?_
        obtain e_1 := inj1 h
        subst e_1
        exact mj_iret (pc := 30) d_Mk_has_30 rfl
set_option maxRecDepth 20000 in
theorem r_Mk_told {x1 : Int32} {x2 : Int32} {x3 : Int32} {C0 D : St} {v : Int32} (h : f_Mk_told x1 x2 x3 C0 = some v) : mj_R M_Mk_told 0 (mj_lv M_Mk_told.2.2.1 [.ref 0, .int x1, .int x2, .int x3]) [] (SH, jn C0 D) (some (.int v)) (SH, jn C0 D) := by
  show mj_R M_Mk_told 0 [some (.ref 0), some (.int x1), some (.int x2), some (.int x3)] [] _ _ _
  unfold f_Mk_told at h
  refine mj_aload_n (pc := 0) (i := 0) d_Mk_told_0 rfl rfl (by decide) ?_
  refine mj_getR (pc := 1) d_Mk_told_1 fl_Mk_12 sh_0 rfl rfl (by decide) (by decide) (by decide) ?_
  refine mj_iload_n (pc := 4) (i := 1) d_Mk_told_4 rfl rfl ?_
  obtain ⟨v1, hb2, h⟩ := bd1_some h
  refine mj_callV (pc := 5) (b := 1) (vs := [.int x1]) (st := []) d_Mk_told_5 bB_Mk_told_Tw_isThere lk_Mk_64 iv_Tw_isThere rc_1 rfl (Nat.le_of_ble_eq_true rfl) (Nat.le_of_ble_eq_true rfl) (r_Tw_isThere hb2) ?_
  show mj_R M_Mk_told 8 [some (.ref 0), some (.int x1), some (.int x2), some (.int x3)] [.int v1] (SH, jn C0 D) (some (.int v)) (SH, jn C0 D)
  refine mj_if_eq (y := 0) (pc := 8) (tgt := 21) d_Mk_told_8 (by decide) mj_hs (fun hc3 => ?_) (fun hc3 => ?_)
  · rw [if_pos hc3] at h
    refine mj_ldc (pc := 21) (v := -1000000001) d_Mk_told_21 k_Mk_54 ?_
    obtain e_1 := inj1 h
    subst e_1
    exact mj_iret (pc := 23) d_Mk_told_23 rfl
  · rw [if_neg hc3] at h
    refine mj_iload_n (pc := 11) (i := 3) d_Mk_told_11 rfl rfl ?_
    refine mj_iconst (pc := 12) (v := 0) d_Mk_told_12 (by decide) ?_
    refine mj_bipush (pc := 13) (v := 8) d_Mk_told_13 (by decide) ?_
    obtain ⟨v4, hb5, h⟩ := bd1_some h
    refine mj_callS (pc := 15) (vs := [.int x3, .int 0, .int 8]) (st := []) d_Mk_told_15 bB_Mk_told_Mk_isWithin lk_Mk_50 st_Mk_isWithin rfl (Nat.le_of_ble_eq_true rfl) (Nat.le_of_ble_eq_true rfl) (r_Mk_isWithin hb5) ?_
    show mj_R M_Mk_told 18 [some (.ref 0), some (.int x1), some (.int x2), some (.int x3)] [.int v4] (SH, jn C0 D) (some (.int v)) (SH, jn C0 D)
    refine mj_if_ne (y := 0) (pc := 18) (tgt := 24) d_Mk_told_18 (by decide) mj_hs (fun hc6 => ?_) (fun hc6 => ?_)
    · rw [if_neg hc6] at h
      refine mj_iload_n (pc := 24) (i := 2) d_Mk_told_24 rfl rfl ?_
      refine mj_iconst (pc := 25) (v := 0) d_Mk_told_25 (by decide) ?_
      refine mj_aload_n (pc := 26) (i := 0) d_Mk_told_26 rfl rfl (by decide) ?_
      refine mj_getR (pc := 27) d_Mk_told_27 fl_Mk_12 sh_0 rfl rfl (by decide) (by decide) (by decide) ?_
      refine mj_getR (pc := 30) d_Mk_told_30 fl_Mk_123 sh_1 rfl rfl (by decide) (by decide) (by decide) ?_
      refine mj_getR (pc := 33) d_Mk_told_33 fl_Mk_155 sh_12 rfl rfl (by decide) (by decide) (by decide) ?_
      refine mj_iload_n (pc := 36) (i := 1) d_Mk_told_36 rfl rfl ?_
      obtain ⟨hg7, h⟩ := mj_gd h
      refine cj_iald (pc := 37) d_Mk_told_37 sh_13 (by decide) hg7 (by decide) ?_
      refine mj_iconst (pc := 38) (v := 1) d_Mk_told_38 (by decide) ?_
      refine mj_isub (pc := 39) d_Mk_told_39 ?_
      obtain ⟨v8, hb9, h⟩ := bd1_some h
      refine mj_callS (pc := 40) (vs := [.int x2, .int 0, .int ((C0 13 x1.toNatClampNeg) - 1)]) (st := []) d_Mk_told_40 bB_Mk_told_Mk_isWithin lk_Mk_50 st_Mk_isWithin rfl (Nat.le_of_ble_eq_true rfl) (Nat.le_of_ble_eq_true rfl) (r_Mk_isWithin hb9) ?_
      show mj_R M_Mk_told 43 [some (.ref 0), some (.int x1), some (.int x2), some (.int x3)] [.int v8] (SH, jn C0 D) (some (.int v)) (SH, jn C0 D)
      refine mj_if_ne (y := 0) (pc := 43) (tgt := 49) d_Mk_told_43 (by decide) mj_hs (fun hc10 => ?_) (fun hc10 => ?_)
      · rw [if_neg hc10] at h
        refine mj_aload_n (pc := 49) (i := 0) d_Mk_told_49 rfl rfl (by decide) ?_
        refine mj_getR (pc := 50) d_Mk_told_50 fl_Mk_12 sh_0 rfl rfl (by decide) (by decide) (by decide) ?_
        refine mj_getR (pc := 53) d_Mk_told_53 fl_Mk_123 sh_1 rfl rfl (by decide) (by decide) (by decide) ?_
        refine mj_iload_n (pc := 56) (i := 1) d_Mk_told_56 rfl rfl ?_
        refine mj_iload_n (pc := 57) (i := 2) d_Mk_told_57 rfl rfl ?_
        refine mj_iload_n (pc := 58) (i := 3) d_Mk_told_58 rfl rfl ?_
        obtain ⟨v11, hb12, h⟩ := bd1_some h
        refine mj_callV (pc := 59) (b := 12) (vs := [.int x1, .int x2, .int x3]) (st := []) d_Mk_told_59 bB_Mk_told_Rl_get lk_Mk_178 iv_Rl_get rc_12 rfl (Nat.le_of_ble_eq_true rfl) (Nat.le_of_ble_eq_true rfl) (r_Rl_get hb12) ?_
        show mj_R M_Mk_told 62 [some (.ref 0), some (.int x1), some (.int x2), some (.int x3)] [.int v11] (SH, jn C0 D) (some (.int v)) (SH, jn C0 D)
        obtain e_1 := inj1 h
        subst e_1
        exact mj_iret (pc := 62) d_Mk_told_62 rfl
      · rw [if_pos hc10] at h
        refine mj_ldc (pc := 46) (v := -1000000001) d_Mk_told_46 k_Mk_54 ?_
        obtain e_1 := inj1 h
        subst e_1
        exact mj_iret (pc := 48) d_Mk_told_48 rfl
    · rw [if_pos hc6] at h
      refine mj_ldc (pc := 21) (v := -1000000001) d_Mk_told_21 k_Mk_54 ?_
      obtain e_1 := inj1 h
      subst e_1
      exact mj_iret (pc := 23) d_Mk_told_23 rfl
set_option maxRecDepth 20000 in
theorem l_Sk_inTown_4 {r : Option Value} {D y : St} : ∀ (n : Nat) (y1 : Int32) (y2 : Int32) (y3 : Int32) (C : St) (o2_ : Int32), L_Sk_inTown_4 n y1 y2 y3 C = some o2_ → mj_R M_Sk_inTown 25 [none, none, some (.int o2_), none] [] (SH, jn C D) r (SH, y) → mj_R M_Sk_inTown 4 [some (.ref 7), some (.int y1), some (.int y2), some (.int y3)] [] (SH, jn C D) r (SH, y) := by
  intro n
  induction n with
  | zero => intro y1 y2 y3 C o2_ h; cases h
  | succ n ih =>
    intro y1 y2 y3 C o2_ h hX
    unfold L_Sk_inTown_4 at h
    refine mj_iload_n (pc := 4) (i := 3) d_Sk_inTown_4 rfl rfl ?_
    refine mj_bipush (pc := 5) (v := 12) d_Sk_inTown_5 (by decide) ?_
    refine mj_icmp_ge (pc := 7) (tgt := 25) d_Sk_inTown_7 (by decide) mj_hs (fun hc1 => ?_) (fun hc1 => ?_)
    · rw [if_pos hc1] at h
      obtain e_1 := inj1 h
      subst e_1
      exact mj_wk hX (And.intro rfl trivial)
    · rw [if_neg hc1] at h
      refine mj_iload_n (pc := 10) (i := 2) d_Sk_inTown_10 rfl rfl ?_
      refine mj_aload_n (pc := 11) (i := 0) d_Sk_inTown_11 rfl rfl (by decide) ?_
      refine mj_iload_n (pc := 12) (i := 3) d_Sk_inTown_12 rfl rfl ?_
      refine mj_iload_n (pc := 13) (i := 1) d_Sk_inTown_13 rfl rfl ?_
      obtain ⟨v2, hb3, h⟩ := bd1_some h
      refine mj_callV (pc := 14) (b := 7) (vs := [.int y3, .int y1]) (st := [.int y2]) d_Sk_inTown_14 bB_Sk_inTown_Sk_all lk_Sk_18 iv_Sk_all rc_7 rfl (Nat.le_of_ble_eq_true rfl) (Nat.le_of_ble_eq_true rfl) (r_Sk_all hb3) ?_
      show mj_R M_Sk_inTown 17 [some (.ref 7), some (.int y1), some (.int y2), some (.int y3)] [.int v2, .int y2] (SH, jn C D) r (SH, y)
      refine mj_iadd (pc := 17) d_Sk_inTown_17 ?_
      refine mj_istore_n (pc := 18) (i := 2) d_Sk_inTown_18 rfl rfl (by decide) ?_
      refine mj_iinc (pc := 19) (i := 3) (v := y3 + 1) d_Sk_inTown_19 rfl (by rfl) rfl (by decide) ?_
      refine mj_goto (pc := 22) (tgt := 4) d_Sk_inTown_22 (by decide) ?_
      exact mj_weak [some (.ref 7), some (.int y1), some (.int (y2 + v2)), some (.int (y3 + 1))] (And.intro rfl (And.intro rfl (And.intro rfl (And.intro rfl trivial)))) (ih _ _ _ _ _ h hX)
set_option maxRecDepth 20000 in
theorem r_Sk_inTown {x1 : Int32} {C0 D : St} {v : Int32} (h : f_Sk_inTown x1 C0 = some v) : mj_R M_Sk_inTown 0 (mj_lv M_Sk_inTown.2.2.1 [.ref 7, .int x1]) [] (SH, jn C0 D) (some (.int v)) (SH, jn C0 D) := by
  show mj_R M_Sk_inTown 0 [some (.ref 7), some (.int x1), none, none] [] _ _ _
  unfold f_Sk_inTown at h
  refine mj_iconst (pc := 0) (v := 0) d_Sk_inTown_0 (by decide) ?_
  refine mj_istore_n (pc := 1) (i := 2) d_Sk_inTown_1 rfl rfl (by decide) ?_
  refine mj_iconst (pc := 2) (v := 0) d_Sk_inTown_2 (by decide) ?_
  refine mj_istore_n (pc := 3) (i := 3) d_Sk_inTown_3 rfl rfl (by decide) ?_
  obtain ⟨o4, hl5, h⟩ := bd1_some h
  refine mj_weak [some (.ref 7), some (.int x1), some (.int 0), some (.int 0)] (And.intro rfl (And.intro rfl (And.intro rfl (And.intro rfl trivial)))) (l_Sk_inTown_4 3000 _ _ _ _ _ hl5 ?_)
  refine mj_iload_n (pc := 25) (i := 2) d_Sk_inTown_25 rfl rfl ?_
  obtain e_1 := inj1 h
  subst e_1
  exact mj_iret (pc := 26) d_Sk_inTown_26 rfl
set_option maxRecDepth 20000 in
theorem r_Mk_goods {x1 : Int32} {x2 : Int32} {C0 D : St} {v : Int32} (h : f_Mk_goods x1 x2 C0 = some v) : mj_R M_Mk_goods 0 (mj_lv M_Mk_goods.2.2.1 [.ref 0, .int x1, .int x2]) [] (SH, jn C0 D) (some (.int v)) (SH, jn C0 D) := by
  show mj_R M_Mk_goods 0 [some (.ref 0), some (.int x1), some (.int x2)] [] _ _ _
  unfold f_Mk_goods at h
  refine mj_iload_n (pc := 0) (i := 1) d_Mk_goods_0 rfl rfl ?_
  obtain ⟨v1, hb2, h⟩ := bd1_some h
  refine mj_callS (pc := 1) (vs := [.int x1]) (st := []) d_Mk_goods_1 bB_Mk_goods_Mk_isGood lk_Mk_67 st_Mk_isGood rfl (Nat.le_of_ble_eq_true rfl) (Nat.le_of_ble_eq_true rfl) (r_Mk_isGood hb2) ?_
  show mj_R M_Mk_goods 4 [some (.ref 0), some (.int x1), some (.int x2)] [.int v1] (SH, jn C0 D) (some (.int v)) (SH, jn C0 D)
  refine mj_if_eq (y := 0) (pc := 4) (tgt := 17) d_Mk_goods_4 (by decide) mj_hs (fun hc3 => ?_) (fun hc3 => ?_)
  · rw [if_pos hc3] at h
    refine mj_ldc (pc := 17) (v := -1000000001) d_Mk_goods_17 k_Mk_54 ?_
    obtain e_1 := inj1 h
    subst e_1
    exact mj_iret (pc := 19) d_Mk_goods_19 rfl
  · rw [if_neg hc3] at h
    refine mj_iload_n (pc := 7) (i := 2) d_Mk_goods_7 rfl rfl ?_
    refine mj_iconst (pc := 8) (v := 0) d_Mk_goods_8 (by decide) ?_
    refine mj_bipush (pc := 9) (v := 7) d_Mk_goods_9 (by decide) ?_
    obtain ⟨v4, hb5, h⟩ := bd1_some h
    refine mj_callS (pc := 11) (vs := [.int x2, .int 0, .int 7]) (st := []) d_Mk_goods_11 bB_Mk_goods_Mk_isWithin lk_Mk_50 st_Mk_isWithin rfl (Nat.le_of_ble_eq_true rfl) (Nat.le_of_ble_eq_true rfl) (r_Mk_isWithin hb5) ?_
    show mj_R M_Mk_goods 14 [some (.ref 0), some (.int x1), some (.int x2)] [.int v4] (SH, jn C0 D) (some (.int v)) (SH, jn C0 D)
    refine mj_if_ne (y := 0) (pc := 14) (tgt := 20) d_Mk_goods_14 (by decide) mj_hs (fun hc6 => ?_) (fun hc6 => ?_)
    · rw [if_neg hc6] at h
      refine mj_iload_n (pc := 20) (i := 2) d_Mk_goods_20 rfl rfl ?_
      refine mj_bipush (pc := 21) (v := 6) d_Mk_goods_21 (by decide) ?_
      obtain ⟨w12, hb14, h⟩ := bd1_some h
      have k13 : mj_R M_Mk_goods 52 [none, none, none] [.int w12] (SH, jn C0 D) (some (.int v)) (SH, jn C0 D) := by
        obtain e_1 := inj1 h
        subst e_1
        exact mj_iret (pc := 52) d_Mk_goods_52 rfl
      have h := hb14
      refine mj_icmp_gt (pc := 23) (tgt := 41) d_Mk_goods_23 (by decide) mj_hs (fun hc7 => ?_) (fun hc7 => ?_)
      · rw [if_pos hc7] at h
        refine mj_aload_n (pc := 41) (i := 0) d_Mk_goods_41 rfl rfl (by decide) ?_
        refine mj_getR (pc := 42) d_Mk_goods_42 fl_Mk_12 sh_0 rfl rfl (by decide) (by decide) (by decide) ?_
        refine mj_getR (pc := 45) d_Mk_goods_45 fl_Mk_70 sh_1 rfl rfl (by decide) (by decide) (by decide) ?_
        refine mj_iload_n (pc := 48) (i := 1) d_Mk_goods_48 rfl rfl ?_
        obtain ⟨v8, hb9, h⟩ := bd1_some h
        refine mj_callV (pc := 49) (b := 7) (vs := [.int x1]) (st := []) d_Mk_goods_49 bB_Mk_goods_Sk_inTown lk_Mk_183 iv_Sk_inTown rc_7 rfl (Nat.le_of_ble_eq_true rfl) (Nat.le_of_ble_eq_true rfl) (r_Sk_inTown hb9) ?_
        show mj_R M_Mk_goods 52 [some (.ref 0), some (.int x1), some (.int x2)] [.int v8] (SH, jn C0 D) (some (.int v)) (SH, jn C0 D)
        obtain e_1 := inj1 h
        subst e_1
        exact mj_wk k13 trivial
      · rw [if_neg hc7] at h
        refine mj_aload_n (pc := 26) (i := 0) d_Mk_goods_26 rfl rfl (by decide) ?_
        refine mj_getR (pc := 27) d_Mk_goods_27 fl_Mk_12 sh_0 rfl rfl (by decide) (by decide) (by decide) ?_
        refine mj_getR (pc := 30) d_Mk_goods_30 fl_Mk_83 sh_1 rfl rfl (by decide) (by decide) (by decide) ?_
        refine mj_iload_n (pc := 33) (i := 1) d_Mk_goods_33 rfl rfl ?_
        refine mj_iload_n (pc := 34) (i := 2) d_Mk_goods_34 rfl rfl ?_
        obtain ⟨v10, hb11, h⟩ := bd1_some h
        refine mj_callV (pc := 35) (b := 10) (vs := [.int x1, .int x2]) (st := []) d_Mk_goods_35 bB_Mk_goods_Wr_get lk_Mk_181 iv_Wr_get rc_10 rfl (Nat.le_of_ble_eq_true rfl) (Nat.le_of_ble_eq_true rfl) (r_Wr_get hb11) ?_
        show mj_R M_Mk_goods 38 [some (.ref 0), some (.int x1), some (.int x2)] [.int v10] (SH, jn C0 D) (some (.int v)) (SH, jn C0 D)
        refine mj_goto (pc := 38) (tgt := 52) d_Mk_goods_38 (by decide) ?_
        obtain e_1 := inj1 h
        subst e_1
        exact mj_wk k13 trivial
    · rw [if_pos hc6] at h
      refine mj_ldc (pc := 17) (v := -1000000001) d_Mk_goods_17 k_Mk_54 ?_
      obtain e_1 := inj1 h
      subst e_1
      exact mj_iret (pc := 19) d_Mk_goods_19 rfl
set_option maxRecDepth 20000 in
theorem l_Tw_paidInAll_5 {r : Option Value} {D y : St} : ∀ (n : Nat) (y1 : Int32) (y2 : Int32) (y3 : Int32) (y4 : Int32) (C : St) (o3_ : Int32), L_Tw_paidInAll_5 n y1 y2 y3 y4 C = some o3_ → mj_R M_Tw_paidInAll 32 [none, none, none, some (.int o3_), none] [] (SH, jn C D) r (SH, y) → mj_R M_Tw_paidInAll 5 [some (.ref 1), some (.int y1), some (.int y2), some (.int y3), some (.int y4)] [] (SH, jn C D) r (SH, y) := by
  intro n
  induction n with
  | zero => intro y1 y2 y3 y4 C o3_ h; cases h
  | succ n ih =>
    intro y1 y2 y3 y4 C o3_ h hX
    unfold L_Tw_paidInAll_5 at h
    refine mj_iload (pc := 5) (i := 4) d_Tw_paidInAll_5 rfl ?_
    refine mj_iconst (pc := 7) (v := 5) d_Tw_paidInAll_7 (by decide) ?_
    refine mj_icmp_ge (pc := 8) (tgt := 32) d_Tw_paidInAll_8 (by decide) mj_hs (fun hc1 => ?_) (fun hc1 => ?_)
    · rw [if_pos hc1] at h
      obtain e_1 := inj1 h
      subst e_1
      exact mj_wk hX (And.intro rfl trivial)
    · rw [if_neg hc1] at h
      refine mj_iload_n (pc := 11) (i := 3) d_Tw_paidInAll_11 rfl rfl ?_
      refine mj_aload_n (pc := 12) (i := 0) d_Tw_paidInAll_12 rfl rfl (by decide) ?_
      refine mj_getR (pc := 13) d_Tw_paidInAll_13 fl_Tw_28 sh_1 rfl rfl (by decide) (by decide) (by decide) ?_
      refine mj_iload_n (pc := 16) (i := 1) d_Tw_paidInAll_16 rfl rfl ?_
      refine mj_iload_n (pc := 17) (i := 2) d_Tw_paidInAll_17 rfl rfl ?_
      refine mj_iload (pc := 18) (i := 4) d_Tw_paidInAll_18 rfl ?_
      obtain ⟨v2, hb3, h⟩ := bd1_some h
      refine mj_callS (pc := 20) (vs := [.int y1, .int y2, .int y4]) (st := [.ref 6, .int y3]) d_Tw_paidInAll_20 bB_Tw_paidInAll_Tw_entry lk_Tw_67 st_Tw_entry rfl (Nat.le_of_ble_eq_true rfl) (Nat.le_of_ble_eq_true rfl) (r_Tw_entry hb3) ?_
      show mj_R M_Tw_paidInAll 23 [some (.ref 1), some (.int y1), some (.int y2), some (.int y3), some (.int y4)] [.int v2, .ref 6, .int y3] (SH, jn C D) r (SH, y)
      obtain ⟨hg4, h⟩ := mj_gd h
      refine cj_iald (pc := 23) d_Tw_paidInAll_23 sh_6 (by decide) hg4 (by decide) ?_
      refine mj_iadd (pc := 24) d_Tw_paidInAll_24 ?_
      refine mj_istore_n (pc := 25) (i := 3) d_Tw_paidInAll_25 rfl rfl (by decide) ?_
      refine mj_iinc (pc := 26) (i := 4) (v := y4 + 1) d_Tw_paidInAll_26 rfl (by rfl) rfl (by decide) ?_
      refine mj_goto (pc := 29) (tgt := 5) d_Tw_paidInAll_29 (by decide) ?_
      exact mj_weak [some (.ref 1), some (.int y1), some (.int y2), some (.int (y3 + (C 6 v2.toNatClampNeg))), some (.int (y4 + 1))] (And.intro rfl (And.intro rfl (And.intro rfl (And.intro rfl (And.intro rfl trivial))))) (ih _ _ _ _ _ _ h hX)
set_option maxRecDepth 20000 in
theorem r_Tw_paidInAll {x1 : Int32} {x2 : Int32} {C0 D : St} {v : Int32} (h : f_Tw_paidInAll x1 x2 C0 = some v) : mj_R M_Tw_paidInAll 0 (mj_lv M_Tw_paidInAll.2.2.1 [.ref 1, .int x1, .int x2]) [] (SH, jn C0 D) (some (.int v)) (SH, jn C0 D) := by
  show mj_R M_Tw_paidInAll 0 [some (.ref 1), some (.int x1), some (.int x2), none, none] [] _ _ _
  unfold f_Tw_paidInAll at h
  refine mj_iconst (pc := 0) (v := 0) d_Tw_paidInAll_0 (by decide) ?_
  refine mj_istore_n (pc := 1) (i := 3) d_Tw_paidInAll_1 rfl rfl (by decide) ?_
  refine mj_iconst (pc := 2) (v := 0) d_Tw_paidInAll_2 (by decide) ?_
  refine mj_istore (pc := 3) (i := 4) d_Tw_paidInAll_3 rfl (by decide) ?_
  obtain ⟨o5, hl6, h⟩ := bd1_some h
  refine mj_weak [some (.ref 1), some (.int x1), some (.int x2), some (.int 0), some (.int 0)] (And.intro rfl (And.intro rfl (And.intro rfl (And.intro rfl (And.intro rfl trivial))))) (l_Tw_paidInAll_5 3000 _ _ _ _ _ _ hl6 ?_)
  refine mj_iload_n (pc := 32) (i := 3) d_Tw_paidInAll_32 rfl rfl ?_
  obtain e_1 := inj1 h
  subst e_1
  exact mj_iret (pc := 33) d_Tw_paidInAll_33 rfl
set_option maxRecDepth 20000 in
theorem r_Mk_paid {x1 : Int32} {x2 : Int32} {x3 : Int32} {C0 D : St} {v : Int32} (h : f_Mk_paid x1 x2 x3 C0 = some v) : mj_R M_Mk_paid 0 (mj_lv M_Mk_paid.2.2.1 [.ref 0, .int x1, .int x2, .int x3]) [] (SH, jn C0 D) (some (.int v)) (SH, jn C0 D) := by
  show mj_R M_Mk_paid 0 [some (.ref 0), some (.int x1), some (.int x2), some (.int x3)] [] _ _ _
  unfold f_Mk_paid at h
  refine mj_aload_n (pc := 0) (i := 0) d_Mk_paid_0 rfl rfl (by decide) ?_
  refine mj_getR (pc := 1) d_Mk_paid_1 fl_Mk_12 sh_0 rfl rfl (by decide) (by decide) (by decide) ?_
  refine mj_iload_n (pc := 4) (i := 1) d_Mk_paid_4 rfl rfl ?_
  obtain ⟨v1, hb2, h⟩ := bd1_some h
  refine mj_callV (pc := 5) (b := 1) (vs := [.int x1]) (st := []) d_Mk_paid_5 bB_Mk_paid_Tw_isThere lk_Mk_64 iv_Tw_isThere rc_1 rfl (Nat.le_of_ble_eq_true rfl) (Nat.le_of_ble_eq_true rfl) (r_Tw_isThere hb2) ?_
  show mj_R M_Mk_paid 8 [some (.ref 0), some (.int x1), some (.int x2), some (.int x3)] [.int v1] (SH, jn C0 D) (some (.int v)) (SH, jn C0 D)
  refine mj_if_eq (y := 0) (pc := 8) (tgt := 31) d_Mk_paid_8 (by decide) mj_hs (fun hc3 => ?_) (fun hc3 => ?_)
  · rw [if_pos hc3] at h
    refine mj_ldc (pc := 31) (v := -1000000001) d_Mk_paid_31 k_Mk_54 ?_
    obtain e_1 := inj1 h
    subst e_1
    exact mj_iret (pc := 33) d_Mk_paid_33 rfl
  · rw [if_neg hc3] at h
    refine mj_aload_n (pc := 11) (i := 0) d_Mk_paid_11 rfl rfl (by decide) ?_
    refine mj_getR (pc := 12) d_Mk_paid_12 fl_Mk_12 sh_0 rfl rfl (by decide) (by decide) (by decide) ?_
    refine mj_iload_n (pc := 15) (i := 2) d_Mk_paid_15 rfl rfl ?_
    obtain ⟨v4, hb5, h⟩ := bd1_some h
    refine mj_callV (pc := 16) (b := 1) (vs := [.int x2]) (st := []) d_Mk_paid_16 bB_Mk_paid_Tw_isThere lk_Mk_64 iv_Tw_isThere rc_1 rfl (Nat.le_of_ble_eq_true rfl) (Nat.le_of_ble_eq_true rfl) (r_Tw_isThere hb5) ?_
    show mj_R M_Mk_paid 19 [some (.ref 0), some (.int x1), some (.int x2), some (.int x3)] [.int v4] (SH, jn C0 D) (some (.int v)) (SH, jn C0 D)
    refine mj_if_eq (y := 0) (pc := 19) (tgt := 31) d_Mk_paid_19 (by decide) mj_hs (fun hc6 => ?_) (fun hc6 => ?_)
    · rw [if_pos hc6] at h
      refine mj_ldc (pc := 31) (v := -1000000001) d_Mk_paid_31 k_Mk_54 ?_
      obtain e_1 := inj1 h
      subst e_1
      exact mj_iret (pc := 33) d_Mk_paid_33 rfl
    · rw [if_neg hc6] at h
      refine mj_iload_n (pc := 22) (i := 3) d_Mk_paid_22 rfl rfl ?_
      refine mj_iconst (pc := 23) (v := -1) d_Mk_paid_23 (by decide) ?_
      refine mj_iconst (pc := 24) (v := 4) d_Mk_paid_24 (by decide) ?_
      obtain ⟨v7, hb8, h⟩ := bd1_some h
      refine mj_callS (pc := 25) (vs := [.int x3, .int (-1), .int 4]) (st := []) d_Mk_paid_25 bB_Mk_paid_Mk_isWithin lk_Mk_50 st_Mk_isWithin rfl (Nat.le_of_ble_eq_true rfl) (Nat.le_of_ble_eq_true rfl) (r_Mk_isWithin hb8) ?_
      show mj_R M_Mk_paid 28 [some (.ref 0), some (.int x1), some (.int x2), some (.int x3)] [.int v7] (SH, jn C0 D) (some (.int v)) (SH, jn C0 D)
      refine mj_if_ne (y := 0) (pc := 28) (tgt := 34) d_Mk_paid_28 (by decide) mj_hs (fun hc9 => ?_) (fun hc9 => ?_)
      · rw [if_neg hc9] at h
        refine mj_iload_n (pc := 34) (i := 3) d_Mk_paid_34 rfl rfl ?_
        obtain ⟨w16, hb18, h⟩ := bd1_some h
        have k17 : mj_R M_Mk_paid 64 [none, none, none, none] [.int w16] (SH, jn C0 D) (some (.int v)) (SH, jn C0 D) := by
          obtain e_1 := inj1 h
          subst e_1
          exact mj_iret (pc := 64) d_Mk_paid_64 rfl
        have h := hb18
        refine mj_if_ge (y := 0) (pc := 35) (tgt := 50) d_Mk_paid_35 (by decide) mj_hs (fun hc10 => ?_) (fun hc10 => ?_)
        · rw [if_pos hc10] at h
          refine mj_aload_n (pc := 50) (i := 0) d_Mk_paid_50 rfl rfl (by decide) ?_
          refine mj_getR (pc := 51) d_Mk_paid_51 fl_Mk_12 sh_0 rfl rfl (by decide) (by decide) (by decide) ?_
          refine mj_getR (pc := 54) d_Mk_paid_54 fl_Mk_189 sh_1 rfl rfl (by decide) (by decide) (by decide) ?_
          refine mj_iload_n (pc := 57) (i := 1) d_Mk_paid_57 rfl rfl ?_
          refine mj_iload_n (pc := 58) (i := 2) d_Mk_paid_58 rfl rfl ?_
          refine mj_iload_n (pc := 59) (i := 3) d_Mk_paid_59 rfl rfl ?_
          obtain ⟨v11, hb12, h⟩ := bd1_some h
          refine mj_callS (pc := 60) (vs := [.int x1, .int x2, .int x3]) (st := [.ref 6]) d_Mk_paid_60 bB_Mk_paid_Tw_entry lk_Mk_192 st_Tw_entry rfl (Nat.le_of_ble_eq_true rfl) (Nat.le_of_ble_eq_true rfl) (r_Tw_entry hb12) ?_
          show mj_R M_Mk_paid 63 [some (.ref 0), some (.int x1), some (.int x2), some (.int x3)] [.int v11, .ref 6] (SH, jn C0 D) (some (.int v)) (SH, jn C0 D)
          obtain ⟨hg13, h⟩ := mj_gd h
          refine cj_iald (pc := 63) d_Mk_paid_63 sh_6 (by decide) hg13 (by decide) ?_
          obtain e_1 := inj1 h
          subst e_1
          exact mj_wk k17 trivial
        · rw [if_neg hc10] at h
          refine mj_aload_n (pc := 38) (i := 0) d_Mk_paid_38 rfl rfl (by decide) ?_
          refine mj_getR (pc := 39) d_Mk_paid_39 fl_Mk_12 sh_0 rfl rfl (by decide) (by decide) (by decide) ?_
          refine mj_iload_n (pc := 42) (i := 1) d_Mk_paid_42 rfl rfl ?_
          refine mj_iload_n (pc := 43) (i := 2) d_Mk_paid_43 rfl rfl ?_
          obtain ⟨v14, hb15, h⟩ := bd1_some h
          refine mj_callV (pc := 44) (b := 1) (vs := [.int x1, .int x2]) (st := []) d_Mk_paid_44 bB_Mk_paid_Tw_paidInAll lk_Mk_186 iv_Tw_paidInAll rc_1 rfl (Nat.le_of_ble_eq_true rfl) (Nat.le_of_ble_eq_true rfl) (r_Tw_paidInAll hb15) ?_
          show mj_R M_Mk_paid 47 [some (.ref 0), some (.int x1), some (.int x2), some (.int x3)] [.int v14] (SH, jn C0 D) (some (.int v)) (SH, jn C0 D)
          refine mj_goto (pc := 47) (tgt := 64) d_Mk_paid_47 (by decide) ?_
          obtain e_1 := inj1 h
          subst e_1
          exact mj_wk k17 trivial
      · rw [if_pos hc9] at h
        refine mj_ldc (pc := 31) (v := -1000000001) d_Mk_paid_31 k_Mk_54 ?_
        obtain e_1 := inj1 h
        subst e_1
        exact mj_iret (pc := 33) d_Mk_paid_33 rfl
set_option maxRecDepth 20000 in
theorem r_Mk_loan {x1 : Int32} {x2 : Int32} {C0 D : St} {v : Int32} (h : f_Mk_loan x1 x2 C0 = some v) : mj_R M_Mk_loan 0 (mj_lv M_Mk_loan.2.2.1 [.ref 0, .int x1, .int x2]) [] (SH, jn C0 D) (some (.int v)) (SH, jn C0 D) := by
  show mj_R M_Mk_loan 0 [some (.ref 0), some (.int x1), some (.int x2)] [] _ _ _
  unfold f_Mk_loan at h
  refine mj_iload_n (pc := 0) (i := 1) d_Mk_loan_0 rfl rfl ?_
  refine mj_if_lt (y := 0) (pc := 1) (tgt := 13) d_Mk_loan_1 (by decide) mj_hs (fun hc1 => ?_) (fun hc1 => ?_)
  · rw [if_pos hc1] at h
    refine mj_ldc (pc := 13) (v := -1000000001) d_Mk_loan_13 k_Mk_54 ?_
    obtain e_1 := inj1 h
    subst e_1
    exact mj_iret (pc := 15) d_Mk_loan_15 rfl
  · rw [if_neg hc1] at h
    refine mj_iload_n (pc := 4) (i := 2) d_Mk_loan_4 rfl rfl ?_
    refine mj_iconst (pc := 5) (v := 0) d_Mk_loan_5 (by decide) ?_
    refine mj_iconst (pc := 6) (v := 3) d_Mk_loan_6 (by decide) ?_
    obtain ⟨v2, hb3, h⟩ := bd1_some h
    refine mj_callS (pc := 7) (vs := [.int x2, .int 0, .int 3]) (st := []) d_Mk_loan_7 bB_Mk_loan_Mk_isWithin lk_Mk_50 st_Mk_isWithin rfl (Nat.le_of_ble_eq_true rfl) (Nat.le_of_ble_eq_true rfl) (r_Mk_isWithin hb3) ?_
    show mj_R M_Mk_loan 10 [some (.ref 0), some (.int x1), some (.int x2)] [.int v2] (SH, jn C0 D) (some (.int v)) (SH, jn C0 D)
    refine mj_if_ne (y := 0) (pc := 10) (tgt := 16) d_Mk_loan_10 (by decide) mj_hs (fun hc4 => ?_) (fun hc4 => ?_)
    · rw [if_neg hc4] at h
      refine mj_iload_n (pc := 16) (i := 1) d_Mk_loan_16 rfl rfl ?_
      refine mj_aload_n (pc := 17) (i := 0) d_Mk_loan_17 rfl rfl (by decide) ?_
      refine mj_getR (pc := 18) d_Mk_loan_18 fl_Mk_12 sh_0 rfl rfl (by decide) (by decide) (by decide) ?_
      refine mj_getR (pc := 21) d_Mk_loan_21 fl_Mk_158 sh_1 rfl rfl (by decide) (by decide) (by decide) ?_
      refine cj_getI (pc := 24) d_Mk_loan_24 fl_Mk_195 sh_15 rfl (by decide) (by decide) (by decide) ?_
      obtain ⟨w8, hb10, h⟩ := bd1_some h
      have k9 : mj_R M_Mk_loan 47 [none, none, none] [.int w8] (SH, jn C0 D) (some (.int v)) (SH, jn C0 D) := by
        obtain e_1 := inj1 h
        subst e_1
        exact mj_iret (pc := 47) d_Mk_loan_47 rfl
      have h := hb10
      refine mj_icmp_ge (pc := 27) (tgt := 45) d_Mk_loan_27 (by decide) mj_hs (fun hc5 => ?_) (fun hc5 => ?_)
      · rw [if_pos hc5] at h
        refine mj_ldc (pc := 45) (v := -1000000005) d_Mk_loan_45 k_Mk_198 ?_
        obtain e_1 := inj1 h
        subst e_1
        exact mj_wk k9 trivial
      · rw [if_neg hc5] at h
        refine mj_aload_n (pc := 30) (i := 0) d_Mk_loan_30 rfl rfl (by decide) ?_
        refine mj_getR (pc := 31) d_Mk_loan_31 fl_Mk_12 sh_0 rfl rfl (by decide) (by decide) (by decide) ?_
        refine mj_getR (pc := 34) d_Mk_loan_34 fl_Mk_158 sh_1 rfl rfl (by decide) (by decide) (by decide) ?_
        refine mj_iload_n (pc := 37) (i := 1) d_Mk_loan_37 rfl rfl ?_
        refine mj_iload_n (pc := 38) (i := 2) d_Mk_loan_38 rfl rfl ?_
        obtain ⟨v6, hb7, h⟩ := bd1_some h
        refine mj_callV (pc := 39) (b := 15) (vs := [.int x1, .int x2]) (st := []) d_Mk_loan_39 bB_Mk_loan_Ln_get lk_Mk_197 iv_Ln_get rc_15 rfl (Nat.le_of_ble_eq_true rfl) (Nat.le_of_ble_eq_true rfl) (r_Ln_get hb7) ?_
        show mj_R M_Mk_loan 42 [some (.ref 0), some (.int x1), some (.int x2)] [.int v6] (SH, jn C0 D) (some (.int v)) (SH, jn C0 D)
        refine mj_goto (pc := 42) (tgt := 47) d_Mk_loan_42 (by decide) ?_
        obtain e_1 := inj1 h
        subst e_1
        exact mj_wk k9 trivial
    · rw [if_pos hc4] at h
      refine mj_ldc (pc := 13) (v := -1000000001) d_Mk_loan_13 k_Mk_54 ?_
      obtain e_1 := inj1 h
      subst e_1
      exact mj_iret (pc := 15) d_Mk_loan_15 rfl
set_option maxRecDepth 20000 in
theorem l_Tw_cashNotAbove_5 {r : Option Value} {D y : St} : ∀ (n : Nat) (y1 : Int32) (y2 : Int32) (y3 : Int32) (y4 : Int32) (C : St) (o3_ : Int32), L_Tw_cashNotAbove_5 n y1 y2 y3 y4 C = some o3_ → mj_R M_Tw_cashNotAbove 44 [none, none, none, some (.int o3_), none] [] (SH, jn C D) r (SH, y) → mj_R M_Tw_cashNotAbove 5 [some (.ref 1), some (.int y1), some (.int y2), some (.int y3), some (.int y4)] [] (SH, jn C D) r (SH, y) := by
  intro n
  induction n with
  | zero => intro y1 y2 y3 y4 C o3_ h; cases h
  | succ n ih =>
    intro y1 y2 y3 y4 C o3_ h hX
    unfold L_Tw_cashNotAbove_5 at h
    refine mj_iload (pc := 5) (i := 4) d_Tw_cashNotAbove_5 rfl ?_
    refine mj_aload_n (pc := 7) (i := 0) d_Tw_cashNotAbove_7 rfl rfl (by decide) ?_
    refine cj_getI (pc := 8) d_Tw_cashNotAbove_8 fl_Tw_59 sh_1 rfl (by decide) (by decide) (by decide) ?_
    refine mj_icmp_ge (pc := 11) (tgt := 44) d_Tw_cashNotAbove_11 (by decide) mj_hs (fun hc1 => ?_) (fun hc1 => ?_)
    · rw [if_pos hc1] at h
      obtain e_1 := inj1 h
      subst e_1
      exact mj_wk hX (And.intro rfl trivial)
    · rw [if_neg hc1] at h
      refine mj_aload_n (pc := 14) (i := 0) d_Tw_cashNotAbove_14 rfl rfl (by decide) ?_
      refine mj_iload (pc := 15) (i := 4) d_Tw_cashNotAbove_15 rfl ?_
      refine mj_iload_n (pc := 17) (i := 1) d_Tw_cashNotAbove_17 rfl rfl ?_
      obtain ⟨v2, hb3, h⟩ := bd1_some h
      refine mj_callV (pc := 18) (b := 1) (vs := [.int y4, .int y1]) (st := []) d_Tw_cashNotAbove_18 bB_Tw_cashNotAbove_Tw_belongs lk_Tw_76 iv_Tw_belongs rc_1 rfl (Nat.le_of_ble_eq_true rfl) (Nat.le_of_ble_eq_true rfl) (r_Tw_belongs hb3) ?_
      show mj_R M_Tw_cashNotAbove 21 [some (.ref 1), some (.int y1), some (.int y2), some (.int y3), some (.int y4)] [.int v2] (SH, jn C D) r (SH, y)
      obtain ⟨w7, hb9, h⟩ := bd1_some h
      have k8 : mj_R M_Tw_cashNotAbove 38 [some (.ref 1), some (.int y1), some (.int y2), some (.int w7), some (.int y4)] [] (SH, jn C D) r (SH, y) := by
        refine mj_iinc (pc := 38) (i := 4) (v := y4 + 1) d_Tw_cashNotAbove_38 rfl (by rfl) rfl (by decide) ?_
        refine mj_goto (pc := 41) (tgt := 5) d_Tw_cashNotAbove_41 (by decide) ?_
        exact mj_weak [some (.ref 1), some (.int y1), some (.int y2), some (.int w7), some (.int (y4 + 1))] (And.intro rfl (And.intro rfl (And.intro rfl (And.intro rfl (And.intro rfl trivial))))) (ih _ _ _ _ _ _ h hX)
      have h := hb9
      refine mj_if_eq (y := 0) (pc := 21) (tgt := 38) d_Tw_cashNotAbove_21 (by decide) mj_hs (fun hc4 => ?_) (fun hc4 => ?_)
      · rw [if_pos hc4] at h
        obtain e_1 := inj1 h
        subst e_1
        exact mj_wk k8 (And.intro rfl (And.intro rfl (And.intro rfl (And.intro rfl (And.intro rfl trivial)))))
      · rw [if_neg hc4] at h
        refine mj_aload_n (pc := 24) (i := 0) d_Tw_cashNotAbove_24 rfl rfl (by decide) ?_
        refine mj_getR (pc := 25) d_Tw_cashNotAbove_25 fl_Tw_19 sh_1 rfl rfl (by decide) (by decide) (by decide) ?_
        refine mj_iload (pc := 28) (i := 4) d_Tw_cashNotAbove_28 rfl ?_
        obtain ⟨hg5, h⟩ := mj_gd h
        refine cj_iald (pc := 30) d_Tw_cashNotAbove_30 sh_3 (by decide) hg5 (by decide) ?_
        refine mj_iload_n (pc := 31) (i := 2) d_Tw_cashNotAbove_31 rfl rfl ?_
        refine mj_icmp_gt (pc := 32) (tgt := 38) d_Tw_cashNotAbove_32 (by decide) mj_hs (fun hc6 => ?_) (fun hc6 => ?_)
        · rw [if_pos hc6] at h
          obtain e_1 := inj1 h
          subst e_1
          exact mj_wk k8 (And.intro rfl (And.intro rfl (And.intro rfl (And.intro rfl (And.intro rfl trivial)))))
        · rw [if_neg hc6] at h
          refine mj_iinc (pc := 35) (i := 3) (v := y3 + 1) d_Tw_cashNotAbove_35 rfl (by rfl) rfl (by decide) ?_
          obtain e_1 := inj1 h
          subst e_1
          exact mj_wk k8 (And.intro rfl (And.intro rfl (And.intro rfl (And.intro rfl (And.intro rfl trivial)))))
set_option maxRecDepth 20000 in
theorem r_Tw_cashNotAbove {x1 : Int32} {x2 : Int32} {C0 D : St} {v : Int32} (h : f_Tw_cashNotAbove x1 x2 C0 = some v) : mj_R M_Tw_cashNotAbove 0 (mj_lv M_Tw_cashNotAbove.2.2.1 [.ref 1, .int x1, .int x2]) [] (SH, jn C0 D) (some (.int v)) (SH, jn C0 D) := by
  show mj_R M_Tw_cashNotAbove 0 [some (.ref 1), some (.int x1), some (.int x2), none, none] [] _ _ _
  unfold f_Tw_cashNotAbove at h
  refine mj_iconst (pc := 0) (v := 0) d_Tw_cashNotAbove_0 (by decide) ?_
  refine mj_istore_n (pc := 1) (i := 3) d_Tw_cashNotAbove_1 rfl rfl (by decide) ?_
  refine mj_iconst (pc := 2) (v := 0) d_Tw_cashNotAbove_2 (by decide) ?_
  refine mj_istore (pc := 3) (i := 4) d_Tw_cashNotAbove_3 rfl (by decide) ?_
  obtain ⟨o10, hl11, h⟩ := bd1_some h
  refine mj_weak [some (.ref 1), some (.int x1), some (.int x2), some (.int 0), some (.int 0)] (And.intro rfl (And.intro rfl (And.intro rfl (And.intro rfl (And.intro rfl trivial))))) (l_Tw_cashNotAbove_5 3000 _ _ _ _ _ _ hl11 ?_)
  refine mj_iload_n (pc := 44) (i := 3) d_Tw_cashNotAbove_44 rfl rfl ?_
  obtain e_1 := inj1 h
  subst e_1
  exact mj_iret (pc := 45) d_Tw_cashNotAbove_45 rfl
set_option maxRecDepth 20000 in
theorem l_Tw_middleCash_14 {r : Option Value} {D y : St} : ∀ (n : Nat) (y1 : Int32) (y2 : Int32) (y3 : Int32) (C : St) (o : (Int32) ⊕ (Unit)), L_Tw_middleCash_14 n y1 y2 y3 C = some o → (∀ a : Int32, o = .inl a → r = some (.int a) ∧ y = jn C D) → (∀ a : Unit, o = .inr a → mj_R M_Tw_middleCash 76 [none, none, none, none] [] (SH, jn C D) r (SH, y)) → mj_R M_Tw_middleCash 14 [some (.ref 1), some (.int y1), some (.int y2), some (.int y3)] [] (SH, jn C D) r (SH, y) := by
  intro n
  induction n with
  | zero => intro y1 y2 y3 C o h; cases h
  | succ n ih =>
    intro y1 y2 y3 C o h hE hX
    unfold L_Tw_middleCash_14 at h
    refine mj_iload_n (pc := 14) (i := 3) d_Tw_middleCash_14 rfl rfl ?_
    refine mj_aload_n (pc := 15) (i := 0) d_Tw_middleCash_15 rfl rfl (by decide) ?_
    refine cj_getI (pc := 16) d_Tw_middleCash_16 fl_Tw_59 sh_1 rfl (by decide) (by decide) (by decide) ?_
    refine mj_icmp_ge (pc := 19) (tgt := 76) d_Tw_middleCash_19 (by decide) mj_hs (fun hc3 => ?_) (fun hc3 => ?_)
    · rw [if_pos hc3] at h
      obtain e_1 := inj1 h
      subst e_1
      exact mj_wk (hX _ rfl) trivial
    · rw [if_neg hc3] at h
      refine mj_aload_n (pc := 22) (i := 0) d_Tw_middleCash_22 rfl rfl (by decide) ?_
      refine mj_iload_n (pc := 23) (i := 3) d_Tw_middleCash_23 rfl rfl ?_
      refine mj_iload_n (pc := 24) (i := 1) d_Tw_middleCash_24 rfl rfl ?_
      obtain ⟨v4, hb5, h⟩ := bd1_some h
      refine mj_callV (pc := 25) (b := 1) (vs := [.int y3, .int y1]) (st := []) d_Tw_middleCash_25 bB_Tw_middleCash_Tw_belongs lk_Tw_76 iv_Tw_belongs rc_1 rfl (Nat.le_of_ble_eq_true rfl) (Nat.le_of_ble_eq_true rfl) (r_Tw_belongs hb5) ?_
      show mj_R M_Tw_middleCash 28 [some (.ref 1), some (.int y1), some (.int y2), some (.int y3)] [.int v4] (SH, jn C D) r (SH, y)
      refine mj_if_eq (y := 0) (pc := 28) (tgt := 70) d_Tw_middleCash_28 (by decide) mj_hs (fun hc6 => ?_) (fun hc6 => ?_)
      · rw [if_pos hc6] at h
        refine mj_iinc (pc := 70) (i := 3) (v := y3 + 1) d_Tw_middleCash_70 rfl (by rfl) rfl (by decide) ?_
        refine mj_goto (pc := 73) (tgt := 14) d_Tw_middleCash_73 (by decide) ?_
        exact mj_weak [some (.ref 1), some (.int y1), some (.int y2), some (.int (y3 + 1))] (And.intro rfl (And.intro rfl (And.intro rfl (And.intro rfl trivial)))) (ih _ _ _ _ _ h hE hX)
      · rw [if_neg hc6] at h
        refine mj_aload_n (pc := 31) (i := 0) d_Tw_middleCash_31 rfl rfl (by decide) ?_
        refine mj_iload_n (pc := 32) (i := 1) d_Tw_middleCash_32 rfl rfl ?_
        refine mj_aload_n (pc := 33) (i := 0) d_Tw_middleCash_33 rfl rfl (by decide) ?_
        refine mj_getR (pc := 34) d_Tw_middleCash_34 fl_Tw_19 sh_1 rfl rfl (by decide) (by decide) (by decide) ?_
        refine mj_iload_n (pc := 37) (i := 3) d_Tw_middleCash_37 rfl rfl ?_
        obtain ⟨hg7, h⟩ := mj_gd h
        refine cj_iald (pc := 38) d_Tw_middleCash_38 sh_3 (by decide) hg7 (by decide) ?_
        refine mj_iconst (pc := 39) (v := 1) d_Tw_middleCash_39 (by decide) ?_
        refine mj_isub (pc := 40) d_Tw_middleCash_40 ?_
        obtain ⟨v8, hb9, h⟩ := bd1_some h
        refine mj_callV (pc := 41) (b := 1) (vs := [.int y1, .int ((C 3 y3.toNatClampNeg) - 1)]) (st := []) d_Tw_middleCash_41 bB_Tw_middleCash_Tw_cashNotAbove lk_Tw_72 iv_Tw_cashNotAbove rc_1 rfl (Nat.le_of_ble_eq_true rfl) (Nat.le_of_ble_eq_true rfl) (r_Tw_cashNotAbove hb9) ?_
        show mj_R M_Tw_middleCash 44 [some (.ref 1), some (.int y1), some (.int y2), some (.int y3)] [.int v8] (SH, jn C D) r (SH, y)
        refine mj_iload_n (pc := 44) (i := 2) d_Tw_middleCash_44 rfl rfl ?_
        refine mj_icmp_gt (pc := 45) (tgt := 70) d_Tw_middleCash_45 (by decide) mj_hs (fun hc10 => ?_) (fun hc10 => ?_)
        · rw [if_pos hc10] at h
          refine mj_iinc (pc := 70) (i := 3) (v := y3 + 1) d_Tw_middleCash_70 rfl (by rfl) rfl (by decide) ?_
          refine mj_goto (pc := 73) (tgt := 14) d_Tw_middleCash_73 (by decide) ?_
          exact mj_weak [some (.ref 1), some (.int y1), some (.int y2), some (.int (y3 + 1))] (And.intro rfl (And.intro rfl (And.intro rfl (And.intro rfl trivial)))) (ih _ _ _ _ _ h hE hX)
        · rw [if_neg hc10] at h
          refine mj_aload_n (pc := 48) (i := 0) d_Tw_middleCash_48 rfl rfl (by decide) ?_
          refine mj_iload_n (pc := 49) (i := 1) d_Tw_middleCash_49 rfl rfl ?_
          refine mj_aload_n (pc := 50) (i := 0) d_Tw_middleCash_50 rfl rfl (by decide) ?_
          refine mj_getR (pc := 51) d_Tw_middleCash_51 fl_Tw_19 sh_1 rfl rfl (by decide) (by decide) (by decide) ?_
          refine mj_iload_n (pc := 54) (i := 3) d_Tw_middleCash_54 rfl rfl ?_
          refine cj_iald (pc := 55) d_Tw_middleCash_55 sh_3 (by decide) hg7 (by decide) ?_
          obtain ⟨v12, hb13, h⟩ := bd1_some h
          refine mj_callV (pc := 56) (b := 1) (vs := [.int y1, .int (C 3 y3.toNatClampNeg)]) (st := []) d_Tw_middleCash_56 bB_Tw_middleCash_Tw_cashNotAbove lk_Tw_72 iv_Tw_cashNotAbove rc_1 rfl (Nat.le_of_ble_eq_true rfl) (Nat.le_of_ble_eq_true rfl) (r_Tw_cashNotAbove hb13) ?_
          show mj_R M_Tw_middleCash 59 [some (.ref 1), some (.int y1), some (.int y2), some (.int y3)] [.int v12] (SH, jn C D) r (SH, y)
          refine mj_iload_n (pc := 59) (i := 2) d_Tw_middleCash_59 rfl rfl ?_
          refine mj_icmp_le (pc := 60) (tgt := 70) d_Tw_middleCash_60 (by decide) mj_hs (fun hc14 => ?_) (fun hc14 => ?_)
          · rw [if_pos hc14] at h
            refine mj_iinc (pc := 70) (i := 3) (v := y3 + 1) d_Tw_middleCash_70 rfl (by rfl) rfl (by decide) ?_
            refine mj_goto (pc := 73) (tgt := 14) d_Tw_middleCash_73 (by decide) ?_
            exact mj_weak [some (.ref 1), some (.int y1), some (.int y2), some (.int (y3 + 1))] (And.intro rfl (And.intro rfl (And.intro rfl (And.intro rfl trivial)))) (ih _ _ _ _ _ h hE hX)
          · rw [if_neg hc14] at h
            refine mj_aload_n (pc := 63) (i := 0) d_Tw_middleCash_63 rfl rfl (by decide) ?_
            refine mj_getR (pc := 64) d_Tw_middleCash_64 fl_Tw_19 sh_1 rfl rfl (by decide) (by decide) (by decide) ?_
            refine mj_iload_n (pc := 67) (i := 3) d_Tw_middleCash_67 rfl rfl ?_
            refine cj_iald (pc := 68) d_Tw_middleCash_68 sh_3 (by decide) hg7 (by decide) ?_
            obtain e_1 := inj1 h
            subst e_1
            obtain ⟨e1, e2⟩ := hE _ rfl
            subst e1
            subst e2
            exact mj_iret (pc := 69) d_Tw_middleCash_69 rfl
set_option maxRecDepth 20000 in
theorem r_Tw_middleCash {x1 : Int32} {C0 D : St} {v : Int32} (h : f_Tw_middleCash x1 C0 = some v) : mj_R M_Tw_middleCash 0 (mj_lv M_Tw_middleCash.2.2.1 [.ref 1, .int x1]) [] (SH, jn C0 D) (some (.int v)) (SH, jn C0 D) := by
  show mj_R M_Tw_middleCash 0 [some (.ref 1), some (.int x1), none, none] [] _ _ _
  unfold f_Tw_middleCash at h
  refine mj_aload_n (pc := 0) (i := 0) d_Tw_middleCash_0 rfl rfl (by decide) ?_
  refine mj_iload_n (pc := 1) (i := 1) d_Tw_middleCash_1 rfl rfl ?_
  refine mj_ldc (pc := 2) (v := 1200000) d_Tw_middleCash_2 k_Tw_71 ?_
  obtain ⟨v1, hb2, h⟩ := bd1_some h
  refine mj_callV (pc := 4) (b := 1) (vs := [.int x1, .int 1200000]) (st := []) d_Tw_middleCash_4 bB_Tw_middleCash_Tw_cashNotAbove lk_Tw_72 iv_Tw_cashNotAbove rc_1 rfl (Nat.le_of_ble_eq_true rfl) (Nat.le_of_ble_eq_true rfl) (r_Tw_cashNotAbove hb2) ?_
  show mj_R M_Tw_middleCash 7 [some (.ref 1), some (.int x1), none, none] [.int v1] (SH, jn C0 D) (some (.int v)) (SH, jn C0 D)
  refine mj_iconst (pc := 7) (v := 1) d_Tw_middleCash_7 (by decide) ?_
  refine mj_isub (pc := 8) d_Tw_middleCash_8 ?_
  refine mj_iconst (pc := 9) (v := 2) d_Tw_middleCash_9 (by decide) ?_
  refine mj_idiv (pc := 10) d_Tw_middleCash_10 (by decide) ?_
  refine mj_istore_n (pc := 11) (i := 2) d_Tw_middleCash_11 rfl rfl (by decide) ?_
  refine mj_iconst (pc := 12) (v := 0) d_Tw_middleCash_12 (by decide) ?_
  refine mj_istore_n (pc := 13) (i := 3) d_Tw_middleCash_13 rfl rfl (by decide) ?_
  rcases bdS_some h with ⟨e17, hl16, h⟩ | ⟨_u, hl16, h⟩
  · refine mj_weak [some (.ref 1), some (.int x1), some (.int ((v1 - 1) / 2)), some (.int 0)] (And.intro rfl (And.intro rfl (And.intro rfl (And.intro rfl trivial)))) (l_Tw_middleCash_14 3000 _ _ _ _ _ hl16 (fun a e => ?_) (fun a e => nomatch e))
    cases e
    obtain e_1 := inj1 h
    subst e_1
    exact ⟨rfl, rfl⟩
  · refine mj_weak [some (.ref 1), some (.int x1), some (.int ((v1 - 1) / 2)), some (.int 0)] (And.intro rfl (And.intro rfl (And.intro rfl (And.intro rfl trivial)))) (l_Tw_middleCash_14 3000 _ _ _ _ _ hl16 (fun a e => nomatch e) (fun a e => ?_))
    cases e
    refine mj_ldc (pc := 76) (v := -1000000005) d_Tw_middleCash_76 k_Tw_66 ?_
    obtain e_1 := inj1 h
    subst e_1
    exact mj_iret (pc := 78) d_Tw_middleCash_78 rfl
