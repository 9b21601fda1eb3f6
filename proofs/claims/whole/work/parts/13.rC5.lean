set_option maxRecDepth 20000 in
theorem l_Mt_serve_6 {r : Option Value} {D y : St} : ∀ (n : Nat) (y2 : Int32) (y3 : Int32) (y4 : Int32) (y5 : Int32) (y6 : Int32) (C : St) (Q_ : St), L_Mt_serve_6 n y2 y3 y4 y5 y6 C = some Q_ → mj_R M_Mt_serve 111 [none, none, none, none, none, none, none, none, none] [] (SH, jn Q_ D) r (SH, y) → mj_R M_Mt_serve 6 [some (.ref 25), some (.ref 1), some (.int y2), some (.int y3), some (.int y4), some (.int y5), some (.int y6), none, none] [] (SH, jn C D) r (SH, y) := by
  intro n
  induction n with
  | zero => intro y2 y3 y4 y5 y6 C Q_ h; cases h
  | succ n ih =>
    intro y2 y3 y4 y5 y6 C Q_ h hX
    unfold L_Mt_serve_6 at h
    refine mj_iload (pc := 6) (i := 5) d_Mt_serve_6 rfl ?_
    refine mj_aload_n (pc := 8) (i := 0) d_Mt_serve_8 rfl rfl (by decide) ?_
    refine mj_getR (pc := 9) d_Mt_serve_9 fl_Mt_12 sh_25 rfl rfl (by decide) (by decide) (by decide) ?_
    refine cj_getI (pc := 12) d_Mt_serve_12 fl_Mt_91 sh_26 rfl (by decide) (by decide) (by decide) ?_
    refine mj_icmp_ge (pc := 15) (tgt := 111) d_Mt_serve_15 (by decide) mj_hs (fun hc1 => ?_) (fun hc1 => ?_)
    · rw [if_pos hc1] at h
      obtain e_1 := inj1 h
      subst e_1
      exact mj_wk hX trivial
    · rw [if_neg hc1] at h
      refine mj_iload (pc := 18) (i := 6) d_Mt_serve_18 rfl ?_
      refine mj_aload_n (pc := 20) (i := 0) d_Mt_serve_20 rfl rfl (by decide) ?_
      refine mj_getR (pc := 21) d_Mt_serve_21 fl_Mt_18 sh_25 rfl rfl (by decide) (by decide) (by decide) ?_
      refine cj_getI (pc := 24) d_Mt_serve_24 fl_Mt_91 sh_32 rfl (by decide) (by decide) (by decide) ?_
      refine mj_icmp_ge (pc := 27) (tgt := 111) d_Mt_serve_27 (by decide) mj_hs (fun hc2 => ?_) (fun hc2 => ?_)
      · rw [if_pos hc2] at h
        obtain e_1 := inj1 h
        subst e_1
        exact mj_wk hX trivial
      · rw [if_neg hc2] at h
        refine mj_aload_n (pc := 30) (i := 0) d_Mt_serve_30 rfl rfl (by decide) ?_
        refine mj_getR (pc := 31) d_Mt_serve_31 fl_Mt_12 sh_25 rfl rfl (by decide) (by decide) (by decide) ?_
        refine mj_getR (pc := 34) d_Mt_serve_34 fl_Mt_101 sh_26 rfl rfl (by decide) (by decide) (by decide) ?_
        refine mj_iload (pc := 37) (i := 5) d_Mt_serve_37 rfl ?_
        obtain ⟨hg3, h⟩ := mj_gd h
        refine cj_iald (pc := 39) d_Mt_serve_39 sh_30 (by decide) hg3 (by decide) ?_
        refine mj_istore (pc := 40) (i := 7) d_Mt_serve_40 rfl (by decide) ?_
        refine mj_aload_n (pc := 42) (i := 0) d_Mt_serve_42 rfl rfl (by decide) ?_
        refine mj_getR (pc := 43) d_Mt_serve_43 fl_Mt_18 sh_25 rfl rfl (by decide) (by decide) (by decide) ?_
        refine mj_getR (pc := 46) d_Mt_serve_46 fl_Mt_101 sh_32 rfl rfl (by decide) (by decide) (by decide) ?_
        refine mj_iload (pc := 49) (i := 6) d_Mt_serve_49 rfl ?_
        obtain ⟨hg4, h⟩ := mj_gd h
        refine cj_iald (pc := 51) d_Mt_serve_51 sh_36 (by decide) hg4 (by decide) ?_
        refine mj_istore (pc := 52) (i := 8) d_Mt_serve_52 rfl (by decide) ?_
        refine mj_aload_n (pc := 54) (i := 0) d_Mt_serve_54 rfl rfl (by decide) ?_
        refine mj_iload (pc := 55) (i := 5) d_Mt_serve_55 rfl ?_
        refine mj_iload (pc := 57) (i := 6) d_Mt_serve_57 rfl ?_
        obtain ⟨v5, hb6, h⟩ := bd1_some h
        refine mj_callV (pc := 59) (b := 25) (vs := [.int y5, .int y6]) (st := []) d_Mt_serve_59 bB_Mt_serve_Mt_agree lk_Mt_94 iv_Mt_agree rc_25 rfl (Nat.le_of_ble_eq_true rfl) (Nat.le_of_ble_eq_true rfl) (r_Mt_agree hb6) ?_
        show mj_R M_Mt_serve 62 [some (.ref 25), some (.ref 1), some (.int y2), some (.int y3), some (.int y4), some (.int y5), some (.int y6), some (.int (C 30 y5.toNatClampNeg)), some (.int (C 36 y6.toNatClampNeg))] [.int v5] (SH, jn C D) r (SH, y)
        obtain ⟨C12, hb14, h⟩ := bd1_some h
        have k13 : mj_R M_Mt_serve 86 [some (.ref 25), some (.ref 1), some (.int y2), some (.int y3), some (.int y4), some (.int y5), some (.int y6), some (.int (C 30 y5.toNatClampNeg)), none] [] (SH, jn C12 D) r (SH, y) := by
          refine mj_aload_n (pc := 86) (i := 0) d_Mt_serve_86 rfl rfl (by decide) ?_
          refine mj_getR (pc := 87) d_Mt_serve_87 fl_Mt_12 sh_25 rfl rfl (by decide) (by decide) (by decide) ?_
          refine mj_getR (pc := 90) d_Mt_serve_90 fl_Mt_104 sh_26 rfl rfl (by decide) (by decide) (by decide) ?_
          refine mj_iload (pc := 93) (i := 7) d_Mt_serve_93 rfl ?_
          obtain ⟨hg15, h⟩ := mj_gd h
          refine cj_iald (pc := 95) d_Mt_serve_95 sh_29 (by decide) hg15 (by decide) ?_
          have k17 : mj_R M_Mt_serve 108 [some (.ref 25), some (.ref 1), some (.int y2), some (.int y3), some (.int y4), some (.int (if (C12 29 (C 30 y5.toNatClampNeg).toNatClampNeg) = 0 then y5 + 1 else y5 : Int32)), some (.int (if (C12 29 (C 30 y5.toNatClampNeg).toNatClampNeg) = 0 then y6 else y6 + 1 : Int32)), none, none] [] (SH, jn C12 D) r (SH, y) := by
            refine mj_goto (pc := 108) (tgt := 6) d_Mt_serve_108 (by decide) ?_
            exact mj_weak [some (.ref 25), some (.ref 1), some (.int y2), some (.int y3), some (.int y4), some (.int (if (C12 29 (C 30 y5.toNatClampNeg).toNatClampNeg) = 0 then y5 + 1 else y5 : Int32)), some (.int (if (C12 29 (C 30 y5.toNatClampNeg).toNatClampNeg) = 0 then y6 else y6 + 1 : Int32)), none, none] (And.intro rfl (And.intro rfl (And.intro rfl (And.intro rfl (And.intro rfl (And.intro rfl (And.intro rfl trivial))))))) (ih _ _ _ _ _ _ _ h hX)
          refine mj_if_ne (y := 0) (pc := 96) (tgt := 105) d_Mt_serve_96 (by decide) mj_hs (fun hc16 => ?_) (fun hc16 => ?_)
          · refine mj_iinc (pc := 105) (i := 6) (v := y6 + 1) d_Mt_serve_105 rfl (by rfl) rfl (by decide) ?_
            try simp only [if_neg hc16] at k17
            exact mj_wk k17 (And.intro rfl (And.intro rfl (And.intro rfl (And.intro rfl (And.intro rfl (And.intro rfl (And.intro rfl trivial)))))))
          · refine mj_iinc (pc := 99) (i := 5) (v := y5 + 1) d_Mt_serve_99 rfl (by rfl) rfl (by decide) ?_
            refine mj_goto (pc := 102) (tgt := 108) d_Mt_serve_102 (by decide) ?_
            try simp only [if_pos hc16] at k17
            exact mj_wk k17 (And.intro rfl (And.intro rfl (And.intro rfl (And.intro rfl (And.intro rfl (And.intro rfl (And.intro rfl trivial)))))))
        have h := hb14
        refine mj_if_eq (y := 0) (pc := 62) (tgt := 86) d_Mt_serve_62 (by decide) mj_hs (fun hc7 => ?_) (fun hc7 => ?_)
        · rw [if_pos hc7] at h
          obtain e_1 := inj1 h
          subst e_1
          exact mj_wk k13 (And.intro rfl (And.intro rfl (And.intro rfl (And.intro rfl (And.intro rfl (And.intro rfl (And.intro rfl (And.intro rfl trivial))))))))
        · rw [if_neg hc7] at h
          refine mj_aload_n (pc := 65) (i := 0) d_Mt_serve_65 rfl rfl (by decide) ?_
          refine mj_aload_n (pc := 66) (i := 1) d_Mt_serve_66 rfl rfl (by decide) ?_
          refine mj_iload_n (pc := 67) (i := 2) d_Mt_serve_67 rfl rfl ?_
          refine mj_iload (pc := 68) (i := 7) d_Mt_serve_68 rfl ?_
          refine mj_iload (pc := 70) (i := 8) d_Mt_serve_70 rfl ?_
          refine mj_aload_n (pc := 72) (i := 0) d_Mt_serve_72 rfl rfl (by decide) ?_
          refine mj_iload_n (pc := 73) (i := 3) d_Mt_serve_73 rfl rfl ?_
          refine mj_iload (pc := 74) (i := 7) d_Mt_serve_74 rfl ?_
          refine mj_iload (pc := 76) (i := 8) d_Mt_serve_76 rfl ?_
          refine mj_iload (pc := 78) (i := 4) d_Mt_serve_78 rfl ?_
          obtain ⟨v8, hb9, h⟩ := bd1_some h
          refine mj_callV (pc := 80) (b := 25) (vs := [.int y3, .int (C 30 y5.toNatClampNeg), .int (C 36 y6.toNatClampNeg), .int y4]) (st := [.int (C 36 y6.toNatClampNeg), .int (C 30 y5.toNatClampNeg), .int y2, .ref 1, .ref 25]) d_Mt_serve_80 bB_Mt_serve_Mt_priceOf lk_Mt_107 iv_Mt_priceOf rc_25 rfl (Nat.le_of_ble_eq_true rfl) (Nat.le_of_ble_eq_true rfl) (r_Mt_priceOf hb9) ?_
          show mj_R M_Mt_serve 83 [some (.ref 25), some (.ref 1), some (.int y2), some (.int y3), some (.int y4), some (.int y5), some (.int y6), some (.int (C 30 y5.toNatClampNeg)), some (.int (C 36 y6.toNatClampNeg))] [.int v8, .int (C 36 y6.toNatClampNeg), .int (C 30 y5.toNatClampNeg), .int y2, .ref 1, .ref 25] (SH, jn C D) r (SH, y)
          obtain ⟨C10, hb11, h⟩ := bd1_some h
          refine mj_callV (pc := 83) (b := 25) (vs := [.ref 1, .int y2, .int (C 30 y5.toNatClampNeg), .int (C 36 y6.toNatClampNeg), .int v8]) (st := []) d_Mt_serve_83 bB_Mt_serve_Mt_trade lk_Mt_111 iv_Mt_trade rc_25 rfl (Nat.le_of_ble_eq_true rfl) (Nat.le_of_ble_eq_true rfl) (r_Mt_trade hb11) ?_
          show mj_R M_Mt_serve 86 [some (.ref 25), some (.ref 1), some (.int y2), some (.int y3), some (.int y4), some (.int y5), some (.int y6), some (.int (C 30 y5.toNatClampNeg)), some (.int (C 36 y6.toNatClampNeg))] [] (SH, jn C10 D) r (SH, y)
          obtain e_1 := inj1 h
          subst e_1
          exact mj_wk k13 (And.intro rfl (And.intro rfl (And.intro rfl (And.intro rfl (And.intro rfl (And.intro rfl (And.intro rfl (And.intro rfl trivial))))))))
set_option maxRecDepth 20000 in
theorem r_Mt_serve {x2 : Int32} {x3 : Int32} {x4 : Int32} {C0 D : St} {C' : St} (h : f_Mt_serve x2 x3 x4 C0 = some (C')) : mj_R M_Mt_serve 0 (mj_lv M_Mt_serve.2.2.1 [.ref 25, .ref 1, .int x2, .int x3, .int x4]) [] (SH, jn C0 D) none (SH, jn (C') D) := by
  show mj_R M_Mt_serve 0 [some (.ref 25), some (.ref 1), some (.int x2), some (.int x3), some (.int x4), none, none, none, none] [] _ _ _
  unfold f_Mt_serve at h
  refine mj_iconst (pc := 0) (v := 0) d_Mt_serve_0 (by decide) ?_
  refine mj_istore (pc := 1) (i := 5) d_Mt_serve_1 rfl (by decide) ?_
  refine mj_iconst (pc := 3) (v := 0) d_Mt_serve_3 (by decide) ?_
  refine mj_istore (pc := 4) (i := 6) d_Mt_serve_4 rfl (by decide) ?_
  obtain ⟨C18, hl19, h⟩ := bd1_some h
  refine mj_weak [some (.ref 25), some (.ref 1), some (.int x2), some (.int x3), some (.int x4), some (.int 0), some (.int 0), none, none] (And.intro rfl (And.intro rfl (And.intro rfl (And.intro rfl (And.intro rfl (And.intro rfl (And.intro rfl trivial))))))) (l_Mt_serve_6 3000 _ _ _ _ _ _ _ hl19 ?_)
  obtain e_1 := inj1 h
  subst e_1
  exact mj_vret (pc := 111) d_Mt_serve_111 rfl
set_option maxRecDepth 20000 in
theorem l_Mt_open_10 {r : Option Value} {D y : St} : ∀ (n : Nat) (y2 : Int32) (C : St) (Q_ : St), L_Mt_open_10 n y2 C = some Q_ → mj_R M_Mt_open 77 [none, none, none, none] [] (SH, jn Q_ D) r (SH, y) → mj_R M_Mt_open 10 [some (.ref 25), some (.ref 1), some (.int y2), none] [] (SH, jn C D) r (SH, y) := by
  intro n
  induction n with
  | zero => intro y2 C Q_ h; cases h
  | succ n ih =>
    intro y2 C Q_ h hX
    unfold L_Mt_open_10 at h
    refine mj_iload_n (pc := 10) (i := 2) d_Mt_open_10 rfl rfl ?_
    refine mj_iconst (pc := 11) (v := 5) d_Mt_open_11 (by decide) ?_
    refine mj_icmp_ge (pc := 12) (tgt := 77) d_Mt_open_12 (by decide) mj_hs (fun hc3 => ?_) (fun hc3 => ?_)
    · rw [if_pos hc3] at h
      obtain e_1 := inj1 h
      subst e_1
      exact mj_wk hX trivial
    · rw [if_neg hc3] at h
      refine mj_aload_n (pc := 15) (i := 1) d_Mt_open_15 rfl rfl (by decide) ?_
      refine mj_getR (pc := 16) d_Mt_open_16 fl_Mt_71 sh_1 rfl rfl (by decide) (by decide) (by decide) ?_
      refine mj_iload_n (pc := 19) (i := 2) d_Mt_open_19 rfl rfl ?_
      refine mj_iconst (pc := 20) (v := 1) d_Mt_open_20 (by decide) ?_
      obtain ⟨v4, hb5, h⟩ := bd1_some h
      refine mj_callV (pc := 21) (b := 10) (vs := [.int y2, .int 1]) (st := []) d_Mt_open_21 bB_Mt_open_Wr_get lk_Mt_77 iv_Wr_get rc_10 rfl (Nat.le_of_ble_eq_true rfl) (Nat.le_of_ble_eq_true rfl) (r_Wr_get hb5) ?_
      show mj_R M_Mt_open 24 [some (.ref 25), some (.ref 1), some (.int y2), none] [.int v4] (SH, jn C D) r (SH, y)
      refine mj_istore_n (pc := 24) (i := 3) d_Mt_open_24 rfl rfl (by decide) ?_
      refine mj_aload_n (pc := 25) (i := 0) d_Mt_open_25 rfl rfl (by decide) ?_
      refine mj_getR (pc := 26) d_Mt_open_26 fl_Mt_12 sh_25 rfl rfl (by decide) (by decide) (by decide) ?_
      refine mj_iload_n (pc := 29) (i := 2) d_Mt_open_29 rfl rfl ?_
      refine mj_iconst (pc := 30) (v := 1) d_Mt_open_30 (by decide) ?_
      obtain ⟨C6, hb7, h⟩ := bd1_some h
      refine mj_callV (pc := 31) (b := 26) (vs := [.int y2, .int 1]) (st := []) d_Mt_open_31 bB_Mt_open_Of_pick lk_Mt_80 iv_Of_pick rc_26 rfl (Nat.le_of_ble_eq_true rfl) (Nat.le_of_ble_eq_true rfl) (r_Of_pick hb7) ?_
      show mj_R M_Mt_open 34 [some (.ref 25), some (.ref 1), some (.int y2), some (.int v4)] [] (SH, jn C6 D) r (SH, y)
      refine mj_aload_n (pc := 34) (i := 0) d_Mt_open_34 rfl rfl (by decide) ?_
      refine mj_getR (pc := 35) d_Mt_open_35 fl_Mt_18 sh_25 rfl rfl (by decide) (by decide) (by decide) ?_
      refine mj_iload_n (pc := 38) (i := 2) d_Mt_open_38 rfl rfl ?_
      refine mj_iload_n (pc := 39) (i := 3) d_Mt_open_39 rfl rfl ?_
      have k9 : mj_R M_Mt_open 48 [some (.ref 25), some (.ref 1), some (.int y2), some (.int v4)] [.int (if v4 = 0 then 0 else (-1) : Int32), .int y2, .ref 32] (SH, jn C6 D) r (SH, y) := by
        obtain ⟨C10, hb11, h⟩ := bd1_some h
        refine mj_callV (pc := 48) (b := 32) (vs := [.int y2, .int (if v4 = 0 then 0 else (-1) : Int32)]) (st := []) d_Mt_open_48 bB_Mt_open_Of_pick lk_Mt_80 iv_Of_pick rc_32 rfl (Nat.le_of_ble_eq_true rfl) (Nat.le_of_ble_eq_true rfl) (r_Of_pick_1 hb11) ?_
        show mj_R M_Mt_open 51 [some (.ref 25), some (.ref 1), some (.int y2), some (.int v4)] [] (SH, jn C10 D) r (SH, y)
        refine mj_aload_n (pc := 51) (i := 0) d_Mt_open_51 rfl rfl (by decide) ?_
        refine mj_aload_n (pc := 52) (i := 1) d_Mt_open_52 rfl rfl (by decide) ?_
        refine mj_iload_n (pc := 53) (i := 2) d_Mt_open_53 rfl rfl ?_
        refine mj_iload_n (pc := 54) (i := 3) d_Mt_open_54 rfl rfl ?_
        refine mj_iload_n (pc := 55) (i := 3) d_Mt_open_55 rfl rfl ?_
        refine mj_iconst (pc := 56) (v := 1) d_Mt_open_56 (by decide) ?_
        obtain ⟨w15, hb17, h⟩ := bd1_some h
        have k16 : mj_R M_Mt_open 68 [some (.ref 25), some (.ref 1), some (.int y2), none] [.int w15, .int v4, .int y2, .ref 1, .ref 25] (SH, jn C10 D) r (SH, y) := by
          obtain ⟨C18, hb19, h⟩ := bd1_some h
          refine mj_callV (pc := 68) (b := 25) (vs := [.ref 1, .int y2, .int v4, .int w15]) (st := []) d_Mt_open_68 bB_Mt_open_Mt_serve lk_Mt_87 iv_Mt_serve rc_25 rfl (Nat.le_of_ble_eq_true rfl) (Nat.le_of_ble_eq_true rfl) (r_Mt_serve hb19) ?_
          show mj_R M_Mt_open 71 [some (.ref 25), some (.ref 1), some (.int y2), none] [] (SH, jn C18 D) r (SH, y)
          refine mj_iinc (pc := 71) (i := 2) (v := y2 + 1) d_Mt_open_71 rfl (by rfl) rfl (by decide) ?_
          refine mj_goto (pc := 74) (tgt := 10) d_Mt_open_74 (by decide) ?_
          exact mj_weak [some (.ref 25), some (.ref 1), some (.int (y2 + 1)), none] (And.intro rfl (And.intro rfl (And.intro rfl trivial))) (ih _ _ _ h hX)
        have h := hb17
        refine mj_icmp_ne (pc := 57) (tgt := 67) d_Mt_open_57 (by decide) mj_hs (fun hc12 => ?_) (fun hc12 => ?_)
        · rw [if_neg hc12] at h
          refine mj_iconst (pc := 67) (v := 0) d_Mt_open_67 (by decide) ?_
          obtain e_1 := inj1 h
          subst e_1
          exact mj_wk k16 (And.intro rfl (And.intro rfl (And.intro rfl trivial)))
        · rw [if_pos hc12] at h
          refine mj_aload_n (pc := 60) (i := 0) d_Mt_open_60 rfl rfl (by decide) ?_
          obtain ⟨v13, hb14, h⟩ := bd1_some h
          refine mj_callV (pc := 61) (b := 25) (vs := []) (st := [.int v4, .int y2, .ref 1, .ref 25]) d_Mt_open_61 bB_Mt_open_Mt_calledPrice lk_Mt_84 iv_Mt_calledPrice rc_25 rfl (Nat.le_of_ble_eq_true rfl) (Nat.le_of_ble_eq_true rfl) (r_Mt_calledPrice hb14) ?_
          show mj_R M_Mt_open 64 [some (.ref 25), some (.ref 1), some (.int y2), some (.int v4)] [.int v13, .int v4, .int y2, .ref 1, .ref 25] (SH, jn C10 D) r (SH, y)
          refine mj_goto (pc := 64) (tgt := 68) d_Mt_open_64 (by decide) ?_
          obtain e_1 := inj1 h
          subst e_1
          exact mj_wk k16 (And.intro rfl (And.intro rfl (And.intro rfl trivial)))
      refine mj_if_ne (y := 0) (pc := 40) (tgt := 47) d_Mt_open_40 (by decide) mj_hs (fun hc8 => ?_) (fun hc8 => ?_)
      · refine mj_iconst (pc := 47) (v := -1) d_Mt_open_47 (by decide) ?_
        try simp only [if_neg hc8] at k9
        exact mj_wk k9 (And.intro rfl (And.intro rfl (And.intro rfl (And.intro rfl trivial))))
      · refine mj_iconst (pc := 43) (v := 0) d_Mt_open_43 (by decide) ?_
        refine mj_goto (pc := 44) (tgt := 48) d_Mt_open_44 (by decide) ?_
        try simp only [if_pos hc8] at k9
        exact mj_wk k9 (And.intro rfl (And.intro rfl (And.intro rfl (And.intro rfl trivial))))
set_option maxRecDepth 20000 in
theorem r_Mt_open  {C0 D : St} {C' : St} (h : f_Mt_open C0 = some (C')) : mj_R M_Mt_open 0 (mj_lv M_Mt_open.2.2.1 [.ref 25, .ref 1]) [] (SH, jn C0 D) none (SH, jn (C') D) := by
  show mj_R M_Mt_open 0 [some (.ref 25), some (.ref 1), none, none] [] _ _ _
  unfold f_Mt_open at h
  refine mj_aload_n (pc := 0) (i := 0) d_Mt_open_0 rfl rfl (by decide) ?_
  refine mj_aload_n (pc := 1) (i := 1) d_Mt_open_1 rfl rfl (by decide) ?_
  obtain ⟨v1, hb2, h⟩ := bd1_some h
  refine mj_callV (pc := 2) (b := 1) (vs := []) (st := [.ref 25]) d_Mt_open_2 bB_Mt_open_Tw_firstCouncil lk_Mt_63 iv_Tw_firstCouncil rc_1 rfl (Nat.le_of_ble_eq_true rfl) (Nat.le_of_ble_eq_true rfl) (r_Tw_firstCouncil hb2) ?_
  show mj_R M_Mt_open 5 [some (.ref 25), some (.ref 1), none, none] [.int v1, .ref 25] (SH, jn C0 D) none (SH, jn (C') D)
  refine cj_putI (pc := 5) d_Mt_open_5 fl_Mt_67 sh_25 rfl (fun _ _ _ h => by cases h; rfl) (by decide) (by decide) (by decide) ?_
  refine mj_iconst (pc := 8) (v := 0) d_Mt_open_8 (by decide) ?_
  refine mj_istore_n (pc := 9) (i := 2) d_Mt_open_9 rfl rfl (by decide) ?_
  obtain ⟨C20, hl21, h⟩ := bd1_some h
  refine mj_weak [some (.ref 25), some (.ref 1), some (.int 0), none] (And.intro rfl (And.intro rfl (And.intro rfl trivial))) (l_Mt_open_10 3000 _ _ _ hl21 ?_)
  obtain e_1 := inj1 h
  subst e_1
  exact mj_vret (pc := 77) d_Mt_open_77 rfl
set_option maxRecDepth 20000 in
theorem r_Ln_get {x1 : Int32} {x2 : Int32} {C0 D : St} {v : Int32} (h : f_Ln_get x1 x2 C0 = some v) : mj_R M_Ln_get 0 (mj_lv M_Ln_get.2.2.1 [.ref 15, .int x1, .int x2]) [] (SH, jn C0 D) (some (.int v)) (SH, jn C0 D) := by
  show mj_R M_Ln_get 0 [some (.ref 15), some (.int x1), some (.int x2)] [] _ _ _
  unfold f_Ln_get at h
  refine mj_aload_n (pc := 0) (i := 0) d_Ln_get_0 rfl rfl (by decide) ?_
  refine mj_getR (pc := 1) d_Ln_get_1 fl_Ln_11 sh_15 rfl rfl (by decide) (by decide) (by decide) ?_
  refine mj_iload_n (pc := 4) (i := 1) d_Ln_get_4 rfl rfl ?_
  refine mj_iconst (pc := 5) (v := 4) d_Ln_get_5 (by decide) ?_
  refine mj_imul (pc := 6) d_Ln_get_6 ?_
  refine mj_iload_n (pc := 7) (i := 2) d_Ln_get_7 rfl rfl ?_
  refine mj_iadd (pc := 8) d_Ln_get_8 ?_
  obtain ⟨hg1, h⟩ := mj_gd h
  refine cj_iald (pc := 9) d_Ln_get_9 sh_16 (by decide) hg1 (by decide) ?_
  obtain e_1 := inj1 h
  subst e_1
  exact mj_iret (pc := 10) d_Ln_get_10 rfl
set_option maxRecDepth 20000 in
theorem l_Ln_owedWhere_5 {r : Option Value} {D y : St} : ∀ (n : Nat) (y1 : Int32) (y2 : Int32) (y3 : Int32) (y4 : Int32) (C : St) (o3_ : Int32), L_Ln_owedWhere_5 n y1 y2 y3 y4 C = some o3_ → mj_R M_Ln_owedWhere 41 [none, none, none, some (.int o3_), none] [] (SH, jn C D) r (SH, y) → mj_R M_Ln_owedWhere 5 [some (.ref 15), some (.int y1), some (.int y2), some (.int y3), some (.int y4)] [] (SH, jn C D) r (SH, y) := by
  intro n
  induction n with
  | zero => intro y1 y2 y3 y4 C o3_ h; cases h
  | succ n ih =>
    intro y1 y2 y3 y4 C o3_ h hX
    unfold L_Ln_owedWhere_5 at h
    refine mj_iload (pc := 5) (i := 4) d_Ln_owedWhere_5 rfl ?_
    refine mj_aload_n (pc := 7) (i := 0) d_Ln_owedWhere_7 rfl rfl (by decide) ?_
    refine cj_getI (pc := 8) d_Ln_owedWhere_8 fl_Ln_15 sh_15 rfl (by decide) (by decide) (by decide) ?_
    refine mj_icmp_ge (pc := 11) (tgt := 41) d_Ln_owedWhere_11 (by decide) mj_hs (fun hc1 => ?_) (fun hc1 => ?_)
    · rw [if_pos hc1] at h
      obtain e_1 := inj1 h
      subst e_1
      exact mj_wk hX (And.intro rfl trivial)
    · rw [if_neg hc1] at h
      refine mj_aload_n (pc := 14) (i := 0) d_Ln_owedWhere_14 rfl rfl (by decide) ?_
      refine mj_iload (pc := 15) (i := 4) d_Ln_owedWhere_15 rfl ?_
      refine mj_iload_n (pc := 17) (i := 1) d_Ln_owedWhere_17 rfl rfl ?_
      obtain ⟨v2, hb3, h⟩ := bd1_some h
      refine mj_callV (pc := 18) (b := 15) (vs := [.int y4, .int y1]) (st := []) d_Ln_owedWhere_18 bB_Ln_owedWhere_Ln_get lk_Ln_23 iv_Ln_get rc_15 rfl (Nat.le_of_ble_eq_true rfl) (Nat.le_of_ble_eq_true rfl) (r_Ln_get hb3) ?_
      show mj_R M_Ln_owedWhere 21 [some (.ref 15), some (.int y1), some (.int y2), some (.int y3), some (.int y4)] [.int v2] (SH, jn C D) r (SH, y)
      refine mj_iload_n (pc := 21) (i := 2) d_Ln_owedWhere_21 rfl rfl ?_
      obtain ⟨w7, hb9, h⟩ := bd1_some h
      have k8 : mj_R M_Ln_owedWhere 35 [some (.ref 15), some (.int y1), some (.int y2), some (.int w7), some (.int y4)] [] (SH, jn C D) r (SH, y) := by
        refine mj_iinc (pc := 35) (i := 4) (v := y4 + 1) d_Ln_owedWhere_35 rfl (by rfl) rfl (by decide) ?_
        refine mj_goto (pc := 38) (tgt := 5) d_Ln_owedWhere_38 (by decide) ?_
        exact mj_weak [some (.ref 15), some (.int y1), some (.int y2), some (.int w7), some (.int (y4 + 1))] (And.intro rfl (And.intro rfl (And.intro rfl (And.intro rfl (And.intro rfl trivial))))) (ih _ _ _ _ _ _ h hX)
      have h := hb9
      refine mj_icmp_ne (pc := 22) (tgt := 35) d_Ln_owedWhere_22 (by decide) mj_hs (fun hc4 => ?_) (fun hc4 => ?_)
      · rw [if_neg hc4] at h
        obtain e_1 := inj1 h
        subst e_1
        exact mj_wk k8 (And.intro rfl (And.intro rfl (And.intro rfl (And.intro rfl (And.intro rfl trivial)))))
      · rw [if_pos hc4] at h
        refine mj_iload_n (pc := 25) (i := 3) d_Ln_owedWhere_25 rfl rfl ?_
        refine mj_aload_n (pc := 26) (i := 0) d_Ln_owedWhere_26 rfl rfl (by decide) ?_
        refine mj_iload (pc := 27) (i := 4) d_Ln_owedWhere_27 rfl ?_
        refine mj_iconst (pc := 29) (v := 2) d_Ln_owedWhere_29 (by decide) ?_
        obtain ⟨v5, hb6, h⟩ := bd1_some h
        refine mj_callV (pc := 30) (b := 15) (vs := [.int y4, .int 2]) (st := [.int y3]) d_Ln_owedWhere_30 bB_Ln_owedWhere_Ln_get lk_Ln_23 iv_Ln_get rc_15 rfl (Nat.le_of_ble_eq_true rfl) (Nat.le_of_ble_eq_true rfl) (r_Ln_get hb6) ?_
        show mj_R M_Ln_owedWhere 33 [some (.ref 15), some (.int y1), some (.int y2), some (.int y3), some (.int y4)] [.int v5, .int y3] (SH, jn C D) r (SH, y)
        refine mj_iadd (pc := 33) d_Ln_owedWhere_33 ?_
        refine mj_istore_n (pc := 34) (i := 3) d_Ln_owedWhere_34 rfl rfl (by decide) ?_
        obtain e_1 := inj1 h
        subst e_1
        exact mj_wk k8 (And.intro rfl (And.intro rfl (And.intro rfl (And.intro rfl (And.intro rfl trivial)))))
set_option maxRecDepth 20000 in
theorem r_Ln_owedWhere {x1 : Int32} {x2 : Int32} {C0 D : St} {v : Int32} (h : f_Ln_owedWhere x1 x2 C0 = some v) : mj_R M_Ln_owedWhere 0 (mj_lv M_Ln_owedWhere.2.2.1 [.ref 15, .int x1, .int x2]) [] (SH, jn C0 D) (some (.int v)) (SH, jn C0 D) := by
  show mj_R M_Ln_owedWhere 0 [some (.ref 15), some (.int x1), some (.int x2), none, none] [] _ _ _
  unfold f_Ln_owedWhere at h
  refine mj_iconst (pc := 0) (v := 0) d_Ln_owedWhere_0 (by decide) ?_
  refine mj_istore_n (pc := 1) (i := 3) d_Ln_owedWhere_1 rfl rfl (by decide) ?_
  refine mj_iconst (pc := 2) (v := 0) d_Ln_owedWhere_2 (by decide) ?_
  refine mj_istore (pc := 3) (i := 4) d_Ln_owedWhere_3 rfl (by decide) ?_
  obtain ⟨o10, hl11, h⟩ := bd1_some h
  refine mj_weak [some (.ref 15), some (.int x1), some (.int x2), some (.int 0), some (.int 0)] (And.intro rfl (And.intro rfl (And.intro rfl (And.intro rfl (And.intro rfl trivial))))) (l_Ln_owedWhere_5 3000 _ _ _ _ _ _ hl11 ?_)
  refine mj_iload_n (pc := 41) (i := 3) d_Ln_owedWhere_41 rfl rfl ?_
  obtain e_1 := inj1 h
  subst e_1
  exact mj_iret (pc := 42) d_Ln_owedWhere_42 rfl
set_option maxRecDepth 20000 in
theorem l_Ln_shareOut_3 {r : Option Value} {D y : St} : ∀ (n : Nat) (y2 : Int32) (y3 : Int64) (y5 : Int64) (y7 : Int32) (C : St) (Q_ : St), L_Ln_shareOut_3 n y2 y3 y5 y7 C = some Q_ → mj_R M_Ln_shareOut 67 [none, none, none, none, none, none, none, none, none] [] (SH, jn Q_ D) r (SH, y) → mj_R M_Ln_shareOut 3 [some (.ref 15), some (.ref 1), some (.int y2), some (.long y3), none, some (.long y5), none, some (.int y7), none] [] (SH, jn C D) r (SH, y) := by
  intro n
  induction n with
  | zero => intro y2 y3 y5 y7 C Q_ h; cases h
  | succ n ih =>
    intro y2 y3 y5 y7 C Q_ h hX
    unfold L_Ln_shareOut_3 at h
    refine mj_iload (pc := 3) (i := 7) d_Ln_shareOut_3 rfl ?_
    refine mj_aload_n (pc := 5) (i := 0) d_Ln_shareOut_5 rfl rfl (by decide) ?_
    refine cj_getI (pc := 6) d_Ln_shareOut_6 fl_Ln_15 sh_15 rfl (by decide) (by decide) (by decide) ?_
    refine mj_icmp_ge (pc := 9) (tgt := 67) d_Ln_shareOut_9 (by decide) mj_hs (fun hc1 => ?_) (fun hc1 => ?_)
    · rw [if_pos hc1] at h
      obtain e_1 := inj1 h
      subst e_1
      exact mj_wk hX trivial
    · rw [if_neg hc1] at h
      refine mj_aload_n (pc := 12) (i := 0) d_Ln_shareOut_12 rfl rfl (by decide) ?_
      refine mj_iload (pc := 13) (i := 7) d_Ln_shareOut_13 rfl ?_
      refine mj_iconst (pc := 15) (v := 1) d_Ln_shareOut_15 (by decide) ?_
      obtain ⟨v2, hb3, h⟩ := bd1_some h
      refine mj_callV (pc := 16) (b := 15) (vs := [.int y7, .int 1]) (st := []) d_Ln_shareOut_16 bB_Ln_shareOut_Ln_get lk_Ln_23 iv_Ln_get rc_15 rfl (Nat.le_of_ble_eq_true rfl) (Nat.le_of_ble_eq_true rfl) (r_Ln_get hb3) ?_
      show mj_R M_Ln_shareOut 19 [some (.ref 15), some (.ref 1), some (.int y2), some (.long y3), none, some (.long y5), none, some (.int y7), none] [.int v2] (SH, jn C D) r (SH, y)
      refine mj_iload_n (pc := 19) (i := 2) d_Ln_shareOut_19 rfl rfl ?_
      obtain ⟨C13, hb15, h⟩ := bd1_some h
      have k14 : mj_R M_Ln_shareOut 61 [some (.ref 15), some (.ref 1), some (.int y2), some (.long y3), none, some (.long y5), none, some (.int y7), none] [] (SH, jn C13 D) r (SH, y) := by
        refine mj_iinc (pc := 61) (i := 7) (v := y7 + 1) d_Ln_shareOut_61 rfl (by rfl) rfl (by decide) ?_
        refine mj_goto (pc := 64) (tgt := 3) d_Ln_shareOut_64 (by decide) ?_
        exact mj_weak [some (.ref 15), some (.ref 1), some (.int y2), some (.long y3), none, some (.long y5), none, some (.int (y7 + 1)), none] (And.intro rfl (And.intro rfl (And.intro rfl (And.intro rfl (And.intro rfl (And.intro rfl trivial)))))) (ih _ _ _ _ _ _ h hX)
      have h := hb15
      refine mj_icmp_ne (pc := 20) (tgt := 61) d_Ln_shareOut_20 (by decide) mj_hs (fun hc4 => ?_) (fun hc4 => ?_)
      · rw [if_neg hc4] at h
        obtain e_1 := inj1 h
        subst e_1
        exact mj_wk k14 (And.intro rfl (And.intro rfl (And.intro rfl (And.intro rfl (And.intro rfl (And.intro rfl trivial))))))
      · rw [if_pos hc4] at h
        refine mj_lload (pc := 23) (i := 5) d_Ln_shareOut_23 rfl ?_
        refine mj_lconst (pc := 25) (v := 0) d_Ln_shareOut_25 (by decide) ?_
        refine mj_lcmp (pc := 26) d_Ln_shareOut_26 ?_
        refine mj_if_le (y := 0) (pc := 27) (tgt := 61) d_Ln_shareOut_27 (by decide) mj_hs (fun hc5 => ?_) (fun hc5 => ?_)
        · rw [if_pos hc5] at h
          obtain e_1 := inj1 h
          subst e_1
          exact mj_wk k14 (And.intro rfl (And.intro rfl (And.intro rfl (And.intro rfl (And.intro rfl (And.intro rfl trivial))))))
        · rw [if_neg hc5] at h
          refine mj_lload_n (pc := 30) (i := 3) d_Ln_shareOut_30 rfl rfl ?_
          refine mj_aload_n (pc := 31) (i := 0) d_Ln_shareOut_31 rfl rfl (by decide) ?_
          refine mj_iload (pc := 32) (i := 7) d_Ln_shareOut_32 rfl ?_
          refine mj_iconst (pc := 34) (v := 2) d_Ln_shareOut_34 (by decide) ?_
          obtain ⟨v6, hb7, h⟩ := bd1_some h
          refine mj_callV (pc := 35) (b := 15) (vs := [.int y7, .int 2]) (st := [.long y3]) d_Ln_shareOut_35 bB_Ln_shareOut_Ln_get lk_Ln_23 iv_Ln_get rc_15 rfl (Nat.le_of_ble_eq_true rfl) (Nat.le_of_ble_eq_true rfl) (r_Ln_get hb7) ?_
          show mj_R M_Ln_shareOut 38 [some (.ref 15), some (.ref 1), some (.int y2), some (.long y3), none, some (.long y5), none, some (.int y7), none] [.int v6, .long y3] (SH, jn C D) r (SH, y)
          refine mj_i2l (pc := 38) d_Ln_shareOut_38 ?_
          refine mj_lmul (pc := 39) d_Ln_shareOut_39 ?_
          refine mj_lload (pc := 40) (i := 5) d_Ln_shareOut_40 rfl ?_
          obtain ⟨hg8, h⟩ := mj_gz h
          refine mj_ldiv (pc := 42) d_Ln_shareOut_42 hg8 ?_
          refine mj_l2i (pc := 43) d_Ln_shareOut_43 ?_
          refine mj_istore (pc := 44) (i := 8) d_Ln_shareOut_44 rfl (by decide) ?_
          refine mj_aload_n (pc := 46) (i := 1) d_Ln_shareOut_46 rfl rfl (by decide) ?_
          refine mj_iload_n (pc := 47) (i := 2) d_Ln_shareOut_47 rfl rfl ?_
          refine mj_aload_n (pc := 48) (i := 0) d_Ln_shareOut_48 rfl rfl (by decide) ?_
          refine mj_iload (pc := 49) (i := 7) d_Ln_shareOut_49 rfl ?_
          refine mj_iconst (pc := 51) (v := 0) d_Ln_shareOut_51 (by decide) ?_
          obtain ⟨v9, hb10, h⟩ := bd1_some h
          refine mj_callV (pc := 52) (b := 15) (vs := [.int y7, .int 0]) (st := [.int y2, .ref 1]) d_Ln_shareOut_52 bB_Ln_shareOut_Ln_get lk_Ln_23 iv_Ln_get rc_15 rfl (Nat.le_of_ble_eq_true rfl) (Nat.le_of_ble_eq_true rfl) (r_Ln_get hb10) ?_
          show mj_R M_Ln_shareOut 55 [some (.ref 15), some (.ref 1), some (.int y2), some (.long y3), none, some (.long y5), none, some (.int y7), some (.int (((y3 * (v6.toInt64)) / y5).toInt32))] [.int v9, .int y2, .ref 1] (SH, jn C D) r (SH, y)
          refine mj_iconst (pc := 55) (v := 4) d_Ln_shareOut_55 (by decide) ?_
          refine mj_iload (pc := 56) (i := 8) d_Ln_shareOut_56 rfl ?_
          obtain ⟨C11, hb12, h⟩ := bd1_some h
          refine mj_callV (pc := 58) (b := 1) (vs := [.int y2, .int v9, .int 4, .int (((y3 * (v6.toInt64)) / y5).toInt32)]) (st := []) d_Ln_shareOut_58 bB_Ln_shareOut_Tw_hand lk_Ln_42 iv_Tw_hand rc_1 rfl (Nat.le_of_ble_eq_true rfl) (Nat.le_of_ble_eq_true rfl) (r_Tw_hand hb12) ?_
          show mj_R M_Ln_shareOut 61 [some (.ref 15), some (.ref 1), some (.int y2), some (.long y3), none, some (.long y5), none, some (.int y7), some (.int (((y3 * (v6.toInt64)) / y5).toInt32))] [] (SH, jn C11 D) r (SH, y)
          obtain e_1 := inj1 h
          subst e_1
          exact mj_wk k14 (And.intro rfl (And.intro rfl (And.intro rfl (And.intro rfl (And.intro rfl (And.intro rfl trivial))))))
set_option maxRecDepth 20000 in
theorem r_Ln_shareOut {x2 : Int32} {x3 : Int64} {x5 : Int64} {C0 D : St} {C' : St} (h : f_Ln_shareOut x2 x3 x5 C0 = some (C')) : mj_R M_Ln_shareOut 0 (mj_lv M_Ln_shareOut.2.2.1 [.ref 15, .ref 1, .int x2, .long x3, .long x5]) [] (SH, jn C0 D) none (SH, jn (C') D) := by
  show mj_R M_Ln_shareOut 0 [some (.ref 15), some (.ref 1), some (.int x2), some (.long x3), none, some (.long x5), none, none, none] [] _ _ _
  unfold f_Ln_shareOut at h
  refine mj_iconst (pc := 0) (v := 0) d_Ln_shareOut_0 (by decide) ?_
  refine mj_istore (pc := 1) (i := 7) d_Ln_shareOut_1 rfl (by decide) ?_
  obtain ⟨C16, hl17, h⟩ := bd1_some h
  refine mj_weak [some (.ref 15), some (.ref 1), some (.int x2), some (.long x3), none, some (.long x5), none, some (.int 0), none] (And.intro rfl (And.intro rfl (And.intro rfl (And.intro rfl (And.intro rfl (And.intro rfl trivial)))))) (l_Ln_shareOut_3 3000 _ _ _ _ _ _ hl17 ?_)
  obtain e_1 := inj1 h
  subst e_1
  exact mj_vret (pc := 67) d_Ln_shareOut_67 rfl
set_option maxRecDepth 20000 in
theorem r_Ln_close {x1 : Int32} {C0 D : St} {C' : St} (h : f_Ln_close x1 C0 = some (C')) : mj_R M_Ln_close 0 (mj_lv M_Ln_close.2.2.1 [.ref 15, .int x1]) [] (SH, jn C0 D) none (SH, jn (C') D) := by
  show mj_R M_Ln_close 0 [some (.ref 15), some (.int x1)] [] _ _ _
  unfold f_Ln_close at h
  refine mj_aload_n (pc := 0) (i := 0) d_Ln_close_0 rfl rfl (by decide) ?_
  refine mj_getR (pc := 1) d_Ln_close_1 fl_Ln_11 sh_15 rfl rfl (by decide) (by decide) (by decide) ?_
  refine mj_iload_n (pc := 4) (i := 1) d_Ln_close_4 rfl rfl ?_
  refine mj_iconst (pc := 5) (v := 4) d_Ln_close_5 (by decide) ?_
  refine mj_imul (pc := 6) d_Ln_close_6 ?_
  refine mj_iconst (pc := 7) (v := 2) d_Ln_close_7 (by decide) ?_
  refine mj_iadd (pc := 8) d_Ln_close_8 ?_
  refine mj_iconst (pc := 9) (v := 0) d_Ln_close_9 (by decide) ?_
  obtain ⟨hg1, h⟩ := mj_gd h
  refine cj_iast (pc := 10) d_Ln_close_10 sh_16 (by decide) hg1 (by decide) ?_
  obtain e_1 := inj1 h
  subst e_1
  exact mj_vret (pc := 11) d_Ln_close_11 rfl
set_option maxRecDepth 20000 in
theorem l_Ln_handOutRest_2 {r : Option Value} {D y : St} : ∀ (n : Nat) (y2 : Int32) (y3 : Int32) (C : St) (Q_ : St), L_Ln_handOutRest_2 n y2 y3 C = some Q_ → mj_R M_Ln_handOutRest 62 [none, none, none, none] [] (SH, jn Q_ D) r (SH, y) → mj_R M_Ln_handOutRest 2 [some (.ref 15), some (.ref 1), some (.int y2), some (.int y3)] [] (SH, jn C D) r (SH, y) := by
  intro n
  induction n with
  | zero => intro y2 y3 C Q_ h; cases h
  | succ n ih =>
    intro y2 y3 C Q_ h hX
    unfold L_Ln_handOutRest_2 at h
    refine mj_iload_n (pc := 2) (i := 3) d_Ln_handOutRest_2 rfl rfl ?_
    refine mj_aload_n (pc := 3) (i := 0) d_Ln_handOutRest_3 rfl rfl (by decide) ?_
    refine cj_getI (pc := 4) d_Ln_handOutRest_4 fl_Ln_15 sh_15 rfl (by decide) (by decide) (by decide) ?_
    refine mj_icmp_ge (pc := 7) (tgt := 62) d_Ln_handOutRest_7 (by decide) mj_hs (fun hc1 => ?_) (fun hc1 => ?_)
    · rw [if_pos hc1] at h
      obtain e_1 := inj1 h
      subst e_1
      exact mj_wk hX trivial
    · rw [if_neg hc1] at h
      refine mj_aload_n (pc := 10) (i := 0) d_Ln_handOutRest_10 rfl rfl (by decide) ?_
      refine mj_iload_n (pc := 11) (i := 3) d_Ln_handOutRest_11 rfl rfl ?_
      refine mj_iconst (pc := 12) (v := 1) d_Ln_handOutRest_12 (by decide) ?_
      obtain ⟨v2, hb3, h⟩ := bd1_some h
      refine mj_callV (pc := 13) (b := 15) (vs := [.int y3, .int 1]) (st := []) d_Ln_handOutRest_13 bB_Ln_handOutRest_Ln_get lk_Ln_23 iv_Ln_get rc_15 rfl (Nat.le_of_ble_eq_true rfl) (Nat.le_of_ble_eq_true rfl) (r_Ln_get hb3) ?_
      show mj_R M_Ln_handOutRest 16 [some (.ref 15), some (.ref 1), some (.int y2), some (.int y3)] [.int v2] (SH, jn C D) r (SH, y)
      refine mj_iload_n (pc := 16) (i := 2) d_Ln_handOutRest_16 rfl rfl ?_
      obtain ⟨C15, hb17, h⟩ := bd1_some h
      have k16 : mj_R M_Ln_handOutRest 56 [some (.ref 15), some (.ref 1), some (.int y2), some (.int y3)] [] (SH, jn C15 D) r (SH, y) := by
        refine mj_iinc (pc := 56) (i := 3) (v := y3 + 1) d_Ln_handOutRest_56 rfl (by rfl) rfl (by decide) ?_
        refine mj_goto (pc := 59) (tgt := 2) d_Ln_handOutRest_59 (by decide) ?_
        exact mj_weak [some (.ref 15), some (.ref 1), some (.int y2), some (.int (y3 + 1))] (And.intro rfl (And.intro rfl (And.intro rfl (And.intro rfl trivial)))) (ih _ _ _ _ h hX)
      have h := hb17
      refine mj_icmp_ne (pc := 17) (tgt := 56) d_Ln_handOutRest_17 (by decide) mj_hs (fun hc4 => ?_) (fun hc4 => ?_)
      · rw [if_neg hc4] at h
        obtain e_1 := inj1 h
        subst e_1
        exact mj_wk k16 (And.intro rfl (And.intro rfl (And.intro rfl (And.intro rfl trivial))))
      · rw [if_pos hc4] at h
        refine mj_aload_n (pc := 20) (i := 0) d_Ln_handOutRest_20 rfl rfl (by decide) ?_
        refine mj_iload_n (pc := 21) (i := 3) d_Ln_handOutRest_21 rfl rfl ?_
        refine mj_iconst (pc := 22) (v := 2) d_Ln_handOutRest_22 (by decide) ?_
        obtain ⟨v5, hb6, h⟩ := bd1_some h
        refine mj_callV (pc := 23) (b := 15) (vs := [.int y3, .int 2]) (st := []) d_Ln_handOutRest_23 bB_Ln_handOutRest_Ln_get lk_Ln_23 iv_Ln_get rc_15 rfl (Nat.le_of_ble_eq_true rfl) (Nat.le_of_ble_eq_true rfl) (r_Ln_get hb6) ?_
        show mj_R M_Ln_handOutRest 26 [some (.ref 15), some (.ref 1), some (.int y2), some (.int y3)] [.int v5] (SH, jn C D) r (SH, y)
        refine mj_if_eq (y := 0) (pc := 26) (tgt := 56) d_Ln_handOutRest_26 (by decide) mj_hs (fun hc7 => ?_) (fun hc7 => ?_)
        · rw [if_pos hc7] at h
          obtain e_1 := inj1 h
          subst e_1
          exact mj_wk k16 (And.intro rfl (And.intro rfl (And.intro rfl (And.intro rfl trivial))))
        · rw [if_neg hc7] at h
          refine mj_aload_n (pc := 29) (i := 1) d_Ln_handOutRest_29 rfl rfl (by decide) ?_
          refine mj_iload_n (pc := 30) (i := 2) d_Ln_handOutRest_30 rfl rfl ?_
          refine mj_aload_n (pc := 31) (i := 0) d_Ln_handOutRest_31 rfl rfl (by decide) ?_
          refine mj_iload_n (pc := 32) (i := 3) d_Ln_handOutRest_32 rfl rfl ?_
          refine mj_iconst (pc := 33) (v := 0) d_Ln_handOutRest_33 (by decide) ?_
          obtain ⟨v8, hb9, h⟩ := bd1_some h
          refine mj_callV (pc := 34) (b := 15) (vs := [.int y3, .int 0]) (st := [.int y2, .ref 1]) d_Ln_handOutRest_34 bB_Ln_handOutRest_Ln_get lk_Ln_23 iv_Ln_get rc_15 rfl (Nat.le_of_ble_eq_true rfl) (Nat.le_of_ble_eq_true rfl) (r_Ln_get hb9) ?_
          show mj_R M_Ln_handOutRest 37 [some (.ref 15), some (.ref 1), some (.int y2), some (.int y3)] [.int v8, .int y2, .ref 1] (SH, jn C D) r (SH, y)
          refine mj_iconst (pc := 37) (v := 4) d_Ln_handOutRest_37 (by decide) ?_
          refine mj_iconst (pc := 38) (v := 1) d_Ln_handOutRest_38 (by decide) ?_
          refine mj_aload_n (pc := 39) (i := 1) d_Ln_handOutRest_39 rfl rfl (by decide) ?_
          refine mj_getR (pc := 40) d_Ln_handOutRest_40 fl_Ln_39 sh_1 rfl rfl (by decide) (by decide) (by decide) ?_
          refine mj_iload_n (pc := 43) (i := 2) d_Ln_handOutRest_43 rfl rfl ?_
          obtain ⟨hg10, h⟩ := mj_gd h
          refine cj_iald (pc := 44) d_Ln_handOutRest_44 sh_3 (by decide) hg10 (by decide) ?_
          refine mj_min (pc := 45) d_Ln_handOutRest_45 mn_Ln_64 (by decide) (Nat.le_of_ble_eq_true rfl) ?_
          obtain ⟨C11, hb12, h⟩ := bd1_some h
          refine mj_callV (pc := 48) (b := 1) (vs := [.int y2, .int v8, .int 4, .int (if (C 3 y2.toNatClampNeg) < 1 then C 3 y2.toNatClampNeg else 1 : Int32)]) (st := []) d_Ln_handOutRest_48 bB_Ln_handOutRest_Tw_hand lk_Ln_42 iv_Tw_hand rc_1 rfl (Nat.le_of_ble_eq_true rfl) (Nat.le_of_ble_eq_true rfl) (r_Tw_hand hb12) ?_
          show mj_R M_Ln_handOutRest 51 [some (.ref 15), some (.ref 1), some (.int y2), some (.int y3)] [] (SH, jn C11 D) r (SH, y)
          refine mj_aload_n (pc := 51) (i := 0) d_Ln_handOutRest_51 rfl rfl (by decide) ?_
          refine mj_iload_n (pc := 52) (i := 3) d_Ln_handOutRest_52 rfl rfl ?_
          obtain ⟨C13, hb14, h⟩ := bd1_some h
          refine mj_callV (pc := 53) (b := 15) (vs := [.int y3]) (st := []) d_Ln_handOutRest_53 bB_Ln_handOutRest_Ln_close lk_Ln_46 iv_Ln_close rc_15 rfl (Nat.le_of_ble_eq_true rfl) (Nat.le_of_ble_eq_true rfl) (r_Ln_close hb14) ?_
          show mj_R M_Ln_handOutRest 56 [some (.ref 15), some (.ref 1), some (.int y2), some (.int y3)] [] (SH, jn C13 D) r (SH, y)
          obtain e_1 := inj1 h
          subst e_1
          exact mj_wk k16 (And.intro rfl (And.intro rfl (And.intro rfl (And.intro rfl trivial))))
set_option maxRecDepth 20000 in
theorem r_Ln_handOutRest {x2 : Int32} {C0 D : St} {C' : St} (h : f_Ln_handOutRest x2 C0 = some (C')) : mj_R M_Ln_handOutRest 0 (mj_lv M_Ln_handOutRest.2.2.1 [.ref 15, .ref 1, .int x2]) [] (SH, jn C0 D) none (SH, jn (C') D) := by
  show mj_R M_Ln_handOutRest 0 [some (.ref 15), some (.ref 1), some (.int x2), none] [] _ _ _
  unfold f_Ln_handOutRest at h
  refine mj_iconst (pc := 0) (v := 0) d_Ln_handOutRest_0 (by decide) ?_
  refine mj_istore_n (pc := 1) (i := 3) d_Ln_handOutRest_1 rfl rfl (by decide) ?_
  obtain ⟨C18, hl19, h⟩ := bd1_some h
  refine mj_weak [some (.ref 15), some (.ref 1), some (.int x2), some (.int 0)] (And.intro rfl (And.intro rfl (And.intro rfl (And.intro rfl trivial)))) (l_Ln_handOutRest_2 3000 _ _ _ _ hl19 ?_)
  obtain e_1 := inj1 h
  subst e_1
  exact mj_vret (pc := 62) d_Ln_handOutRest_62 rfl
set_option maxRecDepth 20000 in
theorem r_Ln_settle {x2 : Int32} {x3 : Int32} {C0 D : St} {C' : St} (h : f_Ln_settle x2 x3 C0 = some (C')) : mj_R M_Ln_settle 0 (mj_lv M_Ln_settle.2.2.1 [.ref 15, .ref 1, .int x2, .int x3]) [] (SH, jn C0 D) none (SH, jn (C') D) := by
  show mj_R M_Ln_settle 0 [some (.ref 15), some (.ref 1), some (.int x2), some (.int x3)] [] _ _ _
  unfold f_Ln_settle at h
  refine mj_aload_n (pc := 0) (i := 1) d_Ln_settle_0 rfl rfl (by decide) ?_
  refine mj_getR (pc := 1) d_Ln_settle_1 fl_Ln_39 sh_1 rfl rfl (by decide) (by decide) (by decide) ?_
  refine mj_iload_n (pc := 4) (i := 3) d_Ln_settle_4 rfl rfl ?_
  obtain ⟨hg1, h⟩ := mj_gd h
  refine cj_iald (pc := 5) d_Ln_settle_5 sh_3 (by decide) hg1 (by decide) ?_
  refine mj_aload_n (pc := 6) (i := 0) d_Ln_settle_6 rfl rfl (by decide) ?_
  refine mj_iload_n (pc := 7) (i := 2) d_Ln_settle_7 rfl rfl ?_
  refine mj_iconst (pc := 8) (v := 2) d_Ln_settle_8 (by decide) ?_
  obtain ⟨v2, hb3, h⟩ := bd1_some h
  refine mj_callV (pc := 9) (b := 15) (vs := [.int x2, .int 2]) (st := [.int (C0 3 x3.toNatClampNeg)]) d_Ln_settle_9 bB_Ln_settle_Ln_get lk_Ln_23 iv_Ln_get rc_15 rfl (Nat.le_of_ble_eq_true rfl) (Nat.le_of_ble_eq_true rfl) (r_Ln_get hb3) ?_
  show mj_R M_Ln_settle 12 [some (.ref 15), some (.ref 1), some (.int x2), some (.int x3)] [.int v2, .int (C0 3 x3.toNatClampNeg)] (SH, jn C0 D) none (SH, jn (C') D)
  obtain ⟨C20, hb22, h⟩ := bd1_some h
  have k21 : mj_R M_Ln_settle 74 [none, none, none, none] [] (SH, jn C20 D) none (SH, jn (C') D) := by
    obtain e_1 := inj1 h
    subst e_1
    exact mj_vret (pc := 74) d_Ln_settle_74 rfl
  have h := hb22
  refine mj_icmp_lt (pc := 12) (tgt := 41) d_Ln_settle_12 (by decide) mj_hs (fun hc4 => ?_) (fun hc4 => ?_)
  · rw [if_pos hc4] at h
    refine mj_aload_n (pc := 41) (i := 1) d_Ln_settle_41 rfl rfl (by decide) ?_
    refine mj_getR (pc := 42) d_Ln_settle_42 fl_Ln_50 sh_1 rfl rfl (by decide) (by decide) (by decide) ?_
    refine mj_iload_n (pc := 45) (i := 3) d_Ln_settle_45 rfl rfl ?_
    refine mj_iconst (pc := 46) (v := 1) d_Ln_settle_46 (by decide) ?_
    refine cj_iast (pc := 47) d_Ln_settle_47 sh_4 (by decide) hg1 (by decide) ?_
    refine mj_aload_n (pc := 48) (i := 0) d_Ln_settle_48 rfl rfl (by decide) ?_
    refine mj_aload_n (pc := 49) (i := 1) d_Ln_settle_49 rfl rfl (by decide) ?_
    refine mj_iload_n (pc := 50) (i := 3) d_Ln_settle_50 rfl rfl ?_
    refine mj_aload_n (pc := 51) (i := 1) d_Ln_settle_51 rfl rfl (by decide) ?_
    refine mj_getR (pc := 52) d_Ln_settle_52 fl_Ln_39 sh_1 rfl rfl (by decide) (by decide) (by decide) ?_
    refine mj_iload_n (pc := 55) (i := 3) d_Ln_settle_55 rfl rfl ?_
    refine cj_iald (pc := 56) d_Ln_settle_56 sh_3 (by decide) hg1 (by decide) ?_
    refine mj_i2l (pc := 57) d_Ln_settle_57 ?_
    refine mj_aload_n (pc := 58) (i := 0) d_Ln_settle_58 rfl rfl (by decide) ?_
    refine mj_iconst (pc := 59) (v := 1) d_Ln_settle_59 (by decide) ?_
    refine mj_iload_n (pc := 60) (i := 3) d_Ln_settle_60 rfl rfl ?_
    obtain ⟨v6, hb7, h⟩ := bd1_some h
    refine mj_callV (pc := 61) (b := 15) (vs := [.int 1, .int x3]) (st := [.long ((mj_wr C0 4 (x3.toNatClampNeg) 1 3 x3.toNatClampNeg).toInt64), .int x3, .ref 1, .ref 15]) d_Ln_settle_61 bB_Ln_settle_Ln_owedWhere lk_Ln_53 iv_Ln_owedWhere rc_15 rfl (Nat.le_of_ble_eq_true rfl) (Nat.le_of_ble_eq_true rfl) (r_Ln_owedWhere hb7) ?_
    show mj_R M_Ln_settle 64 [some (.ref 15), some (.ref 1), some (.int x2), some (.int x3)] [.int v6, .long ((mj_wr C0 4 (x3.toNatClampNeg) 1 3 x3.toNatClampNeg).toInt64), .int x3, .ref 1, .ref 15] (SH, jn (mj_wr C0 4 (x3.toNatClampNeg) 1) D) none (SH, jn (C') D)
    refine mj_i2l (pc := 64) d_Ln_settle_64 ?_
    obtain ⟨C8, hb9, h⟩ := bd1_some h
    refine mj_callV (pc := 65) (b := 15) (vs := [.ref 1, .int x3, .long ((mj_wr C0 4 (x3.toNatClampNeg) 1 3 x3.toNatClampNeg).toInt64), .long (v6.toInt64)]) (st := []) d_Ln_settle_65 bB_Ln_settle_Ln_shareOut lk_Ln_56 iv_Ln_shareOut rc_15 rfl (Nat.le_of_ble_eq_true rfl) (Nat.le_of_ble_eq_true rfl) (r_Ln_shareOut hb9) ?_
    show mj_R M_Ln_settle 68 [some (.ref 15), some (.ref 1), some (.int x2), some (.int x3)] [] (SH, jn C8 D) none (SH, jn (C') D)
    refine mj_aload_n (pc := 68) (i := 0) d_Ln_settle_68 rfl rfl (by decide) ?_
    refine mj_aload_n (pc := 69) (i := 1) d_Ln_settle_69 rfl rfl (by decide) ?_
    refine mj_iload_n (pc := 70) (i := 3) d_Ln_settle_70 rfl rfl ?_
    obtain ⟨C10, hb11, h⟩ := bd1_some h
    refine mj_callV (pc := 71) (b := 15) (vs := [.ref 1, .int x3]) (st := []) d_Ln_settle_71 bB_Ln_settle_Ln_handOutRest lk_Ln_60 iv_Ln_handOutRest rc_15 rfl (Nat.le_of_ble_eq_true rfl) (Nat.le_of_ble_eq_true rfl) (r_Ln_handOutRest hb11) ?_
    show mj_R M_Ln_settle 74 [some (.ref 15), some (.ref 1), some (.int x2), some (.int x3)] [] (SH, jn C10 D) none (SH, jn (C') D)
    obtain e_1 := inj1 h
    subst e_1
    exact mj_wk k21 trivial
  · rw [if_neg hc4] at h
    refine mj_aload_n (pc := 15) (i := 1) d_Ln_settle_15 rfl rfl (by decide) ?_
    refine mj_iload_n (pc := 16) (i := 3) d_Ln_settle_16 rfl rfl ?_
    refine mj_aload_n (pc := 17) (i := 0) d_Ln_settle_17 rfl rfl (by decide) ?_
    refine mj_iload_n (pc := 18) (i := 2) d_Ln_settle_18 rfl rfl ?_
    refine mj_iconst (pc := 19) (v := 0) d_Ln_settle_19 (by decide) ?_
    obtain ⟨v12, hb13, h⟩ := bd1_some h
    refine mj_callV (pc := 20) (b := 15) (vs := [.int x2, .int 0]) (st := [.int x3, .ref 1]) d_Ln_settle_20 bB_Ln_settle_Ln_get lk_Ln_23 iv_Ln_get rc_15 rfl (Nat.le_of_ble_eq_true rfl) (Nat.le_of_ble_eq_true rfl) (r_Ln_get hb13) ?_
    show mj_R M_Ln_settle 23 [some (.ref 15), some (.ref 1), some (.int x2), some (.int x3)] [.int v12, .int x3, .ref 1] (SH, jn C0 D) none (SH, jn (C') D)
    refine mj_iconst (pc := 23) (v := 4) d_Ln_settle_23 (by decide) ?_
    refine mj_aload_n (pc := 24) (i := 0) d_Ln_settle_24 rfl rfl (by decide) ?_
    refine mj_iload_n (pc := 25) (i := 2) d_Ln_settle_25 rfl rfl ?_
    refine mj_iconst (pc := 26) (v := 2) d_Ln_settle_26 (by decide) ?_
    obtain ⟨v14, hb15, h⟩ := bd1_some h
    refine mj_callV (pc := 27) (b := 15) (vs := [.int x2, .int 2]) (st := [.int 4, .int v12, .int x3, .ref 1]) d_Ln_settle_27 bB_Ln_settle_Ln_get lk_Ln_23 iv_Ln_get rc_15 rfl (Nat.le_of_ble_eq_true rfl) (Nat.le_of_ble_eq_true rfl) (r_Ln_get hb15) ?_
    show mj_R M_Ln_settle 30 [some (.ref 15), some (.ref 1), some (.int x2), some (.int x3)] [.int v14, .int 4, .int v12, .int x3, .ref 1] (SH, jn C0 D) none (SH, jn (C') D)
    obtain ⟨C16, hb17, h⟩ := bd1_some h
    refine mj_callV (pc := 30) (b := 1) (vs := [.int x3, .int v12, .int 4, .int v14]) (st := []) d_Ln_settle_30 bB_Ln_settle_Tw_hand lk_Ln_42 iv_Tw_hand rc_1 rfl (Nat.le_of_ble_eq_true rfl) (Nat.le_of_ble_eq_true rfl) (r_Tw_hand hb17) ?_
    show mj_R M_Ln_settle 33 [some (.ref 15), some (.ref 1), some (.int x2), some (.int x3)] [] (SH, jn C16 D) none (SH, jn (C') D)
    refine mj_aload_n (pc := 33) (i := 0) d_Ln_settle_33 rfl rfl (by decide) ?_
    refine mj_iload_n (pc := 34) (i := 2) d_Ln_settle_34 rfl rfl ?_
    obtain ⟨C18, hb19, h⟩ := bd1_some h
    refine mj_callV (pc := 35) (b := 15) (vs := [.int x2]) (st := []) d_Ln_settle_35 bB_Ln_settle_Ln_close lk_Ln_46 iv_Ln_close rc_15 rfl (Nat.le_of_ble_eq_true rfl) (Nat.le_of_ble_eq_true rfl) (r_Ln_close hb19) ?_
    show mj_R M_Ln_settle 38 [some (.ref 15), some (.ref 1), some (.int x2), some (.int x3)] [] (SH, jn C18 D) none (SH, jn (C') D)
    refine mj_goto (pc := 38) (tgt := 74) d_Ln_settle_38 (by decide) ?_
    obtain e_1 := inj1 h
    subst e_1
    exact mj_wk k21 trivial
set_option maxRecDepth 20000 in
theorem l_Ln_forgetClosed_4 {r : Option Value} {D y : St} : ∀ (n : Nat) (y1 : Int32) (y2 : Int32) (C : St) (o1_ : Int32) (Q_ : St), L_Ln_forgetClosed_4 n y1 y2 C = some (o1_, Q_) → mj_R M_Ln_forgetClosed 48 [some (.ref 15), some (.int o1_), none] [] (SH, jn Q_ D) r (SH, y) → mj_R M_Ln_forgetClosed 4 [some (.ref 15), some (.int y1), some (.int y2)] [] (SH, jn C D) r (SH, y) := by
  intro n
  induction n with
  | zero => intro y1 y2 C o1_ Q_ h; cases h
  | succ n ih =>
    intro y1 y2 C o1_ Q_ h hX
    unfold L_Ln_forgetClosed_4 at h
    refine mj_iload_n (pc := 4) (i := 2) d_Ln_forgetClosed_4 rfl rfl ?_
    refine mj_aload_n (pc := 5) (i := 0) d_Ln_forgetClosed_5 rfl rfl (by decide) ?_
    refine cj_getI (pc := 6) d_Ln_forgetClosed_6 fl_Ln_15 sh_15 rfl (by decide) (by decide) (by decide) ?_
    refine mj_icmp_ge (pc := 9) (tgt := 48) d_Ln_forgetClosed_9 (by decide) mj_hs (fun hc1 => ?_) (fun hc1 => ?_)
    · rw [if_pos hc1] at h
      obtain ⟨e_1, e_2⟩ := inj2 h
      subst e_1
      subst e_2
      exact mj_wk hX (And.intro rfl (And.intro rfl trivial))
    · rw [if_neg hc1] at h
      refine mj_aload_n (pc := 12) (i := 0) d_Ln_forgetClosed_12 rfl rfl (by decide) ?_
      refine mj_iload_n (pc := 13) (i := 2) d_Ln_forgetClosed_13 rfl rfl ?_
      refine mj_iconst (pc := 14) (v := 2) d_Ln_forgetClosed_14 (by decide) ?_
      obtain ⟨v2, hb3, h⟩ := bd1_some h
      refine mj_callV (pc := 15) (b := 15) (vs := [.int y2, .int 2]) (st := []) d_Ln_forgetClosed_15 bB_Ln_forgetClosed_Ln_get lk_Ln_23 iv_Ln_get rc_15 rfl (Nat.le_of_ble_eq_true rfl) (Nat.le_of_ble_eq_true rfl) (r_Ln_get hb3) ?_
      show mj_R M_Ln_forgetClosed 18 [some (.ref 15), some (.int y1), some (.int y2)] [.int v2] (SH, jn C D) r (SH, y)
      obtain ⟨w6, C7, hb9, h⟩ := bd2_some h
      have k8 : mj_R M_Ln_forgetClosed 42 [some (.ref 15), some (.int w6), some (.int y2)] [] (SH, jn C7 D) r (SH, y) := by
        refine mj_iinc (pc := 42) (i := 2) (v := y2 + 1) d_Ln_forgetClosed_42 rfl (by rfl) rfl (by decide) ?_
        refine mj_goto (pc := 45) (tgt := 4) d_Ln_forgetClosed_45 (by decide) ?_
        exact mj_weak [some (.ref 15), some (.int w6), some (.int (y2 + 1))] (And.intro rfl (And.intro rfl (And.intro rfl trivial))) (ih _ _ _ _ _ h hX)
      have h := hb9
      refine mj_if_eq (y := 0) (pc := 18) (tgt := 42) d_Ln_forgetClosed_18 (by decide) mj_hs (fun hc4 => ?_) (fun hc4 => ?_)
      · rw [if_pos hc4] at h
        obtain ⟨e_1, e_2⟩ := inj2 h
        subst e_1
        subst e_2
        exact mj_wk k8 (And.intro rfl (And.intro rfl (And.intro rfl trivial)))
      · rw [if_neg hc4] at h
        refine mj_aload_n (pc := 21) (i := 0) d_Ln_forgetClosed_21 rfl rfl (by decide) ?_
        refine mj_getR (pc := 22) d_Ln_forgetClosed_22 fl_Ln_11 sh_15 rfl rfl (by decide) (by decide) (by decide) ?_
        refine mj_iload_n (pc := 25) (i := 2) d_Ln_forgetClosed_25 rfl rfl ?_
        refine mj_iconst (pc := 26) (v := 4) d_Ln_forgetClosed_26 (by decide) ?_
        refine mj_imul (pc := 27) d_Ln_forgetClosed_27 ?_
        refine mj_aload_n (pc := 28) (i := 0) d_Ln_forgetClosed_28 rfl rfl (by decide) ?_
        refine mj_getR (pc := 29) d_Ln_forgetClosed_29 fl_Ln_11 sh_15 rfl rfl (by decide) (by decide) (by decide) ?_
        refine mj_iload_n (pc := 32) (i := 1) d_Ln_forgetClosed_32 rfl rfl ?_
        refine mj_iconst (pc := 33) (v := 4) d_Ln_forgetClosed_33 (by decide) ?_
        refine mj_imul (pc := 34) d_Ln_forgetClosed_34 ?_
        refine mj_iconst (pc := 35) (v := 4) d_Ln_forgetClosed_35 (by decide) ?_
        obtain ⟨hg5, h⟩ := mj_gd h
        refine cj_copy (pc := 36) d_Ln_forgetClosed_36 cp_Ln_69 sh_16 sh_16 (by decide) (by decide) hg5 (by decide) (Nat.le_of_ble_eq_true rfl) ?_
        show mj_R M_Ln_forgetClosed 39 [some (.ref 15), some (.int y1), some (.int y2)] [] (SH, jn (mj_cp C 16 16 ((y2 * 4).toNatClampNeg) ((y1 * 4).toNatClampNeg) 4) D) r (SH, y)
        refine mj_iinc (pc := 39) (i := 1) (v := y1 + 1) d_Ln_forgetClosed_39 rfl (by rfl) rfl (by decide) ?_
        obtain ⟨e_1, e_2⟩ := inj2 h
        subst e_1
        subst e_2
        exact mj_wk k8 (And.intro rfl (And.intro rfl (And.intro rfl trivial)))
set_option maxRecDepth 20000 in
theorem r_Ln_forgetClosed  {C0 D : St} {C' : St} (h : f_Ln_forgetClosed C0 = some (C')) : mj_R M_Ln_forgetClosed 0 (mj_lv M_Ln_forgetClosed.2.2.1 [.ref 15]) [] (SH, jn C0 D) none (SH, jn (C') D) := by
  show mj_R M_Ln_forgetClosed 0 [some (.ref 15), none, none] [] _ _ _
  unfold f_Ln_forgetClosed at h
  refine mj_iconst (pc := 0) (v := 0) d_Ln_forgetClosed_0 (by decide) ?_
  refine mj_istore_n (pc := 1) (i := 1) d_Ln_forgetClosed_1 rfl rfl (by decide) ?_
  refine mj_iconst (pc := 2) (v := 0) d_Ln_forgetClosed_2 (by decide) ?_
  refine mj_istore_n (pc := 3) (i := 2) d_Ln_forgetClosed_3 rfl rfl (by decide) ?_
  obtain ⟨o10, C11, hl12, h⟩ := bd2_some h
  refine mj_weak [some (.ref 15), some (.int 0), some (.int 0)] (And.intro rfl (And.intro rfl (And.intro rfl trivial))) (l_Ln_forgetClosed_4 3000 _ _ _ _ _ hl12 ?_)
  refine mj_aload_n (pc := 48) (i := 0) d_Ln_forgetClosed_48 rfl rfl (by decide) ?_
  refine mj_iload_n (pc := 49) (i := 1) d_Ln_forgetClosed_49 rfl rfl ?_
  refine cj_putI (pc := 50) d_Ln_forgetClosed_50 fl_Ln_15 sh_15 rfl (fun _ _ _ h => by cases h; rfl) (by decide) (by decide) (by decide) ?_
  obtain e_1 := inj1 h
  subst e_1
  exact mj_vret (pc := 53) d_Ln_forgetClosed_53 rfl
set_option maxRecDepth 20000 in
theorem l_Ln_fallDue_2 {r : Option Value} {D y : St} : ∀ (n : Nat) (y2 : Int32) (C : St) (Q_ : St), L_Ln_fallDue_2 n y2 C = some Q_ → mj_R M_Ln_fallDue 50 [some (.ref 15), none, none] [] (SH, jn Q_ D) r (SH, y) → mj_R M_Ln_fallDue 2 [some (.ref 15), some (.ref 1), some (.int y2)] [] (SH, jn C D) r (SH, y) := by
  intro n
  induction n with
  | zero => intro y2 C Q_ h; cases h
  | succ n ih =>
    intro y2 C Q_ h hX
    unfold L_Ln_fallDue_2 at h
    refine mj_iload_n (pc := 2) (i := 2) d_Ln_fallDue_2 rfl rfl ?_
    refine mj_aload_n (pc := 3) (i := 0) d_Ln_fallDue_3 rfl rfl (by decide) ?_
    refine cj_getI (pc := 4) d_Ln_fallDue_4 fl_Ln_15 sh_15 rfl (by decide) (by decide) (by decide) ?_
    refine mj_icmp_ge (pc := 7) (tgt := 50) d_Ln_fallDue_7 (by decide) mj_hs (fun hc1 => ?_) (fun hc1 => ?_)
    · rw [if_pos hc1] at h
      obtain e_1 := inj1 h
      subst e_1
      exact mj_wk hX (And.intro rfl trivial)
    · rw [if_neg hc1] at h
      refine mj_aload_n (pc := 10) (i := 0) d_Ln_fallDue_10 rfl rfl (by decide) ?_
      refine mj_iload_n (pc := 11) (i := 2) d_Ln_fallDue_11 rfl rfl ?_
      refine mj_iconst (pc := 12) (v := 2) d_Ln_fallDue_12 (by decide) ?_
      obtain ⟨v2, hb3, h⟩ := bd1_some h
      refine mj_callV (pc := 13) (b := 15) (vs := [.int y2, .int 2]) (st := []) d_Ln_fallDue_13 bB_Ln_fallDue_Ln_get lk_Ln_23 iv_Ln_get rc_15 rfl (Nat.le_of_ble_eq_true rfl) (Nat.le_of_ble_eq_true rfl) (r_Ln_get hb3) ?_
      show mj_R M_Ln_fallDue 16 [some (.ref 15), some (.ref 1), some (.int y2)] [.int v2] (SH, jn C D) r (SH, y)
      obtain ⟨C12, hb14, h⟩ := bd1_some h
      have k13 : mj_R M_Ln_fallDue 44 [some (.ref 15), some (.ref 1), some (.int y2)] [] (SH, jn C12 D) r (SH, y) := by
        refine mj_iinc (pc := 44) (i := 2) (v := y2 + 1) d_Ln_fallDue_44 rfl (by rfl) rfl (by decide) ?_
        refine mj_goto (pc := 47) (tgt := 2) d_Ln_fallDue_47 (by decide) ?_
        exact mj_weak [some (.ref 15), some (.ref 1), some (.int (y2 + 1))] (And.intro rfl (And.intro rfl (And.intro rfl trivial))) (ih _ _ _ h hX)
      have h := hb14
      refine mj_if_eq (y := 0) (pc := 16) (tgt := 44) d_Ln_fallDue_16 (by decide) mj_hs (fun hc4 => ?_) (fun hc4 => ?_)
      · rw [if_pos hc4] at h
        obtain e_1 := inj1 h
        subst e_1
        exact mj_wk k13 (And.intro rfl (And.intro rfl (And.intro rfl trivial)))
      · rw [if_neg hc4] at h
        refine mj_aload_n (pc := 19) (i := 0) d_Ln_fallDue_19 rfl rfl (by decide) ?_
        refine mj_iload_n (pc := 20) (i := 2) d_Ln_fallDue_20 rfl rfl ?_
        refine mj_iconst (pc := 21) (v := 3) d_Ln_fallDue_21 (by decide) ?_
        obtain ⟨v5, hb6, h⟩ := bd1_some h
        refine mj_callV (pc := 22) (b := 15) (vs := [.int y2, .int 3]) (st := []) d_Ln_fallDue_22 bB_Ln_fallDue_Ln_get lk_Ln_23 iv_Ln_get rc_15 rfl (Nat.le_of_ble_eq_true rfl) (Nat.le_of_ble_eq_true rfl) (r_Ln_get hb6) ?_
        show mj_R M_Ln_fallDue 25 [some (.ref 15), some (.ref 1), some (.int y2)] [.int v5] (SH, jn C D) r (SH, y)
        refine mj_aload_n (pc := 25) (i := 1) d_Ln_fallDue_25 rfl rfl (by decide) ?_
        refine cj_getI (pc := 26) d_Ln_fallDue_26 fl_Ln_27 sh_1 rfl (by decide) (by decide) (by decide) ?_
        refine mj_icmp_ne (pc := 29) (tgt := 44) d_Ln_fallDue_29 (by decide) mj_hs (fun hc7 => ?_) (fun hc7 => ?_)
        · rw [if_neg hc7] at h
          obtain e_1 := inj1 h
          subst e_1
          exact mj_wk k13 (And.intro rfl (And.intro rfl (And.intro rfl trivial)))
        · rw [if_pos hc7] at h
          refine mj_aload_n (pc := 32) (i := 0) d_Ln_fallDue_32 rfl rfl (by decide) ?_
          refine mj_aload_n (pc := 33) (i := 1) d_Ln_fallDue_33 rfl rfl (by decide) ?_
          refine mj_iload_n (pc := 34) (i := 2) d_Ln_fallDue_34 rfl rfl ?_
          refine mj_aload_n (pc := 35) (i := 0) d_Ln_fallDue_35 rfl rfl (by decide) ?_
          refine mj_iload_n (pc := 36) (i := 2) d_Ln_fallDue_36 rfl rfl ?_
          refine mj_iconst (pc := 37) (v := 1) d_Ln_fallDue_37 (by decide) ?_
          obtain ⟨v8, hb9, h⟩ := bd1_some h
          refine mj_callV (pc := 38) (b := 15) (vs := [.int y2, .int 1]) (st := [.int y2, .ref 1, .ref 15]) d_Ln_fallDue_38 bB_Ln_fallDue_Ln_get lk_Ln_23 iv_Ln_get rc_15 rfl (Nat.le_of_ble_eq_true rfl) (Nat.le_of_ble_eq_true rfl) (r_Ln_get hb9) ?_
          show mj_R M_Ln_fallDue 41 [some (.ref 15), some (.ref 1), some (.int y2)] [.int v8, .int y2, .ref 1, .ref 15] (SH, jn C D) r (SH, y)
          obtain ⟨C10, hb11, h⟩ := bd1_some h
          refine mj_callV (pc := 41) (b := 15) (vs := [.ref 1, .int y2, .int v8]) (st := []) d_Ln_fallDue_41 bB_Ln_fallDue_Ln_settle lk_Ln_32 iv_Ln_settle rc_15 rfl (Nat.le_of_ble_eq_true rfl) (Nat.le_of_ble_eq_true rfl) (r_Ln_settle hb11) ?_
          show mj_R M_Ln_fallDue 44 [some (.ref 15), some (.ref 1), some (.int y2)] [] (SH, jn C10 D) r (SH, y)
          obtain e_1 := inj1 h
          subst e_1
          exact mj_wk k13 (And.intro rfl (And.intro rfl (And.intro rfl trivial)))
set_option maxRecDepth 20000 in
theorem r_Ln_fallDue  {C0 D : St} {C' : St} (h : f_Ln_fallDue C0 = some (C')) : mj_R M_Ln_fallDue 0 (mj_lv M_Ln_fallDue.2.2.1 [.ref 15, .ref 1]) [] (SH, jn C0 D) none (SH, jn (C') D) := by
  show mj_R M_Ln_fallDue 0 [some (.ref 15), some (.ref 1), none] [] _ _ _
  unfold f_Ln_fallDue at h
  refine mj_iconst (pc := 0) (v := 0) d_Ln_fallDue_0 (by decide) ?_
  refine mj_istore_n (pc := 1) (i := 2) d_Ln_fallDue_1 rfl rfl (by decide) ?_
  obtain ⟨C15, hl16, h⟩ := bd1_some h
  refine mj_weak [some (.ref 15), some (.ref 1), some (.int 0)] (And.intro rfl (And.intro rfl (And.intro rfl trivial))) (l_Ln_fallDue_2 3000 _ _ _ hl16 ?_)
  refine mj_aload_n (pc := 50) (i := 0) d_Ln_fallDue_50 rfl rfl (by decide) ?_
  obtain ⟨C17, hb18, h⟩ := bd1_some h
  refine mj_callV (pc := 51) (b := 15) (vs := []) (st := []) d_Ln_fallDue_51 bB_Ln_fallDue_Ln_forgetClosed lk_Ln_36 iv_Ln_forgetClosed rc_15 rfl (Nat.le_of_ble_eq_true rfl) (Nat.le_of_ble_eq_true rfl) (r_Ln_forgetClosed hb18) ?_
  show mj_R M_Ln_fallDue 54 [some (.ref 15), none, none] [] (SH, jn C17 D) none (SH, jn (C') D)
  obtain e_1 := inj1 h
  subst e_1
  exact mj_vret (pc := 54) d_Ln_fallDue_54 rfl
set_option maxRecDepth 20000 in
theorem l_Sk_shiftAges_28 {r : Option Value} {D y : St} : ∀ (n : Nat) (y1 : Int32) (y3 : Int32) (C : St) (Q_ : St), L_Sk_shiftAges_28 n y1 y3 C = some Q_ → mj_R M_Sk_shiftAges 53 [some (.ref 7), some (.int y1), none, none] [] (SH, jn Q_ D) r (SH, y) → mj_R M_Sk_shiftAges 28 [some (.ref 7), some (.int y1), none, some (.int y3)] [] (SH, jn C D) r (SH, y) := by
  intro n
  induction n with
  | zero => intro y1 y3 C Q_ h; cases h
  | succ n ih =>
    intro y1 y3 C Q_ h hX
    unfold L_Sk_shiftAges_28 at h
    refine mj_iload_n (pc := 28) (i := 3) d_Sk_shiftAges_28 rfl rfl ?_
    refine mj_iload_n (pc := 29) (i := 1) d_Sk_shiftAges_29 rfl rfl ?_
    refine mj_icmp_le (pc := 30) (tgt := 53) d_Sk_shiftAges_30 (by decide) mj_hs (fun hc3 => ?_) (fun hc3 => ?_)
    · rw [if_pos hc3] at h
      obtain e_1 := inj1 h
      subst e_1
      exact mj_wk hX (And.intro rfl (And.intro rfl trivial))
    · rw [if_neg hc3] at h
      refine mj_aload_n (pc := 33) (i := 0) d_Sk_shiftAges_33 rfl rfl (by decide) ?_
      refine mj_getR (pc := 34) d_Sk_shiftAges_34 fl_Sk_9 sh_7 rfl rfl (by decide) (by decide) (by decide) ?_
      refine mj_iload_n (pc := 37) (i := 3) d_Sk_shiftAges_37 rfl rfl ?_
      refine mj_aload_n (pc := 38) (i := 0) d_Sk_shiftAges_38 rfl rfl (by decide) ?_
      refine mj_getR (pc := 39) d_Sk_shiftAges_39 fl_Sk_9 sh_7 rfl rfl (by decide) (by decide) (by decide) ?_
      refine mj_iload_n (pc := 42) (i := 3) d_Sk_shiftAges_42 rfl rfl ?_
      refine mj_iconst (pc := 43) (v := 1) d_Sk_shiftAges_43 (by decide) ?_
      refine mj_isub (pc := 44) d_Sk_shiftAges_44 ?_
      obtain ⟨hg4, h⟩ := mj_gd h
      refine cj_iald (pc := 45) d_Sk_shiftAges_45 sh_8 (by decide) hg4 (by decide) ?_
      obtain ⟨hg5, h⟩ := mj_gd h
      refine cj_iast (pc := 46) d_Sk_shiftAges_46 sh_8 (by decide) hg5 (by decide) ?_
      refine mj_iinc (pc := 47) (i := 3) (v := y3 + (-1)) d_Sk_shiftAges_47 rfl (by rfl) rfl (by decide) ?_
      refine mj_goto (pc := 50) (tgt := 28) d_Sk_shiftAges_50 (by decide) ?_
      exact mj_weak [some (.ref 7), some (.int y1), none, some (.int (y3 + (-1)))] (And.intro rfl (And.intro rfl (And.intro rfl trivial))) (ih _ _ _ _ h hX)
set_option maxRecDepth 20000 in
theorem r_Sk_shiftAges {x1 : Int32} {C0 D : St} {C' : St} (h : f_Sk_shiftAges x1 C0 = some (C')) : mj_R M_Sk_shiftAges 0 (mj_lv M_Sk_shiftAges.2.2.1 [.ref 7, .int x1]) [] (SH, jn C0 D) none (SH, jn (C') D) := by
  show mj_R M_Sk_shiftAges 0 [some (.ref 7), some (.int x1), none, none] [] _ _ _
  unfold f_Sk_shiftAges at h
  refine mj_iload_n (pc := 0) (i := 1) d_Sk_shiftAges_0 rfl rfl ?_
  refine mj_bipush (pc := 1) (v := 10) d_Sk_shiftAges_1 (by decide) ?_
  refine mj_iadd (pc := 3) d_Sk_shiftAges_3 ?_
  refine mj_iconst (pc := 4) (v := 1) d_Sk_shiftAges_4 (by decide) ?_
  refine mj_isub (pc := 5) d_Sk_shiftAges_5 ?_
  refine mj_istore_n (pc := 6) (i := 2) d_Sk_shiftAges_6 rfl rfl (by decide) ?_
  refine mj_aload_n (pc := 7) (i := 0) d_Sk_shiftAges_7 rfl rfl (by decide) ?_
  refine mj_getR (pc := 8) d_Sk_shiftAges_8 fl_Sk_9 sh_7 rfl rfl (by decide) (by decide) (by decide) ?_
  refine mj_iload_n (pc := 11) (i := 2) d_Sk_shiftAges_11 rfl rfl ?_
  refine mj_dup2 (pc := 12) d_Sk_shiftAges_12 rfl rfl ?_
  obtain ⟨hg1, h⟩ := mj_gd h
  refine cj_iald (pc := 13) d_Sk_shiftAges_13 sh_8 (by decide) hg1 (by decide) ?_
  refine mj_aload_n (pc := 14) (i := 0) d_Sk_shiftAges_14 rfl rfl (by decide) ?_
  refine mj_getR (pc := 15) d_Sk_shiftAges_15 fl_Sk_9 sh_7 rfl rfl (by decide) (by decide) (by decide) ?_
  refine mj_iload_n (pc := 18) (i := 2) d_Sk_shiftAges_18 rfl rfl ?_
  refine mj_iconst (pc := 19) (v := 1) d_Sk_shiftAges_19 (by decide) ?_
  refine mj_isub (pc := 20) d_Sk_shiftAges_20 ?_
  obtain ⟨hg2, h⟩ := mj_gd h
  refine cj_iald (pc := 21) d_Sk_shiftAges_21 sh_8 (by decide) hg2 (by decide) ?_
  refine mj_iadd (pc := 22) d_Sk_shiftAges_22 ?_
  refine cj_iast (pc := 23) d_Sk_shiftAges_23 sh_8 (by decide) hg1 (by decide) ?_
  refine mj_iload_n (pc := 24) (i := 2) d_Sk_shiftAges_24 rfl rfl ?_
  refine mj_iconst (pc := 25) (v := 1) d_Sk_shiftAges_25 (by decide) ?_
  refine mj_isub (pc := 26) d_Sk_shiftAges_26 ?_
  refine mj_istore_n (pc := 27) (i := 3) d_Sk_shiftAges_27 rfl rfl (by decide) ?_
  obtain ⟨C6, hl7, h⟩ := bd1_some h
  refine mj_weak [some (.ref 7), some (.int x1), none, some (.int (((x1 + 10) - 1) - 1))] (And.intro rfl (And.intro rfl (And.intro rfl trivial))) (l_Sk_shiftAges_28 3000 _ _ _ _ hl7 ?_)
  refine mj_aload_n (pc := 53) (i := 0) d_Sk_shiftAges_53 rfl rfl (by decide) ?_
  refine mj_getR (pc := 54) d_Sk_shiftAges_54 fl_Sk_9 sh_7 rfl rfl (by decide) (by decide) (by decide) ?_
  refine mj_iload_n (pc := 57) (i := 1) d_Sk_shiftAges_57 rfl rfl ?_
  refine mj_iconst (pc := 58) (v := 0) d_Sk_shiftAges_58 (by decide) ?_
  obtain ⟨hg8, h⟩ := mj_gd h
  refine cj_iast (pc := 59) d_Sk_shiftAges_59 sh_8 (by decide) hg8 (by decide) ?_
  obtain e_1 := inj1 h
  subst e_1
  exact mj_vret (pc := 60) d_Sk_shiftAges_60 rfl
set_option maxRecDepth 20000 in
theorem l_Sk_takeFromAge_5 {r : Option Value} {D y : St} : ∀ (n : Nat) (y1 : Int32) (y3 : Int32) (y4 : Int32) (C : St) (o3_ : Int32) (Q_ : St), L_Sk_takeFromAge_5 n y1 y3 y4 C = some (o3_, Q_) → mj_R M_Sk_takeFromAge 40 [none, none, none, some (.int o3_), none] [] (SH, jn Q_ D) r (SH, y) → mj_R M_Sk_takeFromAge 5 [some (.ref 7), some (.int y1), none, some (.int y3), some (.int y4)] [] (SH, jn C D) r (SH, y) := by
  intro n
  induction n with
  | zero => intro y1 y3 y4 C o3_ Q_ h; cases h
  | succ n ih =>
    intro y1 y3 y4 C o3_ Q_ h hX
    unfold L_Sk_takeFromAge_5 at h
    refine mj_iload (pc := 5) (i := 4) d_Sk_takeFromAge_5 rfl ?_
    refine mj_bipush (pc := 7) (v := 10) d_Sk_takeFromAge_7 (by decide) ?_
    refine mj_icmp_ge (pc := 9) (tgt := 40) d_Sk_takeFromAge_9 (by decide) mj_hs (fun hc1 => ?_) (fun hc1 => ?_)
    · rw [if_pos hc1] at h
      obtain ⟨e_1, e_2⟩ := inj2 h
      subst e_1
      subst e_2
      exact mj_wk hX (And.intro rfl trivial)
    · rw [if_neg hc1] at h
      refine mj_iload_n (pc := 12) (i := 3) d_Sk_takeFromAge_12 rfl rfl ?_
      refine mj_aload_n (pc := 13) (i := 0) d_Sk_takeFromAge_13 rfl rfl (by decide) ?_
      refine mj_getR (pc := 14) d_Sk_takeFromAge_14 fl_Sk_9 sh_7 rfl rfl (by decide) (by decide) (by decide) ?_
      refine mj_iload_n (pc := 17) (i := 1) d_Sk_takeFromAge_17 rfl rfl ?_
      refine mj_iload (pc := 18) (i := 4) d_Sk_takeFromAge_18 rfl ?_
      refine mj_iadd (pc := 20) d_Sk_takeFromAge_20 ?_
      obtain ⟨hg2, h⟩ := mj_gd h
      refine cj_iald (pc := 21) d_Sk_takeFromAge_21 sh_8 (by decide) hg2 (by decide) ?_
      refine mj_iadd (pc := 22) d_Sk_takeFromAge_22 ?_
      refine mj_istore_n (pc := 23) (i := 3) d_Sk_takeFromAge_23 rfl rfl (by decide) ?_
      refine mj_aload_n (pc := 24) (i := 0) d_Sk_takeFromAge_24 rfl rfl (by decide) ?_
      refine mj_getR (pc := 25) d_Sk_takeFromAge_25 fl_Sk_9 sh_7 rfl rfl (by decide) (by decide) (by decide) ?_
      refine mj_iload_n (pc := 28) (i := 1) d_Sk_takeFromAge_28 rfl rfl ?_
      refine mj_iload (pc := 29) (i := 4) d_Sk_takeFromAge_29 rfl ?_
      refine mj_iadd (pc := 31) d_Sk_takeFromAge_31 ?_
      refine mj_iconst (pc := 32) (v := 0) d_Sk_takeFromAge_32 (by decide) ?_
      refine cj_iast (pc := 33) d_Sk_takeFromAge_33 sh_8 (by decide) hg2 (by decide) ?_
      refine mj_iinc (pc := 34) (i := 4) (v := y4 + 1) d_Sk_takeFromAge_34 rfl (by rfl) rfl (by decide) ?_
      refine mj_goto (pc := 37) (tgt := 5) d_Sk_takeFromAge_37 (by decide) ?_
      exact mj_weak [some (.ref 7), some (.int y1), none, some (.int (y3 + (C 8 (y1 + y4).toNatClampNeg))), some (.int (y4 + 1))] (And.intro rfl (And.intro rfl (And.intro rfl (And.intro rfl trivial)))) (ih _ _ _ _ _ _ h hX)
set_option maxRecDepth 20000 in
theorem r_Sk_takeFromAge {x1 : Int32} {x2 : Int32} {C0 D : St} {v : Int32} {C' : St} (h : f_Sk_takeFromAge x1 x2 C0 = some (v, C')) : mj_R M_Sk_takeFromAge 0 (mj_lv M_Sk_takeFromAge.2.2.1 [.ref 7, .int x1, .int x2]) [] (SH, jn C0 D) (some (.int v)) (SH, jn (C') D) := by
  show mj_R M_Sk_takeFromAge 0 [some (.ref 7), some (.int x1), some (.int x2), none, none] [] _ _ _
  unfold f_Sk_takeFromAge at h
  refine mj_iconst (pc := 0) (v := 0) d_Sk_takeFromAge_0 (by decide) ?_
  refine mj_istore_n (pc := 1) (i := 3) d_Sk_takeFromAge_1 rfl rfl (by decide) ?_
  refine mj_iload_n (pc := 2) (i := 2) d_Sk_takeFromAge_2 rfl rfl ?_
  refine mj_istore (pc := 3) (i := 4) d_Sk_takeFromAge_3 rfl (by decide) ?_
  obtain ⟨o3, C4, hl5, h⟩ := bd2_some h
  refine mj_weak [some (.ref 7), some (.int x1), none, some (.int 0), some (.int x2)] (And.intro rfl (And.intro rfl (And.intro rfl (And.intro rfl trivial)))) (l_Sk_takeFromAge_5 3000 _ _ _ _ _ _ hl5 ?_)
  refine mj_iload_n (pc := 40) (i := 3) d_Sk_takeFromAge_40 rfl rfl ?_
  obtain ⟨e_1, e_2⟩ := inj2 h
  subst e_1
  subst e_2
  exact mj_iret (pc := 41) d_Sk_takeFromAge_41 rfl
set_option maxRecDepth 20000 in
theorem l_Sk_grow_5 {r : Option Value} {D y : St} : ∀ (n : Nat) (y1 : Int32) (y2 : Int32) (y3 : Int32) (y4 : Int32) (C : St) (o3_ : Int32) (Q_ : St), L_Sk_grow_5 n y1 y2 y3 y4 C = some (o3_, Q_) → mj_R M_Sk_grow 82 [none, none, none, some (.int o3_), none, none, none] [] (SH, jn Q_ D) r (SH, y) → mj_R M_Sk_grow 5 [some (.ref 7), some (.int y1), some (.int y2), some (.int y3), some (.int y4), none, none] [] (SH, jn C D) r (SH, y) := by
  intro n
  induction n with
  | zero => intro y1 y2 y3 y4 C o3_ Q_ h; cases h
  | succ n ih =>
    intro y1 y2 y3 y4 C o3_ Q_ h hX
    unfold L_Sk_grow_5 at h
    refine mj_iload (pc := 5) (i := 4) d_Sk_grow_5 rfl ?_
    refine mj_bipush (pc := 7) (v := 12) d_Sk_grow_7 (by decide) ?_
    refine mj_icmp_ge (pc := 9) (tgt := 82) d_Sk_grow_9 (by decide) mj_hs (fun hc1 => ?_) (fun hc1 => ?_)
    · rw [if_pos hc1] at h
      obtain ⟨e_1, e_2⟩ := inj2 h
      subst e_1
      subst e_2
      exact mj_wk hX (And.intro rfl trivial)
    · rw [if_neg hc1] at h
      refine mj_iload (pc := 12) (i := 4) d_Sk_grow_12 rfl ?_
      refine mj_iconst (pc := 14) (v := 5) d_Sk_grow_14 (by decide) ?_
      refine mj_imul (pc := 15) d_Sk_grow_15 ?_
      refine mj_iload_n (pc := 16) (i := 1) d_Sk_grow_16 rfl rfl ?_
      refine mj_iadd (pc := 17) d_Sk_grow_17 ?_
      refine mj_istore (pc := 18) (i := 5) d_Sk_grow_18 rfl (by decide) ?_
      refine mj_aload_n (pc := 20) (i := 0) d_Sk_grow_20 rfl rfl (by decide) ?_
      refine mj_getR (pc := 21) d_Sk_grow_21 fl_Sk_15 sh_7 rfl rfl (by decide) (by decide) (by decide) ?_
      refine mj_iload (pc := 24) (i := 5) d_Sk_grow_24 rfl ?_
      obtain ⟨hg2, h⟩ := mj_gd h
      refine cj_iald (pc := 26) d_Sk_grow_26 sh_9 (by decide) hg2 (by decide) ?_
      obtain ⟨w15, C16, hb18, h⟩ := bd2_some h
      have k17 : mj_R M_Sk_grow 76 [some (.ref 7), some (.int y1), some (.int y2), some (.int w15), some (.int y4), none, none] [] (SH, jn C16 D) r (SH, y) := by
        refine mj_iinc (pc := 76) (i := 4) (v := y4 + 1) d_Sk_grow_76 rfl (by rfl) rfl (by decide) ?_
        refine mj_goto (pc := 79) (tgt := 5) d_Sk_grow_79 (by decide) ?_
        exact mj_weak [some (.ref 7), some (.int y1), some (.int y2), some (.int w15), some (.int (y4 + 1)), none, none] (And.intro rfl (And.intro rfl (And.intro rfl (And.intro rfl (And.intro rfl trivial))))) (ih _ _ _ _ _ _ _ h hX)
      have h := hb18
      refine mj_if_le (y := 0) (pc := 27) (tgt := 76) d_Sk_grow_27 (by decide) mj_hs (fun hc3 => ?_) (fun hc3 => ?_)
      · rw [if_pos hc3] at h
        obtain ⟨e_1, e_2⟩ := inj2 h
        subst e_1
        subst e_2
        exact mj_wk k17 (And.intro rfl (And.intro rfl (And.intro rfl (And.intro rfl (And.intro rfl trivial)))))
      · rw [if_neg hc3] at h
        refine mj_aload_n (pc := 30) (i := 0) d_Sk_grow_30 rfl rfl (by decide) ?_
        refine mj_iload (pc := 31) (i := 5) d_Sk_grow_31 rfl ?_
        refine mj_bipush (pc := 33) (v := 10) d_Sk_grow_33 (by decide) ?_
        refine mj_imul (pc := 35) d_Sk_grow_35 ?_
        obtain ⟨C4, hb5, h⟩ := bd1_some h
        refine mj_callV (pc := 36) (b := 7) (vs := [.int (((y4 * 5) + y1) * 10)]) (st := []) d_Sk_grow_36 bB_Sk_grow_Sk_shiftAges lk_Sk_27 iv_Sk_shiftAges rc_7 rfl (Nat.le_of_ble_eq_true rfl) (Nat.le_of_ble_eq_true rfl) (r_Sk_shiftAges hb5) ?_
        show mj_R M_Sk_grow 39 [some (.ref 7), some (.int y1), some (.int y2), some (.int y3), some (.int y4), some (.int ((y4 * 5) + y1)), none] [] (SH, jn C4 D) r (SH, y)
        refine mj_iload_n (pc := 39) (i := 2) d_Sk_grow_39 rfl rfl ?_
        obtain ⟨w10, C11, hb13, h⟩ := bd2_some h
        have k12 : mj_R M_Sk_grow 57 [some (.ref 7), some (.int y1), some (.int y2), some (.int y3), some (.int y4), some (.int ((y4 * 5) + y1)), none] [.int w10] (SH, jn C11 D) r (SH, y) := by
          refine mj_istore (pc := 57) (i := 6) d_Sk_grow_57 rfl (by decide) ?_
          refine mj_aload_n (pc := 59) (i := 0) d_Sk_grow_59 rfl rfl (by decide) ?_
          refine mj_getR (pc := 60) d_Sk_grow_60 fl_Sk_15 sh_7 rfl rfl (by decide) (by decide) (by decide) ?_
          refine mj_iload (pc := 63) (i := 5) d_Sk_grow_63 rfl ?_
          refine mj_dup2 (pc := 65) d_Sk_grow_65 rfl rfl ?_
          refine cj_iald (pc := 66) d_Sk_grow_66 sh_9 (by decide) hg2 (by decide) ?_
          refine mj_iload (pc := 67) (i := 6) d_Sk_grow_67 rfl ?_
          refine mj_isub (pc := 69) d_Sk_grow_69 ?_
          refine cj_iast (pc := 70) d_Sk_grow_70 sh_9 (by decide) hg2 (by decide) ?_
          refine mj_iload_n (pc := 71) (i := 3) d_Sk_grow_71 rfl rfl ?_
          refine mj_iload (pc := 72) (i := 6) d_Sk_grow_72 rfl ?_
          refine mj_iadd (pc := 74) d_Sk_grow_74 ?_
          refine mj_istore_n (pc := 75) (i := 3) d_Sk_grow_75 rfl rfl (by decide) ?_
          obtain ⟨e_1, e_2⟩ := inj2 h
          subst e_1
          subst e_2
          exact mj_wk k17 (And.intro rfl (And.intro rfl (And.intro rfl (And.intro rfl (And.intro rfl trivial)))))
        have h := hb13
        refine mj_if_le (y := 0) (pc := 40) (tgt := 56) d_Sk_grow_40 (by decide) mj_hs (fun hc6 => ?_) (fun hc6 => ?_)
        · rw [if_pos hc6] at h
          refine mj_iconst (pc := 56) (v := 0) d_Sk_grow_56 (by decide) ?_
          obtain ⟨e_1, e_2⟩ := inj2 h
          subst e_1
          subst e_2
          exact mj_wk k12 (And.intro rfl (And.intro rfl (And.intro rfl (And.intro rfl (And.intro rfl (And.intro rfl trivial))))))
        · rw [if_neg hc6] at h
          refine mj_aload_n (pc := 43) (i := 0) d_Sk_grow_43 rfl rfl (by decide) ?_
          refine mj_iload (pc := 44) (i := 5) d_Sk_grow_44 rfl ?_
          refine mj_bipush (pc := 46) (v := 10) d_Sk_grow_46 (by decide) ?_
          refine mj_imul (pc := 48) d_Sk_grow_48 ?_
          refine mj_iload_n (pc := 49) (i := 2) d_Sk_grow_49 rfl rfl ?_
          obtain ⟨v7, C8, hb9, h⟩ := bd2_some h
          refine mj_callV (pc := 50) (b := 7) (vs := [.int (((y4 * 5) + y1) * 10), .int y2]) (st := []) d_Sk_grow_50 bB_Sk_grow_Sk_takeFromAge lk_Sk_31 iv_Sk_takeFromAge rc_7 rfl (Nat.le_of_ble_eq_true rfl) (Nat.le_of_ble_eq_true rfl) (r_Sk_takeFromAge hb9) ?_
          show mj_R M_Sk_grow 53 [some (.ref 7), some (.int y1), some (.int y2), some (.int y3), some (.int y4), some (.int ((y4 * 5) + y1)), none] [.int v7] (SH, jn C8 D) r (SH, y)
          refine mj_goto (pc := 53) (tgt := 57) d_Sk_grow_53 (by decide) ?_
          obtain ⟨e_1, e_2⟩ := inj2 h
          subst e_1
          subst e_2
          exact mj_wk k12 (And.intro rfl (And.intro rfl (And.intro rfl (And.intro rfl (And.intro rfl (And.intro rfl trivial))))))
set_option maxRecDepth 20000 in
theorem r_Sk_grow {x1 : Int32} {x2 : Int32} {C0 D : St} {v : Int32} {C' : St} (h : f_Sk_grow x1 x2 C0 = some (v, C')) : mj_R M_Sk_grow 0 (mj_lv M_Sk_grow.2.2.1 [.ref 7, .int x1, .int x2]) [] (SH, jn C0 D) (some (.int v)) (SH, jn (C') D) := by
  show mj_R M_Sk_grow 0 [some (.ref 7), some (.int x1), some (.int x2), none, none, none, none] [] _ _ _
  unfold f_Sk_grow at h
  refine mj_iconst (pc := 0) (v := 0) d_Sk_grow_0 (by decide) ?_
  refine mj_istore_n (pc := 1) (i := 3) d_Sk_grow_1 rfl rfl (by decide) ?_
  refine mj_iconst (pc := 2) (v := 0) d_Sk_grow_2 (by decide) ?_
  refine mj_istore (pc := 3) (i := 4) d_Sk_grow_3 rfl (by decide) ?_
  obtain ⟨o19, C20, hl21, h⟩ := bd2_some h
  refine mj_weak [some (.ref 7), some (.int x1), some (.int x2), some (.int 0), some (.int 0), none, none] (And.intro rfl (And.intro rfl (And.intro rfl (And.intro rfl (And.intro rfl trivial))))) (l_Sk_grow_5 3000 _ _ _ _ _ _ _ hl21 ?_)
  refine mj_iload_n (pc := 82) (i := 3) d_Sk_grow_82 rfl rfl ?_
  obtain ⟨e_1, e_2⟩ := inj2 h
  subst e_1
  subst e_2
  exact mj_iret (pc := 83) d_Sk_grow_83 rfl
