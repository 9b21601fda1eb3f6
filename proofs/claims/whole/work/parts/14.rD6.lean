set_option maxRecDepth 20000 in
theorem l_Md_liveDay_10 {r : Option Value} {X y : St} : ∀ (n : Nat) (y1 : Int32) (C : St) (Q_ : St), L_Md_liveDay_10 n y1 C = some Q_ → mj_R M_Md_liveDay 58 [some (.ref 88), none, none] [] (SH, jn X Q_) r (SH, y) → mj_R M_Md_liveDay 10 [some (.ref 88), some (.int y1), none] [] (SH, jn X C) r (SH, y) := by
  intro n
  induction n with
  | zero => intro y1 C Q_ h; cases h
  | succ n ih =>
    intro y1 C Q_ h hX
    unfold L_Md_liveDay_10 at h
    refine mj_iload_n (pc := 10) (i := 1) d_Md_liveDay_10 rfl rfl ?_
    refine mj_iconst (pc := 11) (v := 5) d_Md_liveDay_11 (by decide) ?_
    refine mj_icmp_ge (pc := 12) (tgt := 58) d_Md_liveDay_12 (by decide) mj_hs (fun hc5 => ?_) (fun hc5 => ?_)
    · rw [if_pos hc5] at h
      obtain e_1 := inj1 h
      subst e_1
      exact mj_wk hX (And.intro rfl trivial)
    · rw [if_neg hc5] at h
      refine mj_aload_n (pc := 15) (i := 0) d_Md_liveDay_15 rfl rfl (by decide) ?_
      refine mj_iload_n (pc := 16) (i := 1) d_Md_liveDay_16 rfl rfl ?_
      refine mj_iconst (pc := 17) (v := 1) d_Md_liveDay_17 (by decide) ?_
      obtain ⟨v6, hb7, h⟩ := bd1_some h
      refine mj_callV (pc := 18) (b := 88) (vs := [.int y1, .int 1]) (st := []) d_Md_liveDay_18 bB_Md_liveDay_Md_goodIs lk_Md_153 iv_Md_goodIs rc_88 rfl (Nat.le_of_ble_eq_true rfl) (Nat.le_of_ble_eq_true rfl) (r_Md_goodIs hb7) ?_
      show mj_R M_Md_liveDay 21 [some (.ref 88), some (.int y1), none] [.int v6] (SH, jn X C) r (SH, y)
      refine mj_istore_n (pc := 21) (i := 2) d_Md_liveDay_21 rfl rfl (by decide) ?_
      refine mj_iload_n (pc := 22) (i := 2) d_Md_liveDay_22 rfl rfl ?_
      obtain ⟨C16, hb18, h⟩ := bd1_some h
      have k17 : mj_R M_Md_liveDay 52 [some (.ref 88), some (.int y1), none] [] (SH, jn X C16) r (SH, y) := by
        refine mj_iinc (pc := 52) (i := 1) (v := y1 + 1) d_Md_liveDay_52 rfl (by rfl) rfl (by decide) ?_
        refine mj_goto (pc := 55) (tgt := 10) d_Md_liveDay_55 (by decide) ?_
        exact mj_weak [some (.ref 88), some (.int (y1 + 1)), none] (And.intro rfl (And.intro rfl trivial)) (ih _ _ _ h hX)
      have h := hb18
      refine mj_if_ne (y := 0) (pc := 23) (tgt := 34) d_Md_liveDay_23 (by decide) mj_hs (fun hc8 => ?_) (fun hc8 => ?_)
      · rw [if_neg hc8] at h
        refine mj_iload_n (pc := 34) (i := 2) d_Md_liveDay_34 rfl rfl ?_
        refine mj_iconst (pc := 35) (v := 1) d_Md_liveDay_35 (by decide) ?_
        refine mj_icmp_ne (pc := 36) (tgt := 47) d_Md_liveDay_36 (by decide) mj_hs (fun hc9 => ?_) (fun hc9 => ?_)
        · rw [if_neg hc9] at h
          refine mj_aload_n (pc := 47) (i := 0) d_Md_liveDay_47 rfl rfl (by decide) ?_
          refine mj_iload_n (pc := 48) (i := 1) d_Md_liveDay_48 rfl rfl ?_
          obtain ⟨C10, hb11, h⟩ := bd1_some h
          refine mj_callV (pc := 49) (b := 88) (vs := [.int y1]) (st := []) d_Md_liveDay_49 bB_Md_liveDay_Md_haggled lk_Md_244 iv_Md_haggled rc_88 rfl (Nat.le_of_ble_eq_true rfl) (Nat.le_of_ble_eq_true rfl) (r_Md_haggled hb11) ?_
          show mj_R M_Md_liveDay 52 [some (.ref 88), some (.int y1), some (.int v6)] [] (SH, jn X C10) r (SH, y)
          obtain e_1 := inj1 h
          subst e_1
          exact mj_wk k17 (And.intro rfl (And.intro rfl trivial))
        · rw [if_pos hc9] at h
          refine mj_aload_n (pc := 39) (i := 0) d_Md_liveDay_39 rfl rfl (by decide) ?_
          refine mj_iload_n (pc := 40) (i := 1) d_Md_liveDay_40 rfl rfl ?_
          obtain ⟨C12, hb13, h⟩ := bd1_some h
          refine mj_callV (pc := 41) (b := 88) (vs := [.int y1]) (st := []) d_Md_liveDay_41 bB_Md_liveDay_Md_called lk_Md_241 iv_Md_called rc_88 rfl (Nat.le_of_ble_eq_true rfl) (Nat.le_of_ble_eq_true rfl) (r_Md_called hb13) ?_
          show mj_R M_Md_liveDay 44 [some (.ref 88), some (.int y1), some (.int v6)] [] (SH, jn X C12) r (SH, y)
          refine mj_goto (pc := 44) (tgt := 52) d_Md_liveDay_44 (by decide) ?_
          obtain e_1 := inj1 h
          subst e_1
          exact mj_wk k17 (And.intro rfl (And.intro rfl trivial))
      · rw [if_pos hc8] at h
        refine mj_aload_n (pc := 26) (i := 0) d_Md_liveDay_26 rfl rfl (by decide) ?_
        refine mj_iload_n (pc := 27) (i := 1) d_Md_liveDay_27 rfl rfl ?_
        obtain ⟨C14, hb15, h⟩ := bd1_some h
        refine mj_callV (pc := 28) (b := 88) (vs := [.int y1]) (st := []) d_Md_liveDay_28 bB_Md_liveDay_Md_posted lk_Md_238 iv_Md_posted rc_88 rfl (Nat.le_of_ble_eq_true rfl) (Nat.le_of_ble_eq_true rfl) (r_Md_posted hb15) ?_
        show mj_R M_Md_liveDay 31 [some (.ref 88), some (.int y1), some (.int v6)] [] (SH, jn X C14) r (SH, y)
        refine mj_goto (pc := 31) (tgt := 52) d_Md_liveDay_31 (by decide) ?_
        obtain e_1 := inj1 h
        subst e_1
        exact mj_wk k17 (And.intro rfl (And.intro rfl trivial))
set_option maxRecDepth 20000 in
theorem l_Md_liveDay_78 {r : Option Value} {X y : St} : ∀ (n : Nat) (y1 : Int32) (y2 : Int32) (C : St) (Q_ : St), L_Md_liveDay_78 n y1 y2 C = some Q_ → mj_R M_Md_liveDay 95 [some (.ref 88), some (.int y1), none] [] (SH, jn X Q_) r (SH, y) → mj_R M_Md_liveDay 78 [some (.ref 88), some (.int y1), some (.int y2)] [] (SH, jn X C) r (SH, y) := by
  intro n
  induction n with
  | zero => intro y1 y2 C Q_ h; cases h
  | succ n ih =>
    intro y1 y2 C Q_ h hX
    unfold L_Md_liveDay_78 at h
    refine mj_iload_n (pc := 78) (i := 2) d_Md_liveDay_78 rfl rfl ?_
    refine mj_iconst (pc := 79) (v := 5) d_Md_liveDay_79 (by decide) ?_
    refine mj_icmp_ge (pc := 80) (tgt := 95) d_Md_liveDay_80 (by decide) mj_hs (fun hc25 => ?_) (fun hc25 => ?_)
    · rw [if_pos hc25] at h
      obtain e_1 := inj1 h
      subst e_1
      exact mj_wk hX (And.intro rfl (And.intro rfl trivial))
    · rw [if_neg hc25] at h
      refine mj_aload_n (pc := 83) (i := 0) d_Md_liveDay_83 rfl rfl (by decide) ?_
      refine mj_iload_n (pc := 84) (i := 1) d_Md_liveDay_84 rfl rfl ?_
      refine mj_iload_n (pc := 85) (i := 2) d_Md_liveDay_85 rfl rfl ?_
      obtain ⟨C26, hb27, h⟩ := bd1_some h
      refine mj_callV (pc := 86) (b := 88) (vs := [.int y1, .int y2]) (st := []) d_Md_liveDay_86 bB_Md_liveDay_Md_age lk_Md_250 iv_Md_age rc_88 rfl (Nat.le_of_ble_eq_true rfl) (Nat.le_of_ble_eq_true rfl) (r_Md_age hb27) ?_
      show mj_R M_Md_liveDay 89 [some (.ref 88), some (.int y1), some (.int y2)] [] (SH, jn X C26) r (SH, y)
      refine mj_iinc (pc := 89) (i := 2) (v := y2 + 1) d_Md_liveDay_89 rfl (by rfl) rfl (by decide) ?_
      refine mj_goto (pc := 92) (tgt := 78) d_Md_liveDay_92 (by decide) ?_
      exact mj_weak [some (.ref 88), some (.int y1), some (.int (y2 + 1))] (And.intro rfl (And.intro rfl (And.intro rfl trivial))) (ih _ _ _ _ h hX)
set_option maxRecDepth 20000 in
theorem l_Md_liveDay_64 {r : Option Value} {X y : St} : ∀ (n : Nat) (y1 : Int32) (C : St) (Q_ : St), L_Md_liveDay_64 n y1 C = some Q_ → mj_R M_Md_liveDay 101 [some (.ref 88), none, none] [] (SH, jn X Q_) r (SH, y) → mj_R M_Md_liveDay 64 [some (.ref 88), some (.int y1), none] [] (SH, jn X C) r (SH, y) := by
  intro n
  induction n with
  | zero => intro y1 C Q_ h; cases h
  | succ n ih =>
    intro y1 C Q_ h hX
    unfold L_Md_liveDay_64 at h
    refine mj_iload_n (pc := 64) (i := 1) d_Md_liveDay_64 rfl rfl ?_
    refine mj_aload_n (pc := 65) (i := 0) d_Md_liveDay_65 rfl rfl (by decide) ?_
    refine mj_getR (pc := 66) d_Md_liveDay_66 fl_Md_7 sh_88 rfl rfl (by decide) (by decide) (by decide) ?_
    refine mj_sipush (pc := 69) (v := 2163) d_Md_liveDay_69 (by decide) ?_
    refine dj_iald (pc := 72) d_Md_liveDay_72 sh_89 (by decide) (by decide) (by decide) ?_
    show mj_R M_Md_liveDay 73 [some (.ref 88), some (.int y1), none] [.int (C 89 2163), .int y1] (SH, jn X C) r (SH, y)
    refine mj_icmp_ge (pc := 73) (tgt := 101) d_Md_liveDay_73 (by decide) mj_hs (fun hc24 => ?_) (fun hc24 => ?_)
    · rw [if_pos hc24] at h
      obtain e_1 := inj1 h
      subst e_1
      exact mj_wk hX (And.intro rfl trivial)
    · rw [if_neg hc24] at h
      refine mj_iconst (pc := 76) (v := 0) d_Md_liveDay_76 (by decide) ?_
      refine mj_istore_n (pc := 77) (i := 2) d_Md_liveDay_77 rfl rfl (by decide) ?_
      obtain ⟨C28, hl29, h⟩ := bd1_some h
      refine mj_weak [some (.ref 88), some (.int y1), some (.int 0)] (And.intro rfl (And.intro rfl (And.intro rfl trivial))) (l_Md_liveDay_78 3000 _ _ _ _ hl29 ?_)
      refine mj_iinc (pc := 95) (i := 1) (v := y1 + 1) d_Md_liveDay_95 rfl (by rfl) rfl (by decide) ?_
      refine mj_goto (pc := 98) (tgt := 64) d_Md_liveDay_98 (by decide) ?_
      exact mj_weak [some (.ref 88), some (.int (y1 + 1)), none] (And.intro rfl (And.intro rfl trivial)) (ih _ _ _ h hX)
set_option maxRecDepth 20000 in
theorem r_Md_liveDay  {C C0 : St} {C' : St} (h : f_Md_liveDay C0 = some (C')) : mj_R M_Md_liveDay 0 (mj_lv M_Md_liveDay.2.2.1 [.ref 88]) [] (SH, jn C C0) none (SH, jn C (C')) := by
  show mj_R M_Md_liveDay 0 [some (.ref 88), none, none] [] _ _ _
  unfold f_Md_liveDay at h
  refine mj_aload_n (pc := 0) (i := 0) d_Md_liveDay_0 rfl rfl (by decide) ?_
  obtain ⟨C1, hb2, h⟩ := bd1_some h
  refine mj_callV (pc := 1) (b := 88) (vs := []) (st := []) d_Md_liveDay_1 bB_Md_liveDay_Md_drawOrder lk_Md_232 iv_Md_drawOrder rc_88 rfl (Nat.le_of_ble_eq_true rfl) (Nat.le_of_ble_eq_true rfl) (r_Md_drawOrder hb2) ?_
  show mj_R M_Md_liveDay 4 [some (.ref 88), none, none] [] (SH, jn C C1) none (SH, jn C (C'))
  refine mj_aload_n (pc := 4) (i := 0) d_Md_liveDay_4 rfl rfl (by decide) ?_
  obtain ⟨C3, hb4, h⟩ := bd1_some h
  refine mj_callV (pc := 5) (b := 88) (vs := []) (st := []) d_Md_liveDay_5 bB_Md_liveDay_Md_actAll lk_Md_235 iv_Md_actAll rc_88 rfl (Nat.le_of_ble_eq_true rfl) (Nat.le_of_ble_eq_true rfl) (r_Md_actAll hb4) ?_
  show mj_R M_Md_liveDay 8 [some (.ref 88), none, none] [] (SH, jn C C3) none (SH, jn C (C'))
  refine mj_iconst (pc := 8) (v := 0) d_Md_liveDay_8 (by decide) ?_
  refine mj_istore_n (pc := 9) (i := 1) d_Md_liveDay_9 rfl rfl (by decide) ?_
  obtain ⟨C19, hl20, h⟩ := bd1_some h
  refine mj_weak [some (.ref 88), some (.int 0), none] (And.intro rfl (And.intro rfl trivial)) (l_Md_liveDay_10 3000 _ _ _ hl20 ?_)
  refine mj_aload_n (pc := 58) (i := 0) d_Md_liveDay_58 rfl rfl (by decide) ?_
  obtain ⟨C21, hb22, h⟩ := bd1_some h
  refine mj_callV (pc := 59) (b := 88) (vs := []) (st := []) d_Md_liveDay_59 bB_Md_liveDay_Md_settle lk_Md_247 iv_Md_settle rc_88 rfl (Nat.le_of_ble_eq_true rfl) (Nat.le_of_ble_eq_true rfl) (r_Md_settle hb22) ?_
  show mj_R M_Md_liveDay 62 [some (.ref 88), none, none] [] (SH, jn C C21) none (SH, jn C (C'))
  refine mj_iconst (pc := 62) (v := 0) d_Md_liveDay_62 (by decide) ?_
  refine mj_istore_n (pc := 63) (i := 1) d_Md_liveDay_63 rfl rfl (by decide) ?_
  obtain ⟨C32, hl33, h⟩ := bd1_some h
  refine mj_weak [some (.ref 88), some (.int 0), none] (And.intro rfl (And.intro rfl trivial)) (l_Md_liveDay_64 3000 _ _ _ hl33 ?_)
  refine mj_aload_n (pc := 101) (i := 0) d_Md_liveDay_101 rfl rfl (by decide) ?_
  refine mj_getR (pc := 102) d_Md_liveDay_102 fl_Md_7 sh_88 rfl rfl (by decide) (by decide) (by decide) ?_
  refine mj_sipush (pc := 105) (v := 2164) d_Md_liveDay_105 (by decide) ?_
  refine mj_dup2 (pc := 108) d_Md_liveDay_108 rfl rfl ?_
  refine dj_iald (pc := 109) d_Md_liveDay_109 sh_89 (by decide) (by decide) (by decide) ?_
  show mj_R M_Md_liveDay 110 [some (.ref 88), none, none] [.int (C32 89 2164), .int 2164, .ref 89] (SH, jn C C32) none (SH, jn C (C'))
  refine mj_iconst (pc := 110) (v := 1) d_Md_liveDay_110 (by decide) ?_
  refine mj_iadd (pc := 111) d_Md_liveDay_111 ?_
  refine dj_iast (pc := 112) d_Md_liveDay_112 sh_89 (by decide) (by decide) (by decide) ?_
  show mj_R M_Md_liveDay 113 [some (.ref 88), none, none] [] (SH, jn C (mj_wr C32 89 2164 ((C32 89 2164) + 1))) none (SH, jn C (C'))
  refine mj_aload_n (pc := 113) (i := 0) d_Md_liveDay_113 rfl rfl (by decide) ?_
  refine mj_iconst (pc := 114) (v := 0) d_Md_liveDay_114 (by decide) ?_
  refine dj_putI (pc := 115) d_Md_liveDay_115 fl_Md_156 sh_88 rfl (fun _ _ _ h => by cases h; rfl) (by decide) (by decide) (by decide) ?_
  obtain e_1 := inj1 h
  subst e_1
  exact mj_vret (pc := 118) d_Md_liveDay_118 rfl
set_option maxRecDepth 20000 in
theorem l_Md_live_31 {r : Option Value} {X y : St} : ∀ (n : Nat) (y1 : Int32) (y2 : Int32) (C : St) (Q_ : St), L_Md_live_31 n y1 y2 C = some Q_ → mj_R M_Md_live 46 [some (.ref 88), none, none] [] (SH, jn X Q_) r (SH, y) → mj_R M_Md_live 31 [some (.ref 88), some (.int y1), some (.int y2)] [] (SH, jn X C) r (SH, y) := by
  intro n
  induction n with
  | zero => intro y1 y2 C Q_ h; cases h
  | succ n ih =>
    intro y1 y2 C Q_ h hX
    unfold L_Md_live_31 at h
    refine mj_iload_n (pc := 31) (i := 2) d_Md_live_31 rfl rfl ?_
    refine mj_iload_n (pc := 32) (i := 1) d_Md_live_32 rfl rfl ?_
    refine mj_icmp_ge (pc := 33) (tgt := 46) d_Md_live_33 (by decide) mj_hs (fun hc6 => ?_) (fun hc6 => ?_)
    · rw [if_pos hc6] at h
      obtain e_1 := inj1 h
      subst e_1
      exact mj_wk hX (And.intro rfl trivial)
    · rw [if_neg hc6] at h
      refine mj_aload_n (pc := 36) (i := 0) d_Md_live_36 rfl rfl (by decide) ?_
      obtain ⟨C7, hb8, h⟩ := bd1_some h
      refine mj_callV (pc := 37) (b := 88) (vs := []) (st := []) d_Md_live_37 bB_Md_live_Md_liveDay lk_Md_253 iv_Md_liveDay rc_88 rfl (Nat.le_of_ble_eq_true rfl) (Nat.le_of_ble_eq_true rfl) (r_Md_liveDay hb8) ?_
      show mj_R M_Md_live 40 [some (.ref 88), some (.int y1), some (.int y2)] [] (SH, jn X C7) r (SH, y)
      refine mj_iinc (pc := 40) (i := 2) (v := y2 + 1) d_Md_live_40 rfl (by rfl) rfl (by decide) ?_
      refine mj_goto (pc := 43) (tgt := 31) d_Md_live_43 (by decide) ?_
      exact mj_weak [some (.ref 88), some (.int y1), some (.int (y2 + 1))] (And.intro rfl (And.intro rfl (And.intro rfl trivial))) (ih _ _ _ _ h hX)
set_option maxRecDepth 20000 in
theorem r_Md_live {x1 : Int32} {C C0 : St} {v : Int32} {C' : St} (h : f_Md_live x1 C0 = some (v, C')) : mj_R M_Md_live 0 (mj_lv M_Md_live.2.2.1 [.ref 88, .int x1]) [] (SH, jn C C0) (some (.int v)) (SH, jn C (C')) := by
  show mj_R M_Md_live 0 [some (.ref 88), some (.int x1), none] [] _ _ _
  unfold f_Md_live at h
  refine mj_iload_n (pc := 0) (i := 1) d_Md_live_0 rfl rfl ?_
  refine mj_iconst (pc := 1) (v := 1) d_Md_live_1 (by decide) ?_
  refine mj_bipush (pc := 2) (v := 30) d_Md_live_2 (by decide) ?_
  obtain ⟨v1, hb2, h⟩ := bd1_some h
  refine mj_callS (pc := 4) (vs := [.int x1, .int 1, .int 30]) (st := []) d_Md_live_4 bB_Md_live_Md_isIn lk_Md_53 st_Md_isIn rfl (Nat.le_of_ble_eq_true rfl) (Nat.le_of_ble_eq_true rfl) (r_Md_isIn hb2) ?_
  show mj_R M_Md_live 7 [some (.ref 88), some (.int x1), none] [.int v1] (SH, jn C C0) (some (.int v)) (SH, jn C (C'))
  refine mj_if_eq (y := 0) (pc := 7) (tgt := 26) d_Md_live_7 (by decide) mj_hs (fun hc3 => ?_) (fun hc3 => ?_)
  · rw [if_pos hc3] at h
    refine mj_ldc (pc := 26) (v := -1000000001) d_Md_live_26 k_Md_66 ?_
    obtain ⟨e_1, e_2⟩ := inj2 h
    subst e_1
    subst e_2
    exact mj_iret (pc := 28) d_Md_live_28 rfl
  · rw [if_neg hc3] at h
    refine mj_aload_n (pc := 10) (i := 0) d_Md_live_10 rfl rfl (by decide) ?_
    refine mj_getR (pc := 11) d_Md_live_11 fl_Md_7 sh_88 rfl rfl (by decide) (by decide) (by decide) ?_
    refine mj_sipush (pc := 14) (v := 2164) d_Md_live_14 (by decide) ?_
    refine dj_iald (pc := 17) d_Md_live_17 sh_89 (by decide) (by decide) (by decide) ?_
    show mj_R M_Md_live 18 [some (.ref 88), some (.int x1), none] [.int (C0 89 2164)] (SH, jn C C0) (some (.int v)) (SH, jn C (C'))
    refine mj_iload_n (pc := 18) (i := 1) d_Md_live_18 rfl rfl ?_
    refine mj_iadd (pc := 19) d_Md_live_19 ?_
    refine mj_sipush (pc := 20) (v := 700) d_Md_live_20 (by decide) ?_
    refine mj_icmp_le (pc := 23) (tgt := 29) d_Md_live_23 (by decide) mj_hs (fun hc5 => ?_) (fun hc5 => ?_)
    · rw [if_pos hc5] at h
      refine mj_iconst (pc := 29) (v := 0) d_Md_live_29 (by decide) ?_
      refine mj_istore_n (pc := 30) (i := 2) d_Md_live_30 rfl rfl (by decide) ?_
      obtain ⟨C9, hl10, h⟩ := bd1_some h
      refine mj_weak [some (.ref 88), some (.int x1), some (.int 0)] (And.intro rfl (And.intro rfl (And.intro rfl trivial))) (l_Md_live_31 3000 _ _ _ _ hl10 ?_)
      refine mj_aload_n (pc := 46) (i := 0) d_Md_live_46 rfl rfl (by decide) ?_
      refine mj_getR (pc := 47) d_Md_live_47 fl_Md_7 sh_88 rfl rfl (by decide) (by decide) (by decide) ?_
      refine mj_sipush (pc := 50) (v := 2164) d_Md_live_50 (by decide) ?_
      refine dj_iald (pc := 53) d_Md_live_53 sh_89 (by decide) (by decide) (by decide) ?_
      show mj_R M_Md_live 54 [some (.ref 88), none, none] [.int (C9 89 2164)] (SH, jn C C9) (some (.int v)) (SH, jn C (C'))
      obtain ⟨e_1, e_2⟩ := inj2 h
      subst e_1
      subst e_2
      exact mj_iret (pc := 54) d_Md_live_54 rfl
    · rw [if_neg hc5] at h
      refine mj_ldc (pc := 26) (v := -1000000001) d_Md_live_26 k_Md_66 ?_
      obtain ⟨e_1, e_2⟩ := inj2 h
      subst e_1
      subst e_2
      exact mj_iret (pc := 28) d_Md_live_28 rfl
set_option maxRecDepth 20000 in
theorem l_Md_owed_4 {r : Option Value} {X y : St} : ∀ (n : Nat) (y1 : Int32) (y2 : Int32) (y3 : Int32) (C : St) (o2_ : Int32), L_Md_owed_4 n y1 y2 y3 C = some o2_ → mj_R M_Md_owed 59 [none, none, some (.int o2_), none] [] (SH, jn X C) r (SH, y) → mj_R M_Md_owed 4 [some (.ref 88), some (.int y1), some (.int y2), some (.int y3)] [] (SH, jn X C) r (SH, y) := by
  intro n
  induction n with
  | zero => intro y1 y2 y3 C o2_ h; cases h
  | succ n ih =>
    intro y1 y2 y3 C o2_ h hX
    unfold L_Md_owed_4 at h
    refine mj_iload_n (pc := 4) (i := 3) d_Md_owed_4 rfl rfl ?_
    refine mj_aload_n (pc := 5) (i := 0) d_Md_owed_5 rfl rfl (by decide) ?_
    refine mj_getR (pc := 6) d_Md_owed_6 fl_Md_7 sh_88 rfl rfl (by decide) (by decide) (by decide) ?_
    refine mj_sipush (pc := 9) (v := 2168) d_Md_owed_9 (by decide) ?_
    refine dj_iald (pc := 12) d_Md_owed_12 sh_89 (by decide) (by decide) (by decide) ?_
    show mj_R M_Md_owed 13 [some (.ref 88), some (.int y1), some (.int y2), some (.int y3)] [.int (C 89 2168), .int y3] (SH, jn X C) r (SH, y)
    refine mj_icmp_ge (pc := 13) (tgt := 59) d_Md_owed_13 (by decide) mj_hs (fun hc2 => ?_) (fun hc2 => ?_)
    · rw [if_pos hc2] at h
      obtain e_1 := inj1 h
      subst e_1
      exact mj_wk hX (And.intro rfl trivial)
    · rw [if_neg hc2] at h
      refine mj_iload_n (pc := 16) (i := 2) d_Md_owed_16 rfl rfl ?_
      refine mj_aload_n (pc := 17) (i := 0) d_Md_owed_17 rfl rfl (by decide) ?_
      refine mj_getR (pc := 18) d_Md_owed_18 fl_Md_7 sh_88 rfl rfl (by decide) (by decide) (by decide) ?_
      refine mj_sipush (pc := 21) (v := 1363) d_Md_owed_21 (by decide) ?_
      refine mj_iconst (pc := 24) (v := 4) d_Md_owed_24 (by decide) ?_
      refine mj_iload_n (pc := 25) (i := 3) d_Md_owed_25 rfl rfl ?_
      refine mj_imul (pc := 26) d_Md_owed_26 ?_
      refine mj_iadd (pc := 27) d_Md_owed_27 ?_
      obtain ⟨hg3, h⟩ := mj_gd h
      refine dj_iald (pc := 28) d_Md_owed_28 sh_89 (by decide) hg3 (by decide) ?_
      refine mj_iload_n (pc := 29) (i := 1) d_Md_owed_29 rfl rfl ?_
      obtain ⟨w6, hb8, h⟩ := bd1_some h
      have k7 : mj_R M_Md_owed 51 [some (.ref 88), some (.int y1), none, some (.int y3)] [.int w6, .int y2] (SH, jn X C) r (SH, y) := by
        refine mj_iadd (pc := 51) d_Md_owed_51 ?_
        refine mj_istore_n (pc := 52) (i := 2) d_Md_owed_52 rfl rfl (by decide) ?_
        refine mj_iinc (pc := 53) (i := 3) (v := y3 + 1) d_Md_owed_53 rfl (by rfl) rfl (by decide) ?_
        refine mj_goto (pc := 56) (tgt := 4) d_Md_owed_56 (by decide) ?_
        exact mj_weak [some (.ref 88), some (.int y1), some (.int (y2 + w6)), some (.int (y3 + 1))] (And.intro rfl (And.intro rfl (And.intro rfl (And.intro rfl trivial)))) (ih _ _ _ _ _ h hX)
      have h := hb8
      refine mj_icmp_ne (pc := 30) (tgt := 50) d_Md_owed_30 (by decide) mj_hs (fun hc4 => ?_) (fun hc4 => ?_)
      · rw [if_neg hc4] at h
        refine mj_iconst (pc := 50) (v := 0) d_Md_owed_50 (by decide) ?_
        obtain e_1 := inj1 h
        subst e_1
        exact mj_wk k7 (And.intro rfl (And.intro rfl (And.intro rfl trivial)))
      · rw [if_pos hc4] at h
        refine mj_aload_n (pc := 33) (i := 0) d_Md_owed_33 rfl rfl (by decide) ?_
        refine mj_getR (pc := 34) d_Md_owed_34 fl_Md_7 sh_88 rfl rfl (by decide) (by decide) (by decide) ?_
        refine mj_sipush (pc := 37) (v := 1363) d_Md_owed_37 (by decide) ?_
        refine mj_iconst (pc := 40) (v := 4) d_Md_owed_40 (by decide) ?_
        refine mj_iload_n (pc := 41) (i := 3) d_Md_owed_41 rfl rfl ?_
        refine mj_imul (pc := 42) d_Md_owed_42 ?_
        refine mj_iadd (pc := 43) d_Md_owed_43 ?_
        refine mj_iconst (pc := 44) (v := 2) d_Md_owed_44 (by decide) ?_
        refine mj_iadd (pc := 45) d_Md_owed_45 ?_
        obtain ⟨hg5, h⟩ := mj_gd h
        refine dj_iald (pc := 46) d_Md_owed_46 sh_89 (by decide) hg5 (by decide) ?_
        refine mj_goto (pc := 47) (tgt := 51) d_Md_owed_47 (by decide) ?_
        obtain e_1 := inj1 h
        subst e_1
        exact mj_wk k7 (And.intro rfl (And.intro rfl (And.intro rfl trivial)))
set_option maxRecDepth 20000 in
theorem r_Md_owed {x1 : Int32} {C C0 : St} {v : Int32} (h : f_Md_owed x1 C0 = some v) : mj_R M_Md_owed 0 (mj_lv M_Md_owed.2.2.1 [.ref 88, .int x1]) [] (SH, jn C C0) (some (.int v)) (SH, jn C C0) := by
  show mj_R M_Md_owed 0 [some (.ref 88), some (.int x1), none, none] [] _ _ _
  unfold f_Md_owed at h
  refine mj_iconst (pc := 0) (v := 0) d_Md_owed_0 (by decide) ?_
  refine mj_istore_n (pc := 1) (i := 2) d_Md_owed_1 rfl rfl (by decide) ?_
  refine mj_iconst (pc := 2) (v := 0) d_Md_owed_2 (by decide) ?_
  refine mj_istore_n (pc := 3) (i := 3) d_Md_owed_3 rfl rfl (by decide) ?_
  obtain ⟨o9, hl10, h⟩ := bd1_some h
  refine mj_weak [some (.ref 88), some (.int x1), some (.int 0), some (.int 0)] (And.intro rfl (And.intro rfl (And.intro rfl (And.intro rfl trivial)))) (l_Md_owed_4 3000 _ _ _ _ _ hl10 ?_)
  refine mj_iload_n (pc := 59) (i := 2) d_Md_owed_59 rfl rfl ?_
  obtain e_1 := inj1 h
  subst e_1
  exact mj_iret (pc := 60) d_Md_owed_60 rfl
set_option maxRecDepth 20000 in
theorem r_Md_about {x1 : Int32} {x2 : Int32} {C C0 : St} {v : Int32} (h : f_Md_about x1 x2 C0 = some v) : mj_R M_Md_about 0 (mj_lv M_Md_about.2.2.1 [.ref 88, .int x1, .int x2]) [] (SH, jn C C0) (some (.int v)) (SH, jn C C0) := by
  show mj_R M_Md_about 0 [some (.ref 88), some (.int x1), some (.int x2)] [] _ _ _
  unfold f_Md_about at h
  refine mj_aload_n (pc := 0) (i := 0) d_Md_about_0 rfl rfl (by decide) ?_
  refine mj_iload_n (pc := 1) (i := 1) d_Md_about_1 rfl rfl ?_
  obtain ⟨v1, hb2, h⟩ := bd1_some h
  refine mj_callV (pc := 2) (b := 88) (vs := [.int x1]) (st := []) d_Md_about_2 bB_Md_about_Md_isAgent lk_Md_69 iv_Md_isAgent rc_88 rfl (Nat.le_of_ble_eq_true rfl) (Nat.le_of_ble_eq_true rfl) (r_Md_isAgent hb2) ?_
  show mj_R M_Md_about 5 [some (.ref 88), some (.int x1), some (.int x2)] [.int v1] (SH, jn C C0) (some (.int v)) (SH, jn C C0)
  refine mj_if_eq (y := 0) (pc := 5) (tgt := 18) d_Md_about_5 (by decide) mj_hs (fun hc3 => ?_) (fun hc3 => ?_)
  · rw [if_pos hc3] at h
    refine mj_ldc (pc := 18) (v := -1000000001) d_Md_about_18 k_Md_66 ?_
    obtain e_1 := inj1 h
    subst e_1
    exact mj_iret (pc := 20) d_Md_about_20 rfl
  · rw [if_neg hc3] at h
    refine mj_iload_n (pc := 8) (i := 2) d_Md_about_8 rfl rfl ?_
    refine mj_iconst (pc := 9) (v := 0) d_Md_about_9 (by decide) ?_
    refine mj_bipush (pc := 10) (v := 6) d_Md_about_10 (by decide) ?_
    obtain ⟨v4, hb5, h⟩ := bd1_some h
    refine mj_callS (pc := 12) (vs := [.int x2, .int 0, .int 6]) (st := []) d_Md_about_12 bB_Md_about_Md_isIn lk_Md_53 st_Md_isIn rfl (Nat.le_of_ble_eq_true rfl) (Nat.le_of_ble_eq_true rfl) (r_Md_isIn hb5) ?_
    show mj_R M_Md_about 15 [some (.ref 88), some (.int x1), some (.int x2)] [.int v4] (SH, jn C C0) (some (.int v)) (SH, jn C C0)
    refine mj_if_ne (y := 0) (pc := 15) (tgt := 21) d_Md_about_15 (by decide) mj_hs (fun hc6 => ?_) (fun hc6 => ?_)
    · rw [if_neg hc6] at h
      refine mj_iload_n (pc := 21) (i := 2) d_Md_about_21 rfl rfl ?_
      by_cases hc7 : x2 = 3
      · rw [if_pos hc7] at h
        refine mj_tsEq (pc := 22) (tgt := 52) 3 d_Md_about_22 hc7 (by decide) (by decide) (by rfl) (by decide) ?_
        refine mj_aload_n (pc := 52) (i := 0) d_Md_about_52 rfl rfl (by decide) ?_
        refine mj_iload_n (pc := 53) (i := 1) d_Md_about_53 rfl rfl ?_
        obtain ⟨v11, hb12, h⟩ := bd1_some h
        refine mj_callV (pc := 54) (b := 88) (vs := [.int x1]) (st := []) d_Md_about_54 bB_Md_about_Md_ruleMany lk_Md_129 iv_Md_ruleMany rc_88 rfl (Nat.le_of_ble_eq_true rfl) (Nat.le_of_ble_eq_true rfl) (r_Md_ruleMany hb12) ?_
        show mj_R M_Md_about 57 [some (.ref 88), some (.int x1), some (.int x2)] [.int v11] (SH, jn C C0) (some (.int v)) (SH, jn C C0)
        obtain e_1 := inj1 h
        subst e_1
        exact mj_iret (pc := 57) d_Md_about_57 rfl
      · rw [if_neg hc7] at h
        by_cases hc8 : x2 = 4
        · rw [if_pos hc8] at h
          refine mj_tsEq (pc := 22) (tgt := 58) 4 d_Md_about_22 hc8 (by decide) (by decide) (by rfl) (by decide) ?_
          refine mj_aload_n (pc := 58) (i := 0) d_Md_about_58 rfl rfl (by decide) ?_
          refine mj_iload_n (pc := 59) (i := 1) d_Md_about_59 rfl rfl ?_
          obtain ⟨v13, hb14, h⟩ := bd1_some h
          refine mj_callV (pc := 60) (b := 88) (vs := [.int x1]) (st := []) d_Md_about_60 bB_Md_about_Md_owes lk_Md_220 iv_Md_owes rc_88 rfl (Nat.le_of_ble_eq_true rfl) (Nat.le_of_ble_eq_true rfl) (r_Md_owes hb14) ?_
          show mj_R M_Md_about 63 [some (.ref 88), some (.int x1), some (.int x2)] [.int v13] (SH, jn C C0) (some (.int v)) (SH, jn C C0)
          obtain e_1 := inj1 h
          subst e_1
          exact mj_iret (pc := 63) d_Md_about_63 rfl
        · rw [if_neg hc8] at h
          by_cases hc9 : x2 = 5
          · rw [if_pos hc9] at h
            refine mj_tsEq (pc := 22) (tgt := 64) 5 d_Md_about_22 hc9 (by decide) (by decide) (by rfl) (by decide) ?_
            refine mj_aload_n (pc := 64) (i := 0) d_Md_about_64 rfl rfl (by decide) ?_
            refine mj_iload_n (pc := 65) (i := 1) d_Md_about_65 rfl rfl ?_
            obtain ⟨v15, hb16, h⟩ := bd1_some h
            refine mj_callV (pc := 66) (b := 88) (vs := [.int x1]) (st := []) d_Md_about_66 bB_Md_about_Md_owed lk_Md_256 iv_Md_owed rc_88 rfl (Nat.le_of_ble_eq_true rfl) (Nat.le_of_ble_eq_true rfl) (r_Md_owed hb16) ?_
            show mj_R M_Md_about 69 [some (.ref 88), some (.int x1), some (.int x2)] [.int v15] (SH, jn C C0) (some (.int v)) (SH, jn C C0)
            obtain e_1 := inj1 h
            subst e_1
            exact mj_iret (pc := 69) d_Md_about_69 rfl
          · rw [if_neg hc9] at h
            by_cases hc10 : x2 = 6
            · rw [if_pos hc10] at h
              refine mj_tsEq (pc := 22) (tgt := 70) 6 d_Md_about_22 hc10 (by decide) (by decide) (by rfl) (by decide) ?_
              refine mj_aload_n (pc := 70) (i := 0) d_Md_about_70 rfl rfl (by decide) ?_
              refine mj_getR (pc := 71) d_Md_about_71 fl_Md_7 sh_88 rfl rfl (by decide) (by decide) (by decide) ?_
              refine mj_iconst (pc := 74) (v := 0) d_Md_about_74 (by decide) ?_
              refine mj_iconst (pc := 75) (v := 5) d_Md_about_75 (by decide) ?_
              refine mj_iload_n (pc := 76) (i := 1) d_Md_about_76 rfl rfl ?_
              refine mj_imul (pc := 77) d_Md_about_77 ?_
              refine mj_iadd (pc := 78) d_Md_about_78 ?_
              refine mj_iconst (pc := 79) (v := 3) d_Md_about_79 (by decide) ?_
              refine mj_iadd (pc := 80) d_Md_about_80 ?_
              obtain ⟨hg17, h⟩ := mj_gd h
              refine dj_iald (pc := 81) d_Md_about_81 sh_89 (by decide) hg17 (by decide) ?_
              obtain e_1 := inj1 h
              subst e_1
              exact mj_iret (pc := 82) d_Md_about_82 rfl
            · rw [if_neg hc10] at h
              refine mj_tableOut (pc := 22) (tgt := 83) d_Md_about_22 (by have q0 := i32_ne (n := 3) (by decide) hc7; have q1 := i32_ne (n := 4) (by decide) hc8; have q2 := i32_ne (n := 5) (by decide) hc9; have q3 := i32_ne (n := 6) (by decide) hc10; omega) (by decide) ?_
              refine mj_aload_n (pc := 83) (i := 0) d_Md_about_83 rfl rfl (by decide) ?_
              refine mj_getR (pc := 84) d_Md_about_84 fl_Md_7 sh_88 rfl rfl (by decide) (by decide) (by decide) ?_
              refine mj_iconst (pc := 87) (v := 0) d_Md_about_87 (by decide) ?_
              refine mj_iconst (pc := 88) (v := 5) d_Md_about_88 (by decide) ?_
              refine mj_iload_n (pc := 89) (i := 1) d_Md_about_89 rfl rfl ?_
              refine mj_imul (pc := 90) d_Md_about_90 ?_
              refine mj_iadd (pc := 91) d_Md_about_91 ?_
              refine mj_iload_n (pc := 92) (i := 2) d_Md_about_92 rfl rfl ?_
              refine mj_iadd (pc := 93) d_Md_about_93 ?_
              obtain ⟨hg18, h⟩ := mj_gd h
              refine dj_iald (pc := 94) d_Md_about_94 sh_89 (by decide) hg18 (by decide) ?_
              obtain e_1 := inj1 h
              subst e_1
              exact mj_iret (pc := 95) d_Md_about_95 rfl
    · rw [if_pos hc6] at h
      refine mj_ldc (pc := 18) (v := -1000000001) d_Md_about_18 k_Md_66 ?_
      obtain e_1 := inj1 h
      subst e_1
      exact mj_iret (pc := 20) d_Md_about_20 rfl
set_option maxRecDepth 20000 in
theorem r_Md_isOf {x1 : Int32} {x2 : Int32} {C C0 : St} {v : Int32} (h : f_Md_isOf x1 x2 C0 = some v) : mj_R M_Md_isOf 0 (mj_lv M_Md_isOf.2.2.1 [.ref 88, .int x1, .int x2]) [] (SH, jn C C0) (some (.int v)) (SH, jn C C0) := by
  show mj_R M_Md_isOf 0 [some (.ref 88), some (.int x1), some (.int x2)] [] _ _ _
  unfold f_Md_isOf at h
  refine mj_aload_n (pc := 0) (i := 0) d_Md_isOf_0 rfl rfl (by decide) ?_
  refine mj_iload_n (pc := 1) (i := 1) d_Md_isOf_1 rfl rfl ?_
  obtain ⟨v1, hb2, h⟩ := bd1_some h
  refine mj_callV (pc := 2) (b := 88) (vs := [.int x1]) (st := []) d_Md_isOf_2 bB_Md_isOf_Md_isAgent lk_Md_69 iv_Md_isAgent rc_88 rfl (Nat.le_of_ble_eq_true rfl) (Nat.le_of_ble_eq_true rfl) (r_Md_isAgent hb2) ?_
  show mj_R M_Md_isOf 5 [some (.ref 88), some (.int x1), some (.int x2)] [.int v1] (SH, jn C C0) (some (.int v)) (SH, jn C C0)
  refine mj_if_eq (y := 0) (pc := 5) (tgt := 17) d_Md_isOf_5 (by decide) mj_hs (fun hc3 => ?_) (fun hc3 => ?_)
  · rw [if_pos hc3] at h
    refine mj_ldc (pc := 17) (v := -1000000001) d_Md_isOf_17 k_Md_66 ?_
    obtain e_1 := inj1 h
    subst e_1
    exact mj_iret (pc := 19) d_Md_isOf_19 rfl
  · rw [if_neg hc3] at h
    refine mj_iload_n (pc := 8) (i := 2) d_Md_isOf_8 rfl rfl ?_
    refine mj_iconst (pc := 9) (v := 0) d_Md_isOf_9 (by decide) ?_
    refine mj_iconst (pc := 10) (v := 5) d_Md_isOf_10 (by decide) ?_
    obtain ⟨v4, hb5, h⟩ := bd1_some h
    refine mj_callS (pc := 11) (vs := [.int x2, .int 0, .int 5]) (st := []) d_Md_isOf_11 bB_Md_isOf_Md_isIn lk_Md_53 st_Md_isIn rfl (Nat.le_of_ble_eq_true rfl) (Nat.le_of_ble_eq_true rfl) (r_Md_isIn hb5) ?_
    show mj_R M_Md_isOf 14 [some (.ref 88), some (.int x1), some (.int x2)] [.int v4] (SH, jn C C0) (some (.int v)) (SH, jn C C0)
    refine mj_if_ne (y := 0) (pc := 14) (tgt := 20) d_Md_isOf_14 (by decide) mj_hs (fun hc6 => ?_) (fun hc6 => ?_)
    · rw [if_neg hc6] at h
      refine mj_aload_n (pc := 20) (i := 0) d_Md_isOf_20 rfl rfl (by decide) ?_
      refine mj_iload_n (pc := 21) (i := 1) d_Md_isOf_21 rfl rfl ?_
      refine mj_iload_n (pc := 22) (i := 2) d_Md_isOf_22 rfl rfl ?_
      obtain ⟨v7, hb8, h⟩ := bd1_some h
      refine mj_callV (pc := 23) (b := 88) (vs := [.int x1, .int x2]) (st := []) d_Md_isOf_23 bB_Md_isOf_Md_isKind lk_Md_140 iv_Md_isKind rc_88 rfl (Nat.le_of_ble_eq_true rfl) (Nat.le_of_ble_eq_true rfl) (r_Md_isKind hb8) ?_
      show mj_R M_Md_isOf 26 [some (.ref 88), some (.int x1), some (.int x2)] [.int v7] (SH, jn C C0) (some (.int v)) (SH, jn C C0)
      have k10 : mj_R M_Md_isOf 34 [none, none, none] [.int (if v7 = 0 then 0 else 1 : Int32)] (SH, jn C C0) (some (.int v)) (SH, jn C C0) := by
        obtain e_1 := inj1 h
        subst e_1
        exact mj_iret (pc := 34) d_Md_isOf_34 rfl
      refine mj_if_eq (y := 0) (pc := 26) (tgt := 33) d_Md_isOf_26 (by decide) mj_hs (fun hc9 => ?_) (fun hc9 => ?_)
      · refine mj_iconst (pc := 33) (v := 0) d_Md_isOf_33 (by decide) ?_
        try simp only [if_pos hc9] at k10
        exact mj_wk k10 trivial
      · refine mj_iconst (pc := 29) (v := 1) d_Md_isOf_29 (by decide) ?_
        refine mj_goto (pc := 30) (tgt := 34) d_Md_isOf_30 (by decide) ?_
        try simp only [if_neg hc9] at k10
        exact mj_wk k10 trivial
    · rw [if_pos hc6] at h
      refine mj_ldc (pc := 17) (v := -1000000001) d_Md_isOf_17 k_Md_66 ?_
      obtain e_1 := inj1 h
      subst e_1
      exact mj_iret (pc := 19) d_Md_isOf_19 rfl
set_option maxRecDepth 20000 in
theorem r_Md_has {x1 : Int32} {x2 : Int32} {x3 : Int32} {C C0 : St} {v : Int32} (h : f_Md_has x1 x2 x3 C0 = some v) : mj_R M_Md_has 0 (mj_lv M_Md_has.2.2.1 [.ref 88, .int x1, .int x2, .int x3]) [] (SH, jn C C0) (some (.int v)) (SH, jn C C0) := by
  show mj_R M_Md_has 0 [some (.ref 88), some (.int x1), some (.int x2), some (.int x3)] [] _ _ _
  unfold f_Md_has at h
  refine mj_aload_n (pc := 0) (i := 0) d_Md_has_0 rfl rfl (by decide) ?_
  refine mj_iload_n (pc := 1) (i := 1) d_Md_has_1 rfl rfl ?_
  obtain ⟨v1, hb2, h⟩ := bd1_some h
  refine mj_callV (pc := 2) (b := 88) (vs := [.int x1]) (st := []) d_Md_has_2 bB_Md_has_Md_isAgent lk_Md_69 iv_Md_isAgent rc_88 rfl (Nat.le_of_ble_eq_true rfl) (Nat.le_of_ble_eq_true rfl) (r_Md_isAgent hb2) ?_
  show mj_R M_Md_has 5 [some (.ref 88), some (.int x1), some (.int x2), some (.int x3)] [.int v1] (SH, jn C C0) (some (.int v)) (SH, jn C C0)
  refine mj_if_eq (y := 0) (pc := 5) (tgt := 25) d_Md_has_5 (by decide) mj_hs (fun hc3 => ?_) (fun hc3 => ?_)
  · rw [if_pos hc3] at h
    refine mj_ldc (pc := 25) (v := -1000000001) d_Md_has_25 k_Md_66 ?_
    obtain e_1 := inj1 h
    subst e_1
    exact mj_iret (pc := 27) d_Md_has_27 rfl
  · rw [if_neg hc3] at h
    refine mj_iload_n (pc := 8) (i := 2) d_Md_has_8 rfl rfl ?_
    obtain ⟨v4, hb5, h⟩ := bd1_some h
    refine mj_callS (pc := 9) (vs := [.int x2]) (st := []) d_Md_has_9 bB_Md_has_Md_isGood lk_Md_73 st_Md_isGood rfl (Nat.le_of_ble_eq_true rfl) (Nat.le_of_ble_eq_true rfl) (r_Md_isGood hb5) ?_
    show mj_R M_Md_has 12 [some (.ref 88), some (.int x1), some (.int x2), some (.int x3)] [.int v4] (SH, jn C C0) (some (.int v)) (SH, jn C C0)
    refine mj_if_eq (y := 0) (pc := 12) (tgt := 25) d_Md_has_12 (by decide) mj_hs (fun hc6 => ?_) (fun hc6 => ?_)
    · rw [if_pos hc6] at h
      refine mj_ldc (pc := 25) (v := -1000000001) d_Md_has_25 k_Md_66 ?_
      obtain e_1 := inj1 h
      subst e_1
      exact mj_iret (pc := 27) d_Md_has_27 rfl
    · rw [if_neg hc6] at h
      refine mj_iload_n (pc := 15) (i := 3) d_Md_has_15 rfl rfl ?_
      refine mj_iconst (pc := 16) (v := -1) d_Md_has_16 (by decide) ?_
      refine mj_bipush (pc := 17) (v := 9) d_Md_has_17 (by decide) ?_
      obtain ⟨v7, hb8, h⟩ := bd1_some h
      refine mj_callS (pc := 19) (vs := [.int x3, .int (-1), .int 9]) (st := []) d_Md_has_19 bB_Md_has_Md_isIn lk_Md_53 st_Md_isIn rfl (Nat.le_of_ble_eq_true rfl) (Nat.le_of_ble_eq_true rfl) (r_Md_isIn hb8) ?_
      show mj_R M_Md_has 22 [some (.ref 88), some (.int x1), some (.int x2), some (.int x3)] [.int v7] (SH, jn C C0) (some (.int v)) (SH, jn C C0)
      refine mj_if_ne (y := 0) (pc := 22) (tgt := 28) d_Md_has_22 (by decide) mj_hs (fun hc9 => ?_) (fun hc9 => ?_)
      · rw [if_neg hc9] at h
        refine mj_iload_n (pc := 28) (i := 3) d_Md_has_28 rfl rfl ?_
        obtain ⟨w16, hb18, h⟩ := bd1_some h
        have k17 : mj_R M_Md_has 52 [none, none, none, none] [.int w16] (SH, jn C C0) (some (.int v)) (SH, jn C C0) := by
          obtain e_1 := inj1 h
          subst e_1
          exact mj_iret (pc := 52) d_Md_has_52 rfl
        have h := hb18
        refine mj_if_ge (y := 0) (pc := 29) (tgt := 41) d_Md_has_29 (by decide) mj_hs (fun hc10 => ?_) (fun hc10 => ?_)
        · rw [if_pos hc10] at h
          refine mj_aload_n (pc := 41) (i := 0) d_Md_has_41 rfl rfl (by decide) ?_
          refine mj_getR (pc := 42) d_Md_has_42 fl_Md_7 sh_88 rfl rfl (by decide) (by decide) (by decide) ?_
          refine mj_iload_n (pc := 45) (i := 1) d_Md_has_45 rfl rfl ?_
          refine mj_iload_n (pc := 46) (i := 2) d_Md_has_46 rfl rfl ?_
          refine mj_iload_n (pc := 47) (i := 3) d_Md_has_47 rfl rfl ?_
          obtain ⟨v11, hb12, h⟩ := bd1_some h
          refine mj_callS (pc := 48) (vs := [.int x1, .int x2, .int x3]) (st := [.ref 89]) d_Md_has_48 bB_Md_has_Md_ageAt lk_Md_57 st_Md_ageAt rfl (Nat.le_of_ble_eq_true rfl) (Nat.le_of_ble_eq_true rfl) (r_Md_ageAt hb12) ?_
          show mj_R M_Md_has 51 [some (.ref 88), some (.int x1), some (.int x2), some (.int x3)] [.int v11, .ref 89] (SH, jn C C0) (some (.int v)) (SH, jn C C0)
          obtain ⟨hg13, h⟩ := mj_gd h
          refine dj_iald (pc := 51) d_Md_has_51 sh_89 (by decide) hg13 (by decide) ?_
          obtain e_1 := inj1 h
          subst e_1
          exact mj_wk k17 trivial
        · rw [if_neg hc10] at h
          refine mj_aload_n (pc := 32) (i := 0) d_Md_has_32 rfl rfl (by decide) ?_
          refine mj_iload_n (pc := 33) (i := 1) d_Md_has_33 rfl rfl ?_
          refine mj_iload_n (pc := 34) (i := 2) d_Md_has_34 rfl rfl ?_
          obtain ⟨v14, hb15, h⟩ := bd1_some h
          refine mj_callV (pc := 35) (b := 88) (vs := [.int x1, .int x2]) (st := []) d_Md_has_35 bB_Md_has_Md_hasAll lk_Md_76 iv_Md_hasAll rc_88 rfl (Nat.le_of_ble_eq_true rfl) (Nat.le_of_ble_eq_true rfl) (r_Md_hasAll hb15) ?_
          show mj_R M_Md_has 38 [some (.ref 88), some (.int x1), some (.int x2), some (.int x3)] [.int v14] (SH, jn C C0) (some (.int v)) (SH, jn C C0)
          refine mj_goto (pc := 38) (tgt := 52) d_Md_has_38 (by decide) ?_
          obtain e_1 := inj1 h
          subst e_1
          exact mj_wk k17 trivial
      · rw [if_pos hc9] at h
        refine mj_ldc (pc := 25) (v := -1000000001) d_Md_has_25 k_Md_66 ?_
        obtain e_1 := inj1 h
        subst e_1
        exact mj_iret (pc := 27) d_Md_has_27 rfl
set_option maxRecDepth 20000 in
theorem r_Md_told {x1 : Int32} {x2 : Int32} {x3 : Int32} {C C0 : St} {v : Int32} (h : f_Md_told x1 x2 x3 C0 = some v) : mj_R M_Md_told 0 (mj_lv M_Md_told.2.2.1 [.ref 88, .int x1, .int x2, .int x3]) [] (SH, jn C C0) (some (.int v)) (SH, jn C C0) := by
  show mj_R M_Md_told 0 [some (.ref 88), some (.int x1), some (.int x2), some (.int x3)] [] _ _ _
  unfold f_Md_told at h
  refine mj_aload_n (pc := 0) (i := 0) d_Md_told_0 rfl rfl (by decide) ?_
  refine mj_iload_n (pc := 1) (i := 1) d_Md_told_1 rfl rfl ?_
  obtain ⟨v1, hb2, h⟩ := bd1_some h
  refine mj_callV (pc := 2) (b := 88) (vs := [.int x1]) (st := []) d_Md_told_2 bB_Md_told_Md_isAgent lk_Md_69 iv_Md_isAgent rc_88 rfl (Nat.le_of_ble_eq_true rfl) (Nat.le_of_ble_eq_true rfl) (r_Md_isAgent hb2) ?_
  show mj_R M_Md_told 5 [some (.ref 88), some (.int x1), some (.int x2), some (.int x3)] [.int v1] (SH, jn C C0) (some (.int v)) (SH, jn C C0)
  refine mj_if_eq (y := 0) (pc := 5) (tgt := 33) d_Md_told_5 (by decide) mj_hs (fun hc3 => ?_) (fun hc3 => ?_)
  · rw [if_pos hc3] at h
    refine mj_ldc (pc := 33) (v := -1000000001) d_Md_told_33 k_Md_66 ?_
    obtain e_1 := inj1 h
    subst e_1
    exact mj_iret (pc := 35) d_Md_told_35 rfl
  · rw [if_neg hc3] at h
    refine mj_iload_n (pc := 8) (i := 2) d_Md_told_8 rfl rfl ?_
    refine mj_iconst (pc := 9) (v := 0) d_Md_told_9 (by decide) ?_
    refine mj_aload_n (pc := 10) (i := 0) d_Md_told_10 rfl rfl (by decide) ?_
    refine mj_iload_n (pc := 11) (i := 1) d_Md_told_11 rfl rfl ?_
    obtain ⟨v4, hb5, h⟩ := bd1_some h
    refine mj_callV (pc := 12) (b := 88) (vs := [.int x1]) (st := [.int 0, .int x2]) d_Md_told_12 bB_Md_told_Md_ruleMany lk_Md_129 iv_Md_ruleMany rc_88 rfl (Nat.le_of_ble_eq_true rfl) (Nat.le_of_ble_eq_true rfl) (r_Md_ruleMany hb5) ?_
    show mj_R M_Md_told 15 [some (.ref 88), some (.int x1), some (.int x2), some (.int x3)] [.int v4, .int 0, .int x2] (SH, jn C C0) (some (.int v)) (SH, jn C C0)
    refine mj_iconst (pc := 15) (v := 1) d_Md_told_15 (by decide) ?_
    refine mj_isub (pc := 16) d_Md_told_16 ?_
    obtain ⟨v6, hb7, h⟩ := bd1_some h
    refine mj_callS (pc := 17) (vs := [.int x2, .int 0, .int (v4 - 1)]) (st := []) d_Md_told_17 bB_Md_told_Md_isIn lk_Md_53 st_Md_isIn rfl (Nat.le_of_ble_eq_true rfl) (Nat.le_of_ble_eq_true rfl) (r_Md_isIn hb7) ?_
    show mj_R M_Md_told 20 [some (.ref 88), some (.int x1), some (.int x2), some (.int x3)] [.int v6] (SH, jn C C0) (some (.int v)) (SH, jn C C0)
    refine mj_if_eq (y := 0) (pc := 20) (tgt := 33) d_Md_told_20 (by decide) mj_hs (fun hc8 => ?_) (fun hc8 => ?_)
    · rw [if_pos hc8] at h
      refine mj_ldc (pc := 33) (v := -1000000001) d_Md_told_33 k_Md_66 ?_
      obtain e_1 := inj1 h
      subst e_1
      exact mj_iret (pc := 35) d_Md_told_35 rfl
    · rw [if_neg hc8] at h
      refine mj_iload_n (pc := 23) (i := 3) d_Md_told_23 rfl rfl ?_
      refine mj_iconst (pc := 24) (v := 0) d_Md_told_24 (by decide) ?_
      refine mj_bipush (pc := 25) (v := 8) d_Md_told_25 (by decide) ?_
      obtain ⟨v9, hb10, h⟩ := bd1_some h
      refine mj_callS (pc := 27) (vs := [.int x3, .int 0, .int 8]) (st := []) d_Md_told_27 bB_Md_told_Md_isIn lk_Md_53 st_Md_isIn rfl (Nat.le_of_ble_eq_true rfl) (Nat.le_of_ble_eq_true rfl) (r_Md_isIn hb10) ?_
      show mj_R M_Md_told 30 [some (.ref 88), some (.int x1), some (.int x2), some (.int x3)] [.int v9] (SH, jn C C0) (some (.int v)) (SH, jn C C0)
      refine mj_if_ne (y := 0) (pc := 30) (tgt := 36) d_Md_told_30 (by decide) mj_hs (fun hc11 => ?_) (fun hc11 => ?_)
      · rw [if_neg hc11] at h
        refine mj_aload_n (pc := 36) (i := 0) d_Md_told_36 rfl rfl (by decide) ?_
        refine mj_iload_n (pc := 37) (i := 1) d_Md_told_37 rfl rfl ?_
        refine mj_iload_n (pc := 38) (i := 2) d_Md_told_38 rfl rfl ?_
        refine mj_iload_n (pc := 39) (i := 3) d_Md_told_39 rfl rfl ?_
        obtain ⟨v12, hb13, h⟩ := bd1_some h
        refine mj_callV (pc := 40) (b := 88) (vs := [.int x1, .int x2, .int x3]) (st := []) d_Md_told_40 bB_Md_told_Md_ruleIs lk_Md_144 iv_Md_ruleIs rc_88 rfl (Nat.le_of_ble_eq_true rfl) (Nat.le_of_ble_eq_true rfl) (r_Md_ruleIs hb13) ?_
        show mj_R M_Md_told 43 [some (.ref 88), some (.int x1), some (.int x2), some (.int x3)] [.int v12] (SH, jn C C0) (some (.int v)) (SH, jn C C0)
        obtain e_1 := inj1 h
        subst e_1
        exact mj_iret (pc := 43) d_Md_told_43 rfl
      · rw [if_pos hc11] at h
        refine mj_ldc (pc := 33) (v := -1000000001) d_Md_told_33 k_Md_66 ?_
        obtain e_1 := inj1 h
        subst e_1
        exact mj_iret (pc := 35) d_Md_told_35 rfl
set_option maxRecDepth 20000 in
theorem l_Md_goods_38 {r : Option Value} {X y : St} : ∀ (n : Nat) (y1 : Int32) (y3 : Int32) (y4 : Int32) (C : St) (o3_ : Int32), L_Md_goods_38 n y1 y3 y4 C = some o3_ → mj_R M_Md_goods 67 [none, none, none, some (.int o3_), none] [] (SH, jn X C) r (SH, y) → mj_R M_Md_goods 38 [some (.ref 88), some (.int y1), none, some (.int y3), some (.int y4)] [] (SH, jn X C) r (SH, y) := by
  intro n
  induction n with
  | zero => intro y1 y3 y4 C o3_ h; cases h
  | succ n ih =>
    intro y1 y3 y4 C o3_ h hX
    unfold L_Md_goods_38 at h
    refine mj_iload (pc := 38) (i := 4) d_Md_goods_38 rfl ?_
    refine mj_aload_n (pc := 40) (i := 0) d_Md_goods_40 rfl rfl (by decide) ?_
    refine mj_getR (pc := 41) d_Md_goods_41 fl_Md_7 sh_88 rfl rfl (by decide) (by decide) (by decide) ?_
    refine mj_sipush (pc := 44) (v := 2163) d_Md_goods_44 (by decide) ?_
    refine dj_iald (pc := 47) d_Md_goods_47 sh_89 (by decide) (by decide) (by decide) ?_
    show mj_R M_Md_goods 48 [some (.ref 88), some (.int y1), none, some (.int y3), some (.int y4)] [.int (C 89 2163), .int y4] (SH, jn X C) r (SH, y)
    refine mj_icmp_ge (pc := 48) (tgt := 67) d_Md_goods_48 (by decide) mj_hs (fun hc9 => ?_) (fun hc9 => ?_)
    · rw [if_pos hc9] at h
      obtain e_1 := inj1 h
      subst e_1
      exact mj_wk hX (And.intro rfl trivial)
    · rw [if_neg hc9] at h
      refine mj_iload_n (pc := 51) (i := 3) d_Md_goods_51 rfl rfl ?_
      refine mj_aload_n (pc := 52) (i := 0) d_Md_goods_52 rfl rfl (by decide) ?_
      refine mj_iload (pc := 53) (i := 4) d_Md_goods_53 rfl ?_
      refine mj_iload_n (pc := 55) (i := 1) d_Md_goods_55 rfl rfl ?_
      obtain ⟨v10, hb11, h⟩ := bd1_some h
      refine mj_callV (pc := 56) (b := 88) (vs := [.int y4, .int y1]) (st := [.int y3]) d_Md_goods_56 bB_Md_goods_Md_hasAll lk_Md_76 iv_Md_hasAll rc_88 rfl (Nat.le_of_ble_eq_true rfl) (Nat.le_of_ble_eq_true rfl) (r_Md_hasAll hb11) ?_
      show mj_R M_Md_goods 59 [some (.ref 88), some (.int y1), none, some (.int y3), some (.int y4)] [.int v10, .int y3] (SH, jn X C) r (SH, y)
      refine mj_iadd (pc := 59) d_Md_goods_59 ?_
      refine mj_istore_n (pc := 60) (i := 3) d_Md_goods_60 rfl rfl (by decide) ?_
      refine mj_iinc (pc := 61) (i := 4) (v := y4 + 1) d_Md_goods_61 rfl (by rfl) rfl (by decide) ?_
      refine mj_goto (pc := 64) (tgt := 38) d_Md_goods_64 (by decide) ?_
      exact mj_weak [some (.ref 88), some (.int y1), none, some (.int (y3 + v10)), some (.int (y4 + 1))] (And.intro rfl (And.intro rfl (And.intro rfl (And.intro rfl trivial)))) (ih _ _ _ _ _ h hX)
set_option maxRecDepth 20000 in
theorem r_Md_goods {x1 : Int32} {x2 : Int32} {C C0 : St} {v : Int32} (h : f_Md_goods x1 x2 C0 = some v) : mj_R M_Md_goods 0 (mj_lv M_Md_goods.2.2.1 [.ref 88, .int x1, .int x2]) [] (SH, jn C C0) (some (.int v)) (SH, jn C C0) := by
  show mj_R M_Md_goods 0 [some (.ref 88), some (.int x1), some (.int x2), none, none] [] _ _ _
  unfold f_Md_goods at h
  refine mj_iload_n (pc := 0) (i := 1) d_Md_goods_0 rfl rfl ?_
  obtain ⟨v1, hb2, h⟩ := bd1_some h
  refine mj_callS (pc := 1) (vs := [.int x1]) (st := []) d_Md_goods_1 bB_Md_goods_Md_isGood lk_Md_73 st_Md_isGood rfl (Nat.le_of_ble_eq_true rfl) (Nat.le_of_ble_eq_true rfl) (r_Md_isGood hb2) ?_
  show mj_R M_Md_goods 4 [some (.ref 88), some (.int x1), some (.int x2), none, none] [.int v1] (SH, jn C C0) (some (.int v)) (SH, jn C C0)
  refine mj_if_eq (y := 0) (pc := 4) (tgt := 17) d_Md_goods_4 (by decide) mj_hs (fun hc3 => ?_) (fun hc3 => ?_)
  · rw [if_pos hc3] at h
    refine mj_ldc (pc := 17) (v := -1000000001) d_Md_goods_17 k_Md_66 ?_
    obtain e_1 := inj1 h
    subst e_1
    exact mj_iret (pc := 19) d_Md_goods_19 rfl
  · rw [if_neg hc3] at h
    refine mj_iload_n (pc := 7) (i := 2) d_Md_goods_7 rfl rfl ?_
    refine mj_iconst (pc := 8) (v := 0) d_Md_goods_8 (by decide) ?_
    refine mj_bipush (pc := 9) (v := 7) d_Md_goods_9 (by decide) ?_
    obtain ⟨v4, hb5, h⟩ := bd1_some h
    refine mj_callS (pc := 11) (vs := [.int x2, .int 0, .int 7]) (st := []) d_Md_goods_11 bB_Md_goods_Md_isIn lk_Md_53 st_Md_isIn rfl (Nat.le_of_ble_eq_true rfl) (Nat.le_of_ble_eq_true rfl) (r_Md_isIn hb5) ?_
    show mj_R M_Md_goods 14 [some (.ref 88), some (.int x1), some (.int x2), none, none] [.int v4] (SH, jn C C0) (some (.int v)) (SH, jn C C0)
    refine mj_if_ne (y := 0) (pc := 14) (tgt := 20) d_Md_goods_14 (by decide) mj_hs (fun hc6 => ?_) (fun hc6 => ?_)
    · rw [if_neg hc6] at h
      refine mj_iload_n (pc := 20) (i := 2) d_Md_goods_20 rfl rfl ?_
      refine mj_bipush (pc := 21) (v := 7) d_Md_goods_21 (by decide) ?_
      refine mj_icmp_ge (pc := 23) (tgt := 33) d_Md_goods_23 (by decide) mj_hs (fun hc7 => ?_) (fun hc7 => ?_)
      · rw [if_pos hc7] at h
        refine mj_iconst (pc := 33) (v := 0) d_Md_goods_33 (by decide) ?_
        refine mj_istore_n (pc := 34) (i := 3) d_Md_goods_34 rfl rfl (by decide) ?_
        refine mj_iconst (pc := 35) (v := 0) d_Md_goods_35 (by decide) ?_
        refine mj_istore (pc := 36) (i := 4) d_Md_goods_36 rfl (by decide) ?_
        obtain ⟨o12, hl13, h⟩ := bd1_some h
        refine mj_weak [some (.ref 88), some (.int x1), none, some (.int 0), some (.int 0)] (And.intro rfl (And.intro rfl (And.intro rfl (And.intro rfl trivial)))) (l_Md_goods_38 3000 _ _ _ _ _ hl13 ?_)
        refine mj_iload_n (pc := 67) (i := 3) d_Md_goods_67 rfl rfl ?_
        obtain e_1 := inj1 h
        subst e_1
        exact mj_iret (pc := 68) d_Md_goods_68 rfl
      · rw [if_neg hc7] at h
        refine mj_aload_n (pc := 26) (i := 0) d_Md_goods_26 rfl rfl (by decide) ?_
        refine mj_iload_n (pc := 27) (i := 1) d_Md_goods_27 rfl rfl ?_
        refine mj_iload_n (pc := 28) (i := 2) d_Md_goods_28 rfl rfl ?_
        obtain ⟨v16, hb17, h⟩ := bd1_some h
        refine mj_callV (pc := 29) (b := 88) (vs := [.int x1, .int x2]) (st := []) d_Md_goods_29 bB_Md_goods_Md_goodIs lk_Md_153 iv_Md_goodIs rc_88 rfl (Nat.le_of_ble_eq_true rfl) (Nat.le_of_ble_eq_true rfl) (r_Md_goodIs hb17) ?_
        show mj_R M_Md_goods 32 [some (.ref 88), some (.int x1), some (.int x2), none, none] [.int v16] (SH, jn C C0) (some (.int v)) (SH, jn C C0)
        obtain e_1 := inj1 h
        subst e_1
        exact mj_iret (pc := 32) d_Md_goods_32 rfl
    · rw [if_pos hc6] at h
      refine mj_ldc (pc := 17) (v := -1000000001) d_Md_goods_17 k_Md_66 ?_
      obtain e_1 := inj1 h
      subst e_1
      exact mj_iret (pc := 19) d_Md_goods_19 rfl
set_option maxRecDepth 20000 in
theorem l_Md_paid_62 {r : Option Value} {X y : St} : ∀ (n : Nat) (y4 : Int32) (y5 : Int32) (y6 : Int32) (C : St) (o5_ : Int32), L_Md_paid_62 n y4 y5 y6 C = some o5_ → mj_R M_Md_paid 89 [none, none, none, none, none, some (.int o5_), none] [] (SH, jn X C) r (SH, y) → mj_R M_Md_paid 62 [some (.ref 88), none, none, none, some (.int y4), some (.int y5), some (.int y6)] [] (SH, jn X C) r (SH, y) := by
  intro n
  induction n with
  | zero => intro y4 y5 y6 C o5_ h; cases h
  | succ n ih =>
    intro y4 y5 y6 C o5_ h hX
    unfold L_Md_paid_62 at h
    refine mj_iload (pc := 62) (i := 6) d_Md_paid_62 rfl ?_
    refine mj_iconst (pc := 64) (v := 5) d_Md_paid_64 (by decide) ?_
    refine mj_icmp_ge (pc := 65) (tgt := 89) d_Md_paid_65 (by decide) mj_hs (fun hc11 => ?_) (fun hc11 => ?_)
    · rw [if_pos hc11] at h
      obtain e_1 := inj1 h
      subst e_1
      exact mj_wk hX (And.intro rfl trivial)
    · rw [if_neg hc11] at h
      refine mj_iload (pc := 68) (i := 5) d_Md_paid_68 rfl ?_
      refine mj_aload_n (pc := 70) (i := 0) d_Md_paid_70 rfl rfl (by decide) ?_
      refine mj_getR (pc := 71) d_Md_paid_71 fl_Md_7 sh_88 rfl rfl (by decide) (by decide) (by decide) ?_
      refine mj_iload (pc := 74) (i := 4) d_Md_paid_74 rfl ?_
      refine mj_iload (pc := 76) (i := 6) d_Md_paid_76 rfl ?_
      refine mj_iadd (pc := 78) d_Md_paid_78 ?_
      obtain ⟨hg12, h⟩ := mj_gd h
      refine dj_iald (pc := 79) d_Md_paid_79 sh_89 (by decide) hg12 (by decide) ?_
      refine mj_iadd (pc := 80) d_Md_paid_80 ?_
      refine mj_istore (pc := 81) (i := 5) d_Md_paid_81 rfl (by decide) ?_
      refine mj_iinc (pc := 83) (i := 6) (v := y6 + 1) d_Md_paid_83 rfl (by rfl) rfl (by decide) ?_
      refine mj_goto (pc := 86) (tgt := 62) d_Md_paid_86 (by decide) ?_
      exact mj_weak [some (.ref 88), none, none, none, some (.int y4), some (.int (y5 + (C 89 (y4 + y6).toNatClampNeg))), some (.int (y6 + 1))] (And.intro rfl (And.intro rfl (And.intro rfl (And.intro rfl trivial)))) (ih _ _ _ _ _ h hX)
set_option maxRecDepth 20000 in
theorem r_Md_paid {x1 : Int32} {x2 : Int32} {x3 : Int32} {C C0 : St} {v : Int32} (h : f_Md_paid x1 x2 x3 C0 = some v) : mj_R M_Md_paid 0 (mj_lv M_Md_paid.2.2.1 [.ref 88, .int x1, .int x2, .int x3]) [] (SH, jn C C0) (some (.int v)) (SH, jn C C0) := by
  show mj_R M_Md_paid 0 [some (.ref 88), some (.int x1), some (.int x2), some (.int x3), none, none, none] [] _ _ _
  unfold f_Md_paid at h
  refine mj_aload_n (pc := 0) (i := 0) d_Md_paid_0 rfl rfl (by decide) ?_
  refine mj_iload_n (pc := 1) (i := 1) d_Md_paid_1 rfl rfl ?_
  obtain ⟨v1, hb2, h⟩ := bd1_some h
  refine mj_callV (pc := 2) (b := 88) (vs := [.int x1]) (st := []) d_Md_paid_2 bB_Md_paid_Md_isAgent lk_Md_69 iv_Md_isAgent rc_88 rfl (Nat.le_of_ble_eq_true rfl) (Nat.le_of_ble_eq_true rfl) (r_Md_isAgent hb2) ?_
  show mj_R M_Md_paid 5 [some (.ref 88), some (.int x1), some (.int x2), some (.int x3), none, none, none] [.int v1] (SH, jn C C0) (some (.int v)) (SH, jn C C0)
  refine mj_if_eq (y := 0) (pc := 5) (tgt := 25) d_Md_paid_5 (by decide) mj_hs (fun hc3 => ?_) (fun hc3 => ?_)
  · rw [if_pos hc3] at h
    refine mj_ldc (pc := 25) (v := -1000000001) d_Md_paid_25 k_Md_66 ?_
    obtain e_1 := inj1 h
    subst e_1
    exact mj_iret (pc := 27) d_Md_paid_27 rfl
  · rw [if_neg hc3] at h
    refine mj_aload_n (pc := 8) (i := 0) d_Md_paid_8 rfl rfl (by decide) ?_
    refine mj_iload_n (pc := 9) (i := 2) d_Md_paid_9 rfl rfl ?_
    obtain ⟨v4, hb5, h⟩ := bd1_some h
    refine mj_callV (pc := 10) (b := 88) (vs := [.int x2]) (st := []) d_Md_paid_10 bB_Md_paid_Md_isAgent lk_Md_69 iv_Md_isAgent rc_88 rfl (Nat.le_of_ble_eq_true rfl) (Nat.le_of_ble_eq_true rfl) (r_Md_isAgent hb5) ?_
    show mj_R M_Md_paid 13 [some (.ref 88), some (.int x1), some (.int x2), some (.int x3), none, none, none] [.int v4] (SH, jn C C0) (some (.int v)) (SH, jn C C0)
    refine mj_if_eq (y := 0) (pc := 13) (tgt := 25) d_Md_paid_13 (by decide) mj_hs (fun hc6 => ?_) (fun hc6 => ?_)
    · rw [if_pos hc6] at h
      refine mj_ldc (pc := 25) (v := -1000000001) d_Md_paid_25 k_Md_66 ?_
      obtain e_1 := inj1 h
      subst e_1
      exact mj_iret (pc := 27) d_Md_paid_27 rfl
    · rw [if_neg hc6] at h
      refine mj_iload_n (pc := 16) (i := 3) d_Md_paid_16 rfl rfl ?_
      refine mj_iconst (pc := 17) (v := -1) d_Md_paid_17 (by decide) ?_
      refine mj_iconst (pc := 18) (v := 4) d_Md_paid_18 (by decide) ?_
      obtain ⟨v7, hb8, h⟩ := bd1_some h
      refine mj_callS (pc := 19) (vs := [.int x3, .int (-1), .int 4]) (st := []) d_Md_paid_19 bB_Md_paid_Md_isIn lk_Md_53 st_Md_isIn rfl (Nat.le_of_ble_eq_true rfl) (Nat.le_of_ble_eq_true rfl) (r_Md_isIn hb8) ?_
      show mj_R M_Md_paid 22 [some (.ref 88), some (.int x1), some (.int x2), some (.int x3), none, none, none] [.int v7] (SH, jn C C0) (some (.int v)) (SH, jn C C0)
      refine mj_if_ne (y := 0) (pc := 22) (tgt := 28) d_Md_paid_22 (by decide) mj_hs (fun hc9 => ?_) (fun hc9 => ?_)
      · rw [if_neg hc9] at h
        refine mj_sipush (pc := 28) (v := 1443) d_Md_paid_28 (by decide) ?_
        refine mj_iconst (pc := 31) (v := 5) d_Md_paid_31 (by decide) ?_
        refine mj_bipush (pc := 32) (v := 12) d_Md_paid_32 (by decide) ?_
        refine mj_iload_n (pc := 34) (i := 1) d_Md_paid_34 rfl rfl ?_
        refine mj_imul (pc := 35) d_Md_paid_35 ?_
        refine mj_iload_n (pc := 36) (i := 2) d_Md_paid_36 rfl rfl ?_
        refine mj_iadd (pc := 37) d_Md_paid_37 ?_
        refine mj_imul (pc := 38) d_Md_paid_38 ?_
        refine mj_iadd (pc := 39) d_Md_paid_39 ?_
        refine mj_istore (pc := 40) (i := 4) d_Md_paid_40 rfl (by decide) ?_
        refine mj_iload_n (pc := 42) (i := 3) d_Md_paid_42 rfl rfl ?_
        refine mj_if_lt (y := 0) (pc := 43) (tgt := 56) d_Md_paid_43 (by decide) mj_hs (fun hc10 => ?_) (fun hc10 => ?_)
        · rw [if_pos hc10] at h
          refine mj_iconst (pc := 56) (v := 0) d_Md_paid_56 (by decide) ?_
          refine mj_istore (pc := 57) (i := 5) d_Md_paid_57 rfl (by decide) ?_
          refine mj_iconst (pc := 59) (v := 0) d_Md_paid_59 (by decide) ?_
          refine mj_istore (pc := 60) (i := 6) d_Md_paid_60 rfl (by decide) ?_
          obtain ⟨o13, hl14, h⟩ := bd1_some h
          refine mj_weak [some (.ref 88), none, none, none, some (.int (1443 + (5 * ((12 * x1) + x2)))), some (.int 0), some (.int 0)] (And.intro rfl (And.intro rfl (And.intro rfl (And.intro rfl trivial)))) (l_Md_paid_62 3000 _ _ _ _ _ hl14 ?_)
          refine mj_iload (pc := 89) (i := 5) d_Md_paid_89 rfl ?_
          obtain e_1 := inj1 h
          subst e_1
          exact mj_iret (pc := 91) d_Md_paid_91 rfl
        · rw [if_neg hc10] at h
          refine mj_aload_n (pc := 46) (i := 0) d_Md_paid_46 rfl rfl (by decide) ?_
          refine mj_getR (pc := 47) d_Md_paid_47 fl_Md_7 sh_88 rfl rfl (by decide) (by decide) (by decide) ?_
          refine mj_iload (pc := 50) (i := 4) d_Md_paid_50 rfl ?_
          refine mj_iload_n (pc := 52) (i := 3) d_Md_paid_52 rfl rfl ?_
          refine mj_iadd (pc := 53) d_Md_paid_53 ?_
          obtain ⟨hg17, h⟩ := mj_gd h
          refine dj_iald (pc := 54) d_Md_paid_54 sh_89 (by decide) hg17 (by decide) ?_
          obtain e_1 := inj1 h
          subst e_1
          exact mj_iret (pc := 55) d_Md_paid_55 rfl
      · rw [if_pos hc9] at h
        refine mj_ldc (pc := 25) (v := -1000000001) d_Md_paid_25 k_Md_66 ?_
        obtain e_1 := inj1 h
        subst e_1
        exact mj_iret (pc := 27) d_Md_paid_27 rfl
set_option maxRecDepth 20000 in
theorem r_Md_loan {x1 : Int32} {x2 : Int32} {C C0 : St} {v : Int32} (h : f_Md_loan x1 x2 C0 = some v) : mj_R M_Md_loan 0 (mj_lv M_Md_loan.2.2.1 [.ref 88, .int x1, .int x2]) [] (SH, jn C C0) (some (.int v)) (SH, jn C C0) := by
  show mj_R M_Md_loan 0 [some (.ref 88), some (.int x1), some (.int x2)] [] _ _ _
  unfold f_Md_loan at h
  refine mj_iload_n (pc := 0) (i := 1) d_Md_loan_0 rfl rfl ?_
  refine mj_if_lt (y := 0) (pc := 1) (tgt := 13) d_Md_loan_1 (by decide) mj_hs (fun hc1 => ?_) (fun hc1 => ?_)
  · rw [if_pos hc1] at h
    refine mj_ldc (pc := 13) (v := -1000000001) d_Md_loan_13 k_Md_66 ?_
    obtain e_1 := inj1 h
    subst e_1
    exact mj_iret (pc := 15) d_Md_loan_15 rfl
  · rw [if_neg hc1] at h
    refine mj_iload_n (pc := 4) (i := 2) d_Md_loan_4 rfl rfl ?_
    refine mj_iconst (pc := 5) (v := 0) d_Md_loan_5 (by decide) ?_
    refine mj_iconst (pc := 6) (v := 3) d_Md_loan_6 (by decide) ?_
    obtain ⟨v2, hb3, h⟩ := bd1_some h
    refine mj_callS (pc := 7) (vs := [.int x2, .int 0, .int 3]) (st := []) d_Md_loan_7 bB_Md_loan_Md_isIn lk_Md_53 st_Md_isIn rfl (Nat.le_of_ble_eq_true rfl) (Nat.le_of_ble_eq_true rfl) (r_Md_isIn hb3) ?_
    show mj_R M_Md_loan 10 [some (.ref 88), some (.int x1), some (.int x2)] [.int v2] (SH, jn C C0) (some (.int v)) (SH, jn C C0)
    refine mj_if_ne (y := 0) (pc := 10) (tgt := 16) d_Md_loan_10 (by decide) mj_hs (fun hc4 => ?_) (fun hc4 => ?_)
    · rw [if_neg hc4] at h
      refine mj_iload_n (pc := 16) (i := 1) d_Md_loan_16 rfl rfl ?_
      refine mj_aload_n (pc := 17) (i := 0) d_Md_loan_17 rfl rfl (by decide) ?_
      refine mj_getR (pc := 18) d_Md_loan_18 fl_Md_7 sh_88 rfl rfl (by decide) (by decide) (by decide) ?_
      refine mj_sipush (pc := 21) (v := 2168) d_Md_loan_21 (by decide) ?_
      refine dj_iald (pc := 24) d_Md_loan_24 sh_89 (by decide) (by decide) (by decide) ?_
      show mj_R M_Md_loan 25 [some (.ref 88), some (.int x1), some (.int x2)] [.int (C0 89 2168), .int x1] (SH, jn C C0) (some (.int v)) (SH, jn C C0)
      obtain ⟨w8, hb10, h⟩ := bd1_some h
      have k9 : mj_R M_Md_loan 47 [none, none, none] [.int w8] (SH, jn C C0) (some (.int v)) (SH, jn C C0) := by
        obtain e_1 := inj1 h
        subst e_1
        exact mj_iret (pc := 47) d_Md_loan_47 rfl
      have h := hb10
      refine mj_icmp_ge (pc := 25) (tgt := 45) d_Md_loan_25 (by decide) mj_hs (fun hc6 => ?_) (fun hc6 => ?_)
      · rw [if_pos hc6] at h
        refine mj_ldc (pc := 45) (v := -1000000005) d_Md_loan_45 k_Md_68 ?_
        obtain e_1 := inj1 h
        subst e_1
        exact mj_wk k9 trivial
      · rw [if_neg hc6] at h
        refine mj_aload_n (pc := 28) (i := 0) d_Md_loan_28 rfl rfl (by decide) ?_
        refine mj_getR (pc := 29) d_Md_loan_29 fl_Md_7 sh_88 rfl rfl (by decide) (by decide) (by decide) ?_
        refine mj_sipush (pc := 32) (v := 1363) d_Md_loan_32 (by decide) ?_
        refine mj_iconst (pc := 35) (v := 4) d_Md_loan_35 (by decide) ?_
        refine mj_iload_n (pc := 36) (i := 1) d_Md_loan_36 rfl rfl ?_
        refine mj_imul (pc := 37) d_Md_loan_37 ?_
        refine mj_iadd (pc := 38) d_Md_loan_38 ?_
        refine mj_iload_n (pc := 39) (i := 2) d_Md_loan_39 rfl rfl ?_
        refine mj_iadd (pc := 40) d_Md_loan_40 ?_
        obtain ⟨hg7, h⟩ := mj_gd h
        refine dj_iald (pc := 41) d_Md_loan_41 sh_89 (by decide) hg7 (by decide) ?_
        refine mj_goto (pc := 42) (tgt := 47) d_Md_loan_42 (by decide) ?_
        obtain e_1 := inj1 h
        subst e_1
        exact mj_wk k9 trivial
    · rw [if_pos hc4] at h
      refine mj_ldc (pc := 13) (v := -1000000001) d_Md_loan_13 k_Md_66 ?_
      obtain e_1 := inj1 h
      subst e_1
      exact mj_iret (pc := 15) d_Md_loan_15 rfl
set_option maxRecDepth 20000 in
theorem l_Md_median_16 {r : Option Value} {X y : St} : ∀ (n : Nat) (y1 : Int32) (y2 : Int32) (y3 : Int32) (C : St) (o2_ : Int32), L_Md_median_16 n y1 y2 y3 C = some o2_ → mj_R M_Md_median 51 [some (.ref 88), some (.int y1), some (.int o2_), none, none, none, none] [] (SH, jn X C) r (SH, y) → mj_R M_Md_median 16 [some (.ref 88), some (.int y1), some (.int y2), some (.int y3), none, none, none] [] (SH, jn X C) r (SH, y) := by
  intro n
  induction n with
  | zero => intro y1 y2 y3 C o2_ h; cases h
  | succ n ih =>
    intro y1 y2 y3 C o2_ h hX
    unfold L_Md_median_16 at h
    refine mj_iload_n (pc := 16) (i := 3) d_Md_median_16 rfl rfl ?_
    refine mj_aload_n (pc := 17) (i := 0) d_Md_median_17 rfl rfl (by decide) ?_
    refine mj_getR (pc := 18) d_Md_median_18 fl_Md_7 sh_88 rfl rfl (by decide) (by decide) (by decide) ?_
    refine mj_sipush (pc := 21) (v := 2163) d_Md_median_21 (by decide) ?_
    refine dj_iald (pc := 24) d_Md_median_24 sh_89 (by decide) (by decide) (by decide) ?_
    show mj_R M_Md_median 25 [some (.ref 88), some (.int y1), some (.int y2), some (.int y3), none, none, none] [.int (C 89 2163), .int y3] (SH, jn X C) r (SH, y)
    refine mj_icmp_ge (pc := 25) (tgt := 51) d_Md_median_25 (by decide) mj_hs (fun hc5 => ?_) (fun hc5 => ?_)
    · rw [if_pos hc5] at h
      obtain e_1 := inj1 h
      subst e_1
      exact mj_wk hX (And.intro rfl (And.intro rfl (And.intro rfl trivial)))
    · rw [if_neg hc5] at h
      refine mj_iload_n (pc := 28) (i := 2) d_Md_median_28 rfl rfl ?_
      refine mj_aload_n (pc := 29) (i := 0) d_Md_median_29 rfl rfl (by decide) ?_
      refine mj_iload_n (pc := 30) (i := 3) d_Md_median_30 rfl rfl ?_
      refine mj_iload_n (pc := 31) (i := 1) d_Md_median_31 rfl rfl ?_
      obtain ⟨v6, hb7, h⟩ := bd1_some h
      refine mj_callV (pc := 32) (b := 88) (vs := [.int y3, .int y1]) (st := [.int y2]) d_Md_median_32 bB_Md_median_Md_isKind lk_Md_140 iv_Md_isKind rc_88 rfl (Nat.le_of_ble_eq_true rfl) (Nat.le_of_ble_eq_true rfl) (r_Md_isKind hb7) ?_
      show mj_R M_Md_median 35 [some (.ref 88), some (.int y1), some (.int y2), some (.int y3), none, none, none] [.int v6, .int y2] (SH, jn X C) r (SH, y)
      have k9 : mj_R M_Md_median 43 [some (.ref 88), some (.int y1), none, some (.int y3), none, none, none] [.int (if v6 = 0 then 0 else 1 : Int32), .int y2] (SH, jn X C) r (SH, y) := by
        refine mj_iadd (pc := 43) d_Md_median_43 ?_
        refine mj_istore_n (pc := 44) (i := 2) d_Md_median_44 rfl rfl (by decide) ?_
        refine mj_iinc (pc := 45) (i := 3) (v := y3 + 1) d_Md_median_45 rfl (by rfl) rfl (by decide) ?_
        refine mj_goto (pc := 48) (tgt := 16) d_Md_median_48 (by decide) ?_
        exact mj_weak [some (.ref 88), some (.int y1), some (.int (y2 + (if v6 = 0 then 0 else 1 : Int32))), some (.int (y3 + 1)), none, none, none] (And.intro rfl (And.intro rfl (And.intro rfl (And.intro rfl trivial)))) (ih _ _ _ _ _ h hX)
      refine mj_if_eq (y := 0) (pc := 35) (tgt := 42) d_Md_median_35 (by decide) mj_hs (fun hc8 => ?_) (fun hc8 => ?_)
      · refine mj_iconst (pc := 42) (v := 0) d_Md_median_42 (by decide) ?_
        try simp only [if_pos hc8] at k9
        exact mj_wk k9 (And.intro rfl (And.intro rfl (And.intro rfl trivial)))
      · refine mj_iconst (pc := 38) (v := 1) d_Md_median_38 (by decide) ?_
        refine mj_goto (pc := 39) (tgt := 43) d_Md_median_39 (by decide) ?_
        try simp only [if_neg hc8] at k9
        exact mj_wk k9 (And.intro rfl (And.intro rfl (And.intro rfl trivial)))
set_option maxRecDepth 20000 in
theorem l_Md_median_71 {r : Option Value} {X y : St} : ∀ (n : Nat) (y1 : Int32) (y2 : Int32) (y3 : Int32) (y4 : Int32) (y5 : Int32) (C : St) (o4_ : Int32), L_Md_median_71 n y1 y2 y3 y4 y5 C = some o4_ → mj_R M_Md_median 156 [some (.ref 88), some (.int y1), some (.int y2), some (.int y3), some (.int o4_), none, none] [] (SH, jn X C) r (SH, y) → mj_R M_Md_median 71 [some (.ref 88), some (.int y1), some (.int y2), some (.int y3), some (.int y4), some (.int y5), none] [] (SH, jn X C) r (SH, y) := by
  intro n
  induction n with
  | zero => intro y1 y2 y3 y4 y5 C o4_ h; cases h
  | succ n ih =>
    intro y1 y2 y3 y4 y5 C o4_ h hX
    unfold L_Md_median_71 at h
    refine mj_iload (pc := 71) (i := 5) d_Md_median_71 rfl ?_
    refine mj_aload_n (pc := 73) (i := 0) d_Md_median_73 rfl rfl (by decide) ?_
    refine mj_getR (pc := 74) d_Md_median_74 fl_Md_7 sh_88 rfl rfl (by decide) (by decide) (by decide) ?_
    refine mj_sipush (pc := 77) (v := 2163) d_Md_median_77 (by decide) ?_
    refine dj_iald (pc := 80) d_Md_median_80 sh_89 (by decide) (by decide) (by decide) ?_
    show mj_R M_Md_median 81 [some (.ref 88), some (.int y1), some (.int y2), some (.int y3), some (.int y4), some (.int y5), none] [.int (C 89 2163), .int y5] (SH, jn X C) r (SH, y)
    refine mj_icmp_ge (pc := 81) (tgt := 156) d_Md_median_81 (by decide) mj_hs (fun hc15 => ?_) (fun hc15 => ?_)
    · rw [if_pos hc15] at h
      obtain e_1 := inj1 h
      subst e_1
      exact mj_wk hX (And.intro rfl (And.intro rfl (And.intro rfl (And.intro rfl (And.intro rfl trivial)))))
    · rw [if_neg hc15] at h
      refine mj_aload_n (pc := 84) (i := 0) d_Md_median_84 rfl rfl (by decide) ?_
      refine mj_iload (pc := 85) (i := 5) d_Md_median_85 rfl ?_
      obtain ⟨v16, hb17, h⟩ := bd1_some h
      refine mj_callV (pc := 87) (b := 88) (vs := [.int y5]) (st := []) d_Md_median_87 bB_Md_median_Md_cash lk_Md_150 iv_Md_cash rc_88 rfl (Nat.le_of_ble_eq_true rfl) (Nat.le_of_ble_eq_true rfl) (r_Md_cash hb17) ?_
      show mj_R M_Md_median 90 [some (.ref 88), some (.int y1), some (.int y2), some (.int y3), some (.int y4), some (.int y5), none] [.int v16] (SH, jn X C) r (SH, y)
      refine mj_aload_n (pc := 90) (i := 0) d_Md_median_90 rfl rfl (by decide) ?_
      refine mj_iload_n (pc := 91) (i := 3) d_Md_median_91 rfl rfl ?_
      obtain ⟨v18, hb19, h⟩ := bd1_some h
      refine mj_callV (pc := 92) (b := 88) (vs := [.int y3]) (st := [.int v16]) d_Md_median_92 bB_Md_median_Md_cash lk_Md_150 iv_Md_cash rc_88 rfl (Nat.le_of_ble_eq_true rfl) (Nat.le_of_ble_eq_true rfl) (r_Md_cash hb19) ?_
      show mj_R M_Md_median 95 [some (.ref 88), some (.int y1), some (.int y2), some (.int y3), some (.int y4), some (.int y5), none] [.int v18, .int v16] (SH, jn X C) r (SH, y)
      obtain ⟨w27, hb29, h⟩ := bd1_some h
      have k28 : mj_R M_Md_median 123 [some (.ref 88), some (.int y1), some (.int y2), some (.int y3), some (.int y4), some (.int y5), none] [.int w27] (SH, jn X C) r (SH, y) := by
        refine mj_istore (pc := 123) (i := 6) d_Md_median_123 rfl (by decide) ?_
        refine mj_iload (pc := 125) (i := 4) d_Md_median_125 rfl ?_
        refine mj_aload_n (pc := 127) (i := 0) d_Md_median_127 rfl rfl (by decide) ?_
        refine mj_iload (pc := 128) (i := 5) d_Md_median_128 rfl ?_
        refine mj_iload_n (pc := 130) (i := 1) d_Md_median_130 rfl rfl ?_
        obtain ⟨v30, hb31, h⟩ := bd1_some h
        refine mj_callV (pc := 131) (b := 88) (vs := [.int y5, .int y1]) (st := [.int y4]) d_Md_median_131 bB_Md_median_Md_isKind lk_Md_140 iv_Md_isKind rc_88 rfl (Nat.le_of_ble_eq_true rfl) (Nat.le_of_ble_eq_true rfl) (r_Md_isKind hb31) ?_
        show mj_R M_Md_median 134 [some (.ref 88), some (.int y1), some (.int y2), some (.int y3), some (.int y4), some (.int y5), some (.int w27)] [.int v30, .int y4] (SH, jn X C) r (SH, y)
        have k34 : mj_R M_Md_median 147 [some (.ref 88), some (.int y1), some (.int y2), some (.int y3), none, some (.int y5), none] [.int (if v30 = 0 then 0 else (if w27 = 0 then 0 else 1 : Int32) : Int32), .int y4] (SH, jn X C) r (SH, y) := by
          refine mj_iadd (pc := 147) d_Md_median_147 ?_
          refine mj_istore (pc := 148) (i := 4) d_Md_median_148 rfl (by decide) ?_
          refine mj_iinc (pc := 150) (i := 5) (v := y5 + 1) d_Md_median_150 rfl (by rfl) rfl (by decide) ?_
          refine mj_goto (pc := 153) (tgt := 71) d_Md_median_153 (by decide) ?_
          exact mj_weak [some (.ref 88), some (.int y1), some (.int y2), some (.int y3), some (.int (y4 + (if v30 = 0 then 0 else (if w27 = 0 then 0 else 1 : Int32) : Int32))), some (.int (y5 + 1)), none] (And.intro rfl (And.intro rfl (And.intro rfl (And.intro rfl (And.intro rfl (And.intro rfl trivial)))))) (ih _ _ _ _ _ _ _ h hX)
        refine mj_if_eq (y := 0) (pc := 134) (tgt := 146) d_Md_median_134 (by decide) mj_hs (fun hc32 => ?_) (fun hc32 => ?_)
        · refine mj_iconst (pc := 146) (v := 0) d_Md_median_146 (by decide) ?_
          try simp only [if_pos hc32] at k34
          exact mj_wk k34 (And.intro rfl (And.intro rfl (And.intro rfl (And.intro rfl (And.intro rfl trivial)))))
        · refine mj_iload (pc := 137) (i := 6) d_Md_median_137 rfl ?_
          refine mj_if_eq (y := 0) (pc := 139) (tgt := 146) d_Md_median_139 (by decide) mj_hs (fun hc33 => ?_) (fun hc33 => ?_)
          · refine mj_iconst (pc := 146) (v := 0) d_Md_median_146 (by decide) ?_
            try simp only [if_neg hc32, if_pos hc33] at k34
            exact mj_wk k34 (And.intro rfl (And.intro rfl (And.intro rfl (And.intro rfl (And.intro rfl trivial)))))
          · refine mj_iconst (pc := 142) (v := 1) d_Md_median_142 (by decide) ?_
            refine mj_goto (pc := 143) (tgt := 147) d_Md_median_143 (by decide) ?_
            try simp only [if_neg hc32, if_neg hc33] at k34
            exact mj_wk k34 (And.intro rfl (And.intro rfl (And.intro rfl (And.intro rfl (And.intro rfl trivial)))))
      have h := hb29
      refine mj_icmp_lt (pc := 95) (tgt := 118) d_Md_median_95 (by decide) mj_hs (fun hc20 => ?_) (fun hc20 => ?_)
      · rw [if_pos hc20] at h
        refine mj_iconst (pc := 118) (v := 1) d_Md_median_118 (by decide) ?_
        refine mj_goto (pc := 119) (tgt := 123) d_Md_median_119 (by decide) ?_
        obtain e_1 := inj1 h
        subst e_1
        exact mj_wk k28 (And.intro rfl (And.intro rfl (And.intro rfl (And.intro rfl (And.intro rfl (And.intro rfl trivial))))))
      · rw [if_neg hc20] at h
        refine mj_aload_n (pc := 98) (i := 0) d_Md_median_98 rfl rfl (by decide) ?_
        refine mj_iload (pc := 99) (i := 5) d_Md_median_99 rfl ?_
        obtain ⟨v21, hb22, h⟩ := bd1_some h
        refine mj_callV (pc := 101) (b := 88) (vs := [.int y5]) (st := []) d_Md_median_101 bB_Md_median_Md_cash lk_Md_150 iv_Md_cash rc_88 rfl (Nat.le_of_ble_eq_true rfl) (Nat.le_of_ble_eq_true rfl) (r_Md_cash hb22) ?_
        show mj_R M_Md_median 104 [some (.ref 88), some (.int y1), some (.int y2), some (.int y3), some (.int y4), some (.int y5), none] [.int v21] (SH, jn X C) r (SH, y)
        refine mj_aload_n (pc := 104) (i := 0) d_Md_median_104 rfl rfl (by decide) ?_
        refine mj_iload_n (pc := 105) (i := 3) d_Md_median_105 rfl rfl ?_
        obtain ⟨v23, hb24, h⟩ := bd1_some h
        refine mj_callV (pc := 106) (b := 88) (vs := [.int y3]) (st := [.int v21]) d_Md_median_106 bB_Md_median_Md_cash lk_Md_150 iv_Md_cash rc_88 rfl (Nat.le_of_ble_eq_true rfl) (Nat.le_of_ble_eq_true rfl) (r_Md_cash hb24) ?_
        show mj_R M_Md_median 109 [some (.ref 88), some (.int y1), some (.int y2), some (.int y3), some (.int y4), some (.int y5), none] [.int v23, .int v21] (SH, jn X C) r (SH, y)
        refine mj_icmp_ne (pc := 109) (tgt := 122) d_Md_median_109 (by decide) mj_hs (fun hc25 => ?_) (fun hc25 => ?_)
        · rw [if_neg hc25] at h
          refine mj_iconst (pc := 122) (v := 0) d_Md_median_122 (by decide) ?_
          obtain e_1 := inj1 h
          subst e_1
          exact mj_wk k28 (And.intro rfl (And.intro rfl (And.intro rfl (And.intro rfl (And.intro rfl (And.intro rfl trivial))))))
        · rw [if_pos hc25] at h
          refine mj_iload (pc := 112) (i := 5) d_Md_median_112 rfl ?_
          refine mj_iload_n (pc := 114) (i := 3) d_Md_median_114 rfl rfl ?_
          refine mj_icmp_ge (pc := 115) (tgt := 122) d_Md_median_115 (by decide) mj_hs (fun hc26 => ?_) (fun hc26 => ?_)
          · rw [if_pos hc26] at h
            refine mj_iconst (pc := 122) (v := 0) d_Md_median_122 (by decide) ?_
            obtain e_1 := inj1 h
            subst e_1
            exact mj_wk k28 (And.intro rfl (And.intro rfl (And.intro rfl (And.intro rfl (And.intro rfl (And.intro rfl trivial))))))
          · rw [if_neg hc26] at h
            refine mj_iconst (pc := 118) (v := 1) d_Md_median_118 (by decide) ?_
            refine mj_goto (pc := 119) (tgt := 123) d_Md_median_119 (by decide) ?_
            obtain e_1 := inj1 h
            subst e_1
            exact mj_wk k28 (And.intro rfl (And.intro rfl (And.intro rfl (And.intro rfl (And.intro rfl (And.intro rfl trivial))))))
set_option maxRecDepth 20000 in
theorem l_Md_median_53 {r : Option Value} {X y : St} : ∀ (n : Nat) (y1 : Int32) (y2 : Int32) (y3 : Int32) (C : St) (o : (Int32) ⊕ (Unit)), L_Md_median_53 n y1 y2 y3 C = some o → (∀ a : Int32, o = .inl a → r = some (.int a) ∧ y = jn X C) → (∀ a : Unit, o = .inr a → mj_R M_Md_median 187 [none, none, none, none, none, none, none] [] (SH, jn X C) r (SH, y)) → mj_R M_Md_median 53 [some (.ref 88), some (.int y1), some (.int y2), some (.int y3), none, none, none] [] (SH, jn X C) r (SH, y) := by
  intro n
  induction n with
  | zero => intro y1 y2 y3 C o h; cases h
  | succ n ih =>
    intro y1 y2 y3 C o h hE hX
    unfold L_Md_median_53 at h
    refine mj_iload_n (pc := 53) (i := 3) d_Md_median_53 rfl rfl ?_
    refine mj_aload_n (pc := 54) (i := 0) d_Md_median_54 rfl rfl (by decide) ?_
    refine mj_getR (pc := 55) d_Md_median_55 fl_Md_7 sh_88 rfl rfl (by decide) (by decide) (by decide) ?_
    refine mj_sipush (pc := 58) (v := 2163) d_Md_median_58 (by decide) ?_
    refine dj_iald (pc := 61) d_Md_median_61 sh_89 (by decide) (by decide) (by decide) ?_
    show mj_R M_Md_median 62 [some (.ref 88), some (.int y1), some (.int y2), some (.int y3), none, none, none] [.int (C 89 2163), .int y3] (SH, jn X C) r (SH, y)
    refine mj_icmp_ge (pc := 62) (tgt := 187) d_Md_median_62 (by decide) mj_hs (fun hc13 => ?_) (fun hc13 => ?_)
    · rw [if_pos hc13] at h
      obtain e_1 := inj1 h
      subst e_1
      exact mj_wk (hX _ rfl) trivial
    · rw [if_neg hc13] at h
      refine mj_iconst (pc := 65) (v := 0) d_Md_median_65 (by decide) ?_
      refine mj_istore (pc := 66) (i := 4) d_Md_median_66 rfl (by decide) ?_
      refine mj_iconst (pc := 68) (v := 0) d_Md_median_68 (by decide) ?_
      refine mj_istore (pc := 69) (i := 5) d_Md_median_69 rfl (by decide) ?_
      obtain ⟨o35, hl36, h⟩ := bd1_some h
      refine mj_weak [some (.ref 88), some (.int y1), some (.int y2), some (.int y3), some (.int 0), some (.int 0), none] (And.intro rfl (And.intro rfl (And.intro rfl (And.intro rfl (And.intro rfl (And.intro rfl trivial)))))) (l_Md_median_71 3000 _ _ _ _ _ _ _ hl36 ?_)
      refine mj_aload_n (pc := 156) (i := 0) d_Md_median_156 rfl rfl (by decide) ?_
      refine mj_iload_n (pc := 157) (i := 3) d_Md_median_157 rfl rfl ?_
      refine mj_iload_n (pc := 158) (i := 1) d_Md_median_158 rfl rfl ?_
      obtain ⟨v37, hb38, h⟩ := bd1_some h
      refine mj_callV (pc := 159) (b := 88) (vs := [.int y3, .int y1]) (st := []) d_Md_median_159 bB_Md_median_Md_isKind lk_Md_140 iv_Md_isKind rc_88 rfl (Nat.le_of_ble_eq_true rfl) (Nat.le_of_ble_eq_true rfl) (r_Md_isKind hb38) ?_
      show mj_R M_Md_median 162 [some (.ref 88), some (.int y1), some (.int y2), some (.int y3), some (.int o35), none, none] [.int v37] (SH, jn X C) r (SH, y)
      refine mj_if_eq (y := 0) (pc := 162) (tgt := 181) d_Md_median_162 (by decide) mj_hs (fun hc39 => ?_) (fun hc39 => ?_)
      · rw [if_pos hc39] at h
        refine mj_iinc (pc := 181) (i := 3) (v := y3 + 1) d_Md_median_181 rfl (by rfl) rfl (by decide) ?_
        refine mj_goto (pc := 184) (tgt := 53) d_Md_median_184 (by decide) ?_
        exact mj_weak [some (.ref 88), some (.int y1), some (.int y2), some (.int (y3 + 1)), none, none, none] (And.intro rfl (And.intro rfl (And.intro rfl (And.intro rfl trivial)))) (ih _ _ _ _ _ h hE hX)
      · rw [if_neg hc39] at h
        refine mj_iload (pc := 165) (i := 4) d_Md_median_165 rfl ?_
        refine mj_iload_n (pc := 167) (i := 2) d_Md_median_167 rfl rfl ?_
        refine mj_iconst (pc := 168) (v := 1) d_Md_median_168 (by decide) ?_
        refine mj_isub (pc := 169) d_Md_median_169 ?_
        refine mj_iconst (pc := 170) (v := 2) d_Md_median_170 (by decide) ?_
        refine mj_idiv (pc := 171) d_Md_median_171 (by decide) ?_
        refine mj_icmp_ne (pc := 172) (tgt := 181) d_Md_median_172 (by decide) mj_hs (fun hc40 => ?_) (fun hc40 => ?_)
        · rw [if_neg hc40] at h
          refine mj_iinc (pc := 181) (i := 3) (v := y3 + 1) d_Md_median_181 rfl (by rfl) rfl (by decide) ?_
          refine mj_goto (pc := 184) (tgt := 53) d_Md_median_184 (by decide) ?_
          exact mj_weak [some (.ref 88), some (.int y1), some (.int y2), some (.int (y3 + 1)), none, none, none] (And.intro rfl (And.intro rfl (And.intro rfl (And.intro rfl trivial)))) (ih _ _ _ _ _ h hE hX)
        · rw [if_pos hc40] at h
          refine mj_aload_n (pc := 175) (i := 0) d_Md_median_175 rfl rfl (by decide) ?_
          refine mj_iload_n (pc := 176) (i := 3) d_Md_median_176 rfl rfl ?_
          obtain ⟨v41, hb42, h⟩ := bd1_some h
          refine mj_callV (pc := 177) (b := 88) (vs := [.int y3]) (st := []) d_Md_median_177 bB_Md_median_Md_cash lk_Md_150 iv_Md_cash rc_88 rfl (Nat.le_of_ble_eq_true rfl) (Nat.le_of_ble_eq_true rfl) (r_Md_cash hb42) ?_
          show mj_R M_Md_median 180 [some (.ref 88), some (.int y1), some (.int y2), some (.int y3), some (.int o35), none, none] [.int v41] (SH, jn X C) r (SH, y)
          obtain e_1 := inj1 h
          subst e_1
          obtain ⟨e1, e2⟩ := hE _ rfl
          subst e1
          subst e2
          exact mj_iret (pc := 180) d_Md_median_180 rfl
set_option maxRecDepth 20000 in
theorem r_Md_median {x1 : Int32} {C C0 : St} {v : Int32} (h : f_Md_median x1 C0 = some v) : mj_R M_Md_median 0 (mj_lv M_Md_median.2.2.1 [.ref 88, .int x1]) [] (SH, jn C C0) (some (.int v)) (SH, jn C C0) := by
  show mj_R M_Md_median 0 [some (.ref 88), some (.int x1), none, none, none, none, none] [] _ _ _
  unfold f_Md_median at h
  refine mj_iload_n (pc := 0) (i := 1) d_Md_median_0 rfl rfl ?_
  refine mj_iconst (pc := 1) (v := 0) d_Md_median_1 (by decide) ?_
  refine mj_iconst (pc := 2) (v := 5) d_Md_median_2 (by decide) ?_
  obtain ⟨v1, hb2, h⟩ := bd1_some h
  refine mj_callS (pc := 3) (vs := [.int x1, .int 0, .int 5]) (st := []) d_Md_median_3 bB_Md_median_Md_isIn lk_Md_53 st_Md_isIn rfl (Nat.le_of_ble_eq_true rfl) (Nat.le_of_ble_eq_true rfl) (r_Md_isIn hb2) ?_
  show mj_R M_Md_median 6 [some (.ref 88), some (.int x1), none, none, none, none, none] [.int v1] (SH, jn C C0) (some (.int v)) (SH, jn C C0)
  refine mj_if_ne (y := 0) (pc := 6) (tgt := 12) d_Md_median_6 (by decide) mj_hs (fun hc3 => ?_) (fun hc3 => ?_)
  · rw [if_neg hc3] at h
    refine mj_iconst (pc := 12) (v := 0) d_Md_median_12 (by decide) ?_
    refine mj_istore_n (pc := 13) (i := 2) d_Md_median_13 rfl rfl (by decide) ?_
    refine mj_iconst (pc := 14) (v := 0) d_Md_median_14 (by decide) ?_
    refine mj_istore_n (pc := 15) (i := 3) d_Md_median_15 rfl rfl (by decide) ?_
    obtain ⟨o10, hl11, h⟩ := bd1_some h
    refine mj_weak [some (.ref 88), some (.int x1), some (.int 0), some (.int 0), none, none, none] (And.intro rfl (And.intro rfl (And.intro rfl (And.intro rfl trivial)))) (l_Md_median_16 3000 _ _ _ _ _ hl11 ?_)
    refine mj_iconst (pc := 51) (v := 0) d_Md_median_51 (by decide) ?_
    refine mj_istore_n (pc := 52) (i := 3) d_Md_median_52 rfl rfl (by decide) ?_
    rcases bdS_some h with ⟨e46, hl45, h⟩ | ⟨_u, hl45, h⟩
    · refine mj_weak [some (.ref 88), some (.int x1), some (.int o10), some (.int 0), none, none, none] (And.intro rfl (And.intro rfl (And.intro rfl (And.intro rfl trivial)))) (l_Md_median_53 3000 _ _ _ _ _ hl45 (fun a e => ?_) (fun a e => nomatch e))
      cases e
      obtain e_1 := inj1 h
      subst e_1
      exact ⟨rfl, rfl⟩
    · refine mj_weak [some (.ref 88), some (.int x1), some (.int o10), some (.int 0), none, none, none] (And.intro rfl (And.intro rfl (And.intro rfl (And.intro rfl trivial)))) (l_Md_median_53 3000 _ _ _ _ _ hl45 (fun a e => nomatch e) (fun a e => ?_))
      cases e
      refine mj_ldc (pc := 187) (v := -1000000005) d_Md_median_187 k_Md_68 ?_
      obtain e_1 := inj1 h
      subst e_1
      exact mj_iret (pc := 189) d_Md_median_189 rfl
  · rw [if_pos hc3] at h
    refine mj_ldc (pc := 9) (v := -1000000001) d_Md_median_9 k_Md_66 ?_
    obtain e_1 := inj1 h
    subst e_1
    exact mj_iret (pc := 11) d_Md_median_11 rfl
