set_option maxRecDepth 20000 in
theorem l_Md_read_12 {r : Option Value} {X y : St} : ∀ (n : Nat) (y1 : Int32) (y2 : Int32) (C : St) (Q_ : St), L_Md_read_12 n y1 y2 C = some Q_ → mj_R M_Md_read 46 [some (.ref 88), some (.int y1), none] [] (SH, jn X Q_) r (SH, y) → mj_R M_Md_read 12 [some (.ref 88), some (.int y1), some (.int y2)] [] (SH, jn X C) r (SH, y) := by
  intro n
  induction n with
  | zero => intro y1 y2 C Q_ h; cases h
  | succ n ih =>
    intro y1 y2 C Q_ h hX
    unfold L_Md_read_12 at h
    refine mj_iload_n (pc := 12) (i := 2) d_Md_read_12 rfl rfl ?_
    refine mj_bipush (pc := 13) (v := 9) d_Md_read_13 (by decide) ?_
    refine mj_icmp_ge (pc := 15) (tgt := 46) d_Md_read_15 (by decide) mj_hs (fun hc1 => ?_) (fun hc1 => ?_)
    · rw [if_pos hc1] at h
      obtain e_1 := inj1 h
      subst e_1
      exact mj_wk hX (And.intro rfl (And.intro rfl trivial))
    · rw [if_neg hc1] at h
      refine mj_aload_n (pc := 18) (i := 0) d_Md_read_18 rfl rfl (by decide) ?_
      refine mj_getR (pc := 19) d_Md_read_19 fl_Md_41 sh_88 rfl rfl (by decide) (by decide) (by decide) ?_
      refine mj_iload_n (pc := 22) (i := 2) d_Md_read_22 rfl rfl ?_
      refine mj_iload_n (pc := 23) (i := 2) d_Md_read_23 rfl rfl ?_
      have k4 : mj_R M_Md_read 39 [some (.ref 88), some (.int y1), some (.int y2)] [.int (if y2 ≤ 0 then 0 else (if 8 ≤ y2 then 0 else (-1000000005) : Int32) : Int32), .int y2, .ref 99] (SH, jn X C) r (SH, y) := by
        obtain ⟨hg5, h⟩ := mj_gd h
        refine dj_iast (pc := 39) d_Md_read_39 sh_99 (by decide) hg5 (by decide) ?_
        refine mj_iinc (pc := 40) (i := 2) (v := y2 + 1) d_Md_read_40 rfl (by rfl) rfl (by decide) ?_
        refine mj_goto (pc := 43) (tgt := 12) d_Md_read_43 (by decide) ?_
        exact mj_weak [some (.ref 88), some (.int y1), some (.int (y2 + 1))] (And.intro rfl (And.intro rfl (And.intro rfl trivial))) (ih _ _ _ _ h hX)
      refine mj_if_le (y := 0) (pc := 24) (tgt := 38) d_Md_read_24 (by decide) mj_hs (fun hc2 => ?_) (fun hc2 => ?_)
      · refine mj_iconst (pc := 38) (v := 0) d_Md_read_38 (by decide) ?_
        try simp only [if_pos hc2] at k4
        exact mj_wk k4 (And.intro rfl (And.intro rfl (And.intro rfl trivial)))
      · refine mj_iload_n (pc := 27) (i := 2) d_Md_read_27 rfl rfl ?_
        refine mj_bipush (pc := 28) (v := 8) d_Md_read_28 (by decide) ?_
        refine mj_icmp_ge (pc := 30) (tgt := 38) d_Md_read_30 (by decide) mj_hs (fun hc3 => ?_) (fun hc3 => ?_)
        · refine mj_iconst (pc := 38) (v := 0) d_Md_read_38 (by decide) ?_
          try simp only [if_neg hc2, if_pos hc3] at k4
          exact mj_wk k4 (And.intro rfl (And.intro rfl (And.intro rfl trivial)))
        · refine mj_ldc (pc := 33) (v := -1000000005) d_Md_read_33 k_Md_68 ?_
          refine mj_goto (pc := 35) (tgt := 39) d_Md_read_35 (by decide) ?_
          try simp only [if_neg hc2, if_neg hc3] at k4
          exact mj_wk k4 (And.intro rfl (And.intro rfl (And.intro rfl trivial)))
set_option maxRecDepth 20000 in
theorem r_Md_read {x1 : Int32} {C C0 : St} {v : Int32} {C' : St} (h : f_Md_read x1 C0 = some (v, C')) : mj_R M_Md_read 0 (mj_lv M_Md_read.2.2.1 [.ref 88, .int x1]) [] (SH, jn C C0) (some (.int v)) (SH, jn C (C')) := by
  show mj_R M_Md_read 0 [some (.ref 88), some (.int x1), none] [] _ _ _
  unfold f_Md_read at h
  refine mj_aload_n (pc := 0) (i := 0) d_Md_read_0 rfl rfl (by decide) ?_
  refine mj_iconst (pc := 1) (v := -1) d_Md_read_1 (by decide) ?_
  refine dj_putI (pc := 2) d_Md_read_2 fl_Md_100 sh_88 rfl (fun _ _ _ h => by cases h; rfl) (by decide) (by decide) (by decide) ?_
  refine mj_aload_n (pc := 5) (i := 0) d_Md_read_5 rfl rfl (by decide) ?_
  refine mj_iconst (pc := 6) (v := 0) d_Md_read_6 (by decide) ?_
  refine dj_putI (pc := 7) d_Md_read_7 fl_Md_88 sh_88 rfl (fun _ _ _ h => by cases h; rfl) (by decide) (by decide) (by decide) ?_
  refine mj_iconst (pc := 10) (v := 0) d_Md_read_10 (by decide) ?_
  refine mj_istore_n (pc := 11) (i := 2) d_Md_read_11 rfl rfl (by decide) ?_
  obtain ⟨C6, hl7, h⟩ := bd1_some h
  refine mj_weak [some (.ref 88), some (.int x1), some (.int 0)] (And.intro rfl (And.intro rfl (And.intro rfl trivial))) (l_Md_read_12 3000 _ _ _ _ hl7 ?_)
  refine mj_aload_n (pc := 46) (i := 0) d_Md_read_46 rfl rfl (by decide) ?_
  refine mj_getR (pc := 47) d_Md_read_47 fl_Md_41 sh_88 rfl rfl (by decide) (by decide) (by decide) ?_
  refine mj_iconst (pc := 50) (v := 4) d_Md_read_50 (by decide) ?_
  refine mj_iconst (pc := 51) (v := 1) d_Md_read_51 (by decide) ?_
  refine dj_iast (pc := 52) d_Md_read_52 sh_99 (by decide) (by decide) (by decide) ?_
  show mj_R M_Md_read 53 [some (.ref 88), some (.int x1), none] [] (SH, jn C (mj_wr C6 99 4 1)) (some (.int v)) (SH, jn C (C'))
  refine mj_aload_n (pc := 53) (i := 0) d_Md_read_53 rfl rfl (by decide) ?_
  obtain ⟨C8, hb9, h⟩ := bd1_some h
  refine mj_callV (pc := 54) (b := 88) (vs := []) (st := []) d_Md_read_54 bB_Md_read_Md_next lk_Md_106 iv_Md_next rc_88 rfl (Nat.le_of_ble_eq_true rfl) (Nat.le_of_ble_eq_true rfl) (r_Md_next hb9) ?_
  show mj_R M_Md_read 57 [some (.ref 88), some (.int x1), none] [] (SH, jn C C8) (some (.int v)) (SH, jn C (C'))
  refine mj_aload_n (pc := 57) (i := 0) d_Md_read_57 rfl rfl (by decide) ?_
  refine mj_bipush (pc := 58) (v := 101) d_Md_read_58 (by decide) ?_
  refine mj_bipush (pc := 60) (v := 118) d_Md_read_60 (by decide) ?_
  refine mj_bipush (pc := 62) (v := 101) d_Md_read_62 (by decide) ?_
  refine mj_bipush (pc := 64) (v := 114) d_Md_read_64 (by decide) ?_
  refine mj_bipush (pc := 66) (v := 121) d_Md_read_66 (by decide) ?_
  obtain ⟨v10, hb11, h⟩ := bd1_some h
  refine mj_callV (pc := 68) (b := 88) (vs := [.int 101, .int 118, .int 101, .int 114, .int 121]) (st := []) d_Md_read_68 bB_Md_read_Md_reads lk_Md_109 iv_Md_reads rc_88 rfl (Nat.le_of_ble_eq_true rfl) (Nat.le_of_ble_eq_true rfl) (r_Md_reads hb11) ?_
  show mj_R M_Md_read 71 [some (.ref 88), some (.int x1), none] [.int v10] (SH, jn C C8) (some (.int v)) (SH, jn C (C'))
  obtain ⟨C18, hb20, h⟩ := bd1_some h
  have k19 : mj_R M_Md_read 91 [some (.ref 88), some (.int x1), none] [] (SH, jn C C18) (some (.int v)) (SH, jn C (C')) := by
    refine mj_aload_n (pc := 91) (i := 0) d_Md_read_91 rfl rfl (by decide) ?_
    refine dj_getI (pc := 92) d_Md_read_92 fl_Md_100 sh_88 rfl (by decide) (by decide) (by decide) ?_
    obtain ⟨C29, hb31, h⟩ := bd1_some h
    have k30 : mj_R M_Md_read 120 [some (.ref 88), some (.int x1), none] [] (SH, jn C C29) (some (.int v)) (SH, jn C (C')) := by
      refine mj_aload_n (pc := 120) (i := 0) d_Md_read_120 rfl rfl (by decide) ?_
      refine dj_getI (pc := 121) d_Md_read_121 fl_Md_100 sh_88 rfl (by decide) (by decide) (by decide) ?_
      obtain ⟨C35, hb37, h⟩ := bd1_some h
      have k36 : mj_R M_Md_read 132 [some (.ref 88), none, none] [] (SH, jn C C35) (some (.int v)) (SH, jn C (C')) := by
        refine mj_aload_n (pc := 132) (i := 0) d_Md_read_132 rfl rfl (by decide) ?_
        refine dj_getI (pc := 133) d_Md_read_133 fl_Md_100 sh_88 rfl (by decide) (by decide) (by decide) ?_
        obtain ⟨C42, hb44, h⟩ := bd1_some h
        have k43 : mj_R M_Md_read 154 [some (.ref 88), none, none] [] (SH, jn C C42) (some (.int v)) (SH, jn C (C')) := by
          refine mj_aload_n (pc := 154) (i := 0) d_Md_read_154 rfl rfl (by decide) ?_
          refine dj_getI (pc := 155) d_Md_read_155 fl_Md_100 sh_88 rfl (by decide) (by decide) (by decide) ?_
          obtain ⟨e_1, e_2⟩ := inj2 h
          subst e_1
          subst e_2
          exact mj_iret (pc := 158) d_Md_read_158 rfl
        have h := hb44
        refine mj_if_ge (y := 0) (pc := 136) (tgt := 154) d_Md_read_136 (by decide) mj_hs (fun hc38 => ?_) (fun hc38 => ?_)
        · rw [if_pos hc38] at h
          obtain e_1 := inj1 h
          subst e_1
          exact mj_wk k43 (And.intro rfl trivial)
        · rw [if_neg hc38] at h
          refine mj_aload_n (pc := 139) (i := 0) d_Md_read_139 rfl rfl (by decide) ?_
          refine dj_getI (pc := 140) d_Md_read_140 fl_Md_97 sh_88 rfl (by decide) (by decide) (by decide) ?_
          refine mj_aload_n (pc := 143) (i := 0) d_Md_read_143 rfl rfl (by decide) ?_
          refine dj_getI (pc := 144) d_Md_read_144 fl_Md_94 sh_88 rfl (by decide) (by decide) (by decide) ?_
          refine mj_icmp_ge (pc := 147) (tgt := 154) d_Md_read_147 (by decide) mj_hs (fun hc39 => ?_) (fun hc39 => ?_)
          · rw [if_pos hc39] at h
            obtain e_1 := inj1 h
            subst e_1
            exact mj_wk k43 (And.intro rfl trivial)
          · rw [if_neg hc39] at h
            refine mj_aload_n (pc := 150) (i := 0) d_Md_read_150 rfl rfl (by decide) ?_
            obtain ⟨C40, hb41, h⟩ := bd1_some h
            refine mj_callV (pc := 151) (b := 88) (vs := []) (st := []) d_Md_read_151 bB_Md_read_Md_fail lk_Md_103 iv_Md_fail rc_88 rfl (Nat.le_of_ble_eq_true rfl) (Nat.le_of_ble_eq_true rfl) (r_Md_fail hb41) ?_
            show mj_R M_Md_read 154 [some (.ref 88), none, none] [] (SH, jn C C40) (some (.int v)) (SH, jn C (C'))
            obtain e_1 := inj1 h
            subst e_1
            exact mj_wk k43 (And.intro rfl trivial)
      have h := hb37
      refine mj_if_ge (y := 0) (pc := 124) (tgt := 132) d_Md_read_124 (by decide) mj_hs (fun hc32 => ?_) (fun hc32 => ?_)
      · rw [if_pos hc32] at h
        obtain e_1 := inj1 h
        subst e_1
        exact mj_wk k36 (And.intro rfl trivial)
      · rw [if_neg hc32] at h
        refine mj_aload_n (pc := 127) (i := 0) d_Md_read_127 rfl rfl (by decide) ?_
        refine mj_iload_n (pc := 128) (i := 1) d_Md_read_128 rfl rfl ?_
        obtain ⟨C33, hb34, h⟩ := bd1_some h
        refine mj_callV (pc := 129) (b := 88) (vs := [.int x1]) (st := []) d_Md_read_129 bB_Md_read_Md_readAct lk_Md_123 iv_Md_readAct rc_88 rfl (Nat.le_of_ble_eq_true rfl) (Nat.le_of_ble_eq_true rfl) (r_Md_readAct hb34) ?_
        show mj_R M_Md_read 132 [some (.ref 88), some (.int x1), none] [] (SH, jn C C33) (some (.int v)) (SH, jn C (C'))
        obtain e_1 := inj1 h
        subst e_1
        exact mj_wk k36 (And.intro rfl trivial)
    have h := hb31
    refine mj_if_ge (y := 0) (pc := 95) (tgt := 120) d_Md_read_95 (by decide) mj_hs (fun hc21 => ?_) (fun hc21 => ?_)
    · rw [if_pos hc21] at h
      obtain e_1 := inj1 h
      subst e_1
      exact mj_wk k30 (And.intro rfl (And.intro rfl trivial))
    · rw [if_neg hc21] at h
      refine mj_aload_n (pc := 98) (i := 0) d_Md_read_98 rfl rfl (by decide) ?_
      refine mj_bipush (pc := 99) (v := 105) d_Md_read_99 (by decide) ?_
      refine mj_bipush (pc := 101) (v := 102) d_Md_read_101 (by decide) ?_
      refine mj_iconst (pc := 103) (v := 0) d_Md_read_103 (by decide) ?_
      refine mj_iconst (pc := 104) (v := 0) d_Md_read_104 (by decide) ?_
      refine mj_iconst (pc := 105) (v := 0) d_Md_read_105 (by decide) ?_
      obtain ⟨v22, hb23, h⟩ := bd1_some h
      refine mj_callV (pc := 106) (b := 88) (vs := [.int 105, .int 102, .int 0, .int 0, .int 0]) (st := []) d_Md_read_106 bB_Md_read_Md_reads lk_Md_109 iv_Md_reads rc_88 rfl (Nat.le_of_ble_eq_true rfl) (Nat.le_of_ble_eq_true rfl) (r_Md_reads hb23) ?_
      show mj_R M_Md_read 109 [some (.ref 88), some (.int x1), none] [.int v22] (SH, jn C C18) (some (.int v)) (SH, jn C (C'))
      refine mj_if_eq (y := 0) (pc := 109) (tgt := 120) d_Md_read_109 (by decide) mj_hs (fun hc24 => ?_) (fun hc24 => ?_)
      · rw [if_pos hc24] at h
        obtain e_1 := inj1 h
        subst e_1
        exact mj_wk k30 (And.intro rfl (And.intro rfl trivial))
      · rw [if_neg hc24] at h
        refine mj_aload_n (pc := 112) (i := 0) d_Md_read_112 rfl rfl (by decide) ?_
        obtain ⟨C25, hb26, h⟩ := bd1_some h
        refine mj_callV (pc := 113) (b := 88) (vs := []) (st := []) d_Md_read_113 bB_Md_read_Md_next lk_Md_106 iv_Md_next rc_88 rfl (Nat.le_of_ble_eq_true rfl) (Nat.le_of_ble_eq_true rfl) (r_Md_next hb26) ?_
        show mj_R M_Md_read 116 [some (.ref 88), some (.int x1), none] [] (SH, jn C C25) (some (.int v)) (SH, jn C (C'))
        refine mj_aload_n (pc := 116) (i := 0) d_Md_read_116 rfl rfl (by decide) ?_
        obtain ⟨C27, hb28, h⟩ := bd1_some h
        refine mj_callV (pc := 117) (b := 88) (vs := []) (st := []) d_Md_read_117 bB_Md_read_Md_readCond lk_Md_120 iv_Md_readCond rc_88 rfl (Nat.le_of_ble_eq_true rfl) (Nat.le_of_ble_eq_true rfl) (r_Md_readCond hb28) ?_
        show mj_R M_Md_read 120 [some (.ref 88), some (.int x1), none] [] (SH, jn C C27) (some (.int v)) (SH, jn C (C'))
        obtain e_1 := inj1 h
        subst e_1
        exact mj_wk k30 (And.intro rfl (And.intro rfl trivial))
  have h := hb20
  refine mj_if_eq (y := 0) (pc := 71) (tgt := 91) d_Md_read_71 (by decide) mj_hs (fun hc12 => ?_) (fun hc12 => ?_)
  · rw [if_pos hc12] at h
    obtain e_1 := inj1 h
    subst e_1
    exact mj_wk k19 (And.intro rfl (And.intro rfl trivial))
  · rw [if_neg hc12] at h
    refine mj_aload_n (pc := 74) (i := 0) d_Md_read_74 rfl rfl (by decide) ?_
    obtain ⟨C13, hb14, h⟩ := bd1_some h
    refine mj_callV (pc := 75) (b := 88) (vs := []) (st := []) d_Md_read_75 bB_Md_read_Md_next lk_Md_106 iv_Md_next rc_88 rfl (Nat.le_of_ble_eq_true rfl) (Nat.le_of_ble_eq_true rfl) (r_Md_next hb14) ?_
    show mj_R M_Md_read 78 [some (.ref 88), some (.int x1), none] [] (SH, jn C C13) (some (.int v)) (SH, jn C (C'))
    refine mj_aload_n (pc := 78) (i := 0) d_Md_read_78 rfl rfl (by decide) ?_
    refine mj_getR (pc := 79) d_Md_read_79 fl_Md_41 sh_88 rfl rfl (by decide) (by decide) (by decide) ?_
    refine mj_iconst (pc := 82) (v := 4) d_Md_read_82 (by decide) ?_
    refine mj_aload_n (pc := 83) (i := 0) d_Md_read_83 rfl rfl (by decide) ?_
    refine mj_iconst (pc := 84) (v := 1) d_Md_read_84 (by decide) ?_
    refine mj_bipush (pc := 85) (v := 99) d_Md_read_85 (by decide) ?_
    obtain ⟨v15, C16, hb17, h⟩ := bd2_some h
    refine mj_callV (pc := 87) (b := 88) (vs := [.int 1, .int 99]) (st := [.int 4, .ref 99]) d_Md_read_87 bB_Md_read_Md_number lk_Md_113 iv_Md_number rc_88 rfl (Nat.le_of_ble_eq_true rfl) (Nat.le_of_ble_eq_true rfl) (r_Md_number hb17) ?_
    show mj_R M_Md_read 90 [some (.ref 88), some (.int x1), none] [.int v15, .int 4, .ref 99] (SH, jn C C16) (some (.int v)) (SH, jn C (C'))
    refine dj_iast (pc := 90) d_Md_read_90 sh_99 (by decide) (by decide) (by decide) ?_
    show mj_R M_Md_read 91 [some (.ref 88), some (.int x1), none] [] (SH, jn C (mj_wr C16 99 4 v15)) (some (.int v)) (SH, jn C (C'))
    obtain e_1 := inj1 h
    subst e_1
    exact mj_wk k19 (And.intro rfl (And.intro rfl trivial))
set_option maxRecDepth 20000 in
theorem r_Md_ruleMany {x1 : Int32} {C C0 : St} {v : Int32} (h : f_Md_ruleMany x1 C0 = some v) : mj_R M_Md_ruleMany 0 (mj_lv M_Md_ruleMany.2.2.1 [.ref 88, .int x1]) [] (SH, jn C C0) (some (.int v)) (SH, jn C C0) := by
  show mj_R M_Md_ruleMany 0 [some (.ref 88), some (.int x1)] [] _ _ _
  unfold f_Md_ruleMany at h
  refine mj_aload_n (pc := 0) (i := 0) d_Md_ruleMany_0 rfl rfl (by decide) ?_
  refine mj_getR (pc := 1) d_Md_ruleMany_1 fl_Md_7 sh_88 rfl rfl (by decide) (by decide) (by decide) ?_
  refine mj_iconst (pc := 4) (v := 0) d_Md_ruleMany_4 (by decide) ?_
  refine mj_iconst (pc := 5) (v := 5) d_Md_ruleMany_5 (by decide) ?_
  refine mj_iload_n (pc := 6) (i := 1) d_Md_ruleMany_6 rfl rfl ?_
  refine mj_imul (pc := 7) d_Md_ruleMany_7 ?_
  refine mj_iadd (pc := 8) d_Md_ruleMany_8 ?_
  refine mj_iconst (pc := 9) (v := 4) d_Md_ruleMany_9 (by decide) ?_
  refine mj_iadd (pc := 10) d_Md_ruleMany_10 ?_
  obtain ⟨hg1, h⟩ := mj_gd h
  refine dj_iald (pc := 11) d_Md_ruleMany_11 sh_89 (by decide) hg1 (by decide) ?_
  obtain e_1 := inj1 h
  subst e_1
  exact mj_iret (pc := 12) d_Md_ruleMany_12 rfl
set_option maxRecDepth 20000 in
theorem l_Md_rule_57 {r : Option Value} {X y : St} : ∀ (n : Nat) (y1 : Int32) (y3 : Int32) (y4 : Int32) (C : St) (Q_ : St), L_Md_rule_57 n y1 y3 y4 C = some Q_ → mj_R M_Md_rule 98 [some (.ref 88), some (.int y1), none, some (.int y3), none] [] (SH, jn X Q_) r (SH, y) → mj_R M_Md_rule 57 [some (.ref 88), some (.int y1), none, some (.int y3), some (.int y4)] [] (SH, jn X C) r (SH, y) := by
  intro n
  induction n with
  | zero => intro y1 y3 y4 C Q_ h; cases h
  | succ n ih =>
    intro y1 y3 y4 C Q_ h hX
    unfold L_Md_rule_57 at h
    refine mj_iload (pc := 57) (i := 4) d_Md_rule_57 rfl ?_
    refine mj_bipush (pc := 59) (v := 9) d_Md_rule_59 (by decide) ?_
    refine mj_icmp_ge (pc := 61) (tgt := 98) d_Md_rule_61 (by decide) mj_hs (fun hc11 => ?_) (fun hc11 => ?_)
    · rw [if_pos hc11] at h
      obtain e_1 := inj1 h
      subst e_1
      exact mj_wk hX (And.intro rfl (And.intro rfl (And.intro rfl trivial)))
    · rw [if_neg hc11] at h
      refine mj_aload_n (pc := 64) (i := 0) d_Md_rule_64 rfl rfl (by decide) ?_
      refine mj_getR (pc := 65) d_Md_rule_65 fl_Md_7 sh_88 rfl rfl (by decide) (by decide) (by decide) ?_
      refine mj_sipush (pc := 68) (v := 660) d_Md_rule_68 (by decide) ?_
      refine mj_bipush (pc := 71) (v := 9) d_Md_rule_71 (by decide) ?_
      refine mj_bipush (pc := 73) (v := 6) d_Md_rule_73 (by decide) ?_
      refine mj_iload_n (pc := 75) (i := 1) d_Md_rule_75 rfl rfl ?_
      refine mj_imul (pc := 76) d_Md_rule_76 ?_
      refine mj_iload_n (pc := 77) (i := 3) d_Md_rule_77 rfl rfl ?_
      refine mj_iadd (pc := 78) d_Md_rule_78 ?_
      refine mj_imul (pc := 79) d_Md_rule_79 ?_
      refine mj_iadd (pc := 80) d_Md_rule_80 ?_
      refine mj_iload (pc := 81) (i := 4) d_Md_rule_81 rfl ?_
      refine mj_iadd (pc := 83) d_Md_rule_83 ?_
      refine mj_aload_n (pc := 84) (i := 0) d_Md_rule_84 rfl rfl (by decide) ?_
      refine mj_getR (pc := 85) d_Md_rule_85 fl_Md_41 sh_88 rfl rfl (by decide) (by decide) (by decide) ?_
      refine mj_iload (pc := 88) (i := 4) d_Md_rule_88 rfl ?_
      obtain ⟨hg12, h⟩ := mj_gd h
      refine dj_iald (pc := 90) d_Md_rule_90 sh_99 (by decide) hg12 (by decide) ?_
      obtain ⟨hg13, h⟩ := mj_gd h
      refine dj_iast (pc := 91) d_Md_rule_91 sh_89 (by decide) hg13 (by decide) ?_
      refine mj_iinc (pc := 92) (i := 4) (v := y4 + 1) d_Md_rule_92 rfl (by rfl) rfl (by decide) ?_
      refine mj_goto (pc := 95) (tgt := 57) d_Md_rule_95 (by decide) ?_
      exact mj_weak [some (.ref 88), some (.int y1), none, some (.int y3), some (.int (y4 + 1))] (And.intro rfl (And.intro rfl (And.intro rfl (And.intro rfl trivial)))) (ih _ _ _ _ _ h hX)
set_option maxRecDepth 20000 in
theorem r_Md_rule {x1 : Int32} {C C0 : St} {v : Int32} {C' : St} (h : f_Md_rule x1 C0 = some (v, C')) : mj_R M_Md_rule 0 (mj_lv M_Md_rule.2.2.1 [.ref 88, .int x1]) [] (SH, jn C C0) (some (.int v)) (SH, jn C (C')) := by
  show mj_R M_Md_rule 0 [some (.ref 88), some (.int x1), none, none, none] [] _ _ _
  unfold f_Md_rule at h
  refine mj_aload_n (pc := 0) (i := 0) d_Md_rule_0 rfl rfl (by decide) ?_
  refine mj_aload_n (pc := 1) (i := 0) d_Md_rule_1 rfl rfl (by decide) ?_
  refine dj_getI (pc := 2) d_Md_rule_2 fl_Md_80 sh_88 rfl (by decide) (by decide) (by decide) ?_
  refine dj_putI (pc := 5) d_Md_rule_5 fl_Md_94 sh_88 rfl (fun _ _ _ h => by cases h; rfl) (by decide) (by decide) (by decide) ?_
  refine mj_aload_n (pc := 8) (i := 0) d_Md_rule_8 rfl rfl (by decide) ?_
  refine mj_iconst (pc := 9) (v := 0) d_Md_rule_9 (by decide) ?_
  refine dj_putI (pc := 10) d_Md_rule_10 fl_Md_80 sh_88 rfl (fun _ _ _ h => by cases h; rfl) (by decide) (by decide) (by decide) ?_
  refine mj_aload_n (pc := 13) (i := 0) d_Md_rule_13 rfl rfl (by decide) ?_
  refine mj_iload_n (pc := 14) (i := 1) d_Md_rule_14 rfl rfl ?_
  obtain ⟨v1, hb2, h⟩ := bd1_some h
  refine mj_callV (pc := 15) (b := 88) (vs := [.int x1]) (st := []) d_Md_rule_15 bB_Md_rule_Md_isAgent lk_Md_69 iv_Md_isAgent rc_88 rfl (Nat.le_of_ble_eq_true rfl) (Nat.le_of_ble_eq_true rfl) (r_Md_isAgent hb2) ?_
  show mj_R M_Md_rule 18 [some (.ref 88), some (.int x1), none, none, none] [.int v1] (SH, jn C (mj_wr (mj_wr C0 88 12 (C0 88 4)) 88 4 0)) (some (.int v)) (SH, jn C (C'))
  refine mj_if_ne (y := 0) (pc := 18) (tgt := 24) d_Md_rule_18 (by decide) mj_hs (fun hc3 => ?_) (fun hc3 => ?_)
  · rw [if_neg hc3] at h
    refine mj_aload_n (pc := 24) (i := 0) d_Md_rule_24 rfl rfl (by decide) ?_
    refine mj_iload_n (pc := 25) (i := 1) d_Md_rule_25 rfl rfl ?_
    obtain ⟨v4, C5, hb6, h⟩ := bd2_some h
    refine mj_callV (pc := 26) (b := 88) (vs := [.int x1]) (st := []) d_Md_rule_26 bB_Md_rule_Md_read lk_Md_126 iv_Md_read rc_88 rfl (Nat.le_of_ble_eq_true rfl) (Nat.le_of_ble_eq_true rfl) (r_Md_read hb6) ?_
    show mj_R M_Md_rule 29 [some (.ref 88), some (.int x1), none, none, none] [.int v4] (SH, jn C C5) (some (.int v)) (SH, jn C (C'))
    refine mj_istore_n (pc := 29) (i := 2) d_Md_rule_29 rfl rfl (by decide) ?_
    refine mj_iload_n (pc := 30) (i := 2) d_Md_rule_30 rfl rfl ?_
    refine mj_if_lt (y := 0) (pc := 31) (tgt := 39) d_Md_rule_31 (by decide) mj_hs (fun hc7 => ?_) (fun hc7 => ?_)
    · rw [if_pos hc7] at h
      refine mj_aload_n (pc := 39) (i := 0) d_Md_rule_39 rfl rfl (by decide) ?_
      refine mj_iload_n (pc := 40) (i := 1) d_Md_rule_40 rfl rfl ?_
      obtain ⟨v8, hb9, h⟩ := bd1_some h
      refine mj_callV (pc := 41) (b := 88) (vs := [.int x1]) (st := []) d_Md_rule_41 bB_Md_rule_Md_ruleMany lk_Md_129 iv_Md_ruleMany rc_88 rfl (Nat.le_of_ble_eq_true rfl) (Nat.le_of_ble_eq_true rfl) (r_Md_ruleMany hb9) ?_
      show mj_R M_Md_rule 44 [some (.ref 88), some (.int x1), some (.int v4), none, none] [.int v8] (SH, jn C C5) (some (.int v)) (SH, jn C (C'))
      refine mj_istore_n (pc := 44) (i := 3) d_Md_rule_44 rfl rfl (by decide) ?_
      refine mj_iload_n (pc := 45) (i := 3) d_Md_rule_45 rfl rfl ?_
      refine mj_bipush (pc := 46) (v := 6) d_Md_rule_46 (by decide) ?_
      refine mj_icmp_ne (pc := 48) (tgt := 54) d_Md_rule_48 (by decide) mj_hs (fun hc10 => ?_) (fun hc10 => ?_)
      · rw [if_neg hc10] at h
        refine mj_iconst (pc := 54) (v := 0) d_Md_rule_54 (by decide) ?_
        refine mj_istore (pc := 55) (i := 4) d_Md_rule_55 rfl (by decide) ?_
        obtain ⟨C14, hl15, h⟩ := bd1_some h
        refine mj_weak [some (.ref 88), some (.int x1), none, some (.int v8), some (.int 0)] (And.intro rfl (And.intro rfl (And.intro rfl (And.intro rfl trivial)))) (l_Md_rule_57 3000 _ _ _ _ _ hl15 ?_)
        refine mj_aload_n (pc := 98) (i := 0) d_Md_rule_98 rfl rfl (by decide) ?_
        refine mj_getR (pc := 99) d_Md_rule_99 fl_Md_7 sh_88 rfl rfl (by decide) (by decide) (by decide) ?_
        refine mj_iconst (pc := 102) (v := 0) d_Md_rule_102 (by decide) ?_
        refine mj_iconst (pc := 103) (v := 5) d_Md_rule_103 (by decide) ?_
        refine mj_iload_n (pc := 104) (i := 1) d_Md_rule_104 rfl rfl ?_
        refine mj_imul (pc := 105) d_Md_rule_105 ?_
        refine mj_iadd (pc := 106) d_Md_rule_106 ?_
        refine mj_iconst (pc := 107) (v := 4) d_Md_rule_107 (by decide) ?_
        refine mj_iadd (pc := 108) d_Md_rule_108 ?_
        refine mj_dup2 (pc := 109) d_Md_rule_109 rfl rfl ?_
        obtain ⟨hg16, h⟩ := mj_gd h
        refine dj_iald (pc := 110) d_Md_rule_110 sh_89 (by decide) hg16 (by decide) ?_
        refine mj_iconst (pc := 111) (v := 1) d_Md_rule_111 (by decide) ?_
        refine mj_iadd (pc := 112) d_Md_rule_112 ?_
        refine dj_iast (pc := 113) d_Md_rule_113 sh_89 (by decide) hg16 (by decide) ?_
        refine mj_iload_n (pc := 114) (i := 3) d_Md_rule_114 rfl rfl ?_
        obtain ⟨e_1, e_2⟩ := inj2 h
        subst e_1
        subst e_2
        exact mj_iret (pc := 115) d_Md_rule_115 rfl
      · rw [if_pos hc10] at h
        refine mj_ldc (pc := 51) (v := -1000000003) d_Md_rule_51 k_Md_67 ?_
        obtain ⟨e_1, e_2⟩ := inj2 h
        subst e_1
        subst e_2
        exact mj_iret (pc := 53) d_Md_rule_53 rfl
    · rw [if_neg hc7] at h
      refine mj_bipush (pc := 34) (v := -100) d_Md_rule_34 (by decide) ?_
      refine mj_iload_n (pc := 36) (i := 2) d_Md_rule_36 rfl rfl ?_
      refine mj_isub (pc := 37) d_Md_rule_37 ?_
      obtain ⟨e_1, e_2⟩ := inj2 h
      subst e_1
      subst e_2
      exact mj_iret (pc := 38) d_Md_rule_38 rfl
  · rw [if_pos hc3] at h
    refine mj_ldc (pc := 21) (v := -1000000001) d_Md_rule_21 k_Md_66 ?_
    obtain ⟨e_1, e_2⟩ := inj2 h
    subst e_1
    subst e_2
    exact mj_iret (pc := 23) d_Md_rule_23 rfl
set_option maxRecDepth 20000 in
theorem r_Md_unrule {x1 : Int32} {C C0 : St} {v : Int32} {C' : St} (h : f_Md_unrule x1 C0 = some (v, C')) : mj_R M_Md_unrule 0 (mj_lv M_Md_unrule.2.2.1 [.ref 88, .int x1]) [] (SH, jn C C0) (some (.int v)) (SH, jn C (C')) := by
  show mj_R M_Md_unrule 0 [some (.ref 88), some (.int x1)] [] _ _ _
  unfold f_Md_unrule at h
  refine mj_aload_n (pc := 0) (i := 0) d_Md_unrule_0 rfl rfl (by decide) ?_
  refine mj_iload_n (pc := 1) (i := 1) d_Md_unrule_1 rfl rfl ?_
  obtain ⟨v1, hb2, h⟩ := bd1_some h
  refine mj_callV (pc := 2) (b := 88) (vs := [.int x1]) (st := []) d_Md_unrule_2 bB_Md_unrule_Md_isAgent lk_Md_69 iv_Md_isAgent rc_88 rfl (Nat.le_of_ble_eq_true rfl) (Nat.le_of_ble_eq_true rfl) (r_Md_isAgent hb2) ?_
  show mj_R M_Md_unrule 5 [some (.ref 88), some (.int x1)] [.int v1] (SH, jn C C0) (some (.int v)) (SH, jn C (C'))
  refine mj_if_ne (y := 0) (pc := 5) (tgt := 11) d_Md_unrule_5 (by decide) mj_hs (fun hc3 => ?_) (fun hc3 => ?_)
  · rw [if_neg hc3] at h
    refine mj_aload_n (pc := 11) (i := 0) d_Md_unrule_11 rfl rfl (by decide) ?_
    refine mj_iload_n (pc := 12) (i := 1) d_Md_unrule_12 rfl rfl ?_
    obtain ⟨v4, hb5, h⟩ := bd1_some h
    refine mj_callV (pc := 13) (b := 88) (vs := [.int x1]) (st := []) d_Md_unrule_13 bB_Md_unrule_Md_ruleMany lk_Md_129 iv_Md_ruleMany rc_88 rfl (Nat.le_of_ble_eq_true rfl) (Nat.le_of_ble_eq_true rfl) (r_Md_ruleMany hb5) ?_
    show mj_R M_Md_unrule 16 [some (.ref 88), some (.int x1)] [.int v4] (SH, jn C C0) (some (.int v)) (SH, jn C (C'))
    refine mj_if_ne (y := 0) (pc := 16) (tgt := 22) d_Md_unrule_16 (by decide) mj_hs (fun hc6 => ?_) (fun hc6 => ?_)
    · rw [if_neg hc6] at h
      refine mj_aload_n (pc := 22) (i := 0) d_Md_unrule_22 rfl rfl (by decide) ?_
      refine mj_getR (pc := 23) d_Md_unrule_23 fl_Md_7 sh_88 rfl rfl (by decide) (by decide) (by decide) ?_
      refine mj_iconst (pc := 26) (v := 0) d_Md_unrule_26 (by decide) ?_
      refine mj_iconst (pc := 27) (v := 5) d_Md_unrule_27 (by decide) ?_
      refine mj_iload_n (pc := 28) (i := 1) d_Md_unrule_28 rfl rfl ?_
      refine mj_imul (pc := 29) d_Md_unrule_29 ?_
      refine mj_iadd (pc := 30) d_Md_unrule_30 ?_
      refine mj_iconst (pc := 31) (v := 4) d_Md_unrule_31 (by decide) ?_
      refine mj_iadd (pc := 32) d_Md_unrule_32 ?_
      refine mj_dup2 (pc := 33) d_Md_unrule_33 rfl rfl ?_
      obtain ⟨hg7, h⟩ := mj_gd h
      refine dj_iald (pc := 34) d_Md_unrule_34 sh_89 (by decide) hg7 (by decide) ?_
      refine mj_iconst (pc := 35) (v := 1) d_Md_unrule_35 (by decide) ?_
      refine mj_isub (pc := 36) d_Md_unrule_36 ?_
      refine dj_iast (pc := 37) d_Md_unrule_37 sh_89 (by decide) hg7 (by decide) ?_
      refine mj_aload_n (pc := 38) (i := 0) d_Md_unrule_38 rfl rfl (by decide) ?_
      refine mj_iload_n (pc := 39) (i := 1) d_Md_unrule_39 rfl rfl ?_
      obtain ⟨v8, hb9, h⟩ := bd1_some h
      refine mj_callV (pc := 40) (b := 88) (vs := [.int x1]) (st := []) d_Md_unrule_40 bB_Md_unrule_Md_ruleMany lk_Md_129 iv_Md_ruleMany rc_88 rfl (Nat.le_of_ble_eq_true rfl) (Nat.le_of_ble_eq_true rfl) (r_Md_ruleMany hb9) ?_
      show mj_R M_Md_unrule 43 [some (.ref 88), some (.int x1)] [.int v8] (SH, jn C (mj_wr C0 89 (((0 + (5 * x1)) + 4).toNatClampNeg) ((C0 89 ((0 + (5 * x1)) + 4).toNatClampNeg) - 1))) (some (.int v)) (SH, jn C (C'))
      obtain ⟨e_1, e_2⟩ := inj2 h
      subst e_1
      subst e_2
      exact mj_iret (pc := 43) d_Md_unrule_43 rfl
    · rw [if_pos hc6] at h
      refine mj_ldc (pc := 19) (v := -1000000002) d_Md_unrule_19 k_Md_132 ?_
      obtain ⟨e_1, e_2⟩ := inj2 h
      subst e_1
      subst e_2
      exact mj_iret (pc := 21) d_Md_unrule_21 rfl
  · rw [if_pos hc3] at h
    refine mj_ldc (pc := 8) (v := -1000000001) d_Md_unrule_8 k_Md_66 ?_
    obtain ⟨e_1, e_2⟩ := inj2 h
    subst e_1
    subst e_2
    exact mj_iret (pc := 10) d_Md_unrule_10 rfl
set_option maxRecDepth 20000 in
theorem l_Md_drawOrder_11 {r : Option Value} {X y : St} : ∀ (n : Nat) (y1 : Int32) (y2 : Int32) (C : St) (Q_ : St), L_Md_drawOrder_11 n y1 y2 C = some Q_ → mj_R M_Md_drawOrder 29 [some (.ref 88), some (.int y1), none, none, none] [] (SH, jn X Q_) r (SH, y) → mj_R M_Md_drawOrder 11 [some (.ref 88), some (.int y1), some (.int y2), none, none] [] (SH, jn X C) r (SH, y) := by
  intro n
  induction n with
  | zero => intro y1 y2 C Q_ h; cases h
  | succ n ih =>
    intro y1 y2 C Q_ h hX
    unfold L_Md_drawOrder_11 at h
    refine mj_iload_n (pc := 11) (i := 2) d_Md_drawOrder_11 rfl rfl ?_
    refine mj_iload_n (pc := 12) (i := 1) d_Md_drawOrder_12 rfl rfl ?_
    refine mj_icmp_ge (pc := 13) (tgt := 29) d_Md_drawOrder_13 (by decide) mj_hs (fun hc2 => ?_) (fun hc2 => ?_)
    · rw [if_pos hc2] at h
      obtain e_1 := inj1 h
      subst e_1
      exact mj_wk hX (And.intro rfl (And.intro rfl trivial))
    · rw [if_neg hc2] at h
      refine mj_aload_n (pc := 16) (i := 0) d_Md_drawOrder_16 rfl rfl (by decide) ?_
      refine mj_getR (pc := 17) d_Md_drawOrder_17 fl_Md_44 sh_88 rfl rfl (by decide) (by decide) (by decide) ?_
      refine mj_iload_n (pc := 20) (i := 2) d_Md_drawOrder_20 rfl rfl ?_
      refine mj_iload_n (pc := 21) (i := 2) d_Md_drawOrder_21 rfl rfl ?_
      obtain ⟨hg3, h⟩ := mj_gd h
      refine dj_iast (pc := 22) d_Md_drawOrder_22 sh_100 (by decide) hg3 (by decide) ?_
      refine mj_iinc (pc := 23) (i := 2) (v := y2 + 1) d_Md_drawOrder_23 rfl (by rfl) rfl (by decide) ?_
      refine mj_goto (pc := 26) (tgt := 11) d_Md_drawOrder_26 (by decide) ?_
      exact mj_weak [some (.ref 88), some (.int y1), some (.int (y2 + 1)), none, none] (And.intro rfl (And.intro rfl (And.intro rfl trivial))) (ih _ _ _ _ h hX)
set_option maxRecDepth 20000 in
theorem l_Md_drawOrder_33 {r : Option Value} {X y : St} : ∀ (n : Nat) (y1 : Int32) (y2 : Int32) (C : St) (Q_ : St), L_Md_drawOrder_33 n y1 y2 C = some Q_ → mj_R M_Md_drawOrder 118 [some (.ref 88), some (.int y1), none, none, none] [] (SH, jn X Q_) r (SH, y) → mj_R M_Md_drawOrder 33 [some (.ref 88), some (.int y1), some (.int y2), none, none] [] (SH, jn X C) r (SH, y) := by
  intro n
  induction n with
  | zero => intro y1 y2 C Q_ h; cases h
  | succ n ih =>
    intro y1 y2 C Q_ h hX
    unfold L_Md_drawOrder_33 at h
    refine mj_iload_n (pc := 33) (i := 2) d_Md_drawOrder_33 rfl rfl ?_
    refine mj_iconst (pc := 34) (v := 1) d_Md_drawOrder_34 (by decide) ?_
    refine mj_icmp_lt (pc := 35) (tgt := 118) d_Md_drawOrder_35 (by decide) mj_hs (fun hc6 => ?_) (fun hc6 => ?_)
    · rw [if_pos hc6] at h
      obtain e_1 := inj1 h
      subst e_1
      exact mj_wk hX (And.intro rfl (And.intro rfl trivial))
    · rw [if_neg hc6] at h
      refine mj_aload_n (pc := 38) (i := 0) d_Md_drawOrder_38 rfl rfl (by decide) ?_
      refine mj_getR (pc := 39) d_Md_drawOrder_39 fl_Md_7 sh_88 rfl rfl (by decide) (by decide) (by decide) ?_
      refine mj_sipush (pc := 42) (v := 2165) d_Md_drawOrder_42 (by decide) ?_
      refine mj_aload_n (pc := 45) (i := 0) d_Md_drawOrder_45 rfl rfl (by decide) ?_
      refine mj_getR (pc := 46) d_Md_drawOrder_46 fl_Md_7 sh_88 rfl rfl (by decide) (by decide) (by decide) ?_
      refine mj_sipush (pc := 49) (v := 2165) d_Md_drawOrder_49 (by decide) ?_
      refine dj_iald (pc := 52) d_Md_drawOrder_52 sh_89 (by decide) (by decide) (by decide) ?_
      show mj_R M_Md_drawOrder 53 [some (.ref 88), some (.int y1), some (.int y2), none, none] [.int (C 89 2165), .int 2165, .ref 89] (SH, jn X C) r (SH, y)
      refine mj_i2l (pc := 53) d_Md_drawOrder_53 ?_
      refine mj_ldc2 (pc := 54) (v := 1103515245) d_Md_drawOrder_54 k_Md_133 ?_
      refine mj_lmul (pc := 57) d_Md_drawOrder_57 ?_
      refine mj_ldc2 (pc := 58) (v := 12345) d_Md_drawOrder_58 k_Md_135 ?_
      refine mj_ladd (pc := 61) d_Md_drawOrder_61 ?_
      refine mj_ldc2 (pc := 62) (v := 2147483648) d_Md_drawOrder_62 k_Md_137 ?_
      refine mj_lrem (pc := 65) d_Md_drawOrder_65 (by decide) ?_
      refine mj_l2i (pc := 66) d_Md_drawOrder_66 ?_
      refine dj_iast (pc := 67) d_Md_drawOrder_67 sh_89 (by decide) (by decide) (by decide) ?_
      show mj_R M_Md_drawOrder 68 [some (.ref 88), some (.int y1), some (.int y2), none, none] [] (SH, jn X (mj_wr C 89 2165 ((((((C 89 2165).toInt64) * 1103515245) + 12345) - ((((C 89 2165).toInt64) * 1103515245) + 12345) / 2147483648 * 2147483648).toInt32))) r (SH, y)
      refine mj_aload_n (pc := 68) (i := 0) d_Md_drawOrder_68 rfl rfl (by decide) ?_
      refine mj_getR (pc := 69) d_Md_drawOrder_69 fl_Md_7 sh_88 rfl rfl (by decide) (by decide) (by decide) ?_
      refine mj_sipush (pc := 72) (v := 2165) d_Md_drawOrder_72 (by decide) ?_
      refine dj_iald (pc := 75) d_Md_drawOrder_75 sh_89 (by decide) (by decide) (by decide) ?_
      show mj_R M_Md_drawOrder 76 [some (.ref 88), some (.int y1), some (.int y2), none, none] [.int (mj_wr C 89 2165 ((((((C 89 2165).toInt64) * 1103515245) + 12345) - ((((C 89 2165).toInt64) * 1103515245) + 12345) / 2147483648 * 2147483648).toInt32) 89 2165)] (SH, jn X (mj_wr C 89 2165 ((((((C 89 2165).toInt64) * 1103515245) + 12345) - ((((C 89 2165).toInt64) * 1103515245) + 12345) / 2147483648 * 2147483648).toInt32))) r (SH, y)
      refine mj_ldc (pc := 76) (v := 65536) d_Md_drawOrder_76 k_Md_139 ?_
      refine mj_idiv (pc := 78) d_Md_drawOrder_78 (by decide) ?_
      refine mj_iload_n (pc := 79) (i := 2) d_Md_drawOrder_79 rfl rfl ?_
      refine mj_iconst (pc := 80) (v := 1) d_Md_drawOrder_80 (by decide) ?_
      refine mj_iadd (pc := 81) d_Md_drawOrder_81 ?_
      obtain ⟨hg9, h⟩ := mj_gz h
      refine mj_irem (pc := 82) d_Md_drawOrder_82 hg9 ?_
      refine mj_istore_n (pc := 83) (i := 3) d_Md_drawOrder_83 rfl rfl (by decide) ?_
      refine mj_aload_n (pc := 84) (i := 0) d_Md_drawOrder_84 rfl rfl (by decide) ?_
      refine mj_getR (pc := 85) d_Md_drawOrder_85 fl_Md_44 sh_88 rfl rfl (by decide) (by decide) (by decide) ?_
      refine mj_iload_n (pc := 88) (i := 2) d_Md_drawOrder_88 rfl rfl ?_
      obtain ⟨hg10, h⟩ := mj_gd h
      refine dj_iald (pc := 89) d_Md_drawOrder_89 sh_100 (by decide) hg10 (by decide) ?_
      refine mj_istore (pc := 90) (i := 4) d_Md_drawOrder_90 rfl (by decide) ?_
      refine mj_aload_n (pc := 92) (i := 0) d_Md_drawOrder_92 rfl rfl (by decide) ?_
      refine mj_getR (pc := 93) d_Md_drawOrder_93 fl_Md_44 sh_88 rfl rfl (by decide) (by decide) (by decide) ?_
      refine mj_iload_n (pc := 96) (i := 2) d_Md_drawOrder_96 rfl rfl ?_
      refine mj_aload_n (pc := 97) (i := 0) d_Md_drawOrder_97 rfl rfl (by decide) ?_
      refine mj_getR (pc := 98) d_Md_drawOrder_98 fl_Md_44 sh_88 rfl rfl (by decide) (by decide) (by decide) ?_
      refine mj_iload_n (pc := 101) (i := 3) d_Md_drawOrder_101 rfl rfl ?_
      obtain ⟨hg11, h⟩ := mj_gd h
      refine dj_iald (pc := 102) d_Md_drawOrder_102 sh_100 (by decide) hg11 (by decide) ?_
      refine dj_iast (pc := 103) d_Md_drawOrder_103 sh_100 (by decide) hg10 (by decide) ?_
      refine mj_aload_n (pc := 104) (i := 0) d_Md_drawOrder_104 rfl rfl (by decide) ?_
      refine mj_getR (pc := 105) d_Md_drawOrder_105 fl_Md_44 sh_88 rfl rfl (by decide) (by decide) (by decide) ?_
      refine mj_iload_n (pc := 108) (i := 3) d_Md_drawOrder_108 rfl rfl ?_
      refine mj_iload (pc := 109) (i := 4) d_Md_drawOrder_109 rfl ?_
      refine dj_iast (pc := 111) d_Md_drawOrder_111 sh_100 (by decide) hg11 (by decide) ?_
      refine mj_iinc (pc := 112) (i := 2) (v := y2 + (-1)) d_Md_drawOrder_112 rfl (by rfl) rfl (by decide) ?_
      refine mj_goto (pc := 115) (tgt := 33) d_Md_drawOrder_115 (by decide) ?_
      exact mj_weak [some (.ref 88), some (.int y1), some (.int (y2 + (-1))), none, none] (And.intro rfl (And.intro rfl (And.intro rfl trivial))) (ih _ _ _ _ h hX)
set_option maxRecDepth 20000 in
theorem l_Md_drawOrder_120 {r : Option Value} {X y : St} : ∀ (n : Nat) (y1 : Int32) (y2 : Int32) (C : St) (Q_ : St), L_Md_drawOrder_120 n y1 y2 C = some Q_ → mj_R M_Md_drawOrder 149 [none, none, none, none, none] [] (SH, jn X Q_) r (SH, y) → mj_R M_Md_drawOrder 120 [some (.ref 88), some (.int y1), some (.int y2), none, none] [] (SH, jn X C) r (SH, y) := by
  intro n
  induction n with
  | zero => intro y1 y2 C Q_ h; cases h
  | succ n ih =>
    intro y1 y2 C Q_ h hX
    unfold L_Md_drawOrder_120 at h
    refine mj_iload_n (pc := 120) (i := 2) d_Md_drawOrder_120 rfl rfl ?_
    refine mj_iload_n (pc := 121) (i := 1) d_Md_drawOrder_121 rfl rfl ?_
    refine mj_icmp_ge (pc := 122) (tgt := 149) d_Md_drawOrder_122 (by decide) mj_hs (fun hc14 => ?_) (fun hc14 => ?_)
    · rw [if_pos hc14] at h
      obtain e_1 := inj1 h
      subst e_1
      exact mj_wk hX trivial
    · rw [if_neg hc14] at h
      refine mj_aload_n (pc := 125) (i := 0) d_Md_drawOrder_125 rfl rfl (by decide) ?_
      refine mj_getR (pc := 126) d_Md_drawOrder_126 fl_Md_7 sh_88 rfl rfl (by decide) (by decide) (by decide) ?_
      refine mj_iconst (pc := 129) (v := 0) d_Md_drawOrder_129 (by decide) ?_
      refine mj_iconst (pc := 130) (v := 5) d_Md_drawOrder_130 (by decide) ?_
      refine mj_aload_n (pc := 131) (i := 0) d_Md_drawOrder_131 rfl rfl (by decide) ?_
      refine mj_getR (pc := 132) d_Md_drawOrder_132 fl_Md_44 sh_88 rfl rfl (by decide) (by decide) (by decide) ?_
      refine mj_iload_n (pc := 135) (i := 2) d_Md_drawOrder_135 rfl rfl ?_
      obtain ⟨hg15, h⟩ := mj_gd h
      refine dj_iald (pc := 136) d_Md_drawOrder_136 sh_100 (by decide) hg15 (by decide) ?_
      refine mj_imul (pc := 137) d_Md_drawOrder_137 ?_
      refine mj_iadd (pc := 138) d_Md_drawOrder_138 ?_
      refine mj_iconst (pc := 139) (v := 3) d_Md_drawOrder_139 (by decide) ?_
      refine mj_iadd (pc := 140) d_Md_drawOrder_140 ?_
      refine mj_iload_n (pc := 141) (i := 2) d_Md_drawOrder_141 rfl rfl ?_
      obtain ⟨hg16, h⟩ := mj_gd h
      refine dj_iast (pc := 142) d_Md_drawOrder_142 sh_89 (by decide) hg16 (by decide) ?_
      refine mj_iinc (pc := 143) (i := 2) (v := y2 + 1) d_Md_drawOrder_143 rfl (by rfl) rfl (by decide) ?_
      refine mj_goto (pc := 146) (tgt := 120) d_Md_drawOrder_146 (by decide) ?_
      exact mj_weak [some (.ref 88), some (.int y1), some (.int (y2 + 1)), none, none] (And.intro rfl (And.intro rfl (And.intro rfl trivial))) (ih _ _ _ _ h hX)
set_option maxRecDepth 20000 in
theorem r_Md_drawOrder  {C C0 : St} {C' : St} (h : f_Md_drawOrder C0 = some (C')) : mj_R M_Md_drawOrder 0 (mj_lv M_Md_drawOrder.2.2.1 [.ref 88]) [] (SH, jn C C0) none (SH, jn C (C')) := by
  show mj_R M_Md_drawOrder 0 [some (.ref 88), none, none, none, none] [] _ _ _
  unfold f_Md_drawOrder at h
  refine mj_aload_n (pc := 0) (i := 0) d_Md_drawOrder_0 rfl rfl (by decide) ?_
  refine mj_getR (pc := 1) d_Md_drawOrder_1 fl_Md_7 sh_88 rfl rfl (by decide) (by decide) (by decide) ?_
  refine mj_sipush (pc := 4) (v := 2163) d_Md_drawOrder_4 (by decide) ?_
  refine dj_iald (pc := 7) d_Md_drawOrder_7 sh_89 (by decide) (by decide) (by decide) ?_
  show mj_R M_Md_drawOrder 8 [some (.ref 88), none, none, none, none] [.int (C0 89 2163)] (SH, jn C C0) none (SH, jn C (C'))
  refine mj_istore_n (pc := 8) (i := 1) d_Md_drawOrder_8 rfl rfl (by decide) ?_
  refine mj_iconst (pc := 9) (v := 0) d_Md_drawOrder_9 (by decide) ?_
  refine mj_istore_n (pc := 10) (i := 2) d_Md_drawOrder_10 rfl rfl (by decide) ?_
  obtain ⟨C4, hl5, h⟩ := bd1_some h
  refine mj_weak [some (.ref 88), some (.int (C0 89 2163)), some (.int 0), none, none] (And.intro rfl (And.intro rfl (And.intro rfl trivial))) (l_Md_drawOrder_11 3000 _ _ _ _ hl5 ?_)
  refine mj_iload_n (pc := 29) (i := 1) d_Md_drawOrder_29 rfl rfl ?_
  refine mj_iconst (pc := 30) (v := 1) d_Md_drawOrder_30 (by decide) ?_
  refine mj_isub (pc := 31) d_Md_drawOrder_31 ?_
  refine mj_istore_n (pc := 32) (i := 2) d_Md_drawOrder_32 rfl rfl (by decide) ?_
  obtain ⟨C12, hl13, h⟩ := bd1_some h
  refine mj_weak [some (.ref 88), some (.int (C0 89 2163)), some (.int ((C0 89 2163) - 1)), none, none] (And.intro rfl (And.intro rfl (And.intro rfl trivial))) (l_Md_drawOrder_33 3000 _ _ _ _ hl13 ?_)
  refine mj_iconst (pc := 118) (v := 0) d_Md_drawOrder_118 (by decide) ?_
  refine mj_istore_n (pc := 119) (i := 2) d_Md_drawOrder_119 rfl rfl (by decide) ?_
  obtain ⟨C17, hl18, h⟩ := bd1_some h
  refine mj_weak [some (.ref 88), some (.int (C0 89 2163)), some (.int 0), none, none] (And.intro rfl (And.intro rfl (And.intro rfl trivial))) (l_Md_drawOrder_120 3000 _ _ _ _ hl18 ?_)
  obtain e_1 := inj1 h
  subst e_1
  exact mj_vret (pc := 149) d_Md_drawOrder_149 rfl
set_option maxRecDepth 20000 in
theorem r_Md_isBroke {x1 : Int32} {C C0 : St} {v : Int32} (h : f_Md_isBroke x1 C0 = some v) : mj_R M_Md_isBroke 0 (mj_lv M_Md_isBroke.2.2.1 [.ref 88, .int x1]) [] (SH, jn C C0) (some (.int v)) (SH, jn C C0) := by
  show mj_R M_Md_isBroke 0 [some (.ref 88), some (.int x1)] [] _ _ _
  unfold f_Md_isBroke at h
  refine mj_aload_n (pc := 0) (i := 0) d_Md_isBroke_0 rfl rfl (by decide) ?_
  refine mj_getR (pc := 1) d_Md_isBroke_1 fl_Md_7 sh_88 rfl rfl (by decide) (by decide) (by decide) ?_
  refine mj_iconst (pc := 4) (v := 0) d_Md_isBroke_4 (by decide) ?_
  refine mj_iconst (pc := 5) (v := 5) d_Md_isBroke_5 (by decide) ?_
  refine mj_iload_n (pc := 6) (i := 1) d_Md_isBroke_6 rfl rfl ?_
  refine mj_imul (pc := 7) d_Md_isBroke_7 ?_
  refine mj_iadd (pc := 8) d_Md_isBroke_8 ?_
  refine mj_iconst (pc := 9) (v := 2) d_Md_isBroke_9 (by decide) ?_
  refine mj_iadd (pc := 10) d_Md_isBroke_10 ?_
  obtain ⟨hg1, h⟩ := mj_gd h
  refine dj_iald (pc := 11) d_Md_isBroke_11 sh_89 (by decide) hg1 (by decide) ?_
  refine mj_iconst (pc := 12) (v := 1) d_Md_isBroke_12 (by decide) ?_
  have k3 : mj_R M_Md_isBroke 21 [none, none] [.int (if (C0 89 ((0 + (5 * x1)) + 2).toNatClampNeg) = 1 then 1 else 0 : Int32)] (SH, jn C C0) (some (.int v)) (SH, jn C C0) := by
    obtain e_1 := inj1 h
    subst e_1
    exact mj_zret (pc := 21) (ty := .boolean) d_Md_isBroke_21 rfl (mj_b01 (by (repeat' split) <;> simp))
  refine mj_icmp_ne (pc := 13) (tgt := 20) d_Md_isBroke_13 (by decide) mj_hs (fun hc2 => ?_) (fun hc2 => ?_)
  · refine mj_iconst (pc := 20) (v := 0) d_Md_isBroke_20 (by decide) ?_
    try simp only [if_neg hc2] at k3
    exact mj_wk k3 trivial
  · refine mj_iconst (pc := 16) (v := 1) d_Md_isBroke_16 (by decide) ?_
    refine mj_goto (pc := 17) (tgt := 21) d_Md_isBroke_17 (by decide) ?_
    try simp only [if_pos hc2] at k3
    exact mj_wk k3 trivial
set_option maxRecDepth 20000 in
theorem r_Md_ruleIs {x1 : Int32} {x2 : Int32} {x3 : Int32} {C C0 : St} {v : Int32} (h : f_Md_ruleIs x1 x2 x3 C0 = some v) : mj_R M_Md_ruleIs 0 (mj_lv M_Md_ruleIs.2.2.1 [.ref 88, .int x1, .int x2, .int x3]) [] (SH, jn C C0) (some (.int v)) (SH, jn C C0) := by
  show mj_R M_Md_ruleIs 0 [some (.ref 88), some (.int x1), some (.int x2), some (.int x3)] [] _ _ _
  unfold f_Md_ruleIs at h
  refine mj_aload_n (pc := 0) (i := 0) d_Md_ruleIs_0 rfl rfl (by decide) ?_
  refine mj_getR (pc := 1) d_Md_ruleIs_1 fl_Md_7 sh_88 rfl rfl (by decide) (by decide) (by decide) ?_
  refine mj_sipush (pc := 4) (v := 660) d_Md_ruleIs_4 (by decide) ?_
  refine mj_bipush (pc := 7) (v := 9) d_Md_ruleIs_7 (by decide) ?_
  refine mj_bipush (pc := 9) (v := 6) d_Md_ruleIs_9 (by decide) ?_
  refine mj_iload_n (pc := 11) (i := 1) d_Md_ruleIs_11 rfl rfl ?_
  refine mj_imul (pc := 12) d_Md_ruleIs_12 ?_
  refine mj_iload_n (pc := 13) (i := 2) d_Md_ruleIs_13 rfl rfl ?_
  refine mj_iadd (pc := 14) d_Md_ruleIs_14 ?_
  refine mj_imul (pc := 15) d_Md_ruleIs_15 ?_
  refine mj_iadd (pc := 16) d_Md_ruleIs_16 ?_
  refine mj_iload_n (pc := 17) (i := 3) d_Md_ruleIs_17 rfl rfl ?_
  refine mj_iadd (pc := 18) d_Md_ruleIs_18 ?_
  obtain ⟨hg1, h⟩ := mj_gd h
  refine dj_iald (pc := 19) d_Md_ruleIs_19 sh_89 (by decide) hg1 (by decide) ?_
  obtain e_1 := inj1 h
  subst e_1
  exact mj_iret (pc := 20) d_Md_ruleIs_20 rfl
set_option maxRecDepth 20000 in
theorem r_Md_kind {x1 : Int32} {C C0 : St} {v : Int32} (h : f_Md_kind x1 C0 = some v) : mj_R M_Md_kind 0 (mj_lv M_Md_kind.2.2.1 [.ref 88, .int x1]) [] (SH, jn C C0) (some (.int v)) (SH, jn C C0) := by
  show mj_R M_Md_kind 0 [some (.ref 88), some (.int x1)] [] _ _ _
  unfold f_Md_kind at h
  refine mj_aload_n (pc := 0) (i := 0) d_Md_kind_0 rfl rfl (by decide) ?_
  refine mj_getR (pc := 1) d_Md_kind_1 fl_Md_7 sh_88 rfl rfl (by decide) (by decide) (by decide) ?_
  refine mj_iconst (pc := 4) (v := 0) d_Md_kind_4 (by decide) ?_
  refine mj_iconst (pc := 5) (v := 5) d_Md_kind_5 (by decide) ?_
  refine mj_iload_n (pc := 6) (i := 1) d_Md_kind_6 rfl rfl ?_
  refine mj_imul (pc := 7) d_Md_kind_7 ?_
  refine mj_iadd (pc := 8) d_Md_kind_8 ?_
  obtain ⟨hg1, h⟩ := mj_gd h
  refine dj_iald (pc := 9) d_Md_kind_9 sh_89 (by decide) hg1 (by decide) ?_
  obtain e_1 := inj1 h
  subst e_1
  exact mj_iret (pc := 10) d_Md_kind_10 rfl
set_option maxRecDepth 20000 in
theorem r_Md_isKind {x1 : Int32} {x2 : Int32} {C C0 : St} {v : Int32} (h : f_Md_isKind x1 x2 C0 = some v) : mj_R M_Md_isKind 0 (mj_lv M_Md_isKind.2.2.1 [.ref 88, .int x1, .int x2]) [] (SH, jn C C0) (some (.int v)) (SH, jn C C0) := by
  show mj_R M_Md_isKind 0 [some (.ref 88), some (.int x1), some (.int x2)] [] _ _ _
  unfold f_Md_isKind at h
  refine mj_iload_n (pc := 0) (i := 2) d_Md_isKind_0 rfl rfl ?_
  obtain ⟨w9, hb11, h⟩ := bd1_some h
  have k10 : mj_R M_Md_isKind 32 [none, none, none] [.int w9] (SH, jn C C0) (some (.int v)) (SH, jn C C0) := by
    obtain ⟨hg12, h⟩ := mj_gd h
    obtain e_1 := inj1 h
    subst e_1
    exact mj_zret (pc := 32) (ty := .boolean) d_Md_isKind_32 rfl (mj_b01 hg12)
  have h := hb11
  refine mj_if_eq (y := 0) (pc := 1) (tgt := 27) d_Md_isKind_1 (by decide) mj_hs (fun hc1 => ?_) (fun hc1 => ?_)
  · rw [if_pos hc1] at h
    refine mj_iconst (pc := 27) (v := 1) d_Md_isKind_27 (by decide) ?_
    refine mj_goto (pc := 28) (tgt := 32) d_Md_isKind_28 (by decide) ?_
    obtain e_1 := inj1 h
    subst e_1
    exact mj_wk k10 trivial
  · rw [if_neg hc1] at h
    refine mj_aload_n (pc := 4) (i := 0) d_Md_isKind_4 rfl rfl (by decide) ?_
    refine mj_iload_n (pc := 5) (i := 1) d_Md_isKind_5 rfl rfl ?_
    obtain ⟨v2, hb3, h⟩ := bd1_some h
    refine mj_callV (pc := 6) (b := 88) (vs := [.int x1]) (st := []) d_Md_isKind_6 bB_Md_isKind_Md_kind lk_Md_61 iv_Md_kind rc_88 rfl (Nat.le_of_ble_eq_true rfl) (Nat.le_of_ble_eq_true rfl) (r_Md_kind hb3) ?_
    show mj_R M_Md_isKind 9 [some (.ref 88), some (.int x1), some (.int x2)] [.int v2] (SH, jn C C0) (some (.int v)) (SH, jn C C0)
    refine mj_iload_n (pc := 9) (i := 2) d_Md_isKind_9 rfl rfl ?_
    refine mj_icmp_eq (pc := 10) (tgt := 27) d_Md_isKind_10 (by decide) mj_hs (fun hc4 => ?_) (fun hc4 => ?_)
    · rw [if_pos hc4] at h
      refine mj_iconst (pc := 27) (v := 1) d_Md_isKind_27 (by decide) ?_
      refine mj_goto (pc := 28) (tgt := 32) d_Md_isKind_28 (by decide) ?_
      obtain e_1 := inj1 h
      subst e_1
      exact mj_wk k10 trivial
    · rw [if_neg hc4] at h
      refine mj_iload_n (pc := 13) (i := 2) d_Md_isKind_13 rfl rfl ?_
      refine mj_iconst (pc := 14) (v := 2) d_Md_isKind_14 (by decide) ?_
      refine mj_icmp_ne (pc := 15) (tgt := 31) d_Md_isKind_15 (by decide) mj_hs (fun hc5 => ?_) (fun hc5 => ?_)
      · rw [if_neg hc5] at h
        refine mj_iconst (pc := 31) (v := 0) d_Md_isKind_31 (by decide) ?_
        obtain e_1 := inj1 h
        subst e_1
        exact mj_wk k10 trivial
      · rw [if_pos hc5] at h
        refine mj_aload_n (pc := 18) (i := 0) d_Md_isKind_18 rfl rfl (by decide) ?_
        refine mj_iload_n (pc := 19) (i := 1) d_Md_isKind_19 rfl rfl ?_
        obtain ⟨v6, hb7, h⟩ := bd1_some h
        refine mj_callV (pc := 20) (b := 88) (vs := [.int x1]) (st := []) d_Md_isKind_20 bB_Md_isKind_Md_kind lk_Md_61 iv_Md_kind rc_88 rfl (Nat.le_of_ble_eq_true rfl) (Nat.le_of_ble_eq_true rfl) (r_Md_kind hb7) ?_
        show mj_R M_Md_isKind 23 [some (.ref 88), some (.int x1), some (.int x2)] [.int v6] (SH, jn C C0) (some (.int v)) (SH, jn C C0)
        refine mj_iconst (pc := 23) (v := 3) d_Md_isKind_23 (by decide) ?_
        refine mj_icmp_ne (pc := 24) (tgt := 31) d_Md_isKind_24 (by decide) mj_hs (fun hc8 => ?_) (fun hc8 => ?_)
        · rw [if_neg hc8] at h
          refine mj_iconst (pc := 31) (v := 0) d_Md_isKind_31 (by decide) ?_
          obtain e_1 := inj1 h
          subst e_1
          exact mj_wk k10 trivial
        · rw [if_pos hc8] at h
          refine mj_iconst (pc := 27) (v := 1) d_Md_isKind_27 (by decide) ?_
          refine mj_goto (pc := 28) (tgt := 32) d_Md_isKind_28 (by decide) ?_
          obtain e_1 := inj1 h
          subst e_1
          exact mj_wk k10 trivial
set_option maxRecDepth 20000 in
theorem r_Md_mayDo {x1 : Int32} {x2 : Int32} {C C0 : St} {v : Int32} (h : f_Md_mayDo x1 x2 C0 = some v) : mj_R M_Md_mayDo 0 (mj_lv M_Md_mayDo.2.2.1 [.ref 88, .int x1, .int x2]) [] (SH, jn C C0) (some (.int v)) (SH, jn C C0) := by
  show mj_R M_Md_mayDo 0 [some (.ref 88), some (.int x1), some (.int x2)] [] _ _ _
  unfold f_Md_mayDo at h
  refine mj_iload_n (pc := 0) (i := 2) d_Md_mayDo_0 rfl rfl ?_
  obtain ⟨w15, hb17, h⟩ := bd1_some h
  have k16 : mj_R M_Md_mayDo 63 [none, none, none] [.int w15] (SH, jn C C0) (some (.int v)) (SH, jn C C0) := by
    obtain ⟨hg18, h⟩ := mj_gd h
    obtain e_1 := inj1 h
    subst e_1
    exact mj_zret (pc := 63) (ty := .boolean) d_Md_mayDo_63 rfl (mj_b01 hg18)
  have h := hb17
  refine mj_if_ne (y := 0) (pc := 1) (tgt := 13) d_Md_mayDo_1 (by decide) mj_hs (fun hc1 => ?_) (fun hc1 => ?_)
  · rw [if_neg hc1] at h
    refine mj_iload_n (pc := 13) (i := 2) d_Md_mayDo_13 rfl rfl ?_
    refine mj_iconst (pc := 14) (v := 1) d_Md_mayDo_14 (by decide) ?_
    refine mj_icmp_ne (pc := 15) (tgt := 35) d_Md_mayDo_15 (by decide) mj_hs (fun hc2 => ?_) (fun hc2 => ?_)
    · rw [if_neg hc2] at h
      refine mj_iload_n (pc := 35) (i := 2) d_Md_mayDo_35 rfl rfl ?_
      refine mj_iconst (pc := 36) (v := 5) d_Md_mayDo_36 (by decide) ?_
      refine mj_icmp_ne (pc := 37) (tgt := 58) d_Md_mayDo_37 (by decide) mj_hs (fun hc3 => ?_) (fun hc3 => ?_)
      · rw [if_neg hc3] at h
        refine mj_iconst (pc := 58) (v := 1) d_Md_mayDo_58 (by decide) ?_
        refine mj_goto (pc := 59) (tgt := 63) d_Md_mayDo_59 (by decide) ?_
        obtain e_1 := inj1 h
        subst e_1
        exact mj_wk k16 trivial
      · rw [if_pos hc3] at h
        refine mj_aload_n (pc := 40) (i := 0) d_Md_mayDo_40 rfl rfl (by decide) ?_
        refine mj_iload_n (pc := 41) (i := 1) d_Md_mayDo_41 rfl rfl ?_
        obtain ⟨v4, hb5, h⟩ := bd1_some h
        refine mj_callV (pc := 42) (b := 88) (vs := [.int x1]) (st := []) d_Md_mayDo_42 bB_Md_mayDo_Md_kind lk_Md_61 iv_Md_kind rc_88 rfl (Nat.le_of_ble_eq_true rfl) (Nat.le_of_ble_eq_true rfl) (r_Md_kind hb5) ?_
        show mj_R M_Md_mayDo 45 [some (.ref 88), some (.int x1), some (.int x2)] [.int v4] (SH, jn C C0) (some (.int v)) (SH, jn C C0)
        refine mj_iconst (pc := 45) (v := 4) d_Md_mayDo_45 (by decide) ?_
        refine mj_icmp_eq (pc := 46) (tgt := 58) d_Md_mayDo_46 (by decide) mj_hs (fun hc6 => ?_) (fun hc6 => ?_)
        · rw [if_pos hc6] at h
          refine mj_iconst (pc := 58) (v := 1) d_Md_mayDo_58 (by decide) ?_
          refine mj_goto (pc := 59) (tgt := 63) d_Md_mayDo_59 (by decide) ?_
          obtain e_1 := inj1 h
          subst e_1
          exact mj_wk k16 trivial
        · rw [if_neg hc6] at h
          refine mj_aload_n (pc := 49) (i := 0) d_Md_mayDo_49 rfl rfl (by decide) ?_
          refine mj_iload_n (pc := 50) (i := 1) d_Md_mayDo_50 rfl rfl ?_
          obtain ⟨v7, hb8, h⟩ := bd1_some h
          refine mj_callV (pc := 51) (b := 88) (vs := [.int x1]) (st := []) d_Md_mayDo_51 bB_Md_mayDo_Md_kind lk_Md_61 iv_Md_kind rc_88 rfl (Nat.le_of_ble_eq_true rfl) (Nat.le_of_ble_eq_true rfl) (r_Md_kind hb8) ?_
          show mj_R M_Md_mayDo 54 [some (.ref 88), some (.int x1), some (.int x2)] [.int v7] (SH, jn C C0) (some (.int v)) (SH, jn C C0)
          refine mj_iconst (pc := 54) (v := 5) d_Md_mayDo_54 (by decide) ?_
          refine mj_icmp_ne (pc := 55) (tgt := 62) d_Md_mayDo_55 (by decide) mj_hs (fun hc9 => ?_) (fun hc9 => ?_)
          · rw [if_neg hc9] at h
            refine mj_iconst (pc := 62) (v := 0) d_Md_mayDo_62 (by decide) ?_
            obtain e_1 := inj1 h
            subst e_1
            exact mj_wk k16 trivial
          · rw [if_pos hc9] at h
            refine mj_iconst (pc := 58) (v := 1) d_Md_mayDo_58 (by decide) ?_
            refine mj_goto (pc := 59) (tgt := 63) d_Md_mayDo_59 (by decide) ?_
            obtain e_1 := inj1 h
            subst e_1
            exact mj_wk k16 trivial
    · rw [if_pos hc2] at h
      refine mj_aload_n (pc := 18) (i := 0) d_Md_mayDo_18 rfl rfl (by decide) ?_
      refine mj_iload_n (pc := 19) (i := 1) d_Md_mayDo_19 rfl rfl ?_
      obtain ⟨v10, hb11, h⟩ := bd1_some h
      refine mj_callV (pc := 20) (b := 88) (vs := [.int x1]) (st := []) d_Md_mayDo_20 bB_Md_mayDo_Md_kind lk_Md_61 iv_Md_kind rc_88 rfl (Nat.le_of_ble_eq_true rfl) (Nat.le_of_ble_eq_true rfl) (r_Md_kind hb11) ?_
      show mj_R M_Md_mayDo 23 [some (.ref 88), some (.int x1), some (.int x2)] [.int v10] (SH, jn C C0) (some (.int v)) (SH, jn C C0)
      refine mj_iconst (pc := 23) (v := 1) d_Md_mayDo_23 (by decide) ?_
      refine mj_icmp_ne (pc := 24) (tgt := 31) d_Md_mayDo_24 (by decide) mj_hs (fun hc12 => ?_) (fun hc12 => ?_)
      · rw [if_neg hc12] at h
        refine mj_iconst (pc := 31) (v := 0) d_Md_mayDo_31 (by decide) ?_
        refine mj_goto (pc := 32) (tgt := 63) d_Md_mayDo_32 (by decide) ?_
        obtain e_1 := inj1 h
        subst e_1
        exact mj_wk k16 trivial
      · rw [if_pos hc12] at h
        refine mj_iconst (pc := 27) (v := 1) d_Md_mayDo_27 (by decide) ?_
        refine mj_goto (pc := 28) (tgt := 63) d_Md_mayDo_28 (by decide) ?_
        obtain e_1 := inj1 h
        subst e_1
        exact mj_wk k16 trivial
  · rw [if_pos hc1] at h
    refine mj_aload_n (pc := 4) (i := 0) d_Md_mayDo_4 rfl rfl (by decide) ?_
    refine mj_iload_n (pc := 5) (i := 1) d_Md_mayDo_5 rfl rfl ?_
    refine mj_iconst (pc := 6) (v := 2) d_Md_mayDo_6 (by decide) ?_
    obtain ⟨v13, hb14, h⟩ := bd1_some h
    refine mj_callV (pc := 7) (b := 88) (vs := [.int x1, .int 2]) (st := []) d_Md_mayDo_7 bB_Md_mayDo_Md_isKind lk_Md_140 iv_Md_isKind rc_88 rfl (Nat.le_of_ble_eq_true rfl) (Nat.le_of_ble_eq_true rfl) (r_Md_isKind hb14) ?_
    show mj_R M_Md_mayDo 10 [some (.ref 88), some (.int x1), some (.int x2)] [.int v13] (SH, jn C C0) (some (.int v)) (SH, jn C C0)
    refine mj_goto (pc := 10) (tgt := 63) d_Md_mayDo_10 (by decide) ?_
    obtain e_1 := inj1 h
    subst e_1
    exact mj_wk k16 trivial
set_option maxRecDepth 20000 in
theorem r_Md_goodIs {x1 : Int32} {x2 : Int32} {C C0 : St} {v : Int32} (h : f_Md_goodIs x1 x2 C0 = some v) : mj_R M_Md_goodIs 0 (mj_lv M_Md_goodIs.2.2.1 [.ref 88, .int x1, .int x2]) [] (SH, jn C C0) (some (.int v)) (SH, jn C C0) := by
  show mj_R M_Md_goodIs 0 [some (.ref 88), some (.int x1), some (.int x2)] [] _ _ _
  unfold f_Md_goodIs at h
  refine mj_aload_n (pc := 0) (i := 0) d_Md_goodIs_0 rfl rfl (by decide) ?_
  refine mj_getR (pc := 1) d_Md_goodIs_1 fl_Md_7 sh_88 rfl rfl (by decide) (by decide) (by decide) ?_
  refine mj_sipush (pc := 4) (v := 1308) d_Md_goodIs_4 (by decide) ?_
  refine mj_bipush (pc := 7) (v := 11) d_Md_goodIs_7 (by decide) ?_
  refine mj_iload_n (pc := 9) (i := 1) d_Md_goodIs_9 rfl rfl ?_
  refine mj_imul (pc := 10) d_Md_goodIs_10 ?_
  refine mj_iadd (pc := 11) d_Md_goodIs_11 ?_
  refine mj_iload_n (pc := 12) (i := 2) d_Md_goodIs_12 rfl rfl ?_
  refine mj_iadd (pc := 13) d_Md_goodIs_13 ?_
  obtain ⟨hg1, h⟩ := mj_gd h
  refine dj_iald (pc := 14) d_Md_goodIs_14 sh_89 (by decide) hg1 (by decide) ?_
  obtain e_1 := inj1 h
  subst e_1
  exact mj_iret (pc := 15) d_Md_goodIs_15 rfl
set_option maxRecDepth 20000 in
theorem r_Md_cash {x1 : Int32} {C C0 : St} {v : Int32} (h : f_Md_cash x1 C0 = some v) : mj_R M_Md_cash 0 (mj_lv M_Md_cash.2.2.1 [.ref 88, .int x1]) [] (SH, jn C C0) (some (.int v)) (SH, jn C C0) := by
  show mj_R M_Md_cash 0 [some (.ref 88), some (.int x1)] [] _ _ _
  unfold f_Md_cash at h
  refine mj_aload_n (pc := 0) (i := 0) d_Md_cash_0 rfl rfl (by decide) ?_
  refine mj_getR (pc := 1) d_Md_cash_1 fl_Md_7 sh_88 rfl rfl (by decide) (by decide) (by decide) ?_
  refine mj_iconst (pc := 4) (v := 0) d_Md_cash_4 (by decide) ?_
  refine mj_iconst (pc := 5) (v := 5) d_Md_cash_5 (by decide) ?_
  refine mj_iload_n (pc := 6) (i := 1) d_Md_cash_6 rfl rfl ?_
  refine mj_imul (pc := 7) d_Md_cash_7 ?_
  refine mj_iadd (pc := 8) d_Md_cash_8 ?_
  refine mj_iconst (pc := 9) (v := 1) d_Md_cash_9 (by decide) ?_
  refine mj_iadd (pc := 10) d_Md_cash_10 ?_
  obtain ⟨hg1, h⟩ := mj_gd h
  refine dj_iald (pc := 11) d_Md_cash_11 sh_89 (by decide) hg1 (by decide) ?_
  obtain e_1 := inj1 h
  subst e_1
  exact mj_iret (pc := 12) d_Md_cash_12 rfl
set_option maxRecDepth 20000 in
theorem r_Md_fires {x1 : Int32} {x2 : Int32} {C C0 : St} {v : Int32} (h : f_Md_fires x1 x2 C0 = some v) : mj_R M_Md_fires 0 (mj_lv M_Md_fires.2.2.1 [.ref 88, .int x1, .int x2]) [] (SH, jn C C0) (some (.int v)) (SH, jn C C0) := by
  show mj_R M_Md_fires 0 [some (.ref 88), some (.int x1), some (.int x2), none, none, none, none] [] _ _ _
  unfold f_Md_fires at h
  refine mj_aload_n (pc := 0) (i := 0) d_Md_fires_0 rfl rfl (by decide) ?_
  refine mj_iload_n (pc := 1) (i := 1) d_Md_fires_1 rfl rfl ?_
  refine mj_aload_n (pc := 2) (i := 0) d_Md_fires_2 rfl rfl (by decide) ?_
  refine mj_iload_n (pc := 3) (i := 1) d_Md_fires_3 rfl rfl ?_
  refine mj_iload_n (pc := 4) (i := 2) d_Md_fires_4 rfl rfl ?_
  refine mj_iconst (pc := 5) (v := 0) d_Md_fires_5 (by decide) ?_
  obtain ⟨v1, hb2, h⟩ := bd1_some h
  refine mj_callV (pc := 6) (b := 88) (vs := [.int x1, .int x2, .int 0]) (st := [.int x1, .ref 88]) d_Md_fires_6 bB_Md_fires_Md_ruleIs lk_Md_144 iv_Md_ruleIs rc_88 rfl (Nat.le_of_ble_eq_true rfl) (Nat.le_of_ble_eq_true rfl) (r_Md_ruleIs hb2) ?_
  show mj_R M_Md_fires 9 [some (.ref 88), some (.int x1), some (.int x2), none, none, none, none] [.int v1, .int x1, .ref 88] (SH, jn C C0) (some (.int v)) (SH, jn C C0)
  obtain ⟨v3, hb4, h⟩ := bd1_some h
  refine mj_callV (pc := 9) (b := 88) (vs := [.int x1, .int v1]) (st := []) d_Md_fires_9 bB_Md_fires_Md_mayDo lk_Md_147 iv_Md_mayDo rc_88 rfl (Nat.le_of_ble_eq_true rfl) (Nat.le_of_ble_eq_true rfl) (r_Md_mayDo hb4) ?_
  show mj_R M_Md_fires 12 [some (.ref 88), some (.int x1), some (.int x2), none, none, none, none] [.int v3] (SH, jn C C0) (some (.int v)) (SH, jn C C0)
  refine mj_if_eq (y := 0) (pc := 12) (tgt := 34) d_Md_fires_12 (by decide) mj_hs (fun hc5 => ?_) (fun hc5 => ?_)
  · rw [if_pos hc5] at h
    refine mj_iconst (pc := 34) (v := 0) d_Md_fires_34 (by decide) ?_
    obtain e_1 := inj1 h
    subst e_1
    exact mj_zret (pc := 35) (ty := .boolean) d_Md_fires_35 rfl (mj_b01 (by decide))
  · rw [if_neg hc5] at h
    refine mj_aload_n (pc := 15) (i := 0) d_Md_fires_15 rfl rfl (by decide) ?_
    refine mj_getR (pc := 16) d_Md_fires_16 fl_Md_7 sh_88 rfl rfl (by decide) (by decide) (by decide) ?_
    refine mj_sipush (pc := 19) (v := 2164) d_Md_fires_19 (by decide) ?_
    refine dj_iald (pc := 22) d_Md_fires_22 sh_89 (by decide) (by decide) (by decide) ?_
    show mj_R M_Md_fires 23 [some (.ref 88), some (.int x1), some (.int x2), none, none, none, none] [.int (C0 89 2164)] (SH, jn C C0) (some (.int v)) (SH, jn C C0)
    refine mj_aload_n (pc := 23) (i := 0) d_Md_fires_23 rfl rfl (by decide) ?_
    refine mj_iload_n (pc := 24) (i := 1) d_Md_fires_24 rfl rfl ?_
    refine mj_iload_n (pc := 25) (i := 2) d_Md_fires_25 rfl rfl ?_
    refine mj_iconst (pc := 26) (v := 4) d_Md_fires_26 (by decide) ?_
    obtain ⟨v7, hb8, h⟩ := bd1_some h
    refine mj_callV (pc := 27) (b := 88) (vs := [.int x1, .int x2, .int 4]) (st := [.int (C0 89 2164)]) d_Md_fires_27 bB_Md_fires_Md_ruleIs lk_Md_144 iv_Md_ruleIs rc_88 rfl (Nat.le_of_ble_eq_true rfl) (Nat.le_of_ble_eq_true rfl) (r_Md_ruleIs hb8) ?_
    show mj_R M_Md_fires 30 [some (.ref 88), some (.int x1), some (.int x2), none, none, none, none] [.int v7, .int (C0 89 2164)] (SH, jn C C0) (some (.int v)) (SH, jn C C0)
    obtain ⟨hg9, h⟩ := mj_gz h
    refine mj_irem (pc := 30) d_Md_fires_30 hg9 ?_
    refine mj_if_eq (y := 0) (pc := 31) (tgt := 36) d_Md_fires_31 (by decide) mj_hs (fun hc10 => ?_) (fun hc10 => ?_)
    · rw [if_pos hc10] at h
      refine mj_aload_n (pc := 36) (i := 0) d_Md_fires_36 rfl rfl (by decide) ?_
      refine mj_iload_n (pc := 37) (i := 1) d_Md_fires_37 rfl rfl ?_
      refine mj_iload_n (pc := 38) (i := 2) d_Md_fires_38 rfl rfl ?_
      refine mj_iconst (pc := 39) (v := 5) d_Md_fires_39 (by decide) ?_
      obtain ⟨v11, hb12, h⟩ := bd1_some h
      refine mj_callV (pc := 40) (b := 88) (vs := [.int x1, .int x2, .int 5]) (st := []) d_Md_fires_40 bB_Md_fires_Md_ruleIs lk_Md_144 iv_Md_ruleIs rc_88 rfl (Nat.le_of_ble_eq_true rfl) (Nat.le_of_ble_eq_true rfl) (r_Md_ruleIs hb12) ?_
      show mj_R M_Md_fires 43 [some (.ref 88), some (.int x1), some (.int x2), none, none, none, none] [.int v11] (SH, jn C C0) (some (.int v)) (SH, jn C C0)
      refine mj_istore_n (pc := 43) (i := 3) d_Md_fires_43 rfl rfl (by decide) ?_
      refine mj_iload_n (pc := 44) (i := 3) d_Md_fires_44 rfl rfl ?_
      refine mj_ldc (pc := 45) (v := -1000000005) d_Md_fires_45 k_Md_68 ?_
      refine mj_icmp_ne (pc := 47) (tgt := 52) d_Md_fires_47 (by decide) mj_hs (fun hc13 => ?_) (fun hc13 => ?_)
      · rw [if_neg hc13] at h
        refine mj_aload_n (pc := 52) (i := 0) d_Md_fires_52 rfl rfl (by decide) ?_
        refine mj_iload_n (pc := 53) (i := 1) d_Md_fires_53 rfl rfl ?_
        refine mj_iload_n (pc := 54) (i := 2) d_Md_fires_54 rfl rfl ?_
        refine mj_bipush (pc := 55) (v := 6) d_Md_fires_55 (by decide) ?_
        obtain ⟨v14, hb15, h⟩ := bd1_some h
        refine mj_callV (pc := 57) (b := 88) (vs := [.int x1, .int x2, .int 6]) (st := []) d_Md_fires_57 bB_Md_fires_Md_ruleIs lk_Md_144 iv_Md_ruleIs rc_88 rfl (Nat.le_of_ble_eq_true rfl) (Nat.le_of_ble_eq_true rfl) (r_Md_ruleIs hb15) ?_
        show mj_R M_Md_fires 60 [some (.ref 88), some (.int x1), some (.int x2), some (.int v11), none, none, none] [.int v14] (SH, jn C C0) (some (.int v)) (SH, jn C C0)
        refine mj_istore (pc := 60) (i := 4) d_Md_fires_60 rfl (by decide) ?_
        refine mj_iload_n (pc := 62) (i := 3) d_Md_fires_62 rfl rfl ?_
        refine mj_iconst (pc := 63) (v := 4) d_Md_fires_63 (by decide) ?_
        refine mj_irem (pc := 64) d_Md_fires_64 (by decide) ?_
        refine mj_istore (pc := 65) (i := 5) d_Md_fires_65 rfl (by decide) ?_
        refine mj_iload (pc := 67) (i := 5) d_Md_fires_67 rfl ?_
        obtain ⟨w26, hb28, h⟩ := bd1_some h
        have k27 : mj_R M_Md_fires 120 [some (.ref 88), some (.int x1), some (.int x2), some (.int v11), none, none, none] [.int w26] (SH, jn C C0) (some (.int v)) (SH, jn C C0) := by
          refine mj_istore (pc := 120) (i := 6) d_Md_fires_120 rfl (by decide) ?_
          refine mj_iload_n (pc := 122) (i := 3) d_Md_fires_122 rfl rfl ?_
          refine mj_iconst (pc := 123) (v := 4) d_Md_fires_123 (by decide) ?_
          obtain ⟨w36, hb38, h⟩ := bd1_some h
          have k37 : mj_R M_Md_fires 166 [none, none, none, none, none, none, none] [.int w36] (SH, jn C C0) (some (.int v)) (SH, jn C C0) := by
            obtain ⟨hg39, h⟩ := mj_gd h
            obtain e_1 := inj1 h
            subst e_1
            exact mj_zret (pc := 166) (ty := .boolean) d_Md_fires_166 rfl (mj_b01 hg39)
          have h := hb38
          refine mj_icmp_ge (pc := 124) (tgt := 148) d_Md_fires_124 (by decide) mj_hs (fun hc29 => ?_) (fun hc29 => ?_)
          · rw [if_pos hc29] at h
            refine mj_iload (pc := 148) (i := 6) d_Md_fires_148 rfl ?_
            refine mj_aload_n (pc := 150) (i := 0) d_Md_fires_150 rfl rfl (by decide) ?_
            refine mj_iload_n (pc := 151) (i := 1) d_Md_fires_151 rfl rfl ?_
            refine mj_iload_n (pc := 152) (i := 2) d_Md_fires_152 rfl rfl ?_
            refine mj_bipush (pc := 153) (v := 7) d_Md_fires_153 (by decide) ?_
            obtain ⟨v30, hb31, h⟩ := bd1_some h
            refine mj_callV (pc := 155) (b := 88) (vs := [.int x1, .int x2, .int 7]) (st := [.int w26]) d_Md_fires_155 bB_Md_fires_Md_ruleIs lk_Md_144 iv_Md_ruleIs rc_88 rfl (Nat.le_of_ble_eq_true rfl) (Nat.le_of_ble_eq_true rfl) (r_Md_ruleIs hb31) ?_
            show mj_R M_Md_fires 158 [some (.ref 88), some (.int x1), some (.int x2), some (.int v11), none, none, some (.int w26)] [.int v30, .int w26] (SH, jn C C0) (some (.int v)) (SH, jn C C0)
            refine mj_icmp_le (pc := 158) (tgt := 165) d_Md_fires_158 (by decide) mj_hs (fun hc32 => ?_) (fun hc32 => ?_)
            · rw [if_pos hc32] at h
              refine mj_iconst (pc := 165) (v := 0) d_Md_fires_165 (by decide) ?_
              obtain e_1 := inj1 h
              subst e_1
              exact mj_wk k37 trivial
            · rw [if_neg hc32] at h
              refine mj_iconst (pc := 161) (v := 1) d_Md_fires_161 (by decide) ?_
              refine mj_goto (pc := 162) (tgt := 166) d_Md_fires_162 (by decide) ?_
              obtain e_1 := inj1 h
              subst e_1
              exact mj_wk k37 trivial
          · rw [if_neg hc29] at h
            refine mj_iload (pc := 127) (i := 6) d_Md_fires_127 rfl ?_
            refine mj_aload_n (pc := 129) (i := 0) d_Md_fires_129 rfl rfl (by decide) ?_
            refine mj_iload_n (pc := 130) (i := 1) d_Md_fires_130 rfl rfl ?_
            refine mj_iload_n (pc := 131) (i := 2) d_Md_fires_131 rfl rfl ?_
            refine mj_bipush (pc := 132) (v := 7) d_Md_fires_132 (by decide) ?_
            obtain ⟨v33, hb34, h⟩ := bd1_some h
            refine mj_callV (pc := 134) (b := 88) (vs := [.int x1, .int x2, .int 7]) (st := [.int w26]) d_Md_fires_134 bB_Md_fires_Md_ruleIs lk_Md_144 iv_Md_ruleIs rc_88 rfl (Nat.le_of_ble_eq_true rfl) (Nat.le_of_ble_eq_true rfl) (r_Md_ruleIs hb34) ?_
            show mj_R M_Md_fires 137 [some (.ref 88), some (.int x1), some (.int x2), some (.int v11), none, none, some (.int w26)] [.int v33, .int w26] (SH, jn C C0) (some (.int v)) (SH, jn C C0)
            refine mj_icmp_ge (pc := 137) (tgt := 144) d_Md_fires_137 (by decide) mj_hs (fun hc35 => ?_) (fun hc35 => ?_)
            · rw [if_pos hc35] at h
              refine mj_iconst (pc := 144) (v := 0) d_Md_fires_144 (by decide) ?_
              refine mj_goto (pc := 145) (tgt := 166) d_Md_fires_145 (by decide) ?_
              obtain e_1 := inj1 h
              subst e_1
              exact mj_wk k37 trivial
            · rw [if_neg hc35] at h
              refine mj_iconst (pc := 140) (v := 1) d_Md_fires_140 (by decide) ?_
              refine mj_goto (pc := 141) (tgt := 166) d_Md_fires_141 (by decide) ?_
              obtain e_1 := inj1 h
              subst e_1
              exact mj_wk k37 trivial
        have h := hb28
        refine mj_if_ne (y := 0) (pc := 69) (tgt := 80) d_Md_fires_69 (by decide) mj_hs (fun hc16 => ?_) (fun hc16 => ?_)
        · rw [if_neg hc16] at h
          refine mj_iload (pc := 80) (i := 5) d_Md_fires_80 rfl ?_
          refine mj_iconst (pc := 82) (v := 1) d_Md_fires_82 (by decide) ?_
          refine mj_icmp_ne (pc := 83) (tgt := 96) d_Md_fires_83 (by decide) mj_hs (fun hc17 => ?_) (fun hc17 => ?_)
          · rw [if_neg hc17] at h
            refine mj_iload (pc := 96) (i := 5) d_Md_fires_96 rfl ?_
            refine mj_iconst (pc := 98) (v := 2) d_Md_fires_98 (by decide) ?_
            refine mj_icmp_ne (pc := 99) (tgt := 113) d_Md_fires_99 (by decide) mj_hs (fun hc18 => ?_) (fun hc18 => ?_)
            · rw [if_neg hc18] at h
              refine mj_aload_n (pc := 113) (i := 0) d_Md_fires_113 rfl rfl (by decide) ?_
              refine mj_iload (pc := 114) (i := 4) d_Md_fires_114 rfl ?_
              refine mj_iconst (pc := 116) (v := 2) d_Md_fires_116 (by decide) ?_
              obtain ⟨v19, hb20, h⟩ := bd1_some h
              refine mj_callV (pc := 117) (b := 88) (vs := [.int v14, .int 2]) (st := []) d_Md_fires_117 bB_Md_fires_Md_goodIs lk_Md_153 iv_Md_goodIs rc_88 rfl (Nat.le_of_ble_eq_true rfl) (Nat.le_of_ble_eq_true rfl) (r_Md_goodIs hb20) ?_
              show mj_R M_Md_fires 120 [some (.ref 88), some (.int x1), some (.int x2), some (.int v11), some (.int v14), some (.int (v11 - v11 / 4 * 4)), none] [.int v19] (SH, jn C C0) (some (.int v)) (SH, jn C C0)
              obtain e_1 := inj1 h
              subst e_1
              exact mj_wk k27 (And.intro rfl (And.intro rfl (And.intro rfl (And.intro rfl trivial))))
            · rw [if_pos hc18] at h
              refine mj_aload_n (pc := 102) (i := 0) d_Md_fires_102 rfl rfl (by decide) ?_
              refine mj_getR (pc := 103) d_Md_fires_103 fl_Md_7 sh_88 rfl rfl (by decide) (by decide) (by decide) ?_
              refine mj_sipush (pc := 106) (v := 2164) d_Md_fires_106 (by decide) ?_
              refine dj_iald (pc := 109) d_Md_fires_109 sh_89 (by decide) (by decide) (by decide) ?_
              show mj_R M_Md_fires 110 [some (.ref 88), some (.int x1), some (.int x2), some (.int v11), some (.int v14), some (.int (v11 - v11 / 4 * 4)), none] [.int (C0 89 2164)] (SH, jn C C0) (some (.int v)) (SH, jn C C0)
              refine mj_goto (pc := 110) (tgt := 120) d_Md_fires_110 (by decide) ?_
              obtain e_1 := inj1 h
              subst e_1
              exact mj_wk k27 (And.intro rfl (And.intro rfl (And.intro rfl (And.intro rfl trivial))))
          · rw [if_pos hc17] at h
            refine mj_aload_n (pc := 86) (i := 0) d_Md_fires_86 rfl rfl (by decide) ?_
            refine mj_iload_n (pc := 87) (i := 1) d_Md_fires_87 rfl rfl ?_
            refine mj_iload (pc := 88) (i := 4) d_Md_fires_88 rfl ?_
            obtain ⟨v22, hb23, h⟩ := bd1_some h
            refine mj_callV (pc := 90) (b := 88) (vs := [.int x1, .int v14]) (st := []) d_Md_fires_90 bB_Md_fires_Md_hasAll lk_Md_76 iv_Md_hasAll rc_88 rfl (Nat.le_of_ble_eq_true rfl) (Nat.le_of_ble_eq_true rfl) (r_Md_hasAll hb23) ?_
            show mj_R M_Md_fires 93 [some (.ref 88), some (.int x1), some (.int x2), some (.int v11), some (.int v14), some (.int (v11 - v11 / 4 * 4)), none] [.int v22] (SH, jn C C0) (some (.int v)) (SH, jn C C0)
            refine mj_goto (pc := 93) (tgt := 120) d_Md_fires_93 (by decide) ?_
            obtain e_1 := inj1 h
            subst e_1
            exact mj_wk k27 (And.intro rfl (And.intro rfl (And.intro rfl (And.intro rfl trivial))))
        · rw [if_pos hc16] at h
          refine mj_aload_n (pc := 72) (i := 0) d_Md_fires_72 rfl rfl (by decide) ?_
          refine mj_iload_n (pc := 73) (i := 1) d_Md_fires_73 rfl rfl ?_
          obtain ⟨v24, hb25, h⟩ := bd1_some h
          refine mj_callV (pc := 74) (b := 88) (vs := [.int x1]) (st := []) d_Md_fires_74 bB_Md_fires_Md_cash lk_Md_150 iv_Md_cash rc_88 rfl (Nat.le_of_ble_eq_true rfl) (Nat.le_of_ble_eq_true rfl) (r_Md_cash hb25) ?_
          show mj_R M_Md_fires 77 [some (.ref 88), some (.int x1), some (.int x2), some (.int v11), some (.int v14), some (.int (v11 - v11 / 4 * 4)), none] [.int v24] (SH, jn C C0) (some (.int v)) (SH, jn C C0)
          refine mj_goto (pc := 77) (tgt := 120) d_Md_fires_77 (by decide) ?_
          obtain e_1 := inj1 h
          subst e_1
          exact mj_wk k27 (And.intro rfl (And.intro rfl (And.intro rfl (And.intro rfl trivial))))
      · rw [if_pos hc13] at h
        refine mj_iconst (pc := 50) (v := 1) d_Md_fires_50 (by decide) ?_
        obtain e_1 := inj1 h
        subst e_1
        exact mj_zret (pc := 51) (ty := .boolean) d_Md_fires_51 rfl (mj_b01 (by decide))
    · rw [if_neg hc10] at h
      refine mj_iconst (pc := 34) (v := 0) d_Md_fires_34 (by decide) ?_
      obtain e_1 := inj1 h
      subst e_1
      exact mj_zret (pc := 35) (ty := .boolean) d_Md_fires_35 rfl (mj_b01 (by decide))
