set_option maxRecDepth 20000 in
theorem r_Md_fail  {C C0 : St} {C' : St} (h : f_Md_fail C0 = some (C')) : mj_R M_Md_fail 0 (mj_lv M_Md_fail.2.2.1 [.ref 88]) [] (SH, jn C C0) none (SH, jn C (C')) := by
  show mj_R M_Md_fail 0 [some (.ref 88)] [] _ _ _
  unfold f_Md_fail at h
  refine mj_aload_n (pc := 0) (i := 0) d_Md_fail_0 rfl rfl (by decide) ?_
  refine mj_aload_n (pc := 1) (i := 0) d_Md_fail_1 rfl rfl (by decide) ?_
  refine dj_getI (pc := 2) d_Md_fail_2 fl_Md_100 sh_88 rfl (by decide) (by decide) (by decide) ?_
  have k2 : mj_R M_Md_fail 19 [none] [.int (if 0 ≤ (C0 88 16) then C0 88 16 else C0 88 14 : Int32), .ref 88] (SH, jn C C0) none (SH, jn C (C')) := by
    refine dj_putI (pc := 19) d_Md_fail_19 fl_Md_100 sh_88 rfl (fun _ _ _ h => by cases h; rfl) (by decide) (by decide) (by decide) ?_
    obtain e_1 := inj1 h
    subst e_1
    exact mj_vret (pc := 22) d_Md_fail_22 rfl
  refine mj_if_ge (y := 0) (pc := 5) (tgt := 15) d_Md_fail_5 (by decide) mj_hs (fun hc1 => ?_) (fun hc1 => ?_)
  · refine mj_aload_n (pc := 15) (i := 0) d_Md_fail_15 rfl rfl (by decide) ?_
    refine dj_getI (pc := 16) d_Md_fail_16 fl_Md_100 sh_88 rfl (by decide) (by decide) (by decide) ?_
    try simp only [if_pos hc1] at k2
    exact mj_wk k2 trivial
  · refine mj_aload_n (pc := 8) (i := 0) d_Md_fail_8 rfl rfl (by decide) ?_
    refine dj_getI (pc := 9) d_Md_fail_9 fl_Md_97 sh_88 rfl (by decide) (by decide) (by decide) ?_
    refine mj_goto (pc := 12) (tgt := 19) d_Md_fail_12 (by decide) ?_
    try simp only [if_neg hc1] at k2
    exact mj_wk k2 trivial
set_option maxRecDepth 20000 in
theorem l_Md_number_26 {r : Option Value} {X y : St} : ∀ (n : Nat) (y1 : Int32) (y2 : Int32) (y3 : Int32) (y4 : Int32) (y5 : Int32) (C : St) (o3_ : Int32) (o4_ : Int32), L_Md_number_26 n y1 y2 y3 y4 y5 C = some (o3_, o4_) → mj_R M_Md_number 102 [some (.ref 88), some (.int y1), some (.int y2), some (.int o3_), some (.int o4_), none] [] (SH, jn X C) r (SH, y) → mj_R M_Md_number 26 [some (.ref 88), some (.int y1), some (.int y2), some (.int y3), some (.int y4), some (.int y5)] [] (SH, jn X C) r (SH, y) := by
  intro n
  induction n with
  | zero => intro y1 y2 y3 y4 y5 C o3_ o4_ h; cases h
  | succ n ih =>
    intro y1 y2 y3 y4 y5 C o3_ o4_ h hX
    unfold L_Md_number_26 at h
    refine mj_iload (pc := 26) (i := 5) d_Md_number_26 rfl ?_
    refine mj_aload_n (pc := 28) (i := 0) d_Md_number_28 rfl rfl (by decide) ?_
    refine dj_getI (pc := 29) d_Md_number_29 fl_Md_88 sh_88 rfl (by decide) (by decide) (by decide) ?_
    refine mj_icmp_ge (pc := 32) (tgt := 102) d_Md_number_32 (by decide) mj_hs (fun hc3 => ?_) (fun hc3 => ?_)
    · rw [if_pos hc3] at h
      obtain ⟨e_1, e_2⟩ := inj2 h
      subst e_1
      subst e_2
      exact mj_wk hX (And.intro rfl (And.intro rfl (And.intro rfl (And.intro rfl (And.intro rfl trivial)))))
    · rw [if_neg hc3] at h
      refine mj_iload (pc := 35) (i := 4) d_Md_number_35 rfl ?_
      obtain ⟨w9, hb11, h⟩ := bd1_some h
      have k10 : mj_R M_Md_number 62 [some (.ref 88), some (.int y1), some (.int y2), some (.int y3), none, some (.int y5)] [.int w9] (SH, jn X C) r (SH, y) := by
        refine mj_istore (pc := 62) (i := 4) d_Md_number_62 rfl (by decide) ?_
        refine mj_iload (pc := 64) (i := 4) d_Md_number_64 rfl ?_
        obtain ⟨w15, hb17, h⟩ := bd1_some h
        have k16 : mj_R M_Md_number 95 [some (.ref 88), some (.int y1), some (.int y2), none, some (.int w9), some (.int y5)] [.int w15] (SH, jn X C) r (SH, y) := by
          refine mj_istore_n (pc := 95) (i := 3) d_Md_number_95 rfl rfl (by decide) ?_
          refine mj_iinc (pc := 96) (i := 5) (v := y5 + 1) d_Md_number_96 rfl (by rfl) rfl (by decide) ?_
          refine mj_goto (pc := 99) (tgt := 26) d_Md_number_99 (by decide) ?_
          exact mj_weak [some (.ref 88), some (.int y1), some (.int y2), some (.int w15), some (.int w9), some (.int (y5 + 1))] (And.intro rfl (And.intro rfl (And.intro rfl (And.intro rfl (And.intro rfl (And.intro rfl trivial)))))) (ih _ _ _ _ _ _ _ _ h hX)
        have h := hb17
        refine mj_if_eq (y := 0) (pc := 66) (tgt := 94) d_Md_number_66 (by decide) mj_hs (fun hc12 => ?_) (fun hc12 => ?_)
        · rw [if_pos hc12] at h
          refine mj_iload_n (pc := 94) (i := 3) d_Md_number_94 rfl rfl ?_
          obtain e_1 := inj1 h
          subst e_1
          exact mj_wk k16 (And.intro rfl (And.intro rfl (And.intro rfl (And.intro rfl (And.intro rfl trivial)))))
        · rw [if_neg hc12] at h
          refine mj_iload_n (pc := 69) (i := 3) d_Md_number_69 rfl rfl ?_
          refine mj_sipush (pc := 70) (v := 9999) d_Md_number_70 (by decide) ?_
          refine mj_icmp_gt (pc := 73) (tgt := 94) d_Md_number_73 (by decide) mj_hs (fun hc13 => ?_) (fun hc13 => ?_)
          · rw [if_pos hc13] at h
            refine mj_iload_n (pc := 94) (i := 3) d_Md_number_94 rfl rfl ?_
            obtain e_1 := inj1 h
            subst e_1
            exact mj_wk k16 (And.intro rfl (And.intro rfl (And.intro rfl (And.intro rfl (And.intro rfl trivial)))))
          · rw [if_neg hc13] at h
            refine mj_bipush (pc := 76) (v := 10) d_Md_number_76 (by decide) ?_
            refine mj_iload_n (pc := 78) (i := 3) d_Md_number_78 rfl rfl ?_
            refine mj_imul (pc := 79) d_Md_number_79 ?_
            refine mj_aload_n (pc := 80) (i := 0) d_Md_number_80 rfl rfl (by decide) ?_
            refine mj_getR (pc := 81) d_Md_number_81 fl_Md_20 sh_88 rfl rfl (by decide) (by decide) (by decide) ?_
            refine mj_iload (pc := 84) (i := 5) d_Md_number_84 rfl ?_
            obtain ⟨hg14, h⟩ := mj_gd h
            refine dj_iald (pc := 86) d_Md_number_86 sh_92 (by decide) hg14 (by decide) ?_
            refine mj_iadd (pc := 87) d_Md_number_87 ?_
            refine mj_bipush (pc := 88) (v := 48) d_Md_number_88 (by decide) ?_
            refine mj_isub (pc := 90) d_Md_number_90 ?_
            refine mj_goto (pc := 91) (tgt := 95) d_Md_number_91 (by decide) ?_
            obtain e_1 := inj1 h
            subst e_1
            exact mj_wk k16 (And.intro rfl (And.intro rfl (And.intro rfl (And.intro rfl (And.intro rfl trivial)))))
      have h := hb11
      refine mj_if_eq (y := 0) (pc := 37) (tgt := 61) d_Md_number_37 (by decide) mj_hs (fun hc4 => ?_) (fun hc4 => ?_)
      · rw [if_pos hc4] at h
        refine mj_iconst (pc := 61) (v := 0) d_Md_number_61 (by decide) ?_
        obtain e_1 := inj1 h
        subst e_1
        exact mj_wk k10 (And.intro rfl (And.intro rfl (And.intro rfl (And.intro rfl (And.intro rfl trivial)))))
      · rw [if_neg hc4] at h
        refine mj_aload_n (pc := 40) (i := 0) d_Md_number_40 rfl rfl (by decide) ?_
        refine mj_getR (pc := 41) d_Md_number_41 fl_Md_20 sh_88 rfl rfl (by decide) (by decide) (by decide) ?_
        refine mj_iload (pc := 44) (i := 5) d_Md_number_44 rfl ?_
        obtain ⟨hg5, h⟩ := mj_gd h
        refine dj_iald (pc := 46) d_Md_number_46 sh_92 (by decide) hg5 (by decide) ?_
        refine mj_bipush (pc := 47) (v := 48) d_Md_number_47 (by decide) ?_
        refine mj_bipush (pc := 49) (v := 57) d_Md_number_49 (by decide) ?_
        obtain ⟨v6, hb7, h⟩ := bd1_some h
        refine mj_callS (pc := 51) (vs := [.int (C 92 y5.toNatClampNeg), .int 48, .int 57]) (st := []) d_Md_number_51 bB_Md_number_Md_isIn lk_Md_53 st_Md_isIn rfl (Nat.le_of_ble_eq_true rfl) (Nat.le_of_ble_eq_true rfl) (r_Md_isIn hb7) ?_
        show mj_R M_Md_number 54 [some (.ref 88), some (.int y1), some (.int y2), some (.int y3), some (.int y4), some (.int y5)] [.int v6] (SH, jn X C) r (SH, y)
        refine mj_if_eq (y := 0) (pc := 54) (tgt := 61) d_Md_number_54 (by decide) mj_hs (fun hc8 => ?_) (fun hc8 => ?_)
        · rw [if_pos hc8] at h
          refine mj_iconst (pc := 61) (v := 0) d_Md_number_61 (by decide) ?_
          obtain e_1 := inj1 h
          subst e_1
          exact mj_wk k10 (And.intro rfl (And.intro rfl (And.intro rfl (And.intro rfl (And.intro rfl trivial)))))
        · rw [if_neg hc8] at h
          refine mj_iconst (pc := 57) (v := 1) d_Md_number_57 (by decide) ?_
          refine mj_goto (pc := 58) (tgt := 62) d_Md_number_58 (by decide) ?_
          obtain e_1 := inj1 h
          subst e_1
          exact mj_wk k10 (And.intro rfl (And.intro rfl (And.intro rfl (And.intro rfl (And.intro rfl trivial)))))
set_option maxRecDepth 20000 in
theorem r_Md_number {x1 : Int32} {x2 : Int32} {C C0 : St} {v : Int32} {C' : St} (h : f_Md_number x1 x2 C0 = some (v, C')) : mj_R M_Md_number 0 (mj_lv M_Md_number.2.2.1 [.ref 88, .int x1, .int x2]) [] (SH, jn C C0) (some (.int v)) (SH, jn C (C')) := by
  show mj_R M_Md_number 0 [some (.ref 88), some (.int x1), some (.int x2), none, none, none] [] _ _ _
  unfold f_Md_number at h
  refine mj_iconst (pc := 0) (v := 0) d_Md_number_0 (by decide) ?_
  refine mj_istore_n (pc := 1) (i := 3) d_Md_number_1 rfl rfl (by decide) ?_
  refine mj_aload_n (pc := 2) (i := 0) d_Md_number_2 rfl rfl (by decide) ?_
  refine dj_getI (pc := 3) d_Md_number_3 fl_Md_97 sh_88 rfl (by decide) (by decide) (by decide) ?_
  refine mj_aload_n (pc := 6) (i := 0) d_Md_number_6 rfl rfl (by decide) ?_
  refine dj_getI (pc := 7) d_Md_number_7 fl_Md_88 sh_88 rfl (by decide) (by decide) (by decide) ?_
  have k2 : mj_R M_Md_number 18 [some (.ref 88), some (.int x1), some (.int x2), some (.int 0), none, none] [.int (if (C0 88 15) ≤ (C0 88 14) then 0 else 1 : Int32)] (SH, jn C C0) (some (.int v)) (SH, jn C (C')) := by
    refine mj_istore (pc := 18) (i := 4) d_Md_number_18 rfl (by decide) ?_
    refine mj_aload_n (pc := 20) (i := 0) d_Md_number_20 rfl rfl (by decide) ?_
    refine dj_getI (pc := 21) d_Md_number_21 fl_Md_97 sh_88 rfl (by decide) (by decide) (by decide) ?_
    refine mj_istore (pc := 24) (i := 5) d_Md_number_24 rfl (by decide) ?_
    obtain ⟨o18, o19, hl20, h⟩ := bd2_some h
    refine mj_weak [some (.ref 88), some (.int x1), some (.int x2), some (.int 0), some (.int (if (C0 88 15) ≤ (C0 88 14) then 0 else 1 : Int32)), some (.int (C0 88 14))] (And.intro rfl (And.intro rfl (And.intro rfl (And.intro rfl (And.intro rfl (And.intro rfl trivial)))))) (l_Md_number_26 3000 _ _ _ _ _ _ _ _ hl20 ?_)
    refine mj_iload (pc := 102) (i := 4) d_Md_number_102 rfl ?_
    refine mj_if_eq (y := 0) (pc := 104) (tgt := 117) d_Md_number_104 (by decide) mj_hs (fun hc21 => ?_) (fun hc21 => ?_)
    · rw [if_pos hc21] at h
      refine mj_aload_n (pc := 117) (i := 0) d_Md_number_117 rfl rfl (by decide) ?_
      obtain ⟨C22, hb23, h⟩ := bd1_some h
      refine mj_callV (pc := 118) (b := 88) (vs := []) (st := []) d_Md_number_118 bB_Md_number_Md_fail lk_Md_103 iv_Md_fail rc_88 rfl (Nat.le_of_ble_eq_true rfl) (Nat.le_of_ble_eq_true rfl) (r_Md_fail hb23) ?_
      show mj_R M_Md_number 121 [some (.ref 88), some (.int x1), some (.int x2), some (.int o18), some (.int o19), none] [] (SH, jn C C22) (some (.int v)) (SH, jn C (C'))
      refine mj_iconst (pc := 121) (v := 0) d_Md_number_121 (by decide) ?_
      obtain ⟨e_1, e_2⟩ := inj2 h
      subst e_1
      subst e_2
      exact mj_iret (pc := 122) d_Md_number_122 rfl
    · rw [if_neg hc21] at h
      refine mj_iload_n (pc := 107) (i := 3) d_Md_number_107 rfl rfl ?_
      refine mj_iload_n (pc := 108) (i := 1) d_Md_number_108 rfl rfl ?_
      refine mj_icmp_lt (pc := 109) (tgt := 117) d_Md_number_109 (by decide) mj_hs (fun hc24 => ?_) (fun hc24 => ?_)
      · rw [if_pos hc24] at h
        refine mj_aload_n (pc := 117) (i := 0) d_Md_number_117 rfl rfl (by decide) ?_
        obtain ⟨C25, hb26, h⟩ := bd1_some h
        refine mj_callV (pc := 118) (b := 88) (vs := []) (st := []) d_Md_number_118 bB_Md_number_Md_fail lk_Md_103 iv_Md_fail rc_88 rfl (Nat.le_of_ble_eq_true rfl) (Nat.le_of_ble_eq_true rfl) (r_Md_fail hb26) ?_
        show mj_R M_Md_number 121 [some (.ref 88), some (.int x1), some (.int x2), some (.int o18), some (.int o19), none] [] (SH, jn C C25) (some (.int v)) (SH, jn C (C'))
        refine mj_iconst (pc := 121) (v := 0) d_Md_number_121 (by decide) ?_
        obtain ⟨e_1, e_2⟩ := inj2 h
        subst e_1
        subst e_2
        exact mj_iret (pc := 122) d_Md_number_122 rfl
      · rw [if_neg hc24] at h
        refine mj_iload_n (pc := 112) (i := 3) d_Md_number_112 rfl rfl ?_
        refine mj_iload_n (pc := 113) (i := 2) d_Md_number_113 rfl rfl ?_
        refine mj_icmp_le (pc := 114) (tgt := 123) d_Md_number_114 (by decide) mj_hs (fun hc27 => ?_) (fun hc27 => ?_)
        · rw [if_pos hc27] at h
          refine mj_aload_n (pc := 123) (i := 0) d_Md_number_123 rfl rfl (by decide) ?_
          obtain ⟨C28, hb29, h⟩ := bd1_some h
          refine mj_callV (pc := 124) (b := 88) (vs := []) (st := []) d_Md_number_124 bB_Md_number_Md_next lk_Md_106 iv_Md_next rc_88 rfl (Nat.le_of_ble_eq_true rfl) (Nat.le_of_ble_eq_true rfl) (r_Md_next hb29) ?_
          show mj_R M_Md_number 127 [some (.ref 88), some (.int x1), some (.int x2), some (.int o18), some (.int o19), none] [] (SH, jn C C28) (some (.int v)) (SH, jn C (C'))
          refine mj_iload_n (pc := 127) (i := 3) d_Md_number_127 rfl rfl ?_
          obtain ⟨e_1, e_2⟩ := inj2 h
          subst e_1
          subst e_2
          exact mj_iret (pc := 128) d_Md_number_128 rfl
        · rw [if_neg hc27] at h
          refine mj_aload_n (pc := 117) (i := 0) d_Md_number_117 rfl rfl (by decide) ?_
          obtain ⟨C30, hb31, h⟩ := bd1_some h
          refine mj_callV (pc := 118) (b := 88) (vs := []) (st := []) d_Md_number_118 bB_Md_number_Md_fail lk_Md_103 iv_Md_fail rc_88 rfl (Nat.le_of_ble_eq_true rfl) (Nat.le_of_ble_eq_true rfl) (r_Md_fail hb31) ?_
          show mj_R M_Md_number 121 [some (.ref 88), some (.int x1), some (.int x2), some (.int o18), some (.int o19), none] [] (SH, jn C C30) (some (.int v)) (SH, jn C (C'))
          refine mj_iconst (pc := 121) (v := 0) d_Md_number_121 (by decide) ?_
          obtain ⟨e_1, e_2⟩ := inj2 h
          subst e_1
          subst e_2
          exact mj_iret (pc := 122) d_Md_number_122 rfl
  refine mj_icmp_ge (pc := 10) (tgt := 17) d_Md_number_10 (by decide) mj_hs (fun hc1 => ?_) (fun hc1 => ?_)
  · refine mj_iconst (pc := 17) (v := 0) d_Md_number_17 (by decide) ?_
    try simp only [if_pos hc1] at k2
    exact mj_wk k2 (And.intro rfl (And.intro rfl (And.intro rfl (And.intro rfl trivial))))
  · refine mj_iconst (pc := 13) (v := 1) d_Md_number_13 (by decide) ?_
    refine mj_goto (pc := 14) (tgt := 18) d_Md_number_14 (by decide) ?_
    try simp only [if_neg hc1] at k2
    exact mj_wk k2 (And.intro rfl (And.intro rfl (And.intro rfl (And.intro rfl trivial))))
set_option maxRecDepth 20000 in
theorem r_Md_readCond  {C C0 : St} {C' : St} (h : f_Md_readCond C0 = some (C')) : mj_R M_Md_readCond 0 (mj_lv M_Md_readCond.2.2.1 [.ref 88]) [] (SH, jn C C0) none (SH, jn C (C')) := by
  show mj_R M_Md_readCond 0 [some (.ref 88), none, none] [] _ _ _
  unfold f_Md_readCond at h
  refine mj_aload_n (pc := 0) (i := 0) d_Md_readCond_0 rfl rfl (by decide) ?_
  refine mj_bipush (pc := 1) (v := 104) d_Md_readCond_1 (by decide) ?_
  refine mj_bipush (pc := 3) (v := 97) d_Md_readCond_3 (by decide) ?_
  refine mj_bipush (pc := 5) (v := 118) d_Md_readCond_5 (by decide) ?_
  refine mj_bipush (pc := 7) (v := 101) d_Md_readCond_7 (by decide) ?_
  refine mj_iconst (pc := 9) (v := 0) d_Md_readCond_9 (by decide) ?_
  obtain ⟨v1, hb2, h⟩ := bd1_some h
  refine mj_callV (pc := 10) (b := 88) (vs := [.int 104, .int 97, .int 118, .int 101, .int 0]) (st := []) d_Md_readCond_10 bB_Md_readCond_Md_reads lk_Md_109 iv_Md_reads rc_88 rfl (Nat.le_of_ble_eq_true rfl) (Nat.le_of_ble_eq_true rfl) (r_Md_reads hb2) ?_
  show mj_R M_Md_readCond 13 [some (.ref 88), none, none] [.int v1] (SH, jn C C0) none (SH, jn C (C'))
  refine mj_istore_n (pc := 13) (i := 1) d_Md_readCond_13 rfl rfl (by decide) ?_
  refine mj_aload_n (pc := 14) (i := 0) d_Md_readCond_14 rfl rfl (by decide) ?_
  refine mj_bipush (pc := 15) (v := 112) d_Md_readCond_15 (by decide) ?_
  refine mj_bipush (pc := 17) (v := 114) d_Md_readCond_17 (by decide) ?_
  refine mj_bipush (pc := 19) (v := 105) d_Md_readCond_19 (by decide) ?_
  refine mj_bipush (pc := 21) (v := 99) d_Md_readCond_21 (by decide) ?_
  refine mj_bipush (pc := 23) (v := 101) d_Md_readCond_23 (by decide) ?_
  obtain ⟨v3, hb4, h⟩ := bd1_some h
  refine mj_callV (pc := 25) (b := 88) (vs := [.int 112, .int 114, .int 105, .int 99, .int 101]) (st := []) d_Md_readCond_25 bB_Md_readCond_Md_reads lk_Md_109 iv_Md_reads rc_88 rfl (Nat.le_of_ble_eq_true rfl) (Nat.le_of_ble_eq_true rfl) (r_Md_reads hb4) ?_
  show mj_R M_Md_readCond 28 [some (.ref 88), some (.int v1), none] [.int v3] (SH, jn C C0) none (SH, jn C (C'))
  refine mj_istore_n (pc := 28) (i := 2) d_Md_readCond_28 rfl rfl (by decide) ?_
  refine mj_aload_n (pc := 29) (i := 0) d_Md_readCond_29 rfl rfl (by decide) ?_
  refine mj_getR (pc := 30) d_Md_readCond_30 fl_Md_41 sh_88 rfl rfl (by decide) (by decide) (by decide) ?_
  refine mj_iconst (pc := 33) (v := 5) d_Md_readCond_33 (by decide) ?_
  refine mj_aload_n (pc := 34) (i := 0) d_Md_readCond_34 rfl rfl (by decide) ?_
  refine mj_bipush (pc := 35) (v := 99) d_Md_readCond_35 (by decide) ?_
  refine mj_bipush (pc := 37) (v := 97) d_Md_readCond_37 (by decide) ?_
  refine mj_bipush (pc := 39) (v := 115) d_Md_readCond_39 (by decide) ?_
  refine mj_bipush (pc := 41) (v := 104) d_Md_readCond_41 (by decide) ?_
  refine mj_iconst (pc := 43) (v := 0) d_Md_readCond_43 (by decide) ?_
  obtain ⟨v5, hb6, h⟩ := bd1_some h
  refine mj_callV (pc := 44) (b := 88) (vs := [.int 99, .int 97, .int 115, .int 104, .int 0]) (st := [.int 5, .ref 99]) d_Md_readCond_44 bB_Md_readCond_Md_reads lk_Md_109 iv_Md_reads rc_88 rfl (Nat.le_of_ble_eq_true rfl) (Nat.le_of_ble_eq_true rfl) (r_Md_reads hb6) ?_
  show mj_R M_Md_readCond 47 [some (.ref 88), some (.int v1), some (.int v3)] [.int v5, .int 5, .ref 99] (SH, jn C C0) none (SH, jn C (C'))
  obtain ⟨w13, hb15, h⟩ := bd1_some h
  have k14 : mj_R M_Md_readCond 90 [some (.ref 88), some (.int v1), some (.int v3)] [.int w13, .int 5, .ref 99] (SH, jn C C0) none (SH, jn C (C')) := by
    refine dj_iast (pc := 90) d_Md_readCond_90 sh_99 (by decide) (by decide) (by decide) ?_
    show mj_R M_Md_readCond 91 [some (.ref 88), some (.int v1), some (.int v3)] [] (SH, jn C (mj_wr C0 99 5 w13)) none (SH, jn C (C'))
    refine mj_aload_n (pc := 91) (i := 0) d_Md_readCond_91 rfl rfl (by decide) ?_
    refine mj_getR (pc := 92) d_Md_readCond_92 fl_Md_41 sh_88 rfl rfl (by decide) (by decide) (by decide) ?_
    refine mj_iconst (pc := 95) (v := 5) d_Md_readCond_95 (by decide) ?_
    refine dj_iald (pc := 96) d_Md_readCond_96 sh_99 (by decide) (by decide) (by decide) ?_
    show mj_R M_Md_readCond 97 [some (.ref 88), some (.int v1), some (.int v3)] [.int (mj_wr C0 99 5 w13 99 5)] (SH, jn C (mj_wr C0 99 5 w13)) none (SH, jn C (C'))
    refine mj_if_ge (y := 0) (pc := 97) (tgt := 105) d_Md_readCond_97 (by decide) mj_hs (fun hc17 => ?_) (fun hc17 => ?_)
    · rw [if_pos hc17] at h
      refine mj_aload_n (pc := 105) (i := 0) d_Md_readCond_105 rfl rfl (by decide) ?_
      obtain ⟨C18, hb19, h⟩ := bd1_some h
      refine mj_callV (pc := 106) (b := 88) (vs := []) (st := []) d_Md_readCond_106 bB_Md_readCond_Md_next lk_Md_106 iv_Md_next rc_88 rfl (Nat.le_of_ble_eq_true rfl) (Nat.le_of_ble_eq_true rfl) (r_Md_next hb19) ?_
      show mj_R M_Md_readCond 109 [some (.ref 88), some (.int v1), some (.int v3)] [] (SH, jn C C18) none (SH, jn C (C'))
      refine mj_iload_n (pc := 109) (i := 1) d_Md_readCond_109 rfl rfl ?_
      refine mj_if_ne (y := 0) (pc := 110) (tgt := 117) d_Md_readCond_110 (by decide) mj_hs (fun hc20 => ?_) (fun hc20 => ?_)
      · rw [if_neg hc20] at h
        refine mj_aload_n (pc := 117) (i := 0) d_Md_readCond_117 rfl rfl (by decide) ?_
        refine mj_getR (pc := 118) d_Md_readCond_118 fl_Md_41 sh_88 rfl rfl (by decide) (by decide) (by decide) ?_
        refine mj_bipush (pc := 121) (v := 6) d_Md_readCond_121 (by decide) ?_
        refine mj_aload_n (pc := 123) (i := 0) d_Md_readCond_123 rfl rfl (by decide) ?_
        refine mj_iconst (pc := 124) (v := 0) d_Md_readCond_124 (by decide) ?_
        refine mj_iconst (pc := 125) (v := 4) d_Md_readCond_125 (by decide) ?_
        obtain ⟨v21, C22, hb23, h⟩ := bd2_some h
        refine mj_callV (pc := 126) (b := 88) (vs := [.int 0, .int 4]) (st := [.int 6, .ref 99]) d_Md_readCond_126 bB_Md_readCond_Md_number lk_Md_113 iv_Md_number rc_88 rfl (Nat.le_of_ble_eq_true rfl) (Nat.le_of_ble_eq_true rfl) (r_Md_number hb23) ?_
        show mj_R M_Md_readCond 129 [some (.ref 88), some (.int v1), some (.int v3)] [.int v21, .int 6, .ref 99] (SH, jn C C22) none (SH, jn C (C'))
        refine dj_iast (pc := 129) d_Md_readCond_129 sh_99 (by decide) (by decide) (by decide) ?_
        show mj_R M_Md_readCond 130 [some (.ref 88), some (.int v1), some (.int v3)] [] (SH, jn C (mj_wr C22 99 6 v21)) none (SH, jn C (C'))
        refine mj_aload_n (pc := 130) (i := 0) d_Md_readCond_130 rfl rfl (by decide) ?_
        refine dj_getI (pc := 131) d_Md_readCond_131 fl_Md_100 sh_88 rfl (by decide) (by decide) (by decide) ?_
        refine mj_if_lt (y := 0) (pc := 134) (tgt := 138) d_Md_readCond_134 (by decide) mj_hs (fun hc24 => ?_) (fun hc24 => ?_)
        · rw [if_pos hc24] at h
          refine mj_aload_n (pc := 138) (i := 0) d_Md_readCond_138 rfl rfl (by decide) ?_
          refine mj_bipush (pc := 139) (v := 62) d_Md_readCond_139 (by decide) ?_
          refine mj_iconst (pc := 141) (v := 0) d_Md_readCond_141 (by decide) ?_
          refine mj_iconst (pc := 142) (v := 0) d_Md_readCond_142 (by decide) ?_
          refine mj_iconst (pc := 143) (v := 0) d_Md_readCond_143 (by decide) ?_
          refine mj_iconst (pc := 144) (v := 0) d_Md_readCond_144 (by decide) ?_
          obtain ⟨v25, hb26, h⟩ := bd1_some h
          refine mj_callV (pc := 145) (b := 88) (vs := [.int 62, .int 0, .int 0, .int 0, .int 0]) (st := []) d_Md_readCond_145 bB_Md_readCond_Md_reads lk_Md_109 iv_Md_reads rc_88 rfl (Nat.le_of_ble_eq_true rfl) (Nat.le_of_ble_eq_true rfl) (r_Md_reads hb26) ?_
          show mj_R M_Md_readCond 148 [some (.ref 88), some (.int v1), some (.int v3)] [.int v25] (SH, jn C (mj_wr C22 99 6 v21)) none (SH, jn C (C'))
          obtain ⟨C38, hb40, h⟩ := bd1_some h
          have k39 : mj_R M_Md_readCond 192 [some (.ref 88), none, none] [] (SH, jn C C38) none (SH, jn C (C')) := by
            refine mj_aload_n (pc := 192) (i := 0) d_Md_readCond_192 rfl rfl (by decide) ?_
            refine dj_getI (pc := 193) d_Md_readCond_193 fl_Md_100 sh_88 rfl (by decide) (by decide) (by decide) ?_
            obtain ⟨C45, hb47, h⟩ := bd1_some h
            have k46 : mj_R M_Md_readCond 214 [none, none, none] [] (SH, jn C C45) none (SH, jn C (C')) := by
              obtain e_1 := inj1 h
              subst e_1
              exact mj_vret (pc := 214) d_Md_readCond_214 rfl
            have h := hb47
            refine mj_if_ge (y := 0) (pc := 196) (tgt := 214) d_Md_readCond_196 (by decide) mj_hs (fun hc41 => ?_) (fun hc41 => ?_)
            · rw [if_pos hc41] at h
              obtain e_1 := inj1 h
              subst e_1
              exact mj_wk k46 trivial
            · rw [if_neg hc41] at h
              refine mj_aload_n (pc := 199) (i := 0) d_Md_readCond_199 rfl rfl (by decide) ?_
              refine mj_getR (pc := 200) d_Md_readCond_200 fl_Md_41 sh_88 rfl rfl (by decide) (by decide) (by decide) ?_
              refine mj_bipush (pc := 203) (v := 7) d_Md_readCond_203 (by decide) ?_
              refine mj_aload_n (pc := 205) (i := 0) d_Md_readCond_205 rfl rfl (by decide) ?_
              refine mj_iconst (pc := 206) (v := 0) d_Md_readCond_206 (by decide) ?_
              refine mj_sipush (pc := 207) (v := 9999) d_Md_readCond_207 (by decide) ?_
              obtain ⟨v42, C43, hb44, h⟩ := bd2_some h
              refine mj_callV (pc := 210) (b := 88) (vs := [.int 0, .int 9999]) (st := [.int 7, .ref 99]) d_Md_readCond_210 bB_Md_readCond_Md_number lk_Md_113 iv_Md_number rc_88 rfl (Nat.le_of_ble_eq_true rfl) (Nat.le_of_ble_eq_true rfl) (r_Md_number hb44) ?_
              show mj_R M_Md_readCond 213 [some (.ref 88), none, none] [.int v42, .int 7, .ref 99] (SH, jn C C43) none (SH, jn C (C'))
              refine dj_iast (pc := 213) d_Md_readCond_213 sh_99 (by decide) (by decide) (by decide) ?_
              show mj_R M_Md_readCond 214 [some (.ref 88), none, none] [] (SH, jn C (mj_wr C43 99 7 v42)) none (SH, jn C (C'))
              obtain e_1 := inj1 h
              subst e_1
              exact mj_wk k46 trivial
          have h := hb40
          refine mj_if_eq (y := 0) (pc := 148) (tgt := 168) d_Md_readCond_148 (by decide) mj_hs (fun hc27 => ?_) (fun hc27 => ?_)
          · rw [if_pos hc27] at h
            refine mj_aload_n (pc := 168) (i := 0) d_Md_readCond_168 rfl rfl (by decide) ?_
            refine mj_bipush (pc := 169) (v := 60) d_Md_readCond_169 (by decide) ?_
            refine mj_iconst (pc := 171) (v := 0) d_Md_readCond_171 (by decide) ?_
            refine mj_iconst (pc := 172) (v := 0) d_Md_readCond_172 (by decide) ?_
            refine mj_iconst (pc := 173) (v := 0) d_Md_readCond_173 (by decide) ?_
            refine mj_iconst (pc := 174) (v := 0) d_Md_readCond_174 (by decide) ?_
            obtain ⟨v28, hb29, h⟩ := bd1_some h
            refine mj_callV (pc := 175) (b := 88) (vs := [.int 60, .int 0, .int 0, .int 0, .int 0]) (st := []) d_Md_readCond_175 bB_Md_readCond_Md_reads lk_Md_109 iv_Md_reads rc_88 rfl (Nat.le_of_ble_eq_true rfl) (Nat.le_of_ble_eq_true rfl) (r_Md_reads hb29) ?_
            show mj_R M_Md_readCond 178 [some (.ref 88), some (.int v1), some (.int v3)] [.int v28] (SH, jn C (mj_wr C22 99 6 v21)) none (SH, jn C (C'))
            refine mj_if_eq (y := 0) (pc := 178) (tgt := 188) d_Md_readCond_178 (by decide) mj_hs (fun hc30 => ?_) (fun hc30 => ?_)
            · rw [if_pos hc30] at h
              refine mj_aload_n (pc := 188) (i := 0) d_Md_readCond_188 rfl rfl (by decide) ?_
              obtain ⟨C31, hb32, h⟩ := bd1_some h
              refine mj_callV (pc := 189) (b := 88) (vs := []) (st := []) d_Md_readCond_189 bB_Md_readCond_Md_fail lk_Md_103 iv_Md_fail rc_88 rfl (Nat.le_of_ble_eq_true rfl) (Nat.le_of_ble_eq_true rfl) (r_Md_fail hb32) ?_
              show mj_R M_Md_readCond 192 [some (.ref 88), some (.int v1), some (.int v3)] [] (SH, jn C C31) none (SH, jn C (C'))
              obtain e_1 := inj1 h
              subst e_1
              exact mj_wk k39 (And.intro rfl trivial)
            · rw [if_neg hc30] at h
              refine mj_aload_n (pc := 181) (i := 0) d_Md_readCond_181 rfl rfl (by decide) ?_
              obtain ⟨C33, hb34, h⟩ := bd1_some h
              refine mj_callV (pc := 182) (b := 88) (vs := []) (st := []) d_Md_readCond_182 bB_Md_readCond_Md_next lk_Md_106 iv_Md_next rc_88 rfl (Nat.le_of_ble_eq_true rfl) (Nat.le_of_ble_eq_true rfl) (r_Md_next hb34) ?_
              show mj_R M_Md_readCond 185 [some (.ref 88), some (.int v1), some (.int v3)] [] (SH, jn C C33) none (SH, jn C (C'))
              refine mj_goto (pc := 185) (tgt := 192) d_Md_readCond_185 (by decide) ?_
              obtain e_1 := inj1 h
              subst e_1
              exact mj_wk k39 (And.intro rfl trivial)
          · rw [if_neg hc27] at h
            refine mj_aload_n (pc := 151) (i := 0) d_Md_readCond_151 rfl rfl (by decide) ?_
            refine mj_getR (pc := 152) d_Md_readCond_152 fl_Md_41 sh_88 rfl rfl (by decide) (by decide) (by decide) ?_
            refine mj_iconst (pc := 155) (v := 5) d_Md_readCond_155 (by decide) ?_
            refine mj_dup2 (pc := 156) d_Md_readCond_156 rfl rfl ?_
            refine dj_iald (pc := 157) d_Md_readCond_157 sh_99 (by decide) (by decide) (by decide) ?_
            show mj_R M_Md_readCond 158 [some (.ref 88), some (.int v1), some (.int v3)] [.int (mj_wr C22 99 6 v21 99 5), .int 5, .ref 99] (SH, jn C (mj_wr C22 99 6 v21)) none (SH, jn C (C'))
            refine mj_iconst (pc := 158) (v := 4) d_Md_readCond_158 (by decide) ?_
            refine mj_iadd (pc := 159) d_Md_readCond_159 ?_
            refine dj_iast (pc := 160) d_Md_readCond_160 sh_99 (by decide) (by decide) (by decide) ?_
            show mj_R M_Md_readCond 161 [some (.ref 88), some (.int v1), some (.int v3)] [] (SH, jn C (mj_wr (mj_wr C22 99 6 v21) 99 5 ((mj_wr C22 99 6 v21 99 5) + 4))) none (SH, jn C (C'))
            refine mj_aload_n (pc := 161) (i := 0) d_Md_readCond_161 rfl rfl (by decide) ?_
            obtain ⟨C36, hb37, h⟩ := bd1_some h
            refine mj_callV (pc := 162) (b := 88) (vs := []) (st := []) d_Md_readCond_162 bB_Md_readCond_Md_next lk_Md_106 iv_Md_next rc_88 rfl (Nat.le_of_ble_eq_true rfl) (Nat.le_of_ble_eq_true rfl) (r_Md_next hb37) ?_
            show mj_R M_Md_readCond 165 [some (.ref 88), some (.int v1), some (.int v3)] [] (SH, jn C C36) none (SH, jn C (C'))
            refine mj_goto (pc := 165) (tgt := 192) d_Md_readCond_165 (by decide) ?_
            obtain e_1 := inj1 h
            subst e_1
            exact mj_wk k39 (And.intro rfl trivial)
        · rw [if_neg hc24] at h
          obtain e_1 := inj1 h
          subst e_1
          exact mj_vret (pc := 137) d_Md_readCond_137 rfl
      · rw [if_pos hc20] at h
        refine mj_iload_n (pc := 113) (i := 2) d_Md_readCond_113 rfl rfl ?_
        refine mj_if_eq (y := 0) (pc := 114) (tgt := 138) d_Md_readCond_114 (by decide) mj_hs (fun hc48 => ?_) (fun hc48 => ?_)
        · rw [if_pos hc48] at h
          refine mj_aload_n (pc := 138) (i := 0) d_Md_readCond_138 rfl rfl (by decide) ?_
          refine mj_bipush (pc := 139) (v := 62) d_Md_readCond_139 (by decide) ?_
          refine mj_iconst (pc := 141) (v := 0) d_Md_readCond_141 (by decide) ?_
          refine mj_iconst (pc := 142) (v := 0) d_Md_readCond_142 (by decide) ?_
          refine mj_iconst (pc := 143) (v := 0) d_Md_readCond_143 (by decide) ?_
          refine mj_iconst (pc := 144) (v := 0) d_Md_readCond_144 (by decide) ?_
          obtain ⟨v49, hb50, h⟩ := bd1_some h
          refine mj_callV (pc := 145) (b := 88) (vs := [.int 62, .int 0, .int 0, .int 0, .int 0]) (st := []) d_Md_readCond_145 bB_Md_readCond_Md_reads lk_Md_109 iv_Md_reads rc_88 rfl (Nat.le_of_ble_eq_true rfl) (Nat.le_of_ble_eq_true rfl) (r_Md_reads hb50) ?_
          show mj_R M_Md_readCond 148 [some (.ref 88), some (.int v1), some (.int v3)] [.int v49] (SH, jn C C18) none (SH, jn C (C'))
          obtain ⟨C62, hb64, h⟩ := bd1_some h
          have k63 : mj_R M_Md_readCond 192 [some (.ref 88), none, none] [] (SH, jn C C62) none (SH, jn C (C')) := by
            refine mj_aload_n (pc := 192) (i := 0) d_Md_readCond_192 rfl rfl (by decide) ?_
            refine dj_getI (pc := 193) d_Md_readCond_193 fl_Md_100 sh_88 rfl (by decide) (by decide) (by decide) ?_
            obtain ⟨C69, hb71, h⟩ := bd1_some h
            have k70 : mj_R M_Md_readCond 214 [none, none, none] [] (SH, jn C C69) none (SH, jn C (C')) := by
              obtain e_1 := inj1 h
              subst e_1
              exact mj_vret (pc := 214) d_Md_readCond_214 rfl
            have h := hb71
            refine mj_if_ge (y := 0) (pc := 196) (tgt := 214) d_Md_readCond_196 (by decide) mj_hs (fun hc65 => ?_) (fun hc65 => ?_)
            · rw [if_pos hc65] at h
              obtain e_1 := inj1 h
              subst e_1
              exact mj_wk k70 trivial
            · rw [if_neg hc65] at h
              refine mj_aload_n (pc := 199) (i := 0) d_Md_readCond_199 rfl rfl (by decide) ?_
              refine mj_getR (pc := 200) d_Md_readCond_200 fl_Md_41 sh_88 rfl rfl (by decide) (by decide) (by decide) ?_
              refine mj_bipush (pc := 203) (v := 7) d_Md_readCond_203 (by decide) ?_
              refine mj_aload_n (pc := 205) (i := 0) d_Md_readCond_205 rfl rfl (by decide) ?_
              refine mj_iconst (pc := 206) (v := 0) d_Md_readCond_206 (by decide) ?_
              refine mj_sipush (pc := 207) (v := 9999) d_Md_readCond_207 (by decide) ?_
              obtain ⟨v66, C67, hb68, h⟩ := bd2_some h
              refine mj_callV (pc := 210) (b := 88) (vs := [.int 0, .int 9999]) (st := [.int 7, .ref 99]) d_Md_readCond_210 bB_Md_readCond_Md_number lk_Md_113 iv_Md_number rc_88 rfl (Nat.le_of_ble_eq_true rfl) (Nat.le_of_ble_eq_true rfl) (r_Md_number hb68) ?_
              show mj_R M_Md_readCond 213 [some (.ref 88), none, none] [.int v66, .int 7, .ref 99] (SH, jn C C67) none (SH, jn C (C'))
              refine dj_iast (pc := 213) d_Md_readCond_213 sh_99 (by decide) (by decide) (by decide) ?_
              show mj_R M_Md_readCond 214 [some (.ref 88), none, none] [] (SH, jn C (mj_wr C67 99 7 v66)) none (SH, jn C (C'))
              obtain e_1 := inj1 h
              subst e_1
              exact mj_wk k70 trivial
          have h := hb64
          refine mj_if_eq (y := 0) (pc := 148) (tgt := 168) d_Md_readCond_148 (by decide) mj_hs (fun hc51 => ?_) (fun hc51 => ?_)
          · rw [if_pos hc51] at h
            refine mj_aload_n (pc := 168) (i := 0) d_Md_readCond_168 rfl rfl (by decide) ?_
            refine mj_bipush (pc := 169) (v := 60) d_Md_readCond_169 (by decide) ?_
            refine mj_iconst (pc := 171) (v := 0) d_Md_readCond_171 (by decide) ?_
            refine mj_iconst (pc := 172) (v := 0) d_Md_readCond_172 (by decide) ?_
            refine mj_iconst (pc := 173) (v := 0) d_Md_readCond_173 (by decide) ?_
            refine mj_iconst (pc := 174) (v := 0) d_Md_readCond_174 (by decide) ?_
            obtain ⟨v52, hb53, h⟩ := bd1_some h
            refine mj_callV (pc := 175) (b := 88) (vs := [.int 60, .int 0, .int 0, .int 0, .int 0]) (st := []) d_Md_readCond_175 bB_Md_readCond_Md_reads lk_Md_109 iv_Md_reads rc_88 rfl (Nat.le_of_ble_eq_true rfl) (Nat.le_of_ble_eq_true rfl) (r_Md_reads hb53) ?_
            show mj_R M_Md_readCond 178 [some (.ref 88), some (.int v1), some (.int v3)] [.int v52] (SH, jn C C18) none (SH, jn C (C'))
            refine mj_if_eq (y := 0) (pc := 178) (tgt := 188) d_Md_readCond_178 (by decide) mj_hs (fun hc54 => ?_) (fun hc54 => ?_)
            · rw [if_pos hc54] at h
              refine mj_aload_n (pc := 188) (i := 0) d_Md_readCond_188 rfl rfl (by decide) ?_
              obtain ⟨C55, hb56, h⟩ := bd1_some h
              refine mj_callV (pc := 189) (b := 88) (vs := []) (st := []) d_Md_readCond_189 bB_Md_readCond_Md_fail lk_Md_103 iv_Md_fail rc_88 rfl (Nat.le_of_ble_eq_true rfl) (Nat.le_of_ble_eq_true rfl) (r_Md_fail hb56) ?_
              show mj_R M_Md_readCond 192 [some (.ref 88), some (.int v1), some (.int v3)] [] (SH, jn C C55) none (SH, jn C (C'))
              obtain e_1 := inj1 h
              subst e_1
              exact mj_wk k63 (And.intro rfl trivial)
            · rw [if_neg hc54] at h
              refine mj_aload_n (pc := 181) (i := 0) d_Md_readCond_181 rfl rfl (by decide) ?_
              obtain ⟨C57, hb58, h⟩ := bd1_some h
              refine mj_callV (pc := 182) (b := 88) (vs := []) (st := []) d_Md_readCond_182 bB_Md_readCond_Md_next lk_Md_106 iv_Md_next rc_88 rfl (Nat.le_of_ble_eq_true rfl) (Nat.le_of_ble_eq_true rfl) (r_Md_next hb58) ?_
              show mj_R M_Md_readCond 185 [some (.ref 88), some (.int v1), some (.int v3)] [] (SH, jn C C57) none (SH, jn C (C'))
              refine mj_goto (pc := 185) (tgt := 192) d_Md_readCond_185 (by decide) ?_
              obtain e_1 := inj1 h
              subst e_1
              exact mj_wk k63 (And.intro rfl trivial)
          · rw [if_neg hc51] at h
            refine mj_aload_n (pc := 151) (i := 0) d_Md_readCond_151 rfl rfl (by decide) ?_
            refine mj_getR (pc := 152) d_Md_readCond_152 fl_Md_41 sh_88 rfl rfl (by decide) (by decide) (by decide) ?_
            refine mj_iconst (pc := 155) (v := 5) d_Md_readCond_155 (by decide) ?_
            refine mj_dup2 (pc := 156) d_Md_readCond_156 rfl rfl ?_
            refine dj_iald (pc := 157) d_Md_readCond_157 sh_99 (by decide) (by decide) (by decide) ?_
            show mj_R M_Md_readCond 158 [some (.ref 88), some (.int v1), some (.int v3)] [.int (C18 99 5), .int 5, .ref 99] (SH, jn C C18) none (SH, jn C (C'))
            refine mj_iconst (pc := 158) (v := 4) d_Md_readCond_158 (by decide) ?_
            refine mj_iadd (pc := 159) d_Md_readCond_159 ?_
            refine dj_iast (pc := 160) d_Md_readCond_160 sh_99 (by decide) (by decide) (by decide) ?_
            show mj_R M_Md_readCond 161 [some (.ref 88), some (.int v1), some (.int v3)] [] (SH, jn C (mj_wr C18 99 5 ((C18 99 5) + 4))) none (SH, jn C (C'))
            refine mj_aload_n (pc := 161) (i := 0) d_Md_readCond_161 rfl rfl (by decide) ?_
            obtain ⟨C60, hb61, h⟩ := bd1_some h
            refine mj_callV (pc := 162) (b := 88) (vs := []) (st := []) d_Md_readCond_162 bB_Md_readCond_Md_next lk_Md_106 iv_Md_next rc_88 rfl (Nat.le_of_ble_eq_true rfl) (Nat.le_of_ble_eq_true rfl) (r_Md_next hb61) ?_
            show mj_R M_Md_readCond 165 [some (.ref 88), some (.int v1), some (.int v3)] [] (SH, jn C C60) none (SH, jn C (C'))
            refine mj_goto (pc := 165) (tgt := 192) d_Md_readCond_165 (by decide) ?_
            obtain e_1 := inj1 h
            subst e_1
            exact mj_wk k63 (And.intro rfl trivial)
        · rw [if_neg hc48] at h
          refine mj_aload_n (pc := 117) (i := 0) d_Md_readCond_117 rfl rfl (by decide) ?_
          refine mj_getR (pc := 118) d_Md_readCond_118 fl_Md_41 sh_88 rfl rfl (by decide) (by decide) (by decide) ?_
          refine mj_bipush (pc := 121) (v := 6) d_Md_readCond_121 (by decide) ?_
          refine mj_aload_n (pc := 123) (i := 0) d_Md_readCond_123 rfl rfl (by decide) ?_
          refine mj_iconst (pc := 124) (v := 0) d_Md_readCond_124 (by decide) ?_
          refine mj_iconst (pc := 125) (v := 4) d_Md_readCond_125 (by decide) ?_
          obtain ⟨v72, C73, hb74, h⟩ := bd2_some h
          refine mj_callV (pc := 126) (b := 88) (vs := [.int 0, .int 4]) (st := [.int 6, .ref 99]) d_Md_readCond_126 bB_Md_readCond_Md_number lk_Md_113 iv_Md_number rc_88 rfl (Nat.le_of_ble_eq_true rfl) (Nat.le_of_ble_eq_true rfl) (r_Md_number hb74) ?_
          show mj_R M_Md_readCond 129 [some (.ref 88), some (.int v1), some (.int v3)] [.int v72, .int 6, .ref 99] (SH, jn C C73) none (SH, jn C (C'))
          refine dj_iast (pc := 129) d_Md_readCond_129 sh_99 (by decide) (by decide) (by decide) ?_
          show mj_R M_Md_readCond 130 [some (.ref 88), some (.int v1), some (.int v3)] [] (SH, jn C (mj_wr C73 99 6 v72)) none (SH, jn C (C'))
          refine mj_aload_n (pc := 130) (i := 0) d_Md_readCond_130 rfl rfl (by decide) ?_
          refine dj_getI (pc := 131) d_Md_readCond_131 fl_Md_100 sh_88 rfl (by decide) (by decide) (by decide) ?_
          refine mj_if_lt (y := 0) (pc := 134) (tgt := 138) d_Md_readCond_134 (by decide) mj_hs (fun hc75 => ?_) (fun hc75 => ?_)
          · rw [if_pos hc75] at h
            refine mj_aload_n (pc := 138) (i := 0) d_Md_readCond_138 rfl rfl (by decide) ?_
            refine mj_bipush (pc := 139) (v := 62) d_Md_readCond_139 (by decide) ?_
            refine mj_iconst (pc := 141) (v := 0) d_Md_readCond_141 (by decide) ?_
            refine mj_iconst (pc := 142) (v := 0) d_Md_readCond_142 (by decide) ?_
            refine mj_iconst (pc := 143) (v := 0) d_Md_readCond_143 (by decide) ?_
            refine mj_iconst (pc := 144) (v := 0) d_Md_readCond_144 (by decide) ?_
            obtain ⟨v76, hb77, h⟩ := bd1_some h
            refine mj_callV (pc := 145) (b := 88) (vs := [.int 62, .int 0, .int 0, .int 0, .int 0]) (st := []) d_Md_readCond_145 bB_Md_readCond_Md_reads lk_Md_109 iv_Md_reads rc_88 rfl (Nat.le_of_ble_eq_true rfl) (Nat.le_of_ble_eq_true rfl) (r_Md_reads hb77) ?_
            show mj_R M_Md_readCond 148 [some (.ref 88), some (.int v1), some (.int v3)] [.int v76] (SH, jn C (mj_wr C73 99 6 v72)) none (SH, jn C (C'))
            obtain ⟨C89, hb91, h⟩ := bd1_some h
            have k90 : mj_R M_Md_readCond 192 [some (.ref 88), none, none] [] (SH, jn C C89) none (SH, jn C (C')) := by
              refine mj_aload_n (pc := 192) (i := 0) d_Md_readCond_192 rfl rfl (by decide) ?_
              refine dj_getI (pc := 193) d_Md_readCond_193 fl_Md_100 sh_88 rfl (by decide) (by decide) (by decide) ?_
              obtain ⟨C96, hb98, h⟩ := bd1_some h
              have k97 : mj_R M_Md_readCond 214 [none, none, none] [] (SH, jn C C96) none (SH, jn C (C')) := by
                obtain e_1 := inj1 h
                subst e_1
                exact mj_vret (pc := 214) d_Md_readCond_214 rfl
              have h := hb98
              refine mj_if_ge (y := 0) (pc := 196) (tgt := 214) d_Md_readCond_196 (by decide) mj_hs (fun hc92 => ?_) (fun hc92 => ?_)
              · rw [if_pos hc92] at h
                obtain e_1 := inj1 h
                subst e_1
                exact mj_wk k97 trivial
              · rw [if_neg hc92] at h
                refine mj_aload_n (pc := 199) (i := 0) d_Md_readCond_199 rfl rfl (by decide) ?_
                refine mj_getR (pc := 200) d_Md_readCond_200 fl_Md_41 sh_88 rfl rfl (by decide) (by decide) (by decide) ?_
                refine mj_bipush (pc := 203) (v := 7) d_Md_readCond_203 (by decide) ?_
                refine mj_aload_n (pc := 205) (i := 0) d_Md_readCond_205 rfl rfl (by decide) ?_
                refine mj_iconst (pc := 206) (v := 0) d_Md_readCond_206 (by decide) ?_
                refine mj_sipush (pc := 207) (v := 9999) d_Md_readCond_207 (by decide) ?_
                obtain ⟨v93, C94, hb95, h⟩ := bd2_some h
                refine mj_callV (pc := 210) (b := 88) (vs := [.int 0, .int 9999]) (st := [.int 7, .ref 99]) d_Md_readCond_210 bB_Md_readCond_Md_number lk_Md_113 iv_Md_number rc_88 rfl (Nat.le_of_ble_eq_true rfl) (Nat.le_of_ble_eq_true rfl) (r_Md_number hb95) ?_
                show mj_R M_Md_readCond 213 [some (.ref 88), none, none] [.int v93, .int 7, .ref 99] (SH, jn C C94) none (SH, jn C (C'))
                refine dj_iast (pc := 213) d_Md_readCond_213 sh_99 (by decide) (by decide) (by decide) ?_
                show mj_R M_Md_readCond 214 [some (.ref 88), none, none] [] (SH, jn C (mj_wr C94 99 7 v93)) none (SH, jn C (C'))
                obtain e_1 := inj1 h
                subst e_1
                exact mj_wk k97 trivial
            have h := hb91
            refine mj_if_eq (y := 0) (pc := 148) (tgt := 168) d_Md_readCond_148 (by decide) mj_hs (fun hc78 => ?_) (fun hc78 => ?_)
            · rw [if_pos hc78] at h
              refine mj_aload_n (pc := 168) (i := 0) d_Md_readCond_168 rfl rfl (by decide) ?_
              refine mj_bipush (pc := 169) (v := 60) d_Md_readCond_169 (by decide) ?_
              refine mj_iconst (pc := 171) (v := 0) d_Md_readCond_171 (by decide) ?_
              refine mj_iconst (pc := 172) (v := 0) d_Md_readCond_172 (by decide) ?_
              refine mj_iconst (pc := 173) (v := 0) d_Md_readCond_173 (by decide) ?_
              refine mj_iconst (pc := 174) (v := 0) d_Md_readCond_174 (by decide) ?_
              obtain ⟨v79, hb80, h⟩ := bd1_some h
              refine mj_callV (pc := 175) (b := 88) (vs := [.int 60, .int 0, .int 0, .int 0, .int 0]) (st := []) d_Md_readCond_175 bB_Md_readCond_Md_reads lk_Md_109 iv_Md_reads rc_88 rfl (Nat.le_of_ble_eq_true rfl) (Nat.le_of_ble_eq_true rfl) (r_Md_reads hb80) ?_
              show mj_R M_Md_readCond 178 [some (.ref 88), some (.int v1), some (.int v3)] [.int v79] (SH, jn C (mj_wr C73 99 6 v72)) none (SH, jn C (C'))
              refine mj_if_eq (y := 0) (pc := 178) (tgt := 188) d_Md_readCond_178 (by decide) mj_hs (fun hc81 => ?_) (fun hc81 => ?_)
              · rw [if_pos hc81] at h
                refine mj_aload_n (pc := 188) (i := 0) d_Md_readCond_188 rfl rfl (by decide) ?_
                obtain ⟨C82, hb83, h⟩ := bd1_some h
                refine mj_callV (pc := 189) (b := 88) (vs := []) (st := []) d_Md_readCond_189 bB_Md_readCond_Md_fail lk_Md_103 iv_Md_fail rc_88 rfl (Nat.le_of_ble_eq_true rfl) (Nat.le_of_ble_eq_true rfl) (r_Md_fail hb83) ?_
                show mj_R M_Md_readCond 192 [some (.ref 88), some (.int v1), some (.int v3)] [] (SH, jn C C82) none (SH, jn C (C'))
                obtain e_1 := inj1 h
                subst e_1
                exact mj_wk k90 (And.intro rfl trivial)
              · rw [if_neg hc81] at h
                refine mj_aload_n (pc := 181) (i := 0) d_Md_readCond_181 rfl rfl (by decide) ?_
                obtain ⟨C84, hb85, h⟩ := bd1_some h
                refine mj_callV (pc := 182) (b := 88) (vs := []) (st := []) d_Md_readCond_182 bB_Md_readCond_Md_next lk_Md_106 iv_Md_next rc_88 rfl (Nat.le_of_ble_eq_true rfl) (Nat.le_of_ble_eq_true rfl) (r_Md_next hb85) ?_
                show mj_R M_Md_readCond 185 [some (.ref 88), some (.int v1), some (.int v3)] [] (SH, jn C C84) none (SH, jn C (C'))
                refine mj_goto (pc := 185) (tgt := 192) d_Md_readCond_185 (by decide) ?_
                obtain e_1 := inj1 h
                subst e_1
                exact mj_wk k90 (And.intro rfl trivial)
            · rw [if_neg hc78] at h
              refine mj_aload_n (pc := 151) (i := 0) d_Md_readCond_151 rfl rfl (by decide) ?_
              refine mj_getR (pc := 152) d_Md_readCond_152 fl_Md_41 sh_88 rfl rfl (by decide) (by decide) (by decide) ?_
              refine mj_iconst (pc := 155) (v := 5) d_Md_readCond_155 (by decide) ?_
              refine mj_dup2 (pc := 156) d_Md_readCond_156 rfl rfl ?_
              refine dj_iald (pc := 157) d_Md_readCond_157 sh_99 (by decide) (by decide) (by decide) ?_
              show mj_R M_Md_readCond 158 [some (.ref 88), some (.int v1), some (.int v3)] [.int (mj_wr C73 99 6 v72 99 5), .int 5, .ref 99] (SH, jn C (mj_wr C73 99 6 v72)) none (SH, jn C (C'))
              refine mj_iconst (pc := 158) (v := 4) d_Md_readCond_158 (by decide) ?_
              refine mj_iadd (pc := 159) d_Md_readCond_159 ?_
              refine dj_iast (pc := 160) d_Md_readCond_160 sh_99 (by decide) (by decide) (by decide) ?_
              show mj_R M_Md_readCond 161 [some (.ref 88), some (.int v1), some (.int v3)] [] (SH, jn C (mj_wr (mj_wr C73 99 6 v72) 99 5 ((mj_wr C73 99 6 v72 99 5) + 4))) none (SH, jn C (C'))
              refine mj_aload_n (pc := 161) (i := 0) d_Md_readCond_161 rfl rfl (by decide) ?_
              obtain ⟨C87, hb88, h⟩ := bd1_some h
              refine mj_callV (pc := 162) (b := 88) (vs := []) (st := []) d_Md_readCond_162 bB_Md_readCond_Md_next lk_Md_106 iv_Md_next rc_88 rfl (Nat.le_of_ble_eq_true rfl) (Nat.le_of_ble_eq_true rfl) (r_Md_next hb88) ?_
              show mj_R M_Md_readCond 165 [some (.ref 88), some (.int v1), some (.int v3)] [] (SH, jn C C87) none (SH, jn C (C'))
              refine mj_goto (pc := 165) (tgt := 192) d_Md_readCond_165 (by decide) ?_
              obtain e_1 := inj1 h
              subst e_1
              exact mj_wk k90 (And.intro rfl trivial)
          · rw [if_neg hc75] at h
            obtain e_1 := inj1 h
            subst e_1
            exact mj_vret (pc := 137) d_Md_readCond_137 rfl
    · rw [if_neg hc17] at h
      refine mj_aload_n (pc := 100) (i := 0) d_Md_readCond_100 rfl rfl (by decide) ?_
      obtain ⟨C99, hb100, h⟩ := bd1_some h
      refine mj_callV (pc := 101) (b := 88) (vs := []) (st := []) d_Md_readCond_101 bB_Md_readCond_Md_fail lk_Md_103 iv_Md_fail rc_88 rfl (Nat.le_of_ble_eq_true rfl) (Nat.le_of_ble_eq_true rfl) (r_Md_fail hb100) ?_
      show mj_R M_Md_readCond 104 [some (.ref 88), some (.int v1), some (.int v3)] [] (SH, jn C C99) none (SH, jn C (C'))
      obtain e_1 := inj1 h
      subst e_1
      exact mj_vret (pc := 104) d_Md_readCond_104 rfl
  have h := hb15
  refine mj_if_eq (y := 0) (pc := 47) (tgt := 54) d_Md_readCond_47 (by decide) mj_hs (fun hc7 => ?_) (fun hc7 => ?_)
  · rw [if_pos hc7] at h
    refine mj_iload_n (pc := 54) (i := 1) d_Md_readCond_54 rfl rfl ?_
    refine mj_if_eq (y := 0) (pc := 55) (tgt := 62) d_Md_readCond_55 (by decide) mj_hs (fun hc8 => ?_) (fun hc8 => ?_)
    · rw [if_pos hc8] at h
      refine mj_aload_n (pc := 62) (i := 0) d_Md_readCond_62 rfl rfl (by decide) ?_
      refine mj_bipush (pc := 63) (v := 100) d_Md_readCond_63 (by decide) ?_
      refine mj_bipush (pc := 65) (v := 97) d_Md_readCond_65 (by decide) ?_
      refine mj_bipush (pc := 67) (v := 121) d_Md_readCond_67 (by decide) ?_
      refine mj_iconst (pc := 69) (v := 0) d_Md_readCond_69 (by decide) ?_
      refine mj_iconst (pc := 70) (v := 0) d_Md_readCond_70 (by decide) ?_
      obtain ⟨v9, hb10, h⟩ := bd1_some h
      refine mj_callV (pc := 71) (b := 88) (vs := [.int 100, .int 97, .int 121, .int 0, .int 0]) (st := [.int 5, .ref 99]) d_Md_readCond_71 bB_Md_readCond_Md_reads lk_Md_109 iv_Md_reads rc_88 rfl (Nat.le_of_ble_eq_true rfl) (Nat.le_of_ble_eq_true rfl) (r_Md_reads hb10) ?_
      show mj_R M_Md_readCond 74 [some (.ref 88), some (.int v1), some (.int v3)] [.int v9, .int 5, .ref 99] (SH, jn C C0) none (SH, jn C (C'))
      refine mj_if_eq (y := 0) (pc := 74) (tgt := 81) d_Md_readCond_74 (by decide) mj_hs (fun hc11 => ?_) (fun hc11 => ?_)
      · rw [if_pos hc11] at h
        refine mj_iload_n (pc := 81) (i := 2) d_Md_readCond_81 rfl rfl ?_
        refine mj_if_eq (y := 0) (pc := 82) (tgt := 89) d_Md_readCond_82 (by decide) mj_hs (fun hc12 => ?_) (fun hc12 => ?_)
        · rw [if_pos hc12] at h
          refine mj_iconst (pc := 89) (v := -1) d_Md_readCond_89 (by decide) ?_
          obtain e_1 := inj1 h
          subst e_1
          exact mj_wk k14 (And.intro rfl (And.intro rfl (And.intro rfl trivial)))
        · rw [if_neg hc12] at h
          refine mj_iconst (pc := 85) (v := 3) d_Md_readCond_85 (by decide) ?_
          refine mj_goto (pc := 86) (tgt := 90) d_Md_readCond_86 (by decide) ?_
          obtain e_1 := inj1 h
          subst e_1
          exact mj_wk k14 (And.intro rfl (And.intro rfl (And.intro rfl trivial)))
      · rw [if_neg hc11] at h
        refine mj_iconst (pc := 77) (v := 2) d_Md_readCond_77 (by decide) ?_
        refine mj_goto (pc := 78) (tgt := 90) d_Md_readCond_78 (by decide) ?_
        obtain e_1 := inj1 h
        subst e_1
        exact mj_wk k14 (And.intro rfl (And.intro rfl (And.intro rfl trivial)))
    · rw [if_neg hc8] at h
      refine mj_iconst (pc := 58) (v := 1) d_Md_readCond_58 (by decide) ?_
      refine mj_goto (pc := 59) (tgt := 90) d_Md_readCond_59 (by decide) ?_
      obtain e_1 := inj1 h
      subst e_1
      exact mj_wk k14 (And.intro rfl (And.intro rfl (And.intro rfl trivial)))
  · rw [if_neg hc7] at h
    refine mj_iconst (pc := 50) (v := 0) d_Md_readCond_50 (by decide) ?_
    refine mj_goto (pc := 51) (tgt := 90) d_Md_readCond_51 (by decide) ?_
    obtain e_1 := inj1 h
    subst e_1
    exact mj_wk k14 (And.intro rfl (And.intro rfl (And.intro rfl trivial)))
set_option maxRecDepth 20000 in
theorem r_Md_actAtHand  {C C0 : St} {v : Int32} (h : f_Md_actAtHand C0 = some v) : mj_R M_Md_actAtHand 0 (mj_lv M_Md_actAtHand.2.2.1 [.ref 88]) [] (SH, jn C C0) (some (.int v)) (SH, jn C C0) := by
  show mj_R M_Md_actAtHand 0 [some (.ref 88)] [] _ _ _
  unfold f_Md_actAtHand at h
  refine mj_aload_n (pc := 0) (i := 0) d_Md_actAtHand_0 rfl rfl (by decide) ?_
  refine mj_bipush (pc := 1) (v := 109) d_Md_actAtHand_1 (by decide) ?_
  refine mj_bipush (pc := 3) (v := 97) d_Md_actAtHand_3 (by decide) ?_
  refine mj_bipush (pc := 5) (v := 107) d_Md_actAtHand_5 (by decide) ?_
  refine mj_bipush (pc := 7) (v := 101) d_Md_actAtHand_7 (by decide) ?_
  refine mj_iconst (pc := 9) (v := 0) d_Md_actAtHand_9 (by decide) ?_
  obtain ⟨v1, hb2, h⟩ := bd1_some h
  refine mj_callV (pc := 10) (b := 88) (vs := [.int 109, .int 97, .int 107, .int 101, .int 0]) (st := []) d_Md_actAtHand_10 bB_Md_actAtHand_Md_reads lk_Md_109 iv_Md_reads rc_88 rfl (Nat.le_of_ble_eq_true rfl) (Nat.le_of_ble_eq_true rfl) (r_Md_reads hb2) ?_
  show mj_R M_Md_actAtHand 13 [some (.ref 88)] [.int v1] (SH, jn C C0) (some (.int v)) (SH, jn C C0)
  obtain ⟨w19, hb21, h⟩ := bd1_some h
  have k20 : mj_R M_Md_actAtHand 117 [none] [.int w19] (SH, jn C C0) (some (.int v)) (SH, jn C C0) := by
    obtain e_1 := inj1 h
    subst e_1
    exact mj_iret (pc := 117) d_Md_actAtHand_117 rfl
  have h := hb21
  refine mj_if_eq (y := 0) (pc := 13) (tgt := 20) d_Md_actAtHand_13 (by decide) mj_hs (fun hc3 => ?_) (fun hc3 => ?_)
  · rw [if_pos hc3] at h
    refine mj_aload_n (pc := 20) (i := 0) d_Md_actAtHand_20 rfl rfl (by decide) ?_
    refine mj_bipush (pc := 21) (v := 101) d_Md_actAtHand_21 (by decide) ?_
    refine mj_bipush (pc := 23) (v := 97) d_Md_actAtHand_23 (by decide) ?_
    refine mj_bipush (pc := 25) (v := 116) d_Md_actAtHand_25 (by decide) ?_
    refine mj_iconst (pc := 27) (v := 0) d_Md_actAtHand_27 (by decide) ?_
    refine mj_iconst (pc := 28) (v := 0) d_Md_actAtHand_28 (by decide) ?_
    obtain ⟨v4, hb5, h⟩ := bd1_some h
    refine mj_callV (pc := 29) (b := 88) (vs := [.int 101, .int 97, .int 116, .int 0, .int 0]) (st := []) d_Md_actAtHand_29 bB_Md_actAtHand_Md_reads lk_Md_109 iv_Md_reads rc_88 rfl (Nat.le_of_ble_eq_true rfl) (Nat.le_of_ble_eq_true rfl) (r_Md_reads hb5) ?_
    show mj_R M_Md_actAtHand 32 [some (.ref 88)] [.int v4] (SH, jn C C0) (some (.int v)) (SH, jn C C0)
    refine mj_if_eq (y := 0) (pc := 32) (tgt := 39) d_Md_actAtHand_32 (by decide) mj_hs (fun hc6 => ?_) (fun hc6 => ?_)
    · rw [if_pos hc6] at h
      refine mj_aload_n (pc := 39) (i := 0) d_Md_actAtHand_39 rfl rfl (by decide) ?_
      refine mj_bipush (pc := 40) (v := 97) d_Md_actAtHand_40 (by decide) ?_
      refine mj_bipush (pc := 42) (v := 115) d_Md_actAtHand_42 (by decide) ?_
      refine mj_bipush (pc := 44) (v := 107) d_Md_actAtHand_44 (by decide) ?_
      refine mj_iconst (pc := 46) (v := 0) d_Md_actAtHand_46 (by decide) ?_
      refine mj_iconst (pc := 47) (v := 0) d_Md_actAtHand_47 (by decide) ?_
      obtain ⟨v7, hb8, h⟩ := bd1_some h
      refine mj_callV (pc := 48) (b := 88) (vs := [.int 97, .int 115, .int 107, .int 0, .int 0]) (st := []) d_Md_actAtHand_48 bB_Md_actAtHand_Md_reads lk_Md_109 iv_Md_reads rc_88 rfl (Nat.le_of_ble_eq_true rfl) (Nat.le_of_ble_eq_true rfl) (r_Md_reads hb8) ?_
      show mj_R M_Md_actAtHand 51 [some (.ref 88)] [.int v7] (SH, jn C C0) (some (.int v)) (SH, jn C C0)
      refine mj_if_eq (y := 0) (pc := 51) (tgt := 58) d_Md_actAtHand_51 (by decide) mj_hs (fun hc9 => ?_) (fun hc9 => ?_)
      · rw [if_pos hc9] at h
        refine mj_aload_n (pc := 58) (i := 0) d_Md_actAtHand_58 rfl rfl (by decide) ?_
        refine mj_bipush (pc := 59) (v := 98) d_Md_actAtHand_59 (by decide) ?_
        refine mj_bipush (pc := 61) (v := 105) d_Md_actAtHand_61 (by decide) ?_
        refine mj_bipush (pc := 63) (v := 100) d_Md_actAtHand_63 (by decide) ?_
        refine mj_iconst (pc := 65) (v := 0) d_Md_actAtHand_65 (by decide) ?_
        refine mj_iconst (pc := 66) (v := 0) d_Md_actAtHand_66 (by decide) ?_
        obtain ⟨v10, hb11, h⟩ := bd1_some h
        refine mj_callV (pc := 67) (b := 88) (vs := [.int 98, .int 105, .int 100, .int 0, .int 0]) (st := []) d_Md_actAtHand_67 bB_Md_actAtHand_Md_reads lk_Md_109 iv_Md_reads rc_88 rfl (Nat.le_of_ble_eq_true rfl) (Nat.le_of_ble_eq_true rfl) (r_Md_reads hb11) ?_
        show mj_R M_Md_actAtHand 70 [some (.ref 88)] [.int v10] (SH, jn C C0) (some (.int v)) (SH, jn C C0)
        refine mj_if_eq (y := 0) (pc := 70) (tgt := 77) d_Md_actAtHand_70 (by decide) mj_hs (fun hc12 => ?_) (fun hc12 => ?_)
        · rw [if_pos hc12] at h
          refine mj_aload_n (pc := 77) (i := 0) d_Md_actAtHand_77 rfl rfl (by decide) ?_
          refine mj_bipush (pc := 78) (v := 112) d_Md_actAtHand_78 (by decide) ?_
          refine mj_bipush (pc := 80) (v := 97) d_Md_actAtHand_80 (by decide) ?_
          refine mj_bipush (pc := 82) (v := 121) d_Md_actAtHand_82 (by decide) ?_
          refine mj_iconst (pc := 84) (v := 0) d_Md_actAtHand_84 (by decide) ?_
          refine mj_iconst (pc := 85) (v := 0) d_Md_actAtHand_85 (by decide) ?_
          obtain ⟨v13, hb14, h⟩ := bd1_some h
          refine mj_callV (pc := 86) (b := 88) (vs := [.int 112, .int 97, .int 121, .int 0, .int 0]) (st := []) d_Md_actAtHand_86 bB_Md_actAtHand_Md_reads lk_Md_109 iv_Md_reads rc_88 rfl (Nat.le_of_ble_eq_true rfl) (Nat.le_of_ble_eq_true rfl) (r_Md_reads hb14) ?_
          show mj_R M_Md_actAtHand 89 [some (.ref 88)] [.int v13] (SH, jn C C0) (some (.int v)) (SH, jn C C0)
          refine mj_if_eq (y := 0) (pc := 89) (tgt := 96) d_Md_actAtHand_89 (by decide) mj_hs (fun hc15 => ?_) (fun hc15 => ?_)
          · rw [if_pos hc15] at h
            refine mj_aload_n (pc := 96) (i := 0) d_Md_actAtHand_96 rfl rfl (by decide) ?_
            refine mj_bipush (pc := 97) (v := 108) d_Md_actAtHand_97 (by decide) ?_
            refine mj_bipush (pc := 99) (v := 101) d_Md_actAtHand_99 (by decide) ?_
            refine mj_bipush (pc := 101) (v := 110) d_Md_actAtHand_101 (by decide) ?_
            refine mj_bipush (pc := 103) (v := 100) d_Md_actAtHand_103 (by decide) ?_
            refine mj_iconst (pc := 105) (v := 0) d_Md_actAtHand_105 (by decide) ?_
            obtain ⟨v16, hb17, h⟩ := bd1_some h
            refine mj_callV (pc := 106) (b := 88) (vs := [.int 108, .int 101, .int 110, .int 100, .int 0]) (st := []) d_Md_actAtHand_106 bB_Md_actAtHand_Md_reads lk_Md_109 iv_Md_reads rc_88 rfl (Nat.le_of_ble_eq_true rfl) (Nat.le_of_ble_eq_true rfl) (r_Md_reads hb17) ?_
            show mj_R M_Md_actAtHand 109 [some (.ref 88)] [.int v16] (SH, jn C C0) (some (.int v)) (SH, jn C C0)
            refine mj_if_eq (y := 0) (pc := 109) (tgt := 116) d_Md_actAtHand_109 (by decide) mj_hs (fun hc18 => ?_) (fun hc18 => ?_)
            · rw [if_pos hc18] at h
              refine mj_iconst (pc := 116) (v := -1) d_Md_actAtHand_116 (by decide) ?_
              obtain e_1 := inj1 h
              subst e_1
              exact mj_wk k20 trivial
            · rw [if_neg hc18] at h
              refine mj_iconst (pc := 112) (v := 5) d_Md_actAtHand_112 (by decide) ?_
              refine mj_goto (pc := 113) (tgt := 117) d_Md_actAtHand_113 (by decide) ?_
              obtain e_1 := inj1 h
              subst e_1
              exact mj_wk k20 trivial
          · rw [if_neg hc15] at h
            refine mj_iconst (pc := 92) (v := 4) d_Md_actAtHand_92 (by decide) ?_
            refine mj_goto (pc := 93) (tgt := 117) d_Md_actAtHand_93 (by decide) ?_
            obtain e_1 := inj1 h
            subst e_1
            exact mj_wk k20 trivial
        · rw [if_neg hc12] at h
          refine mj_iconst (pc := 73) (v := 3) d_Md_actAtHand_73 (by decide) ?_
          refine mj_goto (pc := 74) (tgt := 117) d_Md_actAtHand_74 (by decide) ?_
          obtain e_1 := inj1 h
          subst e_1
          exact mj_wk k20 trivial
      · rw [if_neg hc9] at h
        refine mj_iconst (pc := 54) (v := 2) d_Md_actAtHand_54 (by decide) ?_
        refine mj_goto (pc := 55) (tgt := 117) d_Md_actAtHand_55 (by decide) ?_
        obtain e_1 := inj1 h
        subst e_1
        exact mj_wk k20 trivial
    · rw [if_neg hc6] at h
      refine mj_iconst (pc := 35) (v := 1) d_Md_actAtHand_35 (by decide) ?_
      refine mj_goto (pc := 36) (tgt := 117) d_Md_actAtHand_36 (by decide) ?_
      obtain e_1 := inj1 h
      subst e_1
      exact mj_wk k20 trivial
  · rw [if_neg hc3] at h
    refine mj_iconst (pc := 16) (v := 0) d_Md_actAtHand_16 (by decide) ?_
    refine mj_goto (pc := 17) (tgt := 117) d_Md_actAtHand_17 (by decide) ?_
    obtain e_1 := inj1 h
    subst e_1
    exact mj_wk k20 trivial
set_option maxRecDepth 20000 in
theorem r_Md_readAct {x1 : Int32} {C C0 : St} {C' : St} (h : f_Md_readAct x1 C0 = some (C')) : mj_R M_Md_readAct 0 (mj_lv M_Md_readAct.2.2.1 [.ref 88, .int x1]) [] (SH, jn C C0) none (SH, jn C (C')) := by
  show mj_R M_Md_readAct 0 [some (.ref 88), some (.int x1), none, none] [] _ _ _
  unfold f_Md_readAct at h
  refine mj_aload_n (pc := 0) (i := 0) d_Md_readAct_0 rfl rfl (by decide) ?_
  refine mj_getR (pc := 1) d_Md_readAct_1 fl_Md_41 sh_88 rfl rfl (by decide) (by decide) (by decide) ?_
  refine mj_iconst (pc := 4) (v := 0) d_Md_readAct_4 (by decide) ?_
  refine mj_aload_n (pc := 5) (i := 0) d_Md_readAct_5 rfl rfl (by decide) ?_
  obtain ⟨v1, hb2, h⟩ := bd1_some h
  refine mj_callV (pc := 6) (b := 88) (vs := []) (st := [.int 0, .ref 99]) d_Md_readAct_6 bB_Md_readAct_Md_actAtHand lk_Md_116 iv_Md_actAtHand rc_88 rfl (Nat.le_of_ble_eq_true rfl) (Nat.le_of_ble_eq_true rfl) (r_Md_actAtHand hb2) ?_
  show mj_R M_Md_readAct 9 [some (.ref 88), some (.int x1), none, none] [.int v1, .int 0, .ref 99] (SH, jn C C0) none (SH, jn C (C'))
  refine dj_iast (pc := 9) d_Md_readAct_9 sh_99 (by decide) (by decide) (by decide) ?_
  show mj_R M_Md_readAct 10 [some (.ref 88), some (.int x1), none, none] [] (SH, jn C (mj_wr C0 99 0 v1)) none (SH, jn C (C'))
  refine mj_aload_n (pc := 10) (i := 0) d_Md_readAct_10 rfl rfl (by decide) ?_
  refine mj_getR (pc := 11) d_Md_readAct_11 fl_Md_41 sh_88 rfl rfl (by decide) (by decide) (by decide) ?_
  refine mj_iconst (pc := 14) (v := 0) d_Md_readAct_14 (by decide) ?_
  refine dj_iald (pc := 15) d_Md_readAct_15 sh_99 (by decide) (by decide) (by decide) ?_
  show mj_R M_Md_readAct 16 [some (.ref 88), some (.int x1), none, none] [.int (mj_wr C0 99 0 v1 99 0)] (SH, jn C (mj_wr C0 99 0 v1)) none (SH, jn C (C'))
  refine mj_if_ge (y := 0) (pc := 16) (tgt := 24) d_Md_readAct_16 (by decide) mj_hs (fun hc4 => ?_) (fun hc4 => ?_)
  · rw [if_pos hc4] at h
    refine mj_aload_n (pc := 24) (i := 0) d_Md_readAct_24 rfl rfl (by decide) ?_
    obtain ⟨C5, hb6, h⟩ := bd1_some h
    refine mj_callV (pc := 25) (b := 88) (vs := []) (st := []) d_Md_readAct_25 bB_Md_readAct_Md_next lk_Md_106 iv_Md_next rc_88 rfl (Nat.le_of_ble_eq_true rfl) (Nat.le_of_ble_eq_true rfl) (r_Md_next hb6) ?_
    show mj_R M_Md_readAct 28 [some (.ref 88), some (.int x1), none, none] [] (SH, jn C C5) none (SH, jn C (C'))
    refine mj_aload_n (pc := 28) (i := 0) d_Md_readAct_28 rfl rfl (by decide) ?_
    refine mj_getR (pc := 29) d_Md_readAct_29 fl_Md_41 sh_88 rfl rfl (by decide) (by decide) (by decide) ?_
    refine mj_iconst (pc := 32) (v := 0) d_Md_readAct_32 (by decide) ?_
    refine dj_iald (pc := 33) d_Md_readAct_33 sh_99 (by decide) (by decide) (by decide) ?_
    show mj_R M_Md_readAct 34 [some (.ref 88), some (.int x1), none, none] [.int (C5 99 0)] (SH, jn C C5) none (SH, jn C (C'))
    refine mj_iconst (pc := 34) (v := 4) d_Md_readAct_34 (by decide) ?_
    have k9 : mj_R M_Md_readAct 43 [some (.ref 88), some (.int x1), none, none] [.int (if (C5 99 0) < 4 then 0 else 1 : Int32)] (SH, jn C C5) none (SH, jn C (C')) := by
      refine mj_istore_n (pc := 43) (i := 2) d_Md_readAct_43 rfl rfl (by decide) ?_
      refine mj_aload_n (pc := 44) (i := 0) d_Md_readAct_44 rfl rfl (by decide) ?_
      refine dj_getI (pc := 45) d_Md_readAct_45 fl_Md_97 sh_88 rfl (by decide) (by decide) (by decide) ?_
      refine mj_istore_n (pc := 48) (i := 3) d_Md_readAct_48 rfl rfl (by decide) ?_
      refine mj_aload_n (pc := 49) (i := 0) d_Md_readAct_49 rfl rfl (by decide) ?_
      refine mj_getR (pc := 50) d_Md_readAct_50 fl_Md_41 sh_88 rfl rfl (by decide) (by decide) (by decide) ?_
      refine mj_iconst (pc := 53) (v := 1) d_Md_readAct_53 (by decide) ?_
      refine mj_iload_n (pc := 54) (i := 2) d_Md_readAct_54 rfl rfl ?_
      obtain ⟨w18, C19, hb21, h⟩ := bd2_some h
      have k20 : mj_R M_Md_readAct 82 [some (.ref 88), some (.int x1), some (.int (if (C5 99 0) < 4 then 0 else 1 : Int32)), some (.int (C5 88 14))] [.int w18, .int 1, .ref 99] (SH, jn C C19) none (SH, jn C (C')) := by
        refine dj_iast (pc := 82) d_Md_readAct_82 sh_99 (by decide) (by decide) (by decide) ?_
        show mj_R M_Md_readAct 83 [some (.ref 88), some (.int x1), some (.int (if (C5 99 0) < 4 then 0 else 1 : Int32)), some (.int (C5 88 14))] [] (SH, jn C (mj_wr C19 99 1 w18)) none (SH, jn C (C'))
        refine mj_aload_n (pc := 83) (i := 0) d_Md_readAct_83 rfl rfl (by decide) ?_
        refine dj_getI (pc := 84) d_Md_readAct_84 fl_Md_100 sh_88 rfl (by decide) (by decide) (by decide) ?_
        obtain ⟨C26, hb28, h⟩ := bd1_some h
        have k27 : mj_R M_Md_readAct 109 [some (.ref 88), none, none, none] [] (SH, jn C C26) none (SH, jn C (C')) := by
          refine mj_aload_n (pc := 109) (i := 0) d_Md_readAct_109 rfl rfl (by decide) ?_
          refine dj_getI (pc := 110) d_Md_readAct_110 fl_Md_100 sh_88 rfl (by decide) (by decide) (by decide) ?_
          obtain ⟨C33, hb35, h⟩ := bd1_some h
          have k34 : mj_R M_Md_readAct 130 [some (.ref 88), none, none, none] [] (SH, jn C C33) none (SH, jn C (C')) := by
            refine mj_aload_n (pc := 130) (i := 0) d_Md_readAct_130 rfl rfl (by decide) ?_
            refine dj_getI (pc := 131) d_Md_readAct_131 fl_Md_100 sh_88 rfl (by decide) (by decide) (by decide) ?_
            obtain ⟨C61, hb63, h⟩ := bd1_some h
            have k62 : mj_R M_Md_readAct 196 [none, none, none, none] [] (SH, jn C C61) none (SH, jn C (C')) := by
              obtain e_1 := inj1 h
              subst e_1
              exact mj_vret (pc := 196) d_Md_readAct_196 rfl
            have h := hb63
            refine mj_if_ge (y := 0) (pc := 134) (tgt := 196) d_Md_readAct_134 (by decide) mj_hs (fun hc36 => ?_) (fun hc36 => ?_)
            · rw [if_pos hc36] at h
              obtain e_1 := inj1 h
              subst e_1
              exact mj_wk k62 trivial
            · rw [if_neg hc36] at h
              refine mj_aload_n (pc := 137) (i := 0) d_Md_readAct_137 rfl rfl (by decide) ?_
              refine mj_getR (pc := 138) d_Md_readAct_138 fl_Md_41 sh_88 rfl rfl (by decide) (by decide) (by decide) ?_
              refine mj_iconst (pc := 141) (v := 0) d_Md_readAct_141 (by decide) ?_
              refine dj_iald (pc := 142) d_Md_readAct_142 sh_99 (by decide) (by decide) (by decide) ?_
              show mj_R M_Md_readAct 143 [some (.ref 88), none, none, none] [.int (C33 99 0)] (SH, jn C C33) none (SH, jn C (C'))
              refine mj_iconst (pc := 143) (v := 2) d_Md_readAct_143 (by decide) ?_
              refine mj_icmp_eq (pc := 144) (tgt := 167) d_Md_readAct_144 (by decide) mj_hs (fun hc38 => ?_) (fun hc38 => ?_)
              · rw [if_pos hc38] at h
                refine mj_aload_n (pc := 167) (i := 0) d_Md_readAct_167 rfl rfl (by decide) ?_
                refine mj_getR (pc := 168) d_Md_readAct_168 fl_Md_41 sh_88 rfl rfl (by decide) (by decide) (by decide) ?_
                refine mj_iconst (pc := 171) (v := 3) d_Md_readAct_171 (by decide) ?_
                refine mj_aload_n (pc := 172) (i := 0) d_Md_readAct_172 rfl rfl (by decide) ?_
                refine mj_iconst (pc := 173) (v := 1) d_Md_readAct_173 (by decide) ?_
                refine mj_aload_n (pc := 174) (i := 0) d_Md_readAct_174 rfl rfl (by decide) ?_
                refine mj_getR (pc := 175) d_Md_readAct_175 fl_Md_41 sh_88 rfl rfl (by decide) (by decide) (by decide) ?_
                refine mj_iconst (pc := 178) (v := 0) d_Md_readAct_178 (by decide) ?_
                refine dj_iald (pc := 179) d_Md_readAct_179 sh_99 (by decide) (by decide) (by decide) ?_
                show mj_R M_Md_readAct 180 [some (.ref 88), none, none, none] [.int (C33 99 0), .int 1, .ref 88, .int 3, .ref 99] (SH, jn C C33) none (SH, jn C (C'))
                refine mj_iconst (pc := 180) (v := 5) d_Md_readAct_180 (by decide) ?_
                have k41 : mj_R M_Md_readAct 192 [none, none, none, none] [.int (if (C33 99 0) = 5 then 30 else 999 : Int32), .int 1, .ref 88, .int 3, .ref 99] (SH, jn C C33) none (SH, jn C (C')) := by
                  obtain ⟨v42, C43, hb44, h⟩ := bd2_some h
                  refine mj_callV (pc := 192) (b := 88) (vs := [.int 1, .int (if (C33 99 0) = 5 then 30 else 999 : Int32)]) (st := [.int 3, .ref 99]) d_Md_readAct_192 bB_Md_readAct_Md_number lk_Md_113 iv_Md_number rc_88 rfl (Nat.le_of_ble_eq_true rfl) (Nat.le_of_ble_eq_true rfl) (r_Md_number hb44) ?_
                  show mj_R M_Md_readAct 195 [none, none, none, none] [.int v42, .int 3, .ref 99] (SH, jn C C43) none (SH, jn C (C'))
                  refine dj_iast (pc := 195) d_Md_readAct_195 sh_99 (by decide) (by decide) (by decide) ?_
                  show mj_R M_Md_readAct 196 [none, none, none, none] [] (SH, jn C (mj_wr C43 99 3 v42)) none (SH, jn C (C'))
                  obtain e_1 := inj1 h
                  subst e_1
                  exact mj_wk k62 trivial
                refine mj_icmp_ne (pc := 181) (tgt := 189) d_Md_readAct_181 (by decide) mj_hs (fun hc40 => ?_) (fun hc40 => ?_)
                · refine mj_sipush (pc := 189) (v := 999) d_Md_readAct_189 (by decide) ?_
                  try simp only [if_neg hc40] at k41
                  exact mj_wk k41 trivial
                · refine mj_bipush (pc := 184) (v := 30) d_Md_readAct_184 (by decide) ?_
                  refine mj_goto (pc := 186) (tgt := 192) d_Md_readAct_186 (by decide) ?_
                  try simp only [if_pos hc40] at k41
                  exact mj_wk k41 trivial
              · rw [if_neg hc38] at h
                refine mj_aload_n (pc := 147) (i := 0) d_Md_readAct_147 rfl rfl (by decide) ?_
                refine mj_getR (pc := 148) d_Md_readAct_148 fl_Md_41 sh_88 rfl rfl (by decide) (by decide) (by decide) ?_
                refine mj_iconst (pc := 151) (v := 0) d_Md_readAct_151 (by decide) ?_
                refine dj_iald (pc := 152) d_Md_readAct_152 sh_99 (by decide) (by decide) (by decide) ?_
                show mj_R M_Md_readAct 153 [some (.ref 88), none, none, none] [.int (C33 99 0)] (SH, jn C C33) none (SH, jn C (C'))
                refine mj_iconst (pc := 153) (v := 3) d_Md_readAct_153 (by decide) ?_
                refine mj_icmp_eq (pc := 154) (tgt := 167) d_Md_readAct_154 (by decide) mj_hs (fun hc46 => ?_) (fun hc46 => ?_)
                · rw [if_pos hc46] at h
                  refine mj_aload_n (pc := 167) (i := 0) d_Md_readAct_167 rfl rfl (by decide) ?_
                  refine mj_getR (pc := 168) d_Md_readAct_168 fl_Md_41 sh_88 rfl rfl (by decide) (by decide) (by decide) ?_
                  refine mj_iconst (pc := 171) (v := 3) d_Md_readAct_171 (by decide) ?_
                  refine mj_aload_n (pc := 172) (i := 0) d_Md_readAct_172 rfl rfl (by decide) ?_
                  refine mj_iconst (pc := 173) (v := 1) d_Md_readAct_173 (by decide) ?_
                  refine mj_aload_n (pc := 174) (i := 0) d_Md_readAct_174 rfl rfl (by decide) ?_
                  refine mj_getR (pc := 175) d_Md_readAct_175 fl_Md_41 sh_88 rfl rfl (by decide) (by decide) (by decide) ?_
                  refine mj_iconst (pc := 178) (v := 0) d_Md_readAct_178 (by decide) ?_
                  refine dj_iald (pc := 179) d_Md_readAct_179 sh_99 (by decide) (by decide) (by decide) ?_
                  show mj_R M_Md_readAct 180 [some (.ref 88), none, none, none] [.int (C33 99 0), .int 1, .ref 88, .int 3, .ref 99] (SH, jn C C33) none (SH, jn C (C'))
                  refine mj_iconst (pc := 180) (v := 5) d_Md_readAct_180 (by decide) ?_
                  have k49 : mj_R M_Md_readAct 192 [none, none, none, none] [.int (if (C33 99 0) = 5 then 30 else 999 : Int32), .int 1, .ref 88, .int 3, .ref 99] (SH, jn C C33) none (SH, jn C (C')) := by
                    obtain ⟨v50, C51, hb52, h⟩ := bd2_some h
                    refine mj_callV (pc := 192) (b := 88) (vs := [.int 1, .int (if (C33 99 0) = 5 then 30 else 999 : Int32)]) (st := [.int 3, .ref 99]) d_Md_readAct_192 bB_Md_readAct_Md_number lk_Md_113 iv_Md_number rc_88 rfl (Nat.le_of_ble_eq_true rfl) (Nat.le_of_ble_eq_true rfl) (r_Md_number hb52) ?_
                    show mj_R M_Md_readAct 195 [none, none, none, none] [.int v50, .int 3, .ref 99] (SH, jn C C51) none (SH, jn C (C'))
                    refine dj_iast (pc := 195) d_Md_readAct_195 sh_99 (by decide) (by decide) (by decide) ?_
                    show mj_R M_Md_readAct 196 [none, none, none, none] [] (SH, jn C (mj_wr C51 99 3 v50)) none (SH, jn C (C'))
                    obtain e_1 := inj1 h
                    subst e_1
                    exact mj_wk k62 trivial
                  refine mj_icmp_ne (pc := 181) (tgt := 189) d_Md_readAct_181 (by decide) mj_hs (fun hc48 => ?_) (fun hc48 => ?_)
                  · refine mj_sipush (pc := 189) (v := 999) d_Md_readAct_189 (by decide) ?_
                    try simp only [if_neg hc48] at k49
                    exact mj_wk k49 trivial
                  · refine mj_bipush (pc := 184) (v := 30) d_Md_readAct_184 (by decide) ?_
                    refine mj_goto (pc := 186) (tgt := 192) d_Md_readAct_186 (by decide) ?_
                    try simp only [if_pos hc48] at k49
                    exact mj_wk k49 trivial
                · rw [if_neg hc46] at h
                  refine mj_aload_n (pc := 157) (i := 0) d_Md_readAct_157 rfl rfl (by decide) ?_
                  refine mj_getR (pc := 158) d_Md_readAct_158 fl_Md_41 sh_88 rfl rfl (by decide) (by decide) (by decide) ?_
                  refine mj_iconst (pc := 161) (v := 0) d_Md_readAct_161 (by decide) ?_
                  refine dj_iald (pc := 162) d_Md_readAct_162 sh_99 (by decide) (by decide) (by decide) ?_
                  show mj_R M_Md_readAct 163 [some (.ref 88), none, none, none] [.int (C33 99 0)] (SH, jn C C33) none (SH, jn C (C'))
                  refine mj_iconst (pc := 163) (v := 5) d_Md_readAct_163 (by decide) ?_
                  refine mj_icmp_ne (pc := 164) (tgt := 196) d_Md_readAct_164 (by decide) mj_hs (fun hc54 => ?_) (fun hc54 => ?_)
                  · rw [if_neg hc54] at h
                    obtain e_1 := inj1 h
                    subst e_1
                    exact mj_wk k62 trivial
                  · rw [if_pos hc54] at h
                    refine mj_aload_n (pc := 167) (i := 0) d_Md_readAct_167 rfl rfl (by decide) ?_
                    refine mj_getR (pc := 168) d_Md_readAct_168 fl_Md_41 sh_88 rfl rfl (by decide) (by decide) (by decide) ?_
                    refine mj_iconst (pc := 171) (v := 3) d_Md_readAct_171 (by decide) ?_
                    refine mj_aload_n (pc := 172) (i := 0) d_Md_readAct_172 rfl rfl (by decide) ?_
                    refine mj_iconst (pc := 173) (v := 1) d_Md_readAct_173 (by decide) ?_
                    refine mj_aload_n (pc := 174) (i := 0) d_Md_readAct_174 rfl rfl (by decide) ?_
                    refine mj_getR (pc := 175) d_Md_readAct_175 fl_Md_41 sh_88 rfl rfl (by decide) (by decide) (by decide) ?_
                    refine mj_iconst (pc := 178) (v := 0) d_Md_readAct_178 (by decide) ?_
                    refine dj_iald (pc := 179) d_Md_readAct_179 sh_99 (by decide) (by decide) (by decide) ?_
                    show mj_R M_Md_readAct 180 [some (.ref 88), none, none, none] [.int (C33 99 0), .int 1, .ref 88, .int 3, .ref 99] (SH, jn C C33) none (SH, jn C (C'))
                    refine mj_iconst (pc := 180) (v := 5) d_Md_readAct_180 (by decide) ?_
                    have k57 : mj_R M_Md_readAct 192 [none, none, none, none] [.int (if (C33 99 0) = 5 then 30 else 999 : Int32), .int 1, .ref 88, .int 3, .ref 99] (SH, jn C C33) none (SH, jn C (C')) := by
                      obtain ⟨v58, C59, hb60, h⟩ := bd2_some h
                      refine mj_callV (pc := 192) (b := 88) (vs := [.int 1, .int (if (C33 99 0) = 5 then 30 else 999 : Int32)]) (st := [.int 3, .ref 99]) d_Md_readAct_192 bB_Md_readAct_Md_number lk_Md_113 iv_Md_number rc_88 rfl (Nat.le_of_ble_eq_true rfl) (Nat.le_of_ble_eq_true rfl) (r_Md_number hb60) ?_
                      show mj_R M_Md_readAct 195 [none, none, none, none] [.int v58, .int 3, .ref 99] (SH, jn C C59) none (SH, jn C (C'))
                      refine dj_iast (pc := 195) d_Md_readAct_195 sh_99 (by decide) (by decide) (by decide) ?_
                      show mj_R M_Md_readAct 196 [none, none, none, none] [] (SH, jn C (mj_wr C59 99 3 v58)) none (SH, jn C (C'))
                      obtain e_1 := inj1 h
                      subst e_1
                      exact mj_wk k62 trivial
                    refine mj_icmp_ne (pc := 181) (tgt := 189) d_Md_readAct_181 (by decide) mj_hs (fun hc56 => ?_) (fun hc56 => ?_)
                    · refine mj_sipush (pc := 189) (v := 999) d_Md_readAct_189 (by decide) ?_
                      try simp only [if_neg hc56] at k57
                      exact mj_wk k57 trivial
                    · refine mj_bipush (pc := 184) (v := 30) d_Md_readAct_184 (by decide) ?_
                      refine mj_goto (pc := 186) (tgt := 192) d_Md_readAct_186 (by decide) ?_
                      try simp only [if_pos hc56] at k57
                      exact mj_wk k57 trivial
          have h := hb35
          refine mj_if_ge (y := 0) (pc := 113) (tgt := 130) d_Md_readAct_113 (by decide) mj_hs (fun hc29 => ?_) (fun hc29 => ?_)
          · rw [if_pos hc29] at h
            obtain e_1 := inj1 h
            subst e_1
            exact mj_wk k34 (And.intro rfl trivial)
          · rw [if_neg hc29] at h
            refine mj_aload_n (pc := 116) (i := 0) d_Md_readAct_116 rfl rfl (by decide) ?_
            refine mj_getR (pc := 117) d_Md_readAct_117 fl_Md_41 sh_88 rfl rfl (by decide) (by decide) (by decide) ?_
            refine mj_iconst (pc := 120) (v := 2) d_Md_readAct_120 (by decide) ?_
            refine mj_aload_n (pc := 121) (i := 0) d_Md_readAct_121 rfl rfl (by decide) ?_
            refine mj_iconst (pc := 122) (v := 1) d_Md_readAct_122 (by decide) ?_
            refine mj_sipush (pc := 123) (v := 999) d_Md_readAct_123 (by decide) ?_
            obtain ⟨v30, C31, hb32, h⟩ := bd2_some h
            refine mj_callV (pc := 126) (b := 88) (vs := [.int 1, .int 999]) (st := [.int 2, .ref 99]) d_Md_readAct_126 bB_Md_readAct_Md_number lk_Md_113 iv_Md_number rc_88 rfl (Nat.le_of_ble_eq_true rfl) (Nat.le_of_ble_eq_true rfl) (r_Md_number hb32) ?_
            show mj_R M_Md_readAct 129 [some (.ref 88), none, none, none] [.int v30, .int 2, .ref 99] (SH, jn C C31) none (SH, jn C (C'))
            refine dj_iast (pc := 129) d_Md_readAct_129 sh_99 (by decide) (by decide) (by decide) ?_
            show mj_R M_Md_readAct 130 [some (.ref 88), none, none, none] [] (SH, jn C (mj_wr C31 99 2 v30)) none (SH, jn C (C'))
            obtain e_1 := inj1 h
            subst e_1
            exact mj_wk k34 (And.intro rfl trivial)
        have h := hb28
        refine mj_if_ge (y := 0) (pc := 87) (tgt := 109) d_Md_readAct_87 (by decide) mj_hs (fun hc22 => ?_) (fun hc22 => ?_)
        · rw [if_pos hc22] at h
          obtain e_1 := inj1 h
          subst e_1
          exact mj_wk k27 (And.intro rfl trivial)
        · rw [if_neg hc22] at h
          refine mj_iload_n (pc := 90) (i := 2) d_Md_readAct_90 rfl rfl ?_
          refine mj_if_eq (y := 0) (pc := 91) (tgt := 109) d_Md_readAct_91 (by decide) mj_hs (fun hc23 => ?_) (fun hc23 => ?_)
          · rw [if_pos hc23] at h
            obtain e_1 := inj1 h
            subst e_1
            exact mj_wk k27 (And.intro rfl trivial)
          · rw [if_neg hc23] at h
            refine mj_aload_n (pc := 94) (i := 0) d_Md_readAct_94 rfl rfl (by decide) ?_
            refine mj_getR (pc := 95) d_Md_readAct_95 fl_Md_41 sh_88 rfl rfl (by decide) (by decide) (by decide) ?_
            refine mj_iconst (pc := 98) (v := 1) d_Md_readAct_98 (by decide) ?_
            refine dj_iald (pc := 99) d_Md_readAct_99 sh_99 (by decide) (by decide) (by decide) ?_
            show mj_R M_Md_readAct 100 [some (.ref 88), some (.int x1), some (.int (if (C5 99 0) < 4 then 0 else 1 : Int32)), some (.int (C5 88 14))] [.int (mj_wr C19 99 1 w18 99 1)] (SH, jn C (mj_wr C19 99 1 w18)) none (SH, jn C (C'))
            refine mj_iload_n (pc := 100) (i := 1) d_Md_readAct_100 rfl rfl ?_
            refine mj_icmp_ne (pc := 101) (tgt := 109) d_Md_readAct_101 (by decide) mj_hs (fun hc25 => ?_) (fun hc25 => ?_)
            · rw [if_neg hc25] at h
              obtain e_1 := inj1 h
              subst e_1
              exact mj_wk k27 (And.intro rfl trivial)
            · rw [if_pos hc25] at h
              refine mj_aload_n (pc := 104) (i := 0) d_Md_readAct_104 rfl rfl (by decide) ?_
              refine mj_iload_n (pc := 105) (i := 3) d_Md_readAct_105 rfl rfl ?_
              refine dj_putI (pc := 106) d_Md_readAct_106 fl_Md_100 sh_88 rfl (fun _ _ _ h => by cases h; rfl) (by decide) (by decide) (by decide) ?_
              obtain e_1 := inj1 h
              subst e_1
              exact mj_wk k27 (And.intro rfl trivial)
      have h := hb21
      refine mj_if_eq (y := 0) (pc := 55) (tgt := 76) d_Md_readAct_55 (by decide) mj_hs (fun hc10 => ?_) (fun hc10 => ?_)
      · rw [if_pos hc10] at h
        refine mj_aload_n (pc := 76) (i := 0) d_Md_readAct_76 rfl rfl (by decide) ?_
        refine mj_iconst (pc := 77) (v := 0) d_Md_readAct_77 (by decide) ?_
        refine mj_iconst (pc := 78) (v := 4) d_Md_readAct_78 (by decide) ?_
        obtain ⟨v11, C12, hb13, h⟩ := bd2_some h
        refine mj_callV (pc := 79) (b := 88) (vs := [.int 0, .int 4]) (st := [.int 1, .ref 99]) d_Md_readAct_79 bB_Md_readAct_Md_number lk_Md_113 iv_Md_number rc_88 rfl (Nat.le_of_ble_eq_true rfl) (Nat.le_of_ble_eq_true rfl) (r_Md_number hb13) ?_
        show mj_R M_Md_readAct 82 [some (.ref 88), some (.int x1), some (.int (if (C5 99 0) < 4 then 0 else 1 : Int32)), some (.int (C5 88 14))] [.int v11, .int 1, .ref 99] (SH, jn C C12) none (SH, jn C (C'))
        obtain ⟨e_1, e_2⟩ := inj2 h
        subst e_1
        subst e_2
        exact mj_wk k20 (And.intro rfl (And.intro rfl (And.intro rfl (And.intro rfl trivial))))
      · rw [if_neg hc10] at h
        refine mj_aload_n (pc := 58) (i := 0) d_Md_readAct_58 rfl rfl (by decide) ?_
        refine mj_iconst (pc := 59) (v := 0) d_Md_readAct_59 (by decide) ?_
        refine mj_aload_n (pc := 60) (i := 0) d_Md_readAct_60 rfl rfl (by decide) ?_
        refine mj_getR (pc := 61) d_Md_readAct_61 fl_Md_7 sh_88 rfl rfl (by decide) (by decide) (by decide) ?_
        refine mj_sipush (pc := 64) (v := 2163) d_Md_readAct_64 (by decide) ?_
        refine dj_iald (pc := 67) d_Md_readAct_67 sh_89 (by decide) (by decide) (by decide) ?_
        show mj_R M_Md_readAct 68 [some (.ref 88), some (.int x1), some (.int (if (C5 99 0) < 4 then 0 else 1 : Int32)), some (.int (C5 88 14))] [.int (C5 89 2163), .int 0, .ref 88, .int 1, .ref 99] (SH, jn C C5) none (SH, jn C (C'))
        refine mj_iconst (pc := 68) (v := 1) d_Md_readAct_68 (by decide) ?_
        refine mj_isub (pc := 69) d_Md_readAct_69 ?_
        obtain ⟨v15, C16, hb17, h⟩ := bd2_some h
        refine mj_callV (pc := 70) (b := 88) (vs := [.int 0, .int ((C5 89 2163) - 1)]) (st := [.int 1, .ref 99]) d_Md_readAct_70 bB_Md_readAct_Md_number lk_Md_113 iv_Md_number rc_88 rfl (Nat.le_of_ble_eq_true rfl) (Nat.le_of_ble_eq_true rfl) (r_Md_number hb17) ?_
        show mj_R M_Md_readAct 73 [some (.ref 88), some (.int x1), some (.int (if (C5 99 0) < 4 then 0 else 1 : Int32)), some (.int (C5 88 14))] [.int v15, .int 1, .ref 99] (SH, jn C C16) none (SH, jn C (C'))
        refine mj_goto (pc := 73) (tgt := 82) d_Md_readAct_73 (by decide) ?_
        obtain ⟨e_1, e_2⟩ := inj2 h
        subst e_1
        subst e_2
        exact mj_wk k20 (And.intro rfl (And.intro rfl (And.intro rfl (And.intro rfl trivial))))
    refine mj_icmp_lt (pc := 35) (tgt := 42) d_Md_readAct_35 (by decide) mj_hs (fun hc8 => ?_) (fun hc8 => ?_)
    · refine mj_iconst (pc := 42) (v := 0) d_Md_readAct_42 (by decide) ?_
      try simp only [if_pos hc8] at k9
      exact mj_wk k9 (And.intro rfl (And.intro rfl trivial))
    · refine mj_iconst (pc := 38) (v := 1) d_Md_readAct_38 (by decide) ?_
      refine mj_goto (pc := 39) (tgt := 43) d_Md_readAct_39 (by decide) ?_
      try simp only [if_neg hc8] at k9
      exact mj_wk k9 (And.intro rfl (And.intro rfl trivial))
  · rw [if_neg hc4] at h
    refine mj_aload_n (pc := 19) (i := 0) d_Md_readAct_19 rfl rfl (by decide) ?_
    obtain ⟨C64, hb65, h⟩ := bd1_some h
    refine mj_callV (pc := 20) (b := 88) (vs := []) (st := []) d_Md_readAct_20 bB_Md_readAct_Md_fail lk_Md_103 iv_Md_fail rc_88 rfl (Nat.le_of_ble_eq_true rfl) (Nat.le_of_ble_eq_true rfl) (r_Md_fail hb65) ?_
    show mj_R M_Md_readAct 23 [some (.ref 88), some (.int x1), none, none] [] (SH, jn C C64) none (SH, jn C (C'))
    obtain e_1 := inj1 h
    subst e_1
    exact mj_vret (pc := 23) d_Md_readAct_23 rfl
