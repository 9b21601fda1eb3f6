set_option maxRecDepth 20000 in
theorem l_Md_freeOf_10 {r : Option Value} {X y : St} : ∀ (n : Nat) (y1 : Int32) (y2 : Int32) (y3 : Int32) (y4 : Int32) (C : St) (o3_ : Int32), L_Md_freeOf_10 n y1 y2 y3 y4 C = some o3_ → mj_R M_Md_freeOf 71 [none, none, none, some (.int o3_), none] [] (SH, jn X C) r (SH, y) → mj_R M_Md_freeOf 10 [some (.ref 88), some (.int y1), some (.int y2), some (.int y3), some (.int y4)] [] (SH, jn X C) r (SH, y) := by
  intro n
  induction n with
  | zero => intro y1 y2 y3 y4 C o3_ h; cases h
  | succ n ih =>
    intro y1 y2 y3 y4 C o3_ h hX
    unfold L_Md_freeOf_10 at h
    refine mj_iload (pc := 10) (i := 4) d_Md_freeOf_10 rfl ?_
    refine mj_aload_n (pc := 12) (i := 0) d_Md_freeOf_12 rfl rfl (by decide) ?_
    refine dj_getI (pc := 13) d_Md_freeOf_13 fl_Md_156 sh_88 rfl (by decide) (by decide) (by decide) ?_
    refine mj_icmp_ge (pc := 16) (tgt := 71) d_Md_freeOf_16 (by decide) mj_hs (fun hc3 => ?_) (fun hc3 => ?_)
    · rw [if_pos hc3] at h
      obtain e_1 := inj1 h
      subst e_1
      exact mj_wk hX (And.intro rfl trivial)
    · rw [if_neg hc3] at h
      refine mj_iload_n (pc := 19) (i := 3) d_Md_freeOf_19 rfl rfl ?_
      refine mj_aload_n (pc := 20) (i := 0) d_Md_freeOf_20 rfl rfl (by decide) ?_
      refine mj_getR (pc := 21) d_Md_freeOf_21 fl_Md_35 sh_88 rfl rfl (by decide) (by decide) (by decide) ?_
      refine mj_iload (pc := 24) (i := 4) d_Md_freeOf_24 rfl ?_
      obtain ⟨hg4, h⟩ := mj_gd h
      refine dj_zald (pc := 26) d_Md_freeOf_26 sh_97 (by decide) hg4 (by decide) ?_
      have k11 : mj_R M_Md_freeOf 63 [some (.ref 88), some (.int y1), some (.int y2), none, some (.int y4)] [.int (if (C 97 y4.toNatClampNeg) = 0 then (if (C 93 y4.toNatClampNeg) = y1 then (if (C 94 y4.toNatClampNeg) = y2 then C 95 y4.toNatClampNeg else 0 : Int32) else 0 : Int32) else 0 : Int32), .int y3] (SH, jn X C) r (SH, y) := by
        refine mj_isub (pc := 63) d_Md_freeOf_63 ?_
        refine mj_istore_n (pc := 64) (i := 3) d_Md_freeOf_64 rfl rfl (by decide) ?_
        refine mj_iinc (pc := 65) (i := 4) (v := y4 + 1) d_Md_freeOf_65 rfl (by rfl) rfl (by decide) ?_
        refine mj_goto (pc := 68) (tgt := 10) d_Md_freeOf_68 (by decide) ?_
        exact mj_weak [some (.ref 88), some (.int y1), some (.int y2), some (.int (y3 - (if (C 97 y4.toNatClampNeg) = 0 then (if (C 93 y4.toNatClampNeg) = y1 then (if (C 94 y4.toNatClampNeg) = y2 then C 95 y4.toNatClampNeg else 0 : Int32) else 0 : Int32) else 0 : Int32))), some (.int (y4 + 1))] (And.intro rfl (And.intro rfl (And.intro rfl (And.intro rfl (And.intro rfl trivial))))) (ih _ _ _ _ _ _ h hX)
      refine mj_if_ne (y := 0) (pc := 27) (tgt := 62) d_Md_freeOf_27 (by decide) mj_hs (fun hc5 => ?_) (fun hc5 => ?_)
      · refine mj_iconst (pc := 62) (v := 0) d_Md_freeOf_62 (by decide) ?_
        try simp only [if_neg hc5] at k11
        exact mj_wk k11 (And.intro rfl (And.intro rfl (And.intro rfl (And.intro rfl trivial))))
      · refine mj_aload_n (pc := 30) (i := 0) d_Md_freeOf_30 rfl rfl (by decide) ?_
        refine mj_getR (pc := 31) d_Md_freeOf_31 fl_Md_23 sh_88 rfl rfl (by decide) (by decide) (by decide) ?_
        refine mj_iload (pc := 34) (i := 4) d_Md_freeOf_34 rfl ?_
        refine dj_iald (pc := 36) d_Md_freeOf_36 sh_93 (by decide) hg4 (by decide) ?_
        refine mj_iload_n (pc := 37) (i := 1) d_Md_freeOf_37 rfl rfl ?_
        refine mj_icmp_ne (pc := 38) (tgt := 62) d_Md_freeOf_38 (by decide) mj_hs (fun hc7 => ?_) (fun hc7 => ?_)
        · refine mj_iconst (pc := 62) (v := 0) d_Md_freeOf_62 (by decide) ?_
          try simp only [if_pos hc5, if_neg hc7] at k11
          exact mj_wk k11 (And.intro rfl (And.intro rfl (And.intro rfl (And.intro rfl trivial))))
        · refine mj_aload_n (pc := 41) (i := 0) d_Md_freeOf_41 rfl rfl (by decide) ?_
          refine mj_getR (pc := 42) d_Md_freeOf_42 fl_Md_26 sh_88 rfl rfl (by decide) (by decide) (by decide) ?_
          refine mj_iload (pc := 45) (i := 4) d_Md_freeOf_45 rfl ?_
          refine dj_iald (pc := 47) d_Md_freeOf_47 sh_94 (by decide) hg4 (by decide) ?_
          refine mj_iload_n (pc := 48) (i := 2) d_Md_freeOf_48 rfl rfl ?_
          refine mj_icmp_ne (pc := 49) (tgt := 62) d_Md_freeOf_49 (by decide) mj_hs (fun hc9 => ?_) (fun hc9 => ?_)
          · refine mj_iconst (pc := 62) (v := 0) d_Md_freeOf_62 (by decide) ?_
            try simp only [if_pos hc5, if_pos hc7, if_neg hc9] at k11
            exact mj_wk k11 (And.intro rfl (And.intro rfl (And.intro rfl (And.intro rfl trivial))))
          · refine mj_aload_n (pc := 52) (i := 0) d_Md_freeOf_52 rfl rfl (by decide) ?_
            refine mj_getR (pc := 53) d_Md_freeOf_53 fl_Md_29 sh_88 rfl rfl (by decide) (by decide) (by decide) ?_
            refine mj_iload (pc := 56) (i := 4) d_Md_freeOf_56 rfl ?_
            refine dj_iald (pc := 58) d_Md_freeOf_58 sh_95 (by decide) hg4 (by decide) ?_
            refine mj_goto (pc := 59) (tgt := 63) d_Md_freeOf_59 (by decide) ?_
            try simp only [if_pos hc5, if_pos hc7, if_pos hc9] at k11
            exact mj_wk k11 (And.intro rfl (And.intro rfl (And.intro rfl (And.intro rfl trivial))))
set_option maxRecDepth 20000 in
theorem r_Md_freeOf {x1 : Int32} {x2 : Int32} {C C0 : St} {v : Int32} (h : f_Md_freeOf x1 x2 C0 = some v) : mj_R M_Md_freeOf 0 (mj_lv M_Md_freeOf.2.2.1 [.ref 88, .int x1, .int x2]) [] (SH, jn C C0) (some (.int v)) (SH, jn C C0) := by
  show mj_R M_Md_freeOf 0 [some (.ref 88), some (.int x1), some (.int x2), none, none] [] _ _ _
  unfold f_Md_freeOf at h
  refine mj_aload_n (pc := 0) (i := 0) d_Md_freeOf_0 rfl rfl (by decide) ?_
  refine mj_iload_n (pc := 1) (i := 1) d_Md_freeOf_1 rfl rfl ?_
  refine mj_iload_n (pc := 2) (i := 2) d_Md_freeOf_2 rfl rfl ?_
  obtain ⟨v1, hb2, h⟩ := bd1_some h
  refine mj_callV (pc := 3) (b := 88) (vs := [.int x1, .int x2]) (st := []) d_Md_freeOf_3 bB_Md_freeOf_Md_hasAll lk_Md_76 iv_Md_hasAll rc_88 rfl (Nat.le_of_ble_eq_true rfl) (Nat.le_of_ble_eq_true rfl) (r_Md_hasAll hb2) ?_
  show mj_R M_Md_freeOf 6 [some (.ref 88), some (.int x1), some (.int x2), none, none] [.int v1] (SH, jn C C0) (some (.int v)) (SH, jn C C0)
  refine mj_istore_n (pc := 6) (i := 3) d_Md_freeOf_6 rfl rfl (by decide) ?_
  refine mj_iconst (pc := 7) (v := 0) d_Md_freeOf_7 (by decide) ?_
  refine mj_istore (pc := 8) (i := 4) d_Md_freeOf_8 rfl (by decide) ?_
  obtain ⟨o12, hl13, h⟩ := bd1_some h
  refine mj_weak [some (.ref 88), some (.int x1), some (.int x2), some (.int v1), some (.int 0)] (And.intro rfl (And.intro rfl (And.intro rfl (And.intro rfl (And.intro rfl trivial))))) (l_Md_freeOf_10 3000 _ _ _ _ _ _ hl13 ?_)
  refine mj_iload_n (pc := 71) (i := 3) d_Md_freeOf_71 rfl rfl ?_
  obtain e_1 := inj1 h
  subst e_1
  exact mj_iret (pc := 72) d_Md_freeOf_72 rfl
set_option maxRecDepth 20000 in
theorem r_Md_less {x0 : Int32} {x1 : Int32} {mem : mj_Mem} {v : Int32} (h : f_Md_less x0 x1 = some v) : mj_R M_Md_less 0 (mj_lv M_Md_less.2.2.1 [.int x0, .int x1]) [] mem (some (.int v)) mem := by
  show mj_R M_Md_less 0 [some (.int x0), some (.int x1)] [] _ _ _
  unfold f_Md_less at h
  refine mj_iload_n (pc := 0) (i := 0) d_Md_less_0 rfl rfl ?_
  refine mj_iload_n (pc := 1) (i := 1) d_Md_less_1 rfl rfl ?_
  have k2 : mj_R M_Md_less 10 [none, none] [.int (if x1 ≤ x0 then x1 else x0 : Int32)] mem (some (.int v)) mem := by
    obtain e_1 := inj1 h
    subst e_1
    exact mj_iret (pc := 10) d_Md_less_10 rfl
  refine mj_icmp_ge (pc := 2) (tgt := 9) d_Md_less_2 (by decide) mj_hn (fun hc1 => ?_) (fun hc1 => ?_)
  · refine mj_iload_n (pc := 9) (i := 1) d_Md_less_9 rfl rfl ?_
    try simp only [if_pos hc1] at k2
    exact mj_wk k2 trivial
  · refine mj_iload_n (pc := 5) (i := 0) d_Md_less_5 rfl rfl ?_
    refine mj_goto (pc := 6) (tgt := 10) d_Md_less_6 (by decide) ?_
    try simp only [if_neg hc1] at k2
    exact mj_wk k2 trivial
set_option maxRecDepth 20000 in
theorem l_Md_go_7 {r : Option Value} {X y : St} : ∀ (n : Nat) (y1 : Int32) (y2 : Int32) (y4 : Int32) (y5 : Int32) (y6 : Int32) (C : St) (Q_ : St), L_Md_go_7 n y1 y2 y4 y5 y6 C = some Q_ → mj_R M_Md_go 75 [some (.ref 88), none, some (.int y2), none, some (.int y4), none, none, none] [] (SH, jn X Q_) r (SH, y) → mj_R M_Md_go 7 [some (.ref 88), some (.int y1), some (.int y2), none, some (.int y4), some (.int y5), some (.int y6), none] [] (SH, jn X C) r (SH, y) := by
  intro n
  induction n with
  | zero => intro y1 y2 y4 y5 y6 C Q_ h; cases h
  | succ n ih =>
    intro y1 y2 y4 y5 y6 C Q_ h hX
    unfold L_Md_go_7 at h
    refine mj_iload (pc := 7) (i := 6) d_Md_go_7 rfl ?_
    refine mj_if_lt (y := 0) (pc := 9) (tgt := 75) d_Md_go_9 (by decide) mj_hs (fun hc1 => ?_) (fun hc1 => ?_)
    · rw [if_pos hc1] at h
      obtain e_1 := inj1 h
      subst e_1
      exact mj_wk hX (And.intro rfl (And.intro rfl (And.intro rfl trivial)))
    · rw [if_neg hc1] at h
      refine mj_iload (pc := 12) (i := 5) d_Md_go_12 rfl ?_
      refine mj_aload_n (pc := 14) (i := 0) d_Md_go_14 rfl rfl (by decide) ?_
      refine mj_getR (pc := 15) d_Md_go_15 fl_Md_7 sh_88 rfl rfl (by decide) (by decide) (by decide) ?_
      refine mj_iload_n (pc := 18) (i := 1) d_Md_go_18 rfl rfl ?_
      refine mj_iload_n (pc := 19) (i := 2) d_Md_go_19 rfl rfl ?_
      refine mj_iload (pc := 20) (i := 6) d_Md_go_20 rfl ?_
      obtain ⟨v2, hb3, h⟩ := bd1_some h
      refine mj_callS (pc := 22) (vs := [.int y1, .int y2, .int y6]) (st := [.ref 89, .int y5]) d_Md_go_22 bB_Md_go_Md_ageAt lk_Md_57 st_Md_ageAt rfl (Nat.le_of_ble_eq_true rfl) (Nat.le_of_ble_eq_true rfl) (r_Md_ageAt hb3) ?_
      show mj_R M_Md_go 25 [some (.ref 88), some (.int y1), some (.int y2), none, some (.int y4), some (.int y5), some (.int y6), none] [.int v2, .ref 89, .int y5] (SH, jn X C) r (SH, y)
      obtain ⟨hg4, h⟩ := mj_gd h
      refine dj_iald (pc := 25) d_Md_go_25 sh_89 (by decide) hg4 (by decide) ?_
      obtain ⟨v5, hb6, h⟩ := bd1_some h
      refine mj_callS (pc := 26) (vs := [.int y5, .int (C 89 v2.toNatClampNeg)]) (st := []) d_Md_go_26 bB_Md_go_Md_less lk_Md_159 st_Md_less rfl (Nat.le_of_ble_eq_true rfl) (Nat.le_of_ble_eq_true rfl) (r_Md_less hb6) ?_
      show mj_R M_Md_go 29 [some (.ref 88), some (.int y1), some (.int y2), none, some (.int y4), some (.int y5), some (.int y6), none] [.int v5] (SH, jn X C) r (SH, y)
      refine mj_istore (pc := 29) (i := 7) d_Md_go_29 rfl (by decide) ?_
      refine mj_aload_n (pc := 31) (i := 0) d_Md_go_31 rfl rfl (by decide) ?_
      refine mj_getR (pc := 32) d_Md_go_32 fl_Md_7 sh_88 rfl rfl (by decide) (by decide) (by decide) ?_
      refine mj_iload_n (pc := 35) (i := 1) d_Md_go_35 rfl rfl ?_
      refine mj_iload_n (pc := 36) (i := 2) d_Md_go_36 rfl rfl ?_
      refine mj_iload (pc := 37) (i := 6) d_Md_go_37 rfl ?_
      obtain ⟨v7, hb8, h⟩ := bd1_some h
      refine mj_callS (pc := 39) (vs := [.int y1, .int y2, .int y6]) (st := [.ref 89]) d_Md_go_39 bB_Md_go_Md_ageAt lk_Md_57 st_Md_ageAt rfl (Nat.le_of_ble_eq_true rfl) (Nat.le_of_ble_eq_true rfl) (r_Md_ageAt hb8) ?_
      show mj_R M_Md_go 42 [some (.ref 88), some (.int y1), some (.int y2), none, some (.int y4), some (.int y5), some (.int y6), some (.int v5)] [.int v7, .ref 89] (SH, jn X C) r (SH, y)
      refine mj_dup2 (pc := 42) d_Md_go_42 rfl rfl ?_
      obtain ⟨hg9, h⟩ := mj_gd h
      refine dj_iald (pc := 43) d_Md_go_43 sh_89 (by decide) hg9 (by decide) ?_
      refine mj_iload (pc := 44) (i := 7) d_Md_go_44 rfl ?_
      refine mj_isub (pc := 46) d_Md_go_46 ?_
      refine dj_iast (pc := 47) d_Md_go_47 sh_89 (by decide) hg9 (by decide) ?_
      refine mj_iload (pc := 48) (i := 4) d_Md_go_48 rfl ?_
      obtain ⟨C12, hb14, h⟩ := bd1_some h
      have k13 : mj_R M_Md_go 62 [some (.ref 88), some (.int y1), some (.int y2), none, some (.int y4), some (.int y5), some (.int y6), some (.int v5)] [] (SH, jn X C12) r (SH, y) := by
        refine mj_iload (pc := 62) (i := 5) d_Md_go_62 rfl ?_
        refine mj_iload (pc := 64) (i := 7) d_Md_go_64 rfl ?_
        refine mj_isub (pc := 66) d_Md_go_66 ?_
        refine mj_istore (pc := 67) (i := 5) d_Md_go_67 rfl (by decide) ?_
        refine mj_iinc (pc := 69) (i := 6) (v := y6 + (-1)) d_Md_go_69 rfl (by rfl) rfl (by decide) ?_
        refine mj_goto (pc := 72) (tgt := 7) d_Md_go_72 (by decide) ?_
        exact mj_weak [some (.ref 88), some (.int y1), some (.int y2), none, some (.int y4), some (.int (y5 - v5)), some (.int (y6 + (-1))), none] (And.intro rfl (And.intro rfl (And.intro rfl (And.intro rfl (And.intro rfl (And.intro rfl trivial)))))) (ih _ _ _ _ _ _ _ h hX)
      have h := hb14
      refine mj_if_lt (y := 0) (pc := 50) (tgt := 62) d_Md_go_50 (by decide) mj_hs (fun hc10 => ?_) (fun hc10 => ?_)
      · rw [if_pos hc10] at h
        obtain e_1 := inj1 h
        subst e_1
        exact mj_wk k13 (And.intro rfl (And.intro rfl (And.intro rfl (And.intro rfl (And.intro rfl (And.intro rfl (And.intro rfl trivial)))))))
      · rw [if_neg hc10] at h
        refine mj_aload_n (pc := 53) (i := 0) d_Md_go_53 rfl rfl (by decide) ?_
        refine mj_getR (pc := 54) d_Md_go_54 fl_Md_47 sh_88 rfl rfl (by decide) (by decide) (by decide) ?_
        refine mj_iload (pc := 57) (i := 6) d_Md_go_57 rfl ?_
        refine mj_iload (pc := 59) (i := 7) d_Md_go_59 rfl ?_
        obtain ⟨hg11, h⟩ := mj_gd h
        refine dj_iast (pc := 61) d_Md_go_61 sh_101 (by decide) hg11 (by decide) ?_
        obtain e_1 := inj1 h
        subst e_1
        exact mj_wk k13 (And.intro rfl (And.intro rfl (And.intro rfl (And.intro rfl (And.intro rfl (And.intro rfl (And.intro rfl trivial)))))))
set_option maxRecDepth 20000 in
theorem l_Md_go_78 {r : Option Value} {X y : St} : ∀ (n : Nat) (y2 : Int32) (y4 : Int32) (y6 : Int32) (C : St) (Q_ : St), L_Md_go_78 n y2 y4 y6 C = some Q_ → mj_R M_Md_go 119 [none, none, none, none, none, none, none, none] [] (SH, jn X Q_) r (SH, y) → mj_R M_Md_go 78 [some (.ref 88), none, some (.int y2), none, some (.int y4), none, some (.int y6), none] [] (SH, jn X C) r (SH, y) := by
  intro n
  induction n with
  | zero => intro y2 y4 y6 C Q_ h; cases h
  | succ n ih =>
    intro y2 y4 y6 C Q_ h hX
    unfold L_Md_go_78 at h
    refine mj_iload (pc := 78) (i := 6) d_Md_go_78 rfl ?_
    refine mj_bipush (pc := 80) (v := 10) d_Md_go_80 (by decide) ?_
    refine mj_icmp_ge (pc := 82) (tgt := 119) d_Md_go_82 (by decide) mj_hs (fun hc17 => ?_) (fun hc17 => ?_)
    · rw [if_pos hc17] at h
      obtain e_1 := inj1 h
      subst e_1
      exact mj_wk hX trivial
    · rw [if_neg hc17] at h
      refine mj_iload (pc := 85) (i := 4) d_Md_go_85 rfl ?_
      refine mj_if_lt (y := 0) (pc := 87) (tgt := 119) d_Md_go_87 (by decide) mj_hs (fun hc18 => ?_) (fun hc18 => ?_)
      · rw [if_pos hc18] at h
        obtain e_1 := inj1 h
        subst e_1
        exact mj_wk hX trivial
      · rw [if_neg hc18] at h
        refine mj_aload_n (pc := 90) (i := 0) d_Md_go_90 rfl rfl (by decide) ?_
        refine mj_getR (pc := 91) d_Md_go_91 fl_Md_7 sh_88 rfl rfl (by decide) (by decide) (by decide) ?_
        refine mj_iload (pc := 94) (i := 4) d_Md_go_94 rfl ?_
        refine mj_iload_n (pc := 96) (i := 2) d_Md_go_96 rfl rfl ?_
        refine mj_iload (pc := 97) (i := 6) d_Md_go_97 rfl ?_
        obtain ⟨v19, hb20, h⟩ := bd1_some h
        refine mj_callS (pc := 99) (vs := [.int y4, .int y2, .int y6]) (st := [.ref 89]) d_Md_go_99 bB_Md_go_Md_ageAt lk_Md_57 st_Md_ageAt rfl (Nat.le_of_ble_eq_true rfl) (Nat.le_of_ble_eq_true rfl) (r_Md_ageAt hb20) ?_
        show mj_R M_Md_go 102 [some (.ref 88), none, some (.int y2), none, some (.int y4), none, some (.int y6), none] [.int v19, .ref 89] (SH, jn X C) r (SH, y)
        refine mj_dup2 (pc := 102) d_Md_go_102 rfl rfl ?_
        obtain ⟨hg21, h⟩ := mj_gd h
        refine dj_iald (pc := 103) d_Md_go_103 sh_89 (by decide) hg21 (by decide) ?_
        refine mj_aload_n (pc := 104) (i := 0) d_Md_go_104 rfl rfl (by decide) ?_
        refine mj_getR (pc := 105) d_Md_go_105 fl_Md_47 sh_88 rfl rfl (by decide) (by decide) (by decide) ?_
        refine mj_iload (pc := 108) (i := 6) d_Md_go_108 rfl ?_
        obtain ⟨hg22, h⟩ := mj_gd h
        refine dj_iald (pc := 110) d_Md_go_110 sh_101 (by decide) hg22 (by decide) ?_
        refine mj_iadd (pc := 111) d_Md_go_111 ?_
        refine dj_iast (pc := 112) d_Md_go_112 sh_89 (by decide) hg21 (by decide) ?_
        refine mj_iinc (pc := 113) (i := 6) (v := y6 + 1) d_Md_go_113 rfl (by rfl) rfl (by decide) ?_
        refine mj_goto (pc := 116) (tgt := 78) d_Md_go_116 (by decide) ?_
        exact mj_weak [some (.ref 88), none, some (.int y2), none, some (.int y4), none, some (.int (y6 + 1)), none] (And.intro rfl (And.intro rfl (And.intro rfl (And.intro rfl trivial)))) (ih _ _ _ _ _ h hX)
set_option maxRecDepth 20000 in
theorem r_Md_go {x1 : Int32} {x2 : Int32} {x3 : Int32} {x4 : Int32} {C C0 : St} {C' : St} (h : f_Md_go x1 x2 x3 x4 C0 = some (C')) : mj_R M_Md_go 0 (mj_lv M_Md_go.2.2.1 [.ref 88, .int x1, .int x2, .int x3, .int x4]) [] (SH, jn C C0) none (SH, jn C (C')) := by
  show mj_R M_Md_go 0 [some (.ref 88), some (.int x1), some (.int x2), some (.int x3), some (.int x4), none, none, none] [] _ _ _
  unfold f_Md_go at h
  refine mj_iload_n (pc := 0) (i := 3) d_Md_go_0 rfl rfl ?_
  refine mj_istore (pc := 1) (i := 5) d_Md_go_1 rfl (by decide) ?_
  refine mj_bipush (pc := 3) (v := 9) d_Md_go_3 (by decide) ?_
  refine mj_istore (pc := 5) (i := 6) d_Md_go_5 rfl (by decide) ?_
  obtain ⟨C15, hl16, h⟩ := bd1_some h
  refine mj_weak [some (.ref 88), some (.int x1), some (.int x2), none, some (.int x4), some (.int x3), some (.int 9), none] (And.intro rfl (And.intro rfl (And.intro rfl (And.intro rfl (And.intro rfl (And.intro rfl trivial)))))) (l_Md_go_7 3000 _ _ _ _ _ _ _ hl16 ?_)
  refine mj_iconst (pc := 75) (v := 0) d_Md_go_75 (by decide) ?_
  refine mj_istore (pc := 76) (i := 6) d_Md_go_76 rfl (by decide) ?_
  obtain ⟨C23, hl24, h⟩ := bd1_some h
  refine mj_weak [some (.ref 88), none, some (.int x2), none, some (.int x4), none, some (.int 0), none] (And.intro rfl (And.intro rfl (And.intro rfl (And.intro rfl trivial)))) (l_Md_go_78 3000 _ _ _ _ _ hl24 ?_)
  obtain e_1 := inj1 h
  subst e_1
  exact mj_vret (pc := 119) d_Md_go_119 rfl
set_option maxRecDepth 20000 in
theorem r_Md_addGood {x1 : Int32} {x2 : Int32} {x3 : Int32} {C C0 : St} {C' : St} (h : f_Md_addGood x1 x2 x3 C0 = some (C')) : mj_R M_Md_addGood 0 (mj_lv M_Md_addGood.2.2.1 [.ref 88, .int x1, .int x2, .int x3]) [] (SH, jn C C0) none (SH, jn C (C')) := by
  show mj_R M_Md_addGood 0 [some (.ref 88), some (.int x1), some (.int x2), some (.int x3)] [] _ _ _
  unfold f_Md_addGood at h
  refine mj_aload_n (pc := 0) (i := 0) d_Md_addGood_0 rfl rfl (by decide) ?_
  refine mj_getR (pc := 1) d_Md_addGood_1 fl_Md_7 sh_88 rfl rfl (by decide) (by decide) (by decide) ?_
  refine mj_sipush (pc := 4) (v := 1308) d_Md_addGood_4 (by decide) ?_
  refine mj_bipush (pc := 7) (v := 11) d_Md_addGood_7 (by decide) ?_
  refine mj_iload_n (pc := 9) (i := 1) d_Md_addGood_9 rfl rfl ?_
  refine mj_imul (pc := 10) d_Md_addGood_10 ?_
  refine mj_iadd (pc := 11) d_Md_addGood_11 ?_
  refine mj_iload_n (pc := 12) (i := 2) d_Md_addGood_12 rfl rfl ?_
  refine mj_iadd (pc := 13) d_Md_addGood_13 ?_
  refine mj_dup2 (pc := 14) d_Md_addGood_14 rfl rfl ?_
  obtain ⟨hg1, h⟩ := mj_gd h
  refine dj_iald (pc := 15) d_Md_addGood_15 sh_89 (by decide) hg1 (by decide) ?_
  refine mj_iload_n (pc := 16) (i := 3) d_Md_addGood_16 rfl rfl ?_
  refine mj_iadd (pc := 17) d_Md_addGood_17 ?_
  refine dj_iast (pc := 18) d_Md_addGood_18 sh_89 (by decide) hg1 (by decide) ?_
  obtain e_1 := inj1 h
  subst e_1
  exact mj_vret (pc := 19) d_Md_addGood_19 rfl
set_option maxRecDepth 20000 in
theorem r_Md_make {x1 : Int32} {x2 : Int32} {x3 : Int32} {C C0 : St} {C' : St} (h : f_Md_make x1 x2 x3 C0 = some (C')) : mj_R M_Md_make 0 (mj_lv M_Md_make.2.2.1 [.ref 88, .int x1, .int x2, .int x3]) [] (SH, jn C C0) none (SH, jn C (C')) := by
  show mj_R M_Md_make 0 [some (.ref 88), some (.int x1), some (.int x2), some (.int x3), none, none, none, none, none] [] _ _ _
  unfold f_Md_make at h
  refine mj_aload_n (pc := 0) (i := 0) d_Md_make_0 rfl rfl (by decide) ?_
  refine mj_iload_n (pc := 1) (i := 2) d_Md_make_1 rfl rfl ?_
  refine mj_bipush (pc := 2) (v := 8) d_Md_make_2 (by decide) ?_
  obtain ⟨v1, hb2, h⟩ := bd1_some h
  refine mj_callV (pc := 4) (b := 88) (vs := [.int x2, .int 8]) (st := []) d_Md_make_4 bB_Md_make_Md_goodIs lk_Md_153 iv_Md_goodIs rc_88 rfl (Nat.le_of_ble_eq_true rfl) (Nat.le_of_ble_eq_true rfl) (r_Md_goodIs hb2) ?_
  show mj_R M_Md_make 7 [some (.ref 88), some (.int x1), some (.int x2), some (.int x3), none, none, none, none, none] [.int v1] (SH, jn C C0) none (SH, jn C (C'))
  refine mj_istore (pc := 7) (i := 4) d_Md_make_7 rfl (by decide) ?_
  refine mj_iload (pc := 9) (i := 4) d_Md_make_9 rfl ?_
  refine mj_if_ge (y := 0) (pc := 11) (tgt := 15) d_Md_make_11 (by decide) mj_hs (fun hc3 => ?_) (fun hc3 => ?_)
  · rw [if_pos hc3] at h
    refine mj_aload_n (pc := 15) (i := 0) d_Md_make_15 rfl rfl (by decide) ?_
    refine mj_iload_n (pc := 16) (i := 2) d_Md_make_16 rfl rfl ?_
    refine mj_bipush (pc := 17) (v := 7) d_Md_make_17 (by decide) ?_
    obtain ⟨v4, hb5, h⟩ := bd1_some h
    refine mj_callV (pc := 19) (b := 88) (vs := [.int x2, .int 7]) (st := []) d_Md_make_19 bB_Md_make_Md_goodIs lk_Md_153 iv_Md_goodIs rc_88 rfl (Nat.le_of_ble_eq_true rfl) (Nat.le_of_ble_eq_true rfl) (r_Md_goodIs hb5) ?_
    show mj_R M_Md_make 22 [some (.ref 88), some (.int x1), some (.int x2), some (.int x3), some (.int v1), none, none, none, none] [.int v4] (SH, jn C C0) none (SH, jn C (C'))
    refine mj_istore (pc := 22) (i := 5) d_Md_make_22 rfl (by decide) ?_
    refine mj_aload_n (pc := 24) (i := 0) d_Md_make_24 rfl rfl (by decide) ?_
    refine mj_iload_n (pc := 25) (i := 2) d_Md_make_25 rfl rfl ?_
    refine mj_bipush (pc := 26) (v := 9) d_Md_make_26 (by decide) ?_
    obtain ⟨v6, hb7, h⟩ := bd1_some h
    refine mj_callV (pc := 28) (b := 88) (vs := [.int x2, .int 9]) (st := []) d_Md_make_28 bB_Md_make_Md_goodIs lk_Md_153 iv_Md_goodIs rc_88 rfl (Nat.le_of_ble_eq_true rfl) (Nat.le_of_ble_eq_true rfl) (r_Md_goodIs hb7) ?_
    show mj_R M_Md_make 31 [some (.ref 88), some (.int x1), some (.int x2), some (.int x3), some (.int v1), some (.int v4), none, none, none] [.int v6] (SH, jn C C0) none (SH, jn C (C'))
    refine mj_istore (pc := 31) (i := 6) d_Md_make_31 rfl (by decide) ?_
    refine mj_aload_n (pc := 33) (i := 0) d_Md_make_33 rfl rfl (by decide) ?_
    refine mj_iload_n (pc := 34) (i := 2) d_Md_make_34 rfl rfl ?_
    refine mj_bipush (pc := 35) (v := 10) d_Md_make_35 (by decide) ?_
    obtain ⟨v8, hb9, h⟩ := bd1_some h
    refine mj_callV (pc := 37) (b := 88) (vs := [.int x2, .int 10]) (st := []) d_Md_make_37 bB_Md_make_Md_goodIs lk_Md_153 iv_Md_goodIs rc_88 rfl (Nat.le_of_ble_eq_true rfl) (Nat.le_of_ble_eq_true rfl) (r_Md_goodIs hb9) ?_
    show mj_R M_Md_make 40 [some (.ref 88), some (.int x1), some (.int x2), some (.int x3), some (.int v1), some (.int v4), some (.int v6), none, none] [.int v8] (SH, jn C C0) none (SH, jn C (C'))
    refine mj_istore (pc := 40) (i := 7) d_Md_make_40 rfl (by decide) ?_
    refine mj_iload_n (pc := 42) (i := 3) d_Md_make_42 rfl rfl ?_
    refine mj_istore (pc := 43) (i := 8) d_Md_make_43 rfl (by decide) ?_
    refine mj_iload (pc := 45) (i := 5) d_Md_make_45 rfl ?_
    refine mj_iload (pc := 47) (i := 6) d_Md_make_47 rfl ?_
    obtain ⟨w38, hb40, h⟩ := bd1_some h
    have k39 : mj_R M_Md_make 142 [some (.ref 88), some (.int x1), some (.int x2), none, some (.int v1), some (.int v4), some (.int v6), some (.int v8), some (.int w38)] [] (SH, jn C C0) none (SH, jn C (C')) := by
      refine mj_aload_n (pc := 142) (i := 0) d_Md_make_142 rfl rfl (by decide) ?_
      refine mj_iload_n (pc := 143) (i := 1) d_Md_make_143 rfl rfl ?_
      refine mj_iload (pc := 144) (i := 5) d_Md_make_144 rfl ?_
      refine mj_iload (pc := 146) (i := 8) d_Md_make_146 rfl ?_
      refine mj_iload (pc := 148) (i := 4) d_Md_make_148 rfl ?_
      refine mj_imul (pc := 150) d_Md_make_150 ?_
      refine mj_iconst (pc := 151) (v := -1) d_Md_make_151 (by decide) ?_
      obtain ⟨C41, hb42, h⟩ := bd1_some h
      refine mj_callV (pc := 152) (b := 88) (vs := [.int x1, .int v4, .int (w38 * v1), .int (-1)]) (st := []) d_Md_make_152 bB_Md_make_Md_go lk_Md_165 iv_Md_go rc_88 rfl (Nat.le_of_ble_eq_true rfl) (Nat.le_of_ble_eq_true rfl) (r_Md_go hb42) ?_
      show mj_R M_Md_make 155 [some (.ref 88), some (.int x1), some (.int x2), none, some (.int v1), some (.int v4), some (.int v6), some (.int v8), some (.int w38)] [] (SH, jn C C41) none (SH, jn C (C'))
      refine mj_aload_n (pc := 155) (i := 0) d_Md_make_155 rfl rfl (by decide) ?_
      refine mj_iload_n (pc := 156) (i := 1) d_Md_make_156 rfl rfl ?_
      refine mj_iload (pc := 157) (i := 6) d_Md_make_157 rfl ?_
      refine mj_iload (pc := 159) (i := 8) d_Md_make_159 rfl ?_
      refine mj_iload (pc := 161) (i := 7) d_Md_make_161 rfl ?_
      refine mj_imul (pc := 163) d_Md_make_163 ?_
      refine mj_iconst (pc := 164) (v := -1) d_Md_make_164 (by decide) ?_
      obtain ⟨C43, hb44, h⟩ := bd1_some h
      refine mj_callV (pc := 165) (b := 88) (vs := [.int x1, .int v6, .int (w38 * v8), .int (-1)]) (st := []) d_Md_make_165 bB_Md_make_Md_go lk_Md_165 iv_Md_go rc_88 rfl (Nat.le_of_ble_eq_true rfl) (Nat.le_of_ble_eq_true rfl) (r_Md_go hb44) ?_
      show mj_R M_Md_make 168 [some (.ref 88), some (.int x1), some (.int x2), none, some (.int v1), some (.int v4), some (.int v6), some (.int v8), some (.int w38)] [] (SH, jn C C43) none (SH, jn C (C'))
      refine mj_aload_n (pc := 168) (i := 0) d_Md_make_168 rfl rfl (by decide) ?_
      refine mj_getR (pc := 169) d_Md_make_169 fl_Md_7 sh_88 rfl rfl (by decide) (by decide) (by decide) ?_
      refine mj_iload_n (pc := 172) (i := 1) d_Md_make_172 rfl rfl ?_
      refine mj_iload_n (pc := 173) (i := 2) d_Md_make_173 rfl rfl ?_
      refine mj_iconst (pc := 174) (v := 0) d_Md_make_174 (by decide) ?_
      obtain ⟨v45, hb46, h⟩ := bd1_some h
      refine mj_callS (pc := 175) (vs := [.int x1, .int x2, .int 0]) (st := [.ref 89]) d_Md_make_175 bB_Md_make_Md_ageAt lk_Md_57 st_Md_ageAt rfl (Nat.le_of_ble_eq_true rfl) (Nat.le_of_ble_eq_true rfl) (r_Md_ageAt hb46) ?_
      show mj_R M_Md_make 178 [some (.ref 88), some (.int x1), some (.int x2), none, some (.int v1), some (.int v4), some (.int v6), some (.int v8), some (.int w38)] [.int v45, .ref 89] (SH, jn C C43) none (SH, jn C (C'))
      refine mj_dup2 (pc := 178) d_Md_make_178 rfl rfl ?_
      obtain ⟨hg47, h⟩ := mj_gd h
      refine dj_iald (pc := 179) d_Md_make_179 sh_89 (by decide) hg47 (by decide) ?_
      refine mj_iload (pc := 180) (i := 8) d_Md_make_180 rfl ?_
      refine mj_iadd (pc := 182) d_Md_make_182 ?_
      refine dj_iast (pc := 183) d_Md_make_183 sh_89 (by decide) hg47 (by decide) ?_
      refine mj_aload_n (pc := 184) (i := 0) d_Md_make_184 rfl rfl (by decide) ?_
      refine mj_iload_n (pc := 185) (i := 2) d_Md_make_185 rfl rfl ?_
      refine mj_iconst (pc := 186) (v := 5) d_Md_make_186 (by decide) ?_
      refine mj_iload (pc := 187) (i := 8) d_Md_make_187 rfl ?_
      obtain ⟨C48, hb49, h⟩ := bd1_some h
      refine mj_callV (pc := 189) (b := 88) (vs := [.int x2, .int 5, .int w38]) (st := []) d_Md_make_189 bB_Md_make_Md_addGood lk_Md_169 iv_Md_addGood rc_88 rfl (Nat.le_of_ble_eq_true rfl) (Nat.le_of_ble_eq_true rfl) (r_Md_addGood hb49) ?_
      show mj_R M_Md_make 192 [some (.ref 88), some (.int x1), some (.int x2), none, some (.int v1), some (.int v4), some (.int v6), some (.int v8), some (.int w38)] [] (SH, jn C C48) none (SH, jn C (C'))
      obtain e_1 := inj1 h
      subst e_1
      exact mj_vret (pc := 192) d_Md_make_192 rfl
    have h := hb40
    refine mj_icmp_ne (pc := 49) (tgt := 88) d_Md_make_49 (by decide) mj_hs (fun hc10 => ?_) (fun hc10 => ?_)
    · rw [if_neg hc10] at h
      refine mj_iload (pc := 88) (i := 4) d_Md_make_88 rfl ?_
      obtain ⟨w17, hb19, h⟩ := bd1_some h
      have k18 : mj_R M_Md_make 113 [some (.ref 88), some (.int x1), some (.int x2), none, some (.int v1), some (.int v4), some (.int v6), some (.int v8), none] [.int w17] (SH, jn C C0) none (SH, jn C (C')) := by
        refine mj_istore (pc := 113) (i := 8) d_Md_make_113 rfl (by decide) ?_
        refine mj_iload (pc := 115) (i := 7) d_Md_make_115 rfl ?_
        obtain ⟨w26, hb28, h⟩ := bd1_some h
        have k27 : mj_R M_Md_make 140 [some (.ref 88), some (.int x1), some (.int x2), none, some (.int v1), some (.int v4), some (.int v6), some (.int v8), none] [.int w26] (SH, jn C C0) none (SH, jn C (C')) := by
          refine mj_istore (pc := 140) (i := 8) d_Md_make_140 rfl (by decide) ?_
          obtain e_1 := inj1 h
          subst e_1
          exact mj_wk k39 (And.intro rfl (And.intro rfl (And.intro rfl (And.intro rfl (And.intro rfl (And.intro rfl (And.intro rfl (And.intro rfl trivial))))))))
        have h := hb28
        refine mj_if_le (y := 0) (pc := 117) (tgt := 138) d_Md_make_117 (by decide) mj_hs (fun hc20 => ?_) (fun hc20 => ?_)
        · rw [if_pos hc20] at h
          refine mj_iload (pc := 138) (i := 8) d_Md_make_138 rfl ?_
          obtain e_1 := inj1 h
          subst e_1
          exact mj_wk k27 (And.intro rfl (And.intro rfl (And.intro rfl (And.intro rfl (And.intro rfl (And.intro rfl (And.intro rfl trivial)))))))
        · rw [if_neg hc20] at h
          refine mj_iload (pc := 120) (i := 8) d_Md_make_120 rfl ?_
          refine mj_aload_n (pc := 122) (i := 0) d_Md_make_122 rfl rfl (by decide) ?_
          refine mj_iload_n (pc := 123) (i := 1) d_Md_make_123 rfl rfl ?_
          refine mj_iload (pc := 124) (i := 6) d_Md_make_124 rfl ?_
          obtain ⟨v21, hb22, h⟩ := bd1_some h
          refine mj_callV (pc := 126) (b := 88) (vs := [.int x1, .int v6]) (st := [.int w17]) d_Md_make_126 bB_Md_make_Md_freeOf lk_Md_162 iv_Md_freeOf rc_88 rfl (Nat.le_of_ble_eq_true rfl) (Nat.le_of_ble_eq_true rfl) (r_Md_freeOf hb22) ?_
          show mj_R M_Md_make 129 [some (.ref 88), some (.int x1), some (.int x2), none, some (.int v1), some (.int v4), some (.int v6), some (.int v8), some (.int w17)] [.int v21, .int w17] (SH, jn C C0) none (SH, jn C (C'))
          refine mj_iload (pc := 129) (i := 7) d_Md_make_129 rfl ?_
          obtain ⟨hg23, h⟩ := mj_gz h
          refine mj_idiv (pc := 131) d_Md_make_131 hg23 ?_
          obtain ⟨v24, hb25, h⟩ := bd1_some h
          refine mj_callS (pc := 132) (vs := [.int w17, .int (v21 / v8)]) (st := []) d_Md_make_132 bB_Md_make_Md_less lk_Md_159 st_Md_less rfl (Nat.le_of_ble_eq_true rfl) (Nat.le_of_ble_eq_true rfl) (r_Md_less hb25) ?_
          show mj_R M_Md_make 135 [some (.ref 88), some (.int x1), some (.int x2), none, some (.int v1), some (.int v4), some (.int v6), some (.int v8), some (.int w17)] [.int v24] (SH, jn C C0) none (SH, jn C (C'))
          refine mj_goto (pc := 135) (tgt := 140) d_Md_make_135 (by decide) ?_
          obtain e_1 := inj1 h
          subst e_1
          exact mj_wk k27 (And.intro rfl (And.intro rfl (And.intro rfl (And.intro rfl (And.intro rfl (And.intro rfl (And.intro rfl trivial)))))))
      have h := hb19
      refine mj_if_le (y := 0) (pc := 90) (tgt := 111) d_Md_make_90 (by decide) mj_hs (fun hc11 => ?_) (fun hc11 => ?_)
      · rw [if_pos hc11] at h
        refine mj_iload (pc := 111) (i := 8) d_Md_make_111 rfl ?_
        obtain e_1 := inj1 h
        subst e_1
        exact mj_wk k18 (And.intro rfl (And.intro rfl (And.intro rfl (And.intro rfl (And.intro rfl (And.intro rfl (And.intro rfl trivial)))))))
      · rw [if_neg hc11] at h
        refine mj_iload (pc := 93) (i := 8) d_Md_make_93 rfl ?_
        refine mj_aload_n (pc := 95) (i := 0) d_Md_make_95 rfl rfl (by decide) ?_
        refine mj_iload_n (pc := 96) (i := 1) d_Md_make_96 rfl rfl ?_
        refine mj_iload (pc := 97) (i := 5) d_Md_make_97 rfl ?_
        obtain ⟨v12, hb13, h⟩ := bd1_some h
        refine mj_callV (pc := 99) (b := 88) (vs := [.int x1, .int v4]) (st := [.int x3]) d_Md_make_99 bB_Md_make_Md_freeOf lk_Md_162 iv_Md_freeOf rc_88 rfl (Nat.le_of_ble_eq_true rfl) (Nat.le_of_ble_eq_true rfl) (r_Md_freeOf hb13) ?_
        show mj_R M_Md_make 102 [some (.ref 88), some (.int x1), some (.int x2), some (.int x3), some (.int v1), some (.int v4), some (.int v6), some (.int v8), some (.int x3)] [.int v12, .int x3] (SH, jn C C0) none (SH, jn C (C'))
        refine mj_iload (pc := 102) (i := 4) d_Md_make_102 rfl ?_
        obtain ⟨hg14, h⟩ := mj_gz h
        refine mj_idiv (pc := 104) d_Md_make_104 hg14 ?_
        obtain ⟨v15, hb16, h⟩ := bd1_some h
        refine mj_callS (pc := 105) (vs := [.int x3, .int (v12 / v1)]) (st := []) d_Md_make_105 bB_Md_make_Md_less lk_Md_159 st_Md_less rfl (Nat.le_of_ble_eq_true rfl) (Nat.le_of_ble_eq_true rfl) (r_Md_less hb16) ?_
        show mj_R M_Md_make 108 [some (.ref 88), some (.int x1), some (.int x2), some (.int x3), some (.int v1), some (.int v4), some (.int v6), some (.int v8), some (.int x3)] [.int v15] (SH, jn C C0) none (SH, jn C (C'))
        refine mj_goto (pc := 108) (tgt := 113) d_Md_make_108 (by decide) ?_
        obtain e_1 := inj1 h
        subst e_1
        exact mj_wk k18 (And.intro rfl (And.intro rfl (And.intro rfl (And.intro rfl (And.intro rfl (And.intro rfl (And.intro rfl trivial)))))))
    · rw [if_pos hc10] at h
      refine mj_iload (pc := 52) (i := 4) d_Md_make_52 rfl ?_
      refine mj_iload (pc := 54) (i := 7) d_Md_make_54 rfl ?_
      refine mj_iadd (pc := 56) d_Md_make_56 ?_
      obtain ⟨w35, hb37, h⟩ := bd1_some h
      have k36 : mj_R M_Md_make 83 [some (.ref 88), some (.int x1), some (.int x2), none, some (.int v1), some (.int v4), some (.int v6), some (.int v8), none] [.int w35] (SH, jn C C0) none (SH, jn C (C')) := by
        refine mj_istore (pc := 83) (i := 8) d_Md_make_83 rfl (by decide) ?_
        refine mj_goto (pc := 85) (tgt := 142) d_Md_make_85 (by decide) ?_
        obtain e_1 := inj1 h
        subst e_1
        exact mj_wk k39 (And.intro rfl (And.intro rfl (And.intro rfl (And.intro rfl (And.intro rfl (And.intro rfl (And.intro rfl (And.intro rfl trivial))))))))
      have h := hb37
      refine mj_if_le (y := 0) (pc := 57) (tgt := 81) d_Md_make_57 (by decide) mj_hs (fun hc29 => ?_) (fun hc29 => ?_)
      · rw [if_pos hc29] at h
        refine mj_iload (pc := 81) (i := 8) d_Md_make_81 rfl ?_
        obtain e_1 := inj1 h
        subst e_1
        exact mj_wk k36 (And.intro rfl (And.intro rfl (And.intro rfl (And.intro rfl (And.intro rfl (And.intro rfl (And.intro rfl trivial)))))))
      · rw [if_neg hc29] at h
        refine mj_iload (pc := 60) (i := 8) d_Md_make_60 rfl ?_
        refine mj_aload_n (pc := 62) (i := 0) d_Md_make_62 rfl rfl (by decide) ?_
        refine mj_iload_n (pc := 63) (i := 1) d_Md_make_63 rfl rfl ?_
        refine mj_iload (pc := 64) (i := 5) d_Md_make_64 rfl ?_
        obtain ⟨v30, hb31, h⟩ := bd1_some h
        refine mj_callV (pc := 66) (b := 88) (vs := [.int x1, .int v4]) (st := [.int x3]) d_Md_make_66 bB_Md_make_Md_freeOf lk_Md_162 iv_Md_freeOf rc_88 rfl (Nat.le_of_ble_eq_true rfl) (Nat.le_of_ble_eq_true rfl) (r_Md_freeOf hb31) ?_
        show mj_R M_Md_make 69 [some (.ref 88), some (.int x1), some (.int x2), some (.int x3), some (.int v1), some (.int v4), some (.int v6), some (.int v8), some (.int x3)] [.int v30, .int x3] (SH, jn C C0) none (SH, jn C (C'))
        refine mj_iload (pc := 69) (i := 4) d_Md_make_69 rfl ?_
        refine mj_iload (pc := 71) (i := 7) d_Md_make_71 rfl ?_
        refine mj_iadd (pc := 73) d_Md_make_73 ?_
        obtain ⟨hg32, h⟩ := mj_gz h
        refine mj_idiv (pc := 74) d_Md_make_74 hg32 ?_
        obtain ⟨v33, hb34, h⟩ := bd1_some h
        refine mj_callS (pc := 75) (vs := [.int x3, .int (v30 / (v1 + v8))]) (st := []) d_Md_make_75 bB_Md_make_Md_less lk_Md_159 st_Md_less rfl (Nat.le_of_ble_eq_true rfl) (Nat.le_of_ble_eq_true rfl) (r_Md_less hb34) ?_
        show mj_R M_Md_make 78 [some (.ref 88), some (.int x1), some (.int x2), some (.int x3), some (.int v1), some (.int v4), some (.int v6), some (.int v8), some (.int x3)] [.int v33] (SH, jn C C0) none (SH, jn C (C'))
        refine mj_goto (pc := 78) (tgt := 83) d_Md_make_78 (by decide) ?_
        obtain e_1 := inj1 h
        subst e_1
        exact mj_wk k36 (And.intro rfl (And.intro rfl (And.intro rfl (And.intro rfl (And.intro rfl (And.intro rfl (And.intro rfl trivial)))))))
  · rw [if_neg hc3] at h
    obtain e_1 := inj1 h
    subst e_1
    exact mj_vret (pc := 14) d_Md_make_14 rfl
set_option maxRecDepth 20000 in
theorem r_Md_offer {x1 : Int32} {x2 : Int32} {x3 : Int32} {x4 : Int32} {x5 : Int32} {C C0 : St} {C' : St} (h : f_Md_offer x1 x2 x3 x4 x5 C0 = some (C')) : mj_R M_Md_offer 0 (mj_lv M_Md_offer.2.2.1 [.ref 88, .int x1, .int x2, .int x3, .int x4, .int x5]) [] (SH, jn C C0) none (SH, jn C (C')) := by
  show mj_R M_Md_offer 0 [some (.ref 88), some (.int x1), some (.int x2), some (.int x3), some (.int x4), some (.int x5)] [] _ _ _
  unfold f_Md_offer at h
  refine mj_iload_n (pc := 0) (i := 3) d_Md_offer_0 rfl rfl ?_
  refine mj_if_ne (y := 0) (pc := 1) (tgt := 5) d_Md_offer_1 (by decide) mj_hs (fun hc1 => ?_) (fun hc1 => ?_)
  · rw [if_neg hc1] at h
    refine mj_aload_n (pc := 5) (i := 0) d_Md_offer_5 rfl rfl (by decide) ?_
    refine mj_getR (pc := 6) d_Md_offer_6 fl_Md_23 sh_88 rfl rfl (by decide) (by decide) (by decide) ?_
    refine mj_aload_n (pc := 9) (i := 0) d_Md_offer_9 rfl rfl (by decide) ?_
    refine dj_getI (pc := 10) d_Md_offer_10 fl_Md_156 sh_88 rfl (by decide) (by decide) (by decide) ?_
    refine mj_iload_n (pc := 13) (i := 1) d_Md_offer_13 rfl rfl ?_
    obtain ⟨hg2, h⟩ := mj_gd h
    refine dj_iast (pc := 14) d_Md_offer_14 sh_93 (by decide) hg2 (by decide) ?_
    refine mj_aload_n (pc := 15) (i := 0) d_Md_offer_15 rfl rfl (by decide) ?_
    refine mj_getR (pc := 16) d_Md_offer_16 fl_Md_26 sh_88 rfl rfl (by decide) (by decide) (by decide) ?_
    refine mj_aload_n (pc := 19) (i := 0) d_Md_offer_19 rfl rfl (by decide) ?_
    refine dj_getI (pc := 20) d_Md_offer_20 fl_Md_156 sh_88 rfl (by decide) (by decide) (by decide) ?_
    refine mj_iload_n (pc := 23) (i := 2) d_Md_offer_23 rfl rfl ?_
    obtain ⟨hg3, h⟩ := mj_gd h
    refine dj_iast (pc := 24) d_Md_offer_24 sh_94 (by decide) hg3 (by decide) ?_
    refine mj_aload_n (pc := 25) (i := 0) d_Md_offer_25 rfl rfl (by decide) ?_
    refine mj_getR (pc := 26) d_Md_offer_26 fl_Md_29 sh_88 rfl rfl (by decide) (by decide) (by decide) ?_
    refine mj_aload_n (pc := 29) (i := 0) d_Md_offer_29 rfl rfl (by decide) ?_
    refine dj_getI (pc := 30) d_Md_offer_30 fl_Md_156 sh_88 rfl (by decide) (by decide) (by decide) ?_
    refine mj_iload_n (pc := 33) (i := 3) d_Md_offer_33 rfl rfl ?_
    obtain ⟨hg4, h⟩ := mj_gd h
    refine dj_iast (pc := 34) d_Md_offer_34 sh_95 (by decide) hg4 (by decide) ?_
    refine mj_aload_n (pc := 35) (i := 0) d_Md_offer_35 rfl rfl (by decide) ?_
    refine mj_getR (pc := 36) d_Md_offer_36 fl_Md_38 sh_88 rfl rfl (by decide) (by decide) (by decide) ?_
    refine mj_aload_n (pc := 39) (i := 0) d_Md_offer_39 rfl rfl (by decide) ?_
    refine dj_getI (pc := 40) d_Md_offer_40 fl_Md_156 sh_88 rfl (by decide) (by decide) (by decide) ?_
    refine mj_iload_n (pc := 43) (i := 3) d_Md_offer_43 rfl rfl ?_
    obtain ⟨hg5, h⟩ := mj_gd h
    refine dj_iast (pc := 44) d_Md_offer_44 sh_98 (by decide) hg5 (by decide) ?_
    refine mj_aload_n (pc := 45) (i := 0) d_Md_offer_45 rfl rfl (by decide) ?_
    refine mj_getR (pc := 46) d_Md_offer_46 fl_Md_32 sh_88 rfl rfl (by decide) (by decide) (by decide) ?_
    refine mj_aload_n (pc := 49) (i := 0) d_Md_offer_49 rfl rfl (by decide) ?_
    refine dj_getI (pc := 50) d_Md_offer_50 fl_Md_156 sh_88 rfl (by decide) (by decide) (by decide) ?_
    refine mj_iload (pc := 53) (i := 4) d_Md_offer_53 rfl ?_
    obtain ⟨hg6, h⟩ := mj_gd h
    refine dj_iast (pc := 55) d_Md_offer_55 sh_96 (by decide) hg6 (by decide) ?_
    refine mj_aload_n (pc := 56) (i := 0) d_Md_offer_56 rfl rfl (by decide) ?_
    refine mj_getR (pc := 57) d_Md_offer_57 fl_Md_35 sh_88 rfl rfl (by decide) (by decide) (by decide) ?_
    refine mj_aload_n (pc := 60) (i := 0) d_Md_offer_60 rfl rfl (by decide) ?_
    refine dj_getI (pc := 61) d_Md_offer_61 fl_Md_156 sh_88 rfl (by decide) (by decide) (by decide) ?_
    refine mj_iload (pc := 64) (i := 5) d_Md_offer_64 rfl ?_
    obtain ⟨hg7, h⟩ := mj_gd h
    refine dj_zast (pc := 66) d_Md_offer_66 sh_97 (by decide) hg7 (by decide) ?_
    refine mj_aload_n (pc := 67) (i := 0) d_Md_offer_67 rfl rfl (by decide) ?_
    refine mj_dup (pc := 68) d_Md_offer_68 rfl ?_
    refine dj_getI (pc := 69) d_Md_offer_69 fl_Md_156 sh_88 rfl (by decide) (by decide) (by decide) ?_
    refine mj_iconst (pc := 72) (v := 1) d_Md_offer_72 (by decide) ?_
    refine mj_iadd (pc := 73) d_Md_offer_73 ?_
    refine dj_putI (pc := 74) d_Md_offer_74 fl_Md_156 sh_88 rfl (fun _ _ _ h => by cases h; rfl) (by decide) (by decide) (by decide) ?_
    obtain e_1 := inj1 h
    subst e_1
    exact mj_vret (pc := 77) d_Md_offer_77 rfl
  · rw [if_pos hc1] at h
    obtain e_1 := inj1 h
    subst e_1
    exact mj_vret (pc := 4) d_Md_offer_4 rfl
set_option maxRecDepth 20000 in
theorem l_Md_freeCash_8 {r : Option Value} {X y : St} : ∀ (n : Nat) (y1 : Int32) (y2 : Int32) (y3 : Int32) (C : St) (o2_ : Int32), L_Md_freeCash_8 n y1 y2 y3 C = some o2_ → mj_R M_Md_freeCash 61 [none, none, some (.int o2_), none] [] (SH, jn X C) r (SH, y) → mj_R M_Md_freeCash 8 [some (.ref 88), some (.int y1), some (.int y2), some (.int y3)] [] (SH, jn X C) r (SH, y) := by
  intro n
  induction n with
  | zero => intro y1 y2 y3 C o2_ h; cases h
  | succ n ih =>
    intro y1 y2 y3 C o2_ h hX
    unfold L_Md_freeCash_8 at h
    refine mj_iload_n (pc := 8) (i := 3) d_Md_freeCash_8 rfl rfl ?_
    refine mj_aload_n (pc := 9) (i := 0) d_Md_freeCash_9 rfl rfl (by decide) ?_
    refine dj_getI (pc := 10) d_Md_freeCash_10 fl_Md_156 sh_88 rfl (by decide) (by decide) (by decide) ?_
    refine mj_icmp_ge (pc := 13) (tgt := 61) d_Md_freeCash_13 (by decide) mj_hs (fun hc3 => ?_) (fun hc3 => ?_)
    · rw [if_pos hc3] at h
      obtain e_1 := inj1 h
      subst e_1
      exact mj_wk hX (And.intro rfl trivial)
    · rw [if_neg hc3] at h
      refine mj_iload_n (pc := 16) (i := 2) d_Md_freeCash_16 rfl rfl ?_
      refine mj_aload_n (pc := 17) (i := 0) d_Md_freeCash_17 rfl rfl (by decide) ?_
      refine mj_getR (pc := 18) d_Md_freeCash_18 fl_Md_35 sh_88 rfl rfl (by decide) (by decide) (by decide) ?_
      refine mj_iload_n (pc := 21) (i := 3) d_Md_freeCash_21 rfl rfl ?_
      obtain ⟨hg4, h⟩ := mj_gd h
      refine dj_zald (pc := 22) d_Md_freeCash_22 sh_97 (by decide) hg4 (by decide) ?_
      have k10 : mj_R M_Md_freeCash 53 [some (.ref 88), some (.int y1), none, some (.int y3)] [.int (if (C 97 y3.toNatClampNeg) = 0 then 0 else (if (C 93 y3.toNatClampNeg) = y1 then (C 95 y3.toNatClampNeg) * (C 96 y3.toNatClampNeg) else 0 : Int32) : Int32), .int y2] (SH, jn X C) r (SH, y) := by
        refine mj_isub (pc := 53) d_Md_freeCash_53 ?_
        refine mj_istore_n (pc := 54) (i := 2) d_Md_freeCash_54 rfl rfl (by decide) ?_
        refine mj_iinc (pc := 55) (i := 3) (v := y3 + 1) d_Md_freeCash_55 rfl (by rfl) rfl (by decide) ?_
        refine mj_goto (pc := 58) (tgt := 8) d_Md_freeCash_58 (by decide) ?_
        exact mj_weak [some (.ref 88), some (.int y1), some (.int (y2 - (if (C 97 y3.toNatClampNeg) = 0 then 0 else (if (C 93 y3.toNatClampNeg) = y1 then (C 95 y3.toNatClampNeg) * (C 96 y3.toNatClampNeg) else 0 : Int32) : Int32))), some (.int (y3 + 1))] (And.intro rfl (And.intro rfl (And.intro rfl (And.intro rfl trivial)))) (ih _ _ _ _ _ h hX)
      refine mj_if_eq (y := 0) (pc := 23) (tgt := 52) d_Md_freeCash_23 (by decide) mj_hs (fun hc5 => ?_) (fun hc5 => ?_)
      · refine mj_iconst (pc := 52) (v := 0) d_Md_freeCash_52 (by decide) ?_
        try simp only [if_pos hc5] at k10
        exact mj_wk k10 (And.intro rfl (And.intro rfl (And.intro rfl trivial)))
      · refine mj_aload_n (pc := 26) (i := 0) d_Md_freeCash_26 rfl rfl (by decide) ?_
        refine mj_getR (pc := 27) d_Md_freeCash_27 fl_Md_23 sh_88 rfl rfl (by decide) (by decide) (by decide) ?_
        refine mj_iload_n (pc := 30) (i := 3) d_Md_freeCash_30 rfl rfl ?_
        refine dj_iald (pc := 31) d_Md_freeCash_31 sh_93 (by decide) hg4 (by decide) ?_
        refine mj_iload_n (pc := 32) (i := 1) d_Md_freeCash_32 rfl rfl ?_
        refine mj_icmp_ne (pc := 33) (tgt := 52) d_Md_freeCash_33 (by decide) mj_hs (fun hc7 => ?_) (fun hc7 => ?_)
        · refine mj_iconst (pc := 52) (v := 0) d_Md_freeCash_52 (by decide) ?_
          try simp only [if_neg hc5, if_neg hc7] at k10
          exact mj_wk k10 (And.intro rfl (And.intro rfl (And.intro rfl trivial)))
        · refine mj_aload_n (pc := 36) (i := 0) d_Md_freeCash_36 rfl rfl (by decide) ?_
          refine mj_getR (pc := 37) d_Md_freeCash_37 fl_Md_29 sh_88 rfl rfl (by decide) (by decide) (by decide) ?_
          refine mj_iload_n (pc := 40) (i := 3) d_Md_freeCash_40 rfl rfl ?_
          refine dj_iald (pc := 41) d_Md_freeCash_41 sh_95 (by decide) hg4 (by decide) ?_
          refine mj_aload_n (pc := 42) (i := 0) d_Md_freeCash_42 rfl rfl (by decide) ?_
          refine mj_getR (pc := 43) d_Md_freeCash_43 fl_Md_32 sh_88 rfl rfl (by decide) (by decide) (by decide) ?_
          refine mj_iload_n (pc := 46) (i := 3) d_Md_freeCash_46 rfl rfl ?_
          refine dj_iald (pc := 47) d_Md_freeCash_47 sh_96 (by decide) hg4 (by decide) ?_
          refine mj_imul (pc := 48) d_Md_freeCash_48 ?_
          refine mj_goto (pc := 49) (tgt := 53) d_Md_freeCash_49 (by decide) ?_
          try simp only [if_neg hc5, if_pos hc7] at k10
          exact mj_wk k10 (And.intro rfl (And.intro rfl (And.intro rfl trivial)))
set_option maxRecDepth 20000 in
theorem r_Md_freeCash {x1 : Int32} {C C0 : St} {v : Int32} (h : f_Md_freeCash x1 C0 = some v) : mj_R M_Md_freeCash 0 (mj_lv M_Md_freeCash.2.2.1 [.ref 88, .int x1]) [] (SH, jn C C0) (some (.int v)) (SH, jn C C0) := by
  show mj_R M_Md_freeCash 0 [some (.ref 88), some (.int x1), none, none] [] _ _ _
  unfold f_Md_freeCash at h
  refine mj_aload_n (pc := 0) (i := 0) d_Md_freeCash_0 rfl rfl (by decide) ?_
  refine mj_iload_n (pc := 1) (i := 1) d_Md_freeCash_1 rfl rfl ?_
  obtain ⟨v1, hb2, h⟩ := bd1_some h
  refine mj_callV (pc := 2) (b := 88) (vs := [.int x1]) (st := []) d_Md_freeCash_2 bB_Md_freeCash_Md_cash lk_Md_150 iv_Md_cash rc_88 rfl (Nat.le_of_ble_eq_true rfl) (Nat.le_of_ble_eq_true rfl) (r_Md_cash hb2) ?_
  show mj_R M_Md_freeCash 5 [some (.ref 88), some (.int x1), none, none] [.int v1] (SH, jn C C0) (some (.int v)) (SH, jn C C0)
  refine mj_istore_n (pc := 5) (i := 2) d_Md_freeCash_5 rfl rfl (by decide) ?_
  refine mj_iconst (pc := 6) (v := 0) d_Md_freeCash_6 (by decide) ?_
  refine mj_istore_n (pc := 7) (i := 3) d_Md_freeCash_7 rfl rfl (by decide) ?_
  obtain ⟨o11, hl12, h⟩ := bd1_some h
  refine mj_weak [some (.ref 88), some (.int x1), some (.int v1), some (.int 0)] (And.intro rfl (And.intro rfl (And.intro rfl (And.intro rfl trivial)))) (l_Md_freeCash_8 3000 _ _ _ _ _ hl12 ?_)
  refine mj_iload_n (pc := 61) (i := 2) d_Md_freeCash_61 rfl rfl ?_
  obtain e_1 := inj1 h
  subst e_1
  exact mj_iret (pc := 62) d_Md_freeCash_62 rfl
set_option maxRecDepth 20000 in
theorem r_Md_pays {x1 : Int32} {x2 : Int32} {x3 : Int32} {x4 : Int32} {C C0 : St} {C' : St} (h : f_Md_pays x1 x2 x3 x4 C0 = some (C')) : mj_R M_Md_pays 0 (mj_lv M_Md_pays.2.2.1 [.ref 88, .int x1, .int x2, .int x3, .int x4]) [] (SH, jn C C0) none (SH, jn C (C')) := by
  show mj_R M_Md_pays 0 [some (.ref 88), some (.int x1), some (.int x2), some (.int x3), some (.int x4)] [] _ _ _
  unfold f_Md_pays at h
  refine mj_aload_n (pc := 0) (i := 0) d_Md_pays_0 rfl rfl (by decide) ?_
  refine mj_getR (pc := 1) d_Md_pays_1 fl_Md_7 sh_88 rfl rfl (by decide) (by decide) (by decide) ?_
  refine mj_iconst (pc := 4) (v := 0) d_Md_pays_4 (by decide) ?_
  refine mj_iconst (pc := 5) (v := 5) d_Md_pays_5 (by decide) ?_
  refine mj_iload_n (pc := 6) (i := 1) d_Md_pays_6 rfl rfl ?_
  refine mj_imul (pc := 7) d_Md_pays_7 ?_
  refine mj_iadd (pc := 8) d_Md_pays_8 ?_
  refine mj_iconst (pc := 9) (v := 1) d_Md_pays_9 (by decide) ?_
  refine mj_iadd (pc := 10) d_Md_pays_10 ?_
  refine mj_dup2 (pc := 11) d_Md_pays_11 rfl rfl ?_
  obtain ⟨hg1, h⟩ := mj_gd h
  refine dj_iald (pc := 12) d_Md_pays_12 sh_89 (by decide) hg1 (by decide) ?_
  refine mj_iload_n (pc := 13) (i := 3) d_Md_pays_13 rfl rfl ?_
  refine mj_isub (pc := 14) d_Md_pays_14 ?_
  refine dj_iast (pc := 15) d_Md_pays_15 sh_89 (by decide) hg1 (by decide) ?_
  refine mj_aload_n (pc := 16) (i := 0) d_Md_pays_16 rfl rfl (by decide) ?_
  refine mj_getR (pc := 17) d_Md_pays_17 fl_Md_7 sh_88 rfl rfl (by decide) (by decide) (by decide) ?_
  refine mj_iconst (pc := 20) (v := 0) d_Md_pays_20 (by decide) ?_
  refine mj_iconst (pc := 21) (v := 5) d_Md_pays_21 (by decide) ?_
  refine mj_iload_n (pc := 22) (i := 2) d_Md_pays_22 rfl rfl ?_
  refine mj_imul (pc := 23) d_Md_pays_23 ?_
  refine mj_iadd (pc := 24) d_Md_pays_24 ?_
  refine mj_iconst (pc := 25) (v := 1) d_Md_pays_25 (by decide) ?_
  refine mj_iadd (pc := 26) d_Md_pays_26 ?_
  refine mj_dup2 (pc := 27) d_Md_pays_27 rfl rfl ?_
  obtain ⟨hg2, h⟩ := mj_gd h
  refine dj_iald (pc := 28) d_Md_pays_28 sh_89 (by decide) hg2 (by decide) ?_
  refine mj_iload_n (pc := 29) (i := 3) d_Md_pays_29 rfl rfl ?_
  refine mj_iadd (pc := 30) d_Md_pays_30 ?_
  refine dj_iast (pc := 31) d_Md_pays_31 sh_89 (by decide) hg2 (by decide) ?_
  refine mj_aload_n (pc := 32) (i := 0) d_Md_pays_32 rfl rfl (by decide) ?_
  refine mj_getR (pc := 33) d_Md_pays_33 fl_Md_7 sh_88 rfl rfl (by decide) (by decide) (by decide) ?_
  refine mj_sipush (pc := 36) (v := 1443) d_Md_pays_36 (by decide) ?_
  refine mj_iconst (pc := 39) (v := 5) d_Md_pays_39 (by decide) ?_
  refine mj_bipush (pc := 40) (v := 12) d_Md_pays_40 (by decide) ?_
  refine mj_iload_n (pc := 42) (i := 1) d_Md_pays_42 rfl rfl ?_
  refine mj_imul (pc := 43) d_Md_pays_43 ?_
  refine mj_iload_n (pc := 44) (i := 2) d_Md_pays_44 rfl rfl ?_
  refine mj_iadd (pc := 45) d_Md_pays_45 ?_
  refine mj_imul (pc := 46) d_Md_pays_46 ?_
  refine mj_iadd (pc := 47) d_Md_pays_47 ?_
  refine mj_iload (pc := 48) (i := 4) d_Md_pays_48 rfl ?_
  refine mj_iadd (pc := 50) d_Md_pays_50 ?_
  refine mj_dup2 (pc := 51) d_Md_pays_51 rfl rfl ?_
  obtain ⟨hg3, h⟩ := mj_gd h
  refine dj_iald (pc := 52) d_Md_pays_52 sh_89 (by decide) hg3 (by decide) ?_
  refine mj_iload_n (pc := 53) (i := 3) d_Md_pays_53 rfl rfl ?_
  refine mj_iadd (pc := 54) d_Md_pays_54 ?_
  refine dj_iast (pc := 55) d_Md_pays_55 sh_89 (by decide) hg3 (by decide) ?_
  obtain e_1 := inj1 h
  subst e_1
  exact mj_vret (pc := 56) d_Md_pays_56 rfl
set_option maxRecDepth 20000 in
theorem r_Md_lend {x1 : Int32} {x2 : Int32} {x3 : Int32} {x4 : Int32} {C C0 : St} {C' : St} (h : f_Md_lend x1 x2 x3 x4 C0 = some (C')) : mj_R M_Md_lend 0 (mj_lv M_Md_lend.2.2.1 [.ref 88, .int x1, .int x2, .int x3, .int x4]) [] (SH, jn C C0) none (SH, jn C (C')) := by
  show mj_R M_Md_lend 0 [some (.ref 88), some (.int x1), some (.int x2), some (.int x3), some (.int x4), none, none] [] _ _ _
  unfold f_Md_lend at h
  refine mj_iload_n (pc := 0) (i := 3) d_Md_lend_0 rfl rfl ?_
  refine mj_aload_n (pc := 1) (i := 0) d_Md_lend_1 rfl rfl (by decide) ?_
  refine mj_iload_n (pc := 2) (i := 1) d_Md_lend_2 rfl rfl ?_
  obtain ⟨v1, hb2, h⟩ := bd1_some h
  refine mj_callV (pc := 3) (b := 88) (vs := [.int x1]) (st := [.int x3]) d_Md_lend_3 bB_Md_lend_Md_freeCash lk_Md_173 iv_Md_freeCash rc_88 rfl (Nat.le_of_ble_eq_true rfl) (Nat.le_of_ble_eq_true rfl) (r_Md_freeCash hb2) ?_
  show mj_R M_Md_lend 6 [some (.ref 88), some (.int x1), some (.int x2), some (.int x3), some (.int x4), none, none] [.int v1, .int x3] (SH, jn C C0) none (SH, jn C (C'))
  obtain ⟨v3, hb4, h⟩ := bd1_some h
  refine mj_callS (pc := 6) (vs := [.int x3, .int v1]) (st := []) d_Md_lend_6 bB_Md_lend_Md_less lk_Md_159 st_Md_less rfl (Nat.le_of_ble_eq_true rfl) (Nat.le_of_ble_eq_true rfl) (r_Md_less hb4) ?_
  show mj_R M_Md_lend 9 [some (.ref 88), some (.int x1), some (.int x2), some (.int x3), some (.int x4), none, none] [.int v3] (SH, jn C C0) none (SH, jn C (C'))
  refine mj_istore (pc := 9) (i := 5) d_Md_lend_9 rfl (by decide) ?_
  refine mj_iload (pc := 11) (i := 5) d_Md_lend_11 rfl ?_
  refine mj_if_eq (y := 0) (pc := 13) (tgt := 29) d_Md_lend_13 (by decide) mj_hs (fun hc5 => ?_) (fun hc5 => ?_)
  · rw [if_pos hc5] at h
    obtain e_1 := inj1 h
    subst e_1
    exact mj_vret (pc := 29) d_Md_lend_29 rfl
  · rw [if_neg hc5] at h
    refine mj_aload_n (pc := 16) (i := 0) d_Md_lend_16 rfl rfl (by decide) ?_
    refine mj_getR (pc := 17) d_Md_lend_17 fl_Md_7 sh_88 rfl rfl (by decide) (by decide) (by decide) ?_
    refine mj_sipush (pc := 20) (v := 2168) d_Md_lend_20 (by decide) ?_
    refine dj_iald (pc := 23) d_Md_lend_23 sh_89 (by decide) (by decide) (by decide) ?_
    show mj_R M_Md_lend 24 [some (.ref 88), some (.int x1), some (.int x2), some (.int x3), some (.int x4), some (.int v3), none] [.int (C0 89 2168)] (SH, jn C C0) none (SH, jn C (C'))
    refine mj_bipush (pc := 24) (v := 20) d_Md_lend_24 (by decide) ?_
    refine mj_icmp_ne (pc := 26) (tgt := 30) d_Md_lend_26 (by decide) mj_hs (fun hc7 => ?_) (fun hc7 => ?_)
    · rw [if_neg hc7] at h
      refine mj_aload_n (pc := 30) (i := 0) d_Md_lend_30 rfl rfl (by decide) ?_
      refine mj_iload_n (pc := 31) (i := 1) d_Md_lend_31 rfl rfl ?_
      refine mj_iload_n (pc := 32) (i := 2) d_Md_lend_32 rfl rfl ?_
      refine mj_iload (pc := 33) (i := 5) d_Md_lend_33 rfl ?_
      refine mj_iconst (pc := 35) (v := 3) d_Md_lend_35 (by decide) ?_
      obtain ⟨C8, hb9, h⟩ := bd1_some h
      refine mj_callV (pc := 36) (b := 88) (vs := [.int x1, .int x2, .int v3, .int 3]) (st := []) d_Md_lend_36 bB_Md_lend_Md_pays lk_Md_176 iv_Md_pays rc_88 rfl (Nat.le_of_ble_eq_true rfl) (Nat.le_of_ble_eq_true rfl) (r_Md_pays hb9) ?_
      show mj_R M_Md_lend 39 [some (.ref 88), some (.int x1), some (.int x2), some (.int x3), some (.int x4), some (.int v3), none] [] (SH, jn C C8) none (SH, jn C (C'))
      refine mj_sipush (pc := 39) (v := 1363) d_Md_lend_39 (by decide) ?_
      refine mj_iconst (pc := 42) (v := 4) d_Md_lend_42 (by decide) ?_
      refine mj_aload_n (pc := 43) (i := 0) d_Md_lend_43 rfl rfl (by decide) ?_
      refine mj_getR (pc := 44) d_Md_lend_44 fl_Md_7 sh_88 rfl rfl (by decide) (by decide) (by decide) ?_
      refine mj_sipush (pc := 47) (v := 2168) d_Md_lend_47 (by decide) ?_
      refine dj_iald (pc := 50) d_Md_lend_50 sh_89 (by decide) (by decide) (by decide) ?_
      show mj_R M_Md_lend 51 [some (.ref 88), some (.int x1), some (.int x2), some (.int x3), some (.int x4), some (.int v3), none] [.int (C8 89 2168), .int 4, .int 1363] (SH, jn C C8) none (SH, jn C (C'))
      refine mj_imul (pc := 51) d_Md_lend_51 ?_
      refine mj_iadd (pc := 52) d_Md_lend_52 ?_
      refine mj_istore (pc := 53) (i := 6) d_Md_lend_53 rfl (by decide) ?_
      refine mj_aload_n (pc := 55) (i := 0) d_Md_lend_55 rfl rfl (by decide) ?_
      refine mj_getR (pc := 56) d_Md_lend_56 fl_Md_7 sh_88 rfl rfl (by decide) (by decide) (by decide) ?_
      refine mj_iload (pc := 59) (i := 6) d_Md_lend_59 rfl ?_
      refine mj_iload_n (pc := 61) (i := 1) d_Md_lend_61 rfl rfl ?_
      obtain ⟨hg11, h⟩ := mj_gd h
      refine dj_iast (pc := 62) d_Md_lend_62 sh_89 (by decide) hg11 (by decide) ?_
      refine mj_aload_n (pc := 63) (i := 0) d_Md_lend_63 rfl rfl (by decide) ?_
      refine mj_getR (pc := 64) d_Md_lend_64 fl_Md_7 sh_88 rfl rfl (by decide) (by decide) (by decide) ?_
      refine mj_iload (pc := 67) (i := 6) d_Md_lend_67 rfl ?_
      refine mj_iconst (pc := 69) (v := 1) d_Md_lend_69 (by decide) ?_
      refine mj_iadd (pc := 70) d_Md_lend_70 ?_
      refine mj_iload_n (pc := 71) (i := 2) d_Md_lend_71 rfl rfl ?_
      obtain ⟨hg12, h⟩ := mj_gd h
      refine dj_iast (pc := 72) d_Md_lend_72 sh_89 (by decide) hg12 (by decide) ?_
      refine mj_aload_n (pc := 73) (i := 0) d_Md_lend_73 rfl rfl (by decide) ?_
      refine mj_getR (pc := 74) d_Md_lend_74 fl_Md_7 sh_88 rfl rfl (by decide) (by decide) (by decide) ?_
      refine mj_iload (pc := 77) (i := 6) d_Md_lend_77 rfl ?_
      refine mj_iconst (pc := 79) (v := 2) d_Md_lend_79 (by decide) ?_
      refine mj_iadd (pc := 80) d_Md_lend_80 ?_
      refine mj_iload (pc := 81) (i := 5) d_Md_lend_81 rfl ?_
      refine mj_iload (pc := 83) (i := 5) d_Md_lend_83 rfl ?_
      refine mj_aload_n (pc := 85) (i := 0) d_Md_lend_85 rfl rfl (by decide) ?_
      refine mj_getR (pc := 86) d_Md_lend_86 fl_Md_7 sh_88 rfl rfl (by decide) (by decide) (by decide) ?_
      refine mj_sipush (pc := 89) (v := 2167) d_Md_lend_89 (by decide) ?_
      refine dj_iald (pc := 92) d_Md_lend_92 sh_89 (by decide) (by decide) (by decide) ?_
      show mj_R M_Md_lend 93 [some (.ref 88), some (.int x1), some (.int x2), some (.int x3), some (.int x4), some (.int v3), some (.int (1363 + (4 * (C8 89 2168))))] [.int (mj_wr (mj_wr C8 89 ((1363 + (4 * (C8 89 2168))).toNatClampNeg) x1) 89 (((1363 + (4 * (C8 89 2168))) + 1).toNatClampNeg) x2 89 2167), .int v3, .int v3, .int ((1363 + (4 * (C8 89 2168))) + 2), .ref 89] (SH, jn C (mj_wr (mj_wr C8 89 ((1363 + (4 * (C8 89 2168))).toNatClampNeg) x1) 89 (((1363 + (4 * (C8 89 2168))) + 1).toNatClampNeg) x2)) none (SH, jn C (C'))
      refine mj_imul (pc := 93) d_Md_lend_93 ?_
      refine mj_bipush (pc := 94) (v := 100) d_Md_lend_94 (by decide) ?_
      refine mj_idiv (pc := 96) d_Md_lend_96 (by decide) ?_
      refine mj_iadd (pc := 97) d_Md_lend_97 ?_
      obtain ⟨hg14, h⟩ := mj_gd h
      refine dj_iast (pc := 98) d_Md_lend_98 sh_89 (by decide) hg14 (by decide) ?_
      refine mj_aload_n (pc := 99) (i := 0) d_Md_lend_99 rfl rfl (by decide) ?_
      refine mj_getR (pc := 100) d_Md_lend_100 fl_Md_7 sh_88 rfl rfl (by decide) (by decide) (by decide) ?_
      refine mj_iload (pc := 103) (i := 6) d_Md_lend_103 rfl ?_
      refine mj_iconst (pc := 105) (v := 3) d_Md_lend_105 (by decide) ?_
      refine mj_iadd (pc := 106) d_Md_lend_106 ?_
      refine mj_aload_n (pc := 107) (i := 0) d_Md_lend_107 rfl rfl (by decide) ?_
      refine mj_getR (pc := 108) d_Md_lend_108 fl_Md_7 sh_88 rfl rfl (by decide) (by decide) (by decide) ?_
      refine mj_sipush (pc := 111) (v := 2164) d_Md_lend_111 (by decide) ?_
      refine dj_iald (pc := 114) d_Md_lend_114 sh_89 (by decide) (by decide) (by decide) ?_
      show mj_R M_Md_lend 115 [some (.ref 88), some (.int x1), some (.int x2), some (.int x3), some (.int x4), some (.int v3), some (.int (1363 + (4 * (C8 89 2168))))] [.int (mj_wr (mj_wr (mj_wr C8 89 ((1363 + (4 * (C8 89 2168))).toNatClampNeg) x1) 89 (((1363 + (4 * (C8 89 2168))) + 1).toNatClampNeg) x2) 89 (((1363 + (4 * (C8 89 2168))) + 2).toNatClampNeg) (v3 + ((v3 * (mj_wr (mj_wr C8 89 ((1363 + (4 * (C8 89 2168))).toNatClampNeg) x1) 89 (((1363 + (4 * (C8 89 2168))) + 1).toNatClampNeg) x2 89 2167)) / 100)) 89 2164), .int ((1363 + (4 * (C8 89 2168))) + 3), .ref 89] (SH, jn C (mj_wr (mj_wr (mj_wr C8 89 ((1363 + (4 * (C8 89 2168))).toNatClampNeg) x1) 89 (((1363 + (4 * (C8 89 2168))) + 1).toNatClampNeg) x2) 89 (((1363 + (4 * (C8 89 2168))) + 2).toNatClampNeg) (v3 + ((v3 * (mj_wr (mj_wr C8 89 ((1363 + (4 * (C8 89 2168))).toNatClampNeg) x1) 89 (((1363 + (4 * (C8 89 2168))) + 1).toNatClampNeg) x2 89 2167)) / 100)))) none (SH, jn C (C'))
      refine mj_iload (pc := 115) (i := 4) d_Md_lend_115 rfl ?_
      refine mj_iadd (pc := 117) d_Md_lend_117 ?_
      obtain ⟨hg16, h⟩ := mj_gd h
      refine dj_iast (pc := 118) d_Md_lend_118 sh_89 (by decide) hg16 (by decide) ?_
      refine mj_aload_n (pc := 119) (i := 0) d_Md_lend_119 rfl rfl (by decide) ?_
      refine mj_getR (pc := 120) d_Md_lend_120 fl_Md_7 sh_88 rfl rfl (by decide) (by decide) (by decide) ?_
      refine mj_sipush (pc := 123) (v := 2168) d_Md_lend_123 (by decide) ?_
      refine mj_dup2 (pc := 126) d_Md_lend_126 rfl rfl ?_
      refine dj_iald (pc := 127) d_Md_lend_127 sh_89 (by decide) (by decide) (by decide) ?_
      show mj_R M_Md_lend 128 [some (.ref 88), some (.int x1), some (.int x2), some (.int x3), some (.int x4), some (.int v3), some (.int (1363 + (4 * (C8 89 2168))))] [.int (mj_wr (mj_wr (mj_wr (mj_wr C8 89 ((1363 + (4 * (C8 89 2168))).toNatClampNeg) x1) 89 (((1363 + (4 * (C8 89 2168))) + 1).toNatClampNeg) x2) 89 (((1363 + (4 * (C8 89 2168))) + 2).toNatClampNeg) (v3 + ((v3 * (mj_wr (mj_wr C8 89 ((1363 + (4 * (C8 89 2168))).toNatClampNeg) x1) 89 (((1363 + (4 * (C8 89 2168))) + 1).toNatClampNeg) x2 89 2167)) / 100))) 89 (((1363 + (4 * (C8 89 2168))) + 3).toNatClampNeg) ((mj_wr (mj_wr (mj_wr C8 89 ((1363 + (4 * (C8 89 2168))).toNatClampNeg) x1) 89 (((1363 + (4 * (C8 89 2168))) + 1).toNatClampNeg) x2) 89 (((1363 + (4 * (C8 89 2168))) + 2).toNatClampNeg) (v3 + ((v3 * (mj_wr (mj_wr C8 89 ((1363 + (4 * (C8 89 2168))).toNatClampNeg) x1) 89 (((1363 + (4 * (C8 89 2168))) + 1).toNatClampNeg) x2 89 2167)) / 100)) 89 2164) + x4) 89 2168), .int 2168, .ref 89] (SH, jn C (mj_wr (mj_wr (mj_wr (mj_wr C8 89 ((1363 + (4 * (C8 89 2168))).toNatClampNeg) x1) 89 (((1363 + (4 * (C8 89 2168))) + 1).toNatClampNeg) x2) 89 (((1363 + (4 * (C8 89 2168))) + 2).toNatClampNeg) (v3 + ((v3 * (mj_wr (mj_wr C8 89 ((1363 + (4 * (C8 89 2168))).toNatClampNeg) x1) 89 (((1363 + (4 * (C8 89 2168))) + 1).toNatClampNeg) x2 89 2167)) / 100))) 89 (((1363 + (4 * (C8 89 2168))) + 3).toNatClampNeg) ((mj_wr (mj_wr (mj_wr C8 89 ((1363 + (4 * (C8 89 2168))).toNatClampNeg) x1) 89 (((1363 + (4 * (C8 89 2168))) + 1).toNatClampNeg) x2) 89 (((1363 + (4 * (C8 89 2168))) + 2).toNatClampNeg) (v3 + ((v3 * (mj_wr (mj_wr C8 89 ((1363 + (4 * (C8 89 2168))).toNatClampNeg) x1) 89 (((1363 + (4 * (C8 89 2168))) + 1).toNatClampNeg) x2 89 2167)) / 100)) 89 2164) + x4))) none (SH, jn C (C'))
      refine mj_iconst (pc := 128) (v := 1) d_Md_lend_128 (by decide) ?_
      refine mj_iadd (pc := 129) d_Md_lend_129 ?_
      refine dj_iast (pc := 130) d_Md_lend_130 sh_89 (by decide) (by decide) (by decide) ?_
      show mj_R M_Md_lend 131 [some (.ref 88), some (.int x1), some (.int x2), some (.int x3), some (.int x4), some (.int v3), some (.int (1363 + (4 * (C8 89 2168))))] [] (SH, jn C (mj_wr (mj_wr (mj_wr (mj_wr (mj_wr C8 89 ((1363 + (4 * (C8 89 2168))).toNatClampNeg) x1) 89 (((1363 + (4 * (C8 89 2168))) + 1).toNatClampNeg) x2) 89 (((1363 + (4 * (C8 89 2168))) + 2).toNatClampNeg) (v3 + ((v3 * (mj_wr (mj_wr C8 89 ((1363 + (4 * (C8 89 2168))).toNatClampNeg) x1) 89 (((1363 + (4 * (C8 89 2168))) + 1).toNatClampNeg) x2 89 2167)) / 100))) 89 (((1363 + (4 * (C8 89 2168))) + 3).toNatClampNeg) ((mj_wr (mj_wr (mj_wr C8 89 ((1363 + (4 * (C8 89 2168))).toNatClampNeg) x1) 89 (((1363 + (4 * (C8 89 2168))) + 1).toNatClampNeg) x2) 89 (((1363 + (4 * (C8 89 2168))) + 2).toNatClampNeg) (v3 + ((v3 * (mj_wr (mj_wr C8 89 ((1363 + (4 * (C8 89 2168))).toNatClampNeg) x1) 89 (((1363 + (4 * (C8 89 2168))) + 1).toNatClampNeg) x2 89 2167)) / 100)) 89 2164) + x4)) 89 2168 ((mj_wr (mj_wr (mj_wr (mj_wr C8 89 ((1363 + (4 * (C8 89 2168))).toNatClampNeg) x1) 89 (((1363 + (4 * (C8 89 2168))) + 1).toNatClampNeg) x2) 89 (((1363 + (4 * (C8 89 2168))) + 2).toNatClampNeg) (v3 + ((v3 * (mj_wr (mj_wr C8 89 ((1363 + (4 * (C8 89 2168))).toNatClampNeg) x1) 89 (((1363 + (4 * (C8 89 2168))) + 1).toNatClampNeg) x2 89 2167)) / 100))) 89 (((1363 + (4 * (C8 89 2168))) + 3).toNatClampNeg) ((mj_wr (mj_wr (mj_wr C8 89 ((1363 + (4 * (C8 89 2168))).toNatClampNeg) x1) 89 (((1363 + (4 * (C8 89 2168))) + 1).toNatClampNeg) x2) 89 (((1363 + (4 * (C8 89 2168))) + 2).toNatClampNeg) (v3 + ((v3 * (mj_wr (mj_wr C8 89 ((1363 + (4 * (C8 89 2168))).toNatClampNeg) x1) 89 (((1363 + (4 * (C8 89 2168))) + 1).toNatClampNeg) x2 89 2167)) / 100)) 89 2164) + x4) 89 2168) + 1))) none (SH, jn C (C'))
      obtain e_1 := inj1 h
      subst e_1
      exact mj_vret (pc := 131) d_Md_lend_131 rfl
    · rw [if_pos hc7] at h
      obtain e_1 := inj1 h
      subst e_1
      exact mj_vret (pc := 29) d_Md_lend_29 rfl
set_option maxRecDepth 20000 in
theorem r_Md_act {x1 : Int32} {x2 : Int32} {C C0 : St} {C' : St} (h : f_Md_act x1 x2 C0 = some (C')) : mj_R M_Md_act 0 (mj_lv M_Md_act.2.2.1 [.ref 88, .int x1, .int x2]) [] (SH, jn C C0) none (SH, jn C (C')) := by
  show mj_R M_Md_act 0 [some (.ref 88), some (.int x1), some (.int x2), none, none, none, none] [] _ _ _
  unfold f_Md_act at h
  refine mj_aload_n (pc := 0) (i := 0) d_Md_act_0 rfl rfl (by decide) ?_
  refine mj_iload_n (pc := 1) (i := 1) d_Md_act_1 rfl rfl ?_
  refine mj_iload_n (pc := 2) (i := 2) d_Md_act_2 rfl rfl ?_
  refine mj_iconst (pc := 3) (v := 1) d_Md_act_3 (by decide) ?_
  obtain ⟨v1, hb2, h⟩ := bd1_some h
  refine mj_callV (pc := 4) (b := 88) (vs := [.int x1, .int x2, .int 1]) (st := []) d_Md_act_4 bB_Md_act_Md_ruleIs lk_Md_144 iv_Md_ruleIs rc_88 rfl (Nat.le_of_ble_eq_true rfl) (Nat.le_of_ble_eq_true rfl) (r_Md_ruleIs hb2) ?_
  show mj_R M_Md_act 7 [some (.ref 88), some (.int x1), some (.int x2), none, none, none, none] [.int v1] (SH, jn C C0) none (SH, jn C (C'))
  refine mj_istore_n (pc := 7) (i := 3) d_Md_act_7 rfl rfl (by decide) ?_
  refine mj_aload_n (pc := 8) (i := 0) d_Md_act_8 rfl rfl (by decide) ?_
  refine mj_iload_n (pc := 9) (i := 1) d_Md_act_9 rfl rfl ?_
  refine mj_iload_n (pc := 10) (i := 2) d_Md_act_10 rfl rfl ?_
  refine mj_iconst (pc := 11) (v := 2) d_Md_act_11 (by decide) ?_
  obtain ⟨v3, hb4, h⟩ := bd1_some h
  refine mj_callV (pc := 12) (b := 88) (vs := [.int x1, .int x2, .int 2]) (st := []) d_Md_act_12 bB_Md_act_Md_ruleIs lk_Md_144 iv_Md_ruleIs rc_88 rfl (Nat.le_of_ble_eq_true rfl) (Nat.le_of_ble_eq_true rfl) (r_Md_ruleIs hb4) ?_
  show mj_R M_Md_act 15 [some (.ref 88), some (.int x1), some (.int x2), some (.int v1), none, none, none] [.int v3] (SH, jn C C0) none (SH, jn C (C'))
  refine mj_istore (pc := 15) (i := 4) d_Md_act_15 rfl (by decide) ?_
  refine mj_aload_n (pc := 17) (i := 0) d_Md_act_17 rfl rfl (by decide) ?_
  refine mj_iload_n (pc := 18) (i := 1) d_Md_act_18 rfl rfl ?_
  refine mj_iload_n (pc := 19) (i := 2) d_Md_act_19 rfl rfl ?_
  refine mj_iconst (pc := 20) (v := 3) d_Md_act_20 (by decide) ?_
  obtain ⟨v5, hb6, h⟩ := bd1_some h
  refine mj_callV (pc := 21) (b := 88) (vs := [.int x1, .int x2, .int 3]) (st := []) d_Md_act_21 bB_Md_act_Md_ruleIs lk_Md_144 iv_Md_ruleIs rc_88 rfl (Nat.le_of_ble_eq_true rfl) (Nat.le_of_ble_eq_true rfl) (r_Md_ruleIs hb6) ?_
  show mj_R M_Md_act 24 [some (.ref 88), some (.int x1), some (.int x2), some (.int v1), some (.int v3), none, none] [.int v5] (SH, jn C C0) none (SH, jn C (C'))
  refine mj_istore (pc := 24) (i := 5) d_Md_act_24 rfl (by decide) ?_
  refine mj_aload_n (pc := 26) (i := 0) d_Md_act_26 rfl rfl (by decide) ?_
  refine mj_iload_n (pc := 27) (i := 1) d_Md_act_27 rfl rfl ?_
  refine mj_iload_n (pc := 28) (i := 2) d_Md_act_28 rfl rfl ?_
  refine mj_iconst (pc := 29) (v := 0) d_Md_act_29 (by decide) ?_
  obtain ⟨v7, hb8, h⟩ := bd1_some h
  refine mj_callV (pc := 30) (b := 88) (vs := [.int x1, .int x2, .int 0]) (st := []) d_Md_act_30 bB_Md_act_Md_ruleIs lk_Md_144 iv_Md_ruleIs rc_88 rfl (Nat.le_of_ble_eq_true rfl) (Nat.le_of_ble_eq_true rfl) (r_Md_ruleIs hb8) ?_
  show mj_R M_Md_act 33 [some (.ref 88), some (.int x1), some (.int x2), some (.int v1), some (.int v3), some (.int v5), none] [.int v7] (SH, jn C C0) none (SH, jn C (C'))
  by_cases hc9 : v7 = 0
  · rw [if_pos hc9] at h
    refine mj_tsEq (pc := 33) (tgt := 68) 0 d_Md_act_33 hc9 (by decide) (by decide) (by rfl) (by decide) ?_
    refine mj_aload_n (pc := 68) (i := 0) d_Md_act_68 rfl rfl (by decide) ?_
    refine mj_iload_n (pc := 69) (i := 1) d_Md_act_69 rfl rfl ?_
    refine mj_iload_n (pc := 70) (i := 3) d_Md_act_70 rfl rfl ?_
    refine mj_iload (pc := 71) (i := 4) d_Md_act_71 rfl ?_
    obtain ⟨C14, hb15, h⟩ := bd1_some h
    refine mj_callV (pc := 73) (b := 88) (vs := [.int x1, .int v1, .int v3]) (st := []) d_Md_act_73 bB_Md_act_Md_make lk_Md_179 iv_Md_make rc_88 rfl (Nat.le_of_ble_eq_true rfl) (Nat.le_of_ble_eq_true rfl) (r_Md_make hb15) ?_
    show mj_R M_Md_act 76 [some (.ref 88), some (.int x1), some (.int x2), some (.int v1), some (.int v3), some (.int v5), none] [] (SH, jn C C14) none (SH, jn C (C'))
    obtain e_1 := inj1 h
    subst e_1
    exact mj_vret (pc := 76) d_Md_act_76 rfl
  · rw [if_neg hc9] at h
    by_cases hc10 : v7 = 1
    · rw [if_pos hc10] at h
      refine mj_tsEq (pc := 33) (tgt := 77) 1 d_Md_act_33 hc10 (by decide) (by decide) (by rfl) (by decide) ?_
      refine mj_iload (pc := 77) (i := 4) d_Md_act_77 rfl ?_
      refine mj_aload_n (pc := 79) (i := 0) d_Md_act_79 rfl rfl (by decide) ?_
      refine mj_iload_n (pc := 80) (i := 1) d_Md_act_80 rfl rfl ?_
      refine mj_iload_n (pc := 81) (i := 3) d_Md_act_81 rfl rfl ?_
      obtain ⟨v16, hb17, h⟩ := bd1_some h
      refine mj_callV (pc := 82) (b := 88) (vs := [.int x1, .int v1]) (st := [.int v3]) d_Md_act_82 bB_Md_act_Md_freeOf lk_Md_162 iv_Md_freeOf rc_88 rfl (Nat.le_of_ble_eq_true rfl) (Nat.le_of_ble_eq_true rfl) (r_Md_freeOf hb17) ?_
      show mj_R M_Md_act 85 [some (.ref 88), some (.int x1), some (.int x2), some (.int v1), some (.int v3), some (.int v5), none] [.int v16, .int v3] (SH, jn C C0) none (SH, jn C (C'))
      obtain ⟨v18, hb19, h⟩ := bd1_some h
      refine mj_callS (pc := 85) (vs := [.int v3, .int v16]) (st := []) d_Md_act_85 bB_Md_act_Md_less lk_Md_159 st_Md_less rfl (Nat.le_of_ble_eq_true rfl) (Nat.le_of_ble_eq_true rfl) (r_Md_less hb19) ?_
      show mj_R M_Md_act 88 [some (.ref 88), some (.int x1), some (.int x2), some (.int v1), some (.int v3), some (.int v5), none] [.int v18] (SH, jn C C0) none (SH, jn C (C'))
      refine mj_istore (pc := 88) (i := 6) d_Md_act_88 rfl (by decide) ?_
      refine mj_aload_n (pc := 90) (i := 0) d_Md_act_90 rfl rfl (by decide) ?_
      refine mj_iload_n (pc := 91) (i := 1) d_Md_act_91 rfl rfl ?_
      refine mj_iload_n (pc := 92) (i := 3) d_Md_act_92 rfl rfl ?_
      refine mj_iload (pc := 93) (i := 6) d_Md_act_93 rfl ?_
      refine mj_iconst (pc := 95) (v := -1) d_Md_act_95 (by decide) ?_
      obtain ⟨C20, hb21, h⟩ := bd1_some h
      refine mj_callV (pc := 96) (b := 88) (vs := [.int x1, .int v1, .int v18, .int (-1)]) (st := []) d_Md_act_96 bB_Md_act_Md_go lk_Md_165 iv_Md_go rc_88 rfl (Nat.le_of_ble_eq_true rfl) (Nat.le_of_ble_eq_true rfl) (r_Md_go hb21) ?_
      show mj_R M_Md_act 99 [some (.ref 88), some (.int x1), some (.int x2), some (.int v1), some (.int v3), some (.int v5), some (.int v18)] [] (SH, jn C C20) none (SH, jn C (C'))
      refine mj_aload_n (pc := 99) (i := 0) d_Md_act_99 rfl rfl (by decide) ?_
      refine mj_iload_n (pc := 100) (i := 3) d_Md_act_100 rfl rfl ?_
      refine mj_iconst (pc := 101) (v := 4) d_Md_act_101 (by decide) ?_
      refine mj_iload (pc := 102) (i := 6) d_Md_act_102 rfl ?_
      obtain ⟨C22, hb23, h⟩ := bd1_some h
      refine mj_callV (pc := 104) (b := 88) (vs := [.int v1, .int 4, .int v18]) (st := []) d_Md_act_104 bB_Md_act_Md_addGood lk_Md_169 iv_Md_addGood rc_88 rfl (Nat.le_of_ble_eq_true rfl) (Nat.le_of_ble_eq_true rfl) (r_Md_addGood hb23) ?_
      show mj_R M_Md_act 107 [some (.ref 88), some (.int x1), some (.int x2), some (.int v1), some (.int v3), some (.int v5), some (.int v18)] [] (SH, jn C C22) none (SH, jn C (C'))
      obtain e_1 := inj1 h
      subst e_1
      exact mj_vret (pc := 107) d_Md_act_107 rfl
    · rw [if_neg hc10] at h
      by_cases hc11 : v7 = 2
      · rw [if_pos hc11] at h
        refine mj_tsEq (pc := 33) (tgt := 108) 2 d_Md_act_33 hc11 (by decide) (by decide) (by rfl) (by decide) ?_
        refine mj_aload_n (pc := 108) (i := 0) d_Md_act_108 rfl rfl (by decide) ?_
        refine mj_iload_n (pc := 109) (i := 1) d_Md_act_109 rfl rfl ?_
        refine mj_iload_n (pc := 110) (i := 3) d_Md_act_110 rfl rfl ?_
        refine mj_iload (pc := 111) (i := 4) d_Md_act_111 rfl ?_
        refine mj_aload_n (pc := 113) (i := 0) d_Md_act_113 rfl rfl (by decide) ?_
        refine mj_iload_n (pc := 114) (i := 1) d_Md_act_114 rfl rfl ?_
        refine mj_iload_n (pc := 115) (i := 3) d_Md_act_115 rfl rfl ?_
        obtain ⟨v24, hb25, h⟩ := bd1_some h
        refine mj_callV (pc := 116) (b := 88) (vs := [.int x1, .int v1]) (st := [.int v3, .int v1, .int x1, .ref 88]) d_Md_act_116 bB_Md_act_Md_freeOf lk_Md_162 iv_Md_freeOf rc_88 rfl (Nat.le_of_ble_eq_true rfl) (Nat.le_of_ble_eq_true rfl) (r_Md_freeOf hb25) ?_
        show mj_R M_Md_act 119 [some (.ref 88), some (.int x1), some (.int x2), some (.int v1), some (.int v3), some (.int v5), none] [.int v24, .int v3, .int v1, .int x1, .ref 88] (SH, jn C C0) none (SH, jn C (C'))
        obtain ⟨v26, hb27, h⟩ := bd1_some h
        refine mj_callS (pc := 119) (vs := [.int v3, .int v24]) (st := [.int v1, .int x1, .ref 88]) d_Md_act_119 bB_Md_act_Md_less lk_Md_159 st_Md_less rfl (Nat.le_of_ble_eq_true rfl) (Nat.le_of_ble_eq_true rfl) (r_Md_less hb27) ?_
        show mj_R M_Md_act 122 [some (.ref 88), some (.int x1), some (.int x2), some (.int v1), some (.int v3), some (.int v5), none] [.int v26, .int v1, .int x1, .ref 88] (SH, jn C C0) none (SH, jn C (C'))
        refine mj_iload (pc := 122) (i := 5) d_Md_act_122 rfl ?_
        refine mj_iconst (pc := 124) (v := 0) d_Md_act_124 (by decide) ?_
        obtain ⟨C28, hb29, h⟩ := bd1_some h
        refine mj_callV (pc := 125) (b := 88) (vs := [.int x1, .int v1, .int v26, .int v5, .int 0]) (st := []) d_Md_act_125 bB_Md_act_Md_offer lk_Md_182 iv_Md_offer rc_88 rfl (Nat.le_of_ble_eq_true rfl) (Nat.le_of_ble_eq_true rfl) (r_Md_offer hb29) ?_
        show mj_R M_Md_act 128 [some (.ref 88), some (.int x1), some (.int x2), some (.int v1), some (.int v3), some (.int v5), none] [] (SH, jn C C28) none (SH, jn C (C'))
        obtain e_1 := inj1 h
        subst e_1
        exact mj_vret (pc := 128) d_Md_act_128 rfl
      · rw [if_neg hc11] at h
        by_cases hc12 : v7 = 3
        · rw [if_pos hc12] at h
          refine mj_tsEq (pc := 33) (tgt := 129) 3 d_Md_act_33 hc12 (by decide) (by decide) (by rfl) (by decide) ?_
          refine mj_aload_n (pc := 129) (i := 0) d_Md_act_129 rfl rfl (by decide) ?_
          refine mj_iload_n (pc := 130) (i := 1) d_Md_act_130 rfl rfl ?_
          refine mj_iload_n (pc := 131) (i := 3) d_Md_act_131 rfl rfl ?_
          refine mj_iload (pc := 132) (i := 4) d_Md_act_132 rfl ?_
          refine mj_aload_n (pc := 134) (i := 0) d_Md_act_134 rfl rfl (by decide) ?_
          refine mj_iload_n (pc := 135) (i := 1) d_Md_act_135 rfl rfl ?_
          obtain ⟨v30, hb31, h⟩ := bd1_some h
          refine mj_callV (pc := 136) (b := 88) (vs := [.int x1]) (st := [.int v3, .int v1, .int x1, .ref 88]) d_Md_act_136 bB_Md_act_Md_freeCash lk_Md_173 iv_Md_freeCash rc_88 rfl (Nat.le_of_ble_eq_true rfl) (Nat.le_of_ble_eq_true rfl) (r_Md_freeCash hb31) ?_
          show mj_R M_Md_act 139 [some (.ref 88), some (.int x1), some (.int x2), some (.int v1), some (.int v3), some (.int v5), none] [.int v30, .int v3, .int v1, .int x1, .ref 88] (SH, jn C C0) none (SH, jn C (C'))
          refine mj_iload (pc := 139) (i := 5) d_Md_act_139 rfl ?_
          obtain ⟨hg32, h⟩ := mj_gz h
          refine mj_idiv (pc := 141) d_Md_act_141 hg32 ?_
          obtain ⟨v33, hb34, h⟩ := bd1_some h
          refine mj_callS (pc := 142) (vs := [.int v3, .int (v30 / v5)]) (st := [.int v1, .int x1, .ref 88]) d_Md_act_142 bB_Md_act_Md_less lk_Md_159 st_Md_less rfl (Nat.le_of_ble_eq_true rfl) (Nat.le_of_ble_eq_true rfl) (r_Md_less hb34) ?_
          show mj_R M_Md_act 145 [some (.ref 88), some (.int x1), some (.int x2), some (.int v1), some (.int v3), some (.int v5), none] [.int v33, .int v1, .int x1, .ref 88] (SH, jn C C0) none (SH, jn C (C'))
          refine mj_iload (pc := 145) (i := 5) d_Md_act_145 rfl ?_
          refine mj_iconst (pc := 147) (v := 1) d_Md_act_147 (by decide) ?_
          obtain ⟨C35, hb36, h⟩ := bd1_some h
          refine mj_callV (pc := 148) (b := 88) (vs := [.int x1, .int v1, .int v33, .int v5, .int 1]) (st := []) d_Md_act_148 bB_Md_act_Md_offer lk_Md_182 iv_Md_offer rc_88 rfl (Nat.le_of_ble_eq_true rfl) (Nat.le_of_ble_eq_true rfl) (r_Md_offer hb36) ?_
          show mj_R M_Md_act 151 [some (.ref 88), some (.int x1), some (.int x2), some (.int v1), some (.int v3), some (.int v5), none] [] (SH, jn C C35) none (SH, jn C (C'))
          obtain e_1 := inj1 h
          subst e_1
          exact mj_vret (pc := 151) d_Md_act_151 rfl
        · rw [if_neg hc12] at h
          by_cases hc13 : v7 = 4
          · rw [if_pos hc13] at h
            refine mj_tsEq (pc := 33) (tgt := 152) 4 d_Md_act_33 hc13 (by decide) (by decide) (by rfl) (by decide) ?_
            refine mj_aload_n (pc := 152) (i := 0) d_Md_act_152 rfl rfl (by decide) ?_
            refine mj_iload_n (pc := 153) (i := 1) d_Md_act_153 rfl rfl ?_
            refine mj_iload_n (pc := 154) (i := 3) d_Md_act_154 rfl rfl ?_
            refine mj_iload (pc := 155) (i := 4) d_Md_act_155 rfl ?_
            refine mj_aload_n (pc := 157) (i := 0) d_Md_act_157 rfl rfl (by decide) ?_
            refine mj_iload_n (pc := 158) (i := 1) d_Md_act_158 rfl rfl ?_
            obtain ⟨v37, hb38, h⟩ := bd1_some h
            refine mj_callV (pc := 159) (b := 88) (vs := [.int x1]) (st := [.int v3, .int v1, .int x1, .ref 88]) d_Md_act_159 bB_Md_act_Md_freeCash lk_Md_173 iv_Md_freeCash rc_88 rfl (Nat.le_of_ble_eq_true rfl) (Nat.le_of_ble_eq_true rfl) (r_Md_freeCash hb38) ?_
            show mj_R M_Md_act 162 [some (.ref 88), some (.int x1), some (.int x2), some (.int v1), some (.int v3), some (.int v5), none] [.int v37, .int v3, .int v1, .int x1, .ref 88] (SH, jn C C0) none (SH, jn C (C'))
            obtain ⟨v39, hb40, h⟩ := bd1_some h
            refine mj_callS (pc := 162) (vs := [.int v3, .int v37]) (st := [.int v1, .int x1, .ref 88]) d_Md_act_162 bB_Md_act_Md_less lk_Md_159 st_Md_less rfl (Nat.le_of_ble_eq_true rfl) (Nat.le_of_ble_eq_true rfl) (r_Md_less hb40) ?_
            show mj_R M_Md_act 165 [some (.ref 88), some (.int x1), some (.int x2), some (.int v1), some (.int v3), some (.int v5), none] [.int v39, .int v1, .int x1, .ref 88] (SH, jn C C0) none (SH, jn C (C'))
            refine mj_iconst (pc := 165) (v := 2) d_Md_act_165 (by decide) ?_
            obtain ⟨C41, hb42, h⟩ := bd1_some h
            refine mj_callV (pc := 166) (b := 88) (vs := [.int x1, .int v1, .int v39, .int 2]) (st := []) d_Md_act_166 bB_Md_act_Md_pays lk_Md_176 iv_Md_pays rc_88 rfl (Nat.le_of_ble_eq_true rfl) (Nat.le_of_ble_eq_true rfl) (r_Md_pays hb42) ?_
            show mj_R M_Md_act 169 [some (.ref 88), some (.int x1), some (.int x2), some (.int v1), some (.int v3), some (.int v5), none] [] (SH, jn C C41) none (SH, jn C (C'))
            obtain e_1 := inj1 h
            subst e_1
            exact mj_vret (pc := 169) d_Md_act_169 rfl
          · rw [if_neg hc13] at h
            refine mj_tableOut (pc := 33) (tgt := 170) d_Md_act_33 (by have q0 := i32_ne (n := 0) (by decide) hc9; have q1 := i32_ne (n := 1) (by decide) hc10; have q2 := i32_ne (n := 2) (by decide) hc11; have q3 := i32_ne (n := 3) (by decide) hc12; have q4 := i32_ne (n := 4) (by decide) hc13; omega) (by decide) ?_
            refine mj_aload_n (pc := 170) (i := 0) d_Md_act_170 rfl rfl (by decide) ?_
            refine mj_iload_n (pc := 171) (i := 1) d_Md_act_171 rfl rfl ?_
            refine mj_iload_n (pc := 172) (i := 3) d_Md_act_172 rfl rfl ?_
            refine mj_iload (pc := 173) (i := 4) d_Md_act_173 rfl ?_
            refine mj_iload (pc := 175) (i := 5) d_Md_act_175 rfl ?_
            obtain ⟨C43, hb44, h⟩ := bd1_some h
            refine mj_callV (pc := 177) (b := 88) (vs := [.int x1, .int v1, .int v3, .int v5]) (st := []) d_Md_act_177 bB_Md_act_Md_lend lk_Md_186 iv_Md_lend rc_88 rfl (Nat.le_of_ble_eq_true rfl) (Nat.le_of_ble_eq_true rfl) (r_Md_lend hb44) ?_
            show mj_R M_Md_act 180 [some (.ref 88), some (.int x1), some (.int x2), some (.int v1), some (.int v3), some (.int v5), none] [] (SH, jn C C43) none (SH, jn C (C'))
            obtain e_1 := inj1 h
            subst e_1
            exact mj_vret (pc := 180) d_Md_act_180 rfl
