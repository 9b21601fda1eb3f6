set_option maxRecDepth 20000 in
theorem l_Md_actAll_28 {r : Option Value} {X y : St} : ∀ (n : Nat) (y1 : Int32) (y2 : Int32) (y3 : Int32) (C : St) (Q_ : St), L_Md_actAll_28 n y1 y2 y3 C = some Q_ → mj_R M_Md_actAll 91 [some (.ref 88), some (.int y1), none, none] [] (SH, jn X Q_) r (SH, y) → mj_R M_Md_actAll 28 [some (.ref 88), some (.int y1), some (.int y2), some (.int y3)] [] (SH, jn X C) r (SH, y) := by
  intro n
  induction n with
  | zero => intro y1 y2 y3 C Q_ h; cases h
  | succ n ih =>
    intro y1 y2 y3 C Q_ h hX
    unfold L_Md_actAll_28 at h
    refine mj_iload_n (pc := 28) (i := 3) d_Md_actAll_28 rfl rfl ?_
    refine mj_aload_n (pc := 29) (i := 0) d_Md_actAll_29 rfl rfl (by decide) ?_
    refine mj_iload_n (pc := 30) (i := 2) d_Md_actAll_30 rfl rfl ?_
    obtain ⟨v4, hb5, h⟩ := bd1_some h
    refine mj_callV (pc := 31) (b := 88) (vs := [.int y2]) (st := [.int y3]) d_Md_actAll_31 bB_Md_actAll_Md_ruleMany lk_Md_129 iv_Md_ruleMany rc_88 rfl (Nat.le_of_ble_eq_true rfl) (Nat.le_of_ble_eq_true rfl) (r_Md_ruleMany hb5) ?_
    show mj_R M_Md_actAll 34 [some (.ref 88), some (.int y1), some (.int y2), some (.int y3)] [.int v4, .int y3] (SH, jn X C) r (SH, y)
    refine mj_icmp_ge (pc := 34) (tgt := 91) d_Md_actAll_34 (by decide) mj_hs (fun hc6 => ?_) (fun hc6 => ?_)
    · rw [if_pos hc6] at h
      obtain e_1 := inj1 h
      subst e_1
      exact mj_wk hX (And.intro rfl (And.intro rfl trivial))
    · rw [if_neg hc6] at h
      refine mj_aload_n (pc := 37) (i := 0) d_Md_actAll_37 rfl rfl (by decide) ?_
      refine mj_iload_n (pc := 38) (i := 2) d_Md_actAll_38 rfl rfl ?_
      obtain ⟨v7, hb8, h⟩ := bd1_some h
      refine mj_callV (pc := 39) (b := 88) (vs := [.int y2]) (st := []) d_Md_actAll_39 bB_Md_actAll_Md_isBroke lk_Md_189 iv_Md_isBroke rc_88 rfl (Nat.le_of_ble_eq_true rfl) (Nat.le_of_ble_eq_true rfl) (r_Md_isBroke hb8) ?_
      show mj_R M_Md_actAll 42 [some (.ref 88), some (.int y1), some (.int y2), some (.int y3)] [.int v7] (SH, jn X C) r (SH, y)
      refine mj_if_ne (y := 0) (pc := 42) (tgt := 91) d_Md_actAll_42 (by decide) mj_hs (fun hc9 => ?_) (fun hc9 => ?_)
      · rw [if_neg hc9] at h
        obtain e_1 := inj1 h
        subst e_1
        exact mj_wk hX (And.intro rfl (And.intro rfl trivial))
      · rw [if_pos hc9] at h
        refine mj_aload_n (pc := 45) (i := 0) d_Md_actAll_45 rfl rfl (by decide) ?_
        refine mj_iload_n (pc := 46) (i := 2) d_Md_actAll_46 rfl rfl ?_
        refine mj_iload_n (pc := 47) (i := 3) d_Md_actAll_47 rfl rfl ?_
        obtain ⟨v10, hb11, h⟩ := bd1_some h
        refine mj_callV (pc := 48) (b := 88) (vs := [.int y2, .int y3]) (st := []) d_Md_actAll_48 bB_Md_actAll_Md_fires lk_Md_192 iv_Md_fires rc_88 rfl (Nat.le_of_ble_eq_true rfl) (Nat.le_of_ble_eq_true rfl) (r_Md_fires hb11) ?_
        show mj_R M_Md_actAll 51 [some (.ref 88), some (.int y1), some (.int y2), some (.int y3)] [.int v10] (SH, jn X C) r (SH, y)
        obtain ⟨C16, hb18, h⟩ := bd1_some h
        have k17 : mj_R M_Md_actAll 85 [some (.ref 88), some (.int y1), some (.int y2), some (.int y3)] [] (SH, jn X C16) r (SH, y) := by
          refine mj_iinc (pc := 85) (i := 3) (v := y3 + 1) d_Md_actAll_85 rfl (by rfl) rfl (by decide) ?_
          refine mj_goto (pc := 88) (tgt := 28) d_Md_actAll_88 (by decide) ?_
          exact mj_weak [some (.ref 88), some (.int y1), some (.int y2), some (.int (y3 + 1))] (And.intro rfl (And.intro rfl (And.intro rfl (And.intro rfl trivial)))) (ih _ _ _ _ _ h hX)
        have h := hb18
        refine mj_if_eq (y := 0) (pc := 51) (tgt := 85) d_Md_actAll_51 (by decide) mj_hs (fun hc12 => ?_) (fun hc12 => ?_)
        · rw [if_pos hc12] at h
          obtain e_1 := inj1 h
          subst e_1
          exact mj_wk k17 (And.intro rfl (And.intro rfl (And.intro rfl (And.intro rfl trivial))))
        · rw [if_neg hc12] at h
          refine mj_aload_n (pc := 54) (i := 0) d_Md_actAll_54 rfl rfl (by decide) ?_
          refine mj_getR (pc := 55) d_Md_actAll_55 fl_Md_7 sh_88 rfl rfl (by decide) (by decide) (by decide) ?_
          refine mj_sipush (pc := 58) (v := 660) d_Md_actAll_58 (by decide) ?_
          refine mj_bipush (pc := 61) (v := 9) d_Md_actAll_61 (by decide) ?_
          refine mj_bipush (pc := 63) (v := 6) d_Md_actAll_63 (by decide) ?_
          refine mj_iload_n (pc := 65) (i := 2) d_Md_actAll_65 rfl rfl ?_
          refine mj_imul (pc := 66) d_Md_actAll_66 ?_
          refine mj_iload_n (pc := 67) (i := 3) d_Md_actAll_67 rfl rfl ?_
          refine mj_iadd (pc := 68) d_Md_actAll_68 ?_
          refine mj_imul (pc := 69) d_Md_actAll_69 ?_
          refine mj_iadd (pc := 70) d_Md_actAll_70 ?_
          refine mj_bipush (pc := 71) (v := 8) d_Md_actAll_71 (by decide) ?_
          refine mj_iadd (pc := 73) d_Md_actAll_73 ?_
          refine mj_dup2 (pc := 74) d_Md_actAll_74 rfl rfl ?_
          obtain ⟨hg13, h⟩ := mj_gd h
          refine dj_iald (pc := 75) d_Md_actAll_75 sh_89 (by decide) hg13 (by decide) ?_
          refine mj_iconst (pc := 76) (v := 1) d_Md_actAll_76 (by decide) ?_
          refine mj_iadd (pc := 77) d_Md_actAll_77 ?_
          refine dj_iast (pc := 78) d_Md_actAll_78 sh_89 (by decide) hg13 (by decide) ?_
          refine mj_aload_n (pc := 79) (i := 0) d_Md_actAll_79 rfl rfl (by decide) ?_
          refine mj_iload_n (pc := 80) (i := 2) d_Md_actAll_80 rfl rfl ?_
          refine mj_iload_n (pc := 81) (i := 3) d_Md_actAll_81 rfl rfl ?_
          obtain ⟨C14, hb15, h⟩ := bd1_some h
          refine mj_callV (pc := 82) (b := 88) (vs := [.int y2, .int y3]) (st := []) d_Md_actAll_82 bB_Md_actAll_Md_act lk_Md_195 iv_Md_act rc_88 rfl (Nat.le_of_ble_eq_true rfl) (Nat.le_of_ble_eq_true rfl) (r_Md_act hb15) ?_
          show mj_R M_Md_actAll 85 [some (.ref 88), some (.int y1), some (.int y2), some (.int y3)] [] (SH, jn X C14) r (SH, y)
          obtain e_1 := inj1 h
          subst e_1
          exact mj_wk k17 (And.intro rfl (And.intro rfl (And.intro rfl (And.intro rfl trivial))))
set_option maxRecDepth 20000 in
theorem l_Md_actAll_7 {r : Option Value} {X y : St} : ∀ (n : Nat) (y1 : Int32) (C : St) (Q_ : St), L_Md_actAll_7 n y1 C = some Q_ → mj_R M_Md_actAll 97 [none, none, none, none] [] (SH, jn X Q_) r (SH, y) → mj_R M_Md_actAll 7 [some (.ref 88), some (.int y1), none, none] [] (SH, jn X C) r (SH, y) := by
  intro n
  induction n with
  | zero => intro y1 C Q_ h; cases h
  | succ n ih =>
    intro y1 C Q_ h hX
    unfold L_Md_actAll_7 at h
    refine mj_iload_n (pc := 7) (i := 1) d_Md_actAll_7 rfl rfl ?_
    refine mj_aload_n (pc := 8) (i := 0) d_Md_actAll_8 rfl rfl (by decide) ?_
    refine mj_getR (pc := 9) d_Md_actAll_9 fl_Md_7 sh_88 rfl rfl (by decide) (by decide) (by decide) ?_
    refine mj_sipush (pc := 12) (v := 2163) d_Md_actAll_12 (by decide) ?_
    refine dj_iald (pc := 15) d_Md_actAll_15 sh_89 (by decide) (by decide) (by decide) ?_
    show mj_R M_Md_actAll 16 [some (.ref 88), some (.int y1), none, none] [.int (C 89 2163), .int y1] (SH, jn X C) r (SH, y)
    refine mj_icmp_ge (pc := 16) (tgt := 97) d_Md_actAll_16 (by decide) mj_hs (fun hc2 => ?_) (fun hc2 => ?_)
    · rw [if_pos hc2] at h
      obtain e_1 := inj1 h
      subst e_1
      exact mj_wk hX trivial
    · rw [if_neg hc2] at h
      refine mj_aload_n (pc := 19) (i := 0) d_Md_actAll_19 rfl rfl (by decide) ?_
      refine mj_getR (pc := 20) d_Md_actAll_20 fl_Md_44 sh_88 rfl rfl (by decide) (by decide) (by decide) ?_
      refine mj_iload_n (pc := 23) (i := 1) d_Md_actAll_23 rfl rfl ?_
      obtain ⟨hg3, h⟩ := mj_gd h
      refine dj_iald (pc := 24) d_Md_actAll_24 sh_100 (by decide) hg3 (by decide) ?_
      refine mj_istore_n (pc := 25) (i := 2) d_Md_actAll_25 rfl rfl (by decide) ?_
      refine mj_iconst (pc := 26) (v := 0) d_Md_actAll_26 (by decide) ?_
      refine mj_istore_n (pc := 27) (i := 3) d_Md_actAll_27 rfl rfl (by decide) ?_
      obtain ⟨C19, hl20, h⟩ := bd1_some h
      refine mj_weak [some (.ref 88), some (.int y1), some (.int (C 100 y1.toNatClampNeg)), some (.int 0)] (And.intro rfl (And.intro rfl (And.intro rfl (And.intro rfl trivial)))) (l_Md_actAll_28 3000 _ _ _ _ _ hl20 ?_)
      refine mj_iinc (pc := 91) (i := 1) (v := y1 + 1) d_Md_actAll_91 rfl (by rfl) rfl (by decide) ?_
      refine mj_goto (pc := 94) (tgt := 7) d_Md_actAll_94 (by decide) ?_
      exact mj_weak [some (.ref 88), some (.int (y1 + 1)), none, none] (And.intro rfl (And.intro rfl trivial)) (ih _ _ _ h hX)
set_option maxRecDepth 20000 in
theorem r_Md_actAll  {C C0 : St} {C' : St} (h : f_Md_actAll C0 = some (C')) : mj_R M_Md_actAll 0 (mj_lv M_Md_actAll.2.2.1 [.ref 88]) [] (SH, jn C C0) none (SH, jn C (C')) := by
  show mj_R M_Md_actAll 0 [some (.ref 88), none, none, none] [] _ _ _
  unfold f_Md_actAll at h
  refine mj_aload_n (pc := 0) (i := 0) d_Md_actAll_0 rfl rfl (by decide) ?_
  refine mj_iconst (pc := 1) (v := 0) d_Md_actAll_1 (by decide) ?_
  refine dj_putI (pc := 2) d_Md_actAll_2 fl_Md_156 sh_88 rfl (fun _ _ _ h => by cases h; rfl) (by decide) (by decide) (by decide) ?_
  refine mj_iconst (pc := 5) (v := 0) d_Md_actAll_5 (by decide) ?_
  refine mj_istore_n (pc := 6) (i := 1) d_Md_actAll_6 rfl rfl (by decide) ?_
  obtain ⟨C23, hl24, h⟩ := bd1_some h
  refine mj_weak [some (.ref 88), some (.int 0), none, none] (And.intro rfl (And.intro rfl trivial)) (l_Md_actAll_7 3000 _ _ _ hl24 ?_)
  obtain e_1 := inj1 h
  subst e_1
  exact mj_vret (pc := 97) d_Md_actAll_97 rfl
set_option maxRecDepth 20000 in
theorem r_Md_isOpen {x1 : Int32} {x2 : Int32} {x3 : Int32} {C C0 : St} {v : Int32} (h : f_Md_isOpen x1 x2 x3 C0 = some v) : mj_R M_Md_isOpen 0 (mj_lv M_Md_isOpen.2.2.1 [.ref 88, .int x1, .int x2, .int x3]) [] (SH, jn C C0) (some (.int v)) (SH, jn C C0) := by
  show mj_R M_Md_isOpen 0 [some (.ref 88), some (.int x1), some (.int x2), some (.int x3)] [] _ _ _
  unfold f_Md_isOpen at h
  refine mj_aload_n (pc := 0) (i := 0) d_Md_isOpen_0 rfl rfl (by decide) ?_
  refine mj_getR (pc := 1) d_Md_isOpen_1 fl_Md_35 sh_88 rfl rfl (by decide) (by decide) (by decide) ?_
  refine mj_iload_n (pc := 4) (i := 1) d_Md_isOpen_4 rfl rfl ?_
  obtain ⟨hg1, h⟩ := mj_gd h
  refine dj_zald (pc := 5) d_Md_isOpen_5 sh_97 (by decide) hg1 (by decide) ?_
  refine mj_iload_n (pc := 6) (i := 3) d_Md_isOpen_6 rfl rfl ?_
  have k7 : mj_R M_Md_isOpen 34 [none, none, none, none] [.int (if (C0 97 x1.toNatClampNeg) = x3 then (if (C0 94 x1.toNatClampNeg) = x2 then (if (C0 98 x1.toNatClampNeg) ≤ 0 then 0 else 1 : Int32) else 0 : Int32) else 0 : Int32)] (SH, jn C C0) (some (.int v)) (SH, jn C C0) := by
    obtain e_1 := inj1 h
    subst e_1
    exact mj_zret (pc := 34) (ty := .boolean) d_Md_isOpen_34 rfl (mj_b01 (by (repeat' split) <;> simp))
  refine mj_icmp_ne (pc := 7) (tgt := 33) d_Md_isOpen_7 (by decide) mj_hs (fun hc2 => ?_) (fun hc2 => ?_)
  · refine mj_iconst (pc := 33) (v := 0) d_Md_isOpen_33 (by decide) ?_
    try simp only [if_neg hc2] at k7
    exact mj_wk k7 trivial
  · refine mj_aload_n (pc := 10) (i := 0) d_Md_isOpen_10 rfl rfl (by decide) ?_
    refine mj_getR (pc := 11) d_Md_isOpen_11 fl_Md_26 sh_88 rfl rfl (by decide) (by decide) (by decide) ?_
    refine mj_iload_n (pc := 14) (i := 1) d_Md_isOpen_14 rfl rfl ?_
    refine dj_iald (pc := 15) d_Md_isOpen_15 sh_94 (by decide) hg1 (by decide) ?_
    refine mj_iload_n (pc := 16) (i := 2) d_Md_isOpen_16 rfl rfl ?_
    refine mj_icmp_ne (pc := 17) (tgt := 33) d_Md_isOpen_17 (by decide) mj_hs (fun hc4 => ?_) (fun hc4 => ?_)
    · refine mj_iconst (pc := 33) (v := 0) d_Md_isOpen_33 (by decide) ?_
      try simp only [if_pos hc2, if_neg hc4] at k7
      exact mj_wk k7 trivial
    · refine mj_aload_n (pc := 20) (i := 0) d_Md_isOpen_20 rfl rfl (by decide) ?_
      refine mj_getR (pc := 21) d_Md_isOpen_21 fl_Md_38 sh_88 rfl rfl (by decide) (by decide) (by decide) ?_
      refine mj_iload_n (pc := 24) (i := 1) d_Md_isOpen_24 rfl rfl ?_
      refine dj_iald (pc := 25) d_Md_isOpen_25 sh_98 (by decide) hg1 (by decide) ?_
      refine mj_if_le (y := 0) (pc := 26) (tgt := 33) d_Md_isOpen_26 (by decide) mj_hs (fun hc6 => ?_) (fun hc6 => ?_)
      · refine mj_iconst (pc := 33) (v := 0) d_Md_isOpen_33 (by decide) ?_
        try simp only [if_pos hc2, if_pos hc4, if_pos hc6] at k7
        exact mj_wk k7 trivial
      · refine mj_iconst (pc := 29) (v := 1) d_Md_isOpen_29 (by decide) ?_
        refine mj_goto (pc := 30) (tgt := 34) d_Md_isOpen_30 (by decide) ?_
        try simp only [if_pos hc2, if_pos hc4, if_neg hc6] at k7
        exact mj_wk k7 trivial
set_option maxRecDepth 20000 in
theorem l_Md_highestBid_4 {r : Option Value} {X y : St} : ∀ (n : Nat) (y1 : Int32) (y2 : Int32) (y3 : Int32) (C : St) (o2_ : Int32), L_Md_highestBid_4 n y1 y2 y3 C = some o2_ → mj_R M_Md_highestBid 49 [none, none, some (.int o2_), none] [] (SH, jn X C) r (SH, y) → mj_R M_Md_highestBid 4 [some (.ref 88), some (.int y1), some (.int y2), some (.int y3)] [] (SH, jn X C) r (SH, y) := by
  intro n
  induction n with
  | zero => intro y1 y2 y3 C o2_ h; cases h
  | succ n ih =>
    intro y1 y2 y3 C o2_ h hX
    unfold L_Md_highestBid_4 at h
    refine mj_iload_n (pc := 4) (i := 3) d_Md_highestBid_4 rfl rfl ?_
    refine mj_aload_n (pc := 5) (i := 0) d_Md_highestBid_5 rfl rfl (by decide) ?_
    refine dj_getI (pc := 6) d_Md_highestBid_6 fl_Md_156 sh_88 rfl (by decide) (by decide) (by decide) ?_
    refine mj_icmp_ge (pc := 9) (tgt := 49) d_Md_highestBid_9 (by decide) mj_hs (fun hc1 => ?_) (fun hc1 => ?_)
    · rw [if_pos hc1] at h
      obtain e_1 := inj1 h
      subst e_1
      exact mj_wk hX (And.intro rfl trivial)
    · rw [if_neg hc1] at h
      refine mj_aload_n (pc := 12) (i := 0) d_Md_highestBid_12 rfl rfl (by decide) ?_
      refine mj_iload_n (pc := 13) (i := 3) d_Md_highestBid_13 rfl rfl ?_
      refine mj_iload_n (pc := 14) (i := 1) d_Md_highestBid_14 rfl rfl ?_
      refine mj_iconst (pc := 15) (v := 1) d_Md_highestBid_15 (by decide) ?_
      obtain ⟨v2, hb3, h⟩ := bd1_some h
      refine mj_callV (pc := 16) (b := 88) (vs := [.int y3, .int y1, .int 1]) (st := []) d_Md_highestBid_16 bB_Md_highestBid_Md_isOpen lk_Md_204 iv_Md_isOpen rc_88 rfl (Nat.le_of_ble_eq_true rfl) (Nat.le_of_ble_eq_true rfl) (r_Md_isOpen hb3) ?_
      show mj_R M_Md_highestBid 19 [some (.ref 88), some (.int y1), some (.int y2), some (.int y3)] [.int v2] (SH, jn X C) r (SH, y)
      obtain ⟨w9, hb11, h⟩ := bd1_some h
      have k10 : mj_R M_Md_highestBid 43 [some (.ref 88), some (.int y1), some (.int w9), some (.int y3)] [] (SH, jn X C) r (SH, y) := by
        refine mj_iinc (pc := 43) (i := 3) (v := y3 + 1) d_Md_highestBid_43 rfl (by rfl) rfl (by decide) ?_
        refine mj_goto (pc := 46) (tgt := 4) d_Md_highestBid_46 (by decide) ?_
        exact mj_weak [some (.ref 88), some (.int y1), some (.int w9), some (.int (y3 + 1))] (And.intro rfl (And.intro rfl (And.intro rfl (And.intro rfl trivial)))) (ih _ _ _ _ _ h hX)
      have h := hb11
      refine mj_if_eq (y := 0) (pc := 19) (tgt := 43) d_Md_highestBid_19 (by decide) mj_hs (fun hc4 => ?_) (fun hc4 => ?_)
      · rw [if_pos hc4] at h
        obtain e_1 := inj1 h
        subst e_1
        exact mj_wk k10 (And.intro rfl (And.intro rfl (And.intro rfl (And.intro rfl trivial))))
      · rw [if_neg hc4] at h
        refine mj_iload_n (pc := 22) (i := 2) d_Md_highestBid_22 rfl rfl ?_
        refine mj_if_lt (y := 0) (pc := 23) (tgt := 41) d_Md_highestBid_23 (by decide) mj_hs (fun hc5 => ?_) (fun hc5 => ?_)
        · rw [if_pos hc5] at h
          refine mj_iload_n (pc := 41) (i := 3) d_Md_highestBid_41 rfl rfl ?_
          refine mj_istore_n (pc := 42) (i := 2) d_Md_highestBid_42 rfl rfl (by decide) ?_
          obtain e_1 := inj1 h
          subst e_1
          exact mj_wk k10 (And.intro rfl (And.intro rfl (And.intro rfl (And.intro rfl trivial))))
        · rw [if_neg hc5] at h
          refine mj_aload_n (pc := 26) (i := 0) d_Md_highestBid_26 rfl rfl (by decide) ?_
          refine mj_getR (pc := 27) d_Md_highestBid_27 fl_Md_32 sh_88 rfl rfl (by decide) (by decide) (by decide) ?_
          refine mj_iload_n (pc := 30) (i := 3) d_Md_highestBid_30 rfl rfl ?_
          obtain ⟨hg6, h⟩ := mj_gd h
          refine dj_iald (pc := 31) d_Md_highestBid_31 sh_96 (by decide) hg6 (by decide) ?_
          refine mj_aload_n (pc := 32) (i := 0) d_Md_highestBid_32 rfl rfl (by decide) ?_
          refine mj_getR (pc := 33) d_Md_highestBid_33 fl_Md_32 sh_88 rfl rfl (by decide) (by decide) (by decide) ?_
          refine mj_iload_n (pc := 36) (i := 2) d_Md_highestBid_36 rfl rfl ?_
          obtain ⟨hg7, h⟩ := mj_gd h
          refine dj_iald (pc := 37) d_Md_highestBid_37 sh_96 (by decide) hg7 (by decide) ?_
          refine mj_icmp_le (pc := 38) (tgt := 43) d_Md_highestBid_38 (by decide) mj_hs (fun hc8 => ?_) (fun hc8 => ?_)
          · rw [if_pos hc8] at h
            obtain e_1 := inj1 h
            subst e_1
            exact mj_wk k10 (And.intro rfl (And.intro rfl (And.intro rfl (And.intro rfl trivial))))
          · rw [if_neg hc8] at h
            refine mj_iload_n (pc := 41) (i := 3) d_Md_highestBid_41 rfl rfl ?_
            refine mj_istore_n (pc := 42) (i := 2) d_Md_highestBid_42 rfl rfl (by decide) ?_
            obtain e_1 := inj1 h
            subst e_1
            exact mj_wk k10 (And.intro rfl (And.intro rfl (And.intro rfl (And.intro rfl trivial))))
set_option maxRecDepth 20000 in
theorem r_Md_highestBid {x1 : Int32} {C C0 : St} {v : Int32} (h : f_Md_highestBid x1 C0 = some v) : mj_R M_Md_highestBid 0 (mj_lv M_Md_highestBid.2.2.1 [.ref 88, .int x1]) [] (SH, jn C C0) (some (.int v)) (SH, jn C C0) := by
  show mj_R M_Md_highestBid 0 [some (.ref 88), some (.int x1), none, none] [] _ _ _
  unfold f_Md_highestBid at h
  refine mj_iconst (pc := 0) (v := -1) d_Md_highestBid_0 (by decide) ?_
  refine mj_istore_n (pc := 1) (i := 2) d_Md_highestBid_1 rfl rfl (by decide) ?_
  refine mj_iconst (pc := 2) (v := 0) d_Md_highestBid_2 (by decide) ?_
  refine mj_istore_n (pc := 3) (i := 3) d_Md_highestBid_3 rfl rfl (by decide) ?_
  obtain ⟨o12, hl13, h⟩ := bd1_some h
  refine mj_weak [some (.ref 88), some (.int x1), some (.int (-1)), some (.int 0)] (And.intro rfl (And.intro rfl (And.intro rfl (And.intro rfl trivial)))) (l_Md_highestBid_4 3000 _ _ _ _ _ hl13 ?_)
  refine mj_iload_n (pc := 49) (i := 2) d_Md_highestBid_49 rfl rfl ?_
  obtain e_1 := inj1 h
  subst e_1
  exact mj_iret (pc := 50) d_Md_highestBid_50 rfl
set_option maxRecDepth 20000 in
theorem l_Md_lowestAsk_4 {r : Option Value} {X y : St} : ∀ (n : Nat) (y1 : Int32) (y2 : Int32) (y3 : Int32) (C : St) (o2_ : Int32), L_Md_lowestAsk_4 n y1 y2 y3 C = some o2_ → mj_R M_Md_lowestAsk 49 [none, none, some (.int o2_), none] [] (SH, jn X C) r (SH, y) → mj_R M_Md_lowestAsk 4 [some (.ref 88), some (.int y1), some (.int y2), some (.int y3)] [] (SH, jn X C) r (SH, y) := by
  intro n
  induction n with
  | zero => intro y1 y2 y3 C o2_ h; cases h
  | succ n ih =>
    intro y1 y2 y3 C o2_ h hX
    unfold L_Md_lowestAsk_4 at h
    refine mj_iload_n (pc := 4) (i := 3) d_Md_lowestAsk_4 rfl rfl ?_
    refine mj_aload_n (pc := 5) (i := 0) d_Md_lowestAsk_5 rfl rfl (by decide) ?_
    refine dj_getI (pc := 6) d_Md_lowestAsk_6 fl_Md_156 sh_88 rfl (by decide) (by decide) (by decide) ?_
    refine mj_icmp_ge (pc := 9) (tgt := 49) d_Md_lowestAsk_9 (by decide) mj_hs (fun hc1 => ?_) (fun hc1 => ?_)
    · rw [if_pos hc1] at h
      obtain e_1 := inj1 h
      subst e_1
      exact mj_wk hX (And.intro rfl trivial)
    · rw [if_neg hc1] at h
      refine mj_aload_n (pc := 12) (i := 0) d_Md_lowestAsk_12 rfl rfl (by decide) ?_
      refine mj_iload_n (pc := 13) (i := 3) d_Md_lowestAsk_13 rfl rfl ?_
      refine mj_iload_n (pc := 14) (i := 1) d_Md_lowestAsk_14 rfl rfl ?_
      refine mj_iconst (pc := 15) (v := 0) d_Md_lowestAsk_15 (by decide) ?_
      obtain ⟨v2, hb3, h⟩ := bd1_some h
      refine mj_callV (pc := 16) (b := 88) (vs := [.int y3, .int y1, .int 0]) (st := []) d_Md_lowestAsk_16 bB_Md_lowestAsk_Md_isOpen lk_Md_204 iv_Md_isOpen rc_88 rfl (Nat.le_of_ble_eq_true rfl) (Nat.le_of_ble_eq_true rfl) (r_Md_isOpen hb3) ?_
      show mj_R M_Md_lowestAsk 19 [some (.ref 88), some (.int y1), some (.int y2), some (.int y3)] [.int v2] (SH, jn X C) r (SH, y)
      obtain ⟨w9, hb11, h⟩ := bd1_some h
      have k10 : mj_R M_Md_lowestAsk 43 [some (.ref 88), some (.int y1), some (.int w9), some (.int y3)] [] (SH, jn X C) r (SH, y) := by
        refine mj_iinc (pc := 43) (i := 3) (v := y3 + 1) d_Md_lowestAsk_43 rfl (by rfl) rfl (by decide) ?_
        refine mj_goto (pc := 46) (tgt := 4) d_Md_lowestAsk_46 (by decide) ?_
        exact mj_weak [some (.ref 88), some (.int y1), some (.int w9), some (.int (y3 + 1))] (And.intro rfl (And.intro rfl (And.intro rfl (And.intro rfl trivial)))) (ih _ _ _ _ _ h hX)
      have h := hb11
      refine mj_if_eq (y := 0) (pc := 19) (tgt := 43) d_Md_lowestAsk_19 (by decide) mj_hs (fun hc4 => ?_) (fun hc4 => ?_)
      · rw [if_pos hc4] at h
        obtain e_1 := inj1 h
        subst e_1
        exact mj_wk k10 (And.intro rfl (And.intro rfl (And.intro rfl (And.intro rfl trivial))))
      · rw [if_neg hc4] at h
        refine mj_iload_n (pc := 22) (i := 2) d_Md_lowestAsk_22 rfl rfl ?_
        refine mj_if_lt (y := 0) (pc := 23) (tgt := 41) d_Md_lowestAsk_23 (by decide) mj_hs (fun hc5 => ?_) (fun hc5 => ?_)
        · rw [if_pos hc5] at h
          refine mj_iload_n (pc := 41) (i := 3) d_Md_lowestAsk_41 rfl rfl ?_
          refine mj_istore_n (pc := 42) (i := 2) d_Md_lowestAsk_42 rfl rfl (by decide) ?_
          obtain e_1 := inj1 h
          subst e_1
          exact mj_wk k10 (And.intro rfl (And.intro rfl (And.intro rfl (And.intro rfl trivial))))
        · rw [if_neg hc5] at h
          refine mj_aload_n (pc := 26) (i := 0) d_Md_lowestAsk_26 rfl rfl (by decide) ?_
          refine mj_getR (pc := 27) d_Md_lowestAsk_27 fl_Md_32 sh_88 rfl rfl (by decide) (by decide) (by decide) ?_
          refine mj_iload_n (pc := 30) (i := 3) d_Md_lowestAsk_30 rfl rfl ?_
          obtain ⟨hg6, h⟩ := mj_gd h
          refine dj_iald (pc := 31) d_Md_lowestAsk_31 sh_96 (by decide) hg6 (by decide) ?_
          refine mj_aload_n (pc := 32) (i := 0) d_Md_lowestAsk_32 rfl rfl (by decide) ?_
          refine mj_getR (pc := 33) d_Md_lowestAsk_33 fl_Md_32 sh_88 rfl rfl (by decide) (by decide) (by decide) ?_
          refine mj_iload_n (pc := 36) (i := 2) d_Md_lowestAsk_36 rfl rfl ?_
          obtain ⟨hg7, h⟩ := mj_gd h
          refine dj_iald (pc := 37) d_Md_lowestAsk_37 sh_96 (by decide) hg7 (by decide) ?_
          refine mj_icmp_ge (pc := 38) (tgt := 43) d_Md_lowestAsk_38 (by decide) mj_hs (fun hc8 => ?_) (fun hc8 => ?_)
          · rw [if_pos hc8] at h
            obtain e_1 := inj1 h
            subst e_1
            exact mj_wk k10 (And.intro rfl (And.intro rfl (And.intro rfl (And.intro rfl trivial))))
          · rw [if_neg hc8] at h
            refine mj_iload_n (pc := 41) (i := 3) d_Md_lowestAsk_41 rfl rfl ?_
            refine mj_istore_n (pc := 42) (i := 2) d_Md_lowestAsk_42 rfl rfl (by decide) ?_
            obtain e_1 := inj1 h
            subst e_1
            exact mj_wk k10 (And.intro rfl (And.intro rfl (And.intro rfl (And.intro rfl trivial))))
set_option maxRecDepth 20000 in
theorem r_Md_lowestAsk {x1 : Int32} {C C0 : St} {v : Int32} (h : f_Md_lowestAsk x1 C0 = some v) : mj_R M_Md_lowestAsk 0 (mj_lv M_Md_lowestAsk.2.2.1 [.ref 88, .int x1]) [] (SH, jn C C0) (some (.int v)) (SH, jn C C0) := by
  show mj_R M_Md_lowestAsk 0 [some (.ref 88), some (.int x1), none, none] [] _ _ _
  unfold f_Md_lowestAsk at h
  refine mj_iconst (pc := 0) (v := -1) d_Md_lowestAsk_0 (by decide) ?_
  refine mj_istore_n (pc := 1) (i := 2) d_Md_lowestAsk_1 rfl rfl (by decide) ?_
  refine mj_iconst (pc := 2) (v := 0) d_Md_lowestAsk_2 (by decide) ?_
  refine mj_istore_n (pc := 3) (i := 3) d_Md_lowestAsk_3 rfl rfl (by decide) ?_
  obtain ⟨o12, hl13, h⟩ := bd1_some h
  refine mj_weak [some (.ref 88), some (.int x1), some (.int (-1)), some (.int 0)] (And.intro rfl (And.intro rfl (And.intro rfl (And.intro rfl trivial)))) (l_Md_lowestAsk_4 3000 _ _ _ _ _ hl13 ?_)
  refine mj_iload_n (pc := 49) (i := 2) d_Md_lowestAsk_49 rfl rfl ?_
  obtain e_1 := inj1 h
  subst e_1
  exact mj_iret (pc := 50) d_Md_lowestAsk_50 rfl
set_option maxRecDepth 20000 in
theorem l_Md_council_2 {r : Option Value} {X y : St} : ∀ (n : Nat) (y1 : Int32) (C : St) (o : (Int32) ⊕ (Unit)), L_Md_council_2 n y1 C = some o → (∀ a : Int32, o = .inl a → r = some (.int a) ∧ y = jn X C) → (∀ a : Unit, o = .inr a → mj_R M_Md_council 31 [none, none] [] (SH, jn X C) r (SH, y)) → mj_R M_Md_council 2 [some (.ref 88), some (.int y1)] [] (SH, jn X C) r (SH, y) := by
  intro n
  induction n with
  | zero => intro y1 C o h; cases h
  | succ n ih =>
    intro y1 C o h hE hX
    unfold L_Md_council_2 at h
    refine mj_iload_n (pc := 2) (i := 1) d_Md_council_2 rfl rfl ?_
    refine mj_aload_n (pc := 3) (i := 0) d_Md_council_3 rfl rfl (by decide) ?_
    refine mj_getR (pc := 4) d_Md_council_4 fl_Md_7 sh_88 rfl rfl (by decide) (by decide) (by decide) ?_
    refine mj_sipush (pc := 7) (v := 2163) d_Md_council_7 (by decide) ?_
    refine dj_iald (pc := 10) d_Md_council_10 sh_89 (by decide) (by decide) (by decide) ?_
    show mj_R M_Md_council 11 [some (.ref 88), some (.int y1)] [.int (C 89 2163), .int y1] (SH, jn X C) r (SH, y)
    refine mj_icmp_ge (pc := 11) (tgt := 31) d_Md_council_11 (by decide) mj_hs (fun hc2 => ?_) (fun hc2 => ?_)
    · rw [if_pos hc2] at h
      obtain e_1 := inj1 h
      subst e_1
      exact mj_wk (hX _ rfl) trivial
    · rw [if_neg hc2] at h
      refine mj_aload_n (pc := 14) (i := 0) d_Md_council_14 rfl rfl (by decide) ?_
      refine mj_iload_n (pc := 15) (i := 1) d_Md_council_15 rfl rfl ?_
      obtain ⟨v3, hb4, h⟩ := bd1_some h
      refine mj_callV (pc := 16) (b := 88) (vs := [.int y1]) (st := []) d_Md_council_16 bB_Md_council_Md_kind lk_Md_61 iv_Md_kind rc_88 rfl (Nat.le_of_ble_eq_true rfl) (Nat.le_of_ble_eq_true rfl) (r_Md_kind hb4) ?_
      show mj_R M_Md_council 19 [some (.ref 88), some (.int y1)] [.int v3] (SH, jn X C) r (SH, y)
      refine mj_iconst (pc := 19) (v := 5) d_Md_council_19 (by decide) ?_
      refine mj_icmp_ne (pc := 20) (tgt := 25) d_Md_council_20 (by decide) mj_hs (fun hc5 => ?_) (fun hc5 => ?_)
      · rw [if_neg hc5] at h
        refine mj_iinc (pc := 25) (i := 1) (v := y1 + 1) d_Md_council_25 rfl (by rfl) rfl (by decide) ?_
        refine mj_goto (pc := 28) (tgt := 2) d_Md_council_28 (by decide) ?_
        exact mj_weak [some (.ref 88), some (.int (y1 + 1))] (And.intro rfl (And.intro rfl trivial)) (ih _ _ _ h hE hX)
      · rw [if_pos hc5] at h
        refine mj_iload_n (pc := 23) (i := 1) d_Md_council_23 rfl rfl ?_
        obtain e_1 := inj1 h
        subst e_1
        obtain ⟨e1, e2⟩ := hE _ rfl
        subst e1
        subst e2
        exact mj_iret (pc := 24) d_Md_council_24 rfl
set_option maxRecDepth 20000 in
theorem r_Md_council  {C C0 : St} {v : Int32} (h : f_Md_council C0 = some v) : mj_R M_Md_council 0 (mj_lv M_Md_council.2.2.1 [.ref 88]) [] (SH, jn C C0) (some (.int v)) (SH, jn C C0) := by
  show mj_R M_Md_council 0 [some (.ref 88), none] [] _ _ _
  unfold f_Md_council at h
  refine mj_iconst (pc := 0) (v := 0) d_Md_council_0 (by decide) ?_
  refine mj_istore_n (pc := 1) (i := 1) d_Md_council_1 rfl rfl (by decide) ?_
  rcases bdS_some h with ⟨e7, hl6, h⟩ | ⟨_u, hl6, h⟩
  · refine mj_weak [some (.ref 88), some (.int 0)] (And.intro rfl (And.intro rfl trivial)) (l_Md_council_2 3000 _ _ _ hl6 (fun a e => ?_) (fun a e => nomatch e))
    cases e
    obtain e_1 := inj1 h
    subst e_1
    exact ⟨rfl, rfl⟩
  · refine mj_weak [some (.ref 88), some (.int 0)] (And.intro rfl (And.intro rfl trivial)) (l_Md_council_2 3000 _ _ _ hl6 (fun a e => nomatch e) (fun a e => ?_))
    cases e
    refine mj_iconst (pc := 31) (v := -1) d_Md_council_31 (by decide) ?_
    obtain e_1 := inj1 h
    subst e_1
    exact mj_iret (pc := 32) d_Md_council_32 rfl
set_option maxRecDepth 20000 in
theorem r_Md_sell {x1 : Int32} {x2 : Int32} {x3 : Int32} {x4 : Int32} {C C0 : St} {C' : St} (h : f_Md_sell x1 x2 x3 x4 C0 = some (C')) : mj_R M_Md_sell 0 (mj_lv M_Md_sell.2.2.1 [.ref 88, .int x1, .int x2, .int x3, .int x4]) [] (SH, jn C C0) none (SH, jn C (C')) := by
  show mj_R M_Md_sell 0 [some (.ref 88), some (.int x1), some (.int x2), some (.int x3), some (.int x4), none, none, none, none] [] _ _ _
  unfold f_Md_sell at h
  refine mj_aload_n (pc := 0) (i := 0) d_Md_sell_0 rfl rfl (by decide) ?_
  refine mj_getR (pc := 1) d_Md_sell_1 fl_Md_23 sh_88 rfl rfl (by decide) (by decide) (by decide) ?_
  refine mj_iload_n (pc := 4) (i := 2) d_Md_sell_4 rfl rfl ?_
  obtain ⟨hg1, h⟩ := mj_gd h
  refine dj_iald (pc := 5) d_Md_sell_5 sh_93 (by decide) hg1 (by decide) ?_
  refine mj_istore (pc := 6) (i := 5) d_Md_sell_6 rfl (by decide) ?_
  refine mj_aload_n (pc := 8) (i := 0) d_Md_sell_8 rfl rfl (by decide) ?_
  refine mj_getR (pc := 9) d_Md_sell_9 fl_Md_23 sh_88 rfl rfl (by decide) (by decide) (by decide) ?_
  refine mj_iload_n (pc := 12) (i := 1) d_Md_sell_12 rfl rfl ?_
  obtain ⟨hg2, h⟩ := mj_gd h
  refine dj_iald (pc := 13) d_Md_sell_13 sh_93 (by decide) hg2 (by decide) ?_
  refine mj_istore (pc := 14) (i := 6) d_Md_sell_14 rfl (by decide) ?_
  refine mj_aload_n (pc := 16) (i := 0) d_Md_sell_16 rfl rfl (by decide) ?_
  refine mj_getR (pc := 17) d_Md_sell_17 fl_Md_26 sh_88 rfl rfl (by decide) (by decide) (by decide) ?_
  refine mj_iload_n (pc := 20) (i := 2) d_Md_sell_20 rfl rfl ?_
  refine dj_iald (pc := 21) d_Md_sell_21 sh_94 (by decide) hg1 (by decide) ?_
  refine mj_istore (pc := 22) (i := 7) d_Md_sell_22 rfl (by decide) ?_
  refine mj_aload_n (pc := 24) (i := 0) d_Md_sell_24 rfl rfl (by decide) ?_
  refine mj_getR (pc := 25) d_Md_sell_25 fl_Md_38 sh_88 rfl rfl (by decide) (by decide) (by decide) ?_
  refine mj_iload_n (pc := 28) (i := 1) d_Md_sell_28 rfl rfl ?_
  refine mj_dup2 (pc := 29) d_Md_sell_29 rfl rfl ?_
  refine dj_iald (pc := 30) d_Md_sell_30 sh_98 (by decide) hg2 (by decide) ?_
  refine mj_iload_n (pc := 31) (i := 3) d_Md_sell_31 rfl rfl ?_
  refine mj_isub (pc := 32) d_Md_sell_32 ?_
  refine dj_iast (pc := 33) d_Md_sell_33 sh_98 (by decide) hg2 (by decide) ?_
  refine mj_aload_n (pc := 34) (i := 0) d_Md_sell_34 rfl rfl (by decide) ?_
  refine mj_getR (pc := 35) d_Md_sell_35 fl_Md_38 sh_88 rfl rfl (by decide) (by decide) (by decide) ?_
  refine mj_iload_n (pc := 38) (i := 2) d_Md_sell_38 rfl rfl ?_
  refine mj_dup2 (pc := 39) d_Md_sell_39 rfl rfl ?_
  refine dj_iald (pc := 40) d_Md_sell_40 sh_98 (by decide) hg1 (by decide) ?_
  refine mj_iload_n (pc := 41) (i := 3) d_Md_sell_41 rfl rfl ?_
  refine mj_isub (pc := 42) d_Md_sell_42 ?_
  refine dj_iast (pc := 43) d_Md_sell_43 sh_98 (by decide) hg1 (by decide) ?_
  refine mj_aload_n (pc := 44) (i := 0) d_Md_sell_44 rfl rfl (by decide) ?_
  refine mj_iload (pc := 45) (i := 5) d_Md_sell_45 rfl ?_
  refine mj_iload (pc := 47) (i := 7) d_Md_sell_47 rfl ?_
  refine mj_iload_n (pc := 49) (i := 3) d_Md_sell_49 rfl rfl ?_
  refine mj_iload (pc := 50) (i := 6) d_Md_sell_50 rfl ?_
  obtain ⟨C6, hb7, h⟩ := bd1_some h
  refine mj_callV (pc := 52) (b := 88) (vs := [.int (C0 93 x2.toNatClampNeg), .int (C0 94 x2.toNatClampNeg), .int x3, .int (C0 93 x1.toNatClampNeg)]) (st := []) d_Md_sell_52 bB_Md_sell_Md_go lk_Md_165 iv_Md_go rc_88 rfl (Nat.le_of_ble_eq_true rfl) (Nat.le_of_ble_eq_true rfl) (r_Md_go hb7) ?_
  show mj_R M_Md_sell 55 [some (.ref 88), some (.int x1), some (.int x2), some (.int x3), some (.int x4), some (.int (C0 93 x2.toNatClampNeg)), some (.int (C0 93 x1.toNatClampNeg)), some (.int (C0 94 x2.toNatClampNeg)), none] [] (SH, jn C C6) none (SH, jn C (C'))
  refine mj_aload_n (pc := 55) (i := 0) d_Md_sell_55 rfl rfl (by decide) ?_
  refine mj_iload (pc := 56) (i := 6) d_Md_sell_56 rfl ?_
  refine mj_iload (pc := 58) (i := 5) d_Md_sell_58 rfl ?_
  refine mj_iload (pc := 60) (i := 4) d_Md_sell_60 rfl ?_
  refine mj_iload_n (pc := 62) (i := 3) d_Md_sell_62 rfl rfl ?_
  refine mj_imul (pc := 63) d_Md_sell_63 ?_
  refine mj_iconst (pc := 64) (v := 0) d_Md_sell_64 (by decide) ?_
  obtain ⟨C8, hb9, h⟩ := bd1_some h
  refine mj_callV (pc := 65) (b := 88) (vs := [.int (C0 93 x1.toNatClampNeg), .int (C0 93 x2.toNatClampNeg), .int (x4 * x3), .int 0]) (st := []) d_Md_sell_65 bB_Md_sell_Md_pays lk_Md_176 iv_Md_pays rc_88 rfl (Nat.le_of_ble_eq_true rfl) (Nat.le_of_ble_eq_true rfl) (r_Md_pays hb9) ?_
  show mj_R M_Md_sell 68 [some (.ref 88), some (.int x1), some (.int x2), some (.int x3), some (.int x4), some (.int (C0 93 x2.toNatClampNeg)), some (.int (C0 93 x1.toNatClampNeg)), some (.int (C0 94 x2.toNatClampNeg)), none] [] (SH, jn C C8) none (SH, jn C (C'))
  refine mj_aload_n (pc := 68) (i := 0) d_Md_sell_68 rfl rfl (by decide) ?_
  obtain ⟨v10, hb11, h⟩ := bd1_some h
  refine mj_callV (pc := 69) (b := 88) (vs := []) (st := []) d_Md_sell_69 bB_Md_sell_Md_council lk_Md_199 iv_Md_council rc_88 rfl (Nat.le_of_ble_eq_true rfl) (Nat.le_of_ble_eq_true rfl) (r_Md_council hb11) ?_
  show mj_R M_Md_sell 72 [some (.ref 88), some (.int x1), some (.int x2), some (.int x3), some (.int x4), some (.int (C0 93 x2.toNatClampNeg)), some (.int (C0 93 x1.toNatClampNeg)), some (.int (C0 94 x2.toNatClampNeg)), none] [.int v10] (SH, jn C C8) none (SH, jn C (C'))
  refine mj_istore (pc := 72) (i := 8) d_Md_sell_72 rfl (by decide) ?_
  refine mj_iload (pc := 74) (i := 8) d_Md_sell_74 rfl ?_
  obtain ⟨C16, hb18, h⟩ := bd1_some h
  have k17 : mj_R M_Md_sell 109 [some (.ref 88), none, none, some (.int x3), some (.int x4), none, none, some (.int (C0 94 x2.toNatClampNeg)), none] [] (SH, jn C C16) none (SH, jn C (C')) := by
    refine mj_aload_n (pc := 109) (i := 0) d_Md_sell_109 rfl rfl (by decide) ?_
    refine mj_getR (pc := 110) d_Md_sell_110 fl_Md_7 sh_88 rfl rfl (by decide) (by decide) (by decide) ?_
    refine mj_sipush (pc := 113) (v := 1308) d_Md_sell_113 (by decide) ?_
    refine mj_bipush (pc := 116) (v := 11) d_Md_sell_116 (by decide) ?_
    refine mj_iload (pc := 118) (i := 7) d_Md_sell_118 rfl ?_
    refine mj_imul (pc := 120) d_Md_sell_120 ?_
    refine mj_iadd (pc := 121) d_Md_sell_121 ?_
    refine mj_iconst (pc := 122) (v := 2) d_Md_sell_122 (by decide) ?_
    refine mj_iadd (pc := 123) d_Md_sell_123 ?_
    refine mj_iload (pc := 124) (i := 4) d_Md_sell_124 rfl ?_
    obtain ⟨hg19, h⟩ := mj_gd h
    refine dj_iast (pc := 126) d_Md_sell_126 sh_89 (by decide) hg19 (by decide) ?_
    refine mj_aload_n (pc := 127) (i := 0) d_Md_sell_127 rfl rfl (by decide) ?_
    refine mj_iload (pc := 128) (i := 7) d_Md_sell_128 rfl ?_
    refine mj_iconst (pc := 130) (v := 3) d_Md_sell_130 (by decide) ?_
    refine mj_iload_n (pc := 131) (i := 3) d_Md_sell_131 rfl rfl ?_
    obtain ⟨C20, hb21, h⟩ := bd1_some h
    refine mj_callV (pc := 132) (b := 88) (vs := [.int (C0 94 x2.toNatClampNeg), .int 3, .int x3]) (st := []) d_Md_sell_132 bB_Md_sell_Md_addGood lk_Md_169 iv_Md_addGood rc_88 rfl (Nat.le_of_ble_eq_true rfl) (Nat.le_of_ble_eq_true rfl) (r_Md_addGood hb21) ?_
    show mj_R M_Md_sell 135 [some (.ref 88), none, none, some (.int x3), some (.int x4), none, none, some (.int (C0 94 x2.toNatClampNeg)), none] [] (SH, jn C C20) none (SH, jn C (C'))
    obtain e_1 := inj1 h
    subst e_1
    exact mj_vret (pc := 135) d_Md_sell_135 rfl
  have h := hb18
  refine mj_if_lt (y := 0) (pc := 76) (tgt := 109) d_Md_sell_76 (by decide) mj_hs (fun hc12 => ?_) (fun hc12 => ?_)
  · rw [if_pos hc12] at h
    obtain e_1 := inj1 h
    subst e_1
    exact mj_wk k17 (And.intro rfl (And.intro rfl (And.intro rfl (And.intro rfl trivial))))
  · rw [if_neg hc12] at h
    refine mj_aload_n (pc := 79) (i := 0) d_Md_sell_79 rfl rfl (by decide) ?_
    refine mj_iload (pc := 80) (i := 5) d_Md_sell_80 rfl ?_
    refine mj_iload (pc := 82) (i := 8) d_Md_sell_82 rfl ?_
    refine mj_iload (pc := 84) (i := 4) d_Md_sell_84 rfl ?_
    refine mj_i2l (pc := 86) d_Md_sell_86 ?_
    refine mj_iload_n (pc := 87) (i := 3) d_Md_sell_87 rfl rfl ?_
    refine mj_i2l (pc := 88) d_Md_sell_88 ?_
    refine mj_lmul (pc := 89) d_Md_sell_89 ?_
    refine mj_aload_n (pc := 90) (i := 0) d_Md_sell_90 rfl rfl (by decide) ?_
    refine mj_getR (pc := 91) d_Md_sell_91 fl_Md_7 sh_88 rfl rfl (by decide) (by decide) (by decide) ?_
    refine mj_sipush (pc := 94) (v := 2166) d_Md_sell_94 (by decide) ?_
    refine dj_iald (pc := 97) d_Md_sell_97 sh_89 (by decide) (by decide) (by decide) ?_
    show mj_R M_Md_sell 98 [some (.ref 88), some (.int x1), some (.int x2), some (.int x3), some (.int x4), some (.int (C0 93 x2.toNatClampNeg)), some (.int (C0 93 x1.toNatClampNeg)), some (.int (C0 94 x2.toNatClampNeg)), some (.int v10)] [.int (C8 89 2166), .long ((x4.toInt64) * (x3.toInt64)), .int v10, .int (C0 93 x2.toNatClampNeg), .ref 88] (SH, jn C C8) none (SH, jn C (C'))
    refine mj_i2l (pc := 98) d_Md_sell_98 ?_
    refine mj_lmul (pc := 99) d_Md_sell_99 ?_
    refine mj_ldc2 (pc := 100) (v := 1000) d_Md_sell_100 k_Md_202 ?_
    refine mj_ldiv (pc := 103) d_Md_sell_103 (by decide) ?_
    refine mj_l2i (pc := 104) d_Md_sell_104 ?_
    refine mj_iconst (pc := 105) (v := 1) d_Md_sell_105 (by decide) ?_
    obtain ⟨C14, hb15, h⟩ := bd1_some h
    refine mj_callV (pc := 106) (b := 88) (vs := [.int (C0 93 x2.toNatClampNeg), .int v10, .int (((((x4.toInt64) * (x3.toInt64)) * ((C8 89 2166).toInt64)) / 1000).toInt32), .int 1]) (st := []) d_Md_sell_106 bB_Md_sell_Md_pays lk_Md_176 iv_Md_pays rc_88 rfl (Nat.le_of_ble_eq_true rfl) (Nat.le_of_ble_eq_true rfl) (r_Md_pays hb15) ?_
    show mj_R M_Md_sell 109 [some (.ref 88), some (.int x1), some (.int x2), some (.int x3), some (.int x4), some (.int (C0 93 x2.toNatClampNeg)), some (.int (C0 93 x1.toNatClampNeg)), some (.int (C0 94 x2.toNatClampNeg)), some (.int v10)] [] (SH, jn C C14) none (SH, jn C (C'))
    obtain e_1 := inj1 h
    subst e_1
    exact mj_wk k17 (And.intro rfl (And.intro rfl (And.intro rfl (And.intro rfl trivial))))
set_option maxRecDepth 20000 in
theorem l_Md_haggled_2 {r : Option Value} {X y : St} : ∀ (n : Nat) (y1 : Int32) (y2 : Int32) (C : St) (Q_ : St), L_Md_haggled_2 n y1 y2 C = some Q_ → mj_R M_Md_haggled 96 [none, none, none, none, none] [] (SH, jn X Q_) r (SH, y) → mj_R M_Md_haggled 2 [some (.ref 88), some (.int y1), some (.int y2), none, none] [] (SH, jn X C) r (SH, y) := by
  intro n
  induction n with
  | zero => intro y1 y2 C Q_ h; cases h
  | succ n ih =>
    intro y1 y2 C Q_ h hX
    unfold L_Md_haggled_2 at h
    refine mj_iload_n (pc := 2) (i := 2) d_Md_haggled_2 rfl rfl ?_
    refine mj_if_eq (y := 0) (pc := 3) (tgt := 96) d_Md_haggled_3 (by decide) mj_hs (fun hc1 => ?_) (fun hc1 => ?_)
    · rw [if_pos hc1] at h
      obtain e_1 := inj1 h
      subst e_1
      exact mj_wk hX trivial
    · rw [if_neg hc1] at h
      refine mj_aload_n (pc := 6) (i := 0) d_Md_haggled_6 rfl rfl (by decide) ?_
      refine mj_iload_n (pc := 7) (i := 1) d_Md_haggled_7 rfl rfl ?_
      obtain ⟨v2, hb3, h⟩ := bd1_some h
      refine mj_callV (pc := 8) (b := 88) (vs := [.int y1]) (st := []) d_Md_haggled_8 bB_Md_haggled_Md_highestBid lk_Md_217 iv_Md_highestBid rc_88 rfl (Nat.le_of_ble_eq_true rfl) (Nat.le_of_ble_eq_true rfl) (r_Md_highestBid hb3) ?_
      show mj_R M_Md_haggled 11 [some (.ref 88), some (.int y1), some (.int y2), none, none] [.int v2] (SH, jn X C) r (SH, y)
      refine mj_istore_n (pc := 11) (i := 3) d_Md_haggled_11 rfl rfl (by decide) ?_
      refine mj_aload_n (pc := 12) (i := 0) d_Md_haggled_12 rfl rfl (by decide) ?_
      refine mj_iload_n (pc := 13) (i := 1) d_Md_haggled_13 rfl rfl ?_
      obtain ⟨v4, hb5, h⟩ := bd1_some h
      refine mj_callV (pc := 14) (b := 88) (vs := [.int y1]) (st := []) d_Md_haggled_14 bB_Md_haggled_Md_lowestAsk lk_Md_208 iv_Md_lowestAsk rc_88 rfl (Nat.le_of_ble_eq_true rfl) (Nat.le_of_ble_eq_true rfl) (r_Md_lowestAsk hb5) ?_
      show mj_R M_Md_haggled 17 [some (.ref 88), some (.int y1), some (.int y2), some (.int v2), none] [.int v4] (SH, jn X C) r (SH, y)
      refine mj_istore (pc := 17) (i := 4) d_Md_haggled_17 rfl (by decide) ?_
      refine mj_iload_n (pc := 19) (i := 3) d_Md_haggled_19 rfl rfl ?_
      obtain ⟨w11, hb13, h⟩ := bd1_some h
      have k12 : mj_R M_Md_haggled 49 [some (.ref 88), some (.int y1), none, some (.int v2), some (.int v4)] [.int w11] (SH, jn X C) r (SH, y) := by
        refine mj_istore_n (pc := 49) (i := 2) d_Md_haggled_49 rfl rfl (by decide) ?_
        refine mj_iload_n (pc := 50) (i := 2) d_Md_haggled_50 rfl rfl ?_
        obtain ⟨C23, hb25, h⟩ := bd1_some h
        have k24 : mj_R M_Md_haggled 93 [some (.ref 88), some (.int y1), some (.int w11), none, none] [] (SH, jn X C23) r (SH, y) := by
          refine mj_goto (pc := 93) (tgt := 2) d_Md_haggled_93 (by decide) ?_
          exact mj_weak [some (.ref 88), some (.int y1), some (.int w11), none, none] (And.intro rfl (And.intro rfl (And.intro rfl trivial))) (ih _ _ _ _ h hX)
        have h := hb25
        refine mj_if_eq (y := 0) (pc := 51) (tgt := 93) d_Md_haggled_51 (by decide) mj_hs (fun hc14 => ?_) (fun hc14 => ?_)
        · rw [if_pos hc14] at h
          obtain e_1 := inj1 h
          subst e_1
          exact mj_wk k24 (And.intro rfl (And.intro rfl (And.intro rfl trivial)))
        · rw [if_neg hc14] at h
          refine mj_aload_n (pc := 54) (i := 0) d_Md_haggled_54 rfl rfl (by decide) ?_
          refine mj_iload_n (pc := 55) (i := 3) d_Md_haggled_55 rfl rfl ?_
          refine mj_iload (pc := 56) (i := 4) d_Md_haggled_56 rfl ?_
          refine mj_aload_n (pc := 58) (i := 0) d_Md_haggled_58 rfl rfl (by decide) ?_
          refine mj_getR (pc := 59) d_Md_haggled_59 fl_Md_38 sh_88 rfl rfl (by decide) (by decide) (by decide) ?_
          refine mj_iload_n (pc := 62) (i := 3) d_Md_haggled_62 rfl rfl ?_
          obtain ⟨hg15, h⟩ := mj_gd h
          refine dj_iald (pc := 63) d_Md_haggled_63 sh_98 (by decide) hg15 (by decide) ?_
          refine mj_aload_n (pc := 64) (i := 0) d_Md_haggled_64 rfl rfl (by decide) ?_
          refine mj_getR (pc := 65) d_Md_haggled_65 fl_Md_38 sh_88 rfl rfl (by decide) (by decide) (by decide) ?_
          refine mj_iload (pc := 68) (i := 4) d_Md_haggled_68 rfl ?_
          obtain ⟨hg16, h⟩ := mj_gd h
          refine dj_iald (pc := 70) d_Md_haggled_70 sh_98 (by decide) hg16 (by decide) ?_
          obtain ⟨v17, hb18, h⟩ := bd1_some h
          refine mj_callS (pc := 71) (vs := [.int (C 98 v2.toNatClampNeg), .int (C 98 v4.toNatClampNeg)]) (st := [.int v4, .int v2, .ref 88]) d_Md_haggled_71 bB_Md_haggled_Md_less lk_Md_159 st_Md_less rfl (Nat.le_of_ble_eq_true rfl) (Nat.le_of_ble_eq_true rfl) (r_Md_less hb18) ?_
          show mj_R M_Md_haggled 74 [some (.ref 88), some (.int y1), some (.int w11), some (.int v2), some (.int v4)] [.int v17, .int v4, .int v2, .ref 88] (SH, jn X C) r (SH, y)
          refine mj_aload_n (pc := 74) (i := 0) d_Md_haggled_74 rfl rfl (by decide) ?_
          refine mj_getR (pc := 75) d_Md_haggled_75 fl_Md_32 sh_88 rfl rfl (by decide) (by decide) (by decide) ?_
          refine mj_iload_n (pc := 78) (i := 3) d_Md_haggled_78 rfl rfl ?_
          refine dj_iald (pc := 79) d_Md_haggled_79 sh_96 (by decide) hg15 (by decide) ?_
          refine mj_aload_n (pc := 80) (i := 0) d_Md_haggled_80 rfl rfl (by decide) ?_
          refine mj_getR (pc := 81) d_Md_haggled_81 fl_Md_32 sh_88 rfl rfl (by decide) (by decide) (by decide) ?_
          refine mj_iload (pc := 84) (i := 4) d_Md_haggled_84 rfl ?_
          refine dj_iald (pc := 86) d_Md_haggled_86 sh_96 (by decide) hg16 (by decide) ?_
          refine mj_iadd (pc := 87) d_Md_haggled_87 ?_
          refine mj_iconst (pc := 88) (v := 2) d_Md_haggled_88 (by decide) ?_
          refine mj_idiv (pc := 89) d_Md_haggled_89 (by decide) ?_
          obtain ⟨C21, hb22, h⟩ := bd1_some h
          refine mj_callV (pc := 90) (b := 88) (vs := [.int v2, .int v4, .int v17, .int (((C 96 v2.toNatClampNeg) + (C 96 v4.toNatClampNeg)) / 2)]) (st := []) d_Md_haggled_90 bB_Md_haggled_Md_sell lk_Md_211 iv_Md_sell rc_88 rfl (Nat.le_of_ble_eq_true rfl) (Nat.le_of_ble_eq_true rfl) (r_Md_sell hb22) ?_
          show mj_R M_Md_haggled 93 [some (.ref 88), some (.int y1), some (.int w11), some (.int v2), some (.int v4)] [] (SH, jn X C21) r (SH, y)
          obtain e_1 := inj1 h
          subst e_1
          exact mj_wk k24 (And.intro rfl (And.intro rfl (And.intro rfl trivial)))
      have h := hb13
      refine mj_if_lt (y := 0) (pc := 20) (tgt := 48) d_Md_haggled_20 (by decide) mj_hs (fun hc6 => ?_) (fun hc6 => ?_)
      · rw [if_pos hc6] at h
        refine mj_iconst (pc := 48) (v := 0) d_Md_haggled_48 (by decide) ?_
        obtain e_1 := inj1 h
        subst e_1
        exact mj_wk k12 (And.intro rfl (And.intro rfl (And.intro rfl (And.intro rfl trivial))))
      · rw [if_neg hc6] at h
        refine mj_iload (pc := 23) (i := 4) d_Md_haggled_23 rfl ?_
        refine mj_if_lt (y := 0) (pc := 25) (tgt := 48) d_Md_haggled_25 (by decide) mj_hs (fun hc7 => ?_) (fun hc7 => ?_)
        · rw [if_pos hc7] at h
          refine mj_iconst (pc := 48) (v := 0) d_Md_haggled_48 (by decide) ?_
          obtain e_1 := inj1 h
          subst e_1
          exact mj_wk k12 (And.intro rfl (And.intro rfl (And.intro rfl (And.intro rfl trivial))))
        · rw [if_neg hc7] at h
          refine mj_aload_n (pc := 28) (i := 0) d_Md_haggled_28 rfl rfl (by decide) ?_
          refine mj_getR (pc := 29) d_Md_haggled_29 fl_Md_32 sh_88 rfl rfl (by decide) (by decide) (by decide) ?_
          refine mj_iload_n (pc := 32) (i := 3) d_Md_haggled_32 rfl rfl ?_
          obtain ⟨hg8, h⟩ := mj_gd h
          refine dj_iald (pc := 33) d_Md_haggled_33 sh_96 (by decide) hg8 (by decide) ?_
          refine mj_aload_n (pc := 34) (i := 0) d_Md_haggled_34 rfl rfl (by decide) ?_
          refine mj_getR (pc := 35) d_Md_haggled_35 fl_Md_32 sh_88 rfl rfl (by decide) (by decide) (by decide) ?_
          refine mj_iload (pc := 38) (i := 4) d_Md_haggled_38 rfl ?_
          obtain ⟨hg9, h⟩ := mj_gd h
          refine dj_iald (pc := 40) d_Md_haggled_40 sh_96 (by decide) hg9 (by decide) ?_
          refine mj_icmp_lt (pc := 41) (tgt := 48) d_Md_haggled_41 (by decide) mj_hs (fun hc10 => ?_) (fun hc10 => ?_)
          · rw [if_pos hc10] at h
            refine mj_iconst (pc := 48) (v := 0) d_Md_haggled_48 (by decide) ?_
            obtain e_1 := inj1 h
            subst e_1
            exact mj_wk k12 (And.intro rfl (And.intro rfl (And.intro rfl (And.intro rfl trivial))))
          · rw [if_neg hc10] at h
            refine mj_iconst (pc := 44) (v := 1) d_Md_haggled_44 (by decide) ?_
            refine mj_goto (pc := 45) (tgt := 49) d_Md_haggled_45 (by decide) ?_
            obtain e_1 := inj1 h
            subst e_1
            exact mj_wk k12 (And.intro rfl (And.intro rfl (And.intro rfl (And.intro rfl trivial))))
set_option maxRecDepth 20000 in
theorem r_Md_haggled {x1 : Int32} {C C0 : St} {C' : St} (h : f_Md_haggled x1 C0 = some (C')) : mj_R M_Md_haggled 0 (mj_lv M_Md_haggled.2.2.1 [.ref 88, .int x1]) [] (SH, jn C C0) none (SH, jn C (C')) := by
  show mj_R M_Md_haggled 0 [some (.ref 88), some (.int x1), none, none, none] [] _ _ _
  unfold f_Md_haggled at h
  refine mj_iconst (pc := 0) (v := 1) d_Md_haggled_0 (by decide) ?_
  refine mj_istore_n (pc := 1) (i := 2) d_Md_haggled_1 rfl rfl (by decide) ?_
  obtain ⟨C26, hl27, h⟩ := bd1_some h
  refine mj_weak [some (.ref 88), some (.int x1), some (.int 1), none, none] (And.intro rfl (And.intro rfl (And.intro rfl trivial))) (l_Md_haggled_2 3000 _ _ _ _ hl27 ?_)
  obtain e_1 := inj1 h
  subst e_1
  exact mj_vret (pc := 96) d_Md_haggled_96 rfl
set_option maxRecDepth 20000 in
theorem l_Md_movesAt_8 {r : Option Value} {X y : St} : ∀ (n : Nat) (y1 : Int32) (y2 : Int32) (y3 : Int32) (y4 : Int32) (y5 : Int32) (C : St) (o3_ : Int32) (o4_ : Int32), L_Md_movesAt_8 n y1 y2 y3 y4 y5 C = some (o3_, o4_) → mj_R M_Md_movesAt 97 [none, none, none, some (.int o3_), some (.int o4_), none] [] (SH, jn X C) r (SH, y) → mj_R M_Md_movesAt 8 [some (.ref 88), some (.int y1), some (.int y2), some (.int y3), some (.int y4), some (.int y5)] [] (SH, jn X C) r (SH, y) := by
  intro n
  induction n with
  | zero => intro y1 y2 y3 y4 y5 C o3_ o4_ h; cases h
  | succ n ih =>
    intro y1 y2 y3 y4 y5 C o3_ o4_ h hX
    unfold L_Md_movesAt_8 at h
    refine mj_iload (pc := 8) (i := 5) d_Md_movesAt_8 rfl ?_
    refine mj_aload_n (pc := 10) (i := 0) d_Md_movesAt_10 rfl rfl (by decide) ?_
    refine dj_getI (pc := 11) d_Md_movesAt_11 fl_Md_156 sh_88 rfl (by decide) (by decide) (by decide) ?_
    refine mj_icmp_ge (pc := 14) (tgt := 97) d_Md_movesAt_14 (by decide) mj_hs (fun hc1 => ?_) (fun hc1 => ?_)
    · rw [if_pos hc1] at h
      obtain ⟨e_1, e_2⟩ := inj2 h
      subst e_1
      subst e_2
      exact mj_wk hX (And.intro rfl (And.intro rfl trivial))
    · rw [if_neg hc1] at h
      refine mj_iload_n (pc := 17) (i := 3) d_Md_movesAt_17 rfl rfl ?_
      refine mj_aload_n (pc := 18) (i := 0) d_Md_movesAt_18 rfl rfl (by decide) ?_
      refine mj_iload (pc := 19) (i := 5) d_Md_movesAt_19 rfl ?_
      refine mj_iload_n (pc := 21) (i := 1) d_Md_movesAt_21 rfl rfl ?_
      refine mj_iconst (pc := 22) (v := 1) d_Md_movesAt_22 (by decide) ?_
      obtain ⟨v2, hb3, h⟩ := bd1_some h
      refine mj_callV (pc := 23) (b := 88) (vs := [.int y5, .int y1, .int 1]) (st := [.int y3]) d_Md_movesAt_23 bB_Md_movesAt_Md_isOpen lk_Md_204 iv_Md_isOpen rc_88 rfl (Nat.le_of_ble_eq_true rfl) (Nat.le_of_ble_eq_true rfl) (r_Md_isOpen hb3) ?_
      show mj_R M_Md_movesAt 26 [some (.ref 88), some (.int y1), some (.int y2), some (.int y3), some (.int y4), some (.int y5)] [.int v2, .int y3] (SH, jn X C) r (SH, y)
      obtain ⟨w8, hb10, h⟩ := bd1_some h
      have k9 : mj_R M_Md_movesAt 51 [some (.ref 88), some (.int y1), some (.int y2), none, some (.int y4), some (.int y5)] [.int w8, .int y3] (SH, jn X C) r (SH, y) := by
        refine mj_iadd (pc := 51) d_Md_movesAt_51 ?_
        refine mj_istore_n (pc := 52) (i := 3) d_Md_movesAt_52 rfl rfl (by decide) ?_
        refine mj_iload (pc := 53) (i := 4) d_Md_movesAt_53 rfl ?_
        refine mj_aload_n (pc := 55) (i := 0) d_Md_movesAt_55 rfl rfl (by decide) ?_
        refine mj_iload (pc := 56) (i := 5) d_Md_movesAt_56 rfl ?_
        refine mj_iload_n (pc := 58) (i := 1) d_Md_movesAt_58 rfl rfl ?_
        refine mj_iconst (pc := 59) (v := 0) d_Md_movesAt_59 (by decide) ?_
        obtain ⟨v11, hb12, h⟩ := bd1_some h
        refine mj_callV (pc := 60) (b := 88) (vs := [.int y5, .int y1, .int 0]) (st := [.int y4]) d_Md_movesAt_60 bB_Md_movesAt_Md_isOpen lk_Md_204 iv_Md_isOpen rc_88 rfl (Nat.le_of_ble_eq_true rfl) (Nat.le_of_ble_eq_true rfl) (r_Md_isOpen hb12) ?_
        show mj_R M_Md_movesAt 63 [some (.ref 88), some (.int y1), some (.int y2), some (.int (y3 + w8)), some (.int y4), some (.int y5)] [.int v11, .int y4] (SH, jn X C) r (SH, y)
        obtain ⟨w17, hb19, h⟩ := bd1_some h
        have k18 : mj_R M_Md_movesAt 88 [some (.ref 88), some (.int y1), some (.int y2), some (.int (y3 + w8)), none, some (.int y5)] [.int w17, .int y4] (SH, jn X C) r (SH, y) := by
          refine mj_iadd (pc := 88) d_Md_movesAt_88 ?_
          refine mj_istore (pc := 89) (i := 4) d_Md_movesAt_89 rfl (by decide) ?_
          refine mj_iinc (pc := 91) (i := 5) (v := y5 + 1) d_Md_movesAt_91 rfl (by rfl) rfl (by decide) ?_
          refine mj_goto (pc := 94) (tgt := 8) d_Md_movesAt_94 (by decide) ?_
          exact mj_weak [some (.ref 88), some (.int y1), some (.int y2), some (.int (y3 + w8)), some (.int (y4 + w17)), some (.int (y5 + 1))] (And.intro rfl (And.intro rfl (And.intro rfl (And.intro rfl (And.intro rfl (And.intro rfl trivial)))))) (ih _ _ _ _ _ _ _ _ h hX)
        have h := hb19
        refine mj_if_eq (y := 0) (pc := 63) (tgt := 87) d_Md_movesAt_63 (by decide) mj_hs (fun hc13 => ?_) (fun hc13 => ?_)
        · rw [if_pos hc13] at h
          refine mj_iconst (pc := 87) (v := 0) d_Md_movesAt_87 (by decide) ?_
          obtain e_1 := inj1 h
          subst e_1
          exact mj_wk k18 (And.intro rfl (And.intro rfl (And.intro rfl (And.intro rfl (And.intro rfl trivial)))))
        · rw [if_neg hc13] at h
          refine mj_aload_n (pc := 66) (i := 0) d_Md_movesAt_66 rfl rfl (by decide) ?_
          refine mj_getR (pc := 67) d_Md_movesAt_67 fl_Md_32 sh_88 rfl rfl (by decide) (by decide) (by decide) ?_
          refine mj_iload (pc := 70) (i := 5) d_Md_movesAt_70 rfl ?_
          obtain ⟨hg14, h⟩ := mj_gd h
          refine dj_iald (pc := 72) d_Md_movesAt_72 sh_96 (by decide) hg14 (by decide) ?_
          refine mj_iload_n (pc := 73) (i := 2) d_Md_movesAt_73 rfl rfl ?_
          refine mj_icmp_gt (pc := 74) (tgt := 87) d_Md_movesAt_74 (by decide) mj_hs (fun hc15 => ?_) (fun hc15 => ?_)
          · rw [if_pos hc15] at h
            refine mj_iconst (pc := 87) (v := 0) d_Md_movesAt_87 (by decide) ?_
            obtain e_1 := inj1 h
            subst e_1
            exact mj_wk k18 (And.intro rfl (And.intro rfl (And.intro rfl (And.intro rfl (And.intro rfl trivial)))))
          · rw [if_neg hc15] at h
            refine mj_aload_n (pc := 77) (i := 0) d_Md_movesAt_77 rfl rfl (by decide) ?_
            refine mj_getR (pc := 78) d_Md_movesAt_78 fl_Md_38 sh_88 rfl rfl (by decide) (by decide) (by decide) ?_
            refine mj_iload (pc := 81) (i := 5) d_Md_movesAt_81 rfl ?_
            refine dj_iald (pc := 83) d_Md_movesAt_83 sh_98 (by decide) hg14 (by decide) ?_
            refine mj_goto (pc := 84) (tgt := 88) d_Md_movesAt_84 (by decide) ?_
            obtain e_1 := inj1 h
            subst e_1
            exact mj_wk k18 (And.intro rfl (And.intro rfl (And.intro rfl (And.intro rfl (And.intro rfl trivial)))))
      have h := hb10
      refine mj_if_eq (y := 0) (pc := 26) (tgt := 50) d_Md_movesAt_26 (by decide) mj_hs (fun hc4 => ?_) (fun hc4 => ?_)
      · rw [if_pos hc4] at h
        refine mj_iconst (pc := 50) (v := 0) d_Md_movesAt_50 (by decide) ?_
        obtain e_1 := inj1 h
        subst e_1
        exact mj_wk k9 (And.intro rfl (And.intro rfl (And.intro rfl (And.intro rfl (And.intro rfl trivial)))))
      · rw [if_neg hc4] at h
        refine mj_aload_n (pc := 29) (i := 0) d_Md_movesAt_29 rfl rfl (by decide) ?_
        refine mj_getR (pc := 30) d_Md_movesAt_30 fl_Md_32 sh_88 rfl rfl (by decide) (by decide) (by decide) ?_
        refine mj_iload (pc := 33) (i := 5) d_Md_movesAt_33 rfl ?_
        obtain ⟨hg5, h⟩ := mj_gd h
        refine dj_iald (pc := 35) d_Md_movesAt_35 sh_96 (by decide) hg5 (by decide) ?_
        refine mj_iload_n (pc := 36) (i := 2) d_Md_movesAt_36 rfl rfl ?_
        refine mj_icmp_lt (pc := 37) (tgt := 50) d_Md_movesAt_37 (by decide) mj_hs (fun hc6 => ?_) (fun hc6 => ?_)
        · rw [if_pos hc6] at h
          refine mj_iconst (pc := 50) (v := 0) d_Md_movesAt_50 (by decide) ?_
          obtain e_1 := inj1 h
          subst e_1
          exact mj_wk k9 (And.intro rfl (And.intro rfl (And.intro rfl (And.intro rfl (And.intro rfl trivial)))))
        · rw [if_neg hc6] at h
          refine mj_aload_n (pc := 40) (i := 0) d_Md_movesAt_40 rfl rfl (by decide) ?_
          refine mj_getR (pc := 41) d_Md_movesAt_41 fl_Md_38 sh_88 rfl rfl (by decide) (by decide) (by decide) ?_
          refine mj_iload (pc := 44) (i := 5) d_Md_movesAt_44 rfl ?_
          refine dj_iald (pc := 46) d_Md_movesAt_46 sh_98 (by decide) hg5 (by decide) ?_
          refine mj_goto (pc := 47) (tgt := 51) d_Md_movesAt_47 (by decide) ?_
          obtain e_1 := inj1 h
          subst e_1
          exact mj_wk k9 (And.intro rfl (And.intro rfl (And.intro rfl (And.intro rfl (And.intro rfl trivial)))))
set_option maxRecDepth 20000 in
theorem r_Md_movesAt {x1 : Int32} {x2 : Int32} {C C0 : St} {v : Int32} (h : f_Md_movesAt x1 x2 C0 = some v) : mj_R M_Md_movesAt 0 (mj_lv M_Md_movesAt.2.2.1 [.ref 88, .int x1, .int x2]) [] (SH, jn C C0) (some (.int v)) (SH, jn C C0) := by
  show mj_R M_Md_movesAt 0 [some (.ref 88), some (.int x1), some (.int x2), none, none, none] [] _ _ _
  unfold f_Md_movesAt at h
  refine mj_iconst (pc := 0) (v := 0) d_Md_movesAt_0 (by decide) ?_
  refine mj_istore_n (pc := 1) (i := 3) d_Md_movesAt_1 rfl rfl (by decide) ?_
  refine mj_iconst (pc := 2) (v := 0) d_Md_movesAt_2 (by decide) ?_
  refine mj_istore (pc := 3) (i := 4) d_Md_movesAt_3 rfl (by decide) ?_
  refine mj_iconst (pc := 5) (v := 0) d_Md_movesAt_5 (by decide) ?_
  refine mj_istore (pc := 6) (i := 5) d_Md_movesAt_6 rfl (by decide) ?_
  obtain ⟨o20, o21, hl22, h⟩ := bd2_some h
  refine mj_weak [some (.ref 88), some (.int x1), some (.int x2), some (.int 0), some (.int 0), some (.int 0)] (And.intro rfl (And.intro rfl (And.intro rfl (And.intro rfl (And.intro rfl (And.intro rfl trivial)))))) (l_Md_movesAt_8 3000 _ _ _ _ _ _ _ _ hl22 ?_)
  refine mj_iload_n (pc := 97) (i := 3) d_Md_movesAt_97 rfl rfl ?_
  refine mj_iload (pc := 98) (i := 4) d_Md_movesAt_98 rfl ?_
  obtain ⟨v23, hb24, h⟩ := bd1_some h
  refine mj_callS (pc := 100) (vs := [.int o20, .int o21]) (st := []) d_Md_movesAt_100 bB_Md_movesAt_Md_less lk_Md_159 st_Md_less rfl (Nat.le_of_ble_eq_true rfl) (Nat.le_of_ble_eq_true rfl) (r_Md_less hb24) ?_
  show mj_R M_Md_movesAt 103 [none, none, none, some (.int o20), some (.int o21), none] [.int v23] (SH, jn C C0) (some (.int v)) (SH, jn C C0)
  obtain e_1 := inj1 h
  subst e_1
  exact mj_iret (pc := 103) d_Md_movesAt_103 rfl
set_option maxRecDepth 20000 in
theorem l_Md_called_7 {r : Option Value} {X y : St} : ∀ (n : Nat) (y1 : Int32) (y2 : Int32) (y3 : Int32) (y4 : Int32) (C : St) (o2_ : Int32) (o3_ : Int32), L_Md_called_7 n y1 y2 y3 y4 C = some (o2_, o3_) → mj_R M_Md_called 86 [some (.ref 88), some (.int y1), some (.int o2_), some (.int o3_), none, none, none] [] (SH, jn X C) r (SH, y) → mj_R M_Md_called 7 [some (.ref 88), some (.int y1), some (.int y2), some (.int y3), some (.int y4), none, none] [] (SH, jn X C) r (SH, y) := by
  intro n
  induction n with
  | zero => intro y1 y2 y3 y4 C o2_ o3_ h; cases h
  | succ n ih =>
    intro y1 y2 y3 y4 C o2_ o3_ h hX
    unfold L_Md_called_7 at h
    refine mj_iload (pc := 7) (i := 4) d_Md_called_7 rfl ?_
    refine mj_aload_n (pc := 9) (i := 0) d_Md_called_9 rfl rfl (by decide) ?_
    refine dj_getI (pc := 10) d_Md_called_10 fl_Md_156 sh_88 rfl (by decide) (by decide) (by decide) ?_
    refine mj_icmp_ge (pc := 13) (tgt := 86) d_Md_called_13 (by decide) mj_hs (fun hc1 => ?_) (fun hc1 => ?_)
    · rw [if_pos hc1] at h
      obtain ⟨e_1, e_2⟩ := inj2 h
      subst e_1
      subst e_2
      exact mj_wk hX (And.intro rfl (And.intro rfl (And.intro rfl (And.intro rfl trivial))))
    · rw [if_neg hc1] at h
      refine mj_aload_n (pc := 16) (i := 0) d_Md_called_16 rfl rfl (by decide) ?_
      refine mj_getR (pc := 17) d_Md_called_17 fl_Md_26 sh_88 rfl rfl (by decide) (by decide) (by decide) ?_
      refine mj_iload (pc := 20) (i := 4) d_Md_called_20 rfl ?_
      obtain ⟨hg2, h⟩ := mj_gd h
      refine dj_iald (pc := 22) d_Md_called_22 sh_94 (by decide) hg2 (by decide) ?_
      refine mj_iload_n (pc := 23) (i := 1) d_Md_called_23 rfl rfl ?_
      obtain ⟨w14, w15, hb17, h⟩ := bd2_some h
      have k16 : mj_R M_Md_called 80 [some (.ref 88), some (.int y1), some (.int w14), some (.int w15), some (.int y4), none, none] [] (SH, jn X C) r (SH, y) := by
        refine mj_iinc (pc := 80) (i := 4) (v := y4 + 1) d_Md_called_80 rfl (by rfl) rfl (by decide) ?_
        refine mj_goto (pc := 83) (tgt := 7) d_Md_called_83 (by decide) ?_
        exact mj_weak [some (.ref 88), some (.int y1), some (.int w14), some (.int w15), some (.int (y4 + 1)), none, none] (And.intro rfl (And.intro rfl (And.intro rfl (And.intro rfl (And.intro rfl trivial))))) (ih _ _ _ _ _ _ _ h hX)
      have h := hb17
      refine mj_icmp_ne (pc := 24) (tgt := 80) d_Md_called_24 (by decide) mj_hs (fun hc3 => ?_) (fun hc3 => ?_)
      · rw [if_neg hc3] at h
        obtain ⟨e_1, e_2⟩ := inj2 h
        subst e_1
        subst e_2
        exact mj_wk k16 (And.intro rfl (And.intro rfl (And.intro rfl (And.intro rfl (And.intro rfl trivial)))))
      · rw [if_pos hc3] at h
        refine mj_aload_n (pc := 27) (i := 0) d_Md_called_27 rfl rfl (by decide) ?_
        refine mj_iload_n (pc := 28) (i := 1) d_Md_called_28 rfl rfl ?_
        refine mj_aload_n (pc := 29) (i := 0) d_Md_called_29 rfl rfl (by decide) ?_
        refine mj_getR (pc := 30) d_Md_called_30 fl_Md_32 sh_88 rfl rfl (by decide) (by decide) (by decide) ?_
        refine mj_iload (pc := 33) (i := 4) d_Md_called_33 rfl ?_
        refine dj_iald (pc := 35) d_Md_called_35 sh_96 (by decide) hg2 (by decide) ?_
        obtain ⟨v5, hb6, h⟩ := bd1_some h
        refine mj_callV (pc := 36) (b := 88) (vs := [.int y1, .int (C 96 y4.toNatClampNeg)]) (st := []) d_Md_called_36 bB_Md_called_Md_movesAt lk_Md_214 iv_Md_movesAt rc_88 rfl (Nat.le_of_ble_eq_true rfl) (Nat.le_of_ble_eq_true rfl) (r_Md_movesAt hb6) ?_
        show mj_R M_Md_called 39 [some (.ref 88), some (.int y1), some (.int y2), some (.int y3), some (.int y4), none, none] [.int v5] (SH, jn X C) r (SH, y)
        refine mj_istore (pc := 39) (i := 5) d_Md_called_39 rfl (by decide) ?_
        refine mj_iload (pc := 41) (i := 5) d_Md_called_41 rfl ?_
        refine mj_iload_n (pc := 43) (i := 3) d_Md_called_43 rfl rfl ?_
        refine mj_icmp_gt (pc := 44) (tgt := 69) d_Md_called_44 (by decide) mj_hs (fun hc7 => ?_) (fun hc7 => ?_)
        · rw [if_pos hc7] at h
          refine mj_iload (pc := 69) (i := 5) d_Md_called_69 rfl ?_
          refine mj_istore_n (pc := 71) (i := 3) d_Md_called_71 rfl rfl (by decide) ?_
          refine mj_aload_n (pc := 72) (i := 0) d_Md_called_72 rfl rfl (by decide) ?_
          refine mj_getR (pc := 73) d_Md_called_73 fl_Md_32 sh_88 rfl rfl (by decide) (by decide) (by decide) ?_
          refine mj_iload (pc := 76) (i := 4) d_Md_called_76 rfl ?_
          refine dj_iald (pc := 78) d_Md_called_78 sh_96 (by decide) hg2 (by decide) ?_
          refine mj_istore_n (pc := 79) (i := 2) d_Md_called_79 rfl rfl (by decide) ?_
          obtain ⟨e_1, e_2⟩ := inj2 h
          subst e_1
          subst e_2
          exact mj_wk k16 (And.intro rfl (And.intro rfl (And.intro rfl (And.intro rfl (And.intro rfl trivial)))))
        · rw [if_neg hc7] at h
          refine mj_iload (pc := 47) (i := 5) d_Md_called_47 rfl ?_
          refine mj_iload_n (pc := 49) (i := 3) d_Md_called_49 rfl rfl ?_
          refine mj_icmp_ne (pc := 50) (tgt := 80) d_Md_called_50 (by decide) mj_hs (fun hc9 => ?_) (fun hc9 => ?_)
          · rw [if_neg hc9] at h
            obtain ⟨e_1, e_2⟩ := inj2 h
            subst e_1
            subst e_2
            exact mj_wk k16 (And.intro rfl (And.intro rfl (And.intro rfl (And.intro rfl (And.intro rfl trivial)))))
          · rw [if_pos hc9] at h
            refine mj_iload (pc := 53) (i := 5) d_Md_called_53 rfl ?_
            refine mj_if_le (y := 0) (pc := 55) (tgt := 80) d_Md_called_55 (by decide) mj_hs (fun hc10 => ?_) (fun hc10 => ?_)
            · rw [if_pos hc10] at h
              obtain ⟨e_1, e_2⟩ := inj2 h
              subst e_1
              subst e_2
              exact mj_wk k16 (And.intro rfl (And.intro rfl (And.intro rfl (And.intro rfl (And.intro rfl trivial)))))
            · rw [if_neg hc10] at h
              refine mj_aload_n (pc := 58) (i := 0) d_Md_called_58 rfl rfl (by decide) ?_
              refine mj_getR (pc := 59) d_Md_called_59 fl_Md_32 sh_88 rfl rfl (by decide) (by decide) (by decide) ?_
              refine mj_iload (pc := 62) (i := 4) d_Md_called_62 rfl ?_
              refine dj_iald (pc := 64) d_Md_called_64 sh_96 (by decide) hg2 (by decide) ?_
              refine mj_iload_n (pc := 65) (i := 2) d_Md_called_65 rfl rfl ?_
              refine mj_icmp_ge (pc := 66) (tgt := 80) d_Md_called_66 (by decide) mj_hs (fun hc12 => ?_) (fun hc12 => ?_)
              · rw [if_pos hc12] at h
                obtain ⟨e_1, e_2⟩ := inj2 h
                subst e_1
                subst e_2
                exact mj_wk k16 (And.intro rfl (And.intro rfl (And.intro rfl (And.intro rfl (And.intro rfl trivial)))))
              · rw [if_neg hc12] at h
                refine mj_iload (pc := 69) (i := 5) d_Md_called_69 rfl ?_
                refine mj_istore_n (pc := 71) (i := 3) d_Md_called_71 rfl rfl (by decide) ?_
                refine mj_aload_n (pc := 72) (i := 0) d_Md_called_72 rfl rfl (by decide) ?_
                refine mj_getR (pc := 73) d_Md_called_73 fl_Md_32 sh_88 rfl rfl (by decide) (by decide) (by decide) ?_
                refine mj_iload (pc := 76) (i := 4) d_Md_called_76 rfl ?_
                refine dj_iald (pc := 78) d_Md_called_78 sh_96 (by decide) hg2 (by decide) ?_
                refine mj_istore_n (pc := 79) (i := 2) d_Md_called_79 rfl rfl (by decide) ?_
                obtain ⟨e_1, e_2⟩ := inj2 h
                subst e_1
                subst e_2
                exact mj_wk k16 (And.intro rfl (And.intro rfl (And.intro rfl (And.intro rfl (And.intro rfl trivial)))))
set_option maxRecDepth 20000 in
theorem l_Md_called_86 {r : Option Value} {X y : St} : ∀ (n : Nat) (y1 : Int32) (y2 : Int32) (y3 : Int32) (C : St) (Q_ : St), L_Md_called_86 n y1 y2 y3 C = some Q_ → mj_R M_Md_called 146 [none, none, none, none, none, none, none] [] (SH, jn X Q_) r (SH, y) → mj_R M_Md_called 86 [some (.ref 88), some (.int y1), some (.int y2), some (.int y3), none, none, none] [] (SH, jn X C) r (SH, y) := by
  intro n
  induction n with
  | zero => intro y1 y2 y3 C Q_ h; cases h
  | succ n ih =>
    intro y1 y2 y3 C Q_ h hX
    unfold L_Md_called_86 at h
    refine mj_iload_n (pc := 86) (i := 3) d_Md_called_86 rfl rfl ?_
    refine mj_if_le (y := 0) (pc := 87) (tgt := 146) d_Md_called_87 (by decide) mj_hs (fun hc21 => ?_) (fun hc21 => ?_)
    · rw [if_pos hc21] at h
      obtain e_1 := inj1 h
      subst e_1
      exact mj_wk hX trivial
    · rw [if_neg hc21] at h
      refine mj_aload_n (pc := 90) (i := 0) d_Md_called_90 rfl rfl (by decide) ?_
      refine mj_iload_n (pc := 91) (i := 1) d_Md_called_91 rfl rfl ?_
      obtain ⟨v22, hb23, h⟩ := bd1_some h
      refine mj_callV (pc := 92) (b := 88) (vs := [.int y1]) (st := []) d_Md_called_92 bB_Md_called_Md_highestBid lk_Md_217 iv_Md_highestBid rc_88 rfl (Nat.le_of_ble_eq_true rfl) (Nat.le_of_ble_eq_true rfl) (r_Md_highestBid hb23) ?_
      show mj_R M_Md_called 95 [some (.ref 88), some (.int y1), some (.int y2), some (.int y3), none, none, none] [.int v22] (SH, jn X C) r (SH, y)
      refine mj_istore (pc := 95) (i := 4) d_Md_called_95 rfl (by decide) ?_
      refine mj_aload_n (pc := 97) (i := 0) d_Md_called_97 rfl rfl (by decide) ?_
      refine mj_iload_n (pc := 98) (i := 1) d_Md_called_98 rfl rfl ?_
      obtain ⟨v24, hb25, h⟩ := bd1_some h
      refine mj_callV (pc := 99) (b := 88) (vs := [.int y1]) (st := []) d_Md_called_99 bB_Md_called_Md_lowestAsk lk_Md_208 iv_Md_lowestAsk rc_88 rfl (Nat.le_of_ble_eq_true rfl) (Nat.le_of_ble_eq_true rfl) (r_Md_lowestAsk hb25) ?_
      show mj_R M_Md_called 102 [some (.ref 88), some (.int y1), some (.int y2), some (.int y3), some (.int v22), none, none] [.int v24] (SH, jn X C) r (SH, y)
      refine mj_istore (pc := 102) (i := 5) d_Md_called_102 rfl (by decide) ?_
      refine mj_iload_n (pc := 104) (i := 3) d_Md_called_104 rfl rfl ?_
      refine mj_aload_n (pc := 105) (i := 0) d_Md_called_105 rfl rfl (by decide) ?_
      refine mj_getR (pc := 106) d_Md_called_106 fl_Md_38 sh_88 rfl rfl (by decide) (by decide) (by decide) ?_
      refine mj_iload (pc := 109) (i := 4) d_Md_called_109 rfl ?_
      obtain ⟨hg26, h⟩ := mj_gd h
      refine dj_iald (pc := 111) d_Md_called_111 sh_98 (by decide) hg26 (by decide) ?_
      refine mj_aload_n (pc := 112) (i := 0) d_Md_called_112 rfl rfl (by decide) ?_
      refine mj_getR (pc := 113) d_Md_called_113 fl_Md_38 sh_88 rfl rfl (by decide) (by decide) (by decide) ?_
      refine mj_iload (pc := 116) (i := 5) d_Md_called_116 rfl ?_
      obtain ⟨hg27, h⟩ := mj_gd h
      refine dj_iald (pc := 118) d_Md_called_118 sh_98 (by decide) hg27 (by decide) ?_
      obtain ⟨v28, hb29, h⟩ := bd1_some h
      refine mj_callS (pc := 119) (vs := [.int (C 98 v22.toNatClampNeg), .int (C 98 v24.toNatClampNeg)]) (st := [.int y3]) d_Md_called_119 bB_Md_called_Md_less lk_Md_159 st_Md_less rfl (Nat.le_of_ble_eq_true rfl) (Nat.le_of_ble_eq_true rfl) (r_Md_less hb29) ?_
      show mj_R M_Md_called 122 [some (.ref 88), some (.int y1), some (.int y2), some (.int y3), some (.int v22), some (.int v24), none] [.int v28, .int y3] (SH, jn X C) r (SH, y)
      obtain ⟨v30, hb31, h⟩ := bd1_some h
      refine mj_callS (pc := 122) (vs := [.int y3, .int v28]) (st := []) d_Md_called_122 bB_Md_called_Md_less lk_Md_159 st_Md_less rfl (Nat.le_of_ble_eq_true rfl) (Nat.le_of_ble_eq_true rfl) (r_Md_less hb31) ?_
      show mj_R M_Md_called 125 [some (.ref 88), some (.int y1), some (.int y2), some (.int y3), some (.int v22), some (.int v24), none] [.int v30] (SH, jn X C) r (SH, y)
      refine mj_istore (pc := 125) (i := 6) d_Md_called_125 rfl (by decide) ?_
      refine mj_aload_n (pc := 127) (i := 0) d_Md_called_127 rfl rfl (by decide) ?_
      refine mj_iload (pc := 128) (i := 4) d_Md_called_128 rfl ?_
      refine mj_iload (pc := 130) (i := 5) d_Md_called_130 rfl ?_
      refine mj_iload (pc := 132) (i := 6) d_Md_called_132 rfl ?_
      refine mj_iload_n (pc := 134) (i := 2) d_Md_called_134 rfl rfl ?_
      obtain ⟨C32, hb33, h⟩ := bd1_some h
      refine mj_callV (pc := 135) (b := 88) (vs := [.int v22, .int v24, .int v30, .int y2]) (st := []) d_Md_called_135 bB_Md_called_Md_sell lk_Md_211 iv_Md_sell rc_88 rfl (Nat.le_of_ble_eq_true rfl) (Nat.le_of_ble_eq_true rfl) (r_Md_sell hb33) ?_
      show mj_R M_Md_called 138 [some (.ref 88), some (.int y1), some (.int y2), some (.int y3), some (.int v22), some (.int v24), some (.int v30)] [] (SH, jn X C32) r (SH, y)
      refine mj_iload_n (pc := 138) (i := 3) d_Md_called_138 rfl rfl ?_
      refine mj_iload (pc := 139) (i := 6) d_Md_called_139 rfl ?_
      refine mj_isub (pc := 141) d_Md_called_141 ?_
      refine mj_istore_n (pc := 142) (i := 3) d_Md_called_142 rfl rfl (by decide) ?_
      refine mj_goto (pc := 143) (tgt := 86) d_Md_called_143 (by decide) ?_
      exact mj_weak [some (.ref 88), some (.int y1), some (.int y2), some (.int (y3 - v30)), none, none, none] (And.intro rfl (And.intro rfl (And.intro rfl (And.intro rfl trivial)))) (ih _ _ _ _ _ h hX)
set_option maxRecDepth 20000 in
theorem r_Md_called {x1 : Int32} {C C0 : St} {C' : St} (h : f_Md_called x1 C0 = some (C')) : mj_R M_Md_called 0 (mj_lv M_Md_called.2.2.1 [.ref 88, .int x1]) [] (SH, jn C C0) none (SH, jn C (C')) := by
  show mj_R M_Md_called 0 [some (.ref 88), some (.int x1), none, none, none, none, none] [] _ _ _
  unfold f_Md_called at h
  refine mj_iconst (pc := 0) (v := 0) d_Md_called_0 (by decide) ?_
  refine mj_istore_n (pc := 1) (i := 2) d_Md_called_1 rfl rfl (by decide) ?_
  refine mj_iconst (pc := 2) (v := 0) d_Md_called_2 (by decide) ?_
  refine mj_istore_n (pc := 3) (i := 3) d_Md_called_3 rfl rfl (by decide) ?_
  refine mj_iconst (pc := 4) (v := 0) d_Md_called_4 (by decide) ?_
  refine mj_istore (pc := 5) (i := 4) d_Md_called_5 rfl (by decide) ?_
  obtain ⟨o18, o19, hl20, h⟩ := bd2_some h
  refine mj_weak [some (.ref 88), some (.int x1), some (.int 0), some (.int 0), some (.int 0), none, none] (And.intro rfl (And.intro rfl (And.intro rfl (And.intro rfl (And.intro rfl trivial))))) (l_Md_called_7 3000 _ _ _ _ _ _ _ hl20 ?_)
  obtain ⟨C34, hl35, h⟩ := bd1_some h
  refine mj_weak [some (.ref 88), some (.int x1), some (.int o18), some (.int o19), none, none, none] (And.intro rfl (And.intro rfl (And.intro rfl (And.intro rfl trivial)))) (l_Md_called_86 3000 _ _ _ _ _ hl35 ?_)
  obtain e_1 := inj1 h
  subst e_1
  exact mj_vret (pc := 146) d_Md_called_146 rfl
