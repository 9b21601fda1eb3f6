set_option maxRecDepth 20000 in
theorem l_Md_posted_18 {r : Option Value} {X y : St} : ∀ (n : Nat) (y1 : Int32) (y2 : Int32) (y3 : Int32) (C : St) (Q_ : St), L_Md_posted_18 n y1 y2 y3 C = some Q_ → mj_R M_Md_posted 108 [some (.ref 88), some (.int y1), some (.int y2), none, none] [] (SH, jn X Q_) r (SH, y) → mj_R M_Md_posted 18 [some (.ref 88), some (.int y1), some (.int y2), some (.int y3), none] [] (SH, jn X C) r (SH, y) := by
  intro n
  induction n with
  | zero => intro y1 y2 y3 C Q_ h; cases h
  | succ n ih =>
    intro y1 y2 y3 C Q_ h hX
    unfold L_Md_posted_18 at h
    refine mj_iload_n (pc := 18) (i := 3) d_Md_posted_18 rfl rfl ?_
    refine mj_if_eq (y := 0) (pc := 19) (tgt := 108) d_Md_posted_19 (by decide) mj_hs (fun hc4 => ?_) (fun hc4 => ?_)
    · rw [if_pos hc4] at h
      obtain e_1 := inj1 h
      subst e_1
      exact mj_wk hX (And.intro rfl (And.intro rfl (And.intro rfl trivial)))
    · rw [if_neg hc4] at h
      refine mj_aload_n (pc := 22) (i := 0) d_Md_posted_22 rfl rfl (by decide) ?_
      refine mj_iload_n (pc := 23) (i := 1) d_Md_posted_23 rfl rfl ?_
      obtain ⟨v5, hb6, h⟩ := bd1_some h
      refine mj_callV (pc := 24) (b := 88) (vs := [.int y1]) (st := []) d_Md_posted_24 bB_Md_posted_Md_lowestAsk lk_Md_208 iv_Md_lowestAsk rc_88 rfl (Nat.le_of_ble_eq_true rfl) (Nat.le_of_ble_eq_true rfl) (r_Md_lowestAsk hb6) ?_
      show mj_R M_Md_posted 27 [some (.ref 88), some (.int y1), some (.int y2), some (.int y3), none] [.int v5] (SH, jn X C) r (SH, y)
      refine mj_istore (pc := 27) (i := 4) d_Md_posted_27 rfl (by decide) ?_
      refine mj_iload (pc := 29) (i := 4) d_Md_posted_29 rfl ?_
      obtain ⟨w11, hb13, h⟩ := bd1_some h
      have k12 : mj_R M_Md_posted 55 [some (.ref 88), some (.int y1), some (.int y2), none, some (.int v5)] [.int w11] (SH, jn X C) r (SH, y) := by
        refine mj_istore_n (pc := 55) (i := 3) d_Md_posted_55 rfl rfl (by decide) ?_
        refine mj_iload_n (pc := 56) (i := 3) d_Md_posted_56 rfl rfl ?_
        obtain ⟨w25, C26, hb28, h⟩ := bd2_some h
        have k27 : mj_R M_Md_posted 105 [some (.ref 88), some (.int y1), some (.int y2), some (.int w25), none] [] (SH, jn X C26) r (SH, y) := by
          refine mj_goto (pc := 105) (tgt := 18) d_Md_posted_105 (by decide) ?_
          exact mj_weak [some (.ref 88), some (.int y1), some (.int y2), some (.int w25), none] (And.intro rfl (And.intro rfl (And.intro rfl (And.intro rfl trivial)))) (ih _ _ _ _ _ h hX)
        have h := hb28
        refine mj_if_eq (y := 0) (pc := 57) (tgt := 105) d_Md_posted_57 (by decide) mj_hs (fun hc14 => ?_) (fun hc14 => ?_)
        · rw [if_pos hc14] at h
          obtain ⟨e_1, e_2⟩ := inj2 h
          subst e_1
          subst e_2
          exact mj_wk k27 (And.intro rfl (And.intro rfl (And.intro rfl (And.intro rfl trivial))))
        · rw [if_neg hc14] at h
          refine mj_aload_n (pc := 60) (i := 0) d_Md_posted_60 rfl rfl (by decide) ?_
          refine mj_iload_n (pc := 61) (i := 2) d_Md_posted_61 rfl rfl ?_
          refine mj_iload (pc := 62) (i := 4) d_Md_posted_62 rfl ?_
          refine mj_aload_n (pc := 64) (i := 0) d_Md_posted_64 rfl rfl (by decide) ?_
          refine mj_getR (pc := 65) d_Md_posted_65 fl_Md_38 sh_88 rfl rfl (by decide) (by decide) (by decide) ?_
          refine mj_iload_n (pc := 68) (i := 2) d_Md_posted_68 rfl rfl ?_
          obtain ⟨hg15, h⟩ := mj_gd h
          refine dj_iald (pc := 69) d_Md_posted_69 sh_98 (by decide) hg15 (by decide) ?_
          refine mj_aload_n (pc := 70) (i := 0) d_Md_posted_70 rfl rfl (by decide) ?_
          refine mj_getR (pc := 71) d_Md_posted_71 fl_Md_38 sh_88 rfl rfl (by decide) (by decide) (by decide) ?_
          refine mj_iload (pc := 74) (i := 4) d_Md_posted_74 rfl ?_
          obtain ⟨hg16, h⟩ := mj_gd h
          refine dj_iald (pc := 76) d_Md_posted_76 sh_98 (by decide) hg16 (by decide) ?_
          obtain ⟨v17, hb18, h⟩ := bd1_some h
          refine mj_callS (pc := 77) (vs := [.int (C 98 y2.toNatClampNeg), .int (C 98 v5.toNatClampNeg)]) (st := [.int v5, .int y2, .ref 88]) d_Md_posted_77 bB_Md_posted_Md_less lk_Md_159 st_Md_less rfl (Nat.le_of_ble_eq_true rfl) (Nat.le_of_ble_eq_true rfl) (r_Md_less hb18) ?_
          show mj_R M_Md_posted 80 [some (.ref 88), some (.int y1), some (.int y2), some (.int w11), some (.int v5)] [.int v17, .int v5, .int y2, .ref 88] (SH, jn X C) r (SH, y)
          refine mj_aload_n (pc := 80) (i := 0) d_Md_posted_80 rfl rfl (by decide) ?_
          refine mj_getR (pc := 81) d_Md_posted_81 fl_Md_32 sh_88 rfl rfl (by decide) (by decide) (by decide) ?_
          refine mj_iload (pc := 84) (i := 4) d_Md_posted_84 rfl ?_
          refine dj_iald (pc := 86) d_Md_posted_86 sh_96 (by decide) hg16 (by decide) ?_
          obtain ⟨C20, hb21, h⟩ := bd1_some h
          refine mj_callV (pc := 87) (b := 88) (vs := [.int y2, .int v5, .int v17, .int (C 96 v5.toNatClampNeg)]) (st := []) d_Md_posted_87 bB_Md_posted_Md_sell lk_Md_211 iv_Md_sell rc_88 rfl (Nat.le_of_ble_eq_true rfl) (Nat.le_of_ble_eq_true rfl) (r_Md_sell hb21) ?_
          show mj_R M_Md_posted 90 [some (.ref 88), some (.int y1), some (.int y2), some (.int w11), some (.int v5)] [] (SH, jn X C20) r (SH, y)
          refine mj_aload_n (pc := 90) (i := 0) d_Md_posted_90 rfl rfl (by decide) ?_
          refine mj_getR (pc := 91) d_Md_posted_91 fl_Md_38 sh_88 rfl rfl (by decide) (by decide) (by decide) ?_
          refine mj_iload_n (pc := 94) (i := 2) d_Md_posted_94 rfl rfl ?_
          refine dj_iald (pc := 95) d_Md_posted_95 sh_98 (by decide) hg15 (by decide) ?_
          have k24 : mj_R M_Md_posted 104 [some (.ref 88), some (.int y1), some (.int y2), none, none] [.int (if (C20 98 y2.toNatClampNeg) ≤ 0 then 0 else 1 : Int32)] (SH, jn X C20) r (SH, y) := by
            refine mj_istore_n (pc := 104) (i := 3) d_Md_posted_104 rfl rfl (by decide) ?_
            obtain ⟨e_1, e_2⟩ := inj2 h
            subst e_1
            subst e_2
            exact mj_wk k27 (And.intro rfl (And.intro rfl (And.intro rfl (And.intro rfl trivial))))
          refine mj_if_le (y := 0) (pc := 96) (tgt := 103) d_Md_posted_96 (by decide) mj_hs (fun hc23 => ?_) (fun hc23 => ?_)
          · refine mj_iconst (pc := 103) (v := 0) d_Md_posted_103 (by decide) ?_
            try simp only [if_pos hc23] at k24
            exact mj_wk k24 (And.intro rfl (And.intro rfl (And.intro rfl trivial)))
          · refine mj_iconst (pc := 99) (v := 1) d_Md_posted_99 (by decide) ?_
            refine mj_goto (pc := 100) (tgt := 104) d_Md_posted_100 (by decide) ?_
            try simp only [if_neg hc23] at k24
            exact mj_wk k24 (And.intro rfl (And.intro rfl (And.intro rfl trivial)))
      have h := hb13
      refine mj_if_lt (y := 0) (pc := 31) (tgt := 54) d_Md_posted_31 (by decide) mj_hs (fun hc7 => ?_) (fun hc7 => ?_)
      · rw [if_pos hc7] at h
        refine mj_iconst (pc := 54) (v := 0) d_Md_posted_54 (by decide) ?_
        obtain e_1 := inj1 h
        subst e_1
        exact mj_wk k12 (And.intro rfl (And.intro rfl (And.intro rfl (And.intro rfl trivial))))
      · rw [if_neg hc7] at h
        refine mj_aload_n (pc := 34) (i := 0) d_Md_posted_34 rfl rfl (by decide) ?_
        refine mj_getR (pc := 35) d_Md_posted_35 fl_Md_32 sh_88 rfl rfl (by decide) (by decide) (by decide) ?_
        refine mj_iload (pc := 38) (i := 4) d_Md_posted_38 rfl ?_
        obtain ⟨hg8, h⟩ := mj_gd h
        refine dj_iald (pc := 40) d_Md_posted_40 sh_96 (by decide) hg8 (by decide) ?_
        refine mj_aload_n (pc := 41) (i := 0) d_Md_posted_41 rfl rfl (by decide) ?_
        refine mj_getR (pc := 42) d_Md_posted_42 fl_Md_32 sh_88 rfl rfl (by decide) (by decide) (by decide) ?_
        refine mj_iload_n (pc := 45) (i := 2) d_Md_posted_45 rfl rfl ?_
        obtain ⟨hg9, h⟩ := mj_gd h
        refine dj_iald (pc := 46) d_Md_posted_46 sh_96 (by decide) hg9 (by decide) ?_
        refine mj_icmp_gt (pc := 47) (tgt := 54) d_Md_posted_47 (by decide) mj_hs (fun hc10 => ?_) (fun hc10 => ?_)
        · rw [if_pos hc10] at h
          refine mj_iconst (pc := 54) (v := 0) d_Md_posted_54 (by decide) ?_
          obtain e_1 := inj1 h
          subst e_1
          exact mj_wk k12 (And.intro rfl (And.intro rfl (And.intro rfl (And.intro rfl trivial))))
        · rw [if_neg hc10] at h
          refine mj_iconst (pc := 50) (v := 1) d_Md_posted_50 (by decide) ?_
          refine mj_goto (pc := 51) (tgt := 55) d_Md_posted_51 (by decide) ?_
          obtain e_1 := inj1 h
          subst e_1
          exact mj_wk k12 (And.intro rfl (And.intro rfl (And.intro rfl (And.intro rfl trivial))))
set_option maxRecDepth 20000 in
theorem l_Md_posted_2 {r : Option Value} {X y : St} : ∀ (n : Nat) (y1 : Int32) (y2 : Int32) (C : St) (Q_ : St), L_Md_posted_2 n y1 y2 C = some Q_ → mj_R M_Md_posted 114 [none, none, none, none, none] [] (SH, jn X Q_) r (SH, y) → mj_R M_Md_posted 2 [some (.ref 88), some (.int y1), some (.int y2), none, none] [] (SH, jn X C) r (SH, y) := by
  intro n
  induction n with
  | zero => intro y1 y2 C Q_ h; cases h
  | succ n ih =>
    intro y1 y2 C Q_ h hX
    unfold L_Md_posted_2 at h
    refine mj_iload_n (pc := 2) (i := 2) d_Md_posted_2 rfl rfl ?_
    refine mj_aload_n (pc := 3) (i := 0) d_Md_posted_3 rfl rfl (by decide) ?_
    refine dj_getI (pc := 4) d_Md_posted_4 fl_Md_156 sh_88 rfl (by decide) (by decide) (by decide) ?_
    refine mj_icmp_ge (pc := 7) (tgt := 114) d_Md_posted_7 (by decide) mj_hs (fun hc1 => ?_) (fun hc1 => ?_)
    · rw [if_pos hc1] at h
      obtain e_1 := inj1 h
      subst e_1
      exact mj_wk hX trivial
    · rw [if_neg hc1] at h
      refine mj_aload_n (pc := 10) (i := 0) d_Md_posted_10 rfl rfl (by decide) ?_
      refine mj_iload_n (pc := 11) (i := 2) d_Md_posted_11 rfl rfl ?_
      refine mj_iload_n (pc := 12) (i := 1) d_Md_posted_12 rfl rfl ?_
      refine mj_iconst (pc := 13) (v := 1) d_Md_posted_13 (by decide) ?_
      obtain ⟨v2, hb3, h⟩ := bd1_some h
      refine mj_callV (pc := 14) (b := 88) (vs := [.int y2, .int y1, .int 1]) (st := []) d_Md_posted_14 bB_Md_posted_Md_isOpen lk_Md_204 iv_Md_isOpen rc_88 rfl (Nat.le_of_ble_eq_true rfl) (Nat.le_of_ble_eq_true rfl) (r_Md_isOpen hb3) ?_
      show mj_R M_Md_posted 17 [some (.ref 88), some (.int y1), some (.int y2), none, none] [.int v2] (SH, jn X C) r (SH, y)
      refine mj_istore_n (pc := 17) (i := 3) d_Md_posted_17 rfl rfl (by decide) ?_
      obtain ⟨C29, hl30, h⟩ := bd1_some h
      refine mj_weak [some (.ref 88), some (.int y1), some (.int y2), some (.int v2), none] (And.intro rfl (And.intro rfl (And.intro rfl (And.intro rfl trivial)))) (l_Md_posted_18 3000 _ _ _ _ _ hl30 ?_)
      refine mj_iinc (pc := 108) (i := 2) (v := y2 + 1) d_Md_posted_108 rfl (by rfl) rfl (by decide) ?_
      refine mj_goto (pc := 111) (tgt := 2) d_Md_posted_111 (by decide) ?_
      exact mj_weak [some (.ref 88), some (.int y1), some (.int (y2 + 1)), none, none] (And.intro rfl (And.intro rfl (And.intro rfl trivial))) (ih _ _ _ _ h hX)
set_option maxRecDepth 20000 in
theorem r_Md_posted {x1 : Int32} {C C0 : St} {C' : St} (h : f_Md_posted x1 C0 = some (C')) : mj_R M_Md_posted 0 (mj_lv M_Md_posted.2.2.1 [.ref 88, .int x1]) [] (SH, jn C C0) none (SH, jn C (C')) := by
  show mj_R M_Md_posted 0 [some (.ref 88), some (.int x1), none, none, none] [] _ _ _
  unfold f_Md_posted at h
  refine mj_iconst (pc := 0) (v := 0) d_Md_posted_0 (by decide) ?_
  refine mj_istore_n (pc := 1) (i := 2) d_Md_posted_1 rfl rfl (by decide) ?_
  obtain ⟨C33, hl34, h⟩ := bd1_some h
  refine mj_weak [some (.ref 88), some (.int x1), some (.int 0), none, none] (And.intro rfl (And.intro rfl (And.intro rfl trivial))) (l_Md_posted_2 3000 _ _ _ _ hl34 ?_)
  obtain e_1 := inj1 h
  subst e_1
  exact mj_vret (pc := 114) d_Md_posted_114 rfl
set_option maxRecDepth 20000 in
theorem l_Md_firstDue_2 {r : Option Value} {X y : St} : ∀ (n : Nat) (y1 : Int32) (C : St) (o : (Int32) ⊕ (Unit)), L_Md_firstDue_2 n y1 C = some o → (∀ a : Int32, o = .inl a → r = some (.int a) ∧ y = jn X C) → (∀ a : Unit, o = .inr a → mj_R M_Md_firstDue 47 [none, none] [] (SH, jn X C) r (SH, y)) → mj_R M_Md_firstDue 2 [some (.ref 88), some (.int y1)] [] (SH, jn X C) r (SH, y) := by
  intro n
  induction n with
  | zero => intro y1 C o h; cases h
  | succ n ih =>
    intro y1 C o h hE hX
    unfold L_Md_firstDue_2 at h
    refine mj_iload_n (pc := 2) (i := 1) d_Md_firstDue_2 rfl rfl ?_
    refine mj_aload_n (pc := 3) (i := 0) d_Md_firstDue_3 rfl rfl (by decide) ?_
    refine mj_getR (pc := 4) d_Md_firstDue_4 fl_Md_7 sh_88 rfl rfl (by decide) (by decide) (by decide) ?_
    refine mj_sipush (pc := 7) (v := 2168) d_Md_firstDue_7 (by decide) ?_
    refine dj_iald (pc := 10) d_Md_firstDue_10 sh_89 (by decide) (by decide) (by decide) ?_
    show mj_R M_Md_firstDue 11 [some (.ref 88), some (.int y1)] [.int (C 89 2168), .int y1] (SH, jn X C) r (SH, y)
    refine mj_icmp_ge (pc := 11) (tgt := 47) d_Md_firstDue_11 (by decide) mj_hs (fun hc2 => ?_) (fun hc2 => ?_)
    · rw [if_pos hc2] at h
      obtain e_1 := inj1 h
      subst e_1
      exact mj_wk (hX _ rfl) trivial
    · rw [if_neg hc2] at h
      refine mj_aload_n (pc := 14) (i := 0) d_Md_firstDue_14 rfl rfl (by decide) ?_
      refine mj_getR (pc := 15) d_Md_firstDue_15 fl_Md_7 sh_88 rfl rfl (by decide) (by decide) (by decide) ?_
      refine mj_sipush (pc := 18) (v := 1363) d_Md_firstDue_18 (by decide) ?_
      refine mj_iconst (pc := 21) (v := 4) d_Md_firstDue_21 (by decide) ?_
      refine mj_iload_n (pc := 22) (i := 1) d_Md_firstDue_22 rfl rfl ?_
      refine mj_imul (pc := 23) d_Md_firstDue_23 ?_
      refine mj_iadd (pc := 24) d_Md_firstDue_24 ?_
      refine mj_iconst (pc := 25) (v := 3) d_Md_firstDue_25 (by decide) ?_
      refine mj_iadd (pc := 26) d_Md_firstDue_26 ?_
      obtain ⟨hg3, h⟩ := mj_gd h
      refine dj_iald (pc := 27) d_Md_firstDue_27 sh_89 (by decide) hg3 (by decide) ?_
      refine mj_aload_n (pc := 28) (i := 0) d_Md_firstDue_28 rfl rfl (by decide) ?_
      refine mj_getR (pc := 29) d_Md_firstDue_29 fl_Md_7 sh_88 rfl rfl (by decide) (by decide) (by decide) ?_
      refine mj_sipush (pc := 32) (v := 2164) d_Md_firstDue_32 (by decide) ?_
      refine dj_iald (pc := 35) d_Md_firstDue_35 sh_89 (by decide) (by decide) (by decide) ?_
      show mj_R M_Md_firstDue 36 [some (.ref 88), some (.int y1)] [.int (C 89 2164), .int (C 89 ((1363 + (4 * y1)) + 3).toNatClampNeg)] (SH, jn X C) r (SH, y)
      refine mj_icmp_ne (pc := 36) (tgt := 41) d_Md_firstDue_36 (by decide) mj_hs (fun hc5 => ?_) (fun hc5 => ?_)
      · rw [if_neg hc5] at h
        refine mj_iinc (pc := 41) (i := 1) (v := y1 + 1) d_Md_firstDue_41 rfl (by rfl) rfl (by decide) ?_
        refine mj_goto (pc := 44) (tgt := 2) d_Md_firstDue_44 (by decide) ?_
        exact mj_weak [some (.ref 88), some (.int (y1 + 1))] (And.intro rfl (And.intro rfl trivial)) (ih _ _ _ h hE hX)
      · rw [if_pos hc5] at h
        refine mj_iload_n (pc := 39) (i := 1) d_Md_firstDue_39 rfl rfl ?_
        obtain e_1 := inj1 h
        subst e_1
        obtain ⟨e1, e2⟩ := hE _ rfl
        subst e1
        subst e2
        exact mj_iret (pc := 40) d_Md_firstDue_40 rfl
set_option maxRecDepth 20000 in
theorem r_Md_firstDue  {C C0 : St} {v : Int32} (h : f_Md_firstDue C0 = some v) : mj_R M_Md_firstDue 0 (mj_lv M_Md_firstDue.2.2.1 [.ref 88]) [] (SH, jn C C0) (some (.int v)) (SH, jn C C0) := by
  show mj_R M_Md_firstDue 0 [some (.ref 88), none] [] _ _ _
  unfold f_Md_firstDue at h
  refine mj_iconst (pc := 0) (v := 0) d_Md_firstDue_0 (by decide) ?_
  refine mj_istore_n (pc := 1) (i := 1) d_Md_firstDue_1 rfl rfl (by decide) ?_
  rcases bdS_some h with ⟨e7, hl6, h⟩ | ⟨_u, hl6, h⟩
  · refine mj_weak [some (.ref 88), some (.int 0)] (And.intro rfl (And.intro rfl trivial)) (l_Md_firstDue_2 3000 _ _ _ hl6 (fun a e => ?_) (fun a e => nomatch e))
    cases e
    obtain e_1 := inj1 h
    subst e_1
    exact ⟨rfl, rfl⟩
  · refine mj_weak [some (.ref 88), some (.int 0)] (And.intro rfl (And.intro rfl trivial)) (l_Md_firstDue_2 3000 _ _ _ hl6 (fun a e => nomatch e) (fun a e => ?_))
    cases e
    refine mj_iconst (pc := 47) (v := -1) d_Md_firstDue_47 (by decide) ?_
    obtain e_1 := inj1 h
    subst e_1
    exact mj_iret (pc := 48) d_Md_firstDue_48 rfl
set_option maxRecDepth 20000 in
theorem l_Md_owes_4 {r : Option Value} {X y : St} : ∀ (n : Nat) (y1 : Int32) (y2 : Int32) (y3 : Int32) (C : St) (o2_ : Int32), L_Md_owes_4 n y1 y2 y3 C = some o2_ → mj_R M_Md_owes 61 [none, none, some (.int o2_), none] [] (SH, jn X C) r (SH, y) → mj_R M_Md_owes 4 [some (.ref 88), some (.int y1), some (.int y2), some (.int y3)] [] (SH, jn X C) r (SH, y) := by
  intro n
  induction n with
  | zero => intro y1 y2 y3 C o2_ h; cases h
  | succ n ih =>
    intro y1 y2 y3 C o2_ h hX
    unfold L_Md_owes_4 at h
    refine mj_iload_n (pc := 4) (i := 3) d_Md_owes_4 rfl rfl ?_
    refine mj_aload_n (pc := 5) (i := 0) d_Md_owes_5 rfl rfl (by decide) ?_
    refine mj_getR (pc := 6) d_Md_owes_6 fl_Md_7 sh_88 rfl rfl (by decide) (by decide) (by decide) ?_
    refine mj_sipush (pc := 9) (v := 2168) d_Md_owes_9 (by decide) ?_
    refine dj_iald (pc := 12) d_Md_owes_12 sh_89 (by decide) (by decide) (by decide) ?_
    show mj_R M_Md_owes 13 [some (.ref 88), some (.int y1), some (.int y2), some (.int y3)] [.int (C 89 2168), .int y3] (SH, jn X C) r (SH, y)
    refine mj_icmp_ge (pc := 13) (tgt := 61) d_Md_owes_13 (by decide) mj_hs (fun hc2 => ?_) (fun hc2 => ?_)
    · rw [if_pos hc2] at h
      obtain e_1 := inj1 h
      subst e_1
      exact mj_wk hX (And.intro rfl trivial)
    · rw [if_neg hc2] at h
      refine mj_iload_n (pc := 16) (i := 2) d_Md_owes_16 rfl rfl ?_
      refine mj_aload_n (pc := 17) (i := 0) d_Md_owes_17 rfl rfl (by decide) ?_
      refine mj_getR (pc := 18) d_Md_owes_18 fl_Md_7 sh_88 rfl rfl (by decide) (by decide) (by decide) ?_
      refine mj_sipush (pc := 21) (v := 1363) d_Md_owes_21 (by decide) ?_
      refine mj_iconst (pc := 24) (v := 4) d_Md_owes_24 (by decide) ?_
      refine mj_iload_n (pc := 25) (i := 3) d_Md_owes_25 rfl rfl ?_
      refine mj_imul (pc := 26) d_Md_owes_26 ?_
      refine mj_iadd (pc := 27) d_Md_owes_27 ?_
      refine mj_iconst (pc := 28) (v := 1) d_Md_owes_28 (by decide) ?_
      refine mj_iadd (pc := 29) d_Md_owes_29 ?_
      obtain ⟨hg3, h⟩ := mj_gd h
      refine dj_iald (pc := 30) d_Md_owes_30 sh_89 (by decide) hg3 (by decide) ?_
      refine mj_iload_n (pc := 31) (i := 1) d_Md_owes_31 rfl rfl ?_
      obtain ⟨w6, hb8, h⟩ := bd1_some h
      have k7 : mj_R M_Md_owes 53 [some (.ref 88), some (.int y1), none, some (.int y3)] [.int w6, .int y2] (SH, jn X C) r (SH, y) := by
        refine mj_iadd (pc := 53) d_Md_owes_53 ?_
        refine mj_istore_n (pc := 54) (i := 2) d_Md_owes_54 rfl rfl (by decide) ?_
        refine mj_iinc (pc := 55) (i := 3) (v := y3 + 1) d_Md_owes_55 rfl (by rfl) rfl (by decide) ?_
        refine mj_goto (pc := 58) (tgt := 4) d_Md_owes_58 (by decide) ?_
        exact mj_weak [some (.ref 88), some (.int y1), some (.int (y2 + w6)), some (.int (y3 + 1))] (And.intro rfl (And.intro rfl (And.intro rfl (And.intro rfl trivial)))) (ih _ _ _ _ _ h hX)
      have h := hb8
      refine mj_icmp_ne (pc := 32) (tgt := 52) d_Md_owes_32 (by decide) mj_hs (fun hc4 => ?_) (fun hc4 => ?_)
      · rw [if_neg hc4] at h
        refine mj_iconst (pc := 52) (v := 0) d_Md_owes_52 (by decide) ?_
        obtain e_1 := inj1 h
        subst e_1
        exact mj_wk k7 (And.intro rfl (And.intro rfl (And.intro rfl trivial)))
      · rw [if_pos hc4] at h
        refine mj_aload_n (pc := 35) (i := 0) d_Md_owes_35 rfl rfl (by decide) ?_
        refine mj_getR (pc := 36) d_Md_owes_36 fl_Md_7 sh_88 rfl rfl (by decide) (by decide) (by decide) ?_
        refine mj_sipush (pc := 39) (v := 1363) d_Md_owes_39 (by decide) ?_
        refine mj_iconst (pc := 42) (v := 4) d_Md_owes_42 (by decide) ?_
        refine mj_iload_n (pc := 43) (i := 3) d_Md_owes_43 rfl rfl ?_
        refine mj_imul (pc := 44) d_Md_owes_44 ?_
        refine mj_iadd (pc := 45) d_Md_owes_45 ?_
        refine mj_iconst (pc := 46) (v := 2) d_Md_owes_46 (by decide) ?_
        refine mj_iadd (pc := 47) d_Md_owes_47 ?_
        obtain ⟨hg5, h⟩ := mj_gd h
        refine dj_iald (pc := 48) d_Md_owes_48 sh_89 (by decide) hg5 (by decide) ?_
        refine mj_goto (pc := 49) (tgt := 53) d_Md_owes_49 (by decide) ?_
        obtain e_1 := inj1 h
        subst e_1
        exact mj_wk k7 (And.intro rfl (And.intro rfl (And.intro rfl trivial)))
set_option maxRecDepth 20000 in
theorem r_Md_owes {x1 : Int32} {C C0 : St} {v : Int32} (h : f_Md_owes x1 C0 = some v) : mj_R M_Md_owes 0 (mj_lv M_Md_owes.2.2.1 [.ref 88, .int x1]) [] (SH, jn C C0) (some (.int v)) (SH, jn C C0) := by
  show mj_R M_Md_owes 0 [some (.ref 88), some (.int x1), none, none] [] _ _ _
  unfold f_Md_owes at h
  refine mj_iconst (pc := 0) (v := 0) d_Md_owes_0 (by decide) ?_
  refine mj_istore_n (pc := 1) (i := 2) d_Md_owes_1 rfl rfl (by decide) ?_
  refine mj_iconst (pc := 2) (v := 0) d_Md_owes_2 (by decide) ?_
  refine mj_istore_n (pc := 3) (i := 3) d_Md_owes_3 rfl rfl (by decide) ?_
  obtain ⟨o9, hl10, h⟩ := bd1_some h
  refine mj_weak [some (.ref 88), some (.int x1), some (.int 0), some (.int 0)] (And.intro rfl (And.intro rfl (And.intro rfl (And.intro rfl trivial)))) (l_Md_owes_4 3000 _ _ _ _ _ hl10 ?_)
  refine mj_iload_n (pc := 61) (i := 2) d_Md_owes_61 rfl rfl ?_
  obtain e_1 := inj1 h
  subst e_1
  exact mj_iret (pc := 62) d_Md_owes_62 rfl
set_option maxRecDepth 20000 in
theorem l_Md_closeLoan_8 {r : Option Value} {X y : St} : ∀ (n : Nat) (y2 : Int32) (C : St) (Q_ : St), L_Md_closeLoan_8 n y2 C = some Q_ → mj_R M_Md_closeLoan 48 [some (.ref 88), none, none] [] (SH, jn X Q_) r (SH, y) → mj_R M_Md_closeLoan 8 [some (.ref 88), none, some (.int y2)] [] (SH, jn X C) r (SH, y) := by
  intro n
  induction n with
  | zero => intro y2 C Q_ h; cases h
  | succ n ih =>
    intro y2 C Q_ h hX
    unfold L_Md_closeLoan_8 at h
    refine mj_iload_n (pc := 8) (i := 2) d_Md_closeLoan_8 rfl rfl ?_
    refine mj_sipush (pc := 9) (v := 1363) d_Md_closeLoan_9 (by decide) ?_
    refine mj_iconst (pc := 12) (v := 4) d_Md_closeLoan_12 (by decide) ?_
    refine mj_aload_n (pc := 13) (i := 0) d_Md_closeLoan_13 rfl rfl (by decide) ?_
    refine mj_getR (pc := 14) d_Md_closeLoan_14 fl_Md_7 sh_88 rfl rfl (by decide) (by decide) (by decide) ?_
    refine mj_sipush (pc := 17) (v := 2168) d_Md_closeLoan_17 (by decide) ?_
    refine dj_iald (pc := 20) d_Md_closeLoan_20 sh_89 (by decide) (by decide) (by decide) ?_
    show mj_R M_Md_closeLoan 21 [some (.ref 88), none, some (.int y2)] [.int (C 89 2168), .int 4, .int 1363, .int y2] (SH, jn X C) r (SH, y)
    refine mj_iconst (pc := 21) (v := 1) d_Md_closeLoan_21 (by decide) ?_
    refine mj_isub (pc := 22) d_Md_closeLoan_22 ?_
    refine mj_imul (pc := 23) d_Md_closeLoan_23 ?_
    refine mj_iadd (pc := 24) d_Md_closeLoan_24 ?_
    refine mj_icmp_ge (pc := 25) (tgt := 48) d_Md_closeLoan_25 (by decide) mj_hs (fun hc2 => ?_) (fun hc2 => ?_)
    · rw [if_pos hc2] at h
      obtain e_1 := inj1 h
      subst e_1
      exact mj_wk hX (And.intro rfl trivial)
    · rw [if_neg hc2] at h
      refine mj_aload_n (pc := 28) (i := 0) d_Md_closeLoan_28 rfl rfl (by decide) ?_
      refine mj_getR (pc := 29) d_Md_closeLoan_29 fl_Md_7 sh_88 rfl rfl (by decide) (by decide) (by decide) ?_
      refine mj_iload_n (pc := 32) (i := 2) d_Md_closeLoan_32 rfl rfl ?_
      refine mj_aload_n (pc := 33) (i := 0) d_Md_closeLoan_33 rfl rfl (by decide) ?_
      refine mj_getR (pc := 34) d_Md_closeLoan_34 fl_Md_7 sh_88 rfl rfl (by decide) (by decide) (by decide) ?_
      refine mj_iload_n (pc := 37) (i := 2) d_Md_closeLoan_37 rfl rfl ?_
      refine mj_iconst (pc := 38) (v := 4) d_Md_closeLoan_38 (by decide) ?_
      refine mj_iadd (pc := 39) d_Md_closeLoan_39 ?_
      obtain ⟨hg3, h⟩ := mj_gd h
      refine dj_iald (pc := 40) d_Md_closeLoan_40 sh_89 (by decide) hg3 (by decide) ?_
      obtain ⟨hg4, h⟩ := mj_gd h
      refine dj_iast (pc := 41) d_Md_closeLoan_41 sh_89 (by decide) hg4 (by decide) ?_
      refine mj_iinc (pc := 42) (i := 2) (v := y2 + 1) d_Md_closeLoan_42 rfl (by rfl) rfl (by decide) ?_
      refine mj_goto (pc := 45) (tgt := 8) d_Md_closeLoan_45 (by decide) ?_
      exact mj_weak [some (.ref 88), none, some (.int (y2 + 1))] (And.intro rfl (And.intro rfl trivial)) (ih _ _ _ h hX)
set_option maxRecDepth 20000 in
theorem r_Md_closeLoan {x1 : Int32} {C C0 : St} {C' : St} (h : f_Md_closeLoan x1 C0 = some (C')) : mj_R M_Md_closeLoan 0 (mj_lv M_Md_closeLoan.2.2.1 [.ref 88, .int x1]) [] (SH, jn C C0) none (SH, jn C (C')) := by
  show mj_R M_Md_closeLoan 0 [some (.ref 88), some (.int x1), none] [] _ _ _
  unfold f_Md_closeLoan at h
  refine mj_sipush (pc := 0) (v := 1363) d_Md_closeLoan_0 (by decide) ?_
  refine mj_iconst (pc := 3) (v := 4) d_Md_closeLoan_3 (by decide) ?_
  refine mj_iload_n (pc := 4) (i := 1) d_Md_closeLoan_4 rfl rfl ?_
  refine mj_imul (pc := 5) d_Md_closeLoan_5 ?_
  refine mj_iadd (pc := 6) d_Md_closeLoan_6 ?_
  refine mj_istore_n (pc := 7) (i := 2) d_Md_closeLoan_7 rfl rfl (by decide) ?_
  obtain ⟨C5, hl6, h⟩ := bd1_some h
  refine mj_weak [some (.ref 88), none, some (.int (1363 + (4 * x1)))] (And.intro rfl (And.intro rfl trivial)) (l_Md_closeLoan_8 3000 _ _ _ hl6 ?_)
  refine mj_aload_n (pc := 48) (i := 0) d_Md_closeLoan_48 rfl rfl (by decide) ?_
  refine mj_getR (pc := 49) d_Md_closeLoan_49 fl_Md_7 sh_88 rfl rfl (by decide) (by decide) (by decide) ?_
  refine mj_sipush (pc := 52) (v := 2168) d_Md_closeLoan_52 (by decide) ?_
  refine mj_dup2 (pc := 55) d_Md_closeLoan_55 rfl rfl ?_
  refine dj_iald (pc := 56) d_Md_closeLoan_56 sh_89 (by decide) (by decide) (by decide) ?_
  show mj_R M_Md_closeLoan 57 [some (.ref 88), none, none] [.int (C5 89 2168), .int 2168, .ref 89] (SH, jn C C5) none (SH, jn C (C'))
  refine mj_iconst (pc := 57) (v := 1) d_Md_closeLoan_57 (by decide) ?_
  refine mj_isub (pc := 58) d_Md_closeLoan_58 ?_
  refine dj_iast (pc := 59) d_Md_closeLoan_59 sh_89 (by decide) (by decide) (by decide) ?_
  show mj_R M_Md_closeLoan 60 [some (.ref 88), none, none] [] (SH, jn C (mj_wr C5 89 2168 ((C5 89 2168) - 1))) none (SH, jn C (C'))
  obtain e_1 := inj1 h
  subst e_1
  exact mj_vret (pc := 60) d_Md_closeLoan_60 rfl
set_option maxRecDepth 20000 in
theorem l_Md_breaks_31 {r : Option Value} {X y : St} : ∀ (n : Nat) (y1 : Int32) (y2 : Int32) (y3 : Int32) (y4 : Int32) (y5 : Int32) (C : St) (o4_ : Int32) (Q_ : St), L_Md_breaks_31 n y1 y2 y3 y4 y5 C = some (o4_, Q_) → mj_R M_Md_breaks 127 [some (.ref 88), some (.int y1), none, none, some (.int o4_), none, none] [] (SH, jn X Q_) r (SH, y) → mj_R M_Md_breaks 31 [some (.ref 88), some (.int y1), some (.int y2), some (.int y3), some (.int y4), some (.int y5), none] [] (SH, jn X C) r (SH, y) := by
  intro n
  induction n with
  | zero => intro y1 y2 y3 y4 y5 C o4_ Q_ h; cases h
  | succ n ih =>
    intro y1 y2 y3 y4 y5 C o4_ Q_ h hX
    unfold L_Md_breaks_31 at h
    refine mj_iload (pc := 31) (i := 5) d_Md_breaks_31 rfl ?_
    refine mj_aload_n (pc := 33) (i := 0) d_Md_breaks_33 rfl rfl (by decide) ?_
    refine mj_getR (pc := 34) d_Md_breaks_34 fl_Md_7 sh_88 rfl rfl (by decide) (by decide) (by decide) ?_
    refine mj_sipush (pc := 37) (v := 2168) d_Md_breaks_37 (by decide) ?_
    refine dj_iald (pc := 40) d_Md_breaks_40 sh_89 (by decide) (by decide) (by decide) ?_
    show mj_R M_Md_breaks 41 [some (.ref 88), some (.int y1), some (.int y2), some (.int y3), some (.int y4), some (.int y5), none] [.int (C 89 2168), .int y5] (SH, jn X C) r (SH, y)
    refine mj_icmp_ge (pc := 41) (tgt := 127) d_Md_breaks_41 (by decide) mj_hs (fun hc7 => ?_) (fun hc7 => ?_)
    · rw [if_pos hc7] at h
      obtain ⟨e_1, e_2⟩ := inj2 h
      subst e_1
      subst e_2
      exact mj_wk hX (And.intro rfl (And.intro rfl (And.intro rfl trivial)))
    · rw [if_neg hc7] at h
      refine mj_aload_n (pc := 44) (i := 0) d_Md_breaks_44 rfl rfl (by decide) ?_
      refine mj_getR (pc := 45) d_Md_breaks_45 fl_Md_7 sh_88 rfl rfl (by decide) (by decide) (by decide) ?_
      refine mj_sipush (pc := 48) (v := 1363) d_Md_breaks_48 (by decide) ?_
      refine mj_iconst (pc := 51) (v := 4) d_Md_breaks_51 (by decide) ?_
      refine mj_iload (pc := 52) (i := 5) d_Md_breaks_52 rfl ?_
      refine mj_imul (pc := 54) d_Md_breaks_54 ?_
      refine mj_iadd (pc := 55) d_Md_breaks_55 ?_
      refine mj_iconst (pc := 56) (v := 1) d_Md_breaks_56 (by decide) ?_
      refine mj_iadd (pc := 57) d_Md_breaks_57 ?_
      obtain ⟨hg8, h⟩ := mj_gd h
      refine dj_iald (pc := 58) d_Md_breaks_58 sh_89 (by decide) hg8 (by decide) ?_
      refine mj_iload_n (pc := 59) (i := 1) d_Md_breaks_59 rfl rfl ?_
      have k10 : mj_R M_Md_breaks 68 [some (.ref 88), some (.int y1), some (.int y2), some (.int y3), some (.int y4), some (.int y5), none] [.int (if (C 89 ((1363 + (4 * y5)) + 1).toNatClampNeg) = y1 then 1 else 0 : Int32)] (SH, jn X C) r (SH, y) := by
        refine mj_istore (pc := 68) (i := 6) d_Md_breaks_68 rfl (by decide) ?_
        refine mj_aload_n (pc := 70) (i := 0) d_Md_breaks_70 rfl rfl (by decide) ?_
        refine mj_getR (pc := 71) d_Md_breaks_71 fl_Md_50 sh_88 rfl rfl (by decide) (by decide) (by decide) ?_
        refine mj_iload (pc := 74) (i := 5) d_Md_breaks_74 rfl ?_
        refine mj_iload (pc := 76) (i := 6) d_Md_breaks_76 rfl ?_
        obtain ⟨w14, hb16, h⟩ := bd1_some h
        have k15 : mj_R M_Md_breaks 108 [some (.ref 88), some (.int y1), some (.int y2), some (.int y3), some (.int y4), some (.int y5), none] [.int w14, .int y5, .ref 102] (SH, jn X C) r (SH, y) := by
          obtain ⟨hg17, h⟩ := mj_gd h
          refine dj_iast (pc := 108) d_Md_breaks_108 sh_102 (by decide) hg17 (by decide) ?_
          refine mj_iload (pc := 109) (i := 4) d_Md_breaks_109 rfl ?_
          refine mj_aload_n (pc := 111) (i := 0) d_Md_breaks_111 rfl rfl (by decide) ?_
          refine mj_getR (pc := 112) d_Md_breaks_112 fl_Md_50 sh_88 rfl rfl (by decide) (by decide) (by decide) ?_
          refine mj_iload (pc := 115) (i := 5) d_Md_breaks_115 rfl ?_
          refine dj_iald (pc := 117) d_Md_breaks_117 sh_102 (by decide) hg17 (by decide) ?_
          refine mj_isub (pc := 118) d_Md_breaks_118 ?_
          refine mj_istore (pc := 119) (i := 4) d_Md_breaks_119 rfl (by decide) ?_
          refine mj_iinc (pc := 121) (i := 5) (v := y5 + 1) d_Md_breaks_121 rfl (by rfl) rfl (by decide) ?_
          refine mj_goto (pc := 124) (tgt := 31) d_Md_breaks_124 (by decide) ?_
          exact mj_weak [some (.ref 88), some (.int y1), some (.int y2), some (.int y3), some (.int (y4 - (mj_wr C 102 (y5.toNatClampNeg) w14 102 y5.toNatClampNeg))), some (.int (y5 + 1)), none] (And.intro rfl (And.intro rfl (And.intro rfl (And.intro rfl (And.intro rfl (And.intro rfl trivial)))))) (ih _ _ _ _ _ _ _ _ h hX)
        have h := hb16
        refine mj_if_eq (y := 0) (pc := 78) (tgt := 107) d_Md_breaks_78 (by decide) mj_hs (fun hc11 => ?_) (fun hc11 => ?_)
        · rw [if_pos hc11] at h
          refine mj_iconst (pc := 107) (v := 0) d_Md_breaks_107 (by decide) ?_
          obtain e_1 := inj1 h
          subst e_1
          exact mj_wk k15 (And.intro rfl (And.intro rfl (And.intro rfl (And.intro rfl (And.intro rfl (And.intro rfl trivial))))))
        · rw [if_neg hc11] at h
          refine mj_iload_n (pc := 81) (i := 3) d_Md_breaks_81 rfl rfl ?_
          refine mj_i2l (pc := 82) d_Md_breaks_82 ?_
          refine mj_aload_n (pc := 83) (i := 0) d_Md_breaks_83 rfl rfl (by decide) ?_
          refine mj_getR (pc := 84) d_Md_breaks_84 fl_Md_7 sh_88 rfl rfl (by decide) (by decide) (by decide) ?_
          refine mj_sipush (pc := 87) (v := 1363) d_Md_breaks_87 (by decide) ?_
          refine mj_iconst (pc := 90) (v := 4) d_Md_breaks_90 (by decide) ?_
          refine mj_iload (pc := 91) (i := 5) d_Md_breaks_91 rfl ?_
          refine mj_imul (pc := 93) d_Md_breaks_93 ?_
          refine mj_iadd (pc := 94) d_Md_breaks_94 ?_
          refine mj_iconst (pc := 95) (v := 2) d_Md_breaks_95 (by decide) ?_
          refine mj_iadd (pc := 96) d_Md_breaks_96 ?_
          obtain ⟨hg12, h⟩ := mj_gd h
          refine dj_iald (pc := 97) d_Md_breaks_97 sh_89 (by decide) hg12 (by decide) ?_
          refine mj_i2l (pc := 98) d_Md_breaks_98 ?_
          refine mj_lmul (pc := 99) d_Md_breaks_99 ?_
          refine mj_iload_n (pc := 100) (i := 2) d_Md_breaks_100 rfl rfl ?_
          refine mj_i2l (pc := 101) d_Md_breaks_101 ?_
          obtain ⟨hg13, h⟩ := mj_gz h
          refine mj_ldiv (pc := 102) d_Md_breaks_102 hg13 ?_
          refine mj_l2i (pc := 103) d_Md_breaks_103 ?_
          refine mj_goto (pc := 104) (tgt := 108) d_Md_breaks_104 (by decide) ?_
          obtain e_1 := inj1 h
          subst e_1
          exact mj_wk k15 (And.intro rfl (And.intro rfl (And.intro rfl (And.intro rfl (And.intro rfl (And.intro rfl trivial))))))
      refine mj_icmp_ne (pc := 60) (tgt := 67) d_Md_breaks_60 (by decide) mj_hs (fun hc9 => ?_) (fun hc9 => ?_)
      · refine mj_iconst (pc := 67) (v := 0) d_Md_breaks_67 (by decide) ?_
        try simp only [if_neg hc9] at k10
        exact mj_wk k10 (And.intro rfl (And.intro rfl (And.intro rfl (And.intro rfl (And.intro rfl (And.intro rfl trivial))))))
      · refine mj_iconst (pc := 63) (v := 1) d_Md_breaks_63 (by decide) ?_
        refine mj_goto (pc := 64) (tgt := 68) d_Md_breaks_64 (by decide) ?_
        try simp only [if_pos hc9] at k10
        exact mj_wk k10 (And.intro rfl (And.intro rfl (And.intro rfl (And.intro rfl (And.intro rfl (And.intro rfl trivial))))))
set_option maxRecDepth 20000 in
theorem l_Md_breaks_135 {r : Option Value} {X y : St} : ∀ (n : Nat) (y1 : Int32) (y4 : Int32) (y5 : Int32) (C : St) (o4_ : Int32) (Q_ : St), L_Md_breaks_135 n y1 y4 y5 C = some (o4_, Q_) → mj_R M_Md_breaks 192 [some (.ref 88), some (.int y1), none, none, some (.int o4_), none, none] [] (SH, jn X Q_) r (SH, y) → mj_R M_Md_breaks 135 [some (.ref 88), some (.int y1), none, none, some (.int y4), some (.int y5), none] [] (SH, jn X C) r (SH, y) := by
  intro n
  induction n with
  | zero => intro y1 y4 y5 C o4_ Q_ h; cases h
  | succ n ih =>
    intro y1 y4 y5 C o4_ Q_ h hX
    unfold L_Md_breaks_135 at h
    refine mj_iload (pc := 135) (i := 5) d_Md_breaks_135 rfl ?_
    refine mj_aload_n (pc := 137) (i := 0) d_Md_breaks_137 rfl rfl (by decide) ?_
    refine mj_getR (pc := 138) d_Md_breaks_138 fl_Md_7 sh_88 rfl rfl (by decide) (by decide) (by decide) ?_
    refine mj_sipush (pc := 141) (v := 2168) d_Md_breaks_141 (by decide) ?_
    refine dj_iald (pc := 144) d_Md_breaks_144 sh_89 (by decide) (by decide) (by decide) ?_
    show mj_R M_Md_breaks 145 [some (.ref 88), some (.int y1), none, none, some (.int y4), some (.int y5), none] [.int (C 89 2168), .int y5] (SH, jn X C) r (SH, y)
    refine mj_icmp_ge (pc := 145) (tgt := 192) d_Md_breaks_145 (by decide) mj_hs (fun hc24 => ?_) (fun hc24 => ?_)
    · rw [if_pos hc24] at h
      obtain ⟨e_1, e_2⟩ := inj2 h
      subst e_1
      subst e_2
      exact mj_wk hX (And.intro rfl (And.intro rfl (And.intro rfl trivial)))
    · rw [if_neg hc24] at h
      refine mj_iload (pc := 148) (i := 4) d_Md_breaks_148 rfl ?_
      refine mj_if_le (y := 0) (pc := 150) (tgt := 192) d_Md_breaks_150 (by decide) mj_hs (fun hc25 => ?_) (fun hc25 => ?_)
      · rw [if_pos hc25] at h
        obtain ⟨e_1, e_2⟩ := inj2 h
        subst e_1
        subst e_2
        exact mj_wk hX (And.intro rfl (And.intro rfl (And.intro rfl trivial)))
      · rw [if_neg hc25] at h
        refine mj_aload_n (pc := 153) (i := 0) d_Md_breaks_153 rfl rfl (by decide) ?_
        refine mj_getR (pc := 154) d_Md_breaks_154 fl_Md_7 sh_88 rfl rfl (by decide) (by decide) (by decide) ?_
        refine mj_sipush (pc := 157) (v := 1363) d_Md_breaks_157 (by decide) ?_
        refine mj_iconst (pc := 160) (v := 4) d_Md_breaks_160 (by decide) ?_
        refine mj_iload (pc := 161) (i := 5) d_Md_breaks_161 rfl ?_
        refine mj_imul (pc := 163) d_Md_breaks_163 ?_
        refine mj_iadd (pc := 164) d_Md_breaks_164 ?_
        refine mj_iconst (pc := 165) (v := 1) d_Md_breaks_165 (by decide) ?_
        refine mj_iadd (pc := 166) d_Md_breaks_166 ?_
        obtain ⟨hg26, h⟩ := mj_gd h
        refine dj_iald (pc := 167) d_Md_breaks_167 sh_89 (by decide) hg26 (by decide) ?_
        refine mj_iload_n (pc := 168) (i := 1) d_Md_breaks_168 rfl rfl ?_
        obtain ⟨w29, C30, hb32, h⟩ := bd2_some h
        have k31 : mj_R M_Md_breaks 186 [some (.ref 88), some (.int y1), none, none, some (.int w29), some (.int y5), none] [] (SH, jn X C30) r (SH, y) := by
          refine mj_iinc (pc := 186) (i := 5) (v := y5 + 1) d_Md_breaks_186 rfl (by rfl) rfl (by decide) ?_
          refine mj_goto (pc := 189) (tgt := 135) d_Md_breaks_189 (by decide) ?_
          exact mj_weak [some (.ref 88), some (.int y1), none, none, some (.int w29), some (.int (y5 + 1)), none] (And.intro rfl (And.intro rfl (And.intro rfl (And.intro rfl trivial)))) (ih _ _ _ _ _ _ h hX)
        have h := hb32
        refine mj_icmp_ne (pc := 169) (tgt := 186) d_Md_breaks_169 (by decide) mj_hs (fun hc27 => ?_) (fun hc27 => ?_)
        · rw [if_neg hc27] at h
          obtain ⟨e_1, e_2⟩ := inj2 h
          subst e_1
          subst e_2
          exact mj_wk k31 (And.intro rfl (And.intro rfl (And.intro rfl (And.intro rfl trivial))))
        · rw [if_pos hc27] at h
          refine mj_aload_n (pc := 172) (i := 0) d_Md_breaks_172 rfl rfl (by decide) ?_
          refine mj_getR (pc := 173) d_Md_breaks_173 fl_Md_50 sh_88 rfl rfl (by decide) (by decide) (by decide) ?_
          refine mj_iload (pc := 176) (i := 5) d_Md_breaks_176 rfl ?_
          refine mj_dup2 (pc := 178) d_Md_breaks_178 rfl rfl ?_
          obtain ⟨hg28, h⟩ := mj_gd h
          refine dj_iald (pc := 179) d_Md_breaks_179 sh_102 (by decide) hg28 (by decide) ?_
          refine mj_iconst (pc := 180) (v := 1) d_Md_breaks_180 (by decide) ?_
          refine mj_iadd (pc := 181) d_Md_breaks_181 ?_
          refine dj_iast (pc := 182) d_Md_breaks_182 sh_102 (by decide) hg28 (by decide) ?_
          refine mj_iinc (pc := 183) (i := 4) (v := y4 + (-1)) d_Md_breaks_183 rfl (by rfl) rfl (by decide) ?_
          obtain ⟨e_1, e_2⟩ := inj2 h
          subst e_1
          subst e_2
          exact mj_wk k31 (And.intro rfl (And.intro rfl (And.intro rfl (And.intro rfl trivial))))
set_option maxRecDepth 20000 in
theorem l_Md_breaks_127 {r : Option Value} {X y : St} : ∀ (n : Nat) (y1 : Int32) (y4 : Int32) (C : St) (Q_ : St), L_Md_breaks_127 n y1 y4 C = some Q_ → mj_R M_Md_breaks 195 [some (.ref 88), some (.int y1), none, none, none, none, none] [] (SH, jn X Q_) r (SH, y) → mj_R M_Md_breaks 127 [some (.ref 88), some (.int y1), none, none, some (.int y4), none, none] [] (SH, jn X C) r (SH, y) := by
  intro n
  induction n with
  | zero => intro y1 y4 C Q_ h; cases h
  | succ n ih =>
    intro y1 y4 C Q_ h hX
    unfold L_Md_breaks_127 at h
    refine mj_iload (pc := 127) (i := 4) d_Md_breaks_127 rfl ?_
    refine mj_if_le (y := 0) (pc := 129) (tgt := 195) d_Md_breaks_129 (by decide) mj_hs (fun hc22 => ?_) (fun hc22 => ?_)
    · rw [if_pos hc22] at h
      obtain e_1 := inj1 h
      subst e_1
      exact mj_wk hX (And.intro rfl (And.intro rfl trivial))
    · rw [if_neg hc22] at h
      refine mj_iconst (pc := 132) (v := 0) d_Md_breaks_132 (by decide) ?_
      refine mj_istore (pc := 133) (i := 5) d_Md_breaks_133 rfl (by decide) ?_
      obtain ⟨o33, C34, hl35, h⟩ := bd2_some h
      refine mj_weak [some (.ref 88), some (.int y1), none, none, some (.int y4), some (.int 0), none] (And.intro rfl (And.intro rfl (And.intro rfl (And.intro rfl trivial)))) (l_Md_breaks_135 3000 _ _ _ _ _ _ hl35 ?_)
      refine mj_goto (pc := 192) (tgt := 127) d_Md_breaks_192 (by decide) ?_
      exact mj_weak [some (.ref 88), some (.int y1), none, none, some (.int o33), none, none] (And.intro rfl (And.intro rfl (And.intro rfl trivial))) (ih _ _ _ _ h hX)
set_option maxRecDepth 20000 in
theorem l_Md_breaks_198 {r : Option Value} {X y : St} : ∀ (n : Nat) (y1 : Int32) (y5 : Int32) (C : St) (Q_ : St), L_Md_breaks_198 n y1 y5 C = some Q_ → mj_R M_Md_breaks 262 [some (.ref 88), some (.int y1), none, none, none, none, none] [] (SH, jn X Q_) r (SH, y) → mj_R M_Md_breaks 198 [some (.ref 88), some (.int y1), none, none, none, some (.int y5), none] [] (SH, jn X C) r (SH, y) := by
  intro n
  induction n with
  | zero => intro y1 y5 C Q_ h; cases h
  | succ n ih =>
    intro y1 y5 C Q_ h hX
    unfold L_Md_breaks_198 at h
    refine mj_iload (pc := 198) (i := 5) d_Md_breaks_198 rfl ?_
    refine mj_aload_n (pc := 200) (i := 0) d_Md_breaks_200 rfl rfl (by decide) ?_
    refine mj_getR (pc := 201) d_Md_breaks_201 fl_Md_7 sh_88 rfl rfl (by decide) (by decide) (by decide) ?_
    refine mj_sipush (pc := 204) (v := 2168) d_Md_breaks_204 (by decide) ?_
    refine dj_iald (pc := 207) d_Md_breaks_207 sh_89 (by decide) (by decide) (by decide) ?_
    show mj_R M_Md_breaks 208 [some (.ref 88), some (.int y1), none, none, none, some (.int y5), none] [.int (C 89 2168), .int y5] (SH, jn X C) r (SH, y)
    refine mj_icmp_ge (pc := 208) (tgt := 262) d_Md_breaks_208 (by decide) mj_hs (fun hc41 => ?_) (fun hc41 => ?_)
    · rw [if_pos hc41] at h
      obtain e_1 := inj1 h
      subst e_1
      exact mj_wk hX (And.intro rfl (And.intro rfl trivial))
    · rw [if_neg hc41] at h
      refine mj_aload_n (pc := 211) (i := 0) d_Md_breaks_211 rfl rfl (by decide) ?_
      refine mj_getR (pc := 212) d_Md_breaks_212 fl_Md_7 sh_88 rfl rfl (by decide) (by decide) (by decide) ?_
      refine mj_sipush (pc := 215) (v := 1363) d_Md_breaks_215 (by decide) ?_
      refine mj_iconst (pc := 218) (v := 4) d_Md_breaks_218 (by decide) ?_
      refine mj_iload (pc := 219) (i := 5) d_Md_breaks_219 rfl ?_
      refine mj_imul (pc := 221) d_Md_breaks_221 ?_
      refine mj_iadd (pc := 222) d_Md_breaks_222 ?_
      refine mj_iconst (pc := 223) (v := 1) d_Md_breaks_223 (by decide) ?_
      refine mj_iadd (pc := 224) d_Md_breaks_224 ?_
      obtain ⟨hg42, h⟩ := mj_gd h
      refine dj_iald (pc := 225) d_Md_breaks_225 sh_89 (by decide) hg42 (by decide) ?_
      refine mj_iload_n (pc := 226) (i := 1) d_Md_breaks_226 rfl rfl ?_
      obtain ⟨C48, hb50, h⟩ := bd1_some h
      have k49 : mj_R M_Md_breaks 256 [some (.ref 88), some (.int y1), none, none, none, some (.int y5), none] [] (SH, jn X C48) r (SH, y) := by
        refine mj_iinc (pc := 256) (i := 5) (v := y5 + 1) d_Md_breaks_256 rfl (by rfl) rfl (by decide) ?_
        refine mj_goto (pc := 259) (tgt := 198) d_Md_breaks_259 (by decide) ?_
        exact mj_weak [some (.ref 88), some (.int y1), none, none, none, some (.int (y5 + 1)), none] (And.intro rfl (And.intro rfl (And.intro rfl trivial))) (ih _ _ _ _ h hX)
      have h := hb50
      refine mj_icmp_ne (pc := 227) (tgt := 256) d_Md_breaks_227 (by decide) mj_hs (fun hc43 => ?_) (fun hc43 => ?_)
      · rw [if_neg hc43] at h
        obtain e_1 := inj1 h
        subst e_1
        exact mj_wk k49 (And.intro rfl (And.intro rfl (And.intro rfl trivial)))
      · rw [if_pos hc43] at h
        refine mj_aload_n (pc := 230) (i := 0) d_Md_breaks_230 rfl rfl (by decide) ?_
        refine mj_iload_n (pc := 231) (i := 1) d_Md_breaks_231 rfl rfl ?_
        refine mj_aload_n (pc := 232) (i := 0) d_Md_breaks_232 rfl rfl (by decide) ?_
        refine mj_getR (pc := 233) d_Md_breaks_233 fl_Md_7 sh_88 rfl rfl (by decide) (by decide) (by decide) ?_
        refine mj_sipush (pc := 236) (v := 1363) d_Md_breaks_236 (by decide) ?_
        refine mj_iconst (pc := 239) (v := 4) d_Md_breaks_239 (by decide) ?_
        refine mj_iload (pc := 240) (i := 5) d_Md_breaks_240 rfl ?_
        refine mj_imul (pc := 242) d_Md_breaks_242 ?_
        refine mj_iadd (pc := 243) d_Md_breaks_243 ?_
        obtain ⟨hg44, h⟩ := mj_gd h
        refine dj_iald (pc := 244) d_Md_breaks_244 sh_89 (by decide) hg44 (by decide) ?_
        refine mj_aload_n (pc := 245) (i := 0) d_Md_breaks_245 rfl rfl (by decide) ?_
        refine mj_getR (pc := 246) d_Md_breaks_246 fl_Md_50 sh_88 rfl rfl (by decide) (by decide) (by decide) ?_
        refine mj_iload (pc := 249) (i := 5) d_Md_breaks_249 rfl ?_
        obtain ⟨hg45, h⟩ := mj_gd h
        refine dj_iald (pc := 251) d_Md_breaks_251 sh_102 (by decide) hg45 (by decide) ?_
        refine mj_iconst (pc := 252) (v := 4) d_Md_breaks_252 (by decide) ?_
        obtain ⟨C46, hb47, h⟩ := bd1_some h
        refine mj_callV (pc := 253) (b := 88) (vs := [.int y1, .int (C 89 (1363 + (4 * y5)).toNatClampNeg), .int (C 102 y5.toNatClampNeg), .int 4]) (st := []) d_Md_breaks_253 bB_Md_breaks_Md_pays lk_Md_176 iv_Md_pays rc_88 rfl (Nat.le_of_ble_eq_true rfl) (Nat.le_of_ble_eq_true rfl) (r_Md_pays hb47) ?_
        show mj_R M_Md_breaks 256 [some (.ref 88), some (.int y1), none, none, none, some (.int y5), none] [] (SH, jn X C46) r (SH, y)
        obtain e_1 := inj1 h
        subst e_1
        exact mj_wk k49 (And.intro rfl (And.intro rfl (And.intro rfl trivial)))
set_option maxRecDepth 20000 in
theorem l_Md_breaks_274 {r : Option Value} {X y : St} : ∀ (n : Nat) (y1 : Int32) (y5 : Int32) (C : St) (Q_ : St), L_Md_breaks_274 n y1 y5 C = some Q_ → mj_R M_Md_breaks 310 [none, none, none, none, none, none, none] [] (SH, jn X Q_) r (SH, y) → mj_R M_Md_breaks 274 [some (.ref 88), some (.int y1), none, none, none, some (.int y5), none] [] (SH, jn X C) r (SH, y) := by
  intro n
  induction n with
  | zero => intro y1 y5 C Q_ h; cases h
  | succ n ih =>
    intro y1 y5 C Q_ h hX
    unfold L_Md_breaks_274 at h
    refine mj_iload (pc := 274) (i := 5) d_Md_breaks_274 rfl ?_
    refine mj_if_lt (y := 0) (pc := 276) (tgt := 310) d_Md_breaks_276 (by decide) mj_hs (fun hc54 => ?_) (fun hc54 => ?_)
    · rw [if_pos hc54] at h
      obtain e_1 := inj1 h
      subst e_1
      exact mj_wk hX trivial
    · rw [if_neg hc54] at h
      refine mj_aload_n (pc := 279) (i := 0) d_Md_breaks_279 rfl rfl (by decide) ?_
      refine mj_getR (pc := 280) d_Md_breaks_280 fl_Md_7 sh_88 rfl rfl (by decide) (by decide) (by decide) ?_
      refine mj_sipush (pc := 283) (v := 1363) d_Md_breaks_283 (by decide) ?_
      refine mj_iconst (pc := 286) (v := 4) d_Md_breaks_286 (by decide) ?_
      refine mj_iload (pc := 287) (i := 5) d_Md_breaks_287 rfl ?_
      refine mj_imul (pc := 289) d_Md_breaks_289 ?_
      refine mj_iadd (pc := 290) d_Md_breaks_290 ?_
      refine mj_iconst (pc := 291) (v := 1) d_Md_breaks_291 (by decide) ?_
      refine mj_iadd (pc := 292) d_Md_breaks_292 ?_
      obtain ⟨hg55, h⟩ := mj_gd h
      refine dj_iald (pc := 293) d_Md_breaks_293 sh_89 (by decide) hg55 (by decide) ?_
      refine mj_iload_n (pc := 294) (i := 1) d_Md_breaks_294 rfl rfl ?_
      obtain ⟨C59, hb61, h⟩ := bd1_some h
      have k60 : mj_R M_Md_breaks 304 [some (.ref 88), some (.int y1), none, none, none, some (.int y5), none] [] (SH, jn X C59) r (SH, y) := by
        refine mj_iinc (pc := 304) (i := 5) (v := y5 + (-1)) d_Md_breaks_304 rfl (by rfl) rfl (by decide) ?_
        refine mj_goto (pc := 307) (tgt := 274) d_Md_breaks_307 (by decide) ?_
        exact mj_weak [some (.ref 88), some (.int y1), none, none, none, some (.int (y5 + (-1))), none] (And.intro rfl (And.intro rfl (And.intro rfl trivial))) (ih _ _ _ _ h hX)
      have h := hb61
      refine mj_icmp_ne (pc := 295) (tgt := 304) d_Md_breaks_295 (by decide) mj_hs (fun hc56 => ?_) (fun hc56 => ?_)
      · rw [if_neg hc56] at h
        obtain e_1 := inj1 h
        subst e_1
        exact mj_wk k60 (And.intro rfl (And.intro rfl (And.intro rfl trivial)))
      · rw [if_pos hc56] at h
        refine mj_aload_n (pc := 298) (i := 0) d_Md_breaks_298 rfl rfl (by decide) ?_
        refine mj_iload (pc := 299) (i := 5) d_Md_breaks_299 rfl ?_
        obtain ⟨C57, hb58, h⟩ := bd1_some h
        refine mj_callV (pc := 301) (b := 88) (vs := [.int y5]) (st := []) d_Md_breaks_301 bB_Md_breaks_Md_closeLoan lk_Md_223 iv_Md_closeLoan rc_88 rfl (Nat.le_of_ble_eq_true rfl) (Nat.le_of_ble_eq_true rfl) (r_Md_closeLoan hb58) ?_
        show mj_R M_Md_breaks 304 [some (.ref 88), some (.int y1), none, none, none, some (.int y5), none] [] (SH, jn X C57) r (SH, y)
        obtain e_1 := inj1 h
        subst e_1
        exact mj_wk k60 (And.intro rfl (And.intro rfl (And.intro rfl trivial)))
set_option maxRecDepth 20000 in
theorem r_Md_breaks {x1 : Int32} {C C0 : St} {C' : St} (h : f_Md_breaks x1 C0 = some (C')) : mj_R M_Md_breaks 0 (mj_lv M_Md_breaks.2.2.1 [.ref 88, .int x1]) [] (SH, jn C C0) none (SH, jn C (C')) := by
  show mj_R M_Md_breaks 0 [some (.ref 88), some (.int x1), none, none, none, none, none] [] _ _ _
  unfold f_Md_breaks at h
  refine mj_aload_n (pc := 0) (i := 0) d_Md_breaks_0 rfl rfl (by decide) ?_
  refine mj_getR (pc := 1) d_Md_breaks_1 fl_Md_7 sh_88 rfl rfl (by decide) (by decide) (by decide) ?_
  refine mj_iconst (pc := 4) (v := 0) d_Md_breaks_4 (by decide) ?_
  refine mj_iconst (pc := 5) (v := 5) d_Md_breaks_5 (by decide) ?_
  refine mj_iload_n (pc := 6) (i := 1) d_Md_breaks_6 rfl rfl ?_
  refine mj_imul (pc := 7) d_Md_breaks_7 ?_
  refine mj_iadd (pc := 8) d_Md_breaks_8 ?_
  refine mj_iconst (pc := 9) (v := 2) d_Md_breaks_9 (by decide) ?_
  refine mj_iadd (pc := 10) d_Md_breaks_10 ?_
  refine mj_iconst (pc := 11) (v := 1) d_Md_breaks_11 (by decide) ?_
  obtain ⟨hg1, h⟩ := mj_gd h
  refine dj_iast (pc := 12) d_Md_breaks_12 sh_89 (by decide) hg1 (by decide) ?_
  refine mj_aload_n (pc := 13) (i := 0) d_Md_breaks_13 rfl rfl (by decide) ?_
  refine mj_iload_n (pc := 14) (i := 1) d_Md_breaks_14 rfl rfl ?_
  obtain ⟨v2, hb3, h⟩ := bd1_some h
  refine mj_callV (pc := 15) (b := 88) (vs := [.int x1]) (st := []) d_Md_breaks_15 bB_Md_breaks_Md_owes lk_Md_220 iv_Md_owes rc_88 rfl (Nat.le_of_ble_eq_true rfl) (Nat.le_of_ble_eq_true rfl) (r_Md_owes hb3) ?_
  show mj_R M_Md_breaks 18 [some (.ref 88), some (.int x1), none, none, none, none, none] [.int v2] (SH, jn C (mj_wr C0 89 (((0 + (5 * x1)) + 2).toNatClampNeg) 1)) none (SH, jn C (C'))
  refine mj_istore_n (pc := 18) (i := 2) d_Md_breaks_18 rfl rfl (by decide) ?_
  refine mj_aload_n (pc := 19) (i := 0) d_Md_breaks_19 rfl rfl (by decide) ?_
  refine mj_iload_n (pc := 20) (i := 1) d_Md_breaks_20 rfl rfl ?_
  obtain ⟨v4, hb5, h⟩ := bd1_some h
  refine mj_callV (pc := 21) (b := 88) (vs := [.int x1]) (st := []) d_Md_breaks_21 bB_Md_breaks_Md_cash lk_Md_150 iv_Md_cash rc_88 rfl (Nat.le_of_ble_eq_true rfl) (Nat.le_of_ble_eq_true rfl) (r_Md_cash hb5) ?_
  show mj_R M_Md_breaks 24 [some (.ref 88), some (.int x1), some (.int v2), none, none, none, none] [.int v4] (SH, jn C (mj_wr C0 89 (((0 + (5 * x1)) + 2).toNatClampNeg) 1)) none (SH, jn C (C'))
  refine mj_istore_n (pc := 24) (i := 3) d_Md_breaks_24 rfl rfl (by decide) ?_
  refine mj_iload_n (pc := 25) (i := 3) d_Md_breaks_25 rfl rfl ?_
  refine mj_istore (pc := 26) (i := 4) d_Md_breaks_26 rfl (by decide) ?_
  refine mj_iconst (pc := 28) (v := 0) d_Md_breaks_28 (by decide) ?_
  refine mj_istore (pc := 29) (i := 5) d_Md_breaks_29 rfl (by decide) ?_
  obtain ⟨o19, C20, hl21, h⟩ := bd2_some h
  refine mj_weak [some (.ref 88), some (.int x1), some (.int v2), some (.int v4), some (.int v4), some (.int 0), none] (And.intro rfl (And.intro rfl (And.intro rfl (And.intro rfl (And.intro rfl (And.intro rfl trivial)))))) (l_Md_breaks_31 3000 _ _ _ _ _ _ _ _ hl21 ?_)
  obtain ⟨C38, hl39, h⟩ := bd1_some h
  refine mj_weak [some (.ref 88), some (.int x1), none, none, some (.int o19), none, none] (And.intro rfl (And.intro rfl (And.intro rfl trivial))) (l_Md_breaks_127 3000 _ _ _ _ hl39 ?_)
  refine mj_iconst (pc := 195) (v := 0) d_Md_breaks_195 (by decide) ?_
  refine mj_istore (pc := 196) (i := 5) d_Md_breaks_196 rfl (by decide) ?_
  obtain ⟨C51, hl52, h⟩ := bd1_some h
  refine mj_weak [some (.ref 88), some (.int x1), none, none, none, some (.int 0), none] (And.intro rfl (And.intro rfl (And.intro rfl trivial))) (l_Md_breaks_198 3000 _ _ _ _ hl52 ?_)
  refine mj_aload_n (pc := 262) (i := 0) d_Md_breaks_262 rfl rfl (by decide) ?_
  refine mj_getR (pc := 263) d_Md_breaks_263 fl_Md_7 sh_88 rfl rfl (by decide) (by decide) (by decide) ?_
  refine mj_sipush (pc := 266) (v := 2168) d_Md_breaks_266 (by decide) ?_
  refine dj_iald (pc := 269) d_Md_breaks_269 sh_89 (by decide) (by decide) (by decide) ?_
  show mj_R M_Md_breaks 270 [some (.ref 88), some (.int x1), none, none, none, none, none] [.int (C51 89 2168)] (SH, jn C C51) none (SH, jn C (C'))
  refine mj_iconst (pc := 270) (v := 1) d_Md_breaks_270 (by decide) ?_
  refine mj_isub (pc := 271) d_Md_breaks_271 ?_
  refine mj_istore (pc := 272) (i := 5) d_Md_breaks_272 rfl (by decide) ?_
  obtain ⟨C62, hl63, h⟩ := bd1_some h
  refine mj_weak [some (.ref 88), some (.int x1), none, none, none, some (.int ((C51 89 2168) - 1)), none] (And.intro rfl (And.intro rfl (And.intro rfl trivial))) (l_Md_breaks_274 3000 _ _ _ _ hl63 ?_)
  obtain e_1 := inj1 h
  subst e_1
  exact mj_vret (pc := 310) d_Md_breaks_310 rfl
set_option maxRecDepth 20000 in
theorem l_Md_settle_5 {r : Option Value} {X y : St} : ∀ (n : Nat) (y1 : Int32) (C : St) (Q_ : St), L_Md_settle_5 n y1 C = some Q_ → mj_R M_Md_settle 88 [none, none, none, none] [] (SH, jn X Q_) r (SH, y) → mj_R M_Md_settle 5 [some (.ref 88), some (.int y1), none, none] [] (SH, jn X C) r (SH, y) := by
  intro n
  induction n with
  | zero => intro y1 C Q_ h; cases h
  | succ n ih =>
    intro y1 C Q_ h hX
    unfold L_Md_settle_5 at h
    refine mj_iload_n (pc := 5) (i := 1) d_Md_settle_5 rfl rfl ?_
    refine mj_if_lt (y := 0) (pc := 6) (tgt := 88) d_Md_settle_6 (by decide) mj_hs (fun hc3 => ?_) (fun hc3 => ?_)
    · rw [if_pos hc3] at h
      obtain e_1 := inj1 h
      subst e_1
      exact mj_wk hX trivial
    · rw [if_neg hc3] at h
      refine mj_aload_n (pc := 9) (i := 0) d_Md_settle_9 rfl rfl (by decide) ?_
      refine mj_getR (pc := 10) d_Md_settle_10 fl_Md_7 sh_88 rfl rfl (by decide) (by decide) (by decide) ?_
      refine mj_sipush (pc := 13) (v := 1363) d_Md_settle_13 (by decide) ?_
      refine mj_iconst (pc := 16) (v := 4) d_Md_settle_16 (by decide) ?_
      refine mj_iload_n (pc := 17) (i := 1) d_Md_settle_17 rfl rfl ?_
      refine mj_imul (pc := 18) d_Md_settle_18 ?_
      refine mj_iadd (pc := 19) d_Md_settle_19 ?_
      refine mj_iconst (pc := 20) (v := 1) d_Md_settle_20 (by decide) ?_
      refine mj_iadd (pc := 21) d_Md_settle_21 ?_
      obtain ⟨hg4, h⟩ := mj_gd h
      refine dj_iald (pc := 22) d_Md_settle_22 sh_89 (by decide) hg4 (by decide) ?_
      refine mj_istore_n (pc := 23) (i := 2) d_Md_settle_23 rfl rfl (by decide) ?_
      refine mj_aload_n (pc := 24) (i := 0) d_Md_settle_24 rfl rfl (by decide) ?_
      refine mj_getR (pc := 25) d_Md_settle_25 fl_Md_7 sh_88 rfl rfl (by decide) (by decide) (by decide) ?_
      refine mj_sipush (pc := 28) (v := 1363) d_Md_settle_28 (by decide) ?_
      refine mj_iconst (pc := 31) (v := 4) d_Md_settle_31 (by decide) ?_
      refine mj_iload_n (pc := 32) (i := 1) d_Md_settle_32 rfl rfl ?_
      refine mj_imul (pc := 33) d_Md_settle_33 ?_
      refine mj_iadd (pc := 34) d_Md_settle_34 ?_
      refine mj_iconst (pc := 35) (v := 2) d_Md_settle_35 (by decide) ?_
      refine mj_iadd (pc := 36) d_Md_settle_36 ?_
      obtain ⟨hg5, h⟩ := mj_gd h
      refine dj_iald (pc := 37) d_Md_settle_37 sh_89 (by decide) hg5 (by decide) ?_
      refine mj_istore_n (pc := 38) (i := 3) d_Md_settle_38 rfl rfl (by decide) ?_
      refine mj_aload_n (pc := 39) (i := 0) d_Md_settle_39 rfl rfl (by decide) ?_
      refine mj_iload_n (pc := 40) (i := 2) d_Md_settle_40 rfl rfl ?_
      obtain ⟨v6, hb7, h⟩ := bd1_some h
      refine mj_callV (pc := 41) (b := 88) (vs := [.int (C 89 ((1363 + (4 * y1)) + 1).toNatClampNeg)]) (st := []) d_Md_settle_41 bB_Md_settle_Md_cash lk_Md_150 iv_Md_cash rc_88 rfl (Nat.le_of_ble_eq_true rfl) (Nat.le_of_ble_eq_true rfl) (r_Md_cash hb7) ?_
      show mj_R M_Md_settle 44 [some (.ref 88), some (.int y1), some (.int (C 89 ((1363 + (4 * y1)) + 1).toNatClampNeg)), some (.int (C 89 ((1363 + (4 * y1)) + 2).toNatClampNeg))] [.int v6] (SH, jn X C) r (SH, y)
      refine mj_iload_n (pc := 44) (i := 3) d_Md_settle_44 rfl rfl ?_
      obtain ⟨C16, hb18, h⟩ := bd1_some h
      have k17 : mj_R M_Md_settle 80 [some (.ref 88), none, none, none] [] (SH, jn X C16) r (SH, y) := by
        refine mj_aload_n (pc := 80) (i := 0) d_Md_settle_80 rfl rfl (by decide) ?_
        obtain ⟨v19, hb20, h⟩ := bd1_some h
        refine mj_callV (pc := 81) (b := 88) (vs := []) (st := []) d_Md_settle_81 bB_Md_settle_Md_firstDue lk_Md_226 iv_Md_firstDue rc_88 rfl (Nat.le_of_ble_eq_true rfl) (Nat.le_of_ble_eq_true rfl) (r_Md_firstDue hb20) ?_
        show mj_R M_Md_settle 84 [some (.ref 88), none, none, none] [.int v19] (SH, jn X C16) r (SH, y)
        refine mj_istore_n (pc := 84) (i := 1) d_Md_settle_84 rfl rfl (by decide) ?_
        refine mj_goto (pc := 85) (tgt := 5) d_Md_settle_85 (by decide) ?_
        exact mj_weak [some (.ref 88), some (.int v19), none, none] (And.intro rfl (And.intro rfl trivial)) (ih _ _ _ h hX)
      have h := hb18
      refine mj_icmp_lt (pc := 45) (tgt := 75) d_Md_settle_45 (by decide) mj_hs (fun hc8 => ?_) (fun hc8 => ?_)
      · rw [if_pos hc8] at h
        refine mj_aload_n (pc := 75) (i := 0) d_Md_settle_75 rfl rfl (by decide) ?_
        refine mj_iload_n (pc := 76) (i := 2) d_Md_settle_76 rfl rfl ?_
        obtain ⟨C9, hb10, h⟩ := bd1_some h
        refine mj_callV (pc := 77) (b := 88) (vs := [.int (C 89 ((1363 + (4 * y1)) + 1).toNatClampNeg)]) (st := []) d_Md_settle_77 bB_Md_settle_Md_breaks lk_Md_229 iv_Md_breaks rc_88 rfl (Nat.le_of_ble_eq_true rfl) (Nat.le_of_ble_eq_true rfl) (r_Md_breaks hb10) ?_
        show mj_R M_Md_settle 80 [some (.ref 88), some (.int y1), some (.int (C 89 ((1363 + (4 * y1)) + 1).toNatClampNeg)), some (.int (C 89 ((1363 + (4 * y1)) + 2).toNatClampNeg))] [] (SH, jn X C9) r (SH, y)
        obtain e_1 := inj1 h
        subst e_1
        exact mj_wk k17 (And.intro rfl trivial)
      · rw [if_neg hc8] at h
        refine mj_aload_n (pc := 48) (i := 0) d_Md_settle_48 rfl rfl (by decide) ?_
        refine mj_iload_n (pc := 49) (i := 2) d_Md_settle_49 rfl rfl ?_
        refine mj_aload_n (pc := 50) (i := 0) d_Md_settle_50 rfl rfl (by decide) ?_
        refine mj_getR (pc := 51) d_Md_settle_51 fl_Md_7 sh_88 rfl rfl (by decide) (by decide) (by decide) ?_
        refine mj_sipush (pc := 54) (v := 1363) d_Md_settle_54 (by decide) ?_
        refine mj_iconst (pc := 57) (v := 4) d_Md_settle_57 (by decide) ?_
        refine mj_iload_n (pc := 58) (i := 1) d_Md_settle_58 rfl rfl ?_
        refine mj_imul (pc := 59) d_Md_settle_59 ?_
        refine mj_iadd (pc := 60) d_Md_settle_60 ?_
        obtain ⟨hg11, h⟩ := mj_gd h
        refine dj_iald (pc := 61) d_Md_settle_61 sh_89 (by decide) hg11 (by decide) ?_
        refine mj_iload_n (pc := 62) (i := 3) d_Md_settle_62 rfl rfl ?_
        refine mj_iconst (pc := 63) (v := 4) d_Md_settle_63 (by decide) ?_
        obtain ⟨C12, hb13, h⟩ := bd1_some h
        refine mj_callV (pc := 64) (b := 88) (vs := [.int (C 89 ((1363 + (4 * y1)) + 1).toNatClampNeg), .int (C 89 (1363 + (4 * y1)).toNatClampNeg), .int (C 89 ((1363 + (4 * y1)) + 2).toNatClampNeg), .int 4]) (st := []) d_Md_settle_64 bB_Md_settle_Md_pays lk_Md_176 iv_Md_pays rc_88 rfl (Nat.le_of_ble_eq_true rfl) (Nat.le_of_ble_eq_true rfl) (r_Md_pays hb13) ?_
        show mj_R M_Md_settle 67 [some (.ref 88), some (.int y1), some (.int (C 89 ((1363 + (4 * y1)) + 1).toNatClampNeg)), some (.int (C 89 ((1363 + (4 * y1)) + 2).toNatClampNeg))] [] (SH, jn X C12) r (SH, y)
        refine mj_aload_n (pc := 67) (i := 0) d_Md_settle_67 rfl rfl (by decide) ?_
        refine mj_iload_n (pc := 68) (i := 1) d_Md_settle_68 rfl rfl ?_
        obtain ⟨C14, hb15, h⟩ := bd1_some h
        refine mj_callV (pc := 69) (b := 88) (vs := [.int y1]) (st := []) d_Md_settle_69 bB_Md_settle_Md_closeLoan lk_Md_223 iv_Md_closeLoan rc_88 rfl (Nat.le_of_ble_eq_true rfl) (Nat.le_of_ble_eq_true rfl) (r_Md_closeLoan hb15) ?_
        show mj_R M_Md_settle 72 [some (.ref 88), some (.int y1), some (.int (C 89 ((1363 + (4 * y1)) + 1).toNatClampNeg)), some (.int (C 89 ((1363 + (4 * y1)) + 2).toNatClampNeg))] [] (SH, jn X C14) r (SH, y)
        refine mj_goto (pc := 72) (tgt := 80) d_Md_settle_72 (by decide) ?_
        obtain e_1 := inj1 h
        subst e_1
        exact mj_wk k17 (And.intro rfl trivial)
set_option maxRecDepth 20000 in
theorem r_Md_settle  {C C0 : St} {C' : St} (h : f_Md_settle C0 = some (C')) : mj_R M_Md_settle 0 (mj_lv M_Md_settle.2.2.1 [.ref 88]) [] (SH, jn C C0) none (SH, jn C (C')) := by
  show mj_R M_Md_settle 0 [some (.ref 88), none, none, none] [] _ _ _
  unfold f_Md_settle at h
  refine mj_aload_n (pc := 0) (i := 0) d_Md_settle_0 rfl rfl (by decide) ?_
  obtain ⟨v1, hb2, h⟩ := bd1_some h
  refine mj_callV (pc := 1) (b := 88) (vs := []) (st := []) d_Md_settle_1 bB_Md_settle_Md_firstDue lk_Md_226 iv_Md_firstDue rc_88 rfl (Nat.le_of_ble_eq_true rfl) (Nat.le_of_ble_eq_true rfl) (r_Md_firstDue hb2) ?_
  show mj_R M_Md_settle 4 [some (.ref 88), none, none, none] [.int v1] (SH, jn C C0) none (SH, jn C (C'))
  refine mj_istore_n (pc := 4) (i := 1) d_Md_settle_4 rfl rfl (by decide) ?_
  obtain ⟨C21, hl22, h⟩ := bd1_some h
  refine mj_weak [some (.ref 88), some (.int v1), none, none] (And.intro rfl (And.intro rfl trivial)) (l_Md_settle_5 3000 _ _ _ hl22 ?_)
  obtain e_1 := inj1 h
  subst e_1
  exact mj_vret (pc := 88) d_Md_settle_88 rfl
set_option maxRecDepth 20000 in
theorem l_Md_age_30 {r : Option Value} {X y : St} : ∀ (n : Nat) (y1 : Int32) (y2 : Int32) (y3 : Int32) (C : St) (Q_ : St), L_Md_age_30 n y1 y2 y3 C = some Q_ → mj_R M_Md_age 64 [some (.ref 88), some (.int y1), some (.int y2), none, none] [] (SH, jn X Q_) r (SH, y) → mj_R M_Md_age 30 [some (.ref 88), some (.int y1), some (.int y2), some (.int y3), none] [] (SH, jn X C) r (SH, y) := by
  intro n
  induction n with
  | zero => intro y1 y2 y3 C Q_ h; cases h
  | succ n ih =>
    intro y1 y2 y3 C Q_ h hX
    unfold L_Md_age_30 at h
    refine mj_iload_n (pc := 30) (i := 3) d_Md_age_30 rfl rfl ?_
    refine mj_if_le (y := 0) (pc := 31) (tgt := 64) d_Md_age_31 (by decide) mj_hs (fun hc7 => ?_) (fun hc7 => ?_)
    · rw [if_pos hc7] at h
      obtain e_1 := inj1 h
      subst e_1
      exact mj_wk hX (And.intro rfl (And.intro rfl (And.intro rfl trivial)))
    · rw [if_neg hc7] at h
      refine mj_aload_n (pc := 34) (i := 0) d_Md_age_34 rfl rfl (by decide) ?_
      refine mj_getR (pc := 35) d_Md_age_35 fl_Md_7 sh_88 rfl rfl (by decide) (by decide) (by decide) ?_
      refine mj_iload_n (pc := 38) (i := 1) d_Md_age_38 rfl rfl ?_
      refine mj_iload_n (pc := 39) (i := 2) d_Md_age_39 rfl rfl ?_
      refine mj_iload_n (pc := 40) (i := 3) d_Md_age_40 rfl rfl ?_
      obtain ⟨v8, hb9, h⟩ := bd1_some h
      refine mj_callS (pc := 41) (vs := [.int y1, .int y2, .int y3]) (st := [.ref 89]) d_Md_age_41 bB_Md_age_Md_ageAt lk_Md_57 st_Md_ageAt rfl (Nat.le_of_ble_eq_true rfl) (Nat.le_of_ble_eq_true rfl) (r_Md_ageAt hb9) ?_
      show mj_R M_Md_age 44 [some (.ref 88), some (.int y1), some (.int y2), some (.int y3), none] [.int v8, .ref 89] (SH, jn X C) r (SH, y)
      refine mj_aload_n (pc := 44) (i := 0) d_Md_age_44 rfl rfl (by decide) ?_
      refine mj_getR (pc := 45) d_Md_age_45 fl_Md_7 sh_88 rfl rfl (by decide) (by decide) (by decide) ?_
      refine mj_iload_n (pc := 48) (i := 1) d_Md_age_48 rfl rfl ?_
      refine mj_iload_n (pc := 49) (i := 2) d_Md_age_49 rfl rfl ?_
      refine mj_iload_n (pc := 50) (i := 3) d_Md_age_50 rfl rfl ?_
      refine mj_iconst (pc := 51) (v := 1) d_Md_age_51 (by decide) ?_
      refine mj_isub (pc := 52) d_Md_age_52 ?_
      obtain ⟨v10, hb11, h⟩ := bd1_some h
      refine mj_callS (pc := 53) (vs := [.int y1, .int y2, .int (y3 - 1)]) (st := [.ref 89, .int v8, .ref 89]) d_Md_age_53 bB_Md_age_Md_ageAt lk_Md_57 st_Md_ageAt rfl (Nat.le_of_ble_eq_true rfl) (Nat.le_of_ble_eq_true rfl) (r_Md_ageAt hb11) ?_
      show mj_R M_Md_age 56 [some (.ref 88), some (.int y1), some (.int y2), some (.int y3), none] [.int v10, .ref 89, .int v8, .ref 89] (SH, jn X C) r (SH, y)
      obtain ⟨hg12, h⟩ := mj_gd h
      refine dj_iald (pc := 56) d_Md_age_56 sh_89 (by decide) hg12 (by decide) ?_
      obtain ⟨hg13, h⟩ := mj_gd h
      refine dj_iast (pc := 57) d_Md_age_57 sh_89 (by decide) hg13 (by decide) ?_
      refine mj_iinc (pc := 58) (i := 3) (v := y3 + (-1)) d_Md_age_58 rfl (by rfl) rfl (by decide) ?_
      refine mj_goto (pc := 61) (tgt := 30) d_Md_age_61 (by decide) ?_
      exact mj_weak [some (.ref 88), some (.int y1), some (.int y2), some (.int (y3 + (-1))), none] (And.intro rfl (And.intro rfl (And.intro rfl (And.intro rfl trivial)))) (ih _ _ _ _ _ h hX)
set_option maxRecDepth 20000 in
theorem l_Md_age_86 {r : Option Value} {X y : St} : ∀ (n : Nat) (y1 : Int32) (y2 : Int32) (y3 : Int32) (y4 : Int32) (C : St) (Q_ : St), L_Md_age_86 n y1 y2 y3 y4 C = some Q_ → mj_R M_Md_age 135 [none, none, none, none, none] [] (SH, jn X Q_) r (SH, y) → mj_R M_Md_age 86 [some (.ref 88), some (.int y1), some (.int y2), some (.int y3), some (.int y4)] [] (SH, jn X C) r (SH, y) := by
  intro n
  induction n with
  | zero => intro y1 y2 y3 y4 C Q_ h; cases h
  | succ n ih =>
    intro y1 y2 y3 y4 C Q_ h hX
    unfold L_Md_age_86 at h
    refine mj_iload (pc := 86) (i := 4) d_Md_age_86 rfl ?_
    refine mj_bipush (pc := 88) (v := 10) d_Md_age_88 (by decide) ?_
    refine mj_icmp_ge (pc := 90) (tgt := 135) d_Md_age_90 (by decide) mj_hs (fun hc21 => ?_) (fun hc21 => ?_)
    · rw [if_pos hc21] at h
      obtain e_1 := inj1 h
      subst e_1
      exact mj_wk hX trivial
    · rw [if_neg hc21] at h
      refine mj_iload_n (pc := 93) (i := 3) d_Md_age_93 rfl rfl ?_
      refine mj_if_le (y := 0) (pc := 94) (tgt := 135) d_Md_age_94 (by decide) mj_hs (fun hc22 => ?_) (fun hc22 => ?_)
      · rw [if_pos hc22] at h
        obtain e_1 := inj1 h
        subst e_1
        exact mj_wk hX trivial
      · rw [if_neg hc22] at h
        refine mj_aload_n (pc := 97) (i := 0) d_Md_age_97 rfl rfl (by decide) ?_
        refine mj_iload_n (pc := 98) (i := 2) d_Md_age_98 rfl rfl ?_
        refine mj_bipush (pc := 99) (v := 6) d_Md_age_99 (by decide) ?_
        refine mj_aload_n (pc := 101) (i := 0) d_Md_age_101 rfl rfl (by decide) ?_
        refine mj_getR (pc := 102) d_Md_age_102 fl_Md_7 sh_88 rfl rfl (by decide) (by decide) (by decide) ?_
        refine mj_iload_n (pc := 105) (i := 1) d_Md_age_105 rfl rfl ?_
        refine mj_iload_n (pc := 106) (i := 2) d_Md_age_106 rfl rfl ?_
        refine mj_iload (pc := 107) (i := 4) d_Md_age_107 rfl ?_
        obtain ⟨v23, hb24, h⟩ := bd1_some h
        refine mj_callS (pc := 109) (vs := [.int y1, .int y2, .int y4]) (st := [.ref 89, .int 6, .int y2, .ref 88]) d_Md_age_109 bB_Md_age_Md_ageAt lk_Md_57 st_Md_ageAt rfl (Nat.le_of_ble_eq_true rfl) (Nat.le_of_ble_eq_true rfl) (r_Md_ageAt hb24) ?_
        show mj_R M_Md_age 112 [some (.ref 88), some (.int y1), some (.int y2), some (.int y3), some (.int y4)] [.int v23, .ref 89, .int 6, .int y2, .ref 88] (SH, jn X C) r (SH, y)
        obtain ⟨hg25, h⟩ := mj_gd h
        refine dj_iald (pc := 112) d_Md_age_112 sh_89 (by decide) hg25 (by decide) ?_
        obtain ⟨C26, hb27, h⟩ := bd1_some h
        refine mj_callV (pc := 113) (b := 88) (vs := [.int y2, .int 6, .int (C 89 v23.toNatClampNeg)]) (st := []) d_Md_age_113 bB_Md_age_Md_addGood lk_Md_169 iv_Md_addGood rc_88 rfl (Nat.le_of_ble_eq_true rfl) (Nat.le_of_ble_eq_true rfl) (r_Md_addGood hb27) ?_
        show mj_R M_Md_age 116 [some (.ref 88), some (.int y1), some (.int y2), some (.int y3), some (.int y4)] [] (SH, jn X C26) r (SH, y)
        refine mj_aload_n (pc := 116) (i := 0) d_Md_age_116 rfl rfl (by decide) ?_
        refine mj_getR (pc := 117) d_Md_age_117 fl_Md_7 sh_88 rfl rfl (by decide) (by decide) (by decide) ?_
        refine mj_iload_n (pc := 120) (i := 1) d_Md_age_120 rfl rfl ?_
        refine mj_iload_n (pc := 121) (i := 2) d_Md_age_121 rfl rfl ?_
        refine mj_iload (pc := 122) (i := 4) d_Md_age_122 rfl ?_
        obtain ⟨v28, hb29, h⟩ := bd1_some h
        refine mj_callS (pc := 124) (vs := [.int y1, .int y2, .int y4]) (st := [.ref 89]) d_Md_age_124 bB_Md_age_Md_ageAt lk_Md_57 st_Md_ageAt rfl (Nat.le_of_ble_eq_true rfl) (Nat.le_of_ble_eq_true rfl) (r_Md_ageAt hb29) ?_
        show mj_R M_Md_age 127 [some (.ref 88), some (.int y1), some (.int y2), some (.int y3), some (.int y4)] [.int v28, .ref 89] (SH, jn X C26) r (SH, y)
        refine mj_iconst (pc := 127) (v := 0) d_Md_age_127 (by decide) ?_
        obtain ⟨hg30, h⟩ := mj_gd h
        refine dj_iast (pc := 128) d_Md_age_128 sh_89 (by decide) hg30 (by decide) ?_
        refine mj_iinc (pc := 129) (i := 4) (v := y4 + 1) d_Md_age_129 rfl (by rfl) rfl (by decide) ?_
        refine mj_goto (pc := 132) (tgt := 86) d_Md_age_132 (by decide) ?_
        exact mj_weak [some (.ref 88), some (.int y1), some (.int y2), some (.int y3), some (.int (y4 + 1))] (And.intro rfl (And.intro rfl (And.intro rfl (And.intro rfl (And.intro rfl trivial))))) (ih _ _ _ _ _ _ h hX)
set_option maxRecDepth 20000 in
theorem r_Md_age {x1 : Int32} {x2 : Int32} {C C0 : St} {C' : St} (h : f_Md_age x1 x2 C0 = some (C')) : mj_R M_Md_age 0 (mj_lv M_Md_age.2.2.1 [.ref 88, .int x1, .int x2]) [] (SH, jn C C0) none (SH, jn C (C')) := by
  show mj_R M_Md_age 0 [some (.ref 88), some (.int x1), some (.int x2), none, none] [] _ _ _
  unfold f_Md_age at h
  refine mj_aload_n (pc := 0) (i := 0) d_Md_age_0 rfl rfl (by decide) ?_
  refine mj_getR (pc := 1) d_Md_age_1 fl_Md_7 sh_88 rfl rfl (by decide) (by decide) (by decide) ?_
  refine mj_iload_n (pc := 4) (i := 1) d_Md_age_4 rfl rfl ?_
  refine mj_iload_n (pc := 5) (i := 2) d_Md_age_5 rfl rfl ?_
  refine mj_bipush (pc := 6) (v := 9) d_Md_age_6 (by decide) ?_
  obtain ⟨v1, hb2, h⟩ := bd1_some h
  refine mj_callS (pc := 8) (vs := [.int x1, .int x2, .int 9]) (st := [.ref 89]) d_Md_age_8 bB_Md_age_Md_ageAt lk_Md_57 st_Md_ageAt rfl (Nat.le_of_ble_eq_true rfl) (Nat.le_of_ble_eq_true rfl) (r_Md_ageAt hb2) ?_
  show mj_R M_Md_age 11 [some (.ref 88), some (.int x1), some (.int x2), none, none] [.int v1, .ref 89] (SH, jn C C0) none (SH, jn C (C'))
  refine mj_dup2 (pc := 11) d_Md_age_11 rfl rfl ?_
  obtain ⟨hg3, h⟩ := mj_gd h
  refine dj_iald (pc := 12) d_Md_age_12 sh_89 (by decide) hg3 (by decide) ?_
  refine mj_aload_n (pc := 13) (i := 0) d_Md_age_13 rfl rfl (by decide) ?_
  refine mj_getR (pc := 14) d_Md_age_14 fl_Md_7 sh_88 rfl rfl (by decide) (by decide) (by decide) ?_
  refine mj_iload_n (pc := 17) (i := 1) d_Md_age_17 rfl rfl ?_
  refine mj_iload_n (pc := 18) (i := 2) d_Md_age_18 rfl rfl ?_
  refine mj_bipush (pc := 19) (v := 8) d_Md_age_19 (by decide) ?_
  obtain ⟨v4, hb5, h⟩ := bd1_some h
  refine mj_callS (pc := 21) (vs := [.int x1, .int x2, .int 8]) (st := [.ref 89, .int (C0 89 v1.toNatClampNeg), .int v1, .ref 89]) d_Md_age_21 bB_Md_age_Md_ageAt lk_Md_57 st_Md_ageAt rfl (Nat.le_of_ble_eq_true rfl) (Nat.le_of_ble_eq_true rfl) (r_Md_ageAt hb5) ?_
  show mj_R M_Md_age 24 [some (.ref 88), some (.int x1), some (.int x2), none, none] [.int v4, .ref 89, .int (C0 89 v1.toNatClampNeg), .int v1, .ref 89] (SH, jn C C0) none (SH, jn C (C'))
  obtain ⟨hg6, h⟩ := mj_gd h
  refine dj_iald (pc := 24) d_Md_age_24 sh_89 (by decide) hg6 (by decide) ?_
  refine mj_iadd (pc := 25) d_Md_age_25 ?_
  refine dj_iast (pc := 26) d_Md_age_26 sh_89 (by decide) hg3 (by decide) ?_
  refine mj_bipush (pc := 27) (v := 8) d_Md_age_27 (by decide) ?_
  refine mj_istore_n (pc := 29) (i := 3) d_Md_age_29 rfl rfl (by decide) ?_
  obtain ⟨C14, hl15, h⟩ := bd1_some h
  refine mj_weak [some (.ref 88), some (.int x1), some (.int x2), some (.int 8), none] (And.intro rfl (And.intro rfl (And.intro rfl (And.intro rfl trivial)))) (l_Md_age_30 3000 _ _ _ _ _ hl15 ?_)
  refine mj_aload_n (pc := 64) (i := 0) d_Md_age_64 rfl rfl (by decide) ?_
  refine mj_getR (pc := 65) d_Md_age_65 fl_Md_7 sh_88 rfl rfl (by decide) (by decide) (by decide) ?_
  refine mj_iload_n (pc := 68) (i := 1) d_Md_age_68 rfl rfl ?_
  refine mj_iload_n (pc := 69) (i := 2) d_Md_age_69 rfl rfl ?_
  refine mj_iconst (pc := 70) (v := 0) d_Md_age_70 (by decide) ?_
  obtain ⟨v16, hb17, h⟩ := bd1_some h
  refine mj_callS (pc := 71) (vs := [.int x1, .int x2, .int 0]) (st := [.ref 89]) d_Md_age_71 bB_Md_age_Md_ageAt lk_Md_57 st_Md_ageAt rfl (Nat.le_of_ble_eq_true rfl) (Nat.le_of_ble_eq_true rfl) (r_Md_ageAt hb17) ?_
  show mj_R M_Md_age 74 [some (.ref 88), some (.int x1), some (.int x2), none, none] [.int v16, .ref 89] (SH, jn C C14) none (SH, jn C (C'))
  refine mj_iconst (pc := 74) (v := 0) d_Md_age_74 (by decide) ?_
  obtain ⟨hg18, h⟩ := mj_gd h
  refine dj_iast (pc := 75) d_Md_age_75 sh_89 (by decide) hg18 (by decide) ?_
  refine mj_aload_n (pc := 76) (i := 0) d_Md_age_76 rfl rfl (by decide) ?_
  refine mj_iload_n (pc := 77) (i := 2) d_Md_age_77 rfl rfl ?_
  refine mj_iconst (pc := 78) (v := 0) d_Md_age_78 (by decide) ?_
  obtain ⟨v19, hb20, h⟩ := bd1_some h
  refine mj_callV (pc := 79) (b := 88) (vs := [.int x2, .int 0]) (st := []) d_Md_age_79 bB_Md_age_Md_goodIs lk_Md_153 iv_Md_goodIs rc_88 rfl (Nat.le_of_ble_eq_true rfl) (Nat.le_of_ble_eq_true rfl) (r_Md_goodIs hb20) ?_
  show mj_R M_Md_age 82 [some (.ref 88), some (.int x1), some (.int x2), none, none] [.int v19] (SH, jn C (mj_wr C14 89 (v16.toNatClampNeg) 0)) none (SH, jn C (C'))
  refine mj_istore_n (pc := 82) (i := 3) d_Md_age_82 rfl rfl (by decide) ?_
  refine mj_iload_n (pc := 83) (i := 3) d_Md_age_83 rfl rfl ?_
  refine mj_istore (pc := 84) (i := 4) d_Md_age_84 rfl (by decide) ?_
  obtain ⟨C31, hl32, h⟩ := bd1_some h
  refine mj_weak [some (.ref 88), some (.int x1), some (.int x2), some (.int v19), some (.int v19)] (And.intro rfl (And.intro rfl (And.intro rfl (And.intro rfl (And.intro rfl trivial))))) (l_Md_age_86 3000 _ _ _ _ _ _ hl32 ?_)
  obtain e_1 := inj1 h
  subst e_1
  exact mj_vret (pc := 135) d_Md_age_135 rfl
