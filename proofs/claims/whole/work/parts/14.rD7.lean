set_option maxRecDepth 20000 in
theorem l_Md_save_14 {r : Option Value} {X y : St} : ∀ (n : Nat) (y1 : Int32) (y2 : Int32) (C : St) (Q_ : St), L_Md_save_14 n y1 y2 C = some Q_ → mj_R M_Md_save 45 [some (.ref 88), some (.int y1), none] [] (SH, jn X Q_) r (SH, y) → mj_R M_Md_save 14 [some (.ref 88), some (.int y1), some (.int y2)] [] (SH, jn X C) r (SH, y) := by
  intro n
  induction n with
  | zero => intro y1 y2 C Q_ h; cases h
  | succ n ih =>
    intro y1 y2 C Q_ h hX
    unfold L_Md_save_14 at h
    refine mj_iload_n (pc := 14) (i := 2) d_Md_save_14 rfl rfl ?_
    refine mj_sipush (pc := 15) (v := 2200) d_Md_save_15 (by decide) ?_
    refine mj_icmp_ge (pc := 18) (tgt := 45) d_Md_save_18 (by decide) mj_hs (fun hc4 => ?_) (fun hc4 => ?_)
    · rw [if_pos hc4] at h
      obtain e_1 := inj1 h
      subst e_1
      exact mj_wk hX (And.intro rfl (And.intro rfl trivial))
    · rw [if_neg hc4] at h
      refine mj_aload_n (pc := 21) (i := 0) d_Md_save_21 rfl rfl (by decide) ?_
      refine mj_getR (pc := 22) d_Md_save_22 fl_Md_13 sh_88 rfl rfl (by decide) (by decide) (by decide) ?_
      refine mj_sipush (pc := 25) (v := 2200) d_Md_save_25 (by decide) ?_
      refine mj_iload_n (pc := 28) (i := 1) d_Md_save_28 rfl rfl ?_
      refine mj_imul (pc := 29) d_Md_save_29 ?_
      refine mj_iload_n (pc := 30) (i := 2) d_Md_save_30 rfl rfl ?_
      refine mj_iadd (pc := 31) d_Md_save_31 ?_
      refine mj_aload_n (pc := 32) (i := 0) d_Md_save_32 rfl rfl (by decide) ?_
      refine mj_getR (pc := 33) d_Md_save_33 fl_Md_7 sh_88 rfl rfl (by decide) (by decide) (by decide) ?_
      refine mj_iload_n (pc := 36) (i := 2) d_Md_save_36 rfl rfl ?_
      obtain ⟨hg5, h⟩ := mj_gd h
      refine dj_iald (pc := 37) d_Md_save_37 sh_89 (by decide) hg5 (by decide) ?_
      obtain ⟨hg6, h⟩ := mj_gd h
      refine dj_iast (pc := 38) d_Md_save_38 sh_90 (by decide) hg6 (by decide) ?_
      refine mj_iinc (pc := 39) (i := 2) (v := y2 + 1) d_Md_save_39 rfl (by rfl) rfl (by decide) ?_
      refine mj_goto (pc := 42) (tgt := 14) d_Md_save_42 (by decide) ?_
      exact mj_weak [some (.ref 88), some (.int y1), some (.int (y2 + 1))] (And.intro rfl (And.intro rfl (And.intro rfl trivial))) (ih _ _ _ _ h hX)
set_option maxRecDepth 20000 in
theorem r_Md_save {x1 : Int32} {C C0 : St} {v : Int32} {C' : St} (h : f_Md_save x1 C0 = some (v, C')) : mj_R M_Md_save 0 (mj_lv M_Md_save.2.2.1 [.ref 88, .int x1]) [] (SH, jn C C0) (some (.int v)) (SH, jn C (C')) := by
  show mj_R M_Md_save 0 [some (.ref 88), some (.int x1), none] [] _ _ _
  unfold f_Md_save at h
  refine mj_iload_n (pc := 0) (i := 1) d_Md_save_0 rfl rfl ?_
  refine mj_iconst (pc := 1) (v := 0) d_Md_save_1 (by decide) ?_
  refine mj_iconst (pc := 2) (v := 2) d_Md_save_2 (by decide) ?_
  obtain ⟨v1, hb2, h⟩ := bd1_some h
  refine mj_callS (pc := 3) (vs := [.int x1, .int 0, .int 2]) (st := []) d_Md_save_3 bB_Md_save_Md_isIn lk_Md_53 st_Md_isIn rfl (Nat.le_of_ble_eq_true rfl) (Nat.le_of_ble_eq_true rfl) (r_Md_isIn hb2) ?_
  show mj_R M_Md_save 6 [some (.ref 88), some (.int x1), none] [.int v1] (SH, jn C C0) (some (.int v)) (SH, jn C (C'))
  refine mj_if_ne (y := 0) (pc := 6) (tgt := 12) d_Md_save_6 (by decide) mj_hs (fun hc3 => ?_) (fun hc3 => ?_)
  · rw [if_neg hc3] at h
    refine mj_iconst (pc := 12) (v := 0) d_Md_save_12 (by decide) ?_
    refine mj_istore_n (pc := 13) (i := 2) d_Md_save_13 rfl rfl (by decide) ?_
    obtain ⟨C7, hl8, h⟩ := bd1_some h
    refine mj_weak [some (.ref 88), some (.int x1), some (.int 0)] (And.intro rfl (And.intro rfl (And.intro rfl trivial))) (l_Md_save_14 3000 _ _ _ _ hl8 ?_)
    refine mj_aload_n (pc := 45) (i := 0) d_Md_save_45 rfl rfl (by decide) ?_
    refine mj_getR (pc := 46) d_Md_save_46 fl_Md_16 sh_88 rfl rfl (by decide) (by decide) (by decide) ?_
    refine mj_iload_n (pc := 49) (i := 1) d_Md_save_49 rfl rfl ?_
    refine mj_iconst (pc := 50) (v := 1) d_Md_save_50 (by decide) ?_
    obtain ⟨hg9, h⟩ := mj_gd h
    refine dj_zast (pc := 51) d_Md_save_51 sh_91 (by decide) hg9 (by decide) ?_
    refine mj_aload_n (pc := 52) (i := 0) d_Md_save_52 rfl rfl (by decide) ?_
    refine mj_getR (pc := 53) d_Md_save_53 fl_Md_7 sh_88 rfl rfl (by decide) (by decide) (by decide) ?_
    refine mj_sipush (pc := 56) (v := 2164) d_Md_save_56 (by decide) ?_
    refine dj_iald (pc := 59) d_Md_save_59 sh_89 (by decide) (by decide) (by decide) ?_
    show mj_R M_Md_save 60 [some (.ref 88), some (.int x1), none] [.int (mj_wr C7 91 (x1.toNatClampNeg) (vp_nar .boolean 1) 89 2164)] (SH, jn C (mj_wr C7 91 (x1.toNatClampNeg) (vp_nar .boolean 1))) (some (.int v)) (SH, jn C (C'))
    obtain ⟨e_1, e_2⟩ := inj2 h
    subst e_1
    subst e_2
    exact mj_iret (pc := 60) d_Md_save_60 rfl
  · rw [if_pos hc3] at h
    refine mj_ldc (pc := 9) (v := -1000000001) d_Md_save_9 k_Md_66 ?_
    obtain ⟨e_1, e_2⟩ := inj2 h
    subst e_1
    subst e_2
    exact mj_iret (pc := 11) d_Md_save_11 rfl
set_option maxRecDepth 20000 in
theorem l_Md_load_26 {r : Option Value} {X y : St} : ∀ (n : Nat) (y1 : Int32) (y2 : Int32) (C : St) (Q_ : St), L_Md_load_26 n y1 y2 C = some Q_ → mj_R M_Md_load 57 [some (.ref 88), none, none] [] (SH, jn X Q_) r (SH, y) → mj_R M_Md_load 26 [some (.ref 88), some (.int y1), some (.int y2)] [] (SH, jn X C) r (SH, y) := by
  intro n
  induction n with
  | zero => intro y1 y2 C Q_ h; cases h
  | succ n ih =>
    intro y1 y2 C Q_ h hX
    unfold L_Md_load_26 at h
    refine mj_iload_n (pc := 26) (i := 2) d_Md_load_26 rfl rfl ?_
    refine mj_sipush (pc := 27) (v := 2200) d_Md_load_27 (by decide) ?_
    refine mj_icmp_ge (pc := 30) (tgt := 57) d_Md_load_30 (by decide) mj_hs (fun hc6 => ?_) (fun hc6 => ?_)
    · rw [if_pos hc6] at h
      obtain e_1 := inj1 h
      subst e_1
      exact mj_wk hX (And.intro rfl trivial)
    · rw [if_neg hc6] at h
      refine mj_aload_n (pc := 33) (i := 0) d_Md_load_33 rfl rfl (by decide) ?_
      refine mj_getR (pc := 34) d_Md_load_34 fl_Md_7 sh_88 rfl rfl (by decide) (by decide) (by decide) ?_
      refine mj_iload_n (pc := 37) (i := 2) d_Md_load_37 rfl rfl ?_
      refine mj_aload_n (pc := 38) (i := 0) d_Md_load_38 rfl rfl (by decide) ?_
      refine mj_getR (pc := 39) d_Md_load_39 fl_Md_13 sh_88 rfl rfl (by decide) (by decide) (by decide) ?_
      refine mj_sipush (pc := 42) (v := 2200) d_Md_load_42 (by decide) ?_
      refine mj_iload_n (pc := 45) (i := 1) d_Md_load_45 rfl rfl ?_
      refine mj_imul (pc := 46) d_Md_load_46 ?_
      refine mj_iload_n (pc := 47) (i := 2) d_Md_load_47 rfl rfl ?_
      refine mj_iadd (pc := 48) d_Md_load_48 ?_
      obtain ⟨hg7, h⟩ := mj_gd h
      refine dj_iald (pc := 49) d_Md_load_49 sh_90 (by decide) hg7 (by decide) ?_
      obtain ⟨hg8, h⟩ := mj_gd h
      refine dj_iast (pc := 50) d_Md_load_50 sh_89 (by decide) hg8 (by decide) ?_
      refine mj_iinc (pc := 51) (i := 2) (v := y2 + 1) d_Md_load_51 rfl (by rfl) rfl (by decide) ?_
      refine mj_goto (pc := 54) (tgt := 26) d_Md_load_54 (by decide) ?_
      exact mj_weak [some (.ref 88), some (.int y1), some (.int (y2 + 1))] (And.intro rfl (And.intro rfl (And.intro rfl trivial))) (ih _ _ _ _ h hX)
set_option maxRecDepth 20000 in
theorem r_Md_load {x1 : Int32} {C C0 : St} {v : Int32} {C' : St} (h : f_Md_load x1 C0 = some (v, C')) : mj_R M_Md_load 0 (mj_lv M_Md_load.2.2.1 [.ref 88, .int x1]) [] (SH, jn C C0) (some (.int v)) (SH, jn C (C')) := by
  show mj_R M_Md_load 0 [some (.ref 88), some (.int x1), none] [] _ _ _
  unfold f_Md_load at h
  refine mj_iload_n (pc := 0) (i := 1) d_Md_load_0 rfl rfl ?_
  refine mj_iconst (pc := 1) (v := 0) d_Md_load_1 (by decide) ?_
  refine mj_iconst (pc := 2) (v := 2) d_Md_load_2 (by decide) ?_
  obtain ⟨v1, hb2, h⟩ := bd1_some h
  refine mj_callS (pc := 3) (vs := [.int x1, .int 0, .int 2]) (st := []) d_Md_load_3 bB_Md_load_Md_isIn lk_Md_53 st_Md_isIn rfl (Nat.le_of_ble_eq_true rfl) (Nat.le_of_ble_eq_true rfl) (r_Md_isIn hb2) ?_
  show mj_R M_Md_load 6 [some (.ref 88), some (.int x1), none] [.int v1] (SH, jn C C0) (some (.int v)) (SH, jn C (C'))
  refine mj_if_ne (y := 0) (pc := 6) (tgt := 12) d_Md_load_6 (by decide) mj_hs (fun hc3 => ?_) (fun hc3 => ?_)
  · rw [if_neg hc3] at h
    refine mj_aload_n (pc := 12) (i := 0) d_Md_load_12 rfl rfl (by decide) ?_
    refine mj_getR (pc := 13) d_Md_load_13 fl_Md_16 sh_88 rfl rfl (by decide) (by decide) (by decide) ?_
    refine mj_iload_n (pc := 16) (i := 1) d_Md_load_16 rfl rfl ?_
    obtain ⟨hg4, h⟩ := mj_gd h
    refine dj_zald (pc := 17) d_Md_load_17 sh_91 (by decide) hg4 (by decide) ?_
    refine mj_if_ne (y := 0) (pc := 18) (tgt := 24) d_Md_load_18 (by decide) mj_hs (fun hc5 => ?_) (fun hc5 => ?_)
    · rw [if_neg hc5] at h
      refine mj_iconst (pc := 24) (v := 0) d_Md_load_24 (by decide) ?_
      refine mj_istore_n (pc := 25) (i := 2) d_Md_load_25 rfl rfl (by decide) ?_
      obtain ⟨C9, hl10, h⟩ := bd1_some h
      refine mj_weak [some (.ref 88), some (.int x1), some (.int 0)] (And.intro rfl (And.intro rfl (And.intro rfl trivial))) (l_Md_load_26 3000 _ _ _ _ hl10 ?_)
      refine mj_aload_n (pc := 57) (i := 0) d_Md_load_57 rfl rfl (by decide) ?_
      refine mj_getR (pc := 58) d_Md_load_58 fl_Md_7 sh_88 rfl rfl (by decide) (by decide) (by decide) ?_
      refine mj_sipush (pc := 61) (v := 2164) d_Md_load_61 (by decide) ?_
      refine dj_iald (pc := 64) d_Md_load_64 sh_89 (by decide) (by decide) (by decide) ?_
      show mj_R M_Md_load 65 [some (.ref 88), none, none] [.int (C9 89 2164)] (SH, jn C C9) (some (.int v)) (SH, jn C (C'))
      obtain ⟨e_1, e_2⟩ := inj2 h
      subst e_1
      subst e_2
      exact mj_iret (pc := 65) d_Md_load_65 rfl
    · rw [if_pos hc5] at h
      refine mj_ldc (pc := 21) (v := -1000000002) d_Md_load_21 k_Md_132 ?_
      obtain ⟨e_1, e_2⟩ := inj2 h
      subst e_1
      subst e_2
      exact mj_iret (pc := 23) d_Md_load_23 rfl
  · rw [if_pos hc3] at h
    refine mj_ldc (pc := 9) (v := -1000000001) d_Md_load_9 k_Md_66 ?_
    obtain ⟨e_1, e_2⟩ := inj2 h
    subst e_1
    subst e_2
    exact mj_iret (pc := 11) d_Md_load_11 rfl
set_option maxRecDepth 20000 in
theorem l_Md_differs_138 {r : Option Value} {X y : St} : ∀ (n : Nat) (y1 : Int32) (y2 : Int32) (y5 : Int32) (y6 : Int32) (C : St) (o5_ : Int32), L_Md_differs_138 n y1 y2 y5 y6 C = some o5_ → mj_R M_Md_differs 192 [some (.ref 88), some (.int y1), some (.int y2), none, none, some (.int o5_), none] [] (SH, jn X C) r (SH, y) → mj_R M_Md_differs 138 [some (.ref 88), some (.int y1), some (.int y2), none, none, some (.int y5), some (.int y6)] [] (SH, jn X C) r (SH, y) := by
  intro n
  induction n with
  | zero => intro y1 y2 y5 y6 C o5_ h; cases h
  | succ n ih =>
    intro y1 y2 y5 y6 C o5_ h hX
    unfold L_Md_differs_138 at h
    refine mj_iload (pc := 138) (i := 6) d_Md_differs_138 rfl ?_
    refine mj_iload_n (pc := 140) (i := 2) d_Md_differs_140 rfl rfl ?_
    refine mj_iconst (pc := 141) (v := 1) d_Md_differs_141 (by decide) ?_
    refine mj_iadd (pc := 142) d_Md_differs_142 ?_
    refine mj_iconst (pc := 143) (v := 0) d_Md_differs_143 (by decide) ?_
    refine mj_iconst (pc := 144) (v := 0) d_Md_differs_144 (by decide) ?_
    obtain ⟨v24, hb25, h⟩ := bd1_some h
    refine mj_callS (pc := 145) (vs := [.int (y2 + 1), .int 0, .int 0]) (st := [.int y6]) d_Md_differs_145 bB_Md_differs_Md_ageAt lk_Md_57 st_Md_ageAt rfl (Nat.le_of_ble_eq_true rfl) (Nat.le_of_ble_eq_true rfl) (r_Md_ageAt hb25) ?_
    show mj_R M_Md_differs 148 [some (.ref 88), some (.int y1), some (.int y2), none, none, some (.int y5), some (.int y6)] [.int v24, .int y6] (SH, jn X C) r (SH, y)
    refine mj_icmp_ge (pc := 148) (tgt := 192) d_Md_differs_148 (by decide) mj_hs (fun hc26 => ?_) (fun hc26 => ?_)
    · rw [if_pos hc26] at h
      obtain e_1 := inj1 h
      subst e_1
      exact mj_wk hX (And.intro rfl (And.intro rfl (And.intro rfl (And.intro rfl trivial))))
    · rw [if_neg hc26] at h
      refine mj_iload (pc := 151) (i := 5) d_Md_differs_151 rfl ?_
      obtain ⟨w31, hb33, h⟩ := bd1_some h
      have k32 : mj_R M_Md_differs 184 [some (.ref 88), some (.int y1), some (.int y2), none, none, none, some (.int y6)] [.int w31] (SH, jn X C) r (SH, y) := by
        refine mj_istore (pc := 184) (i := 5) d_Md_differs_184 rfl (by decide) ?_
        refine mj_iinc (pc := 186) (i := 6) (v := y6 + 1) d_Md_differs_186 rfl (by rfl) rfl (by decide) ?_
        refine mj_goto (pc := 189) (tgt := 138) d_Md_differs_189 (by decide) ?_
        exact mj_weak [some (.ref 88), some (.int y1), some (.int y2), none, none, some (.int w31), some (.int (y6 + 1))] (And.intro rfl (And.intro rfl (And.intro rfl (And.intro rfl (And.intro rfl trivial))))) (ih _ _ _ _ _ _ h hX)
      have h := hb33
      refine mj_if_eq (y := 0) (pc := 153) (tgt := 183) d_Md_differs_153 (by decide) mj_hs (fun hc27 => ?_) (fun hc27 => ?_)
      · rw [if_pos hc27] at h
        refine mj_iconst (pc := 183) (v := 0) d_Md_differs_183 (by decide) ?_
        obtain e_1 := inj1 h
        subst e_1
        exact mj_wk k32 (And.intro rfl (And.intro rfl (And.intro rfl (And.intro rfl trivial))))
      · rw [if_neg hc27] at h
        refine mj_aload_n (pc := 156) (i := 0) d_Md_differs_156 rfl rfl (by decide) ?_
        refine mj_getR (pc := 157) d_Md_differs_157 fl_Md_7 sh_88 rfl rfl (by decide) (by decide) (by decide) ?_
        refine mj_iload (pc := 160) (i := 6) d_Md_differs_160 rfl ?_
        obtain ⟨hg28, h⟩ := mj_gd h
        refine dj_iald (pc := 162) d_Md_differs_162 sh_89 (by decide) hg28 (by decide) ?_
        refine mj_aload_n (pc := 163) (i := 0) d_Md_differs_163 rfl rfl (by decide) ?_
        refine mj_getR (pc := 164) d_Md_differs_164 fl_Md_13 sh_88 rfl rfl (by decide) (by decide) (by decide) ?_
        refine mj_sipush (pc := 167) (v := 2200) d_Md_differs_167 (by decide) ?_
        refine mj_iload_n (pc := 170) (i := 1) d_Md_differs_170 rfl rfl ?_
        refine mj_imul (pc := 171) d_Md_differs_171 ?_
        refine mj_iload (pc := 172) (i := 6) d_Md_differs_172 rfl ?_
        refine mj_iadd (pc := 174) d_Md_differs_174 ?_
        obtain ⟨hg29, h⟩ := mj_gd h
        refine dj_iald (pc := 175) d_Md_differs_175 sh_90 (by decide) hg29 (by decide) ?_
        refine mj_icmp_ne (pc := 176) (tgt := 183) d_Md_differs_176 (by decide) mj_hs (fun hc30 => ?_) (fun hc30 => ?_)
        · rw [if_neg hc30] at h
          refine mj_iconst (pc := 183) (v := 0) d_Md_differs_183 (by decide) ?_
          obtain e_1 := inj1 h
          subst e_1
          exact mj_wk k32 (And.intro rfl (And.intro rfl (And.intro rfl (And.intro rfl trivial))))
        · rw [if_pos hc30] at h
          refine mj_iconst (pc := 179) (v := 1) d_Md_differs_179 (by decide) ?_
          refine mj_goto (pc := 180) (tgt := 184) d_Md_differs_180 (by decide) ?_
          obtain e_1 := inj1 h
          subst e_1
          exact mj_wk k32 (And.intro rfl (And.intro rfl (And.intro rfl (And.intro rfl trivial))))
set_option maxRecDepth 20000 in
theorem l_Md_differs_26 {r : Option Value} {X y : St} : ∀ (n : Nat) (y1 : Int32) (y2 : Int32) (C : St) (o : (Int32) ⊕ (Unit)), L_Md_differs_26 n y1 y2 C = some o → (∀ a : Int32, o = .inl a → r = some (.int a) ∧ y = jn X C) → (∀ a : Unit, o = .inr a → mj_R M_Md_differs 205 [none, none, none, none, none, none, none] [] (SH, jn X C) r (SH, y)) → mj_R M_Md_differs 26 [some (.ref 88), some (.int y1), some (.int y2), none, none, none, none] [] (SH, jn X C) r (SH, y) := by
  intro n
  induction n with
  | zero => intro y1 y2 C o h; cases h
  | succ n ih =>
    intro y1 y2 C o h hE hX
    unfold L_Md_differs_26 at h
    refine mj_iload_n (pc := 26) (i := 2) d_Md_differs_26 rfl rfl ?_
    refine mj_bipush (pc := 27) (v := 12) d_Md_differs_27 (by decide) ?_
    refine mj_icmp_ge (pc := 29) (tgt := 205) d_Md_differs_29 (by decide) mj_hs (fun hc6 => ?_) (fun hc6 => ?_)
    · rw [if_pos hc6] at h
      obtain e_1 := inj1 h
      subst e_1
      exact mj_wk (hX _ rfl) trivial
    · rw [if_neg hc6] at h
      refine mj_iload_n (pc := 32) (i := 2) d_Md_differs_32 rfl rfl ?_
      refine mj_aload_n (pc := 33) (i := 0) d_Md_differs_33 rfl rfl (by decide) ?_
      refine mj_getR (pc := 34) d_Md_differs_34 fl_Md_7 sh_88 rfl rfl (by decide) (by decide) (by decide) ?_
      refine mj_sipush (pc := 37) (v := 2163) d_Md_differs_37 (by decide) ?_
      refine dj_iald (pc := 40) d_Md_differs_40 sh_89 (by decide) (by decide) (by decide) ?_
      show mj_R M_Md_differs 41 [some (.ref 88), some (.int y1), some (.int y2), none, none, none, none] [.int (C 89 2163), .int y2] (SH, jn X C) r (SH, y)
      have k9 : mj_R M_Md_differs 49 [some (.ref 88), some (.int y1), some (.int y2), none, none, none, none] [.int (if (C 89 2163) ≤ y2 then 0 else 1 : Int32)] (SH, jn X C) r (SH, y) := by
        refine mj_istore_n (pc := 49) (i := 3) d_Md_differs_49 rfl rfl (by decide) ?_
        refine mj_iload_n (pc := 50) (i := 2) d_Md_differs_50 rfl rfl ?_
        refine mj_aload_n (pc := 51) (i := 0) d_Md_differs_51 rfl rfl (by decide) ?_
        refine mj_getR (pc := 52) d_Md_differs_52 fl_Md_13 sh_88 rfl rfl (by decide) (by decide) (by decide) ?_
        refine mj_sipush (pc := 55) (v := 2200) d_Md_differs_55 (by decide) ?_
        refine mj_iload_n (pc := 58) (i := 1) d_Md_differs_58 rfl rfl ?_
        refine mj_imul (pc := 59) d_Md_differs_59 ?_
        refine mj_sipush (pc := 60) (v := 2163) d_Md_differs_60 (by decide) ?_
        refine mj_iadd (pc := 63) d_Md_differs_63 ?_
        obtain ⟨hg10, h⟩ := mj_gd h
        refine dj_iald (pc := 64) d_Md_differs_64 sh_90 (by decide) hg10 (by decide) ?_
        have k12 : mj_R M_Md_differs 73 [some (.ref 88), some (.int y1), some (.int y2), some (.int (if (C 89 2163) ≤ y2 then 0 else 1 : Int32)), none, none, none] [.int (if (C 90 ((2200 * y1) + 2163).toNatClampNeg) ≤ y2 then 0 else 1 : Int32)] (SH, jn X C) r (SH, y) := by
          refine mj_istore (pc := 73) (i := 4) d_Md_differs_73 rfl (by decide) ?_
          refine mj_iload_n (pc := 75) (i := 3) d_Md_differs_75 rfl rfl ?_
          refine mj_iload (pc := 76) (i := 4) d_Md_differs_76 rfl ?_
          have k14 : mj_R M_Md_differs 86 [some (.ref 88), some (.int y1), some (.int y2), some (.int (if (C 89 2163) ≤ y2 then 0 else 1 : Int32)), some (.int (if (C 90 ((2200 * y1) + 2163).toNatClampNeg) ≤ y2 then 0 else 1 : Int32)), none, none] [.int (if (if (C 89 2163) ≤ y2 then 0 else 1 : Int32) = (if (C 90 ((2200 * y1) + 2163).toNatClampNeg) ≤ y2 then 0 else 1 : Int32) then 1 else 0 : Int32)] (SH, jn X C) r (SH, y) := by
            refine mj_istore (pc := 86) (i := 5) d_Md_differs_86 rfl (by decide) ?_
            refine mj_iload_n (pc := 88) (i := 3) d_Md_differs_88 rfl rfl ?_
            obtain ⟨w38, hb40, h⟩ := bd1_some h
            have k39 : mj_R M_Md_differs 192 [some (.ref 88), some (.int y1), some (.int y2), none, none, some (.int w38), none] [] (SH, jn X C) r (SH, y) := by
              refine mj_iload (pc := 192) (i := 5) d_Md_differs_192 rfl ?_
              refine mj_if_ne (y := 0) (pc := 194) (tgt := 199) d_Md_differs_194 (by decide) mj_hs (fun hc41 => ?_) (fun hc41 => ?_)
              · rw [if_neg hc41] at h
                refine mj_iinc (pc := 199) (i := 2) (v := y2 + 1) d_Md_differs_199 rfl (by rfl) rfl (by decide) ?_
                refine mj_goto (pc := 202) (tgt := 26) d_Md_differs_202 (by decide) ?_
                exact mj_weak [some (.ref 88), some (.int y1), some (.int (y2 + 1)), none, none, none, none] (And.intro rfl (And.intro rfl (And.intro rfl trivial))) (ih _ _ _ _ h hE hX)
              · rw [if_pos hc41] at h
                refine mj_iload_n (pc := 197) (i := 2) d_Md_differs_197 rfl rfl ?_
                obtain e_1 := inj1 h
                subst e_1
                obtain ⟨e1, e2⟩ := hE _ rfl
                subst e1
                subst e2
                exact mj_iret (pc := 198) d_Md_differs_198 rfl
            have h := hb40
            refine mj_if_eq (y := 0) (pc := 89) (tgt := 192) d_Md_differs_89 (by decide) mj_hs (fun hc15 => ?_) (fun hc15 => ?_)
            · rw [if_pos hc15] at h
              obtain e_1 := inj1 h
              subst e_1
              exact mj_wk k39 (And.intro rfl (And.intro rfl (And.intro rfl (And.intro rfl trivial))))
            · rw [if_neg hc15] at h
              refine mj_iload (pc := 92) (i := 4) d_Md_differs_92 rfl ?_
              refine mj_if_eq (y := 0) (pc := 94) (tgt := 192) d_Md_differs_94 (by decide) mj_hs (fun hc16 => ?_) (fun hc16 => ?_)
              · rw [if_pos hc16] at h
                obtain e_1 := inj1 h
                subst e_1
                exact mj_wk k39 (And.intro rfl (And.intro rfl (And.intro rfl (And.intro rfl trivial))))
              · rw [if_neg hc16] at h
                refine mj_aload_n (pc := 97) (i := 0) d_Md_differs_97 rfl rfl (by decide) ?_
                refine mj_iload_n (pc := 98) (i := 2) d_Md_differs_98 rfl rfl ?_
                obtain ⟨v17, hb18, h⟩ := bd1_some h
                refine mj_callV (pc := 99) (b := 88) (vs := [.int y2]) (st := []) d_Md_differs_99 bB_Md_differs_Md_cash lk_Md_150 iv_Md_cash rc_88 rfl (Nat.le_of_ble_eq_true rfl) (Nat.le_of_ble_eq_true rfl) (r_Md_cash hb18) ?_
                show mj_R M_Md_differs 102 [some (.ref 88), some (.int y1), some (.int y2), some (.int (if (C 89 2163) ≤ y2 then 0 else 1 : Int32)), some (.int (if (C 90 ((2200 * y1) + 2163).toNatClampNeg) ≤ y2 then 0 else 1 : Int32)), some (.int (if (if (C 89 2163) ≤ y2 then 0 else 1 : Int32) = (if (C 90 ((2200 * y1) + 2163).toNatClampNeg) ≤ y2 then 0 else 1 : Int32) then 1 else 0 : Int32)), none] [.int v17] (SH, jn X C) r (SH, y)
                refine mj_aload_n (pc := 102) (i := 0) d_Md_differs_102 rfl rfl (by decide) ?_
                refine mj_getR (pc := 103) d_Md_differs_103 fl_Md_13 sh_88 rfl rfl (by decide) (by decide) (by decide) ?_
                refine mj_sipush (pc := 106) (v := 2200) d_Md_differs_106 (by decide) ?_
                refine mj_iload_n (pc := 109) (i := 1) d_Md_differs_109 rfl rfl ?_
                refine mj_imul (pc := 110) d_Md_differs_110 ?_
                refine mj_iconst (pc := 111) (v := 0) d_Md_differs_111 (by decide) ?_
                refine mj_iadd (pc := 112) d_Md_differs_112 ?_
                refine mj_iconst (pc := 113) (v := 5) d_Md_differs_113 (by decide) ?_
                refine mj_iload_n (pc := 114) (i := 2) d_Md_differs_114 rfl rfl ?_
                refine mj_imul (pc := 115) d_Md_differs_115 ?_
                refine mj_iadd (pc := 116) d_Md_differs_116 ?_
                refine mj_iconst (pc := 117) (v := 1) d_Md_differs_117 (by decide) ?_
                refine mj_iadd (pc := 118) d_Md_differs_118 ?_
                obtain ⟨hg19, h⟩ := mj_gd h
                refine dj_iald (pc := 119) d_Md_differs_119 sh_90 (by decide) hg19 (by decide) ?_
                have k21 : mj_R M_Md_differs 128 [some (.ref 88), some (.int y1), some (.int y2), none, none, none, none] [.int (if v17 = (C 90 ((((2200 * y1) + 0) + (5 * y2)) + 1).toNatClampNeg) then 1 else 0 : Int32)] (SH, jn X C) r (SH, y) := by
                  refine mj_istore (pc := 128) (i := 5) d_Md_differs_128 rfl (by decide) ?_
                  refine mj_iload_n (pc := 130) (i := 2) d_Md_differs_130 rfl rfl ?_
                  refine mj_iconst (pc := 131) (v := 0) d_Md_differs_131 (by decide) ?_
                  refine mj_iconst (pc := 132) (v := 0) d_Md_differs_132 (by decide) ?_
                  obtain ⟨v22, hb23, h⟩ := bd1_some h
                  refine mj_callS (pc := 133) (vs := [.int y2, .int 0, .int 0]) (st := []) d_Md_differs_133 bB_Md_differs_Md_ageAt lk_Md_57 st_Md_ageAt rfl (Nat.le_of_ble_eq_true rfl) (Nat.le_of_ble_eq_true rfl) (r_Md_ageAt hb23) ?_
                  show mj_R M_Md_differs 136 [some (.ref 88), some (.int y1), some (.int y2), none, none, some (.int (if v17 = (C 90 ((((2200 * y1) + 0) + (5 * y2)) + 1).toNatClampNeg) then 1 else 0 : Int32)), none] [.int v22] (SH, jn X C) r (SH, y)
                  refine mj_istore (pc := 136) (i := 6) d_Md_differs_136 rfl (by decide) ?_
                  obtain ⟨o34, hl35, h⟩ := bd1_some h
                  refine mj_weak [some (.ref 88), some (.int y1), some (.int y2), none, none, some (.int (if v17 = (C 90 ((((2200 * y1) + 0) + (5 * y2)) + 1).toNatClampNeg) then 1 else 0 : Int32)), some (.int v22)] (And.intro rfl (And.intro rfl (And.intro rfl (And.intro rfl (And.intro rfl trivial))))) (l_Md_differs_138 3000 _ _ _ _ _ _ hl35 ?_)
                  obtain e_1 := inj1 h
                  subst e_1
                  exact mj_wk k39 (And.intro rfl (And.intro rfl (And.intro rfl (And.intro rfl trivial))))
                refine mj_icmp_ne (pc := 120) (tgt := 127) d_Md_differs_120 (by decide) mj_hs (fun hc20 => ?_) (fun hc20 => ?_)
                · refine mj_iconst (pc := 127) (v := 0) d_Md_differs_127 (by decide) ?_
                  try simp only [if_neg hc20] at k21
                  exact mj_wk k21 (And.intro rfl (And.intro rfl (And.intro rfl trivial)))
                · refine mj_iconst (pc := 123) (v := 1) d_Md_differs_123 (by decide) ?_
                  refine mj_goto (pc := 124) (tgt := 128) d_Md_differs_124 (by decide) ?_
                  try simp only [if_pos hc20] at k21
                  exact mj_wk k21 (And.intro rfl (And.intro rfl (And.intro rfl trivial)))
          refine mj_icmp_ne (pc := 78) (tgt := 85) d_Md_differs_78 (by decide) mj_hs (fun hc13 => ?_) (fun hc13 => ?_)
          · refine mj_iconst (pc := 85) (v := 0) d_Md_differs_85 (by decide) ?_
            try simp only [if_neg hc13] at k14
            exact mj_wk k14 (And.intro rfl (And.intro rfl (And.intro rfl (And.intro rfl (And.intro rfl trivial)))))
          · refine mj_iconst (pc := 81) (v := 1) d_Md_differs_81 (by decide) ?_
            refine mj_goto (pc := 82) (tgt := 86) d_Md_differs_82 (by decide) ?_
            try simp only [if_pos hc13] at k14
            exact mj_wk k14 (And.intro rfl (And.intro rfl (And.intro rfl (And.intro rfl (And.intro rfl trivial)))))
        refine mj_icmp_ge (pc := 65) (tgt := 72) d_Md_differs_65 (by decide) mj_hs (fun hc11 => ?_) (fun hc11 => ?_)
        · refine mj_iconst (pc := 72) (v := 0) d_Md_differs_72 (by decide) ?_
          try simp only [if_pos hc11] at k12
          exact mj_wk k12 (And.intro rfl (And.intro rfl (And.intro rfl (And.intro rfl trivial))))
        · refine mj_iconst (pc := 68) (v := 1) d_Md_differs_68 (by decide) ?_
          refine mj_goto (pc := 69) (tgt := 73) d_Md_differs_69 (by decide) ?_
          try simp only [if_neg hc11] at k12
          exact mj_wk k12 (And.intro rfl (And.intro rfl (And.intro rfl (And.intro rfl trivial))))
      refine mj_icmp_ge (pc := 41) (tgt := 48) d_Md_differs_41 (by decide) mj_hs (fun hc8 => ?_) (fun hc8 => ?_)
      · refine mj_iconst (pc := 48) (v := 0) d_Md_differs_48 (by decide) ?_
        try simp only [if_pos hc8] at k9
        exact mj_wk k9 (And.intro rfl (And.intro rfl (And.intro rfl trivial)))
      · refine mj_iconst (pc := 44) (v := 1) d_Md_differs_44 (by decide) ?_
        refine mj_goto (pc := 45) (tgt := 49) d_Md_differs_45 (by decide) ?_
        try simp only [if_neg hc8] at k9
        exact mj_wk k9 (And.intro rfl (And.intro rfl (And.intro rfl trivial)))
set_option maxRecDepth 20000 in
theorem r_Md_differs {x1 : Int32} {C C0 : St} {v : Int32} (h : f_Md_differs x1 C0 = some v) : mj_R M_Md_differs 0 (mj_lv M_Md_differs.2.2.1 [.ref 88, .int x1]) [] (SH, jn C C0) (some (.int v)) (SH, jn C C0) := by
  show mj_R M_Md_differs 0 [some (.ref 88), some (.int x1), none, none, none, none, none] [] _ _ _
  unfold f_Md_differs at h
  refine mj_iload_n (pc := 0) (i := 1) d_Md_differs_0 rfl rfl ?_
  refine mj_iconst (pc := 1) (v := 0) d_Md_differs_1 (by decide) ?_
  refine mj_iconst (pc := 2) (v := 2) d_Md_differs_2 (by decide) ?_
  obtain ⟨v1, hb2, h⟩ := bd1_some h
  refine mj_callS (pc := 3) (vs := [.int x1, .int 0, .int 2]) (st := []) d_Md_differs_3 bB_Md_differs_Md_isIn lk_Md_53 st_Md_isIn rfl (Nat.le_of_ble_eq_true rfl) (Nat.le_of_ble_eq_true rfl) (r_Md_isIn hb2) ?_
  show mj_R M_Md_differs 6 [some (.ref 88), some (.int x1), none, none, none, none, none] [.int v1] (SH, jn C C0) (some (.int v)) (SH, jn C C0)
  refine mj_if_ne (y := 0) (pc := 6) (tgt := 12) d_Md_differs_6 (by decide) mj_hs (fun hc3 => ?_) (fun hc3 => ?_)
  · rw [if_neg hc3] at h
    refine mj_aload_n (pc := 12) (i := 0) d_Md_differs_12 rfl rfl (by decide) ?_
    refine mj_getR (pc := 13) d_Md_differs_13 fl_Md_16 sh_88 rfl rfl (by decide) (by decide) (by decide) ?_
    refine mj_iload_n (pc := 16) (i := 1) d_Md_differs_16 rfl rfl ?_
    obtain ⟨hg4, h⟩ := mj_gd h
    refine dj_zald (pc := 17) d_Md_differs_17 sh_91 (by decide) hg4 (by decide) ?_
    refine mj_if_ne (y := 0) (pc := 18) (tgt := 24) d_Md_differs_18 (by decide) mj_hs (fun hc5 => ?_) (fun hc5 => ?_)
    · rw [if_neg hc5] at h
      refine mj_iconst (pc := 24) (v := 0) d_Md_differs_24 (by decide) ?_
      refine mj_istore_n (pc := 25) (i := 2) d_Md_differs_25 rfl rfl (by decide) ?_
      rcases bdS_some h with ⟨e43, hl42, h⟩ | ⟨_u, hl42, h⟩
      · refine mj_weak [some (.ref 88), some (.int x1), some (.int 0), none, none, none, none] (And.intro rfl (And.intro rfl (And.intro rfl trivial))) (l_Md_differs_26 3000 _ _ _ _ hl42 (fun a e => ?_) (fun a e => nomatch e))
        cases e
        obtain e_1 := inj1 h
        subst e_1
        exact ⟨rfl, rfl⟩
      · refine mj_weak [some (.ref 88), some (.int x1), some (.int 0), none, none, none, none] (And.intro rfl (And.intro rfl (And.intro rfl trivial))) (l_Md_differs_26 3000 _ _ _ _ hl42 (fun a e => nomatch e) (fun a e => ?_))
        cases e
        refine mj_ldc (pc := 205) (v := -1000000005) d_Md_differs_205 k_Md_68 ?_
        obtain e_1 := inj1 h
        subst e_1
        exact mj_iret (pc := 207) d_Md_differs_207 rfl
    · rw [if_pos hc5] at h
      refine mj_ldc (pc := 21) (v := -1000000002) d_Md_differs_21 k_Md_132 ?_
      obtain e_1 := inj1 h
      subst e_1
      exact mj_iret (pc := 23) d_Md_differs_23 rfl
  · rw [if_pos hc3] at h
    refine mj_ldc (pc := 9) (v := -1000000001) d_Md_differs_9 k_Md_66 ?_
    obtain e_1 := inj1 h
    subst e_1
    exact mj_iret (pc := 11) d_Md_differs_11 rfl
set_option maxRecDepth 20000 in
theorem l_Md_count_68 {r : Option Value} {X y : St} : ∀ (n : Nat) (y2 : Int32) (y3 : Int32) (C : St) (o2_ : Int32), L_Md_count_68 n y2 y3 C = some o2_ → mj_R M_Md_count 94 [none, none, some (.int o2_), none] [] (SH, jn X C) r (SH, y) → mj_R M_Md_count 68 [some (.ref 88), none, some (.int y2), some (.int y3)] [] (SH, jn X C) r (SH, y) := by
  intro n
  induction n with
  | zero => intro y2 y3 C o2_ h; cases h
  | succ n ih =>
    intro y2 y3 C o2_ h hX
    unfold L_Md_count_68 at h
    refine mj_iload_n (pc := 68) (i := 3) d_Md_count_68 rfl rfl ?_
    refine mj_aload_n (pc := 69) (i := 0) d_Md_count_69 rfl rfl (by decide) ?_
    refine mj_getR (pc := 70) d_Md_count_70 fl_Md_7 sh_88 rfl rfl (by decide) (by decide) (by decide) ?_
    refine mj_sipush (pc := 73) (v := 2163) d_Md_count_73 (by decide) ?_
    refine dj_iald (pc := 76) d_Md_count_76 sh_89 (by decide) (by decide) (by decide) ?_
    show mj_R M_Md_count 77 [some (.ref 88), none, some (.int y2), some (.int y3)] [.int (C 89 2163), .int y3] (SH, jn X C) r (SH, y)
    refine mj_icmp_ge (pc := 77) (tgt := 94) d_Md_count_77 (by decide) mj_hs (fun hc12 => ?_) (fun hc12 => ?_)
    · rw [if_pos hc12] at h
      obtain e_1 := inj1 h
      subst e_1
      exact mj_wk hX (And.intro rfl trivial)
    · rw [if_neg hc12] at h
      refine mj_iload_n (pc := 80) (i := 2) d_Md_count_80 rfl rfl ?_
      refine mj_aload_n (pc := 81) (i := 0) d_Md_count_81 rfl rfl (by decide) ?_
      refine mj_iload_n (pc := 82) (i := 3) d_Md_count_82 rfl rfl ?_
      obtain ⟨v13, hb14, h⟩ := bd1_some h
      refine mj_callV (pc := 83) (b := 88) (vs := [.int y3]) (st := [.int y2]) d_Md_count_83 bB_Md_count_Md_cash lk_Md_150 iv_Md_cash rc_88 rfl (Nat.le_of_ble_eq_true rfl) (Nat.le_of_ble_eq_true rfl) (r_Md_cash hb14) ?_
      show mj_R M_Md_count 86 [some (.ref 88), none, some (.int y2), some (.int y3)] [.int v13, .int y2] (SH, jn X C) r (SH, y)
      refine mj_iadd (pc := 86) d_Md_count_86 ?_
      refine mj_istore_n (pc := 87) (i := 2) d_Md_count_87 rfl rfl (by decide) ?_
      refine mj_iinc (pc := 88) (i := 3) (v := y3 + 1) d_Md_count_88 rfl (by rfl) rfl (by decide) ?_
      refine mj_goto (pc := 91) (tgt := 68) d_Md_count_91 (by decide) ?_
      exact mj_weak [some (.ref 88), none, some (.int (y2 + v13)), some (.int (y3 + 1))] (And.intro rfl (And.intro rfl (And.intro rfl trivial))) (ih _ _ _ _ h hX)
set_option maxRecDepth 20000 in
theorem l_Md_count_107 {r : Option Value} {X y : St} : ∀ (n : Nat) (y2 : Int32) (y3 : Int32) (C : St) (o2_ : Int32), L_Md_count_107 n y2 y3 C = some o2_ → mj_R M_Md_count 141 [none, none, some (.int o2_), none] [] (SH, jn X C) r (SH, y) → mj_R M_Md_count 107 [some (.ref 88), none, some (.int y2), some (.int y3)] [] (SH, jn X C) r (SH, y) := by
  intro n
  induction n with
  | zero => intro y2 y3 C o2_ h; cases h
  | succ n ih =>
    intro y2 y3 C o2_ h hX
    unfold L_Md_count_107 at h
    refine mj_iload_n (pc := 107) (i := 3) d_Md_count_107 rfl rfl ?_
    refine mj_aload_n (pc := 108) (i := 0) d_Md_count_108 rfl rfl (by decide) ?_
    refine mj_getR (pc := 109) d_Md_count_109 fl_Md_7 sh_88 rfl rfl (by decide) (by decide) (by decide) ?_
    refine mj_sipush (pc := 112) (v := 2163) d_Md_count_112 (by decide) ?_
    refine dj_iald (pc := 115) d_Md_count_115 sh_89 (by decide) (by decide) (by decide) ?_
    show mj_R M_Md_count 116 [some (.ref 88), none, some (.int y2), some (.int y3)] [.int (C 89 2163), .int y3] (SH, jn X C) r (SH, y)
    refine mj_icmp_ge (pc := 116) (tgt := 141) d_Md_count_116 (by decide) mj_hs (fun hc21 => ?_) (fun hc21 => ?_)
    · rw [if_pos hc21] at h
      obtain e_1 := inj1 h
      subst e_1
      exact mj_wk hX (And.intro rfl trivial)
    · rw [if_neg hc21] at h
      refine mj_iload_n (pc := 119) (i := 2) d_Md_count_119 rfl rfl ?_
      refine mj_aload_n (pc := 120) (i := 0) d_Md_count_120 rfl rfl (by decide) ?_
      refine mj_iload_n (pc := 121) (i := 3) d_Md_count_121 rfl rfl ?_
      obtain ⟨v22, hb23, h⟩ := bd1_some h
      refine mj_callV (pc := 122) (b := 88) (vs := [.int y3]) (st := [.int y2]) d_Md_count_122 bB_Md_count_Md_isBroke lk_Md_189 iv_Md_isBroke rc_88 rfl (Nat.le_of_ble_eq_true rfl) (Nat.le_of_ble_eq_true rfl) (r_Md_isBroke hb23) ?_
      show mj_R M_Md_count 125 [some (.ref 88), none, some (.int y2), some (.int y3)] [.int v22, .int y2] (SH, jn X C) r (SH, y)
      have k25 : mj_R M_Md_count 133 [some (.ref 88), none, none, some (.int y3)] [.int (if v22 = 0 then 0 else 1 : Int32), .int y2] (SH, jn X C) r (SH, y) := by
        refine mj_iadd (pc := 133) d_Md_count_133 ?_
        refine mj_istore_n (pc := 134) (i := 2) d_Md_count_134 rfl rfl (by decide) ?_
        refine mj_iinc (pc := 135) (i := 3) (v := y3 + 1) d_Md_count_135 rfl (by rfl) rfl (by decide) ?_
        refine mj_goto (pc := 138) (tgt := 107) d_Md_count_138 (by decide) ?_
        exact mj_weak [some (.ref 88), none, some (.int (y2 + (if v22 = 0 then 0 else 1 : Int32))), some (.int (y3 + 1))] (And.intro rfl (And.intro rfl (And.intro rfl trivial))) (ih _ _ _ _ h hX)
      refine mj_if_eq (y := 0) (pc := 125) (tgt := 132) d_Md_count_125 (by decide) mj_hs (fun hc24 => ?_) (fun hc24 => ?_)
      · refine mj_iconst (pc := 132) (v := 0) d_Md_count_132 (by decide) ?_
        try simp only [if_pos hc24] at k25
        exact mj_wk k25 (And.intro rfl (And.intro rfl trivial))
      · refine mj_iconst (pc := 128) (v := 1) d_Md_count_128 (by decide) ?_
        refine mj_goto (pc := 129) (tgt := 133) d_Md_count_129 (by decide) ?_
        try simp only [if_neg hc24] at k25
        exact mj_wk k25 (And.intro rfl (And.intro rfl trivial))
set_option maxRecDepth 20000 in
theorem l_Md_count_161 {r : Option Value} {X y : St} : ∀ (n : Nat) (y2 : Int32) (y3 : Int32) (C : St) (o2_ : Int32), L_Md_count_161 n y2 y3 C = some o2_ → mj_R M_Md_count 183 [none, none, some (.int o2_), none] [] (SH, jn X C) r (SH, y) → mj_R M_Md_count 161 [some (.ref 88), none, some (.int y2), some (.int y3)] [] (SH, jn X C) r (SH, y) := by
  intro n
  induction n with
  | zero => intro y2 y3 C o2_ h; cases h
  | succ n ih =>
    intro y2 y3 C o2_ h hX
    unfold L_Md_count_161 at h
    refine mj_iload_n (pc := 161) (i := 3) d_Md_count_161 rfl rfl ?_
    refine mj_sipush (pc := 162) (v := 2163) d_Md_count_162 (by decide) ?_
    refine mj_icmp_ge (pc := 165) (tgt := 183) d_Md_count_165 (by decide) mj_hs (fun hc31 => ?_) (fun hc31 => ?_)
    · rw [if_pos hc31] at h
      obtain e_1 := inj1 h
      subst e_1
      exact mj_wk hX (And.intro rfl trivial)
    · rw [if_neg hc31] at h
      refine mj_iload_n (pc := 168) (i := 2) d_Md_count_168 rfl rfl ?_
      refine mj_aload_n (pc := 169) (i := 0) d_Md_count_169 rfl rfl (by decide) ?_
      refine mj_getR (pc := 170) d_Md_count_170 fl_Md_7 sh_88 rfl rfl (by decide) (by decide) (by decide) ?_
      refine mj_iload_n (pc := 173) (i := 3) d_Md_count_173 rfl rfl ?_
      obtain ⟨hg32, h⟩ := mj_gd h
      refine dj_iald (pc := 174) d_Md_count_174 sh_89 (by decide) hg32 (by decide) ?_
      refine mj_iadd (pc := 175) d_Md_count_175 ?_
      refine mj_istore_n (pc := 176) (i := 2) d_Md_count_176 rfl rfl (by decide) ?_
      refine mj_iinc (pc := 177) (i := 3) (v := y3 + 1) d_Md_count_177 rfl (by rfl) rfl (by decide) ?_
      refine mj_goto (pc := 180) (tgt := 161) d_Md_count_180 (by decide) ?_
      exact mj_weak [some (.ref 88), none, some (.int (y2 + (C 89 y3.toNatClampNeg))), some (.int (y3 + 1))] (And.intro rfl (And.intro rfl (And.intro rfl trivial))) (ih _ _ _ _ h hX)
set_option maxRecDepth 20000 in
theorem r_Md_count {x1 : Int32} {C C0 : St} {v : Int32} (h : f_Md_count x1 C0 = some v) : mj_R M_Md_count 0 (mj_lv M_Md_count.2.2.1 [.ref 88, .int x1]) [] (SH, jn C C0) (some (.int v)) (SH, jn C C0) := by
  show mj_R M_Md_count 0 [some (.ref 88), some (.int x1), none, none] [] _ _ _
  unfold f_Md_count at h
  refine mj_iconst (pc := 0) (v := 0) d_Md_count_0 (by decide) ?_
  refine mj_istore_n (pc := 1) (i := 2) d_Md_count_1 rfl rfl (by decide) ?_
  refine mj_iload_n (pc := 2) (i := 1) d_Md_count_2 rfl rfl ?_
  by_cases hc1 : x1 = 0
  · rw [if_pos hc1] at h
    refine mj_tsEq (pc := 3) (tgt := 48) 0 d_Md_count_3 hc1 (by decide) (by decide) (by rfl) (by decide) ?_
    refine mj_aload_n (pc := 48) (i := 0) d_Md_count_48 rfl rfl (by decide) ?_
    refine mj_getR (pc := 49) d_Md_count_49 fl_Md_7 sh_88 rfl rfl (by decide) (by decide) (by decide) ?_
    refine mj_sipush (pc := 52) (v := 2163) d_Md_count_52 (by decide) ?_
    refine dj_iald (pc := 55) d_Md_count_55 sh_89 (by decide) (by decide) (by decide) ?_
    show mj_R M_Md_count 56 [some (.ref 88), some (.int x1), some (.int 0), none] [.int (C0 89 2163)] (SH, jn C C0) (some (.int v)) (SH, jn C C0)
    obtain e_1 := inj1 h
    subst e_1
    exact mj_iret (pc := 56) d_Md_count_56 rfl
  · rw [if_neg hc1] at h
    by_cases hc2 : x1 = 1
    · rw [if_pos hc2] at h
      refine mj_tsEq (pc := 3) (tgt := 57) 1 d_Md_count_3 hc2 (by decide) (by decide) (by rfl) (by decide) ?_
      refine mj_aload_n (pc := 57) (i := 0) d_Md_count_57 rfl rfl (by decide) ?_
      refine mj_getR (pc := 58) d_Md_count_58 fl_Md_7 sh_88 rfl rfl (by decide) (by decide) (by decide) ?_
      refine mj_sipush (pc := 61) (v := 2164) d_Md_count_61 (by decide) ?_
      refine dj_iald (pc := 64) d_Md_count_64 sh_89 (by decide) (by decide) (by decide) ?_
      show mj_R M_Md_count 65 [some (.ref 88), some (.int x1), some (.int 0), none] [.int (C0 89 2164)] (SH, jn C C0) (some (.int v)) (SH, jn C C0)
      obtain e_1 := inj1 h
      subst e_1
      exact mj_iret (pc := 65) d_Md_count_65 rfl
    · rw [if_neg hc2] at h
      by_cases hc3 : x1 = 2
      · rw [if_pos hc3] at h
        refine mj_tsEq (pc := 3) (tgt := 66) 2 d_Md_count_3 hc3 (by decide) (by decide) (by rfl) (by decide) ?_
        refine mj_iconst (pc := 66) (v := 0) d_Md_count_66 (by decide) ?_
        refine mj_istore_n (pc := 67) (i := 3) d_Md_count_67 rfl rfl (by decide) ?_
        obtain ⟨o15, hl16, h⟩ := bd1_some h
        refine mj_weak [some (.ref 88), none, some (.int 0), some (.int 0)] (And.intro rfl (And.intro rfl (And.intro rfl trivial))) (l_Md_count_68 3000 _ _ _ _ hl16 ?_)
        refine mj_iload_n (pc := 94) (i := 2) d_Md_count_94 rfl rfl ?_
        obtain e_1 := inj1 h
        subst e_1
        exact mj_iret (pc := 95) d_Md_count_95 rfl
      · rw [if_neg hc3] at h
        by_cases hc4 : x1 = 3
        · rw [if_pos hc4] at h
          refine mj_tsEq (pc := 3) (tgt := 96) 3 d_Md_count_3 hc4 (by decide) (by decide) (by rfl) (by decide) ?_
          refine mj_aload_n (pc := 96) (i := 0) d_Md_count_96 rfl rfl (by decide) ?_
          refine mj_getR (pc := 97) d_Md_count_97 fl_Md_7 sh_88 rfl rfl (by decide) (by decide) (by decide) ?_
          refine mj_sipush (pc := 100) (v := 2168) d_Md_count_100 (by decide) ?_
          refine dj_iald (pc := 103) d_Md_count_103 sh_89 (by decide) (by decide) (by decide) ?_
          show mj_R M_Md_count 104 [some (.ref 88), some (.int x1), some (.int 0), none] [.int (C0 89 2168)] (SH, jn C C0) (some (.int v)) (SH, jn C C0)
          obtain e_1 := inj1 h
          subst e_1
          exact mj_iret (pc := 104) d_Md_count_104 rfl
        · rw [if_neg hc4] at h
          by_cases hc5 : x1 = 4
          · rw [if_pos hc5] at h
            refine mj_tsEq (pc := 3) (tgt := 105) 4 d_Md_count_3 hc5 (by decide) (by decide) (by rfl) (by decide) ?_
            refine mj_iconst (pc := 105) (v := 0) d_Md_count_105 (by decide) ?_
            refine mj_istore_n (pc := 106) (i := 3) d_Md_count_106 rfl rfl (by decide) ?_
            obtain ⟨o26, hl27, h⟩ := bd1_some h
            refine mj_weak [some (.ref 88), none, some (.int 0), some (.int 0)] (And.intro rfl (And.intro rfl (And.intro rfl trivial))) (l_Md_count_107 3000 _ _ _ _ hl27 ?_)
            refine mj_iload_n (pc := 141) (i := 2) d_Md_count_141 rfl rfl ?_
            obtain e_1 := inj1 h
            subst e_1
            exact mj_iret (pc := 142) d_Md_count_142 rfl
          · rw [if_neg hc5] at h
            by_cases hc6 : x1 = 5
            · rw [if_pos hc6] at h
              refine mj_tsEq (pc := 3) (tgt := 143) 5 d_Md_count_3 hc6 (by decide) (by decide) (by rfl) (by decide) ?_
              refine mj_aload_n (pc := 143) (i := 0) d_Md_count_143 rfl rfl (by decide) ?_
              refine dj_getI (pc := 144) d_Md_count_144 fl_Md_80 sh_88 rfl (by decide) (by decide) (by decide) ?_
              obtain e_1 := inj1 h
              subst e_1
              exact mj_iret (pc := 147) d_Md_count_147 rfl
            · rw [if_neg hc6] at h
              by_cases hc7 : x1 = 6
              · rw [if_pos hc7] at h
                refine mj_tsEq (pc := 3) (tgt := 148) 6 d_Md_count_3 hc7 (by decide) (by decide) (by rfl) (by decide) ?_
                refine mj_aload_n (pc := 148) (i := 0) d_Md_count_148 rfl rfl (by decide) ?_
                refine mj_getR (pc := 149) d_Md_count_149 fl_Md_7 sh_88 rfl rfl (by decide) (by decide) (by decide) ?_
                refine mj_sipush (pc := 152) (v := 2165) d_Md_count_152 (by decide) ?_
                refine dj_iald (pc := 155) d_Md_count_155 sh_89 (by decide) (by decide) (by decide) ?_
                show mj_R M_Md_count 156 [some (.ref 88), some (.int x1), some (.int 0), none] [.int (C0 89 2165)] (SH, jn C C0) (some (.int v)) (SH, jn C C0)
                obtain e_1 := inj1 h
                subst e_1
                exact mj_iret (pc := 156) d_Md_count_156 rfl
              · rw [if_neg hc7] at h
                by_cases hc8 : x1 = 7
                · rw [if_pos hc8] at h
                  refine mj_tsEq (pc := 3) (tgt := 157) 7 d_Md_count_3 hc8 (by decide) (by decide) (by rfl) (by decide) ?_
                  refine mj_sipush (pc := 157) (v := 1443) d_Md_count_157 (by decide) ?_
                  refine mj_istore_n (pc := 160) (i := 3) d_Md_count_160 rfl rfl (by decide) ?_
                  obtain ⟨o33, hl34, h⟩ := bd1_some h
                  refine mj_weak [some (.ref 88), none, some (.int 0), some (.int 1443)] (And.intro rfl (And.intro rfl (And.intro rfl trivial))) (l_Md_count_161 3000 _ _ _ _ hl34 ?_)
                  refine mj_iload_n (pc := 183) (i := 2) d_Md_count_183 rfl rfl ?_
                  obtain e_1 := inj1 h
                  subst e_1
                  exact mj_iret (pc := 184) d_Md_count_184 rfl
                · rw [if_neg hc8] at h
                  refine mj_tableOut (pc := 3) (tgt := 185) d_Md_count_3 (by have q0 := i32_ne (n := 0) (by decide) hc1; have q1 := i32_ne (n := 1) (by decide) hc2; have q2 := i32_ne (n := 2) (by decide) hc3; have q3 := i32_ne (n := 3) (by decide) hc4; have q4 := i32_ne (n := 4) (by decide) hc5; have q5 := i32_ne (n := 5) (by decide) hc6; have q6 := i32_ne (n := 6) (by decide) hc7; have q7 := i32_ne (n := 7) (by decide) hc8; omega) (by decide) ?_
                  refine mj_ldc (pc := 185) (v := -1000000001) d_Md_count_185 k_Md_66 ?_
                  obtain e_1 := inj1 h
                  subst e_1
                  exact mj_iret (pc := 187) d_Md_count_187 rfl
