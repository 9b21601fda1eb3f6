set_option maxRecDepth 20000 in
theorem l_Tw_firstUnlike_14 {r : Option Value} {D y : St} : ∀ (n : Nat) (y2 : Int32) (y3 : Int32) (C : St) (o : (Int32) ⊕ (Unit)), L_Tw_firstUnlike_14 n y2 y3 C = some o → (∀ a : Int32, o = .inl a → r = some (.int a) ∧ y = jn C D) → (∀ a : Unit, o = .inr a → mj_R M_Tw_firstUnlike 57 [some (.ref 1), some (.ref 40), some (.int y2), none] [] (SH, jn C D) r (SH, y)) → mj_R M_Tw_firstUnlike 14 [some (.ref 1), some (.ref 40), some (.int y2), some (.int y3)] [] (SH, jn C D) r (SH, y) := by
  intro n
  induction n with
  | zero => intro y2 y3 C o h; cases h
  | succ n ih =>
    intro y2 y3 C o h hE hX
    unfold L_Tw_firstUnlike_14 at h
    refine mj_iload_n (pc := 14) (i := 3) d_Tw_firstUnlike_14 rfl rfl ?_
    refine mj_iload_n (pc := 15) (i := 2) d_Tw_firstUnlike_15 rfl rfl ?_
    refine mj_icmp_ge (pc := 16) (tgt := 57) d_Tw_firstUnlike_16 (by decide) mj_hs (fun hc1 => ?_) (fun hc1 => ?_)
    · rw [if_pos hc1] at h
      cases h
      exact mj_weak _ (And.intro rfl (And.intro rfl (And.intro rfl trivial))) (hX _ rfl)
    · rw [if_neg hc1] at h
      refine mj_aload_n (pc := 19) (i := 0) d_Tw_firstUnlike_19 rfl rfl (by decide) ?_
      refine mj_getR (pc := 20) d_Tw_firstUnlike_20 fl_Tw_19 sh_1 rfl rfl (by decide) (by decide) (by decide) ?_
      refine mj_iload_n (pc := 23) (i := 3) d_Tw_firstUnlike_23 rfl rfl ?_
      obtain ⟨hg2, h⟩ := mj_gd h
      refine cj_iald (pc := 24) d_Tw_firstUnlike_24 sh_3 (by decide) hg2 (by decide) ?_
      refine mj_aload_n (pc := 25) (i := 1) d_Tw_firstUnlike_25 rfl rfl (by decide) ?_
      refine mj_getR (pc := 26) d_Tw_firstUnlike_26 fl_Tw_19 sh_40 rfl rfl (by decide) (by decide) (by decide) ?_
      refine mj_iload_n (pc := 29) (i := 3) d_Tw_firstUnlike_29 rfl rfl ?_
      refine cj_iald (pc := 30) d_Tw_firstUnlike_30 sh_42 (by decide) hg2 (by decide) ?_
      refine mj_icmp_ne (pc := 31) (tgt := 49) d_Tw_firstUnlike_31 (by decide) mj_hs (fun hc4 => ?_) (fun hc4 => ?_)
      · rw [if_neg hc4] at h
        refine mj_iload_n (pc := 49) (i := 3) d_Tw_firstUnlike_49 rfl rfl ?_
        cases h
        obtain ⟨e1, e2⟩ := hE _ rfl
        subst e1
        subst e2
        exact mj_iret (pc := 50) d_Tw_firstUnlike_50 rfl
      · rw [if_pos hc4] at h
        refine mj_aload_n (pc := 34) (i := 0) d_Tw_firstUnlike_34 rfl rfl (by decide) ?_
        refine mj_getR (pc := 35) d_Tw_firstUnlike_35 fl_Tw_34 sh_1 rfl rfl (by decide) (by decide) (by decide) ?_
        refine mj_aload_n (pc := 38) (i := 1) d_Tw_firstUnlike_38 rfl rfl (by decide) ?_
        refine mj_getR (pc := 39) d_Tw_firstUnlike_39 fl_Tw_34 sh_40 rfl rfl (by decide) (by decide) (by decide) ?_
        refine mj_iload_n (pc := 42) (i := 3) d_Tw_firstUnlike_42 rfl rfl ?_
        obtain ⟨v5, hb6, h⟩ := bd1_some h
        refine mj_callV (pc := 43) (b := 7) (vs := [.ref 46, .int y3]) (st := []) d_Tw_firstUnlike_43 bB_Tw_firstUnlike_Sk_isAlike lk_Tw_87 iv_Sk_isAlike rc_7 rfl (Nat.le_of_ble_eq_true rfl) (Nat.le_of_ble_eq_true rfl) (r_Sk_isAlike hb6) ?_
        show mj_R M_Tw_firstUnlike 46 [some (.ref 1), some (.ref 40), some (.int y2), some (.int y3)] [.int v5] (SH, jn C D) r (SH, y)
        refine mj_if_ne (y := 0) (pc := 46) (tgt := 51) d_Tw_firstUnlike_46 (by decide) mj_hs (fun hc7 => ?_) (fun hc7 => ?_)
        · rw [if_neg hc7] at h
          refine mj_iinc (pc := 51) (i := 3) (v := y3 + 1) d_Tw_firstUnlike_51 rfl (by rfl) rfl (by decide) ?_
          refine mj_goto (pc := 54) (tgt := 14) d_Tw_firstUnlike_54 (by decide) ?_
          exact mj_weak [some (.ref 1), some (.ref 40), some (.int y2), some (.int (y3 + 1))] (And.intro rfl (And.intro rfl (And.intro rfl (And.intro rfl trivial)))) (ih _ _ _ _ h hE hX)
        · rw [if_pos hc7] at h
          refine mj_iload_n (pc := 49) (i := 3) d_Tw_firstUnlike_49 rfl rfl ?_
          cases h
          obtain ⟨e1, e2⟩ := hE _ rfl
          subst e1
          subst e2
          exact mj_iret (pc := 50) d_Tw_firstUnlike_50 rfl
set_option maxRecDepth 20000 in
theorem r_Tw_firstUnlike  {C0 D : St} {v : Int32} (h : f_Tw_firstUnlike C0 = some v) : mj_R M_Tw_firstUnlike 0 (mj_lv M_Tw_firstUnlike.2.2.1 [.ref 1, .ref 40]) [] (SH, jn C0 D) (some (.int v)) (SH, jn C0 D) := by
  show mj_R M_Tw_firstUnlike 0 [some (.ref 1), some (.ref 40), none, none] [] _ _ _
  unfold f_Tw_firstUnlike at h
  refine mj_aload_n (pc := 0) (i := 0) d_Tw_firstUnlike_0 rfl rfl (by decide) ?_
  refine cj_getI (pc := 1) d_Tw_firstUnlike_1 fl_Tw_59 sh_1 rfl (by decide) (by decide) (by decide) ?_
  refine mj_aload_n (pc := 4) (i := 1) d_Tw_firstUnlike_4 rfl rfl (by decide) ?_
  refine cj_getI (pc := 5) d_Tw_firstUnlike_5 fl_Tw_59 sh_40 rfl (by decide) (by decide) (by decide) ?_
  refine mj_min (pc := 8) d_Tw_firstUnlike_8 mn_Tw_82 (by decide) (Nat.le_of_ble_eq_true rfl) ?_
  refine mj_istore_n (pc := 11) (i := 2) d_Tw_firstUnlike_11 rfl rfl (by decide) ?_
  refine mj_iconst (pc := 12) (v := 0) d_Tw_firstUnlike_12 (by decide) ?_
  refine mj_istore_n (pc := 13) (i := 3) d_Tw_firstUnlike_13 rfl rfl (by decide) ?_
  rcases bdS_some h with ⟨e11, hl8, h⟩ | ⟨_u, hl8, h⟩
  · refine mj_weak [some (.ref 1), some (.ref 40), some (.int (if (C0 40 0) < (C0 1 0) then C0 40 0 else C0 1 0)), some (.int 0)] (And.intro rfl (And.intro rfl (And.intro rfl (And.intro rfl trivial)))) (l_Tw_firstUnlike_14 3000 _ _ _ _ hl8 (fun a e => ?_) (fun a e => nomatch e))
    cases e
    cases h
    exact ⟨rfl, rfl⟩
  · refine mj_weak [some (.ref 1), some (.ref 40), some (.int (if (C0 40 0) < (C0 1 0) then C0 40 0 else C0 1 0)), some (.int 0)] (And.intro rfl (And.intro rfl (And.intro rfl (And.intro rfl trivial)))) (l_Tw_firstUnlike_14 3000 _ _ _ _ hl8 (fun a e => nomatch e) (fun a e => ?_))
    cases e
    refine mj_aload_n (pc := 57) (i := 0) d_Tw_firstUnlike_57 rfl rfl (by decide) ?_
    refine cj_getI (pc := 58) d_Tw_firstUnlike_58 fl_Tw_59 sh_1 rfl (by decide) (by decide) (by decide) ?_
    refine mj_aload_n (pc := 61) (i := 1) d_Tw_firstUnlike_61 rfl rfl (by decide) ?_
    refine cj_getI (pc := 62) d_Tw_firstUnlike_62 fl_Tw_59 sh_40 rfl (by decide) (by decide) (by decide) ?_
    have k10 : mj_R M_Tw_firstUnlike 74 [none, none, none, none] [.int (if (C0 1 0) = (C0 40 0) then (-1000000005) else (if (C0 40 0) < (C0 1 0) then C0 40 0 else C0 1 0))] (SH, jn C0 D) (some (.int v)) (SH, jn C0 D) := by
      cases h
      exact mj_iret (pc := 74) d_Tw_firstUnlike_74 rfl
    refine mj_icmp_ne (pc := 65) (tgt := 73) d_Tw_firstUnlike_65 (by decide) mj_hs (fun hc9 => ?_) (fun hc9 => ?_)
    · refine mj_iload_n (pc := 73) (i := 2) d_Tw_firstUnlike_73 rfl rfl ?_
      simp only [if_neg hc9] at k10
      exact mj_weak _ trivial k10
    · refine mj_ldc (pc := 68) (v := -1000000005) d_Tw_firstUnlike_68 k_Tw_66 ?_
      refine mj_goto (pc := 70) (tgt := 74) d_Tw_firstUnlike_70 (by decide) ?_
      simp only [if_pos hc9] at k10
      exact mj_weak _ trivial k10
set_option maxRecDepth 20000 in
theorem l_Sk_isAlike_1_17 {r : Option Value} {D y : St} : ∀ (n : Nat) (y3 : Int32) (y4 : Int32) (C : St) (o : (Int32) ⊕ (Unit)), L_Sk_isAlike_1_17 n y3 y4 C = some o → (∀ a : Int32, o = .inl a → r = some (.int a) ∧ y = jn C D) → (∀ a : Unit, o = .inr a → mj_R M_Sk_isAlike 48 [none, none, none, none, none] [] (SH, jn C D) r (SH, y)) → mj_R M_Sk_isAlike 17 [some (.ref 7), some (.ref 62), none, some (.int y3), some (.int y4)] [] (SH, jn C D) r (SH, y) := by
  intro n
  induction n with
  | zero => intro y3 y4 C o h; cases h
  | succ n ih =>
    intro y3 y4 C o h hE hX
    unfold L_Sk_isAlike_1_17 at h
    refine mj_iload (pc := 17) (i := 4) d_Sk_isAlike_17 rfl ?_
    refine mj_iload_n (pc := 19) (i := 3) d_Sk_isAlike_19 rfl rfl ?_
    refine mj_icmp_ge (pc := 20) (tgt := 48) d_Sk_isAlike_20 (by decide) mj_hs (fun hc1 => ?_) (fun hc1 => ?_)
    · rw [if_pos hc1] at h
      cases h
      exact mj_weak _ trivial (hX _ rfl)
    · rw [if_neg hc1] at h
      refine mj_aload_n (pc := 23) (i := 0) d_Sk_isAlike_23 rfl rfl (by decide) ?_
      refine mj_getR (pc := 24) d_Sk_isAlike_24 fl_Sk_9 sh_7 rfl rfl (by decide) (by decide) (by decide) ?_
      refine mj_iload (pc := 27) (i := 4) d_Sk_isAlike_27 rfl ?_
      obtain ⟨hg2, h⟩ := mj_gd h
      refine cj_iald (pc := 29) d_Sk_isAlike_29 sh_8 (by decide) hg2 (by decide) ?_
      refine mj_aload_n (pc := 30) (i := 1) d_Sk_isAlike_30 rfl rfl (by decide) ?_
      refine mj_getR (pc := 31) d_Sk_isAlike_31 fl_Sk_9 sh_62 rfl rfl (by decide) (by decide) (by decide) ?_
      refine mj_iload (pc := 34) (i := 4) d_Sk_isAlike_34 rfl ?_
      refine cj_iald (pc := 36) d_Sk_isAlike_36 sh_63 (by decide) hg2 (by decide) ?_
      refine mj_icmp_eq (pc := 37) (tgt := 42) d_Sk_isAlike_37 (by decide) mj_hs (fun hc4 => ?_) (fun hc4 => ?_)
      · rw [if_pos hc4] at h
        refine mj_iinc (pc := 42) (i := 4) (v := y4 + 1) d_Sk_isAlike_42 rfl (by rfl) rfl (by decide) ?_
        refine mj_goto (pc := 45) (tgt := 17) d_Sk_isAlike_45 (by decide) ?_
        exact mj_weak [some (.ref 7), some (.ref 62), none, some (.int y3), some (.int (y4 + 1))] (And.intro rfl (And.intro rfl (And.intro rfl (And.intro rfl trivial)))) (ih _ _ _ _ h hE hX)
      · rw [if_neg hc4] at h
        refine mj_iconst (pc := 40) (v := 0) d_Sk_isAlike_40 (by decide) ?_
        cases h
        obtain ⟨e1, e2⟩ := hE _ rfl
        subst e1
        subst e2
        exact mj_zret (pc := 41) (ty := .boolean) d_Sk_isAlike_41 rfl (mj_b01 (by decide))
set_option maxRecDepth 20000 in
theorem r_Sk_isAlike_1 {x2 : Int32} {C0 D : St} {v : Int32} (h : f_Sk_isAlike_1 x2 C0 = some v) : mj_R M_Sk_isAlike 0 (mj_lv M_Sk_isAlike.2.2.1 [.ref 7, .ref 62, .int x2]) [] (SH, jn C0 D) (some (.int v)) (SH, jn C0 D) := by
  show mj_R M_Sk_isAlike 0 [some (.ref 7), some (.ref 62), some (.int x2), none, none] [] _ _ _
  unfold f_Sk_isAlike_1 at h
  refine mj_iload_n (pc := 0) (i := 2) d_Sk_isAlike_0 rfl rfl ?_
  refine mj_iconst (pc := 1) (v := 1) d_Sk_isAlike_1 (by decide) ?_
  refine mj_iadd (pc := 2) d_Sk_isAlike_2 ?_
  refine mj_iconst (pc := 3) (v := 5) d_Sk_isAlike_3 (by decide) ?_
  refine mj_imul (pc := 4) d_Sk_isAlike_4 ?_
  refine mj_bipush (pc := 5) (v := 10) d_Sk_isAlike_5 (by decide) ?_
  refine mj_imul (pc := 7) d_Sk_isAlike_7 ?_
  refine mj_istore_n (pc := 8) (i := 3) d_Sk_isAlike_8 rfl rfl (by decide) ?_
  refine mj_iload_n (pc := 9) (i := 2) d_Sk_isAlike_9 rfl rfl ?_
  refine mj_iconst (pc := 10) (v := 5) d_Sk_isAlike_10 (by decide) ?_
  refine mj_imul (pc := 11) d_Sk_isAlike_11 ?_
  refine mj_bipush (pc := 12) (v := 10) d_Sk_isAlike_12 (by decide) ?_
  refine mj_imul (pc := 14) d_Sk_isAlike_14 ?_
  refine mj_istore (pc := 15) (i := 4) d_Sk_isAlike_15 rfl (by decide) ?_
  rcases bdS_some h with ⟨e6, hl5, h⟩ | ⟨_u, hl5, h⟩
  · refine mj_weak [some (.ref 7), some (.ref 62), none, some (.int (((x2 + 1) * 5) * 10)), some (.int ((x2 * 5) * 10))] (And.intro rfl (And.intro rfl (And.intro rfl (And.intro rfl trivial)))) (l_Sk_isAlike_1_17 3000 _ _ _ _ hl5 (fun a e => ?_) (fun a e => nomatch e))
    cases e
    cases h
    exact ⟨rfl, rfl⟩
  · refine mj_weak [some (.ref 7), some (.ref 62), none, some (.int (((x2 + 1) * 5) * 10)), some (.int ((x2 * 5) * 10))] (And.intro rfl (And.intro rfl (And.intro rfl (And.intro rfl trivial)))) (l_Sk_isAlike_1_17 3000 _ _ _ _ hl5 (fun a e => nomatch e) (fun a e => ?_))
    cases e
    refine mj_iconst (pc := 48) (v := 1) d_Sk_isAlike_48 (by decide) ?_
    cases h
    exact mj_zret (pc := 49) (ty := .boolean) d_Sk_isAlike_49 rfl (mj_b01 (by decide))
set_option maxRecDepth 20000 in
theorem l_Tw_firstUnlike_1_14 {r : Option Value} {D y : St} : ∀ (n : Nat) (y2 : Int32) (y3 : Int32) (C : St) (o : (Int32) ⊕ (Unit)), L_Tw_firstUnlike_1_14 n y2 y3 C = some o → (∀ a : Int32, o = .inl a → r = some (.int a) ∧ y = jn C D) → (∀ a : Unit, o = .inr a → mj_R M_Tw_firstUnlike 57 [some (.ref 1), some (.ref 56), some (.int y2), none] [] (SH, jn C D) r (SH, y)) → mj_R M_Tw_firstUnlike 14 [some (.ref 1), some (.ref 56), some (.int y2), some (.int y3)] [] (SH, jn C D) r (SH, y) := by
  intro n
  induction n with
  | zero => intro y2 y3 C o h; cases h
  | succ n ih =>
    intro y2 y3 C o h hE hX
    unfold L_Tw_firstUnlike_1_14 at h
    refine mj_iload_n (pc := 14) (i := 3) d_Tw_firstUnlike_14 rfl rfl ?_
    refine mj_iload_n (pc := 15) (i := 2) d_Tw_firstUnlike_15 rfl rfl ?_
    refine mj_icmp_ge (pc := 16) (tgt := 57) d_Tw_firstUnlike_16 (by decide) mj_hs (fun hc1 => ?_) (fun hc1 => ?_)
    · rw [if_pos hc1] at h
      cases h
      exact mj_weak _ (And.intro rfl (And.intro rfl (And.intro rfl trivial))) (hX _ rfl)
    · rw [if_neg hc1] at h
      refine mj_aload_n (pc := 19) (i := 0) d_Tw_firstUnlike_19 rfl rfl (by decide) ?_
      refine mj_getR (pc := 20) d_Tw_firstUnlike_20 fl_Tw_19 sh_1 rfl rfl (by decide) (by decide) (by decide) ?_
      refine mj_iload_n (pc := 23) (i := 3) d_Tw_firstUnlike_23 rfl rfl ?_
      obtain ⟨hg2, h⟩ := mj_gd h
      refine cj_iald (pc := 24) d_Tw_firstUnlike_24 sh_3 (by decide) hg2 (by decide) ?_
      refine mj_aload_n (pc := 25) (i := 1) d_Tw_firstUnlike_25 rfl rfl (by decide) ?_
      refine mj_getR (pc := 26) d_Tw_firstUnlike_26 fl_Tw_19 sh_56 rfl rfl (by decide) (by decide) (by decide) ?_
      refine mj_iload_n (pc := 29) (i := 3) d_Tw_firstUnlike_29 rfl rfl ?_
      refine cj_iald (pc := 30) d_Tw_firstUnlike_30 sh_58 (by decide) hg2 (by decide) ?_
      refine mj_icmp_ne (pc := 31) (tgt := 49) d_Tw_firstUnlike_31 (by decide) mj_hs (fun hc4 => ?_) (fun hc4 => ?_)
      · rw [if_neg hc4] at h
        refine mj_iload_n (pc := 49) (i := 3) d_Tw_firstUnlike_49 rfl rfl ?_
        cases h
        obtain ⟨e1, e2⟩ := hE _ rfl
        subst e1
        subst e2
        exact mj_iret (pc := 50) d_Tw_firstUnlike_50 rfl
      · rw [if_pos hc4] at h
        refine mj_aload_n (pc := 34) (i := 0) d_Tw_firstUnlike_34 rfl rfl (by decide) ?_
        refine mj_getR (pc := 35) d_Tw_firstUnlike_35 fl_Tw_34 sh_1 rfl rfl (by decide) (by decide) (by decide) ?_
        refine mj_aload_n (pc := 38) (i := 1) d_Tw_firstUnlike_38 rfl rfl (by decide) ?_
        refine mj_getR (pc := 39) d_Tw_firstUnlike_39 fl_Tw_34 sh_56 rfl rfl (by decide) (by decide) (by decide) ?_
        refine mj_iload_n (pc := 42) (i := 3) d_Tw_firstUnlike_42 rfl rfl ?_
        obtain ⟨v5, hb6, h⟩ := bd1_some h
        refine mj_callV (pc := 43) (b := 7) (vs := [.ref 62, .int y3]) (st := []) d_Tw_firstUnlike_43 bB_Tw_firstUnlike_Sk_isAlike lk_Tw_87 iv_Sk_isAlike rc_7 rfl (Nat.le_of_ble_eq_true rfl) (Nat.le_of_ble_eq_true rfl) (r_Sk_isAlike_1 hb6) ?_
        show mj_R M_Tw_firstUnlike 46 [some (.ref 1), some (.ref 56), some (.int y2), some (.int y3)] [.int v5] (SH, jn C D) r (SH, y)
        refine mj_if_ne (y := 0) (pc := 46) (tgt := 51) d_Tw_firstUnlike_46 (by decide) mj_hs (fun hc7 => ?_) (fun hc7 => ?_)
        · rw [if_neg hc7] at h
          refine mj_iinc (pc := 51) (i := 3) (v := y3 + 1) d_Tw_firstUnlike_51 rfl (by rfl) rfl (by decide) ?_
          refine mj_goto (pc := 54) (tgt := 14) d_Tw_firstUnlike_54 (by decide) ?_
          exact mj_weak [some (.ref 1), some (.ref 56), some (.int y2), some (.int (y3 + 1))] (And.intro rfl (And.intro rfl (And.intro rfl (And.intro rfl trivial)))) (ih _ _ _ _ h hE hX)
        · rw [if_pos hc7] at h
          refine mj_iload_n (pc := 49) (i := 3) d_Tw_firstUnlike_49 rfl rfl ?_
          cases h
          obtain ⟨e1, e2⟩ := hE _ rfl
          subst e1
          subst e2
          exact mj_iret (pc := 50) d_Tw_firstUnlike_50 rfl
set_option maxRecDepth 20000 in
theorem r_Tw_firstUnlike_1  {C0 D : St} {v : Int32} (h : f_Tw_firstUnlike_1 C0 = some v) : mj_R M_Tw_firstUnlike 0 (mj_lv M_Tw_firstUnlike.2.2.1 [.ref 1, .ref 56]) [] (SH, jn C0 D) (some (.int v)) (SH, jn C0 D) := by
  show mj_R M_Tw_firstUnlike 0 [some (.ref 1), some (.ref 56), none, none] [] _ _ _
  unfold f_Tw_firstUnlike_1 at h
  refine mj_aload_n (pc := 0) (i := 0) d_Tw_firstUnlike_0 rfl rfl (by decide) ?_
  refine cj_getI (pc := 1) d_Tw_firstUnlike_1 fl_Tw_59 sh_1 rfl (by decide) (by decide) (by decide) ?_
  refine mj_aload_n (pc := 4) (i := 1) d_Tw_firstUnlike_4 rfl rfl (by decide) ?_
  refine cj_getI (pc := 5) d_Tw_firstUnlike_5 fl_Tw_59 sh_56 rfl (by decide) (by decide) (by decide) ?_
  refine mj_min (pc := 8) d_Tw_firstUnlike_8 mn_Tw_82 (by decide) (Nat.le_of_ble_eq_true rfl) ?_
  refine mj_istore_n (pc := 11) (i := 2) d_Tw_firstUnlike_11 rfl rfl (by decide) ?_
  refine mj_iconst (pc := 12) (v := 0) d_Tw_firstUnlike_12 (by decide) ?_
  refine mj_istore_n (pc := 13) (i := 3) d_Tw_firstUnlike_13 rfl rfl (by decide) ?_
  rcases bdS_some h with ⟨e11, hl8, h⟩ | ⟨_u, hl8, h⟩
  · refine mj_weak [some (.ref 1), some (.ref 56), some (.int (if (C0 56 0) < (C0 1 0) then C0 56 0 else C0 1 0)), some (.int 0)] (And.intro rfl (And.intro rfl (And.intro rfl (And.intro rfl trivial)))) (l_Tw_firstUnlike_1_14 3000 _ _ _ _ hl8 (fun a e => ?_) (fun a e => nomatch e))
    cases e
    cases h
    exact ⟨rfl, rfl⟩
  · refine mj_weak [some (.ref 1), some (.ref 56), some (.int (if (C0 56 0) < (C0 1 0) then C0 56 0 else C0 1 0)), some (.int 0)] (And.intro rfl (And.intro rfl (And.intro rfl (And.intro rfl trivial)))) (l_Tw_firstUnlike_1_14 3000 _ _ _ _ hl8 (fun a e => nomatch e) (fun a e => ?_))
    cases e
    refine mj_aload_n (pc := 57) (i := 0) d_Tw_firstUnlike_57 rfl rfl (by decide) ?_
    refine cj_getI (pc := 58) d_Tw_firstUnlike_58 fl_Tw_59 sh_1 rfl (by decide) (by decide) (by decide) ?_
    refine mj_aload_n (pc := 61) (i := 1) d_Tw_firstUnlike_61 rfl rfl (by decide) ?_
    refine cj_getI (pc := 62) d_Tw_firstUnlike_62 fl_Tw_59 sh_56 rfl (by decide) (by decide) (by decide) ?_
    have k10 : mj_R M_Tw_firstUnlike 74 [none, none, none, none] [.int (if (C0 1 0) = (C0 56 0) then (-1000000005) else (if (C0 56 0) < (C0 1 0) then C0 56 0 else C0 1 0))] (SH, jn C0 D) (some (.int v)) (SH, jn C0 D) := by
      cases h
      exact mj_iret (pc := 74) d_Tw_firstUnlike_74 rfl
    refine mj_icmp_ne (pc := 65) (tgt := 73) d_Tw_firstUnlike_65 (by decide) mj_hs (fun hc9 => ?_) (fun hc9 => ?_)
    · refine mj_iload_n (pc := 73) (i := 2) d_Tw_firstUnlike_73 rfl rfl ?_
      simp only [if_neg hc9] at k10
      exact mj_weak _ trivial k10
    · refine mj_ldc (pc := 68) (v := -1000000005) d_Tw_firstUnlike_68 k_Tw_66 ?_
      refine mj_goto (pc := 70) (tgt := 74) d_Tw_firstUnlike_70 (by decide) ?_
      simp only [if_pos hc9] at k10
      exact mj_weak _ trivial k10
set_option maxRecDepth 20000 in
theorem l_Sk_isAlike_2_17 {r : Option Value} {D y : St} : ∀ (n : Nat) (y3 : Int32) (y4 : Int32) (C : St) (o : (Int32) ⊕ (Unit)), L_Sk_isAlike_2_17 n y3 y4 C = some o → (∀ a : Int32, o = .inl a → r = some (.int a) ∧ y = jn C D) → (∀ a : Unit, o = .inr a → mj_R M_Sk_isAlike 48 [none, none, none, none, none] [] (SH, jn C D) r (SH, y)) → mj_R M_Sk_isAlike 17 [some (.ref 7), some (.ref 78), none, some (.int y3), some (.int y4)] [] (SH, jn C D) r (SH, y) := by
  intro n
  induction n with
  | zero => intro y3 y4 C o h; cases h
  | succ n ih =>
    intro y3 y4 C o h hE hX
    unfold L_Sk_isAlike_2_17 at h
    refine mj_iload (pc := 17) (i := 4) d_Sk_isAlike_17 rfl ?_
    refine mj_iload_n (pc := 19) (i := 3) d_Sk_isAlike_19 rfl rfl ?_
    refine mj_icmp_ge (pc := 20) (tgt := 48) d_Sk_isAlike_20 (by decide) mj_hs (fun hc1 => ?_) (fun hc1 => ?_)
    · rw [if_pos hc1] at h
      cases h
      exact mj_weak _ trivial (hX _ rfl)
    · rw [if_neg hc1] at h
      refine mj_aload_n (pc := 23) (i := 0) d_Sk_isAlike_23 rfl rfl (by decide) ?_
      refine mj_getR (pc := 24) d_Sk_isAlike_24 fl_Sk_9 sh_7 rfl rfl (by decide) (by decide) (by decide) ?_
      refine mj_iload (pc := 27) (i := 4) d_Sk_isAlike_27 rfl ?_
      obtain ⟨hg2, h⟩ := mj_gd h
      refine cj_iald (pc := 29) d_Sk_isAlike_29 sh_8 (by decide) hg2 (by decide) ?_
      refine mj_aload_n (pc := 30) (i := 1) d_Sk_isAlike_30 rfl rfl (by decide) ?_
      refine mj_getR (pc := 31) d_Sk_isAlike_31 fl_Sk_9 sh_78 rfl rfl (by decide) (by decide) (by decide) ?_
      refine mj_iload (pc := 34) (i := 4) d_Sk_isAlike_34 rfl ?_
      refine cj_iald (pc := 36) d_Sk_isAlike_36 sh_79 (by decide) hg2 (by decide) ?_
      refine mj_icmp_eq (pc := 37) (tgt := 42) d_Sk_isAlike_37 (by decide) mj_hs (fun hc4 => ?_) (fun hc4 => ?_)
      · rw [if_pos hc4] at h
        refine mj_iinc (pc := 42) (i := 4) (v := y4 + 1) d_Sk_isAlike_42 rfl (by rfl) rfl (by decide) ?_
        refine mj_goto (pc := 45) (tgt := 17) d_Sk_isAlike_45 (by decide) ?_
        exact mj_weak [some (.ref 7), some (.ref 78), none, some (.int y3), some (.int (y4 + 1))] (And.intro rfl (And.intro rfl (And.intro rfl (And.intro rfl trivial)))) (ih _ _ _ _ h hE hX)
      · rw [if_neg hc4] at h
        refine mj_iconst (pc := 40) (v := 0) d_Sk_isAlike_40 (by decide) ?_
        cases h
        obtain ⟨e1, e2⟩ := hE _ rfl
        subst e1
        subst e2
        exact mj_zret (pc := 41) (ty := .boolean) d_Sk_isAlike_41 rfl (mj_b01 (by decide))
set_option maxRecDepth 20000 in
theorem r_Sk_isAlike_2 {x2 : Int32} {C0 D : St} {v : Int32} (h : f_Sk_isAlike_2 x2 C0 = some v) : mj_R M_Sk_isAlike 0 (mj_lv M_Sk_isAlike.2.2.1 [.ref 7, .ref 78, .int x2]) [] (SH, jn C0 D) (some (.int v)) (SH, jn C0 D) := by
  show mj_R M_Sk_isAlike 0 [some (.ref 7), some (.ref 78), some (.int x2), none, none] [] _ _ _
  unfold f_Sk_isAlike_2 at h
  refine mj_iload_n (pc := 0) (i := 2) d_Sk_isAlike_0 rfl rfl ?_
  refine mj_iconst (pc := 1) (v := 1) d_Sk_isAlike_1 (by decide) ?_
  refine mj_iadd (pc := 2) d_Sk_isAlike_2 ?_
  refine mj_iconst (pc := 3) (v := 5) d_Sk_isAlike_3 (by decide) ?_
  refine mj_imul (pc := 4) d_Sk_isAlike_4 ?_
  refine mj_bipush (pc := 5) (v := 10) d_Sk_isAlike_5 (by decide) ?_
  refine mj_imul (pc := 7) d_Sk_isAlike_7 ?_
  refine mj_istore_n (pc := 8) (i := 3) d_Sk_isAlike_8 rfl rfl (by decide) ?_
  refine mj_iload_n (pc := 9) (i := 2) d_Sk_isAlike_9 rfl rfl ?_
  refine mj_iconst (pc := 10) (v := 5) d_Sk_isAlike_10 (by decide) ?_
  refine mj_imul (pc := 11) d_Sk_isAlike_11 ?_
  refine mj_bipush (pc := 12) (v := 10) d_Sk_isAlike_12 (by decide) ?_
  refine mj_imul (pc := 14) d_Sk_isAlike_14 ?_
  refine mj_istore (pc := 15) (i := 4) d_Sk_isAlike_15 rfl (by decide) ?_
  rcases bdS_some h with ⟨e6, hl5, h⟩ | ⟨_u, hl5, h⟩
  · refine mj_weak [some (.ref 7), some (.ref 78), none, some (.int (((x2 + 1) * 5) * 10)), some (.int ((x2 * 5) * 10))] (And.intro rfl (And.intro rfl (And.intro rfl (And.intro rfl trivial)))) (l_Sk_isAlike_2_17 3000 _ _ _ _ hl5 (fun a e => ?_) (fun a e => nomatch e))
    cases e
    cases h
    exact ⟨rfl, rfl⟩
  · refine mj_weak [some (.ref 7), some (.ref 78), none, some (.int (((x2 + 1) * 5) * 10)), some (.int ((x2 * 5) * 10))] (And.intro rfl (And.intro rfl (And.intro rfl (And.intro rfl trivial)))) (l_Sk_isAlike_2_17 3000 _ _ _ _ hl5 (fun a e => nomatch e) (fun a e => ?_))
    cases e
    refine mj_iconst (pc := 48) (v := 1) d_Sk_isAlike_48 (by decide) ?_
    cases h
    exact mj_zret (pc := 49) (ty := .boolean) d_Sk_isAlike_49 rfl (mj_b01 (by decide))
set_option maxRecDepth 20000 in
theorem l_Tw_firstUnlike_2_14 {r : Option Value} {D y : St} : ∀ (n : Nat) (y2 : Int32) (y3 : Int32) (C : St) (o : (Int32) ⊕ (Unit)), L_Tw_firstUnlike_2_14 n y2 y3 C = some o → (∀ a : Int32, o = .inl a → r = some (.int a) ∧ y = jn C D) → (∀ a : Unit, o = .inr a → mj_R M_Tw_firstUnlike 57 [some (.ref 1), some (.ref 72), some (.int y2), none] [] (SH, jn C D) r (SH, y)) → mj_R M_Tw_firstUnlike 14 [some (.ref 1), some (.ref 72), some (.int y2), some (.int y3)] [] (SH, jn C D) r (SH, y) := by
  intro n
  induction n with
  | zero => intro y2 y3 C o h; cases h
  | succ n ih =>
    intro y2 y3 C o h hE hX
    unfold L_Tw_firstUnlike_2_14 at h
    refine mj_iload_n (pc := 14) (i := 3) d_Tw_firstUnlike_14 rfl rfl ?_
    refine mj_iload_n (pc := 15) (i := 2) d_Tw_firstUnlike_15 rfl rfl ?_
    refine mj_icmp_ge (pc := 16) (tgt := 57) d_Tw_firstUnlike_16 (by decide) mj_hs (fun hc1 => ?_) (fun hc1 => ?_)
    · rw [if_pos hc1] at h
      cases h
      exact mj_weak _ (And.intro rfl (And.intro rfl (And.intro rfl trivial))) (hX _ rfl)
    · rw [if_neg hc1] at h
      refine mj_aload_n (pc := 19) (i := 0) d_Tw_firstUnlike_19 rfl rfl (by decide) ?_
      refine mj_getR (pc := 20) d_Tw_firstUnlike_20 fl_Tw_19 sh_1 rfl rfl (by decide) (by decide) (by decide) ?_
      refine mj_iload_n (pc := 23) (i := 3) d_Tw_firstUnlike_23 rfl rfl ?_
      obtain ⟨hg2, h⟩ := mj_gd h
      refine cj_iald (pc := 24) d_Tw_firstUnlike_24 sh_3 (by decide) hg2 (by decide) ?_
      refine mj_aload_n (pc := 25) (i := 1) d_Tw_firstUnlike_25 rfl rfl (by decide) ?_
      refine mj_getR (pc := 26) d_Tw_firstUnlike_26 fl_Tw_19 sh_72 rfl rfl (by decide) (by decide) (by decide) ?_
      refine mj_iload_n (pc := 29) (i := 3) d_Tw_firstUnlike_29 rfl rfl ?_
      refine cj_iald (pc := 30) d_Tw_firstUnlike_30 sh_74 (by decide) hg2 (by decide) ?_
      refine mj_icmp_ne (pc := 31) (tgt := 49) d_Tw_firstUnlike_31 (by decide) mj_hs (fun hc4 => ?_) (fun hc4 => ?_)
      · rw [if_neg hc4] at h
        refine mj_iload_n (pc := 49) (i := 3) d_Tw_firstUnlike_49 rfl rfl ?_
        cases h
        obtain ⟨e1, e2⟩ := hE _ rfl
        subst e1
        subst e2
        exact mj_iret (pc := 50) d_Tw_firstUnlike_50 rfl
      · rw [if_pos hc4] at h
        refine mj_aload_n (pc := 34) (i := 0) d_Tw_firstUnlike_34 rfl rfl (by decide) ?_
        refine mj_getR (pc := 35) d_Tw_firstUnlike_35 fl_Tw_34 sh_1 rfl rfl (by decide) (by decide) (by decide) ?_
        refine mj_aload_n (pc := 38) (i := 1) d_Tw_firstUnlike_38 rfl rfl (by decide) ?_
        refine mj_getR (pc := 39) d_Tw_firstUnlike_39 fl_Tw_34 sh_72 rfl rfl (by decide) (by decide) (by decide) ?_
        refine mj_iload_n (pc := 42) (i := 3) d_Tw_firstUnlike_42 rfl rfl ?_
        obtain ⟨v5, hb6, h⟩ := bd1_some h
        refine mj_callV (pc := 43) (b := 7) (vs := [.ref 78, .int y3]) (st := []) d_Tw_firstUnlike_43 bB_Tw_firstUnlike_Sk_isAlike lk_Tw_87 iv_Sk_isAlike rc_7 rfl (Nat.le_of_ble_eq_true rfl) (Nat.le_of_ble_eq_true rfl) (r_Sk_isAlike_2 hb6) ?_
        show mj_R M_Tw_firstUnlike 46 [some (.ref 1), some (.ref 72), some (.int y2), some (.int y3)] [.int v5] (SH, jn C D) r (SH, y)
        refine mj_if_ne (y := 0) (pc := 46) (tgt := 51) d_Tw_firstUnlike_46 (by decide) mj_hs (fun hc7 => ?_) (fun hc7 => ?_)
        · rw [if_neg hc7] at h
          refine mj_iinc (pc := 51) (i := 3) (v := y3 + 1) d_Tw_firstUnlike_51 rfl (by rfl) rfl (by decide) ?_
          refine mj_goto (pc := 54) (tgt := 14) d_Tw_firstUnlike_54 (by decide) ?_
          exact mj_weak [some (.ref 1), some (.ref 72), some (.int y2), some (.int (y3 + 1))] (And.intro rfl (And.intro rfl (And.intro rfl (And.intro rfl trivial)))) (ih _ _ _ _ h hE hX)
        · rw [if_pos hc7] at h
          refine mj_iload_n (pc := 49) (i := 3) d_Tw_firstUnlike_49 rfl rfl ?_
          cases h
          obtain ⟨e1, e2⟩ := hE _ rfl
          subst e1
          subst e2
          exact mj_iret (pc := 50) d_Tw_firstUnlike_50 rfl
set_option maxRecDepth 20000 in
theorem r_Tw_firstUnlike_2  {C0 D : St} {v : Int32} (h : f_Tw_firstUnlike_2 C0 = some v) : mj_R M_Tw_firstUnlike 0 (mj_lv M_Tw_firstUnlike.2.2.1 [.ref 1, .ref 72]) [] (SH, jn C0 D) (some (.int v)) (SH, jn C0 D) := by
  show mj_R M_Tw_firstUnlike 0 [some (.ref 1), some (.ref 72), none, none] [] _ _ _
  unfold f_Tw_firstUnlike_2 at h
  refine mj_aload_n (pc := 0) (i := 0) d_Tw_firstUnlike_0 rfl rfl (by decide) ?_
  refine cj_getI (pc := 1) d_Tw_firstUnlike_1 fl_Tw_59 sh_1 rfl (by decide) (by decide) (by decide) ?_
  refine mj_aload_n (pc := 4) (i := 1) d_Tw_firstUnlike_4 rfl rfl (by decide) ?_
  refine cj_getI (pc := 5) d_Tw_firstUnlike_5 fl_Tw_59 sh_72 rfl (by decide) (by decide) (by decide) ?_
  refine mj_min (pc := 8) d_Tw_firstUnlike_8 mn_Tw_82 (by decide) (Nat.le_of_ble_eq_true rfl) ?_
  refine mj_istore_n (pc := 11) (i := 2) d_Tw_firstUnlike_11 rfl rfl (by decide) ?_
  refine mj_iconst (pc := 12) (v := 0) d_Tw_firstUnlike_12 (by decide) ?_
  refine mj_istore_n (pc := 13) (i := 3) d_Tw_firstUnlike_13 rfl rfl (by decide) ?_
  rcases bdS_some h with ⟨e11, hl8, h⟩ | ⟨_u, hl8, h⟩
  · refine mj_weak [some (.ref 1), some (.ref 72), some (.int (if (C0 72 0) < (C0 1 0) then C0 72 0 else C0 1 0)), some (.int 0)] (And.intro rfl (And.intro rfl (And.intro rfl (And.intro rfl trivial)))) (l_Tw_firstUnlike_2_14 3000 _ _ _ _ hl8 (fun a e => ?_) (fun a e => nomatch e))
    cases e
    cases h
    exact ⟨rfl, rfl⟩
  · refine mj_weak [some (.ref 1), some (.ref 72), some (.int (if (C0 72 0) < (C0 1 0) then C0 72 0 else C0 1 0)), some (.int 0)] (And.intro rfl (And.intro rfl (And.intro rfl (And.intro rfl trivial)))) (l_Tw_firstUnlike_2_14 3000 _ _ _ _ hl8 (fun a e => nomatch e) (fun a e => ?_))
    cases e
    refine mj_aload_n (pc := 57) (i := 0) d_Tw_firstUnlike_57 rfl rfl (by decide) ?_
    refine cj_getI (pc := 58) d_Tw_firstUnlike_58 fl_Tw_59 sh_1 rfl (by decide) (by decide) (by decide) ?_
    refine mj_aload_n (pc := 61) (i := 1) d_Tw_firstUnlike_61 rfl rfl (by decide) ?_
    refine cj_getI (pc := 62) d_Tw_firstUnlike_62 fl_Tw_59 sh_72 rfl (by decide) (by decide) (by decide) ?_
    have k10 : mj_R M_Tw_firstUnlike 74 [none, none, none, none] [.int (if (C0 1 0) = (C0 72 0) then (-1000000005) else (if (C0 72 0) < (C0 1 0) then C0 72 0 else C0 1 0))] (SH, jn C0 D) (some (.int v)) (SH, jn C0 D) := by
      cases h
      exact mj_iret (pc := 74) d_Tw_firstUnlike_74 rfl
    refine mj_icmp_ne (pc := 65) (tgt := 73) d_Tw_firstUnlike_65 (by decide) mj_hs (fun hc9 => ?_) (fun hc9 => ?_)
    · refine mj_iload_n (pc := 73) (i := 2) d_Tw_firstUnlike_73 rfl rfl ?_
      simp only [if_neg hc9] at k10
      exact mj_weak _ trivial k10
    · refine mj_ldc (pc := 68) (v := -1000000005) d_Tw_firstUnlike_68 k_Tw_66 ?_
      refine mj_goto (pc := 70) (tgt := 74) d_Tw_firstUnlike_70 (by decide) ?_
      simp only [if_pos hc9] at k10
      exact mj_weak _ trivial k10
set_option maxRecDepth 20000 in
theorem r_Mk_differs {x1 : Int32} {C0 D : St} {v : Int32} (h : f_Mk_differs x1 C0 = some v) : mj_R M_Mk_differs 0 (mj_lv M_Mk_differs.2.2.1 [.ref 0, .int x1]) [] (SH, jn C0 D) (some (.int v)) (SH, jn C0 D) := by
  show mj_R M_Mk_differs 0 [some (.ref 0), some (.int x1)] [] _ _ _
  unfold f_Mk_differs at h
  refine mj_iload_n (pc := 0) (i := 1) d_Mk_differs_0 rfl rfl ?_
  refine mj_iconst (pc := 1) (v := 0) d_Mk_differs_1 (by decide) ?_
  refine mj_iconst (pc := 2) (v := 2) d_Mk_differs_2 (by decide) ?_
  obtain ⟨v1, hb2, h⟩ := bd1_some h
  refine mj_callS (pc := 3) (vs := [.int x1, .int 0, .int 2]) (st := []) d_Mk_differs_3 bB_Mk_differs_Mk_isWithin lk_Mk_50 st_Mk_isWithin rfl (Nat.le_of_ble_eq_true rfl) (Nat.le_of_ble_eq_true rfl) (r_Mk_isWithin hb2) ?_
  show mj_R M_Mk_differs 6 [some (.ref 0), some (.int x1)] [.int v1] (SH, jn C0 D) (some (.int v)) (SH, jn C0 D)
  refine mj_if_ne (y := 0) (pc := 6) (tgt := 12) d_Mk_differs_6 (by decide) mj_hs (fun hc3 => ?_) (fun hc3 => ?_)
  · rw [if_neg hc3] at h
    refine mj_aload_n (pc := 12) (i := 0) d_Mk_differs_12 rfl rfl (by decide) ?_
    refine mj_getR (pc := 13) d_Mk_differs_13 fl_Mk_20 sh_0 rfl rfl (by decide) (by decide) (by decide) ?_
    refine mj_iload_n (pc := 16) (i := 1) d_Mk_differs_16 rfl rfl ?_
    obtain ⟨hg4, h⟩ := mj_gd h
    refine cj_zald (pc := 17) d_Mk_differs_17 sh_18 (by decide) hg4 (by decide) ?_
    obtain ⟨w15, hb17, h⟩ := bd1_some h
    have k16 : mj_R M_Mk_differs 39 [none, none] [.int w15] (SH, jn C0 D) (some (.int v)) (SH, jn C0 D) := by
      cases h
      exact mj_iret (pc := 39) d_Mk_differs_39 rfl
    have h := hb17
    refine mj_if_eq (y := 0) (pc := 18) (tgt := 37) d_Mk_differs_18 (by decide) mj_hs (fun hc5 => ?_) (fun hc5 => ?_)
    · rw [if_pos hc5] at h
      refine mj_ldc (pc := 37) (v := -1000000002) d_Mk_differs_37 k_Mk_205 ?_
      cases h
      exact mj_weak _ trivial k16
    · rw [if_neg hc5] at h
      refine mj_aload_n (pc := 21) (i := 0) d_Mk_differs_21 rfl rfl (by decide) ?_
      refine mj_getR (pc := 22) d_Mk_differs_22 fl_Mk_10 sh_0 rfl rfl (by decide) (by decide) (by decide) ?_
      refine mj_aload_n (pc := 25) (i := 0) d_Mk_differs_25 rfl rfl (by decide) ?_
      refine mj_getR (pc := 26) d_Mk_differs_26 fl_Mk_16 sh_0 rfl rfl (by decide) (by decide) (by decide) ?_
      refine mj_iload_n (pc := 29) (i := 1) d_Mk_differs_29 rfl rfl ?_
      by_cases hc8 : x1 = 0
      · rw [if_pos hc8] at h
        refine mj_aaldE (pc := 30) 0 d_Mk_differs_30 hc8 sh_17 (by decide) (by decide) rfl (by decide) ?_
        obtain ⟨v6, hb7, h⟩ := bd1_some h
        refine mj_callV (pc := 31) (b := 1) (vs := [.ref 40]) (st := []) d_Mk_differs_31 bB_Mk_differs_Tw_firstUnlike lk_Mk_206 iv_Tw_firstUnlike rc_1 rfl (Nat.le_of_ble_eq_true rfl) (Nat.le_of_ble_eq_true rfl) (r_Tw_firstUnlike hb7) ?_
        show mj_R M_Mk_differs 34 [some (.ref 0), some (.int x1)] [.int v6] (SH, jn C0 D) (some (.int v)) (SH, jn C0 D)
        refine mj_goto (pc := 34) (tgt := 39) d_Mk_differs_34 (by decide) ?_
        cases h
        exact mj_weak _ trivial k16
      · rw [if_neg hc8] at h
        by_cases hc11 : x1 = 1
        · rw [if_pos hc11] at h
          refine mj_aaldE (pc := 30) 1 d_Mk_differs_30 hc11 sh_17 (by decide) (by decide) rfl (by decide) ?_
          obtain ⟨v9, hb10, h⟩ := bd1_some h
          refine mj_callV (pc := 31) (b := 1) (vs := [.ref 56]) (st := []) d_Mk_differs_31 bB_Mk_differs_Tw_firstUnlike lk_Mk_206 iv_Tw_firstUnlike rc_1 rfl (Nat.le_of_ble_eq_true rfl) (Nat.le_of_ble_eq_true rfl) (r_Tw_firstUnlike_1 hb10) ?_
          show mj_R M_Mk_differs 34 [some (.ref 0), some (.int x1)] [.int v9] (SH, jn C0 D) (some (.int v)) (SH, jn C0 D)
          refine mj_goto (pc := 34) (tgt := 39) d_Mk_differs_34 (by decide) ?_
          cases h
          exact mj_weak _ trivial k16
        · rw [if_neg hc11] at h
          by_cases hc14 : x1 = 2
          · rw [if_pos hc14] at h
            refine mj_aaldE (pc := 30) 2 d_Mk_differs_30 hc14 sh_17 (by decide) (by decide) rfl (by decide) ?_
            obtain ⟨v12, hb13, h⟩ := bd1_some h
            refine mj_callV (pc := 31) (b := 1) (vs := [.ref 72]) (st := []) d_Mk_differs_31 bB_Mk_differs_Tw_firstUnlike lk_Mk_206 iv_Tw_firstUnlike rc_1 rfl (Nat.le_of_ble_eq_true rfl) (Nat.le_of_ble_eq_true rfl) (r_Tw_firstUnlike_2 hb13) ?_
            show mj_R M_Mk_differs 34 [some (.ref 0), some (.int x1)] [.int v12] (SH, jn C0 D) (some (.int v)) (SH, jn C0 D)
            refine mj_goto (pc := 34) (tgt := 39) d_Mk_differs_34 (by decide) ?_
            cases h
            exact mj_weak _ trivial k16
          · rw [if_neg hc14] at h
            cases h
  · rw [if_pos hc3] at h
    refine mj_ldc (pc := 9) (v := -1000000001) d_Mk_differs_9 k_Mk_54 ?_
    cases h
    exact mj_iret (pc := 11) d_Mk_differs_11 rfl
set_option maxRecDepth 20000 in
theorem l_Tw_cashInAll_4 {r : Option Value} {D y : St} : ∀ (n : Nat) (y1 : Int32) (y2 : Int32) (C : St) (o1_ : Int32), L_Tw_cashInAll_4 n y1 y2 C = some o1_ → mj_R M_Tw_cashInAll 27 [none, some (.int o1_), none] [] (SH, jn C D) r (SH, y) → mj_R M_Tw_cashInAll 4 [some (.ref 1), some (.int y1), some (.int y2)] [] (SH, jn C D) r (SH, y) := by
  intro n
  induction n with
  | zero => intro y1 y2 C o1_ h; cases h
  | succ n ih =>
    intro y1 y2 C o1_ h hX
    unfold L_Tw_cashInAll_4 at h
    refine mj_iload_n (pc := 4) (i := 2) d_Tw_cashInAll_4 rfl rfl ?_
    refine mj_aload_n (pc := 5) (i := 0) d_Tw_cashInAll_5 rfl rfl (by decide) ?_
    refine cj_getI (pc := 6) d_Tw_cashInAll_6 fl_Tw_59 sh_1 rfl (by decide) (by decide) (by decide) ?_
    refine mj_icmp_ge (pc := 9) (tgt := 27) d_Tw_cashInAll_9 (by decide) mj_hs (fun hc1 => ?_) (fun hc1 => ?_)
    · rw [if_pos hc1] at h
      cases h
      exact mj_weak _ (And.intro rfl trivial) hX
    · rw [if_neg hc1] at h
      refine mj_iload_n (pc := 12) (i := 1) d_Tw_cashInAll_12 rfl rfl ?_
      refine mj_aload_n (pc := 13) (i := 0) d_Tw_cashInAll_13 rfl rfl (by decide) ?_
      refine mj_getR (pc := 14) d_Tw_cashInAll_14 fl_Tw_19 sh_1 rfl rfl (by decide) (by decide) (by decide) ?_
      refine mj_iload_n (pc := 17) (i := 2) d_Tw_cashInAll_17 rfl rfl ?_
      obtain ⟨hg2, h⟩ := mj_gd h
      refine cj_iald (pc := 18) d_Tw_cashInAll_18 sh_3 (by decide) hg2 (by decide) ?_
      refine mj_iadd (pc := 19) d_Tw_cashInAll_19 ?_
      refine mj_istore_n (pc := 20) (i := 1) d_Tw_cashInAll_20 rfl rfl (by decide) ?_
      refine mj_iinc (pc := 21) (i := 2) (v := y2 + 1) d_Tw_cashInAll_21 rfl (by rfl) rfl (by decide) ?_
      refine mj_goto (pc := 24) (tgt := 4) d_Tw_cashInAll_24 (by decide) ?_
      exact mj_weak [some (.ref 1), some (.int (y1 + (C 3 y2.toNatClampNeg))), some (.int (y2 + 1))] (And.intro rfl (And.intro rfl (And.intro rfl trivial))) (ih _ _ _ _ h hX)
set_option maxRecDepth 20000 in
theorem r_Tw_cashInAll  {C0 D : St} {v : Int32} (h : f_Tw_cashInAll C0 = some v) : mj_R M_Tw_cashInAll 0 (mj_lv M_Tw_cashInAll.2.2.1 [.ref 1]) [] (SH, jn C0 D) (some (.int v)) (SH, jn C0 D) := by
  show mj_R M_Tw_cashInAll 0 [some (.ref 1), none, none] [] _ _ _
  unfold f_Tw_cashInAll at h
  refine mj_iconst (pc := 0) (v := 0) d_Tw_cashInAll_0 (by decide) ?_
  refine mj_istore_n (pc := 1) (i := 1) d_Tw_cashInAll_1 rfl rfl (by decide) ?_
  refine mj_iconst (pc := 2) (v := 0) d_Tw_cashInAll_2 (by decide) ?_
  refine mj_istore_n (pc := 3) (i := 2) d_Tw_cashInAll_3 rfl rfl (by decide) ?_
  obtain ⟨o3, hl4, h⟩ := bd1_some h
  refine mj_weak [some (.ref 1), some (.int 0), some (.int 0)] (And.intro rfl (And.intro rfl (And.intro rfl trivial))) (l_Tw_cashInAll_4 3000 _ _ _ _ hl4 ?_)
  refine mj_iload_n (pc := 27) (i := 1) d_Tw_cashInAll_27 rfl rfl ?_
  cases h
  exact mj_iret (pc := 28) d_Tw_cashInAll_28 rfl
set_option maxRecDepth 20000 in
theorem l_Tw_brokeAgents_4 {r : Option Value} {D y : St} : ∀ (n : Nat) (y1 : Int32) (y2 : Int32) (C : St) (o1_ : Int32), L_Tw_brokeAgents_4 n y1 y2 C = some o1_ → mj_R M_Tw_brokeAgents 27 [none, some (.int o1_), none] [] (SH, jn C D) r (SH, y) → mj_R M_Tw_brokeAgents 4 [some (.ref 1), some (.int y1), some (.int y2)] [] (SH, jn C D) r (SH, y) := by
  intro n
  induction n with
  | zero => intro y1 y2 C o1_ h; cases h
  | succ n ih =>
    intro y1 y2 C o1_ h hX
    unfold L_Tw_brokeAgents_4 at h
    refine mj_iload_n (pc := 4) (i := 2) d_Tw_brokeAgents_4 rfl rfl ?_
    refine mj_aload_n (pc := 5) (i := 0) d_Tw_brokeAgents_5 rfl rfl (by decide) ?_
    refine cj_getI (pc := 6) d_Tw_brokeAgents_6 fl_Tw_59 sh_1 rfl (by decide) (by decide) (by decide) ?_
    refine mj_icmp_ge (pc := 9) (tgt := 27) d_Tw_brokeAgents_9 (by decide) mj_hs (fun hc1 => ?_) (fun hc1 => ?_)
    · rw [if_pos hc1] at h
      cases h
      exact mj_weak _ (And.intro rfl trivial) hX
    · rw [if_neg hc1] at h
      refine mj_iload_n (pc := 12) (i := 1) d_Tw_brokeAgents_12 rfl rfl ?_
      refine mj_aload_n (pc := 13) (i := 0) d_Tw_brokeAgents_13 rfl rfl (by decide) ?_
      refine mj_getR (pc := 14) d_Tw_brokeAgents_14 fl_Tw_22 sh_1 rfl rfl (by decide) (by decide) (by decide) ?_
      refine mj_iload_n (pc := 17) (i := 2) d_Tw_brokeAgents_17 rfl rfl ?_
      obtain ⟨hg2, h⟩ := mj_gd h
      refine cj_iald (pc := 18) d_Tw_brokeAgents_18 sh_4 (by decide) hg2 (by decide) ?_
      refine mj_iadd (pc := 19) d_Tw_brokeAgents_19 ?_
      refine mj_istore_n (pc := 20) (i := 1) d_Tw_brokeAgents_20 rfl rfl (by decide) ?_
      refine mj_iinc (pc := 21) (i := 2) (v := y2 + 1) d_Tw_brokeAgents_21 rfl (by rfl) rfl (by decide) ?_
      refine mj_goto (pc := 24) (tgt := 4) d_Tw_brokeAgents_24 (by decide) ?_
      exact mj_weak [some (.ref 1), some (.int (y1 + (C 4 y2.toNatClampNeg))), some (.int (y2 + 1))] (And.intro rfl (And.intro rfl (And.intro rfl trivial))) (ih _ _ _ _ h hX)
set_option maxRecDepth 20000 in
theorem r_Tw_brokeAgents  {C0 D : St} {v : Int32} (h : f_Tw_brokeAgents C0 = some v) : mj_R M_Tw_brokeAgents 0 (mj_lv M_Tw_brokeAgents.2.2.1 [.ref 1]) [] (SH, jn C0 D) (some (.int v)) (SH, jn C0 D) := by
  show mj_R M_Tw_brokeAgents 0 [some (.ref 1), none, none] [] _ _ _
  unfold f_Tw_brokeAgents at h
  refine mj_iconst (pc := 0) (v := 0) d_Tw_brokeAgents_0 (by decide) ?_
  refine mj_istore_n (pc := 1) (i := 1) d_Tw_brokeAgents_1 rfl rfl (by decide) ?_
  refine mj_iconst (pc := 2) (v := 0) d_Tw_brokeAgents_2 (by decide) ?_
  refine mj_istore_n (pc := 3) (i := 2) d_Tw_brokeAgents_3 rfl rfl (by decide) ?_
  obtain ⟨o3, hl4, h⟩ := bd1_some h
  refine mj_weak [some (.ref 1), some (.int 0), some (.int 0)] (And.intro rfl (And.intro rfl (And.intro rfl trivial))) (l_Tw_brokeAgents_4 3000 _ _ _ _ hl4 ?_)
  refine mj_iload_n (pc := 27) (i := 1) d_Tw_brokeAgents_27 rfl rfl ?_
  cases h
  exact mj_iret (pc := 28) d_Tw_brokeAgents_28 rfl
set_option maxRecDepth 20000 in
theorem l_Tw_paidByAll_4 {r : Option Value} {D y : St} : ∀ (n : Nat) (y1 : Int32) (y2 : Int32) (C : St) (o1_ : Int32), L_Tw_paidByAll_4 n y1 y2 C = some o1_ → mj_R M_Tw_paidByAll 28 [none, some (.int o1_), none] [] (SH, jn C D) r (SH, y) → mj_R M_Tw_paidByAll 4 [some (.ref 1), some (.int y1), some (.int y2)] [] (SH, jn C D) r (SH, y) := by
  intro n
  induction n with
  | zero => intro y1 y2 C o1_ h; cases h
  | succ n ih =>
    intro y1 y2 C o1_ h hX
    unfold L_Tw_paidByAll_4 at h
    refine mj_iload_n (pc := 4) (i := 2) d_Tw_paidByAll_4 rfl rfl ?_
    refine mj_aload_n (pc := 5) (i := 0) d_Tw_paidByAll_5 rfl rfl (by decide) ?_
    refine mj_getR (pc := 6) d_Tw_paidByAll_6 fl_Tw_28 sh_1 rfl rfl (by decide) (by decide) (by decide) ?_
    refine mj_alen (pc := 9) (v := 720) d_Tw_paidByAll_9 sh_6 (by decide) (by decide) ?_
    refine mj_icmp_ge (pc := 10) (tgt := 28) d_Tw_paidByAll_10 (by decide) mj_hs (fun hc1 => ?_) (fun hc1 => ?_)
    · rw [if_pos hc1] at h
      cases h
      exact mj_weak _ (And.intro rfl trivial) hX
    · rw [if_neg hc1] at h
      refine mj_iload_n (pc := 13) (i := 1) d_Tw_paidByAll_13 rfl rfl ?_
      refine mj_aload_n (pc := 14) (i := 0) d_Tw_paidByAll_14 rfl rfl (by decide) ?_
      refine mj_getR (pc := 15) d_Tw_paidByAll_15 fl_Tw_28 sh_1 rfl rfl (by decide) (by decide) (by decide) ?_
      refine mj_iload_n (pc := 18) (i := 2) d_Tw_paidByAll_18 rfl rfl ?_
      obtain ⟨hg2, h⟩ := mj_gd h
      refine cj_iald (pc := 19) d_Tw_paidByAll_19 sh_6 (by decide) hg2 (by decide) ?_
      refine mj_iadd (pc := 20) d_Tw_paidByAll_20 ?_
      refine mj_istore_n (pc := 21) (i := 1) d_Tw_paidByAll_21 rfl rfl (by decide) ?_
      refine mj_iinc (pc := 22) (i := 2) (v := y2 + 1) d_Tw_paidByAll_22 rfl (by rfl) rfl (by decide) ?_
      refine mj_goto (pc := 25) (tgt := 4) d_Tw_paidByAll_25 (by decide) ?_
      exact mj_weak [some (.ref 1), some (.int (y1 + (C 6 y2.toNatClampNeg))), some (.int (y2 + 1))] (And.intro rfl (And.intro rfl (And.intro rfl trivial))) (ih _ _ _ _ h hX)
set_option maxRecDepth 20000 in
theorem r_Tw_paidByAll  {C0 D : St} {v : Int32} (h : f_Tw_paidByAll C0 = some v) : mj_R M_Tw_paidByAll 0 (mj_lv M_Tw_paidByAll.2.2.1 [.ref 1]) [] (SH, jn C0 D) (some (.int v)) (SH, jn C0 D) := by
  show mj_R M_Tw_paidByAll 0 [some (.ref 1), none, none] [] _ _ _
  unfold f_Tw_paidByAll at h
  refine mj_iconst (pc := 0) (v := 0) d_Tw_paidByAll_0 (by decide) ?_
  refine mj_istore_n (pc := 1) (i := 1) d_Tw_paidByAll_1 rfl rfl (by decide) ?_
  refine mj_iconst (pc := 2) (v := 0) d_Tw_paidByAll_2 (by decide) ?_
  refine mj_istore_n (pc := 3) (i := 2) d_Tw_paidByAll_3 rfl rfl (by decide) ?_
  obtain ⟨o3, hl4, h⟩ := bd1_some h
  refine mj_weak [some (.ref 1), some (.int 0), some (.int 0)] (And.intro rfl (And.intro rfl (And.intro rfl trivial))) (l_Tw_paidByAll_4 3000 _ _ _ _ hl4 ?_)
  refine mj_iload_n (pc := 28) (i := 1) d_Tw_paidByAll_28 rfl rfl ?_
  cases h
  exact mj_iret (pc := 29) d_Tw_paidByAll_29 rfl
set_option maxRecDepth 20000 in
theorem r_Mk_count {x1 : Int32} {C0 D : St} {v : Int32} (h : f_Mk_count x1 C0 = some v) : mj_R M_Mk_count 0 (mj_lv M_Mk_count.2.2.1 [.ref 0, .int x1]) [] (SH, jn C0 D) (some (.int v)) (SH, jn C0 D) := by
  show mj_R M_Mk_count 0 [some (.ref 0), some (.int x1)] [] _ _ _
  unfold f_Mk_count at h
  refine mj_iload_n (pc := 0) (i := 1) d_Mk_count_0 rfl rfl ?_
  by_cases hc1 : x1 = 0
  · rw [if_pos hc1] at h
    refine mj_tsEq (pc := 1) (tgt := 48) 0 d_Mk_count_1 hc1 (by decide) (by decide) (by rfl) (by decide) ?_
    refine mj_aload_n (pc := 48) (i := 0) d_Mk_count_48 rfl rfl (by decide) ?_
    refine mj_getR (pc := 49) d_Mk_count_49 fl_Mk_10 sh_0 rfl rfl (by decide) (by decide) (by decide) ?_
    refine cj_getI (pc := 52) d_Mk_count_52 fl_Mk_55 sh_1 rfl (by decide) (by decide) (by decide) ?_
    cases h
    exact mj_iret (pc := 55) d_Mk_count_55 rfl
  · rw [if_neg hc1] at h
    by_cases hc2 : x1 = 1
    · rw [if_pos hc2] at h
      refine mj_tsEq (pc := 1) (tgt := 56) 1 d_Mk_count_1 hc2 (by decide) (by decide) (by rfl) (by decide) ?_
      refine mj_aload_n (pc := 56) (i := 0) d_Mk_count_56 rfl rfl (by decide) ?_
      refine mj_getR (pc := 57) d_Mk_count_57 fl_Mk_10 sh_0 rfl rfl (by decide) (by decide) (by decide) ?_
      refine cj_getI (pc := 60) d_Mk_count_60 fl_Mk_139 sh_1 rfl (by decide) (by decide) (by decide) ?_
      cases h
      exact mj_iret (pc := 63) d_Mk_count_63 rfl
    · rw [if_neg hc2] at h
      by_cases hc3 : x1 = 2
      · rw [if_pos hc3] at h
        refine mj_tsEq (pc := 1) (tgt := 64) 2 d_Mk_count_1 hc3 (by decide) (by decide) (by rfl) (by decide) ?_
        refine mj_aload_n (pc := 64) (i := 0) d_Mk_count_64 rfl rfl (by decide) ?_
        refine mj_getR (pc := 65) d_Mk_count_65 fl_Mk_10 sh_0 rfl rfl (by decide) (by decide) (by decide) ?_
        obtain ⟨v9, hb10, h⟩ := bd1_some h
        refine mj_callV (pc := 68) (b := 1) (vs := []) (st := []) d_Mk_count_68 bB_Mk_count_Tw_cashInAll lk_Mk_210 iv_Tw_cashInAll rc_1 rfl (Nat.le_of_ble_eq_true rfl) (Nat.le_of_ble_eq_true rfl) (r_Tw_cashInAll hb10) ?_
        show mj_R M_Mk_count 71 [some (.ref 0), some (.int x1)] [.int v9] (SH, jn C0 D) (some (.int v)) (SH, jn C0 D)
        cases h
        exact mj_iret (pc := 71) d_Mk_count_71 rfl
      · rw [if_neg hc3] at h
        by_cases hc4 : x1 = 3
        · rw [if_pos hc4] at h
          refine mj_tsEq (pc := 1) (tgt := 72) 3 d_Mk_count_1 hc4 (by decide) (by decide) (by rfl) (by decide) ?_
          refine mj_aload_n (pc := 72) (i := 0) d_Mk_count_72 rfl rfl (by decide) ?_
          refine mj_getR (pc := 73) d_Mk_count_73 fl_Mk_10 sh_0 rfl rfl (by decide) (by decide) (by decide) ?_
          refine mj_getR (pc := 76) d_Mk_count_76 fl_Mk_158 sh_1 rfl rfl (by decide) (by decide) (by decide) ?_
          refine cj_getI (pc := 79) d_Mk_count_79 fl_Mk_195 sh_15 rfl (by decide) (by decide) (by decide) ?_
          cases h
          exact mj_iret (pc := 82) d_Mk_count_82 rfl
        · rw [if_neg hc4] at h
          by_cases hc5 : x1 = 4
          · rw [if_pos hc5] at h
            refine mj_tsEq (pc := 1) (tgt := 83) 4 d_Mk_count_1 hc5 (by decide) (by decide) (by rfl) (by decide) ?_
            refine mj_aload_n (pc := 83) (i := 0) d_Mk_count_83 rfl rfl (by decide) ?_
            refine mj_getR (pc := 84) d_Mk_count_84 fl_Mk_10 sh_0 rfl rfl (by decide) (by decide) (by decide) ?_
            obtain ⟨v11, hb12, h⟩ := bd1_some h
            refine mj_callV (pc := 87) (b := 1) (vs := []) (st := []) d_Mk_count_87 bB_Mk_count_Tw_brokeAgents lk_Mk_214 iv_Tw_brokeAgents rc_1 rfl (Nat.le_of_ble_eq_true rfl) (Nat.le_of_ble_eq_true rfl) (r_Tw_brokeAgents hb12) ?_
            show mj_R M_Mk_count 90 [some (.ref 0), some (.int x1)] [.int v11] (SH, jn C0 D) (some (.int v)) (SH, jn C0 D)
            cases h
            exact mj_iret (pc := 90) d_Mk_count_90 rfl
          · rw [if_neg hc5] at h
            by_cases hc6 : x1 = 5
            · rw [if_pos hc6] at h
              refine mj_tsEq (pc := 1) (tgt := 91) 5 d_Mk_count_1 hc6 (by decide) (by decide) (by rfl) (by decide) ?_
              refine mj_aload_n (pc := 91) (i := 0) d_Mk_count_91 rfl rfl (by decide) ?_
              refine mj_getR (pc := 92) d_Mk_count_92 fl_Mk_27 sh_0 rfl rfl (by decide) (by decide) (by decide) ?_
              refine cj_getI (pc := 95) d_Mk_count_95 fl_Mk_109 sh_19 rfl (by decide) (by decide) (by decide) ?_
              cases h
              exact mj_iret (pc := 98) d_Mk_count_98 rfl
            · rw [if_neg hc6] at h
              by_cases hc7 : x1 = 6
              · rw [if_pos hc7] at h
                refine mj_tsEq (pc := 1) (tgt := 99) 6 d_Mk_count_1 hc7 (by decide) (by decide) (by rfl) (by decide) ?_
                refine mj_aload_n (pc := 99) (i := 0) d_Mk_count_99 rfl rfl (by decide) ?_
                refine mj_getR (pc := 100) d_Mk_count_100 fl_Mk_10 sh_0 rfl rfl (by decide) (by decide) (by decide) ?_
                refine cj_getI (pc := 103) d_Mk_count_103 fl_Mk_98 sh_1 rfl (by decide) (by decide) (by decide) ?_
                cases h
                exact mj_iret (pc := 106) d_Mk_count_106 rfl
              · rw [if_neg hc7] at h
                by_cases hc8 : x1 = 7
                · rw [if_pos hc8] at h
                  refine mj_tsEq (pc := 1) (tgt := 107) 7 d_Mk_count_1 hc8 (by decide) (by decide) (by rfl) (by decide) ?_
                  refine mj_aload_n (pc := 107) (i := 0) d_Mk_count_107 rfl rfl (by decide) ?_
                  refine mj_getR (pc := 108) d_Mk_count_108 fl_Mk_10 sh_0 rfl rfl (by decide) (by decide) (by decide) ?_
                  obtain ⟨v13, hb14, h⟩ := bd1_some h
                  refine mj_callV (pc := 111) (b := 1) (vs := []) (st := []) d_Mk_count_111 bB_Mk_count_Tw_paidByAll lk_Mk_217 iv_Tw_paidByAll rc_1 rfl (Nat.le_of_ble_eq_true rfl) (Nat.le_of_ble_eq_true rfl) (r_Tw_paidByAll hb14) ?_
                  show mj_R M_Mk_count 114 [some (.ref 0), some (.int x1)] [.int v13] (SH, jn C0 D) (some (.int v)) (SH, jn C0 D)
                  cases h
                  exact mj_iret (pc := 114) d_Mk_count_114 rfl
                · rw [if_neg hc8] at h
                  refine mj_tableOut (pc := 1) (tgt := 115) d_Mk_count_1 (by have q0 := i32_ne (n := 0) (by decide) hc1; have q1 := i32_ne (n := 1) (by decide) hc2; have q2 := i32_ne (n := 2) (by decide) hc3; have q3 := i32_ne (n := 3) (by decide) hc4; have q4 := i32_ne (n := 4) (by decide) hc5; have q5 := i32_ne (n := 5) (by decide) hc6; have q6 := i32_ne (n := 6) (by decide) hc7; have q7 := i32_ne (n := 7) (by decide) hc8; omega) (by decide) ?_
                  refine mj_ldc (pc := 115) (v := -1000000001) d_Mk_count_115 k_Mk_54 ?_
                  cases h
                  exact mj_iret (pc := 117) d_Mk_count_117 rfl
