set_option maxRecDepth 20000 in
theorem l_Of_pick_7 {r : Option Value} {D y : St} : ∀ (n : Nat) (y1 : Int32) (y2 : Int32) (y3 : Int32) (C : St) (Q_ : St), L_Of_pick_7 n y1 y2 y3 C = some Q_ → mj_R M_Of_pick 37 [none, none, none, none] [] (SH, jn Q_ D) r (SH, y) → mj_R M_Of_pick 7 [some (.ref 26), some (.int y1), some (.int y2), some (.int y3)] [] (SH, jn C D) r (SH, y) := by
  intro n
  induction n with
  | zero => intro y1 y2 y3 C Q_ h; cases h
  | succ n ih =>
    intro y1 y2 y3 C Q_ h hX
    unfold L_Of_pick_7 at h
    refine mj_iload_n (pc := 7) (i := 3) d_Of_pick_7 rfl rfl ?_
    refine mj_aload_n (pc := 8) (i := 0) d_Of_pick_8 rfl rfl (by decide) ?_
    refine cj_getI (pc := 9) d_Of_pick_9 fl_Of_27 sh_26 rfl (by decide) (by decide) (by decide) ?_
    refine mj_icmp_ge (pc := 12) (tgt := 37) d_Of_pick_12 (by decide) mj_hs (fun hc1 => ?_) (fun hc1 => ?_)
    · rw [if_pos hc1] at h
      cases h
      exact mj_weak _ trivial hX
    · rw [if_neg hc1] at h
      refine mj_aload_n (pc := 15) (i := 0) d_Of_pick_15 rfl rfl (by decide) ?_
      refine mj_getR (pc := 16) d_Of_pick_16 fl_Of_24 sh_26 rfl rfl (by decide) (by decide) (by decide) ?_
      refine mj_iload_n (pc := 19) (i := 3) d_Of_pick_19 rfl rfl ?_
      obtain ⟨hg2, h⟩ := mj_gd h
      refine cj_iald (pc := 20) d_Of_pick_20 sh_31 (by decide) hg2 (by decide) ?_
      refine mj_iload_n (pc := 21) (i := 1) d_Of_pick_21 rfl rfl ?_
      obtain ⟨C6, hb8, h⟩ := bd1_some h
      have k7 : mj_R M_Of_pick 31 [some (.ref 26), some (.int y1), some (.int y2), some (.int y3)] [] (SH, jn C6 D) r (SH, y) := by
        refine mj_iinc (pc := 31) (i := 3) (v := y3 + 1) d_Of_pick_31 rfl (by rfl) rfl (by decide) ?_
        refine mj_goto (pc := 34) (tgt := 7) d_Of_pick_34 (by decide) ?_
        exact mj_weak [some (.ref 26), some (.int y1), some (.int y2), some (.int (y3 + 1))] (And.intro rfl (And.intro rfl (And.intro rfl (And.intro rfl trivial)))) (ih _ _ _ _ _ h hX)
      have h := hb8
      refine mj_icmp_ne (pc := 22) (tgt := 31) d_Of_pick_22 (by decide) mj_hs (fun hc3 => ?_) (fun hc3 => ?_)
      · rw [if_neg hc3] at h
        cases h
        exact mj_weak _ (And.intro rfl (And.intro rfl (And.intro rfl (And.intro rfl trivial)))) k7
      · rw [if_pos hc3] at h
        refine mj_aload_n (pc := 25) (i := 0) d_Of_pick_25 rfl rfl (by decide) ?_
        refine mj_iload_n (pc := 26) (i := 3) d_Of_pick_26 rfl rfl ?_
        refine mj_iload_n (pc := 27) (i := 2) d_Of_pick_27 rfl rfl ?_
        obtain ⟨C4, hb5, h⟩ := bd1_some h
        refine mj_callV (pc := 28) (b := 26) (vs := [.int y3, .int y2]) (st := []) d_Of_pick_28 bB_Of_pick_Of_insert lk_Of_34 iv_Of_insert rc_26 rfl (Nat.le_of_ble_eq_true rfl) (Nat.le_of_ble_eq_true rfl) (r_Of_insert hb5) ?_
        show mj_R M_Of_pick 31 [some (.ref 26), some (.int y1), some (.int y2), some (.int y3)] [] (SH, jn C4 D) r (SH, y)
        cases h
        exact mj_weak _ (And.intro rfl (And.intro rfl (And.intro rfl (And.intro rfl trivial)))) k7
set_option maxRecDepth 20000 in
theorem r_Of_pick {x1 : Int32} {x2 : Int32} {C0 D : St} {C' : St} (h : f_Of_pick x1 x2 C0 = some (C')) : mj_R M_Of_pick 0 (mj_lv M_Of_pick.2.2.1 [.ref 26, .int x1, .int x2]) [] (SH, jn C0 D) none (SH, jn (C') D) := by
  show mj_R M_Of_pick 0 [some (.ref 26), some (.int x1), some (.int x2), none] [] _ _ _
  unfold f_Of_pick at h
  refine mj_aload_n (pc := 0) (i := 0) d_Of_pick_0 rfl rfl (by decide) ?_
  refine mj_iconst (pc := 1) (v := 0) d_Of_pick_1 (by decide) ?_
  refine cj_putI (pc := 2) d_Of_pick_2 fl_Of_31 sh_26 rfl (fun _ _ _ h => by cases h; rfl) (by decide) (by decide) (by decide) ?_
  refine mj_iconst (pc := 5) (v := 0) d_Of_pick_5 (by decide) ?_
  refine mj_istore_n (pc := 6) (i := 3) d_Of_pick_6 rfl rfl (by decide) ?_
  obtain ⟨C9, hl10, h⟩ := bd1_some h
  refine mj_weak [some (.ref 26), some (.int x1), some (.int x2), some (.int 0)] (And.intro rfl (And.intro rfl (And.intro rfl (And.intro rfl trivial)))) (l_Of_pick_7 3000 _ _ _ _ _ hl10 ?_)
  cases h
  exact mj_vret (pc := 37) d_Of_pick_37 rfl
set_option maxRecDepth 20000 in
theorem l_Of_insert_1_5 {r : Option Value} {D y : St} : ∀ (n : Nat) (y1 : Int32) (y2 : Int32) (y3 : Int32) (C : St) (o3_ : Int32) (Q_ : St), L_Of_insert_1_5 n y1 y2 y3 C = some (o3_, Q_) → mj_R M_Of_insert 55 [some (.ref 32), some (.int y1), none, some (.int o3_)] [] (SH, jn Q_ D) r (SH, y) → mj_R M_Of_insert 5 [some (.ref 32), some (.int y1), some (.int y2), some (.int y3)] [] (SH, jn C D) r (SH, y) := by
  intro n
  induction n with
  | zero => intro y1 y2 y3 C o3_ Q_ h; cases h
  | succ n ih =>
    intro y1 y2 y3 C o3_ Q_ h hX
    unfold L_Of_insert_1_5 at h
    refine mj_iload_n (pc := 5) (i := 3) d_Of_insert_5 rfl rfl ?_
    refine mj_if_le (y := 0) (pc := 6) (tgt := 55) d_Of_insert_6 (by decide) mj_hs (fun hc1 => ?_) (fun hc1 => ?_)
    · rw [if_pos hc1] at h
      cases h
      exact mj_weak _ (And.intro rfl (And.intro rfl (And.intro rfl trivial))) hX
    · rw [if_neg hc1] at h
      refine mj_iload_n (pc := 9) (i := 2) d_Of_insert_9 rfl rfl ?_
      refine mj_aload_n (pc := 10) (i := 0) d_Of_insert_10 rfl rfl (by decide) ?_
      refine mj_getR (pc := 11) d_Of_insert_11 fl_Of_15 sh_32 rfl rfl (by decide) (by decide) (by decide) ?_
      refine mj_aload_n (pc := 14) (i := 0) d_Of_insert_14 rfl rfl (by decide) ?_
      refine mj_getR (pc := 15) d_Of_insert_15 fl_Of_21 sh_32 rfl rfl (by decide) (by decide) (by decide) ?_
      refine mj_iload_n (pc := 18) (i := 3) d_Of_insert_18 rfl rfl ?_
      refine mj_iconst (pc := 19) (v := 1) d_Of_insert_19 (by decide) ?_
      refine mj_isub (pc := 20) d_Of_insert_20 ?_
      obtain ⟨hg2, h⟩ := mj_gd h
      refine cj_iald (pc := 21) d_Of_insert_21 sh_36 (by decide) hg2 (by decide) ?_
      obtain ⟨hg3, h⟩ := mj_gd h
      refine cj_iald (pc := 22) d_Of_insert_22 sh_34 (by decide) hg3 (by decide) ?_
      refine mj_imul (pc := 23) d_Of_insert_23 ?_
      refine mj_iload_n (pc := 24) (i := 2) d_Of_insert_24 rfl rfl ?_
      refine mj_aload_n (pc := 25) (i := 0) d_Of_insert_25 rfl rfl (by decide) ?_
      refine mj_getR (pc := 26) d_Of_insert_26 fl_Of_15 sh_32 rfl rfl (by decide) (by decide) (by decide) ?_
      refine mj_iload_n (pc := 29) (i := 1) d_Of_insert_29 rfl rfl ?_
      obtain ⟨hg4, h⟩ := mj_gd h
      refine cj_iald (pc := 30) d_Of_insert_30 sh_34 (by decide) hg4 (by decide) ?_
      refine mj_imul (pc := 31) d_Of_insert_31 ?_
      refine mj_icmp_le (pc := 32) (tgt := 55) d_Of_insert_32 (by decide) mj_hs (fun hc5 => ?_) (fun hc5 => ?_)
      · rw [if_pos hc5] at h
        cases h
        exact mj_weak _ (And.intro rfl (And.intro rfl (And.intro rfl trivial))) hX
      · rw [if_neg hc5] at h
        refine mj_aload_n (pc := 35) (i := 0) d_Of_insert_35 rfl rfl (by decide) ?_
        refine mj_getR (pc := 36) d_Of_insert_36 fl_Of_21 sh_32 rfl rfl (by decide) (by decide) (by decide) ?_
        refine mj_iload_n (pc := 39) (i := 3) d_Of_insert_39 rfl rfl ?_
        refine mj_aload_n (pc := 40) (i := 0) d_Of_insert_40 rfl rfl (by decide) ?_
        refine mj_getR (pc := 41) d_Of_insert_41 fl_Of_21 sh_32 rfl rfl (by decide) (by decide) (by decide) ?_
        refine mj_iload_n (pc := 44) (i := 3) d_Of_insert_44 rfl rfl ?_
        refine mj_iconst (pc := 45) (v := 1) d_Of_insert_45 (by decide) ?_
        refine mj_isub (pc := 46) d_Of_insert_46 ?_
        refine cj_iald (pc := 47) d_Of_insert_47 sh_36 (by decide) hg2 (by decide) ?_
        obtain ⟨hg7, h⟩ := mj_gd h
        refine cj_iast (pc := 48) d_Of_insert_48 sh_36 (by decide) hg7 (by decide) ?_
        refine mj_iinc (pc := 49) (i := 3) (v := y3 + (-1)) d_Of_insert_49 rfl (by rfl) rfl (by decide) ?_
        refine mj_goto (pc := 52) (tgt := 5) d_Of_insert_52 (by decide) ?_
        exact mj_weak [some (.ref 32), some (.int y1), some (.int y2), some (.int (y3 + (-1)))] (And.intro rfl (And.intro rfl (And.intro rfl (And.intro rfl trivial)))) (ih _ _ _ _ _ _ h hX)
set_option maxRecDepth 20000 in
theorem r_Of_insert_1 {x1 : Int32} {x2 : Int32} {C0 D : St} {C' : St} (h : f_Of_insert_1 x1 x2 C0 = some (C')) : mj_R M_Of_insert 0 (mj_lv M_Of_insert.2.2.1 [.ref 32, .int x1, .int x2]) [] (SH, jn C0 D) none (SH, jn (C') D) := by
  show mj_R M_Of_insert 0 [some (.ref 32), some (.int x1), some (.int x2), none] [] _ _ _
  unfold f_Of_insert_1 at h
  refine mj_aload_n (pc := 0) (i := 0) d_Of_insert_0 rfl rfl (by decide) ?_
  refine cj_getI (pc := 1) d_Of_insert_1 fl_Of_31 sh_32 rfl (by decide) (by decide) (by decide) ?_
  refine mj_istore_n (pc := 4) (i := 3) d_Of_insert_4 rfl rfl (by decide) ?_
  obtain ⟨o8, C9, hl10, h⟩ := bd2_some h
  refine mj_weak [some (.ref 32), some (.int x1), some (.int x2), some (.int (C0 32 4))] (And.intro rfl (And.intro rfl (And.intro rfl (And.intro rfl trivial)))) (l_Of_insert_1_5 3000 _ _ _ _ _ _ hl10 ?_)
  refine mj_aload_n (pc := 55) (i := 0) d_Of_insert_55 rfl rfl (by decide) ?_
  refine mj_getR (pc := 56) d_Of_insert_56 fl_Of_21 sh_32 rfl rfl (by decide) (by decide) (by decide) ?_
  refine mj_iload_n (pc := 59) (i := 3) d_Of_insert_59 rfl rfl ?_
  refine mj_iload_n (pc := 60) (i := 1) d_Of_insert_60 rfl rfl ?_
  obtain ⟨hg11, h⟩ := mj_gd h
  refine cj_iast (pc := 61) d_Of_insert_61 sh_36 (by decide) hg11 (by decide) ?_
  refine mj_aload_n (pc := 62) (i := 0) d_Of_insert_62 rfl rfl (by decide) ?_
  refine mj_dup (pc := 63) d_Of_insert_63 rfl ?_
  refine cj_getI (pc := 64) d_Of_insert_64 fl_Of_31 sh_32 rfl (by decide) (by decide) (by decide) ?_
  refine mj_iconst (pc := 67) (v := 1) d_Of_insert_67 (by decide) ?_
  refine mj_iadd (pc := 68) d_Of_insert_68 ?_
  refine cj_putI (pc := 69) d_Of_insert_69 fl_Of_31 sh_32 rfl (fun _ _ _ h => by cases h; rfl) (by decide) (by decide) (by decide) ?_
  cases h
  exact mj_vret (pc := 72) d_Of_insert_72 rfl
set_option maxRecDepth 20000 in
theorem l_Of_pick_1_7 {r : Option Value} {D y : St} : ∀ (n : Nat) (y1 : Int32) (y2 : Int32) (y3 : Int32) (C : St) (Q_ : St), L_Of_pick_1_7 n y1 y2 y3 C = some Q_ → mj_R M_Of_pick 37 [none, none, none, none] [] (SH, jn Q_ D) r (SH, y) → mj_R M_Of_pick 7 [some (.ref 32), some (.int y1), some (.int y2), some (.int y3)] [] (SH, jn C D) r (SH, y) := by
  intro n
  induction n with
  | zero => intro y1 y2 y3 C Q_ h; cases h
  | succ n ih =>
    intro y1 y2 y3 C Q_ h hX
    unfold L_Of_pick_1_7 at h
    refine mj_iload_n (pc := 7) (i := 3) d_Of_pick_7 rfl rfl ?_
    refine mj_aload_n (pc := 8) (i := 0) d_Of_pick_8 rfl rfl (by decide) ?_
    refine cj_getI (pc := 9) d_Of_pick_9 fl_Of_27 sh_32 rfl (by decide) (by decide) (by decide) ?_
    refine mj_icmp_ge (pc := 12) (tgt := 37) d_Of_pick_12 (by decide) mj_hs (fun hc1 => ?_) (fun hc1 => ?_)
    · rw [if_pos hc1] at h
      cases h
      exact mj_weak _ trivial hX
    · rw [if_neg hc1] at h
      refine mj_aload_n (pc := 15) (i := 0) d_Of_pick_15 rfl rfl (by decide) ?_
      refine mj_getR (pc := 16) d_Of_pick_16 fl_Of_24 sh_32 rfl rfl (by decide) (by decide) (by decide) ?_
      refine mj_iload_n (pc := 19) (i := 3) d_Of_pick_19 rfl rfl ?_
      obtain ⟨hg2, h⟩ := mj_gd h
      refine cj_iald (pc := 20) d_Of_pick_20 sh_37 (by decide) hg2 (by decide) ?_
      refine mj_iload_n (pc := 21) (i := 1) d_Of_pick_21 rfl rfl ?_
      obtain ⟨C6, hb8, h⟩ := bd1_some h
      have k7 : mj_R M_Of_pick 31 [some (.ref 32), some (.int y1), some (.int y2), some (.int y3)] [] (SH, jn C6 D) r (SH, y) := by
        refine mj_iinc (pc := 31) (i := 3) (v := y3 + 1) d_Of_pick_31 rfl (by rfl) rfl (by decide) ?_
        refine mj_goto (pc := 34) (tgt := 7) d_Of_pick_34 (by decide) ?_
        exact mj_weak [some (.ref 32), some (.int y1), some (.int y2), some (.int (y3 + 1))] (And.intro rfl (And.intro rfl (And.intro rfl (And.intro rfl trivial)))) (ih _ _ _ _ _ h hX)
      have h := hb8
      refine mj_icmp_ne (pc := 22) (tgt := 31) d_Of_pick_22 (by decide) mj_hs (fun hc3 => ?_) (fun hc3 => ?_)
      · rw [if_neg hc3] at h
        cases h
        exact mj_weak _ (And.intro rfl (And.intro rfl (And.intro rfl (And.intro rfl trivial)))) k7
      · rw [if_pos hc3] at h
        refine mj_aload_n (pc := 25) (i := 0) d_Of_pick_25 rfl rfl (by decide) ?_
        refine mj_iload_n (pc := 26) (i := 3) d_Of_pick_26 rfl rfl ?_
        refine mj_iload_n (pc := 27) (i := 2) d_Of_pick_27 rfl rfl ?_
        obtain ⟨C4, hb5, h⟩ := bd1_some h
        refine mj_callV (pc := 28) (b := 32) (vs := [.int y3, .int y2]) (st := []) d_Of_pick_28 bB_Of_pick_Of_insert lk_Of_34 iv_Of_insert rc_32 rfl (Nat.le_of_ble_eq_true rfl) (Nat.le_of_ble_eq_true rfl) (r_Of_insert_1 hb5) ?_
        show mj_R M_Of_pick 31 [some (.ref 32), some (.int y1), some (.int y2), some (.int y3)] [] (SH, jn C4 D) r (SH, y)
        cases h
        exact mj_weak _ (And.intro rfl (And.intro rfl (And.intro rfl (And.intro rfl trivial)))) k7
set_option maxRecDepth 20000 in
theorem r_Of_pick_1 {x1 : Int32} {x2 : Int32} {C0 D : St} {C' : St} (h : f_Of_pick_1 x1 x2 C0 = some (C')) : mj_R M_Of_pick 0 (mj_lv M_Of_pick.2.2.1 [.ref 32, .int x1, .int x2]) [] (SH, jn C0 D) none (SH, jn (C') D) := by
  show mj_R M_Of_pick 0 [some (.ref 32), some (.int x1), some (.int x2), none] [] _ _ _
  unfold f_Of_pick_1 at h
  refine mj_aload_n (pc := 0) (i := 0) d_Of_pick_0 rfl rfl (by decide) ?_
  refine mj_iconst (pc := 1) (v := 0) d_Of_pick_1 (by decide) ?_
  refine cj_putI (pc := 2) d_Of_pick_2 fl_Of_31 sh_32 rfl (fun _ _ _ h => by cases h; rfl) (by decide) (by decide) (by decide) ?_
  refine mj_iconst (pc := 5) (v := 0) d_Of_pick_5 (by decide) ?_
  refine mj_istore_n (pc := 6) (i := 3) d_Of_pick_6 rfl rfl (by decide) ?_
  obtain ⟨C9, hl10, h⟩ := bd1_some h
  refine mj_weak [some (.ref 32), some (.int x1), some (.int x2), some (.int 0)] (And.intro rfl (And.intro rfl (And.intro rfl (And.intro rfl trivial)))) (l_Of_pick_1_7 3000 _ _ _ _ _ hl10 ?_)
  cases h
  exact mj_vret (pc := 37) d_Of_pick_37 rfl
set_option maxRecDepth 20000 in
theorem r_Mt_agree {x1 : Int32} {x2 : Int32} {C0 D : St} {v : Int32} (h : f_Mt_agree x1 x2 C0 = some v) : mj_R M_Mt_agree 0 (mj_lv M_Mt_agree.2.2.1 [.ref 25, .int x1, .int x2]) [] (SH, jn C0 D) (some (.int v)) (SH, jn C0 D) := by
  show mj_R M_Mt_agree 0 [some (.ref 25), some (.int x1), some (.int x2)] [] _ _ _
  unfold f_Mt_agree at h
  refine mj_aload_n (pc := 0) (i := 0) d_Mt_agree_0 rfl rfl (by decide) ?_
  refine mj_getR (pc := 1) d_Mt_agree_1 fl_Mt_12 sh_25 rfl rfl (by decide) (by decide) (by decide) ?_
  refine mj_getR (pc := 4) d_Mt_agree_4 fl_Mt_98 sh_26 rfl rfl (by decide) (by decide) (by decide) ?_
  refine mj_aload_n (pc := 7) (i := 0) d_Mt_agree_7 rfl rfl (by decide) ?_
  refine mj_getR (pc := 8) d_Mt_agree_8 fl_Mt_12 sh_25 rfl rfl (by decide) (by decide) (by decide) ?_
  refine mj_getR (pc := 11) d_Mt_agree_11 fl_Mt_101 sh_26 rfl rfl (by decide) (by decide) (by decide) ?_
  refine mj_iload_n (pc := 14) (i := 1) d_Mt_agree_14 rfl rfl ?_
  obtain ⟨hg1, h⟩ := mj_gd h
  refine cj_iald (pc := 15) d_Mt_agree_15 sh_30 (by decide) hg1 (by decide) ?_
  obtain ⟨hg2, h⟩ := mj_gd h
  refine cj_iald (pc := 16) d_Mt_agree_16 sh_28 (by decide) hg2 (by decide) ?_
  refine mj_aload_n (pc := 17) (i := 0) d_Mt_agree_17 rfl rfl (by decide) ?_
  refine mj_getR (pc := 18) d_Mt_agree_18 fl_Mt_18 sh_25 rfl rfl (by decide) (by decide) (by decide) ?_
  refine mj_getR (pc := 21) d_Mt_agree_21 fl_Mt_98 sh_32 rfl rfl (by decide) (by decide) (by decide) ?_
  refine mj_aload_n (pc := 24) (i := 0) d_Mt_agree_24 rfl rfl (by decide) ?_
  refine mj_getR (pc := 25) d_Mt_agree_25 fl_Mt_18 sh_25 rfl rfl (by decide) (by decide) (by decide) ?_
  refine mj_getR (pc := 28) d_Mt_agree_28 fl_Mt_101 sh_32 rfl rfl (by decide) (by decide) (by decide) ?_
  refine mj_iload_n (pc := 31) (i := 2) d_Mt_agree_31 rfl rfl ?_
  obtain ⟨hg3, h⟩ := mj_gd h
  refine cj_iald (pc := 32) d_Mt_agree_32 sh_36 (by decide) hg3 (by decide) ?_
  obtain ⟨hg4, h⟩ := mj_gd h
  refine cj_iald (pc := 33) d_Mt_agree_33 sh_34 (by decide) hg4 (by decide) ?_
  have k6 : mj_R M_Mt_agree 42 [none, none, none] [.int (if (C0 34 (C0 36 x2.toNatClampNeg).toNatClampNeg) < (C0 28 (C0 30 x1.toNatClampNeg).toNatClampNeg) then 0 else 1)] (SH, jn C0 D) (some (.int v)) (SH, jn C0 D) := by
    cases h
    exact mj_zret (pc := 42) (ty := .boolean) d_Mt_agree_42 rfl (mj_b01 (by (repeat' split) <;> simp))
  refine mj_icmp_gt (pc := 34) (tgt := 41) d_Mt_agree_34 (by decide) mj_hs (fun hc5 => ?_) (fun hc5 => ?_)
  · refine mj_iconst (pc := 41) (v := 0) d_Mt_agree_41 (by decide) ?_
    simp only [if_pos hc5] at k6
    exact mj_weak _ trivial k6
  · refine mj_iconst (pc := 37) (v := 1) d_Mt_agree_37 (by decide) ?_
    refine mj_goto (pc := 38) (tgt := 42) d_Mt_agree_38 (by decide) ?_
    simp only [if_neg hc5] at k6
    exact mj_weak _ trivial k6
set_option maxRecDepth 20000 in
theorem l_Mt_calledPrice_12 {r : Option Value} {D y : St} : ∀ (n : Nat) (y1 : Int32) (y2 : Int32) (y3 : Int32) (y4 : Int32) (y5 : Int32) (C : St) (o1_ : Int32), L_Mt_calledPrice_12 n y1 y2 y3 y4 y5 C = some o1_ → mj_R M_Mt_calledPrice 132 [none, some (.int o1_), none, none, none, none, none, none] [] (SH, jn C D) r (SH, y) → mj_R M_Mt_calledPrice 12 [some (.ref 25), some (.int y1), some (.int y2), some (.int y3), some (.int y4), some (.int y5), none, none] [] (SH, jn C D) r (SH, y) := by
  intro n
  induction n with
  | zero => intro y1 y2 y3 y4 y5 C o1_ h; cases h
  | succ n ih =>
    intro y1 y2 y3 y4 y5 C o1_ h hX
    unfold L_Mt_calledPrice_12 at h
    refine mj_iload_n (pc := 12) (i := 2) d_Mt_calledPrice_12 rfl rfl ?_
    refine mj_aload_n (pc := 13) (i := 0) d_Mt_calledPrice_13 rfl rfl (by decide) ?_
    refine mj_getR (pc := 14) d_Mt_calledPrice_14 fl_Mt_12 sh_25 rfl rfl (by decide) (by decide) (by decide) ?_
    refine cj_getI (pc := 17) d_Mt_calledPrice_17 fl_Mt_91 sh_26 rfl (by decide) (by decide) (by decide) ?_
    refine mj_icmp_ge (pc := 20) (tgt := 132) d_Mt_calledPrice_20 (by decide) mj_hs (fun hc1 => ?_) (fun hc1 => ?_)
    · rw [if_pos hc1] at h
      cases h
      exact mj_weak _ (And.intro rfl trivial) hX
    · rw [if_neg hc1] at h
      refine mj_iload_n (pc := 23) (i := 3) d_Mt_calledPrice_23 rfl rfl ?_
      refine mj_aload_n (pc := 24) (i := 0) d_Mt_calledPrice_24 rfl rfl (by decide) ?_
      refine mj_getR (pc := 25) d_Mt_calledPrice_25 fl_Mt_18 sh_25 rfl rfl (by decide) (by decide) (by decide) ?_
      refine cj_getI (pc := 28) d_Mt_calledPrice_28 fl_Mt_91 sh_32 rfl (by decide) (by decide) (by decide) ?_
      refine mj_icmp_ge (pc := 31) (tgt := 132) d_Mt_calledPrice_31 (by decide) mj_hs (fun hc2 => ?_) (fun hc2 => ?_)
      · rw [if_pos hc2] at h
        cases h
        exact mj_weak _ (And.intro rfl trivial) hX
      · rw [if_neg hc2] at h
        refine mj_aload_n (pc := 34) (i := 0) d_Mt_calledPrice_34 rfl rfl (by decide) ?_
        refine mj_iload_n (pc := 35) (i := 2) d_Mt_calledPrice_35 rfl rfl ?_
        refine mj_iload_n (pc := 36) (i := 3) d_Mt_calledPrice_36 rfl rfl ?_
        obtain ⟨v3, hb4, h⟩ := bd1_some h
        refine mj_callV (pc := 37) (b := 25) (vs := [.int y2, .int y3]) (st := []) d_Mt_calledPrice_37 bB_Mt_calledPrice_Mt_agree lk_Mt_94 iv_Mt_agree rc_25 rfl (Nat.le_of_ble_eq_true rfl) (Nat.le_of_ble_eq_true rfl) (r_Mt_agree hb4) ?_
        show mj_R M_Mt_calledPrice 40 [some (.ref 25), some (.int y1), some (.int y2), some (.int y3), some (.int y4), some (.int y5), none, none] [.int v3] (SH, jn C D) r (SH, y)
        refine mj_if_eq (y := 0) (pc := 40) (tgt := 132) d_Mt_calledPrice_40 (by decide) mj_hs (fun hc5 => ?_) (fun hc5 => ?_)
        · rw [if_pos hc5] at h
          cases h
          exact mj_weak _ (And.intro rfl trivial) hX
        · rw [if_neg hc5] at h
          refine mj_aload_n (pc := 43) (i := 0) d_Mt_calledPrice_43 rfl rfl (by decide) ?_
          refine mj_getR (pc := 44) d_Mt_calledPrice_44 fl_Mt_12 sh_25 rfl rfl (by decide) (by decide) (by decide) ?_
          refine mj_getR (pc := 47) d_Mt_calledPrice_47 fl_Mt_98 sh_26 rfl rfl (by decide) (by decide) (by decide) ?_
          refine mj_aload_n (pc := 50) (i := 0) d_Mt_calledPrice_50 rfl rfl (by decide) ?_
          refine mj_getR (pc := 51) d_Mt_calledPrice_51 fl_Mt_12 sh_25 rfl rfl (by decide) (by decide) (by decide) ?_
          refine mj_getR (pc := 54) d_Mt_calledPrice_54 fl_Mt_101 sh_26 rfl rfl (by decide) (by decide) (by decide) ?_
          refine mj_iload_n (pc := 57) (i := 2) d_Mt_calledPrice_57 rfl rfl ?_
          obtain ⟨hg6, h⟩ := mj_gd h
          refine cj_iald (pc := 58) d_Mt_calledPrice_58 sh_30 (by decide) hg6 (by decide) ?_
          obtain ⟨hg7, h⟩ := mj_gd h
          refine cj_iald (pc := 59) d_Mt_calledPrice_59 sh_28 (by decide) hg7 (by decide) ?_
          refine mj_istore_n (pc := 60) (i := 1) d_Mt_calledPrice_60 rfl rfl (by decide) ?_
          refine mj_iload (pc := 61) (i := 4) d_Mt_calledPrice_61 rfl ?_
          refine mj_aload_n (pc := 63) (i := 0) d_Mt_calledPrice_63 rfl rfl (by decide) ?_
          refine mj_getR (pc := 64) d_Mt_calledPrice_64 fl_Mt_12 sh_25 rfl rfl (by decide) (by decide) (by decide) ?_
          refine mj_getR (pc := 67) d_Mt_calledPrice_67 fl_Mt_104 sh_26 rfl rfl (by decide) (by decide) (by decide) ?_
          refine mj_aload_n (pc := 70) (i := 0) d_Mt_calledPrice_70 rfl rfl (by decide) ?_
          refine mj_getR (pc := 71) d_Mt_calledPrice_71 fl_Mt_12 sh_25 rfl rfl (by decide) (by decide) (by decide) ?_
          refine mj_getR (pc := 74) d_Mt_calledPrice_74 fl_Mt_101 sh_26 rfl rfl (by decide) (by decide) (by decide) ?_
          refine mj_iload_n (pc := 77) (i := 2) d_Mt_calledPrice_77 rfl rfl ?_
          refine cj_iald (pc := 78) d_Mt_calledPrice_78 sh_30 (by decide) hg6 (by decide) ?_
          refine cj_iald (pc := 79) d_Mt_calledPrice_79 sh_29 (by decide) hg7 (by decide) ?_
          refine mj_iadd (pc := 80) d_Mt_calledPrice_80 ?_
          refine mj_istore (pc := 81) (i := 6) d_Mt_calledPrice_81 rfl (by decide) ?_
          refine mj_iload (pc := 83) (i := 5) d_Mt_calledPrice_83 rfl ?_
          refine mj_aload_n (pc := 85) (i := 0) d_Mt_calledPrice_85 rfl rfl (by decide) ?_
          refine mj_getR (pc := 86) d_Mt_calledPrice_86 fl_Mt_18 sh_25 rfl rfl (by decide) (by decide) (by decide) ?_
          refine mj_getR (pc := 89) d_Mt_calledPrice_89 fl_Mt_104 sh_32 rfl rfl (by decide) (by decide) (by decide) ?_
          refine mj_aload_n (pc := 92) (i := 0) d_Mt_calledPrice_92 rfl rfl (by decide) ?_
          refine mj_getR (pc := 93) d_Mt_calledPrice_93 fl_Mt_18 sh_25 rfl rfl (by decide) (by decide) (by decide) ?_
          refine mj_getR (pc := 96) d_Mt_calledPrice_96 fl_Mt_101 sh_32 rfl rfl (by decide) (by decide) (by decide) ?_
          refine mj_iload_n (pc := 99) (i := 3) d_Mt_calledPrice_99 rfl rfl ?_
          obtain ⟨hg10, h⟩ := mj_gd h
          refine cj_iald (pc := 100) d_Mt_calledPrice_100 sh_36 (by decide) hg10 (by decide) ?_
          obtain ⟨hg11, h⟩ := mj_gd h
          refine cj_iald (pc := 101) d_Mt_calledPrice_101 sh_35 (by decide) hg11 (by decide) ?_
          refine mj_iadd (pc := 102) d_Mt_calledPrice_102 ?_
          refine mj_istore (pc := 103) (i := 7) d_Mt_calledPrice_103 rfl (by decide) ?_
          refine mj_iload (pc := 105) (i := 6) d_Mt_calledPrice_105 rfl ?_
          refine mj_iload (pc := 107) (i := 7) d_Mt_calledPrice_107 rfl ?_
          have k13 : mj_R M_Mt_calledPrice 129 [some (.ref 25), some (.int (C 28 (C 30 y2.toNatClampNeg).toNatClampNeg)), some (.int (if (y5 + (C 35 (C 36 y3.toNatClampNeg).toNatClampNeg)) ≤ (y4 + (C 29 (C 30 y2.toNatClampNeg).toNatClampNeg)) then y2 else y2 + 1)), some (.int (if (y5 + (C 35 (C 36 y3.toNatClampNeg).toNatClampNeg)) ≤ (y4 + (C 29 (C 30 y2.toNatClampNeg).toNatClampNeg)) then y3 + 1 else y3)), some (.int (if (y5 + (C 35 (C 36 y3.toNatClampNeg).toNatClampNeg)) ≤ (y4 + (C 29 (C 30 y2.toNatClampNeg).toNatClampNeg)) then y4 else y4 + (C 29 (C 30 y2.toNatClampNeg).toNatClampNeg))), some (.int (if (y5 + (C 35 (C 36 y3.toNatClampNeg).toNatClampNeg)) ≤ (y4 + (C 29 (C 30 y2.toNatClampNeg).toNatClampNeg)) then y5 + (C 35 (C 36 y3.toNatClampNeg).toNatClampNeg) else y5)), none, none] [] (SH, jn C D) r (SH, y) := by
            refine mj_goto (pc := 129) (tgt := 12) d_Mt_calledPrice_129 (by decide) ?_
            exact mj_weak [some (.ref 25), some (.int (C 28 (C 30 y2.toNatClampNeg).toNatClampNeg)), some (.int (if (y5 + (C 35 (C 36 y3.toNatClampNeg).toNatClampNeg)) ≤ (y4 + (C 29 (C 30 y2.toNatClampNeg).toNatClampNeg)) then y2 else y2 + 1)), some (.int (if (y5 + (C 35 (C 36 y3.toNatClampNeg).toNatClampNeg)) ≤ (y4 + (C 29 (C 30 y2.toNatClampNeg).toNatClampNeg)) then y3 + 1 else y3)), some (.int (if (y5 + (C 35 (C 36 y3.toNatClampNeg).toNatClampNeg)) ≤ (y4 + (C 29 (C 30 y2.toNatClampNeg).toNatClampNeg)) then y4 else y4 + (C 29 (C 30 y2.toNatClampNeg).toNatClampNeg))), some (.int (if (y5 + (C 35 (C 36 y3.toNatClampNeg).toNatClampNeg)) ≤ (y4 + (C 29 (C 30 y2.toNatClampNeg).toNatClampNeg)) then y5 + (C 35 (C 36 y3.toNatClampNeg).toNatClampNeg) else y5)), none, none] (And.intro rfl (And.intro rfl (And.intro rfl (And.intro rfl (And.intro rfl (And.intro rfl trivial)))))) (ih _ _ _ _ _ _ _ h hX)
          refine mj_icmp_ge (pc := 109) (tgt := 122) d_Mt_calledPrice_109 (by decide) mj_hs (fun hc12 => ?_) (fun hc12 => ?_)
          · refine mj_iload (pc := 122) (i := 7) d_Mt_calledPrice_122 rfl ?_
            refine mj_istore (pc := 124) (i := 5) d_Mt_calledPrice_124 rfl (by decide) ?_
            refine mj_iinc (pc := 126) (i := 3) (v := y3 + 1) d_Mt_calledPrice_126 rfl (by rfl) rfl (by decide) ?_
            simp only [if_pos hc12] at k13
            exact mj_weak _ (And.intro rfl (And.intro rfl (And.intro rfl (And.intro rfl (And.intro rfl (And.intro rfl trivial)))))) k13
          · refine mj_iload (pc := 112) (i := 6) d_Mt_calledPrice_112 rfl ?_
            refine mj_istore (pc := 114) (i := 4) d_Mt_calledPrice_114 rfl (by decide) ?_
            refine mj_iinc (pc := 116) (i := 2) (v := y2 + 1) d_Mt_calledPrice_116 rfl (by rfl) rfl (by decide) ?_
            refine mj_goto (pc := 119) (tgt := 129) d_Mt_calledPrice_119 (by decide) ?_
            simp only [if_neg hc12] at k13
            exact mj_weak _ (And.intro rfl (And.intro rfl (And.intro rfl (And.intro rfl (And.intro rfl (And.intro rfl trivial)))))) k13
set_option maxRecDepth 20000 in
theorem r_Mt_calledPrice  {C0 D : St} {v : Int32} (h : f_Mt_calledPrice C0 = some v) : mj_R M_Mt_calledPrice 0 (mj_lv M_Mt_calledPrice.2.2.1 [.ref 25]) [] (SH, jn C0 D) (some (.int v)) (SH, jn C0 D) := by
  show mj_R M_Mt_calledPrice 0 [some (.ref 25), none, none, none, none, none, none, none] [] _ _ _
  unfold f_Mt_calledPrice at h
  refine mj_iconst (pc := 0) (v := 0) d_Mt_calledPrice_0 (by decide) ?_
  refine mj_istore_n (pc := 1) (i := 1) d_Mt_calledPrice_1 rfl rfl (by decide) ?_
  refine mj_iconst (pc := 2) (v := 0) d_Mt_calledPrice_2 (by decide) ?_
  refine mj_istore_n (pc := 3) (i := 2) d_Mt_calledPrice_3 rfl rfl (by decide) ?_
  refine mj_iconst (pc := 4) (v := 0) d_Mt_calledPrice_4 (by decide) ?_
  refine mj_istore_n (pc := 5) (i := 3) d_Mt_calledPrice_5 rfl rfl (by decide) ?_
  refine mj_iconst (pc := 6) (v := 0) d_Mt_calledPrice_6 (by decide) ?_
  refine mj_istore (pc := 7) (i := 4) d_Mt_calledPrice_7 rfl (by decide) ?_
  refine mj_iconst (pc := 9) (v := 0) d_Mt_calledPrice_9 (by decide) ?_
  refine mj_istore (pc := 10) (i := 5) d_Mt_calledPrice_10 rfl (by decide) ?_
  obtain ⟨o14, hl15, h⟩ := bd1_some h
  refine mj_weak [some (.ref 25), some (.int 0), some (.int 0), some (.int 0), some (.int 0), some (.int 0), none, none] (And.intro rfl (And.intro rfl (And.intro rfl (And.intro rfl (And.intro rfl (And.intro rfl trivial)))))) (l_Mt_calledPrice_12 3000 _ _ _ _ _ _ _ hl15 ?_)
  refine mj_iload_n (pc := 132) (i := 1) d_Mt_calledPrice_132 rfl rfl ?_
  cases h
  exact mj_iret (pc := 133) d_Mt_calledPrice_133 rfl
set_option maxRecDepth 20000 in
theorem r_Mt_priceOf {x1 : Int32} {x2 : Int32} {x3 : Int32} {x4 : Int32} {C0 D : St} {v : Int32} (h : f_Mt_priceOf x1 x2 x3 x4 C0 = some v) : mj_R M_Mt_priceOf 0 (mj_lv M_Mt_priceOf.2.2.1 [.ref 25, .int x1, .int x2, .int x3, .int x4]) [] (SH, jn C0 D) (some (.int v)) (SH, jn C0 D) := by
  show mj_R M_Mt_priceOf 0 [some (.ref 25), some (.int x1), some (.int x2), some (.int x3), some (.int x4)] [] _ _ _
  unfold f_Mt_priceOf at h
  refine mj_iload_n (pc := 0) (i := 1) d_Mt_priceOf_0 rfl rfl ?_
  by_cases hc1 : x1 = 1
  · rw [if_pos hc1] at h
    refine mj_lkEq (pc := 1) (tgt := 28) 1 d_Mt_priceOf_1 hc1 (by decide) (by rfl) (by decide) ?_
    refine mj_iload (pc := 28) (i := 4) d_Mt_priceOf_28 rfl ?_
    cases h
    exact mj_iret (pc := 30) d_Mt_priceOf_30 rfl
  · rw [if_neg hc1] at h
    by_cases hc2 : x1 = 2
    · rw [if_pos hc2] at h
      refine mj_lkEq (pc := 1) (tgt := 31) 2 d_Mt_priceOf_1 hc2 (by decide) (by rfl) (by decide) ?_
      refine mj_aload_n (pc := 31) (i := 0) d_Mt_priceOf_31 rfl rfl (by decide) ?_
      refine mj_getR (pc := 32) d_Mt_priceOf_32 fl_Mt_18 sh_25 rfl rfl (by decide) (by decide) (by decide) ?_
      refine mj_getR (pc := 35) d_Mt_priceOf_35 fl_Mt_98 sh_32 rfl rfl (by decide) (by decide) (by decide) ?_
      refine mj_iload_n (pc := 38) (i := 3) d_Mt_priceOf_38 rfl rfl ?_
      obtain ⟨hg3, h⟩ := mj_gd h
      refine cj_iald (pc := 39) d_Mt_priceOf_39 sh_34 (by decide) hg3 (by decide) ?_
      refine mj_aload_n (pc := 40) (i := 0) d_Mt_priceOf_40 rfl rfl (by decide) ?_
      refine mj_getR (pc := 41) d_Mt_priceOf_41 fl_Mt_12 sh_25 rfl rfl (by decide) (by decide) (by decide) ?_
      refine mj_getR (pc := 44) d_Mt_priceOf_44 fl_Mt_98 sh_26 rfl rfl (by decide) (by decide) (by decide) ?_
      refine mj_iload_n (pc := 47) (i := 2) d_Mt_priceOf_47 rfl rfl ?_
      obtain ⟨hg4, h⟩ := mj_gd h
      refine cj_iald (pc := 48) d_Mt_priceOf_48 sh_28 (by decide) hg4 (by decide) ?_
      refine mj_iadd (pc := 49) d_Mt_priceOf_49 ?_
      refine mj_iconst (pc := 50) (v := 2) d_Mt_priceOf_50 (by decide) ?_
      refine mj_idiv (pc := 51) d_Mt_priceOf_51 (by decide) ?_
      cases h
      exact mj_iret (pc := 52) d_Mt_priceOf_52 rfl
    · rw [if_neg hc2] at h
      refine mj_lookup (pc := 1) (tgt := 53) d_Mt_priceOf_1 (by decide) (by have q0 := i32_ne (n := 1) (by decide) hc1; have q1 := i32_ne (n := 2) (by decide) hc2; simp [Op.lookupswitch.offset, Ne.symm q0, Ne.symm q1]; rfl) (by decide) ?_
      refine mj_aload_n (pc := 53) (i := 0) d_Mt_priceOf_53 rfl rfl (by decide) ?_
      refine mj_getR (pc := 54) d_Mt_priceOf_54 fl_Mt_12 sh_25 rfl rfl (by decide) (by decide) (by decide) ?_
      refine mj_getR (pc := 57) d_Mt_priceOf_57 fl_Mt_98 sh_26 rfl rfl (by decide) (by decide) (by decide) ?_
      refine mj_iload_n (pc := 60) (i := 2) d_Mt_priceOf_60 rfl rfl ?_
      obtain ⟨hg5, h⟩ := mj_gd h
      refine cj_iald (pc := 61) d_Mt_priceOf_61 sh_28 (by decide) hg5 (by decide) ?_
      cases h
      exact mj_iret (pc := 62) d_Mt_priceOf_62 rfl
set_option maxRecDepth 20000 in
theorem l_Sk_carry_22 {r : Option Value} {D y : St} : ∀ (n : Nat) (y4 : Int32) (y5 : Int32) (y6 : Int32) (y7 : Int32) (y8 : Int32) (C : St) (o7_ : Int32) (Q_ : St), L_Sk_carry_22 n y4 y5 y6 y7 y8 C = some (o7_, Q_) → mj_R M_Sk_carry 101 [some (.ref 7), none, none, none, some (.int y4), some (.int y5), some (.int y6), some (.int o7_), none, none] [] (SH, jn Q_ D) r (SH, y) → mj_R M_Sk_carry 22 [some (.ref 7), none, none, none, some (.int y4), some (.int y5), some (.int y6), some (.int y7), some (.int y8), none] [] (SH, jn C D) r (SH, y) := by
  intro n
  induction n with
  | zero => intro y4 y5 y6 y7 y8 C o7_ Q_ h; cases h
  | succ n ih =>
    intro y4 y5 y6 y7 y8 C o7_ Q_ h hX
    unfold L_Sk_carry_22 at h
    refine mj_iload (pc := 22) (i := 8) d_Sk_carry_22 rfl ?_
    refine mj_if_lt (y := 0) (pc := 24) (tgt := 101) d_Sk_carry_24 (by decide) mj_hs (fun hc1 => ?_) (fun hc1 => ?_)
    · rw [if_pos hc1] at h
      cases h
      exact mj_weak _ (And.intro rfl (And.intro rfl (And.intro rfl (And.intro rfl (And.intro rfl trivial))))) hX
    · rw [if_neg hc1] at h
      refine mj_iload (pc := 27) (i := 7) d_Sk_carry_27 rfl ?_
      refine mj_if_le (y := 0) (pc := 29) (tgt := 101) d_Sk_carry_29 (by decide) mj_hs (fun hc2 => ?_) (fun hc2 => ?_)
      · rw [if_pos hc2] at h
        cases h
        exact mj_weak _ (And.intro rfl (And.intro rfl (And.intro rfl (And.intro rfl (And.intro rfl trivial))))) hX
      · rw [if_neg hc2] at h
        refine mj_iload (pc := 32) (i := 7) d_Sk_carry_32 rfl ?_
        refine mj_aload_n (pc := 34) (i := 0) d_Sk_carry_34 rfl rfl (by decide) ?_
        refine mj_getR (pc := 35) d_Sk_carry_35 fl_Sk_9 sh_7 rfl rfl (by decide) (by decide) (by decide) ?_
        refine mj_iload (pc := 38) (i := 5) d_Sk_carry_38 rfl ?_
        refine mj_bipush (pc := 40) (v := 10) d_Sk_carry_40 (by decide) ?_
        refine mj_imul (pc := 42) d_Sk_carry_42 ?_
        refine mj_iload (pc := 43) (i := 8) d_Sk_carry_43 rfl ?_
        refine mj_iadd (pc := 45) d_Sk_carry_45 ?_
        obtain ⟨hg3, h⟩ := mj_gd h
        refine cj_iald (pc := 46) d_Sk_carry_46 sh_8 (by decide) hg3 (by decide) ?_
        refine mj_min (pc := 47) d_Sk_carry_47 mn_Sk_22 (by decide) (Nat.le_of_ble_eq_true rfl) ?_
        refine mj_istore (pc := 50) (i := 9) d_Sk_carry_50 rfl (by decide) ?_
        refine mj_aload_n (pc := 52) (i := 0) d_Sk_carry_52 rfl rfl (by decide) ?_
        refine mj_getR (pc := 53) d_Sk_carry_53 fl_Sk_9 sh_7 rfl rfl (by decide) (by decide) (by decide) ?_
        refine mj_iload (pc := 56) (i := 5) d_Sk_carry_56 rfl ?_
        refine mj_bipush (pc := 58) (v := 10) d_Sk_carry_58 (by decide) ?_
        refine mj_imul (pc := 60) d_Sk_carry_60 ?_
        refine mj_iload (pc := 61) (i := 8) d_Sk_carry_61 rfl ?_
        refine mj_iadd (pc := 63) d_Sk_carry_63 ?_
        refine mj_dup2 (pc := 64) d_Sk_carry_64 rfl rfl ?_
        refine cj_iald (pc := 65) d_Sk_carry_65 sh_8 (by decide) hg3 (by decide) ?_
        refine mj_iload (pc := 66) (i := 9) d_Sk_carry_66 rfl ?_
        refine mj_isub (pc := 68) d_Sk_carry_68 ?_
        refine cj_iast (pc := 69) d_Sk_carry_69 sh_8 (by decide) hg3 (by decide) ?_
        refine mj_aload_n (pc := 70) (i := 0) d_Sk_carry_70 rfl rfl (by decide) ?_
        refine mj_getR (pc := 71) d_Sk_carry_71 fl_Sk_9 sh_7 rfl rfl (by decide) (by decide) (by decide) ?_
        refine mj_iload (pc := 74) (i := 6) d_Sk_carry_74 rfl ?_
        refine mj_bipush (pc := 76) (v := 10) d_Sk_carry_76 (by decide) ?_
        refine mj_imul (pc := 78) d_Sk_carry_78 ?_
        refine mj_iload (pc := 79) (i := 8) d_Sk_carry_79 rfl ?_
        refine mj_iadd (pc := 81) d_Sk_carry_81 ?_
        refine mj_dup2 (pc := 82) d_Sk_carry_82 rfl rfl ?_
        obtain ⟨hg5, h⟩ := mj_gd h
        refine cj_iald (pc := 83) d_Sk_carry_83 sh_8 (by decide) hg5 (by decide) ?_
        refine mj_iload (pc := 84) (i := 9) d_Sk_carry_84 rfl ?_
        refine mj_iadd (pc := 86) d_Sk_carry_86 ?_
        refine cj_iast (pc := 87) d_Sk_carry_87 sh_8 (by decide) hg5 (by decide) ?_
        refine mj_iload (pc := 88) (i := 7) d_Sk_carry_88 rfl ?_
        refine mj_iload (pc := 90) (i := 9) d_Sk_carry_90 rfl ?_
        refine mj_isub (pc := 92) d_Sk_carry_92 ?_
        refine mj_istore (pc := 93) (i := 7) d_Sk_carry_93 rfl (by decide) ?_
        refine mj_iinc (pc := 95) (i := 8) (v := y8 + (-1)) d_Sk_carry_95 rfl (by rfl) rfl (by decide) ?_
        refine mj_goto (pc := 98) (tgt := 22) d_Sk_carry_98 (by decide) ?_
        exact mj_weak [some (.ref 7), none, none, none, some (.int y4), some (.int y5), some (.int y6), some (.int (y7 - (if (C 8 ((y5 * 10) + y8).toNatClampNeg) < y7 then C 8 ((y5 * 10) + y8).toNatClampNeg else y7))), some (.int (y8 + (-1))), none] (And.intro rfl (And.intro rfl (And.intro rfl (And.intro rfl (And.intro rfl (And.intro rfl trivial)))))) (ih _ _ _ _ _ _ _ _ h hX)
set_option maxRecDepth 20000 in
theorem r_Sk_carry {x1 : Int32} {x2 : Int32} {x3 : Int32} {x4 : Int32} {C0 D : St} {C' : St} (h : f_Sk_carry x1 x2 x3 x4 C0 = some (C')) : mj_R M_Sk_carry 0 (mj_lv M_Sk_carry.2.2.1 [.ref 7, .int x1, .int x2, .int x3, .int x4]) [] (SH, jn C0 D) none (SH, jn (C') D) := by
  show mj_R M_Sk_carry 0 [some (.ref 7), some (.int x1), some (.int x2), some (.int x3), some (.int x4), none, none, none, none, none] [] _ _ _
  unfold f_Sk_carry at h
  refine mj_iload_n (pc := 0) (i := 1) d_Sk_carry_0 rfl rfl ?_
  refine mj_iconst (pc := 1) (v := 5) d_Sk_carry_1 (by decide) ?_
  refine mj_imul (pc := 2) d_Sk_carry_2 ?_
  refine mj_iload_n (pc := 3) (i := 3) d_Sk_carry_3 rfl rfl ?_
  refine mj_iadd (pc := 4) d_Sk_carry_4 ?_
  refine mj_istore (pc := 5) (i := 5) d_Sk_carry_5 rfl (by decide) ?_
  refine mj_iload_n (pc := 7) (i := 2) d_Sk_carry_7 rfl rfl ?_
  refine mj_iconst (pc := 8) (v := 5) d_Sk_carry_8 (by decide) ?_
  refine mj_imul (pc := 9) d_Sk_carry_9 ?_
  refine mj_iload_n (pc := 10) (i := 3) d_Sk_carry_10 rfl rfl ?_
  refine mj_iadd (pc := 11) d_Sk_carry_11 ?_
  refine mj_istore (pc := 12) (i := 6) d_Sk_carry_12 rfl (by decide) ?_
  refine mj_iload (pc := 14) (i := 4) d_Sk_carry_14 rfl ?_
  refine mj_istore (pc := 16) (i := 7) d_Sk_carry_16 rfl (by decide) ?_
  refine mj_bipush (pc := 18) (v := 9) d_Sk_carry_18 (by decide) ?_
  refine mj_istore (pc := 20) (i := 8) d_Sk_carry_20 rfl (by decide) ?_
  obtain ⟨o6, C7, hl8, h⟩ := bd2_some h
  refine mj_weak [some (.ref 7), none, none, none, some (.int x4), some (.int ((x1 * 5) + x3)), some (.int ((x2 * 5) + x3)), some (.int x4), some (.int 9), none] (And.intro rfl (And.intro rfl (And.intro rfl (And.intro rfl (And.intro rfl (And.intro rfl trivial)))))) (l_Sk_carry_22 3000 _ _ _ _ _ _ _ _ hl8 ?_)
  refine mj_aload_n (pc := 101) (i := 0) d_Sk_carry_101 rfl rfl (by decide) ?_
  refine mj_getR (pc := 102) d_Sk_carry_102 fl_Sk_15 sh_7 rfl rfl (by decide) (by decide) (by decide) ?_
  refine mj_iload (pc := 105) (i := 5) d_Sk_carry_105 rfl ?_
  refine mj_dup2 (pc := 107) d_Sk_carry_107 rfl rfl ?_
  obtain ⟨hg9, h⟩ := mj_gd h
  refine cj_iald (pc := 108) d_Sk_carry_108 sh_9 (by decide) hg9 (by decide) ?_
  refine mj_iload (pc := 109) (i := 4) d_Sk_carry_109 rfl ?_
  refine mj_iload (pc := 111) (i := 7) d_Sk_carry_111 rfl ?_
  refine mj_isub (pc := 113) d_Sk_carry_113 ?_
  refine mj_isub (pc := 114) d_Sk_carry_114 ?_
  refine cj_iast (pc := 115) d_Sk_carry_115 sh_9 (by decide) hg9 (by decide) ?_
  refine mj_aload_n (pc := 116) (i := 0) d_Sk_carry_116 rfl rfl (by decide) ?_
  refine mj_getR (pc := 117) d_Sk_carry_117 fl_Sk_15 sh_7 rfl rfl (by decide) (by decide) (by decide) ?_
  refine mj_iload (pc := 120) (i := 6) d_Sk_carry_120 rfl ?_
  refine mj_dup2 (pc := 122) d_Sk_carry_122 rfl rfl ?_
  obtain ⟨hg10, h⟩ := mj_gd h
  refine cj_iald (pc := 123) d_Sk_carry_123 sh_9 (by decide) hg10 (by decide) ?_
  refine mj_iload (pc := 124) (i := 4) d_Sk_carry_124 rfl ?_
  refine mj_iload (pc := 126) (i := 7) d_Sk_carry_126 rfl ?_
  refine mj_isub (pc := 128) d_Sk_carry_128 ?_
  refine mj_iadd (pc := 129) d_Sk_carry_129 ?_
  refine cj_iast (pc := 130) d_Sk_carry_130 sh_9 (by decide) hg10 (by decide) ?_
  cases h
  exact mj_vret (pc := 131) d_Sk_carry_131 rfl
set_option maxRecDepth 20000 in
theorem r_Mt_trade {x2 : Int32} {x3 : Int32} {x4 : Int32} {x5 : Int32} {C0 D : St} {C' : St} (h : f_Mt_trade x2 x3 x4 x5 C0 = some (C')) : mj_R M_Mt_trade 0 (mj_lv M_Mt_trade.2.2.1 [.ref 25, .ref 1, .int x2, .int x3, .int x4, .int x5]) [] (SH, jn C0 D) none (SH, jn (C') D) := by
  show mj_R M_Mt_trade 0 [some (.ref 25), some (.ref 1), some (.int x2), some (.int x3), some (.int x4), some (.int x5), none, none, none] [] _ _ _
  unfold f_Mt_trade at h
  refine mj_aload_n (pc := 0) (i := 0) d_Mt_trade_0 rfl rfl (by decide) ?_
  refine mj_getR (pc := 1) d_Mt_trade_1 fl_Mt_12 sh_25 rfl rfl (by decide) (by decide) (by decide) ?_
  refine mj_getR (pc := 4) d_Mt_trade_4 fl_Mt_104 sh_26 rfl rfl (by decide) (by decide) (by decide) ?_
  refine mj_iload_n (pc := 7) (i := 3) d_Mt_trade_7 rfl rfl ?_
  obtain ⟨hg1, h⟩ := mj_gd h
  refine cj_iald (pc := 8) d_Mt_trade_8 sh_29 (by decide) hg1 (by decide) ?_
  refine mj_aload_n (pc := 9) (i := 0) d_Mt_trade_9 rfl rfl (by decide) ?_
  refine mj_getR (pc := 10) d_Mt_trade_10 fl_Mt_18 sh_25 rfl rfl (by decide) (by decide) (by decide) ?_
  refine mj_getR (pc := 13) d_Mt_trade_13 fl_Mt_104 sh_32 rfl rfl (by decide) (by decide) (by decide) ?_
  refine mj_iload (pc := 16) (i := 4) d_Mt_trade_16 rfl ?_
  obtain ⟨hg2, h⟩ := mj_gd h
  refine cj_iald (pc := 18) d_Mt_trade_18 sh_35 (by decide) hg2 (by decide) ?_
  refine mj_min (pc := 19) d_Mt_trade_19 mn_Mt_50 (by decide) (Nat.le_of_ble_eq_true rfl) ?_
  refine mj_istore (pc := 22) (i := 6) d_Mt_trade_22 rfl (by decide) ?_
  refine mj_iload (pc := 24) (i := 6) d_Mt_trade_24 rfl ?_
  refine mj_if_gt (y := 0) (pc := 26) (tgt := 30) d_Mt_trade_26 (by decide) mj_hs (fun hc3 => ?_) (fun hc3 => ?_)
  · rw [if_pos hc3] at h
    refine mj_aload_n (pc := 30) (i := 0) d_Mt_trade_30 rfl rfl (by decide) ?_
    refine mj_getR (pc := 31) d_Mt_trade_31 fl_Mt_12 sh_25 rfl rfl (by decide) (by decide) (by decide) ?_
    refine mj_getR (pc := 34) d_Mt_trade_34 fl_Mt_104 sh_26 rfl rfl (by decide) (by decide) (by decide) ?_
    refine mj_iload_n (pc := 37) (i := 3) d_Mt_trade_37 rfl rfl ?_
    refine mj_dup2 (pc := 38) d_Mt_trade_38 rfl rfl ?_
    refine cj_iald (pc := 39) d_Mt_trade_39 sh_29 (by decide) hg1 (by decide) ?_
    refine mj_iload (pc := 40) (i := 6) d_Mt_trade_40 rfl ?_
    refine mj_isub (pc := 42) d_Mt_trade_42 ?_
    refine cj_iast (pc := 43) d_Mt_trade_43 sh_29 (by decide) hg1 (by decide) ?_
    refine mj_aload_n (pc := 44) (i := 0) d_Mt_trade_44 rfl rfl (by decide) ?_
    refine mj_getR (pc := 45) d_Mt_trade_45 fl_Mt_18 sh_25 rfl rfl (by decide) (by decide) (by decide) ?_
    refine mj_getR (pc := 48) d_Mt_trade_48 fl_Mt_104 sh_32 rfl rfl (by decide) (by decide) (by decide) ?_
    refine mj_iload (pc := 51) (i := 4) d_Mt_trade_51 rfl ?_
    refine mj_dup2 (pc := 53) d_Mt_trade_53 rfl rfl ?_
    refine cj_iald (pc := 54) d_Mt_trade_54 sh_35 (by decide) hg2 (by decide) ?_
    refine mj_iload (pc := 55) (i := 6) d_Mt_trade_55 rfl ?_
    refine mj_isub (pc := 57) d_Mt_trade_57 ?_
    refine cj_iast (pc := 58) d_Mt_trade_58 sh_35 (by decide) hg2 (by decide) ?_
    refine mj_iload (pc := 59) (i := 5) d_Mt_trade_59 rfl ?_
    refine mj_iload (pc := 61) (i := 6) d_Mt_trade_61 rfl ?_
    refine mj_imul (pc := 63) d_Mt_trade_63 ?_
    refine mj_istore (pc := 64) (i := 7) d_Mt_trade_64 rfl (by decide) ?_
    refine mj_aload_n (pc := 66) (i := 0) d_Mt_trade_66 rfl rfl (by decide) ?_
    refine mj_getR (pc := 67) d_Mt_trade_67 fl_Mt_12 sh_25 rfl rfl (by decide) (by decide) (by decide) ?_
    refine mj_getR (pc := 70) d_Mt_trade_70 fl_Mt_115 sh_26 rfl rfl (by decide) (by decide) (by decide) ?_
    refine mj_iload_n (pc := 73) (i := 3) d_Mt_trade_73 rfl rfl ?_
    refine cj_iald (pc := 74) d_Mt_trade_74 sh_27 (by decide) hg1 (by decide) ?_
    refine mj_istore (pc := 75) (i := 8) d_Mt_trade_75 rfl (by decide) ?_
    refine mj_aload_n (pc := 77) (i := 1) d_Mt_trade_77 rfl rfl (by decide) ?_
    refine mj_aload_n (pc := 78) (i := 0) d_Mt_trade_78 rfl rfl (by decide) ?_
    refine mj_getR (pc := 79) d_Mt_trade_79 fl_Mt_18 sh_25 rfl rfl (by decide) (by decide) (by decide) ?_
    refine mj_getR (pc := 82) d_Mt_trade_82 fl_Mt_115 sh_32 rfl rfl (by decide) (by decide) (by decide) ?_
    refine mj_iload (pc := 85) (i := 4) d_Mt_trade_85 rfl ?_
    refine cj_iald (pc := 87) d_Mt_trade_87 sh_33 (by decide) hg2 (by decide) ?_
    refine mj_iload (pc := 88) (i := 8) d_Mt_trade_88 rfl ?_
    refine mj_iconst (pc := 90) (v := 0) d_Mt_trade_90 (by decide) ?_
    refine mj_iload (pc := 91) (i := 7) d_Mt_trade_91 rfl ?_
    obtain ⟨C8, hb9, h⟩ := bd1_some h
    refine mj_callV (pc := 93) (b := 1) (vs := [.int (mj_wr (mj_wr C0 29 (x3.toNatClampNeg) ((C0 29 x3.toNatClampNeg) - (if (C0 35 x4.toNatClampNeg) < (C0 29 x3.toNatClampNeg) then C0 35 x4.toNatClampNeg else C0 29 x3.toNatClampNeg))) 35 (x4.toNatClampNeg) ((mj_wr C0 29 (x3.toNatClampNeg) ((C0 29 x3.toNatClampNeg) - (if (C0 35 x4.toNatClampNeg) < (C0 29 x3.toNatClampNeg) then C0 35 x4.toNatClampNeg else C0 29 x3.toNatClampNeg)) 35 x4.toNatClampNeg) - (if (C0 35 x4.toNatClampNeg) < (C0 29 x3.toNatClampNeg) then C0 35 x4.toNatClampNeg else C0 29 x3.toNatClampNeg)) 33 x4.toNatClampNeg), .int (mj_wr (mj_wr C0 29 (x3.toNatClampNeg) ((C0 29 x3.toNatClampNeg) - (if (C0 35 x4.toNatClampNeg) < (C0 29 x3.toNatClampNeg) then C0 35 x4.toNatClampNeg else C0 29 x3.toNatClampNeg))) 35 (x4.toNatClampNeg) ((mj_wr C0 29 (x3.toNatClampNeg) ((C0 29 x3.toNatClampNeg) - (if (C0 35 x4.toNatClampNeg) < (C0 29 x3.toNatClampNeg) then C0 35 x4.toNatClampNeg else C0 29 x3.toNatClampNeg)) 35 x4.toNatClampNeg) - (if (C0 35 x4.toNatClampNeg) < (C0 29 x3.toNatClampNeg) then C0 35 x4.toNatClampNeg else C0 29 x3.toNatClampNeg)) 27 x3.toNatClampNeg), .int 0, .int (x5 * (if (C0 35 x4.toNatClampNeg) < (C0 29 x3.toNatClampNeg) then C0 35 x4.toNatClampNeg else C0 29 x3.toNatClampNeg))]) (st := []) d_Mt_trade_93 bB_Mt_trade_Tw_hand lk_Mt_118 iv_Tw_hand rc_1 rfl (Nat.le_of_ble_eq_true rfl) (Nat.le_of_ble_eq_true rfl) (r_Tw_hand hb9) ?_
    show mj_R M_Mt_trade 96 [some (.ref 25), some (.ref 1), some (.int x2), some (.int x3), some (.int x4), some (.int x5), some (.int (if (C0 35 x4.toNatClampNeg) < (C0 29 x3.toNatClampNeg) then C0 35 x4.toNatClampNeg else C0 29 x3.toNatClampNeg)), some (.int (x5 * (if (C0 35 x4.toNatClampNeg) < (C0 29 x3.toNatClampNeg) then C0 35 x4.toNatClampNeg else C0 29 x3.toNatClampNeg))), some (.int (mj_wr (mj_wr C0 29 (x3.toNatClampNeg) ((C0 29 x3.toNatClampNeg) - (if (C0 35 x4.toNatClampNeg) < (C0 29 x3.toNatClampNeg) then C0 35 x4.toNatClampNeg else C0 29 x3.toNatClampNeg))) 35 (x4.toNatClampNeg) ((mj_wr C0 29 (x3.toNatClampNeg) ((C0 29 x3.toNatClampNeg) - (if (C0 35 x4.toNatClampNeg) < (C0 29 x3.toNatClampNeg) then C0 35 x4.toNatClampNeg else C0 29 x3.toNatClampNeg)) 35 x4.toNatClampNeg) - (if (C0 35 x4.toNatClampNeg) < (C0 29 x3.toNatClampNeg) then C0 35 x4.toNatClampNeg else C0 29 x3.toNatClampNeg)) 27 x3.toNatClampNeg))] [] (SH, jn C8 D) none (SH, jn (C') D)
    refine mj_aload_n (pc := 96) (i := 0) d_Mt_trade_96 rfl rfl (by decide) ?_
    refine cj_getI (pc := 97) d_Mt_trade_97 fl_Mt_67 sh_25 rfl (by decide) (by decide) (by decide) ?_
    refine mj_ldc (pc := 100) (v := -1000000005) d_Mt_trade_100 k_Mt_121 ?_
    obtain ⟨C13, hb15, h⟩ := bd1_some h
    have k14 : mj_R M_Mt_trade 130 [some (.ref 25), some (.ref 1), some (.int x2), none, some (.int x4), some (.int x5), some (.int (if (C0 35 x4.toNatClampNeg) < (C0 29 x3.toNatClampNeg) then C0 35 x4.toNatClampNeg else C0 29 x3.toNatClampNeg)), none, some (.int (mj_wr (mj_wr C0 29 (x3.toNatClampNeg) ((C0 29 x3.toNatClampNeg) - (if (C0 35 x4.toNatClampNeg) < (C0 29 x3.toNatClampNeg) then C0 35 x4.toNatClampNeg else C0 29 x3.toNatClampNeg))) 35 (x4.toNatClampNeg) ((mj_wr C0 29 (x3.toNatClampNeg) ((C0 29 x3.toNatClampNeg) - (if (C0 35 x4.toNatClampNeg) < (C0 29 x3.toNatClampNeg) then C0 35 x4.toNatClampNeg else C0 29 x3.toNatClampNeg)) 35 x4.toNatClampNeg) - (if (C0 35 x4.toNatClampNeg) < (C0 29 x3.toNatClampNeg) then C0 35 x4.toNatClampNeg else C0 29 x3.toNatClampNeg)) 27 x3.toNatClampNeg))] [] (SH, jn C13 D) none (SH, jn (C') D) := by
      refine mj_aload_n (pc := 130) (i := 1) d_Mt_trade_130 rfl rfl (by decide) ?_
      refine mj_getR (pc := 131) d_Mt_trade_131 fl_Mt_31 sh_1 rfl rfl (by decide) (by decide) (by decide) ?_
      refine mj_iload (pc := 134) (i := 8) d_Mt_trade_134 rfl ?_
      refine mj_aload_n (pc := 136) (i := 0) d_Mt_trade_136 rfl rfl (by decide) ?_
      refine mj_getR (pc := 137) d_Mt_trade_137 fl_Mt_18 sh_25 rfl rfl (by decide) (by decide) (by decide) ?_
      refine mj_getR (pc := 140) d_Mt_trade_140 fl_Mt_115 sh_32 rfl rfl (by decide) (by decide) (by decide) ?_
      refine mj_iload (pc := 143) (i := 4) d_Mt_trade_143 rfl ?_
      refine cj_iald (pc := 145) d_Mt_trade_145 sh_33 (by decide) hg2 (by decide) ?_
      refine mj_iload_n (pc := 146) (i := 2) d_Mt_trade_146 rfl rfl ?_
      refine mj_iload (pc := 147) (i := 6) d_Mt_trade_147 rfl ?_
      obtain ⟨C17, hb18, h⟩ := bd1_some h
      refine mj_callV (pc := 149) (b := 7) (vs := [.int (mj_wr (mj_wr C0 29 (x3.toNatClampNeg) ((C0 29 x3.toNatClampNeg) - (if (C0 35 x4.toNatClampNeg) < (C0 29 x3.toNatClampNeg) then C0 35 x4.toNatClampNeg else C0 29 x3.toNatClampNeg))) 35 (x4.toNatClampNeg) ((mj_wr C0 29 (x3.toNatClampNeg) ((C0 29 x3.toNatClampNeg) - (if (C0 35 x4.toNatClampNeg) < (C0 29 x3.toNatClampNeg) then C0 35 x4.toNatClampNeg else C0 29 x3.toNatClampNeg)) 35 x4.toNatClampNeg) - (if (C0 35 x4.toNatClampNeg) < (C0 29 x3.toNatClampNeg) then C0 35 x4.toNatClampNeg else C0 29 x3.toNatClampNeg)) 27 x3.toNatClampNeg), .int (C13 33 x4.toNatClampNeg), .int x2, .int (if (C0 35 x4.toNatClampNeg) < (C0 29 x3.toNatClampNeg) then C0 35 x4.toNatClampNeg else C0 29 x3.toNatClampNeg)]) (st := []) d_Mt_trade_149 bB_Mt_trade_Sk_carry lk_Mt_127 iv_Sk_carry rc_7 rfl (Nat.le_of_ble_eq_true rfl) (Nat.le_of_ble_eq_true rfl) (r_Sk_carry hb18) ?_
      show mj_R M_Mt_trade 152 [some (.ref 25), some (.ref 1), some (.int x2), none, some (.int x4), some (.int x5), some (.int (if (C0 35 x4.toNatClampNeg) < (C0 29 x3.toNatClampNeg) then C0 35 x4.toNatClampNeg else C0 29 x3.toNatClampNeg)), none, some (.int (mj_wr (mj_wr C0 29 (x3.toNatClampNeg) ((C0 29 x3.toNatClampNeg) - (if (C0 35 x4.toNatClampNeg) < (C0 29 x3.toNatClampNeg) then C0 35 x4.toNatClampNeg else C0 29 x3.toNatClampNeg))) 35 (x4.toNatClampNeg) ((mj_wr C0 29 (x3.toNatClampNeg) ((C0 29 x3.toNatClampNeg) - (if (C0 35 x4.toNatClampNeg) < (C0 29 x3.toNatClampNeg) then C0 35 x4.toNatClampNeg else C0 29 x3.toNatClampNeg)) 35 x4.toNatClampNeg) - (if (C0 35 x4.toNatClampNeg) < (C0 29 x3.toNatClampNeg) then C0 35 x4.toNatClampNeg else C0 29 x3.toNatClampNeg)) 27 x3.toNatClampNeg))] [] (SH, jn C17 D) none (SH, jn (C') D)
      refine mj_aload_n (pc := 152) (i := 1) d_Mt_trade_152 rfl rfl (by decide) ?_
      refine mj_getR (pc := 153) d_Mt_trade_153 fl_Mt_71 sh_1 rfl rfl (by decide) (by decide) (by decide) ?_
      refine mj_iload_n (pc := 156) (i := 2) d_Mt_trade_156 rfl rfl ?_
      refine mj_iconst (pc := 157) (v := 2) d_Mt_trade_157 (by decide) ?_
      refine mj_iload (pc := 158) (i := 5) d_Mt_trade_158 rfl ?_
      obtain ⟨C19, hb20, h⟩ := bd1_some h
      refine mj_callV (pc := 160) (b := 10) (vs := [.int x2, .int 2, .int x5]) (st := []) d_Mt_trade_160 bB_Mt_trade_Wr_put lk_Mt_130 iv_Wr_put rc_10 rfl (Nat.le_of_ble_eq_true rfl) (Nat.le_of_ble_eq_true rfl) (r_Wr_put hb20) ?_
      show mj_R M_Mt_trade 163 [some (.ref 25), some (.ref 1), some (.int x2), none, some (.int x4), some (.int x5), some (.int (if (C0 35 x4.toNatClampNeg) < (C0 29 x3.toNatClampNeg) then C0 35 x4.toNatClampNeg else C0 29 x3.toNatClampNeg)), none, some (.int (mj_wr (mj_wr C0 29 (x3.toNatClampNeg) ((C0 29 x3.toNatClampNeg) - (if (C0 35 x4.toNatClampNeg) < (C0 29 x3.toNatClampNeg) then C0 35 x4.toNatClampNeg else C0 29 x3.toNatClampNeg))) 35 (x4.toNatClampNeg) ((mj_wr C0 29 (x3.toNatClampNeg) ((C0 29 x3.toNatClampNeg) - (if (C0 35 x4.toNatClampNeg) < (C0 29 x3.toNatClampNeg) then C0 35 x4.toNatClampNeg else C0 29 x3.toNatClampNeg)) 35 x4.toNatClampNeg) - (if (C0 35 x4.toNatClampNeg) < (C0 29 x3.toNatClampNeg) then C0 35 x4.toNatClampNeg else C0 29 x3.toNatClampNeg)) 27 x3.toNatClampNeg))] [] (SH, jn C19 D) none (SH, jn (C') D)
      refine mj_aload_n (pc := 163) (i := 1) d_Mt_trade_163 rfl rfl (by decide) ?_
      refine mj_getR (pc := 164) d_Mt_trade_164 fl_Mt_71 sh_1 rfl rfl (by decide) (by decide) (by decide) ?_
      refine mj_iload_n (pc := 167) (i := 2) d_Mt_trade_167 rfl rfl ?_
      refine mj_iconst (pc := 168) (v := 3) d_Mt_trade_168 (by decide) ?_
      refine mj_iload (pc := 169) (i := 6) d_Mt_trade_169 rfl ?_
      obtain ⟨C21, hb22, h⟩ := bd1_some h
      refine mj_callV (pc := 171) (b := 10) (vs := [.int x2, .int 3, .int (if (C0 35 x4.toNatClampNeg) < (C0 29 x3.toNatClampNeg) then C0 35 x4.toNatClampNeg else C0 29 x3.toNatClampNeg)]) (st := []) d_Mt_trade_171 bB_Mt_trade_Wr_increase lk_Mt_134 iv_Wr_increase rc_10 rfl (Nat.le_of_ble_eq_true rfl) (Nat.le_of_ble_eq_true rfl) (r_Wr_increase hb22) ?_
      show mj_R M_Mt_trade 174 [some (.ref 25), some (.ref 1), some (.int x2), none, some (.int x4), some (.int x5), some (.int (if (C0 35 x4.toNatClampNeg) < (C0 29 x3.toNatClampNeg) then C0 35 x4.toNatClampNeg else C0 29 x3.toNatClampNeg)), none, some (.int (mj_wr (mj_wr C0 29 (x3.toNatClampNeg) ((C0 29 x3.toNatClampNeg) - (if (C0 35 x4.toNatClampNeg) < (C0 29 x3.toNatClampNeg) then C0 35 x4.toNatClampNeg else C0 29 x3.toNatClampNeg))) 35 (x4.toNatClampNeg) ((mj_wr C0 29 (x3.toNatClampNeg) ((C0 29 x3.toNatClampNeg) - (if (C0 35 x4.toNatClampNeg) < (C0 29 x3.toNatClampNeg) then C0 35 x4.toNatClampNeg else C0 29 x3.toNatClampNeg)) 35 x4.toNatClampNeg) - (if (C0 35 x4.toNatClampNeg) < (C0 29 x3.toNatClampNeg) then C0 35 x4.toNatClampNeg else C0 29 x3.toNatClampNeg)) 27 x3.toNatClampNeg))] [] (SH, jn C21 D) none (SH, jn (C') D)
      cases h
      exact mj_vret (pc := 174) d_Mt_trade_174 rfl
    have h := hb15
    refine mj_icmp_eq (pc := 102) (tgt := 130) d_Mt_trade_102 (by decide) mj_hs (fun hc10 => ?_) (fun hc10 => ?_)
    · rw [if_pos hc10] at h
      cases h
      exact mj_weak _ (And.intro rfl (And.intro rfl (And.intro rfl (And.intro rfl (And.intro rfl (And.intro rfl (And.intro rfl trivial))))))) k14
    · rw [if_neg hc10] at h
      refine mj_aload_n (pc := 105) (i := 1) d_Mt_trade_105 rfl rfl (by decide) ?_
      refine mj_iload (pc := 106) (i := 8) d_Mt_trade_106 rfl ?_
      refine mj_aload_n (pc := 108) (i := 0) d_Mt_trade_108 rfl rfl (by decide) ?_
      refine cj_getI (pc := 109) d_Mt_trade_109 fl_Mt_67 sh_25 rfl (by decide) (by decide) (by decide) ?_
      refine mj_iconst (pc := 112) (v := 1) d_Mt_trade_112 (by decide) ?_
      refine mj_iload (pc := 113) (i := 7) d_Mt_trade_113 rfl ?_
      refine mj_i2l (pc := 115) d_Mt_trade_115 ?_
      refine mj_aload_n (pc := 116) (i := 1) d_Mt_trade_116 rfl rfl (by decide) ?_
      refine cj_getI (pc := 117) d_Mt_trade_117 fl_Mt_122 sh_1 rfl (by decide) (by decide) (by decide) ?_
      refine mj_i2l (pc := 120) d_Mt_trade_120 ?_
      refine mj_lmul (pc := 121) d_Mt_trade_121 ?_
      refine mj_ldc2 (pc := 122) (v := 1000) d_Mt_trade_122 k_Mt_125 ?_
      refine mj_ldiv (pc := 125) d_Mt_trade_125 (by decide) ?_
      refine mj_l2i (pc := 126) d_Mt_trade_126 ?_
      obtain ⟨C11, hb12, h⟩ := bd1_some h
      refine mj_callV (pc := 127) (b := 1) (vs := [.int (mj_wr (mj_wr C0 29 (x3.toNatClampNeg) ((C0 29 x3.toNatClampNeg) - (if (C0 35 x4.toNatClampNeg) < (C0 29 x3.toNatClampNeg) then C0 35 x4.toNatClampNeg else C0 29 x3.toNatClampNeg))) 35 (x4.toNatClampNeg) ((mj_wr C0 29 (x3.toNatClampNeg) ((C0 29 x3.toNatClampNeg) - (if (C0 35 x4.toNatClampNeg) < (C0 29 x3.toNatClampNeg) then C0 35 x4.toNatClampNeg else C0 29 x3.toNatClampNeg)) 35 x4.toNatClampNeg) - (if (C0 35 x4.toNatClampNeg) < (C0 29 x3.toNatClampNeg) then C0 35 x4.toNatClampNeg else C0 29 x3.toNatClampNeg)) 27 x3.toNatClampNeg), .int (C8 25 4), .int 1, .int (((((x5 * (if (C0 35 x4.toNatClampNeg) < (C0 29 x3.toNatClampNeg) then C0 35 x4.toNatClampNeg else C0 29 x3.toNatClampNeg)).toInt64) * ((C8 1 3).toInt64)) / 1000).toInt32)]) (st := []) d_Mt_trade_127 bB_Mt_trade_Tw_hand lk_Mt_118 iv_Tw_hand rc_1 rfl (Nat.le_of_ble_eq_true rfl) (Nat.le_of_ble_eq_true rfl) (r_Tw_hand hb12) ?_
      show mj_R M_Mt_trade 130 [some (.ref 25), some (.ref 1), some (.int x2), some (.int x3), some (.int x4), some (.int x5), some (.int (if (C0 35 x4.toNatClampNeg) < (C0 29 x3.toNatClampNeg) then C0 35 x4.toNatClampNeg else C0 29 x3.toNatClampNeg)), some (.int (x5 * (if (C0 35 x4.toNatClampNeg) < (C0 29 x3.toNatClampNeg) then C0 35 x4.toNatClampNeg else C0 29 x3.toNatClampNeg))), some (.int (mj_wr (mj_wr C0 29 (x3.toNatClampNeg) ((C0 29 x3.toNatClampNeg) - (if (C0 35 x4.toNatClampNeg) < (C0 29 x3.toNatClampNeg) then C0 35 x4.toNatClampNeg else C0 29 x3.toNatClampNeg))) 35 (x4.toNatClampNeg) ((mj_wr C0 29 (x3.toNatClampNeg) ((C0 29 x3.toNatClampNeg) - (if (C0 35 x4.toNatClampNeg) < (C0 29 x3.toNatClampNeg) then C0 35 x4.toNatClampNeg else C0 29 x3.toNatClampNeg)) 35 x4.toNatClampNeg) - (if (C0 35 x4.toNatClampNeg) < (C0 29 x3.toNatClampNeg) then C0 35 x4.toNatClampNeg else C0 29 x3.toNatClampNeg)) 27 x3.toNatClampNeg))] [] (SH, jn C11 D) none (SH, jn (C') D)
      cases h
      exact mj_weak _ (And.intro rfl (And.intro rfl (And.intro rfl (And.intro rfl (And.intro rfl (And.intro rfl (And.intro rfl trivial))))))) k14
  · rw [if_neg hc3] at h
    cases h
    exact mj_vret (pc := 29) d_Mt_trade_29 rfl
set_option maxRecDepth 20000 in
theorem l_Mt_serve_6 {r : Option Value} {D y : St} : ∀ (n : Nat) (y2 : Int32) (y3 : Int32) (y4 : Int32) (y5 : Int32) (y6 : Int32) (C : St) (Q_ : St), L_Mt_serve_6 n y2 y3 y4 y5 y6 C = some Q_ → mj_R M_Mt_serve 111 [none, none, none, none, none, none, none, none, none] [] (SH, jn Q_ D) r (SH, y) → mj_R M_Mt_serve 6 [some (.ref 25), some (.ref 1), some (.int y2), some (.int y3), some (.int y4), some (.int y5), some (.int y6), none, none] [] (SH, jn C D) r (SH, y) := by
  intro n
  induction n with
  | zero => intro y2 y3 y4 y5 y6 C Q_ h; cases h
  | succ n ih =>
    intro y2 y3 y4 y5 y6 C Q_ h hX
    unfold L_Mt_serve_6 at h
    refine mj_iload (pc := 6) (i := 5) d_Mt_serve_6 rfl ?_
    refine mj_aload_n (pc := 8) (i := 0) d_Mt_serve_8 rfl rfl (by decide) ?_
    refine mj_getR (pc := 9) d_Mt_serve_9 fl_Mt_12 sh_25 rfl rfl (by decide) (by decide) (by decide) ?_
    refine cj_getI (pc := 12) d_Mt_serve_12 fl_Mt_91 sh_26 rfl (by decide) (by decide) (by decide) ?_
    refine mj_icmp_ge (pc := 15) (tgt := 111) d_Mt_serve_15 (by decide) mj_hs (fun hc1 => ?_) (fun hc1 => ?_)
    · rw [if_pos hc1] at h
      cases h
      exact mj_weak _ trivial hX
    · rw [if_neg hc1] at h
      refine mj_iload (pc := 18) (i := 6) d_Mt_serve_18 rfl ?_
      refine mj_aload_n (pc := 20) (i := 0) d_Mt_serve_20 rfl rfl (by decide) ?_
      refine mj_getR (pc := 21) d_Mt_serve_21 fl_Mt_18 sh_25 rfl rfl (by decide) (by decide) (by decide) ?_
      refine cj_getI (pc := 24) d_Mt_serve_24 fl_Mt_91 sh_32 rfl (by decide) (by decide) (by decide) ?_
      refine mj_icmp_ge (pc := 27) (tgt := 111) d_Mt_serve_27 (by decide) mj_hs (fun hc2 => ?_) (fun hc2 => ?_)
      · rw [if_pos hc2] at h
        cases h
        exact mj_weak _ trivial hX
      · rw [if_neg hc2] at h
        refine mj_aload_n (pc := 30) (i := 0) d_Mt_serve_30 rfl rfl (by decide) ?_
        refine mj_getR (pc := 31) d_Mt_serve_31 fl_Mt_12 sh_25 rfl rfl (by decide) (by decide) (by decide) ?_
        refine mj_getR (pc := 34) d_Mt_serve_34 fl_Mt_101 sh_26 rfl rfl (by decide) (by decide) (by decide) ?_
        refine mj_iload (pc := 37) (i := 5) d_Mt_serve_37 rfl ?_
        obtain ⟨hg3, h⟩ := mj_gd h
        refine cj_iald (pc := 39) d_Mt_serve_39 sh_30 (by decide) hg3 (by decide) ?_
        refine mj_istore (pc := 40) (i := 7) d_Mt_serve_40 rfl (by decide) ?_
        refine mj_aload_n (pc := 42) (i := 0) d_Mt_serve_42 rfl rfl (by decide) ?_
        refine mj_getR (pc := 43) d_Mt_serve_43 fl_Mt_18 sh_25 rfl rfl (by decide) (by decide) (by decide) ?_
        refine mj_getR (pc := 46) d_Mt_serve_46 fl_Mt_101 sh_32 rfl rfl (by decide) (by decide) (by decide) ?_
        refine mj_iload (pc := 49) (i := 6) d_Mt_serve_49 rfl ?_
        obtain ⟨hg4, h⟩ := mj_gd h
        refine cj_iald (pc := 51) d_Mt_serve_51 sh_36 (by decide) hg4 (by decide) ?_
        refine mj_istore (pc := 52) (i := 8) d_Mt_serve_52 rfl (by decide) ?_
        refine mj_aload_n (pc := 54) (i := 0) d_Mt_serve_54 rfl rfl (by decide) ?_
        refine mj_iload (pc := 55) (i := 5) d_Mt_serve_55 rfl ?_
        refine mj_iload (pc := 57) (i := 6) d_Mt_serve_57 rfl ?_
        obtain ⟨v5, hb6, h⟩ := bd1_some h
        refine mj_callV (pc := 59) (b := 25) (vs := [.int y5, .int y6]) (st := []) d_Mt_serve_59 bB_Mt_serve_Mt_agree lk_Mt_94 iv_Mt_agree rc_25 rfl (Nat.le_of_ble_eq_true rfl) (Nat.le_of_ble_eq_true rfl) (r_Mt_agree hb6) ?_
        show mj_R M_Mt_serve 62 [some (.ref 25), some (.ref 1), some (.int y2), some (.int y3), some (.int y4), some (.int y5), some (.int y6), some (.int (C 30 y5.toNatClampNeg)), some (.int (C 36 y6.toNatClampNeg))] [.int v5] (SH, jn C D) r (SH, y)
        obtain ⟨C12, hb14, h⟩ := bd1_some h
        have k13 : mj_R M_Mt_serve 86 [some (.ref 25), some (.ref 1), some (.int y2), some (.int y3), some (.int y4), some (.int y5), some (.int y6), some (.int (C 30 y5.toNatClampNeg)), none] [] (SH, jn C12 D) r (SH, y) := by
          refine mj_aload_n (pc := 86) (i := 0) d_Mt_serve_86 rfl rfl (by decide) ?_
          refine mj_getR (pc := 87) d_Mt_serve_87 fl_Mt_12 sh_25 rfl rfl (by decide) (by decide) (by decide) ?_
          refine mj_getR (pc := 90) d_Mt_serve_90 fl_Mt_104 sh_26 rfl rfl (by decide) (by decide) (by decide) ?_
          refine mj_iload (pc := 93) (i := 7) d_Mt_serve_93 rfl ?_
          obtain ⟨hg15, h⟩ := mj_gd h
          refine cj_iald (pc := 95) d_Mt_serve_95 sh_29 (by decide) hg15 (by decide) ?_
          have k17 : mj_R M_Mt_serve 108 [some (.ref 25), some (.ref 1), some (.int y2), some (.int y3), some (.int y4), some (.int (if (C12 29 (C 30 y5.toNatClampNeg).toNatClampNeg) = 0 then y5 + 1 else y5)), some (.int (if (C12 29 (C 30 y5.toNatClampNeg).toNatClampNeg) = 0 then y6 else y6 + 1)), none, none] [] (SH, jn C12 D) r (SH, y) := by
            refine mj_goto (pc := 108) (tgt := 6) d_Mt_serve_108 (by decide) ?_
            exact mj_weak [some (.ref 25), some (.ref 1), some (.int y2), some (.int y3), some (.int y4), some (.int (if (C12 29 (C 30 y5.toNatClampNeg).toNatClampNeg) = 0 then y5 + 1 else y5)), some (.int (if (C12 29 (C 30 y5.toNatClampNeg).toNatClampNeg) = 0 then y6 else y6 + 1)), none, none] (And.intro rfl (And.intro rfl (And.intro rfl (And.intro rfl (And.intro rfl (And.intro rfl (And.intro rfl trivial))))))) (ih _ _ _ _ _ _ _ h hX)
          refine mj_if_ne (y := 0) (pc := 96) (tgt := 105) d_Mt_serve_96 (by decide) mj_hs (fun hc16 => ?_) (fun hc16 => ?_)
          · refine mj_iinc (pc := 105) (i := 6) (v := y6 + 1) d_Mt_serve_105 rfl (by rfl) rfl (by decide) ?_
            simp only [if_neg hc16] at k17
            exact mj_weak _ (And.intro rfl (And.intro rfl (And.intro rfl (And.intro rfl (And.intro rfl (And.intro rfl (And.intro rfl trivial))))))) k17
          · refine mj_iinc (pc := 99) (i := 5) (v := y5 + 1) d_Mt_serve_99 rfl (by rfl) rfl (by decide) ?_
            refine mj_goto (pc := 102) (tgt := 108) d_Mt_serve_102 (by decide) ?_
            simp only [if_pos hc16] at k17
            exact mj_weak _ (And.intro rfl (And.intro rfl (And.intro rfl (And.intro rfl (And.intro rfl (And.intro rfl (And.intro rfl trivial))))))) k17
        have h := hb14
        refine mj_if_eq (y := 0) (pc := 62) (tgt := 86) d_Mt_serve_62 (by decide) mj_hs (fun hc7 => ?_) (fun hc7 => ?_)
        · rw [if_pos hc7] at h
          cases h
          exact mj_weak _ (And.intro rfl (And.intro rfl (And.intro rfl (And.intro rfl (And.intro rfl (And.intro rfl (And.intro rfl (And.intro rfl trivial)))))))) k13
        · rw [if_neg hc7] at h
          refine mj_aload_n (pc := 65) (i := 0) d_Mt_serve_65 rfl rfl (by decide) ?_
          refine mj_aload_n (pc := 66) (i := 1) d_Mt_serve_66 rfl rfl (by decide) ?_
          refine mj_iload_n (pc := 67) (i := 2) d_Mt_serve_67 rfl rfl ?_
          refine mj_iload (pc := 68) (i := 7) d_Mt_serve_68 rfl ?_
          refine mj_iload (pc := 70) (i := 8) d_Mt_serve_70 rfl ?_
          refine mj_aload_n (pc := 72) (i := 0) d_Mt_serve_72 rfl rfl (by decide) ?_
          refine mj_iload_n (pc := 73) (i := 3) d_Mt_serve_73 rfl rfl ?_
          refine mj_iload (pc := 74) (i := 7) d_Mt_serve_74 rfl ?_
          refine mj_iload (pc := 76) (i := 8) d_Mt_serve_76 rfl ?_
          refine mj_iload (pc := 78) (i := 4) d_Mt_serve_78 rfl ?_
          obtain ⟨v8, hb9, h⟩ := bd1_some h
          refine mj_callV (pc := 80) (b := 25) (vs := [.int y3, .int (C 30 y5.toNatClampNeg), .int (C 36 y6.toNatClampNeg), .int y4]) (st := [.int (C 36 y6.toNatClampNeg), .int (C 30 y5.toNatClampNeg), .int y2, .ref 1, .ref 25]) d_Mt_serve_80 bB_Mt_serve_Mt_priceOf lk_Mt_107 iv_Mt_priceOf rc_25 rfl (Nat.le_of_ble_eq_true rfl) (Nat.le_of_ble_eq_true rfl) (r_Mt_priceOf hb9) ?_
          show mj_R M_Mt_serve 83 [some (.ref 25), some (.ref 1), some (.int y2), some (.int y3), some (.int y4), some (.int y5), some (.int y6), some (.int (C 30 y5.toNatClampNeg)), some (.int (C 36 y6.toNatClampNeg))] [.int v8, .int (C 36 y6.toNatClampNeg), .int (C 30 y5.toNatClampNeg), .int y2, .ref 1, .ref 25] (SH, jn C D) r (SH, y)
          obtain ⟨C10, hb11, h⟩ := bd1_some h
          refine mj_callV (pc := 83) (b := 25) (vs := [.ref 1, .int y2, .int (C 30 y5.toNatClampNeg), .int (C 36 y6.toNatClampNeg), .int v8]) (st := []) d_Mt_serve_83 bB_Mt_serve_Mt_trade lk_Mt_111 iv_Mt_trade rc_25 rfl (Nat.le_of_ble_eq_true rfl) (Nat.le_of_ble_eq_true rfl) (r_Mt_trade hb11) ?_
          show mj_R M_Mt_serve 86 [some (.ref 25), some (.ref 1), some (.int y2), some (.int y3), some (.int y4), some (.int y5), some (.int y6), some (.int (C 30 y5.toNatClampNeg)), some (.int (C 36 y6.toNatClampNeg))] [] (SH, jn C10 D) r (SH, y)
          cases h
          exact mj_weak _ (And.intro rfl (And.intro rfl (And.intro rfl (And.intro rfl (And.intro rfl (And.intro rfl (And.intro rfl (And.intro rfl trivial)))))))) k13
set_option maxRecDepth 20000 in
theorem r_Mt_serve {x2 : Int32} {x3 : Int32} {x4 : Int32} {C0 D : St} {C' : St} (h : f_Mt_serve x2 x3 x4 C0 = some (C')) : mj_R M_Mt_serve 0 (mj_lv M_Mt_serve.2.2.1 [.ref 25, .ref 1, .int x2, .int x3, .int x4]) [] (SH, jn C0 D) none (SH, jn (C') D) := by
  show mj_R M_Mt_serve 0 [some (.ref 25), some (.ref 1), some (.int x2), some (.int x3), some (.int x4), none, none, none, none] [] _ _ _
  unfold f_Mt_serve at h
  refine mj_iconst (pc := 0) (v := 0) d_Mt_serve_0 (by decide) ?_
  refine mj_istore (pc := 1) (i := 5) d_Mt_serve_1 rfl (by decide) ?_
  refine mj_iconst (pc := 3) (v := 0) d_Mt_serve_3 (by decide) ?_
  refine mj_istore (pc := 4) (i := 6) d_Mt_serve_4 rfl (by decide) ?_
  obtain ⟨C18, hl19, h⟩ := bd1_some h
  refine mj_weak [some (.ref 25), some (.ref 1), some (.int x2), some (.int x3), some (.int x4), some (.int 0), some (.int 0), none, none] (And.intro rfl (And.intro rfl (And.intro rfl (And.intro rfl (And.intro rfl (And.intro rfl (And.intro rfl trivial))))))) (l_Mt_serve_6 3000 _ _ _ _ _ _ _ hl19 ?_)
  cases h
  exact mj_vret (pc := 111) d_Mt_serve_111 rfl
set_option maxRecDepth 20000 in
theorem l_Mt_open_10 {r : Option Value} {D y : St} : ∀ (n : Nat) (y2 : Int32) (C : St) (Q_ : St), L_Mt_open_10 n y2 C = some Q_ → mj_R M_Mt_open 77 [none, none, none, none] [] (SH, jn Q_ D) r (SH, y) → mj_R M_Mt_open 10 [some (.ref 25), some (.ref 1), some (.int y2), none] [] (SH, jn C D) r (SH, y) := by
  intro n
  induction n with
  | zero => intro y2 C Q_ h; cases h
  | succ n ih =>
    intro y2 C Q_ h hX
    unfold L_Mt_open_10 at h
    refine mj_iload_n (pc := 10) (i := 2) d_Mt_open_10 rfl rfl ?_
    refine mj_iconst (pc := 11) (v := 5) d_Mt_open_11 (by decide) ?_
    refine mj_icmp_ge (pc := 12) (tgt := 77) d_Mt_open_12 (by decide) mj_hs (fun hc3 => ?_) (fun hc3 => ?_)
    · rw [if_pos hc3] at h
      cases h
      exact mj_weak _ trivial hX
    · rw [if_neg hc3] at h
      refine mj_aload_n (pc := 15) (i := 1) d_Mt_open_15 rfl rfl (by decide) ?_
      refine mj_getR (pc := 16) d_Mt_open_16 fl_Mt_71 sh_1 rfl rfl (by decide) (by decide) (by decide) ?_
      refine mj_iload_n (pc := 19) (i := 2) d_Mt_open_19 rfl rfl ?_
      refine mj_iconst (pc := 20) (v := 1) d_Mt_open_20 (by decide) ?_
      obtain ⟨v4, hb5, h⟩ := bd1_some h
      refine mj_callV (pc := 21) (b := 10) (vs := [.int y2, .int 1]) (st := []) d_Mt_open_21 bB_Mt_open_Wr_get lk_Mt_77 iv_Wr_get rc_10 rfl (Nat.le_of_ble_eq_true rfl) (Nat.le_of_ble_eq_true rfl) (r_Wr_get hb5) ?_
      show mj_R M_Mt_open 24 [some (.ref 25), some (.ref 1), some (.int y2), none] [.int v4] (SH, jn C D) r (SH, y)
      refine mj_istore_n (pc := 24) (i := 3) d_Mt_open_24 rfl rfl (by decide) ?_
      refine mj_aload_n (pc := 25) (i := 0) d_Mt_open_25 rfl rfl (by decide) ?_
      refine mj_getR (pc := 26) d_Mt_open_26 fl_Mt_12 sh_25 rfl rfl (by decide) (by decide) (by decide) ?_
      refine mj_iload_n (pc := 29) (i := 2) d_Mt_open_29 rfl rfl ?_
      refine mj_iconst (pc := 30) (v := 1) d_Mt_open_30 (by decide) ?_
      obtain ⟨C6, hb7, h⟩ := bd1_some h
      refine mj_callV (pc := 31) (b := 26) (vs := [.int y2, .int 1]) (st := []) d_Mt_open_31 bB_Mt_open_Of_pick lk_Mt_80 iv_Of_pick rc_26 rfl (Nat.le_of_ble_eq_true rfl) (Nat.le_of_ble_eq_true rfl) (r_Of_pick hb7) ?_
      show mj_R M_Mt_open 34 [some (.ref 25), some (.ref 1), some (.int y2), some (.int v4)] [] (SH, jn C6 D) r (SH, y)
      refine mj_aload_n (pc := 34) (i := 0) d_Mt_open_34 rfl rfl (by decide) ?_
      refine mj_getR (pc := 35) d_Mt_open_35 fl_Mt_18 sh_25 rfl rfl (by decide) (by decide) (by decide) ?_
      refine mj_iload_n (pc := 38) (i := 2) d_Mt_open_38 rfl rfl ?_
      refine mj_iload_n (pc := 39) (i := 3) d_Mt_open_39 rfl rfl ?_
      have k9 : mj_R M_Mt_open 48 [some (.ref 25), some (.ref 1), some (.int y2), some (.int v4)] [.int (if v4 = 0 then 0 else (-1)), .int y2, .ref 32] (SH, jn C6 D) r (SH, y) := by
        obtain ⟨C10, hb11, h⟩ := bd1_some h
        refine mj_callV (pc := 48) (b := 32) (vs := [.int y2, .int (if v4 = 0 then 0 else (-1))]) (st := []) d_Mt_open_48 bB_Mt_open_Of_pick lk_Mt_80 iv_Of_pick rc_32 rfl (Nat.le_of_ble_eq_true rfl) (Nat.le_of_ble_eq_true rfl) (r_Of_pick_1 hb11) ?_
        show mj_R M_Mt_open 51 [some (.ref 25), some (.ref 1), some (.int y2), some (.int v4)] [] (SH, jn C10 D) r (SH, y)
        refine mj_aload_n (pc := 51) (i := 0) d_Mt_open_51 rfl rfl (by decide) ?_
        refine mj_aload_n (pc := 52) (i := 1) d_Mt_open_52 rfl rfl (by decide) ?_
        refine mj_iload_n (pc := 53) (i := 2) d_Mt_open_53 rfl rfl ?_
        refine mj_iload_n (pc := 54) (i := 3) d_Mt_open_54 rfl rfl ?_
        refine mj_iload_n (pc := 55) (i := 3) d_Mt_open_55 rfl rfl ?_
        refine mj_iconst (pc := 56) (v := 1) d_Mt_open_56 (by decide) ?_
        obtain ⟨w15, hb17, h⟩ := bd1_some h
        have k16 : mj_R M_Mt_open 68 [some (.ref 25), some (.ref 1), some (.int y2), none] [.int w15, .int v4, .int y2, .ref 1, .ref 25] (SH, jn C10 D) r (SH, y) := by
          obtain ⟨C18, hb19, h⟩ := bd1_some h
          refine mj_callV (pc := 68) (b := 25) (vs := [.ref 1, .int y2, .int v4, .int w15]) (st := []) d_Mt_open_68 bB_Mt_open_Mt_serve lk_Mt_87 iv_Mt_serve rc_25 rfl (Nat.le_of_ble_eq_true rfl) (Nat.le_of_ble_eq_true rfl) (r_Mt_serve hb19) ?_
          show mj_R M_Mt_open 71 [some (.ref 25), some (.ref 1), some (.int y2), none] [] (SH, jn C18 D) r (SH, y)
          refine mj_iinc (pc := 71) (i := 2) (v := y2 + 1) d_Mt_open_71 rfl (by rfl) rfl (by decide) ?_
          refine mj_goto (pc := 74) (tgt := 10) d_Mt_open_74 (by decide) ?_
          exact mj_weak [some (.ref 25), some (.ref 1), some (.int (y2 + 1)), none] (And.intro rfl (And.intro rfl (And.intro rfl trivial))) (ih _ _ _ h hX)
        have h := hb17
        refine mj_icmp_ne (pc := 57) (tgt := 67) d_Mt_open_57 (by decide) mj_hs (fun hc12 => ?_) (fun hc12 => ?_)
        · rw [if_neg hc12] at h
          refine mj_iconst (pc := 67) (v := 0) d_Mt_open_67 (by decide) ?_
          cases h
          exact mj_weak _ (And.intro rfl (And.intro rfl (And.intro rfl trivial))) k16
        · rw [if_pos hc12] at h
          refine mj_aload_n (pc := 60) (i := 0) d_Mt_open_60 rfl rfl (by decide) ?_
          obtain ⟨v13, hb14, h⟩ := bd1_some h
          refine mj_callV (pc := 61) (b := 25) (vs := []) (st := [.int v4, .int y2, .ref 1, .ref 25]) d_Mt_open_61 bB_Mt_open_Mt_calledPrice lk_Mt_84 iv_Mt_calledPrice rc_25 rfl (Nat.le_of_ble_eq_true rfl) (Nat.le_of_ble_eq_true rfl) (r_Mt_calledPrice hb14) ?_
          show mj_R M_Mt_open 64 [some (.ref 25), some (.ref 1), some (.int y2), some (.int v4)] [.int v13, .int v4, .int y2, .ref 1, .ref 25] (SH, jn C10 D) r (SH, y)
          refine mj_goto (pc := 64) (tgt := 68) d_Mt_open_64 (by decide) ?_
          cases h
          exact mj_weak _ (And.intro rfl (And.intro rfl (And.intro rfl trivial))) k16
      refine mj_if_ne (y := 0) (pc := 40) (tgt := 47) d_Mt_open_40 (by decide) mj_hs (fun hc8 => ?_) (fun hc8 => ?_)
      · refine mj_iconst (pc := 47) (v := -1) d_Mt_open_47 (by decide) ?_
        simp only [if_neg hc8] at k9
        exact mj_weak _ (And.intro rfl (And.intro rfl (And.intro rfl (And.intro rfl trivial)))) k9
      · refine mj_iconst (pc := 43) (v := 0) d_Mt_open_43 (by decide) ?_
        refine mj_goto (pc := 44) (tgt := 48) d_Mt_open_44 (by decide) ?_
        simp only [if_pos hc8] at k9
        exact mj_weak _ (And.intro rfl (And.intro rfl (And.intro rfl (And.intro rfl trivial)))) k9
set_option maxRecDepth 20000 in
theorem r_Mt_open  {C0 D : St} {C' : St} (h : f_Mt_open C0 = some (C')) : mj_R M_Mt_open 0 (mj_lv M_Mt_open.2.2.1 [.ref 25, .ref 1]) [] (SH, jn C0 D) none (SH, jn (C') D) := by
  show mj_R M_Mt_open 0 [some (.ref 25), some (.ref 1), none, none] [] _ _ _
  unfold f_Mt_open at h
  refine mj_aload_n (pc := 0) (i := 0) d_Mt_open_0 rfl rfl (by decide) ?_
  refine mj_aload_n (pc := 1) (i := 1) d_Mt_open_1 rfl rfl (by decide) ?_
  obtain ⟨v1, hb2, h⟩ := bd1_some h
  refine mj_callV (pc := 2) (b := 1) (vs := []) (st := [.ref 25]) d_Mt_open_2 bB_Mt_open_Tw_firstCouncil lk_Mt_63 iv_Tw_firstCouncil rc_1 rfl (Nat.le_of_ble_eq_true rfl) (Nat.le_of_ble_eq_true rfl) (r_Tw_firstCouncil hb2) ?_
  show mj_R M_Mt_open 5 [some (.ref 25), some (.ref 1), none, none] [.int v1, .ref 25] (SH, jn C0 D) none (SH, jn (C') D)
  refine cj_putI (pc := 5) d_Mt_open_5 fl_Mt_67 sh_25 rfl (fun _ _ _ h => by cases h; rfl) (by decide) (by decide) (by decide) ?_
  refine mj_iconst (pc := 8) (v := 0) d_Mt_open_8 (by decide) ?_
  refine mj_istore_n (pc := 9) (i := 2) d_Mt_open_9 rfl rfl (by decide) ?_
  obtain ⟨C20, hl21, h⟩ := bd1_some h
  refine mj_weak [some (.ref 25), some (.ref 1), some (.int 0), none] (And.intro rfl (And.intro rfl (And.intro rfl trivial))) (l_Mt_open_10 3000 _ _ _ hl21 ?_)
  cases h
  exact mj_vret (pc := 77) d_Mt_open_77 rfl
set_option maxRecDepth 20000 in
theorem r_Ln_get {x1 : Int32} {x2 : Int32} {C0 D : St} {v : Int32} (h : f_Ln_get x1 x2 C0 = some v) : mj_R M_Ln_get 0 (mj_lv M_Ln_get.2.2.1 [.ref 15, .int x1, .int x2]) [] (SH, jn C0 D) (some (.int v)) (SH, jn C0 D) := by
  show mj_R M_Ln_get 0 [some (.ref 15), some (.int x1), some (.int x2)] [] _ _ _
  unfold f_Ln_get at h
  refine mj_aload_n (pc := 0) (i := 0) d_Ln_get_0 rfl rfl (by decide) ?_
  refine mj_getR (pc := 1) d_Ln_get_1 fl_Ln_11 sh_15 rfl rfl (by decide) (by decide) (by decide) ?_
  refine mj_iload_n (pc := 4) (i := 1) d_Ln_get_4 rfl rfl ?_
  refine mj_iconst (pc := 5) (v := 4) d_Ln_get_5 (by decide) ?_
  refine mj_imul (pc := 6) d_Ln_get_6 ?_
  refine mj_iload_n (pc := 7) (i := 2) d_Ln_get_7 rfl rfl ?_
  refine mj_iadd (pc := 8) d_Ln_get_8 ?_
  obtain ⟨hg1, h⟩ := mj_gd h
  refine cj_iald (pc := 9) d_Ln_get_9 sh_16 (by decide) hg1 (by decide) ?_
  cases h
  exact mj_iret (pc := 10) d_Ln_get_10 rfl
set_option maxRecDepth 20000 in
theorem l_Ln_owedWhere_5 {r : Option Value} {D y : St} : ∀ (n : Nat) (y1 : Int32) (y2 : Int32) (y3 : Int32) (y4 : Int32) (C : St) (o3_ : Int32), L_Ln_owedWhere_5 n y1 y2 y3 y4 C = some o3_ → mj_R M_Ln_owedWhere 41 [none, none, none, some (.int o3_), none] [] (SH, jn C D) r (SH, y) → mj_R M_Ln_owedWhere 5 [some (.ref 15), some (.int y1), some (.int y2), some (.int y3), some (.int y4)] [] (SH, jn C D) r (SH, y) := by
  intro n
  induction n with
  | zero => intro y1 y2 y3 y4 C o3_ h; cases h
  | succ n ih =>
    intro y1 y2 y3 y4 C o3_ h hX
    unfold L_Ln_owedWhere_5 at h
    refine mj_iload (pc := 5) (i := 4) d_Ln_owedWhere_5 rfl ?_
    refine mj_aload_n (pc := 7) (i := 0) d_Ln_owedWhere_7 rfl rfl (by decide) ?_
    refine cj_getI (pc := 8) d_Ln_owedWhere_8 fl_Ln_15 sh_15 rfl (by decide) (by decide) (by decide) ?_
    refine mj_icmp_ge (pc := 11) (tgt := 41) d_Ln_owedWhere_11 (by decide) mj_hs (fun hc1 => ?_) (fun hc1 => ?_)
    · rw [if_pos hc1] at h
      cases h
      exact mj_weak _ (And.intro rfl trivial) hX
    · rw [if_neg hc1] at h
      refine mj_aload_n (pc := 14) (i := 0) d_Ln_owedWhere_14 rfl rfl (by decide) ?_
      refine mj_iload (pc := 15) (i := 4) d_Ln_owedWhere_15 rfl ?_
      refine mj_iload_n (pc := 17) (i := 1) d_Ln_owedWhere_17 rfl rfl ?_
      obtain ⟨v2, hb3, h⟩ := bd1_some h
      refine mj_callV (pc := 18) (b := 15) (vs := [.int y4, .int y1]) (st := []) d_Ln_owedWhere_18 bB_Ln_owedWhere_Ln_get lk_Ln_23 iv_Ln_get rc_15 rfl (Nat.le_of_ble_eq_true rfl) (Nat.le_of_ble_eq_true rfl) (r_Ln_get hb3) ?_
      show mj_R M_Ln_owedWhere 21 [some (.ref 15), some (.int y1), some (.int y2), some (.int y3), some (.int y4)] [.int v2] (SH, jn C D) r (SH, y)
      refine mj_iload_n (pc := 21) (i := 2) d_Ln_owedWhere_21 rfl rfl ?_
      obtain ⟨w7, hb9, h⟩ := bd1_some h
      have k8 : mj_R M_Ln_owedWhere 35 [some (.ref 15), some (.int y1), some (.int y2), some (.int w7), some (.int y4)] [] (SH, jn C D) r (SH, y) := by
        refine mj_iinc (pc := 35) (i := 4) (v := y4 + 1) d_Ln_owedWhere_35 rfl (by rfl) rfl (by decide) ?_
        refine mj_goto (pc := 38) (tgt := 5) d_Ln_owedWhere_38 (by decide) ?_
        exact mj_weak [some (.ref 15), some (.int y1), some (.int y2), some (.int w7), some (.int (y4 + 1))] (And.intro rfl (And.intro rfl (And.intro rfl (And.intro rfl (And.intro rfl trivial))))) (ih _ _ _ _ _ _ h hX)
      have h := hb9
      refine mj_icmp_ne (pc := 22) (tgt := 35) d_Ln_owedWhere_22 (by decide) mj_hs (fun hc4 => ?_) (fun hc4 => ?_)
      · rw [if_neg hc4] at h
        cases h
        exact mj_weak _ (And.intro rfl (And.intro rfl (And.intro rfl (And.intro rfl (And.intro rfl trivial))))) k8
      · rw [if_pos hc4] at h
        refine mj_iload_n (pc := 25) (i := 3) d_Ln_owedWhere_25 rfl rfl ?_
        refine mj_aload_n (pc := 26) (i := 0) d_Ln_owedWhere_26 rfl rfl (by decide) ?_
        refine mj_iload (pc := 27) (i := 4) d_Ln_owedWhere_27 rfl ?_
        refine mj_iconst (pc := 29) (v := 2) d_Ln_owedWhere_29 (by decide) ?_
        obtain ⟨v5, hb6, h⟩ := bd1_some h
        refine mj_callV (pc := 30) (b := 15) (vs := [.int y4, .int 2]) (st := [.int y3]) d_Ln_owedWhere_30 bB_Ln_owedWhere_Ln_get lk_Ln_23 iv_Ln_get rc_15 rfl (Nat.le_of_ble_eq_true rfl) (Nat.le_of_ble_eq_true rfl) (r_Ln_get hb6) ?_
        show mj_R M_Ln_owedWhere 33 [some (.ref 15), some (.int y1), some (.int y2), some (.int y3), some (.int y4)] [.int v5, .int y3] (SH, jn C D) r (SH, y)
        refine mj_iadd (pc := 33) d_Ln_owedWhere_33 ?_
        refine mj_istore_n (pc := 34) (i := 3) d_Ln_owedWhere_34 rfl rfl (by decide) ?_
        cases h
        exact mj_weak _ (And.intro rfl (And.intro rfl (And.intro rfl (And.intro rfl (And.intro rfl trivial))))) k8
set_option maxRecDepth 20000 in
theorem r_Ln_owedWhere {x1 : Int32} {x2 : Int32} {C0 D : St} {v : Int32} (h : f_Ln_owedWhere x1 x2 C0 = some v) : mj_R M_Ln_owedWhere 0 (mj_lv M_Ln_owedWhere.2.2.1 [.ref 15, .int x1, .int x2]) [] (SH, jn C0 D) (some (.int v)) (SH, jn C0 D) := by
  show mj_R M_Ln_owedWhere 0 [some (.ref 15), some (.int x1), some (.int x2), none, none] [] _ _ _
  unfold f_Ln_owedWhere at h
  refine mj_iconst (pc := 0) (v := 0) d_Ln_owedWhere_0 (by decide) ?_
  refine mj_istore_n (pc := 1) (i := 3) d_Ln_owedWhere_1 rfl rfl (by decide) ?_
  refine mj_iconst (pc := 2) (v := 0) d_Ln_owedWhere_2 (by decide) ?_
  refine mj_istore (pc := 3) (i := 4) d_Ln_owedWhere_3 rfl (by decide) ?_
  obtain ⟨o10, hl11, h⟩ := bd1_some h
  refine mj_weak [some (.ref 15), some (.int x1), some (.int x2), some (.int 0), some (.int 0)] (And.intro rfl (And.intro rfl (And.intro rfl (And.intro rfl (And.intro rfl trivial))))) (l_Ln_owedWhere_5 3000 _ _ _ _ _ _ hl11 ?_)
  refine mj_iload_n (pc := 41) (i := 3) d_Ln_owedWhere_41 rfl rfl ?_
  cases h
  exact mj_iret (pc := 42) d_Ln_owedWhere_42 rfl
set_option maxRecDepth 20000 in
theorem l_Ln_shareOut_3 {r : Option Value} {D y : St} : ∀ (n : Nat) (y2 : Int32) (y3 : Int64) (y5 : Int64) (y7 : Int32) (C : St) (Q_ : St), L_Ln_shareOut_3 n y2 y3 y5 y7 C = some Q_ → mj_R M_Ln_shareOut 67 [none, none, none, none, none, none, none, none, none] [] (SH, jn Q_ D) r (SH, y) → mj_R M_Ln_shareOut 3 [some (.ref 15), some (.ref 1), some (.int y2), some (.long y3), none, some (.long y5), none, some (.int y7), none] [] (SH, jn C D) r (SH, y) := by
  intro n
  induction n with
  | zero => intro y2 y3 y5 y7 C Q_ h; cases h
  | succ n ih =>
    intro y2 y3 y5 y7 C Q_ h hX
    unfold L_Ln_shareOut_3 at h
    refine mj_iload (pc := 3) (i := 7) d_Ln_shareOut_3 rfl ?_
    refine mj_aload_n (pc := 5) (i := 0) d_Ln_shareOut_5 rfl rfl (by decide) ?_
    refine cj_getI (pc := 6) d_Ln_shareOut_6 fl_Ln_15 sh_15 rfl (by decide) (by decide) (by decide) ?_
    refine mj_icmp_ge (pc := 9) (tgt := 67) d_Ln_shareOut_9 (by decide) mj_hs (fun hc1 => ?_) (fun hc1 => ?_)
    · rw [if_pos hc1] at h
      cases h
      exact mj_weak _ trivial hX
    · rw [if_neg hc1] at h
      refine mj_aload_n (pc := 12) (i := 0) d_Ln_shareOut_12 rfl rfl (by decide) ?_
      refine mj_iload (pc := 13) (i := 7) d_Ln_shareOut_13 rfl ?_
      refine mj_iconst (pc := 15) (v := 1) d_Ln_shareOut_15 (by decide) ?_
      obtain ⟨v2, hb3, h⟩ := bd1_some h
      refine mj_callV (pc := 16) (b := 15) (vs := [.int y7, .int 1]) (st := []) d_Ln_shareOut_16 bB_Ln_shareOut_Ln_get lk_Ln_23 iv_Ln_get rc_15 rfl (Nat.le_of_ble_eq_true rfl) (Nat.le_of_ble_eq_true rfl) (r_Ln_get hb3) ?_
      show mj_R M_Ln_shareOut 19 [some (.ref 15), some (.ref 1), some (.int y2), some (.long y3), none, some (.long y5), none, some (.int y7), none] [.int v2] (SH, jn C D) r (SH, y)
      refine mj_iload_n (pc := 19) (i := 2) d_Ln_shareOut_19 rfl rfl ?_
      obtain ⟨C13, hb15, h⟩ := bd1_some h
      have k14 : mj_R M_Ln_shareOut 61 [some (.ref 15), some (.ref 1), some (.int y2), some (.long y3), none, some (.long y5), none, some (.int y7), none] [] (SH, jn C13 D) r (SH, y) := by
        refine mj_iinc (pc := 61) (i := 7) (v := y7 + 1) d_Ln_shareOut_61 rfl (by rfl) rfl (by decide) ?_
        refine mj_goto (pc := 64) (tgt := 3) d_Ln_shareOut_64 (by decide) ?_
        exact mj_weak [some (.ref 15), some (.ref 1), some (.int y2), some (.long y3), none, some (.long y5), none, some (.int (y7 + 1)), none] (And.intro rfl (And.intro rfl (And.intro rfl (And.intro rfl (And.intro rfl (And.intro rfl trivial)))))) (ih _ _ _ _ _ _ h hX)
      have h := hb15
      refine mj_icmp_ne (pc := 20) (tgt := 61) d_Ln_shareOut_20 (by decide) mj_hs (fun hc4 => ?_) (fun hc4 => ?_)
      · rw [if_neg hc4] at h
        cases h
        exact mj_weak _ (And.intro rfl (And.intro rfl (And.intro rfl (And.intro rfl (And.intro rfl (And.intro rfl trivial)))))) k14
      · rw [if_pos hc4] at h
        refine mj_lload (pc := 23) (i := 5) d_Ln_shareOut_23 rfl ?_
        refine mj_lconst (pc := 25) (v := 0) d_Ln_shareOut_25 (by decide) ?_
        refine mj_lcmp (pc := 26) d_Ln_shareOut_26 ?_
        refine mj_if_le (y := 0) (pc := 27) (tgt := 61) d_Ln_shareOut_27 (by decide) mj_hs (fun hc5 => ?_) (fun hc5 => ?_)
        · rw [if_pos hc5] at h
          cases h
          exact mj_weak _ (And.intro rfl (And.intro rfl (And.intro rfl (And.intro rfl (And.intro rfl (And.intro rfl trivial)))))) k14
        · rw [if_neg hc5] at h
          refine mj_lload_n (pc := 30) (i := 3) d_Ln_shareOut_30 rfl rfl ?_
          refine mj_aload_n (pc := 31) (i := 0) d_Ln_shareOut_31 rfl rfl (by decide) ?_
          refine mj_iload (pc := 32) (i := 7) d_Ln_shareOut_32 rfl ?_
          refine mj_iconst (pc := 34) (v := 2) d_Ln_shareOut_34 (by decide) ?_
          obtain ⟨v6, hb7, h⟩ := bd1_some h
          refine mj_callV (pc := 35) (b := 15) (vs := [.int y7, .int 2]) (st := [.long y3]) d_Ln_shareOut_35 bB_Ln_shareOut_Ln_get lk_Ln_23 iv_Ln_get rc_15 rfl (Nat.le_of_ble_eq_true rfl) (Nat.le_of_ble_eq_true rfl) (r_Ln_get hb7) ?_
          show mj_R M_Ln_shareOut 38 [some (.ref 15), some (.ref 1), some (.int y2), some (.long y3), none, some (.long y5), none, some (.int y7), none] [.int v6, .long y3] (SH, jn C D) r (SH, y)
          refine mj_i2l (pc := 38) d_Ln_shareOut_38 ?_
          refine mj_lmul (pc := 39) d_Ln_shareOut_39 ?_
          refine mj_lload (pc := 40) (i := 5) d_Ln_shareOut_40 rfl ?_
          obtain ⟨hg8, h⟩ := mj_gz h
          refine mj_ldiv (pc := 42) d_Ln_shareOut_42 hg8 ?_
          refine mj_l2i (pc := 43) d_Ln_shareOut_43 ?_
          refine mj_istore (pc := 44) (i := 8) d_Ln_shareOut_44 rfl (by decide) ?_
          refine mj_aload_n (pc := 46) (i := 1) d_Ln_shareOut_46 rfl rfl (by decide) ?_
          refine mj_iload_n (pc := 47) (i := 2) d_Ln_shareOut_47 rfl rfl ?_
          refine mj_aload_n (pc := 48) (i := 0) d_Ln_shareOut_48 rfl rfl (by decide) ?_
          refine mj_iload (pc := 49) (i := 7) d_Ln_shareOut_49 rfl ?_
          refine mj_iconst (pc := 51) (v := 0) d_Ln_shareOut_51 (by decide) ?_
          obtain ⟨v9, hb10, h⟩ := bd1_some h
          refine mj_callV (pc := 52) (b := 15) (vs := [.int y7, .int 0]) (st := [.int y2, .ref 1]) d_Ln_shareOut_52 bB_Ln_shareOut_Ln_get lk_Ln_23 iv_Ln_get rc_15 rfl (Nat.le_of_ble_eq_true rfl) (Nat.le_of_ble_eq_true rfl) (r_Ln_get hb10) ?_
          show mj_R M_Ln_shareOut 55 [some (.ref 15), some (.ref 1), some (.int y2), some (.long y3), none, some (.long y5), none, some (.int y7), some (.int (((y3 * (v6.toInt64)) / y5).toInt32))] [.int v9, .int y2, .ref 1] (SH, jn C D) r (SH, y)
          refine mj_iconst (pc := 55) (v := 4) d_Ln_shareOut_55 (by decide) ?_
          refine mj_iload (pc := 56) (i := 8) d_Ln_shareOut_56 rfl ?_
          obtain ⟨C11, hb12, h⟩ := bd1_some h
          refine mj_callV (pc := 58) (b := 1) (vs := [.int y2, .int v9, .int 4, .int (((y3 * (v6.toInt64)) / y5).toInt32)]) (st := []) d_Ln_shareOut_58 bB_Ln_shareOut_Tw_hand lk_Ln_42 iv_Tw_hand rc_1 rfl (Nat.le_of_ble_eq_true rfl) (Nat.le_of_ble_eq_true rfl) (r_Tw_hand hb12) ?_
          show mj_R M_Ln_shareOut 61 [some (.ref 15), some (.ref 1), some (.int y2), some (.long y3), none, some (.long y5), none, some (.int y7), some (.int (((y3 * (v6.toInt64)) / y5).toInt32))] [] (SH, jn C11 D) r (SH, y)
          cases h
          exact mj_weak _ (And.intro rfl (And.intro rfl (And.intro rfl (And.intro rfl (And.intro rfl (And.intro rfl trivial)))))) k14
set_option maxRecDepth 20000 in
theorem r_Ln_shareOut {x2 : Int32} {x3 : Int64} {x5 : Int64} {C0 D : St} {C' : St} (h : f_Ln_shareOut x2 x3 x5 C0 = some (C')) : mj_R M_Ln_shareOut 0 (mj_lv M_Ln_shareOut.2.2.1 [.ref 15, .ref 1, .int x2, .long x3, .long x5]) [] (SH, jn C0 D) none (SH, jn (C') D) := by
  show mj_R M_Ln_shareOut 0 [some (.ref 15), some (.ref 1), some (.int x2), some (.long x3), none, some (.long x5), none, none, none] [] _ _ _
  unfold f_Ln_shareOut at h
  refine mj_iconst (pc := 0) (v := 0) d_Ln_shareOut_0 (by decide) ?_
  refine mj_istore (pc := 1) (i := 7) d_Ln_shareOut_1 rfl (by decide) ?_
  obtain ⟨C16, hl17, h⟩ := bd1_some h
  refine mj_weak [some (.ref 15), some (.ref 1), some (.int x2), some (.long x3), none, some (.long x5), none, some (.int 0), none] (And.intro rfl (And.intro rfl (And.intro rfl (And.intro rfl (And.intro rfl (And.intro rfl trivial)))))) (l_Ln_shareOut_3 3000 _ _ _ _ _ _ hl17 ?_)
  cases h
  exact mj_vret (pc := 67) d_Ln_shareOut_67 rfl
