set_option maxRecDepth 20000 in
theorem r_Mk_told {x1 : Int32} {x2 : Int32} {x3 : Int32} {C0 D : St} {v : Int32} (h : f_Mk_told x1 x2 x3 C0 = some v) : mj_R M_Mk_told 0 (mj_lv M_Mk_told.2.2.1 [.ref 0, .int x1, .int x2, .int x3]) [] (SH, jn C0 D) (some (.int v)) (SH, jn C0 D) := by
  show mj_R M_Mk_told 0 [some (.ref 0), some (.int x1), some (.int x2), some (.int x3)] [] _ _ _
  unfold f_Mk_told at h
  refine mj_aload_n (pc := 0) (i := 0) d_Mk_told_0 rfl rfl (by decide) ?_
  refine mj_getR (pc := 1) d_Mk_told_1 fl_Mk_10 sh_0 rfl rfl (by decide) (by decide) (by decide) ?_
  refine mj_iload_n (pc := 4) (i := 1) d_Mk_told_4 rfl rfl ?_
  obtain ⟨v1, hb2, h⟩ := bd1_some h
  refine mj_callV (pc := 5) (b := 1) (vs := [.int x1]) (st := []) d_Mk_told_5 bB_Mk_told_Tw_isThere lk_Mk_64 iv_Tw_isThere rc_1 rfl (Nat.le_of_ble_eq_true rfl) (Nat.le_of_ble_eq_true rfl) (r_Tw_isThere hb2) ?_
  show mj_R M_Mk_told 8 [some (.ref 0), some (.int x1), some (.int x2), some (.int x3)] [.int v1] (SH, jn C0 D) (some (.int v)) (SH, jn C0 D)
  refine mj_if_eq (y := 0) (pc := 8) (tgt := 21) d_Mk_told_8 (by decide) mj_hs (fun hc3 => ?_) (fun hc3 => ?_)
  · rw [if_pos hc3] at h
    refine mj_ldc (pc := 21) (v := -1000000001) d_Mk_told_21 k_Mk_54 ?_
    cases h
    exact mj_iret (pc := 23) d_Mk_told_23 rfl
  · rw [if_neg hc3] at h
    refine mj_iload_n (pc := 11) (i := 3) d_Mk_told_11 rfl rfl ?_
    refine mj_iconst (pc := 12) (v := 0) d_Mk_told_12 (by decide) ?_
    refine mj_bipush (pc := 13) (v := 8) d_Mk_told_13 (by decide) ?_
    obtain ⟨v4, hb5, h⟩ := bd1_some h
    refine mj_callS (pc := 15) (vs := [.int x3, .int 0, .int 8]) (st := []) d_Mk_told_15 bB_Mk_told_Mk_isWithin lk_Mk_50 st_Mk_isWithin rfl (Nat.le_of_ble_eq_true rfl) (Nat.le_of_ble_eq_true rfl) (r_Mk_isWithin hb5) ?_
    show mj_R M_Mk_told 18 [some (.ref 0), some (.int x1), some (.int x2), some (.int x3)] [.int v4] (SH, jn C0 D) (some (.int v)) (SH, jn C0 D)
    refine mj_if_ne (y := 0) (pc := 18) (tgt := 24) d_Mk_told_18 (by decide) mj_hs (fun hc6 => ?_) (fun hc6 => ?_)
    · rw [if_neg hc6] at h
      refine mj_iload_n (pc := 24) (i := 2) d_Mk_told_24 rfl rfl ?_
      refine mj_iconst (pc := 25) (v := 0) d_Mk_told_25 (by decide) ?_
      refine mj_aload_n (pc := 26) (i := 0) d_Mk_told_26 rfl rfl (by decide) ?_
      refine mj_getR (pc := 27) d_Mk_told_27 fl_Mk_10 sh_0 rfl rfl (by decide) (by decide) (by decide) ?_
      refine mj_getR (pc := 30) d_Mk_told_30 fl_Mk_123 sh_1 rfl rfl (by decide) (by decide) (by decide) ?_
      refine mj_getR (pc := 33) d_Mk_told_33 fl_Mk_155 sh_12 rfl rfl (by decide) (by decide) (by decide) ?_
      refine mj_iload_n (pc := 36) (i := 1) d_Mk_told_36 rfl rfl ?_
      obtain ⟨hg7, h⟩ := mj_gd h
      refine cj_iald (pc := 37) d_Mk_told_37 sh_13 (by decide) hg7 (by decide) ?_
      refine mj_iconst (pc := 38) (v := 1) d_Mk_told_38 (by decide) ?_
      refine mj_isub (pc := 39) d_Mk_told_39 ?_
      obtain ⟨v8, hb9, h⟩ := bd1_some h
      refine mj_callS (pc := 40) (vs := [.int x2, .int 0, .int ((C0 13 x1.toNatClampNeg) - 1)]) (st := []) d_Mk_told_40 bB_Mk_told_Mk_isWithin lk_Mk_50 st_Mk_isWithin rfl (Nat.le_of_ble_eq_true rfl) (Nat.le_of_ble_eq_true rfl) (r_Mk_isWithin hb9) ?_
      show mj_R M_Mk_told 43 [some (.ref 0), some (.int x1), some (.int x2), some (.int x3)] [.int v8] (SH, jn C0 D) (some (.int v)) (SH, jn C0 D)
      refine mj_if_ne (y := 0) (pc := 43) (tgt := 49) d_Mk_told_43 (by decide) mj_hs (fun hc10 => ?_) (fun hc10 => ?_)
      · rw [if_neg hc10] at h
        refine mj_aload_n (pc := 49) (i := 0) d_Mk_told_49 rfl rfl (by decide) ?_
        refine mj_getR (pc := 50) d_Mk_told_50 fl_Mk_10 sh_0 rfl rfl (by decide) (by decide) (by decide) ?_
        refine mj_getR (pc := 53) d_Mk_told_53 fl_Mk_123 sh_1 rfl rfl (by decide) (by decide) (by decide) ?_
        refine mj_iload_n (pc := 56) (i := 1) d_Mk_told_56 rfl rfl ?_
        refine mj_iload_n (pc := 57) (i := 2) d_Mk_told_57 rfl rfl ?_
        refine mj_iload_n (pc := 58) (i := 3) d_Mk_told_58 rfl rfl ?_
        obtain ⟨v11, hb12, h⟩ := bd1_some h
        refine mj_callV (pc := 59) (b := 12) (vs := [.int x1, .int x2, .int x3]) (st := []) d_Mk_told_59 bB_Mk_told_Rl_get lk_Mk_178 iv_Rl_get rc_12 rfl (Nat.le_of_ble_eq_true rfl) (Nat.le_of_ble_eq_true rfl) (r_Rl_get hb12) ?_
        show mj_R M_Mk_told 62 [some (.ref 0), some (.int x1), some (.int x2), some (.int x3)] [.int v11] (SH, jn C0 D) (some (.int v)) (SH, jn C0 D)
        cases h
        exact mj_iret (pc := 62) d_Mk_told_62 rfl
      · rw [if_pos hc10] at h
        refine mj_ldc (pc := 46) (v := -1000000001) d_Mk_told_46 k_Mk_54 ?_
        cases h
        exact mj_iret (pc := 48) d_Mk_told_48 rfl
    · rw [if_pos hc6] at h
      refine mj_ldc (pc := 21) (v := -1000000001) d_Mk_told_21 k_Mk_54 ?_
      cases h
      exact mj_iret (pc := 23) d_Mk_told_23 rfl
set_option maxRecDepth 20000 in
theorem l_Sk_inTown_4 {r : Option Value} {D y : St} : ∀ (n : Nat) (y1 : Int32) (y2 : Int32) (y3 : Int32) (C : St) (o2_ : Int32), L_Sk_inTown_4 n y1 y2 y3 C = some o2_ → mj_R M_Sk_inTown 25 [none, none, some (.int o2_), none] [] (SH, jn C D) r (SH, y) → mj_R M_Sk_inTown 4 [some (.ref 7), some (.int y1), some (.int y2), some (.int y3)] [] (SH, jn C D) r (SH, y) := by
  intro n
  induction n with
  | zero => intro y1 y2 y3 C o2_ h; cases h
  | succ n ih =>
    intro y1 y2 y3 C o2_ h hX
    unfold L_Sk_inTown_4 at h
    refine mj_iload_n (pc := 4) (i := 3) d_Sk_inTown_4 rfl rfl ?_
    refine mj_bipush (pc := 5) (v := 12) d_Sk_inTown_5 (by decide) ?_
    refine mj_icmp_ge (pc := 7) (tgt := 25) d_Sk_inTown_7 (by decide) mj_hs (fun hc1 => ?_) (fun hc1 => ?_)
    · rw [if_pos hc1] at h
      cases h
      exact mj_weak _ (And.intro rfl trivial) hX
    · rw [if_neg hc1] at h
      refine mj_iload_n (pc := 10) (i := 2) d_Sk_inTown_10 rfl rfl ?_
      refine mj_aload_n (pc := 11) (i := 0) d_Sk_inTown_11 rfl rfl (by decide) ?_
      refine mj_iload_n (pc := 12) (i := 3) d_Sk_inTown_12 rfl rfl ?_
      refine mj_iload_n (pc := 13) (i := 1) d_Sk_inTown_13 rfl rfl ?_
      obtain ⟨v2, hb3, h⟩ := bd1_some h
      refine mj_callV (pc := 14) (b := 7) (vs := [.int y3, .int y1]) (st := [.int y2]) d_Sk_inTown_14 bB_Sk_inTown_Sk_all lk_Sk_18 iv_Sk_all rc_7 rfl (Nat.le_of_ble_eq_true rfl) (Nat.le_of_ble_eq_true rfl) (r_Sk_all hb3) ?_
      show mj_R M_Sk_inTown 17 [some (.ref 7), some (.int y1), some (.int y2), some (.int y3)] [.int v2, .int y2] (SH, jn C D) r (SH, y)
      refine mj_iadd (pc := 17) d_Sk_inTown_17 ?_
      refine mj_istore_n (pc := 18) (i := 2) d_Sk_inTown_18 rfl rfl (by decide) ?_
      refine mj_iinc (pc := 19) (i := 3) (v := y3 + 1) d_Sk_inTown_19 rfl (by rfl) rfl (by decide) ?_
      refine mj_goto (pc := 22) (tgt := 4) d_Sk_inTown_22 (by decide) ?_
      exact mj_weak [some (.ref 7), some (.int y1), some (.int (y2 + v2)), some (.int (y3 + 1))] (And.intro rfl (And.intro rfl (And.intro rfl (And.intro rfl trivial)))) (ih _ _ _ _ _ h hX)
set_option maxRecDepth 20000 in
theorem r_Sk_inTown {x1 : Int32} {C0 D : St} {v : Int32} (h : f_Sk_inTown x1 C0 = some v) : mj_R M_Sk_inTown 0 (mj_lv M_Sk_inTown.2.2.1 [.ref 7, .int x1]) [] (SH, jn C0 D) (some (.int v)) (SH, jn C0 D) := by
  show mj_R M_Sk_inTown 0 [some (.ref 7), some (.int x1), none, none] [] _ _ _
  unfold f_Sk_inTown at h
  refine mj_iconst (pc := 0) (v := 0) d_Sk_inTown_0 (by decide) ?_
  refine mj_istore_n (pc := 1) (i := 2) d_Sk_inTown_1 rfl rfl (by decide) ?_
  refine mj_iconst (pc := 2) (v := 0) d_Sk_inTown_2 (by decide) ?_
  refine mj_istore_n (pc := 3) (i := 3) d_Sk_inTown_3 rfl rfl (by decide) ?_
  obtain ⟨o4, hl5, h⟩ := bd1_some h
  refine mj_weak [some (.ref 7), some (.int x1), some (.int 0), some (.int 0)] (And.intro rfl (And.intro rfl (And.intro rfl (And.intro rfl trivial)))) (l_Sk_inTown_4 3000 _ _ _ _ _ hl5 ?_)
  refine mj_iload_n (pc := 25) (i := 2) d_Sk_inTown_25 rfl rfl ?_
  cases h
  exact mj_iret (pc := 26) d_Sk_inTown_26 rfl
set_option maxRecDepth 20000 in
theorem r_Mk_goods {x1 : Int32} {x2 : Int32} {C0 D : St} {v : Int32} (h : f_Mk_goods x1 x2 C0 = some v) : mj_R M_Mk_goods 0 (mj_lv M_Mk_goods.2.2.1 [.ref 0, .int x1, .int x2]) [] (SH, jn C0 D) (some (.int v)) (SH, jn C0 D) := by
  show mj_R M_Mk_goods 0 [some (.ref 0), some (.int x1), some (.int x2)] [] _ _ _
  unfold f_Mk_goods at h
  refine mj_iload_n (pc := 0) (i := 1) d_Mk_goods_0 rfl rfl ?_
  obtain ⟨v1, hb2, h⟩ := bd1_some h
  refine mj_callS (pc := 1) (vs := [.int x1]) (st := []) d_Mk_goods_1 bB_Mk_goods_Mk_isGood lk_Mk_67 st_Mk_isGood rfl (Nat.le_of_ble_eq_true rfl) (Nat.le_of_ble_eq_true rfl) (r_Mk_isGood hb2) ?_
  show mj_R M_Mk_goods 4 [some (.ref 0), some (.int x1), some (.int x2)] [.int v1] (SH, jn C0 D) (some (.int v)) (SH, jn C0 D)
  refine mj_if_eq (y := 0) (pc := 4) (tgt := 17) d_Mk_goods_4 (by decide) mj_hs (fun hc3 => ?_) (fun hc3 => ?_)
  · rw [if_pos hc3] at h
    refine mj_ldc (pc := 17) (v := -1000000001) d_Mk_goods_17 k_Mk_54 ?_
    cases h
    exact mj_iret (pc := 19) d_Mk_goods_19 rfl
  · rw [if_neg hc3] at h
    refine mj_iload_n (pc := 7) (i := 2) d_Mk_goods_7 rfl rfl ?_
    refine mj_iconst (pc := 8) (v := 0) d_Mk_goods_8 (by decide) ?_
    refine mj_bipush (pc := 9) (v := 7) d_Mk_goods_9 (by decide) ?_
    obtain ⟨v4, hb5, h⟩ := bd1_some h
    refine mj_callS (pc := 11) (vs := [.int x2, .int 0, .int 7]) (st := []) d_Mk_goods_11 bB_Mk_goods_Mk_isWithin lk_Mk_50 st_Mk_isWithin rfl (Nat.le_of_ble_eq_true rfl) (Nat.le_of_ble_eq_true rfl) (r_Mk_isWithin hb5) ?_
    show mj_R M_Mk_goods 14 [some (.ref 0), some (.int x1), some (.int x2)] [.int v4] (SH, jn C0 D) (some (.int v)) (SH, jn C0 D)
    refine mj_if_ne (y := 0) (pc := 14) (tgt := 20) d_Mk_goods_14 (by decide) mj_hs (fun hc6 => ?_) (fun hc6 => ?_)
    · rw [if_neg hc6] at h
      refine mj_iload_n (pc := 20) (i := 2) d_Mk_goods_20 rfl rfl ?_
      refine mj_bipush (pc := 21) (v := 6) d_Mk_goods_21 (by decide) ?_
      obtain ⟨w12, hb14, h⟩ := bd1_some h
      have k13 : mj_R M_Mk_goods 52 [none, none, none] [.int w12] (SH, jn C0 D) (some (.int v)) (SH, jn C0 D) := by
        cases h
        exact mj_iret (pc := 52) d_Mk_goods_52 rfl
      have h := hb14
      refine mj_icmp_gt (pc := 23) (tgt := 41) d_Mk_goods_23 (by decide) mj_hs (fun hc7 => ?_) (fun hc7 => ?_)
      · rw [if_pos hc7] at h
        refine mj_aload_n (pc := 41) (i := 0) d_Mk_goods_41 rfl rfl (by decide) ?_
        refine mj_getR (pc := 42) d_Mk_goods_42 fl_Mk_10 sh_0 rfl rfl (by decide) (by decide) (by decide) ?_
        refine mj_getR (pc := 45) d_Mk_goods_45 fl_Mk_70 sh_1 rfl rfl (by decide) (by decide) (by decide) ?_
        refine mj_iload_n (pc := 48) (i := 1) d_Mk_goods_48 rfl rfl ?_
        obtain ⟨v8, hb9, h⟩ := bd1_some h
        refine mj_callV (pc := 49) (b := 7) (vs := [.int x1]) (st := []) d_Mk_goods_49 bB_Mk_goods_Sk_inTown lk_Mk_183 iv_Sk_inTown rc_7 rfl (Nat.le_of_ble_eq_true rfl) (Nat.le_of_ble_eq_true rfl) (r_Sk_inTown hb9) ?_
        show mj_R M_Mk_goods 52 [some (.ref 0), some (.int x1), some (.int x2)] [.int v8] (SH, jn C0 D) (some (.int v)) (SH, jn C0 D)
        cases h
        exact mj_weak _ trivial k13
      · rw [if_neg hc7] at h
        refine mj_aload_n (pc := 26) (i := 0) d_Mk_goods_26 rfl rfl (by decide) ?_
        refine mj_getR (pc := 27) d_Mk_goods_27 fl_Mk_10 sh_0 rfl rfl (by decide) (by decide) (by decide) ?_
        refine mj_getR (pc := 30) d_Mk_goods_30 fl_Mk_83 sh_1 rfl rfl (by decide) (by decide) (by decide) ?_
        refine mj_iload_n (pc := 33) (i := 1) d_Mk_goods_33 rfl rfl ?_
        refine mj_iload_n (pc := 34) (i := 2) d_Mk_goods_34 rfl rfl ?_
        obtain ⟨v10, hb11, h⟩ := bd1_some h
        refine mj_callV (pc := 35) (b := 10) (vs := [.int x1, .int x2]) (st := []) d_Mk_goods_35 bB_Mk_goods_Wr_get lk_Mk_181 iv_Wr_get rc_10 rfl (Nat.le_of_ble_eq_true rfl) (Nat.le_of_ble_eq_true rfl) (r_Wr_get hb11) ?_
        show mj_R M_Mk_goods 38 [some (.ref 0), some (.int x1), some (.int x2)] [.int v10] (SH, jn C0 D) (some (.int v)) (SH, jn C0 D)
        refine mj_goto (pc := 38) (tgt := 52) d_Mk_goods_38 (by decide) ?_
        cases h
        exact mj_weak _ trivial k13
    · rw [if_pos hc6] at h
      refine mj_ldc (pc := 17) (v := -1000000001) d_Mk_goods_17 k_Mk_54 ?_
      cases h
      exact mj_iret (pc := 19) d_Mk_goods_19 rfl
set_option maxRecDepth 20000 in
theorem l_Tw_paidInAll_5 {r : Option Value} {D y : St} : ∀ (n : Nat) (y1 : Int32) (y2 : Int32) (y3 : Int32) (y4 : Int32) (C : St) (o3_ : Int32), L_Tw_paidInAll_5 n y1 y2 y3 y4 C = some o3_ → mj_R M_Tw_paidInAll 32 [none, none, none, some (.int o3_), none] [] (SH, jn C D) r (SH, y) → mj_R M_Tw_paidInAll 5 [some (.ref 1), some (.int y1), some (.int y2), some (.int y3), some (.int y4)] [] (SH, jn C D) r (SH, y) := by
  intro n
  induction n with
  | zero => intro y1 y2 y3 y4 C o3_ h; cases h
  | succ n ih =>
    intro y1 y2 y3 y4 C o3_ h hX
    unfold L_Tw_paidInAll_5 at h
    refine mj_iload (pc := 5) (i := 4) d_Tw_paidInAll_5 rfl ?_
    refine mj_iconst (pc := 7) (v := 5) d_Tw_paidInAll_7 (by decide) ?_
    refine mj_icmp_ge (pc := 8) (tgt := 32) d_Tw_paidInAll_8 (by decide) mj_hs (fun hc1 => ?_) (fun hc1 => ?_)
    · rw [if_pos hc1] at h
      cases h
      exact mj_weak _ (And.intro rfl trivial) hX
    · rw [if_neg hc1] at h
      refine mj_iload_n (pc := 11) (i := 3) d_Tw_paidInAll_11 rfl rfl ?_
      refine mj_aload_n (pc := 12) (i := 0) d_Tw_paidInAll_12 rfl rfl (by decide) ?_
      refine mj_getR (pc := 13) d_Tw_paidInAll_13 fl_Tw_28 sh_1 rfl rfl (by decide) (by decide) (by decide) ?_
      refine mj_iload_n (pc := 16) (i := 1) d_Tw_paidInAll_16 rfl rfl ?_
      refine mj_iload_n (pc := 17) (i := 2) d_Tw_paidInAll_17 rfl rfl ?_
      refine mj_iload (pc := 18) (i := 4) d_Tw_paidInAll_18 rfl ?_
      obtain ⟨v2, hb3, h⟩ := bd1_some h
      refine mj_callS (pc := 20) (vs := [.int y1, .int y2, .int y4]) (st := [.ref 6, .int y3]) d_Tw_paidInAll_20 bB_Tw_paidInAll_Tw_entry lk_Tw_67 st_Tw_entry rfl (Nat.le_of_ble_eq_true rfl) (Nat.le_of_ble_eq_true rfl) (r_Tw_entry hb3) ?_
      show mj_R M_Tw_paidInAll 23 [some (.ref 1), some (.int y1), some (.int y2), some (.int y3), some (.int y4)] [.int v2, .ref 6, .int y3] (SH, jn C D) r (SH, y)
      obtain ⟨hg4, h⟩ := mj_gd h
      refine cj_iald (pc := 23) d_Tw_paidInAll_23 sh_6 (by decide) hg4 (by decide) ?_
      refine mj_iadd (pc := 24) d_Tw_paidInAll_24 ?_
      refine mj_istore_n (pc := 25) (i := 3) d_Tw_paidInAll_25 rfl rfl (by decide) ?_
      refine mj_iinc (pc := 26) (i := 4) (v := y4 + 1) d_Tw_paidInAll_26 rfl (by rfl) rfl (by decide) ?_
      refine mj_goto (pc := 29) (tgt := 5) d_Tw_paidInAll_29 (by decide) ?_
      exact mj_weak [some (.ref 1), some (.int y1), some (.int y2), some (.int (y3 + (C 6 v2.toNatClampNeg))), some (.int (y4 + 1))] (And.intro rfl (And.intro rfl (And.intro rfl (And.intro rfl (And.intro rfl trivial))))) (ih _ _ _ _ _ _ h hX)
set_option maxRecDepth 20000 in
theorem r_Tw_paidInAll {x1 : Int32} {x2 : Int32} {C0 D : St} {v : Int32} (h : f_Tw_paidInAll x1 x2 C0 = some v) : mj_R M_Tw_paidInAll 0 (mj_lv M_Tw_paidInAll.2.2.1 [.ref 1, .int x1, .int x2]) [] (SH, jn C0 D) (some (.int v)) (SH, jn C0 D) := by
  show mj_R M_Tw_paidInAll 0 [some (.ref 1), some (.int x1), some (.int x2), none, none] [] _ _ _
  unfold f_Tw_paidInAll at h
  refine mj_iconst (pc := 0) (v := 0) d_Tw_paidInAll_0 (by decide) ?_
  refine mj_istore_n (pc := 1) (i := 3) d_Tw_paidInAll_1 rfl rfl (by decide) ?_
  refine mj_iconst (pc := 2) (v := 0) d_Tw_paidInAll_2 (by decide) ?_
  refine mj_istore (pc := 3) (i := 4) d_Tw_paidInAll_3 rfl (by decide) ?_
  obtain ⟨o5, hl6, h⟩ := bd1_some h
  refine mj_weak [some (.ref 1), some (.int x1), some (.int x2), some (.int 0), some (.int 0)] (And.intro rfl (And.intro rfl (And.intro rfl (And.intro rfl (And.intro rfl trivial))))) (l_Tw_paidInAll_5 3000 _ _ _ _ _ _ hl6 ?_)
  refine mj_iload_n (pc := 32) (i := 3) d_Tw_paidInAll_32 rfl rfl ?_
  cases h
  exact mj_iret (pc := 33) d_Tw_paidInAll_33 rfl
set_option maxRecDepth 20000 in
theorem r_Mk_paid {x1 : Int32} {x2 : Int32} {x3 : Int32} {C0 D : St} {v : Int32} (h : f_Mk_paid x1 x2 x3 C0 = some v) : mj_R M_Mk_paid 0 (mj_lv M_Mk_paid.2.2.1 [.ref 0, .int x1, .int x2, .int x3]) [] (SH, jn C0 D) (some (.int v)) (SH, jn C0 D) := by
  show mj_R M_Mk_paid 0 [some (.ref 0), some (.int x1), some (.int x2), some (.int x3)] [] _ _ _
  unfold f_Mk_paid at h
  refine mj_aload_n (pc := 0) (i := 0) d_Mk_paid_0 rfl rfl (by decide) ?_
  refine mj_getR (pc := 1) d_Mk_paid_1 fl_Mk_10 sh_0 rfl rfl (by decide) (by decide) (by decide) ?_
  refine mj_iload_n (pc := 4) (i := 1) d_Mk_paid_4 rfl rfl ?_
  obtain ⟨v1, hb2, h⟩ := bd1_some h
  refine mj_callV (pc := 5) (b := 1) (vs := [.int x1]) (st := []) d_Mk_paid_5 bB_Mk_paid_Tw_isThere lk_Mk_64 iv_Tw_isThere rc_1 rfl (Nat.le_of_ble_eq_true rfl) (Nat.le_of_ble_eq_true rfl) (r_Tw_isThere hb2) ?_
  show mj_R M_Mk_paid 8 [some (.ref 0), some (.int x1), some (.int x2), some (.int x3)] [.int v1] (SH, jn C0 D) (some (.int v)) (SH, jn C0 D)
  refine mj_if_eq (y := 0) (pc := 8) (tgt := 31) d_Mk_paid_8 (by decide) mj_hs (fun hc3 => ?_) (fun hc3 => ?_)
  · rw [if_pos hc3] at h
    refine mj_ldc (pc := 31) (v := -1000000001) d_Mk_paid_31 k_Mk_54 ?_
    cases h
    exact mj_iret (pc := 33) d_Mk_paid_33 rfl
  · rw [if_neg hc3] at h
    refine mj_aload_n (pc := 11) (i := 0) d_Mk_paid_11 rfl rfl (by decide) ?_
    refine mj_getR (pc := 12) d_Mk_paid_12 fl_Mk_10 sh_0 rfl rfl (by decide) (by decide) (by decide) ?_
    refine mj_iload_n (pc := 15) (i := 2) d_Mk_paid_15 rfl rfl ?_
    obtain ⟨v4, hb5, h⟩ := bd1_some h
    refine mj_callV (pc := 16) (b := 1) (vs := [.int x2]) (st := []) d_Mk_paid_16 bB_Mk_paid_Tw_isThere lk_Mk_64 iv_Tw_isThere rc_1 rfl (Nat.le_of_ble_eq_true rfl) (Nat.le_of_ble_eq_true rfl) (r_Tw_isThere hb5) ?_
    show mj_R M_Mk_paid 19 [some (.ref 0), some (.int x1), some (.int x2), some (.int x3)] [.int v4] (SH, jn C0 D) (some (.int v)) (SH, jn C0 D)
    refine mj_if_eq (y := 0) (pc := 19) (tgt := 31) d_Mk_paid_19 (by decide) mj_hs (fun hc6 => ?_) (fun hc6 => ?_)
    · rw [if_pos hc6] at h
      refine mj_ldc (pc := 31) (v := -1000000001) d_Mk_paid_31 k_Mk_54 ?_
      cases h
      exact mj_iret (pc := 33) d_Mk_paid_33 rfl
    · rw [if_neg hc6] at h
      refine mj_iload_n (pc := 22) (i := 3) d_Mk_paid_22 rfl rfl ?_
      refine mj_iconst (pc := 23) (v := -1) d_Mk_paid_23 (by decide) ?_
      refine mj_iconst (pc := 24) (v := 4) d_Mk_paid_24 (by decide) ?_
      obtain ⟨v7, hb8, h⟩ := bd1_some h
      refine mj_callS (pc := 25) (vs := [.int x3, .int (-1), .int 4]) (st := []) d_Mk_paid_25 bB_Mk_paid_Mk_isWithin lk_Mk_50 st_Mk_isWithin rfl (Nat.le_of_ble_eq_true rfl) (Nat.le_of_ble_eq_true rfl) (r_Mk_isWithin hb8) ?_
      show mj_R M_Mk_paid 28 [some (.ref 0), some (.int x1), some (.int x2), some (.int x3)] [.int v7] (SH, jn C0 D) (some (.int v)) (SH, jn C0 D)
      refine mj_if_ne (y := 0) (pc := 28) (tgt := 34) d_Mk_paid_28 (by decide) mj_hs (fun hc9 => ?_) (fun hc9 => ?_)
      · rw [if_neg hc9] at h
        refine mj_iload_n (pc := 34) (i := 3) d_Mk_paid_34 rfl rfl ?_
        obtain ⟨w16, hb18, h⟩ := bd1_some h
        have k17 : mj_R M_Mk_paid 64 [none, none, none, none] [.int w16] (SH, jn C0 D) (some (.int v)) (SH, jn C0 D) := by
          cases h
          exact mj_iret (pc := 64) d_Mk_paid_64 rfl
        have h := hb18
        refine mj_if_ge (y := 0) (pc := 35) (tgt := 50) d_Mk_paid_35 (by decide) mj_hs (fun hc10 => ?_) (fun hc10 => ?_)
        · rw [if_pos hc10] at h
          refine mj_aload_n (pc := 50) (i := 0) d_Mk_paid_50 rfl rfl (by decide) ?_
          refine mj_getR (pc := 51) d_Mk_paid_51 fl_Mk_10 sh_0 rfl rfl (by decide) (by decide) (by decide) ?_
          refine mj_getR (pc := 54) d_Mk_paid_54 fl_Mk_189 sh_1 rfl rfl (by decide) (by decide) (by decide) ?_
          refine mj_iload_n (pc := 57) (i := 1) d_Mk_paid_57 rfl rfl ?_
          refine mj_iload_n (pc := 58) (i := 2) d_Mk_paid_58 rfl rfl ?_
          refine mj_iload_n (pc := 59) (i := 3) d_Mk_paid_59 rfl rfl ?_
          obtain ⟨v11, hb12, h⟩ := bd1_some h
          refine mj_callS (pc := 60) (vs := [.int x1, .int x2, .int x3]) (st := [.ref 6]) d_Mk_paid_60 bB_Mk_paid_Tw_entry lk_Mk_192 st_Tw_entry rfl (Nat.le_of_ble_eq_true rfl) (Nat.le_of_ble_eq_true rfl) (r_Tw_entry hb12) ?_
          show mj_R M_Mk_paid 63 [some (.ref 0), some (.int x1), some (.int x2), some (.int x3)] [.int v11, .ref 6] (SH, jn C0 D) (some (.int v)) (SH, jn C0 D)
          obtain ⟨hg13, h⟩ := mj_gd h
          refine cj_iald (pc := 63) d_Mk_paid_63 sh_6 (by decide) hg13 (by decide) ?_
          cases h
          exact mj_weak _ trivial k17
        · rw [if_neg hc10] at h
          refine mj_aload_n (pc := 38) (i := 0) d_Mk_paid_38 rfl rfl (by decide) ?_
          refine mj_getR (pc := 39) d_Mk_paid_39 fl_Mk_10 sh_0 rfl rfl (by decide) (by decide) (by decide) ?_
          refine mj_iload_n (pc := 42) (i := 1) d_Mk_paid_42 rfl rfl ?_
          refine mj_iload_n (pc := 43) (i := 2) d_Mk_paid_43 rfl rfl ?_
          obtain ⟨v14, hb15, h⟩ := bd1_some h
          refine mj_callV (pc := 44) (b := 1) (vs := [.int x1, .int x2]) (st := []) d_Mk_paid_44 bB_Mk_paid_Tw_paidInAll lk_Mk_186 iv_Tw_paidInAll rc_1 rfl (Nat.le_of_ble_eq_true rfl) (Nat.le_of_ble_eq_true rfl) (r_Tw_paidInAll hb15) ?_
          show mj_R M_Mk_paid 47 [some (.ref 0), some (.int x1), some (.int x2), some (.int x3)] [.int v14] (SH, jn C0 D) (some (.int v)) (SH, jn C0 D)
          refine mj_goto (pc := 47) (tgt := 64) d_Mk_paid_47 (by decide) ?_
          cases h
          exact mj_weak _ trivial k17
      · rw [if_pos hc9] at h
        refine mj_ldc (pc := 31) (v := -1000000001) d_Mk_paid_31 k_Mk_54 ?_
        cases h
        exact mj_iret (pc := 33) d_Mk_paid_33 rfl
set_option maxRecDepth 20000 in
theorem r_Mk_loan {x1 : Int32} {x2 : Int32} {C0 D : St} {v : Int32} (h : f_Mk_loan x1 x2 C0 = some v) : mj_R M_Mk_loan 0 (mj_lv M_Mk_loan.2.2.1 [.ref 0, .int x1, .int x2]) [] (SH, jn C0 D) (some (.int v)) (SH, jn C0 D) := by
  show mj_R M_Mk_loan 0 [some (.ref 0), some (.int x1), some (.int x2)] [] _ _ _
  unfold f_Mk_loan at h
  refine mj_iload_n (pc := 0) (i := 1) d_Mk_loan_0 rfl rfl ?_
  refine mj_if_lt (y := 0) (pc := 1) (tgt := 13) d_Mk_loan_1 (by decide) mj_hs (fun hc1 => ?_) (fun hc1 => ?_)
  · rw [if_pos hc1] at h
    refine mj_ldc (pc := 13) (v := -1000000001) d_Mk_loan_13 k_Mk_54 ?_
    cases h
    exact mj_iret (pc := 15) d_Mk_loan_15 rfl
  · rw [if_neg hc1] at h
    refine mj_iload_n (pc := 4) (i := 2) d_Mk_loan_4 rfl rfl ?_
    refine mj_iconst (pc := 5) (v := 0) d_Mk_loan_5 (by decide) ?_
    refine mj_iconst (pc := 6) (v := 3) d_Mk_loan_6 (by decide) ?_
    obtain ⟨v2, hb3, h⟩ := bd1_some h
    refine mj_callS (pc := 7) (vs := [.int x2, .int 0, .int 3]) (st := []) d_Mk_loan_7 bB_Mk_loan_Mk_isWithin lk_Mk_50 st_Mk_isWithin rfl (Nat.le_of_ble_eq_true rfl) (Nat.le_of_ble_eq_true rfl) (r_Mk_isWithin hb3) ?_
    show mj_R M_Mk_loan 10 [some (.ref 0), some (.int x1), some (.int x2)] [.int v2] (SH, jn C0 D) (some (.int v)) (SH, jn C0 D)
    refine mj_if_ne (y := 0) (pc := 10) (tgt := 16) d_Mk_loan_10 (by decide) mj_hs (fun hc4 => ?_) (fun hc4 => ?_)
    · rw [if_neg hc4] at h
      refine mj_iload_n (pc := 16) (i := 1) d_Mk_loan_16 rfl rfl ?_
      refine mj_aload_n (pc := 17) (i := 0) d_Mk_loan_17 rfl rfl (by decide) ?_
      refine mj_getR (pc := 18) d_Mk_loan_18 fl_Mk_10 sh_0 rfl rfl (by decide) (by decide) (by decide) ?_
      refine mj_getR (pc := 21) d_Mk_loan_21 fl_Mk_158 sh_1 rfl rfl (by decide) (by decide) (by decide) ?_
      refine cj_getI (pc := 24) d_Mk_loan_24 fl_Mk_195 sh_15 rfl (by decide) (by decide) (by decide) ?_
      obtain ⟨w8, hb10, h⟩ := bd1_some h
      have k9 : mj_R M_Mk_loan 47 [none, none, none] [.int w8] (SH, jn C0 D) (some (.int v)) (SH, jn C0 D) := by
        cases h
        exact mj_iret (pc := 47) d_Mk_loan_47 rfl
      have h := hb10
      refine mj_icmp_ge (pc := 27) (tgt := 45) d_Mk_loan_27 (by decide) mj_hs (fun hc5 => ?_) (fun hc5 => ?_)
      · rw [if_pos hc5] at h
        refine mj_ldc (pc := 45) (v := -1000000005) d_Mk_loan_45 k_Mk_198 ?_
        cases h
        exact mj_weak _ trivial k9
      · rw [if_neg hc5] at h
        refine mj_aload_n (pc := 30) (i := 0) d_Mk_loan_30 rfl rfl (by decide) ?_
        refine mj_getR (pc := 31) d_Mk_loan_31 fl_Mk_10 sh_0 rfl rfl (by decide) (by decide) (by decide) ?_
        refine mj_getR (pc := 34) d_Mk_loan_34 fl_Mk_158 sh_1 rfl rfl (by decide) (by decide) (by decide) ?_
        refine mj_iload_n (pc := 37) (i := 1) d_Mk_loan_37 rfl rfl ?_
        refine mj_iload_n (pc := 38) (i := 2) d_Mk_loan_38 rfl rfl ?_
        obtain ⟨v6, hb7, h⟩ := bd1_some h
        refine mj_callV (pc := 39) (b := 15) (vs := [.int x1, .int x2]) (st := []) d_Mk_loan_39 bB_Mk_loan_Ln_get lk_Mk_197 iv_Ln_get rc_15 rfl (Nat.le_of_ble_eq_true rfl) (Nat.le_of_ble_eq_true rfl) (r_Ln_get hb7) ?_
        show mj_R M_Mk_loan 42 [some (.ref 0), some (.int x1), some (.int x2)] [.int v6] (SH, jn C0 D) (some (.int v)) (SH, jn C0 D)
        refine mj_goto (pc := 42) (tgt := 47) d_Mk_loan_42 (by decide) ?_
        cases h
        exact mj_weak _ trivial k9
    · rw [if_pos hc4] at h
      refine mj_ldc (pc := 13) (v := -1000000001) d_Mk_loan_13 k_Mk_54 ?_
      cases h
      exact mj_iret (pc := 15) d_Mk_loan_15 rfl
set_option maxRecDepth 20000 in
theorem l_Tw_cashNotAbove_5 {r : Option Value} {D y : St} : ∀ (n : Nat) (y1 : Int32) (y2 : Int32) (y3 : Int32) (y4 : Int32) (C : St) (o3_ : Int32), L_Tw_cashNotAbove_5 n y1 y2 y3 y4 C = some o3_ → mj_R M_Tw_cashNotAbove 44 [none, none, none, some (.int o3_), none] [] (SH, jn C D) r (SH, y) → mj_R M_Tw_cashNotAbove 5 [some (.ref 1), some (.int y1), some (.int y2), some (.int y3), some (.int y4)] [] (SH, jn C D) r (SH, y) := by
  intro n
  induction n with
  | zero => intro y1 y2 y3 y4 C o3_ h; cases h
  | succ n ih =>
    intro y1 y2 y3 y4 C o3_ h hX
    unfold L_Tw_cashNotAbove_5 at h
    refine mj_iload (pc := 5) (i := 4) d_Tw_cashNotAbove_5 rfl ?_
    refine mj_aload_n (pc := 7) (i := 0) d_Tw_cashNotAbove_7 rfl rfl (by decide) ?_
    refine cj_getI (pc := 8) d_Tw_cashNotAbove_8 fl_Tw_59 sh_1 rfl (by decide) (by decide) (by decide) ?_
    refine mj_icmp_ge (pc := 11) (tgt := 44) d_Tw_cashNotAbove_11 (by decide) mj_hs (fun hc1 => ?_) (fun hc1 => ?_)
    · rw [if_pos hc1] at h
      cases h
      exact mj_weak _ (And.intro rfl trivial) hX
    · rw [if_neg hc1] at h
      refine mj_aload_n (pc := 14) (i := 0) d_Tw_cashNotAbove_14 rfl rfl (by decide) ?_
      refine mj_iload (pc := 15) (i := 4) d_Tw_cashNotAbove_15 rfl ?_
      refine mj_iload_n (pc := 17) (i := 1) d_Tw_cashNotAbove_17 rfl rfl ?_
      obtain ⟨v2, hb3, h⟩ := bd1_some h
      refine mj_callV (pc := 18) (b := 1) (vs := [.int y4, .int y1]) (st := []) d_Tw_cashNotAbove_18 bB_Tw_cashNotAbove_Tw_belongs lk_Tw_78 iv_Tw_belongs rc_1 rfl (Nat.le_of_ble_eq_true rfl) (Nat.le_of_ble_eq_true rfl) (r_Tw_belongs hb3) ?_
      show mj_R M_Tw_cashNotAbove 21 [some (.ref 1), some (.int y1), some (.int y2), some (.int y3), some (.int y4)] [.int v2] (SH, jn C D) r (SH, y)
      obtain ⟨w7, hb9, h⟩ := bd1_some h
      have k8 : mj_R M_Tw_cashNotAbove 38 [some (.ref 1), some (.int y1), some (.int y2), some (.int w7), some (.int y4)] [] (SH, jn C D) r (SH, y) := by
        refine mj_iinc (pc := 38) (i := 4) (v := y4 + 1) d_Tw_cashNotAbove_38 rfl (by rfl) rfl (by decide) ?_
        refine mj_goto (pc := 41) (tgt := 5) d_Tw_cashNotAbove_41 (by decide) ?_
        exact mj_weak [some (.ref 1), some (.int y1), some (.int y2), some (.int w7), some (.int (y4 + 1))] (And.intro rfl (And.intro rfl (And.intro rfl (And.intro rfl (And.intro rfl trivial))))) (ih _ _ _ _ _ _ h hX)
      have h := hb9
      refine mj_if_eq (y := 0) (pc := 21) (tgt := 38) d_Tw_cashNotAbove_21 (by decide) mj_hs (fun hc4 => ?_) (fun hc4 => ?_)
      · rw [if_pos hc4] at h
        cases h
        exact mj_weak _ (And.intro rfl (And.intro rfl (And.intro rfl (And.intro rfl (And.intro rfl trivial))))) k8
      · rw [if_neg hc4] at h
        refine mj_aload_n (pc := 24) (i := 0) d_Tw_cashNotAbove_24 rfl rfl (by decide) ?_
        refine mj_getR (pc := 25) d_Tw_cashNotAbove_25 fl_Tw_19 sh_1 rfl rfl (by decide) (by decide) (by decide) ?_
        refine mj_iload (pc := 28) (i := 4) d_Tw_cashNotAbove_28 rfl ?_
        obtain ⟨hg5, h⟩ := mj_gd h
        refine cj_iald (pc := 30) d_Tw_cashNotAbove_30 sh_3 (by decide) hg5 (by decide) ?_
        refine mj_iload_n (pc := 31) (i := 2) d_Tw_cashNotAbove_31 rfl rfl ?_
        refine mj_icmp_gt (pc := 32) (tgt := 38) d_Tw_cashNotAbove_32 (by decide) mj_hs (fun hc6 => ?_) (fun hc6 => ?_)
        · rw [if_pos hc6] at h
          cases h
          exact mj_weak _ (And.intro rfl (And.intro rfl (And.intro rfl (And.intro rfl (And.intro rfl trivial))))) k8
        · rw [if_neg hc6] at h
          refine mj_iinc (pc := 35) (i := 3) (v := y3 + 1) d_Tw_cashNotAbove_35 rfl (by rfl) rfl (by decide) ?_
          cases h
          exact mj_weak _ (And.intro rfl (And.intro rfl (And.intro rfl (And.intro rfl (And.intro rfl trivial))))) k8
set_option maxRecDepth 20000 in
theorem r_Tw_cashNotAbove {x1 : Int32} {x2 : Int32} {C0 D : St} {v : Int32} (h : f_Tw_cashNotAbove x1 x2 C0 = some v) : mj_R M_Tw_cashNotAbove 0 (mj_lv M_Tw_cashNotAbove.2.2.1 [.ref 1, .int x1, .int x2]) [] (SH, jn C0 D) (some (.int v)) (SH, jn C0 D) := by
  show mj_R M_Tw_cashNotAbove 0 [some (.ref 1), some (.int x1), some (.int x2), none, none] [] _ _ _
  unfold f_Tw_cashNotAbove at h
  refine mj_iconst (pc := 0) (v := 0) d_Tw_cashNotAbove_0 (by decide) ?_
  refine mj_istore_n (pc := 1) (i := 3) d_Tw_cashNotAbove_1 rfl rfl (by decide) ?_
  refine mj_iconst (pc := 2) (v := 0) d_Tw_cashNotAbove_2 (by decide) ?_
  refine mj_istore (pc := 3) (i := 4) d_Tw_cashNotAbove_3 rfl (by decide) ?_
  obtain ⟨o10, hl11, h⟩ := bd1_some h
  refine mj_weak [some (.ref 1), some (.int x1), some (.int x2), some (.int 0), some (.int 0)] (And.intro rfl (And.intro rfl (And.intro rfl (And.intro rfl (And.intro rfl trivial))))) (l_Tw_cashNotAbove_5 3000 _ _ _ _ _ _ hl11 ?_)
  refine mj_iload_n (pc := 44) (i := 3) d_Tw_cashNotAbove_44 rfl rfl ?_
  cases h
  exact mj_iret (pc := 45) d_Tw_cashNotAbove_45 rfl
set_option maxRecDepth 20000 in
theorem l_Tw_middleCash_14 {r : Option Value} {D y : St} : ∀ (n : Nat) (y1 : Int32) (y2 : Int32) (y3 : Int32) (C : St) (o : (Int32) ⊕ (Unit)), L_Tw_middleCash_14 n y1 y2 y3 C = some o → (∀ a : Int32, o = .inl a → r = some (.int a) ∧ y = jn C D) → (∀ a : Unit, o = .inr a → mj_R M_Tw_middleCash 76 [none, none, none, none] [] (SH, jn C D) r (SH, y)) → mj_R M_Tw_middleCash 14 [some (.ref 1), some (.int y1), some (.int y2), some (.int y3)] [] (SH, jn C D) r (SH, y) := by
  intro n
  induction n with
  | zero => intro y1 y2 y3 C o h; cases h
  | succ n ih =>
    intro y1 y2 y3 C o h hE hX
    unfold L_Tw_middleCash_14 at h
    refine mj_iload_n (pc := 14) (i := 3) d_Tw_middleCash_14 rfl rfl ?_
    refine mj_aload_n (pc := 15) (i := 0) d_Tw_middleCash_15 rfl rfl (by decide) ?_
    refine cj_getI (pc := 16) d_Tw_middleCash_16 fl_Tw_59 sh_1 rfl (by decide) (by decide) (by decide) ?_
    refine mj_icmp_ge (pc := 19) (tgt := 76) d_Tw_middleCash_19 (by decide) mj_hs (fun hc3 => ?_) (fun hc3 => ?_)
    · rw [if_pos hc3] at h
      cases h
      exact mj_weak _ trivial (hX _ rfl)
    · rw [if_neg hc3] at h
      refine mj_aload_n (pc := 22) (i := 0) d_Tw_middleCash_22 rfl rfl (by decide) ?_
      refine mj_iload_n (pc := 23) (i := 3) d_Tw_middleCash_23 rfl rfl ?_
      refine mj_iload_n (pc := 24) (i := 1) d_Tw_middleCash_24 rfl rfl ?_
      obtain ⟨v4, hb5, h⟩ := bd1_some h
      refine mj_callV (pc := 25) (b := 1) (vs := [.int y3, .int y1]) (st := []) d_Tw_middleCash_25 bB_Tw_middleCash_Tw_belongs lk_Tw_78 iv_Tw_belongs rc_1 rfl (Nat.le_of_ble_eq_true rfl) (Nat.le_of_ble_eq_true rfl) (r_Tw_belongs hb5) ?_
      show mj_R M_Tw_middleCash 28 [some (.ref 1), some (.int y1), some (.int y2), some (.int y3)] [.int v4] (SH, jn C D) r (SH, y)
      refine mj_if_eq (y := 0) (pc := 28) (tgt := 70) d_Tw_middleCash_28 (by decide) mj_hs (fun hc6 => ?_) (fun hc6 => ?_)
      · rw [if_pos hc6] at h
        refine mj_iinc (pc := 70) (i := 3) (v := y3 + 1) d_Tw_middleCash_70 rfl (by rfl) rfl (by decide) ?_
        refine mj_goto (pc := 73) (tgt := 14) d_Tw_middleCash_73 (by decide) ?_
        exact mj_weak [some (.ref 1), some (.int y1), some (.int y2), some (.int (y3 + 1))] (And.intro rfl (And.intro rfl (And.intro rfl (And.intro rfl trivial)))) (ih _ _ _ _ _ h hE hX)
      · rw [if_neg hc6] at h
        refine mj_aload_n (pc := 31) (i := 0) d_Tw_middleCash_31 rfl rfl (by decide) ?_
        refine mj_iload_n (pc := 32) (i := 1) d_Tw_middleCash_32 rfl rfl ?_
        refine mj_aload_n (pc := 33) (i := 0) d_Tw_middleCash_33 rfl rfl (by decide) ?_
        refine mj_getR (pc := 34) d_Tw_middleCash_34 fl_Tw_19 sh_1 rfl rfl (by decide) (by decide) (by decide) ?_
        refine mj_iload_n (pc := 37) (i := 3) d_Tw_middleCash_37 rfl rfl ?_
        obtain ⟨hg7, h⟩ := mj_gd h
        refine cj_iald (pc := 38) d_Tw_middleCash_38 sh_3 (by decide) hg7 (by decide) ?_
        refine mj_iconst (pc := 39) (v := 1) d_Tw_middleCash_39 (by decide) ?_
        refine mj_isub (pc := 40) d_Tw_middleCash_40 ?_
        obtain ⟨v8, hb9, h⟩ := bd1_some h
        refine mj_callV (pc := 41) (b := 1) (vs := [.int y1, .int ((C 3 y3.toNatClampNeg) - 1)]) (st := []) d_Tw_middleCash_41 bB_Tw_middleCash_Tw_cashNotAbove lk_Tw_74 iv_Tw_cashNotAbove rc_1 rfl (Nat.le_of_ble_eq_true rfl) (Nat.le_of_ble_eq_true rfl) (r_Tw_cashNotAbove hb9) ?_
        show mj_R M_Tw_middleCash 44 [some (.ref 1), some (.int y1), some (.int y2), some (.int y3)] [.int v8] (SH, jn C D) r (SH, y)
        refine mj_iload_n (pc := 44) (i := 2) d_Tw_middleCash_44 rfl rfl ?_
        refine mj_icmp_gt (pc := 45) (tgt := 70) d_Tw_middleCash_45 (by decide) mj_hs (fun hc10 => ?_) (fun hc10 => ?_)
        · rw [if_pos hc10] at h
          refine mj_iinc (pc := 70) (i := 3) (v := y3 + 1) d_Tw_middleCash_70 rfl (by rfl) rfl (by decide) ?_
          refine mj_goto (pc := 73) (tgt := 14) d_Tw_middleCash_73 (by decide) ?_
          exact mj_weak [some (.ref 1), some (.int y1), some (.int y2), some (.int (y3 + 1))] (And.intro rfl (And.intro rfl (And.intro rfl (And.intro rfl trivial)))) (ih _ _ _ _ _ h hE hX)
        · rw [if_neg hc10] at h
          refine mj_aload_n (pc := 48) (i := 0) d_Tw_middleCash_48 rfl rfl (by decide) ?_
          refine mj_iload_n (pc := 49) (i := 1) d_Tw_middleCash_49 rfl rfl ?_
          refine mj_aload_n (pc := 50) (i := 0) d_Tw_middleCash_50 rfl rfl (by decide) ?_
          refine mj_getR (pc := 51) d_Tw_middleCash_51 fl_Tw_19 sh_1 rfl rfl (by decide) (by decide) (by decide) ?_
          refine mj_iload_n (pc := 54) (i := 3) d_Tw_middleCash_54 rfl rfl ?_
          refine cj_iald (pc := 55) d_Tw_middleCash_55 sh_3 (by decide) hg7 (by decide) ?_
          obtain ⟨v12, hb13, h⟩ := bd1_some h
          refine mj_callV (pc := 56) (b := 1) (vs := [.int y1, .int (C 3 y3.toNatClampNeg)]) (st := []) d_Tw_middleCash_56 bB_Tw_middleCash_Tw_cashNotAbove lk_Tw_74 iv_Tw_cashNotAbove rc_1 rfl (Nat.le_of_ble_eq_true rfl) (Nat.le_of_ble_eq_true rfl) (r_Tw_cashNotAbove hb13) ?_
          show mj_R M_Tw_middleCash 59 [some (.ref 1), some (.int y1), some (.int y2), some (.int y3)] [.int v12] (SH, jn C D) r (SH, y)
          refine mj_iload_n (pc := 59) (i := 2) d_Tw_middleCash_59 rfl rfl ?_
          refine mj_icmp_le (pc := 60) (tgt := 70) d_Tw_middleCash_60 (by decide) mj_hs (fun hc14 => ?_) (fun hc14 => ?_)
          · rw [if_pos hc14] at h
            refine mj_iinc (pc := 70) (i := 3) (v := y3 + 1) d_Tw_middleCash_70 rfl (by rfl) rfl (by decide) ?_
            refine mj_goto (pc := 73) (tgt := 14) d_Tw_middleCash_73 (by decide) ?_
            exact mj_weak [some (.ref 1), some (.int y1), some (.int y2), some (.int (y3 + 1))] (And.intro rfl (And.intro rfl (And.intro rfl (And.intro rfl trivial)))) (ih _ _ _ _ _ h hE hX)
          · rw [if_neg hc14] at h
            refine mj_aload_n (pc := 63) (i := 0) d_Tw_middleCash_63 rfl rfl (by decide) ?_
            refine mj_getR (pc := 64) d_Tw_middleCash_64 fl_Tw_19 sh_1 rfl rfl (by decide) (by decide) (by decide) ?_
            refine mj_iload_n (pc := 67) (i := 3) d_Tw_middleCash_67 rfl rfl ?_
            refine cj_iald (pc := 68) d_Tw_middleCash_68 sh_3 (by decide) hg7 (by decide) ?_
            cases h
            obtain ⟨e1, e2⟩ := hE _ rfl
            subst e1
            subst e2
            exact mj_iret (pc := 69) d_Tw_middleCash_69 rfl
set_option maxRecDepth 20000 in
theorem r_Tw_middleCash {x1 : Int32} {C0 D : St} {v : Int32} (h : f_Tw_middleCash x1 C0 = some v) : mj_R M_Tw_middleCash 0 (mj_lv M_Tw_middleCash.2.2.1 [.ref 1, .int x1]) [] (SH, jn C0 D) (some (.int v)) (SH, jn C0 D) := by
  show mj_R M_Tw_middleCash 0 [some (.ref 1), some (.int x1), none, none] [] _ _ _
  unfold f_Tw_middleCash at h
  refine mj_aload_n (pc := 0) (i := 0) d_Tw_middleCash_0 rfl rfl (by decide) ?_
  refine mj_iload_n (pc := 1) (i := 1) d_Tw_middleCash_1 rfl rfl ?_
  refine mj_ldc (pc := 2) (v := 2147483647) d_Tw_middleCash_2 k_Tw_73 ?_
  obtain ⟨v1, hb2, h⟩ := bd1_some h
  refine mj_callV (pc := 4) (b := 1) (vs := [.int x1, .int 2147483647]) (st := []) d_Tw_middleCash_4 bB_Tw_middleCash_Tw_cashNotAbove lk_Tw_74 iv_Tw_cashNotAbove rc_1 rfl (Nat.le_of_ble_eq_true rfl) (Nat.le_of_ble_eq_true rfl) (r_Tw_cashNotAbove hb2) ?_
  show mj_R M_Tw_middleCash 7 [some (.ref 1), some (.int x1), none, none] [.int v1] (SH, jn C0 D) (some (.int v)) (SH, jn C0 D)
  refine mj_iconst (pc := 7) (v := 1) d_Tw_middleCash_7 (by decide) ?_
  refine mj_isub (pc := 8) d_Tw_middleCash_8 ?_
  refine mj_iconst (pc := 9) (v := 2) d_Tw_middleCash_9 (by decide) ?_
  refine mj_idiv (pc := 10) d_Tw_middleCash_10 (by decide) ?_
  refine mj_istore_n (pc := 11) (i := 2) d_Tw_middleCash_11 rfl rfl (by decide) ?_
  refine mj_iconst (pc := 12) (v := 0) d_Tw_middleCash_12 (by decide) ?_
  refine mj_istore_n (pc := 13) (i := 3) d_Tw_middleCash_13 rfl rfl (by decide) ?_
  rcases bdS_some h with ⟨e17, hl16, h⟩ | ⟨_u, hl16, h⟩
  · refine mj_weak [some (.ref 1), some (.int x1), some (.int ((v1 - 1) / 2)), some (.int 0)] (And.intro rfl (And.intro rfl (And.intro rfl (And.intro rfl trivial)))) (l_Tw_middleCash_14 3000 _ _ _ _ _ hl16 (fun a e => ?_) (fun a e => nomatch e))
    cases e
    cases h
    exact ⟨rfl, rfl⟩
  · refine mj_weak [some (.ref 1), some (.int x1), some (.int ((v1 - 1) / 2)), some (.int 0)] (And.intro rfl (And.intro rfl (And.intro rfl (And.intro rfl trivial)))) (l_Tw_middleCash_14 3000 _ _ _ _ _ hl16 (fun a e => nomatch e) (fun a e => ?_))
    cases e
    refine mj_ldc (pc := 76) (v := -1000000005) d_Tw_middleCash_76 k_Tw_66 ?_
    cases h
    exact mj_iret (pc := 78) d_Tw_middleCash_78 rfl
set_option maxRecDepth 20000 in
theorem r_Mk_median {x1 : Int32} {C0 D : St} {v : Int32} (h : f_Mk_median x1 C0 = some v) : mj_R M_Mk_median 0 (mj_lv M_Mk_median.2.2.1 [.ref 0, .int x1]) [] (SH, jn C0 D) (some (.int v)) (SH, jn C0 D) := by
  show mj_R M_Mk_median 0 [some (.ref 0), some (.int x1)] [] _ _ _
  unfold f_Mk_median at h
  refine mj_iload_n (pc := 0) (i := 1) d_Mk_median_0 rfl rfl ?_
  obtain ⟨v1, hb2, h⟩ := bd1_some h
  refine mj_callS (pc := 1) (vs := [.int x1]) (st := []) d_Mk_median_1 bB_Mk_median_Mk_isKind lk_Mk_45 st_Mk_isKind rfl (Nat.le_of_ble_eq_true rfl) (Nat.le_of_ble_eq_true rfl) (r_Mk_isKind hb2) ?_
  show mj_R M_Mk_median 4 [some (.ref 0), some (.int x1)] [.int v1] (SH, jn C0 D) (some (.int v)) (SH, jn C0 D)
  obtain ⟨w6, hb8, h⟩ := bd1_some h
  have k7 : mj_R M_Mk_median 20 [none, none] [.int w6] (SH, jn C0 D) (some (.int v)) (SH, jn C0 D) := by
    cases h
    exact mj_iret (pc := 20) d_Mk_median_20 rfl
  have h := hb8
  refine mj_if_eq (y := 0) (pc := 4) (tgt := 18) d_Mk_median_4 (by decide) mj_hs (fun hc3 => ?_) (fun hc3 => ?_)
  · rw [if_pos hc3] at h
    refine mj_ldc (pc := 18) (v := -1000000001) d_Mk_median_18 k_Mk_54 ?_
    cases h
    exact mj_weak _ trivial k7
  · rw [if_neg hc3] at h
    refine mj_aload_n (pc := 7) (i := 0) d_Mk_median_7 rfl rfl (by decide) ?_
    refine mj_getR (pc := 8) d_Mk_median_8 fl_Mk_10 sh_0 rfl rfl (by decide) (by decide) (by decide) ?_
    refine mj_iload_n (pc := 11) (i := 1) d_Mk_median_11 rfl rfl ?_
    obtain ⟨v4, hb5, h⟩ := bd1_some h
    refine mj_callV (pc := 12) (b := 1) (vs := [.int x1]) (st := []) d_Mk_median_12 bB_Mk_median_Tw_middleCash lk_Mk_199 iv_Tw_middleCash rc_1 rfl (Nat.le_of_ble_eq_true rfl) (Nat.le_of_ble_eq_true rfl) (r_Tw_middleCash hb5) ?_
    show mj_R M_Mk_median 15 [some (.ref 0), some (.int x1)] [.int v4] (SH, jn C0 D) (some (.int v)) (SH, jn C0 D)
    refine mj_goto (pc := 15) (tgt := 20) d_Mk_median_15 (by decide) ?_
    cases h
    exact mj_weak _ trivial k7
set_option maxRecDepth 20000 in
theorem r_Sk_become  {C0 D : St} {C' : St} (h : f_Sk_become C0 = some (C')) : mj_R M_Sk_become 0 (mj_lv M_Sk_become.2.2.1 [.ref 46, .ref 7]) [] (SH, jn C0 D) none (SH, jn (C') D) := by
  show mj_R M_Sk_become 0 [some (.ref 46), some (.ref 7)] [] _ _ _
  unfold f_Sk_become at h
  refine mj_aload_n (pc := 0) (i := 1) d_Sk_become_0 rfl rfl (by decide) ?_
  refine mj_getR (pc := 1) d_Sk_become_1 fl_Sk_9 sh_7 rfl rfl (by decide) (by decide) (by decide) ?_
  refine mj_iconst (pc := 4) (v := 0) d_Sk_become_4 (by decide) ?_
  refine mj_aload_n (pc := 5) (i := 0) d_Sk_become_5 rfl rfl (by decide) ?_
  refine mj_getR (pc := 6) d_Sk_become_6 fl_Sk_9 sh_46 rfl rfl (by decide) (by decide) (by decide) ?_
  refine mj_iconst (pc := 9) (v := 0) d_Sk_become_9 (by decide) ?_
  refine mj_aload_n (pc := 10) (i := 0) d_Sk_become_10 rfl rfl (by decide) ?_
  refine mj_getR (pc := 11) d_Sk_become_11 fl_Sk_9 sh_46 rfl rfl (by decide) (by decide) (by decide) ?_
  refine mj_alen (pc := 14) (v := 600) d_Sk_become_14 sh_47 (by decide) (by decide) ?_
  refine cj_copy (pc := 15) d_Sk_become_15 cp_Sk_34 sh_8 sh_47 (by decide) (by decide) (by decide) (by decide) (Nat.le_of_ble_eq_true rfl) ?_
  refine mj_aload_n (pc := 18) (i := 1) d_Sk_become_18 rfl rfl (by decide) ?_
  refine mj_getR (pc := 19) d_Sk_become_19 fl_Sk_15 sh_7 rfl rfl (by decide) (by decide) (by decide) ?_
  refine mj_iconst (pc := 22) (v := 0) d_Sk_become_22 (by decide) ?_
  refine mj_aload_n (pc := 23) (i := 0) d_Sk_become_23 rfl rfl (by decide) ?_
  refine mj_getR (pc := 24) d_Sk_become_24 fl_Sk_15 sh_46 rfl rfl (by decide) (by decide) (by decide) ?_
  refine mj_iconst (pc := 27) (v := 0) d_Sk_become_27 (by decide) ?_
  refine mj_aload_n (pc := 28) (i := 0) d_Sk_become_28 rfl rfl (by decide) ?_
  refine mj_getR (pc := 29) d_Sk_become_29 fl_Sk_15 sh_46 rfl rfl (by decide) (by decide) (by decide) ?_
  refine mj_alen (pc := 32) (v := 60) d_Sk_become_32 sh_48 (by decide) (by decide) ?_
  refine cj_copy (pc := 33) d_Sk_become_33 cp_Sk_34 sh_9 sh_48 (by decide) (by decide) (by decide) (by decide) (Nat.le_of_ble_eq_true rfl) ?_
  cases h
  exact mj_vret (pc := 36) d_Sk_become_36 rfl
set_option maxRecDepth 20000 in
theorem r_Wr_become  {C0 D : St} {C' : St} (h : f_Wr_become C0 = some (C')) : mj_R M_Wr_become 0 (mj_lv M_Wr_become.2.2.1 [.ref 49, .ref 10]) [] (SH, jn C0 D) none (SH, jn (C') D) := by
  show mj_R M_Wr_become 0 [some (.ref 49), some (.ref 10)] [] _ _ _
  unfold f_Wr_become at h
  refine mj_aload_n (pc := 0) (i := 1) d_Wr_become_0 rfl rfl (by decide) ?_
  refine mj_getR (pc := 1) d_Wr_become_1 fl_Wr_11 sh_10 rfl rfl (by decide) (by decide) (by decide) ?_
  refine mj_iconst (pc := 4) (v := 0) d_Wr_become_4 (by decide) ?_
  refine mj_aload_n (pc := 5) (i := 0) d_Wr_become_5 rfl rfl (by decide) ?_
  refine mj_getR (pc := 6) d_Wr_become_6 fl_Wr_11 sh_49 rfl rfl (by decide) (by decide) (by decide) ?_
  refine mj_iconst (pc := 9) (v := 0) d_Wr_become_9 (by decide) ?_
  refine mj_aload_n (pc := 10) (i := 0) d_Wr_become_10 rfl rfl (by decide) ?_
  refine mj_getR (pc := 11) d_Wr_become_11 fl_Wr_11 sh_49 rfl rfl (by decide) (by decide) (by decide) ?_
  refine mj_alen (pc := 14) (v := 55) d_Wr_become_14 sh_50 (by decide) (by decide) ?_
  refine cj_copy (pc := 15) d_Wr_become_15 cp_Wr_15 sh_11 sh_50 (by decide) (by decide) (by decide) (by decide) (Nat.le_of_ble_eq_true rfl) ?_
  cases h
  exact mj_vret (pc := 18) d_Wr_become_18 rfl
set_option maxRecDepth 20000 in
theorem r_Rl_become  {C0 D : St} {C' : St} (h : f_Rl_become C0 = some (C')) : mj_R M_Rl_become 0 (mj_lv M_Rl_become.2.2.1 [.ref 51, .ref 12]) [] (SH, jn C0 D) none (SH, jn (C') D) := by
  show mj_R M_Rl_become 0 [some (.ref 51), some (.ref 12)] [] _ _ _
  unfold f_Rl_become at h
  refine mj_aload_n (pc := 0) (i := 1) d_Rl_become_0 rfl rfl (by decide) ?_
  refine mj_getR (pc := 1) d_Rl_become_1 fl_Rl_9 sh_12 rfl rfl (by decide) (by decide) (by decide) ?_
  refine mj_iconst (pc := 4) (v := 0) d_Rl_become_4 (by decide) ?_
  refine mj_aload_n (pc := 5) (i := 0) d_Rl_become_5 rfl rfl (by decide) ?_
  refine mj_getR (pc := 6) d_Rl_become_6 fl_Rl_9 sh_51 rfl rfl (by decide) (by decide) (by decide) ?_
  refine mj_iconst (pc := 9) (v := 0) d_Rl_become_9 (by decide) ?_
  refine mj_aload_n (pc := 10) (i := 0) d_Rl_become_10 rfl rfl (by decide) ?_
  refine mj_getR (pc := 11) d_Rl_become_11 fl_Rl_9 sh_51 rfl rfl (by decide) (by decide) (by decide) ?_
  refine mj_alen (pc := 14) (v := 12) d_Rl_become_14 sh_52 (by decide) (by decide) ?_
  refine cj_copy (pc := 15) d_Rl_become_15 cp_Rl_23 sh_13 sh_52 (by decide) (by decide) (by decide) (by decide) (Nat.le_of_ble_eq_true rfl) ?_
  refine mj_aload_n (pc := 18) (i := 1) d_Rl_become_18 rfl rfl (by decide) ?_
  refine mj_getR (pc := 19) d_Rl_become_19 fl_Rl_15 sh_12 rfl rfl (by decide) (by decide) (by decide) ?_
  refine mj_iconst (pc := 22) (v := 0) d_Rl_become_22 (by decide) ?_
  refine mj_aload_n (pc := 23) (i := 0) d_Rl_become_23 rfl rfl (by decide) ?_
  refine mj_getR (pc := 24) d_Rl_become_24 fl_Rl_15 sh_51 rfl rfl (by decide) (by decide) (by decide) ?_
  refine mj_iconst (pc := 27) (v := 0) d_Rl_become_27 (by decide) ?_
  refine mj_aload_n (pc := 28) (i := 0) d_Rl_become_28 rfl rfl (by decide) ?_
  refine mj_getR (pc := 29) d_Rl_become_29 fl_Rl_15 sh_51 rfl rfl (by decide) (by decide) (by decide) ?_
  refine mj_alen (pc := 32) (v := 648) d_Rl_become_32 sh_53 (by decide) (by decide) ?_
  refine cj_copy (pc := 33) d_Rl_become_33 cp_Rl_23 sh_14 sh_53 (by decide) (by decide) (by decide) (by decide) (Nat.le_of_ble_eq_true rfl) ?_
  cases h
  exact mj_vret (pc := 36) d_Rl_become_36 rfl
set_option maxRecDepth 20000 in
theorem r_Ln_become  {C0 D : St} {C' : St} (h : f_Ln_become C0 = some (C')) : mj_R M_Ln_become 0 (mj_lv M_Ln_become.2.2.1 [.ref 54, .ref 15]) [] (SH, jn C0 D) none (SH, jn (C') D) := by
  show mj_R M_Ln_become 0 [some (.ref 54), some (.ref 15)] [] _ _ _
  unfold f_Ln_become at h
  refine mj_aload_n (pc := 0) (i := 0) d_Ln_become_0 rfl rfl (by decide) ?_
  refine mj_aload_n (pc := 1) (i := 1) d_Ln_become_1 rfl rfl (by decide) ?_
  refine cj_getI (pc := 2) d_Ln_become_2 fl_Ln_15 sh_15 rfl (by decide) (by decide) (by decide) ?_
  refine cj_putI (pc := 5) d_Ln_become_5 fl_Ln_15 sh_54 rfl (fun _ _ _ h => by cases h; rfl) (by decide) (by decide) (by decide) ?_
  refine mj_aload_n (pc := 8) (i := 1) d_Ln_become_8 rfl rfl (by decide) ?_
  refine mj_getR (pc := 9) d_Ln_become_9 fl_Ln_11 sh_15 rfl rfl (by decide) (by decide) (by decide) ?_
  refine mj_iconst (pc := 12) (v := 0) d_Ln_become_12 (by decide) ?_
  refine mj_aload_n (pc := 13) (i := 0) d_Ln_become_13 rfl rfl (by decide) ?_
  refine mj_getR (pc := 14) d_Ln_become_14 fl_Ln_11 sh_54 rfl rfl (by decide) (by decide) (by decide) ?_
  refine mj_iconst (pc := 17) (v := 0) d_Ln_become_17 (by decide) ?_
  refine mj_aload_n (pc := 18) (i := 0) d_Ln_become_18 rfl rfl (by decide) ?_
  refine mj_getR (pc := 19) d_Ln_become_19 fl_Ln_11 sh_54 rfl rfl (by decide) (by decide) (by decide) ?_
  refine mj_alen (pc := 22) (v := 80) d_Ln_become_22 sh_55 (by decide) (by decide) ?_
  refine cj_copy (pc := 23) d_Ln_become_23 cp_Ln_69 sh_16 sh_55 (by decide) (by decide) (by decide) (by decide) (Nat.le_of_ble_eq_true rfl) ?_
  cases h
  exact mj_vret (pc := 26) d_Ln_become_26 rfl
set_option maxRecDepth 20000 in
theorem r_Tw_become  {C0 D : St} {C' : St} (h : f_Tw_become C0 = some (C')) : mj_R M_Tw_become 0 (mj_lv M_Tw_become.2.2.1 [.ref 40, .ref 1]) [] (SH, jn C0 D) none (SH, jn (C') D) := by
  show mj_R M_Tw_become 0 [some (.ref 40), some (.ref 1)] [] _ _ _
  unfold f_Tw_become at h
  refine mj_aload_n (pc := 0) (i := 0) d_Tw_become_0 rfl rfl (by decide) ?_
  refine mj_aload_n (pc := 1) (i := 1) d_Tw_become_1 rfl rfl (by decide) ?_
  refine cj_getI (pc := 2) d_Tw_become_2 fl_Tw_59 sh_1 rfl (by decide) (by decide) (by decide) ?_
  refine cj_putI (pc := 5) d_Tw_become_5 fl_Tw_59 sh_40 rfl (fun _ _ _ h => by cases h; rfl) (by decide) (by decide) (by decide) ?_
  refine mj_aload_n (pc := 8) (i := 0) d_Tw_become_8 rfl rfl (by decide) ?_
  refine mj_aload_n (pc := 9) (i := 1) d_Tw_become_9 rfl rfl (by decide) ?_
  refine cj_getI (pc := 10) d_Tw_become_10 fl_Tw_91 sh_1 rfl (by decide) (by decide) (by decide) ?_
  refine cj_putI (pc := 13) d_Tw_become_13 fl_Tw_91 sh_40 rfl (fun _ _ _ h => by cases h; rfl) (by decide) (by decide) (by decide) ?_
  refine mj_aload_n (pc := 16) (i := 0) d_Tw_become_16 rfl rfl (by decide) ?_
  refine mj_aload_n (pc := 17) (i := 1) d_Tw_become_17 rfl rfl (by decide) ?_
  refine cj_getI (pc := 18) d_Tw_become_18 fl_Tw_9 sh_1 rfl (by decide) (by decide) (by decide) ?_
  refine cj_putI (pc := 21) d_Tw_become_21 fl_Tw_9 sh_40 rfl (fun _ _ _ h => by cases h; rfl) (by decide) (by decide) (by decide) ?_
  refine mj_aload_n (pc := 24) (i := 0) d_Tw_become_24 rfl rfl (by decide) ?_
  refine mj_aload_n (pc := 25) (i := 1) d_Tw_become_25 rfl rfl (by decide) ?_
  refine cj_getI (pc := 26) d_Tw_become_26 fl_Tw_94 sh_1 rfl (by decide) (by decide) (by decide) ?_
  refine cj_putI (pc := 29) d_Tw_become_29 fl_Tw_94 sh_40 rfl (fun _ _ _ h => by cases h; rfl) (by decide) (by decide) (by decide) ?_
  refine mj_aload_n (pc := 32) (i := 0) d_Tw_become_32 rfl rfl (by decide) ?_
  refine mj_aload_n (pc := 33) (i := 1) d_Tw_become_33 rfl rfl (by decide) ?_
  refine cj_getI (pc := 34) d_Tw_become_34 fl_Tw_97 sh_1 rfl (by decide) (by decide) (by decide) ?_
  refine cj_putI (pc := 37) d_Tw_become_37 fl_Tw_97 sh_40 rfl (fun _ _ _ h => by cases h; rfl) (by decide) (by decide) (by decide) ?_
  refine mj_aload_n (pc := 40) (i := 1) d_Tw_become_40 rfl rfl (by decide) ?_
  refine mj_getR (pc := 41) d_Tw_become_41 fl_Tw_15 sh_1 rfl rfl (by decide) (by decide) (by decide) ?_
  refine mj_iconst (pc := 44) (v := 0) d_Tw_become_44 (by decide) ?_
  refine mj_aload_n (pc := 45) (i := 0) d_Tw_become_45 rfl rfl (by decide) ?_
  refine mj_getR (pc := 46) d_Tw_become_46 fl_Tw_15 sh_40 rfl rfl (by decide) (by decide) (by decide) ?_
  refine mj_iconst (pc := 49) (v := 0) d_Tw_become_49 (by decide) ?_
  refine mj_aload_n (pc := 50) (i := 0) d_Tw_become_50 rfl rfl (by decide) ?_
  refine mj_getR (pc := 51) d_Tw_become_51 fl_Tw_15 sh_40 rfl rfl (by decide) (by decide) (by decide) ?_
  refine mj_alen (pc := 54) (v := 12) d_Tw_become_54 sh_41 (by decide) (by decide) ?_
  refine cj_copy (pc := 55) d_Tw_become_55 cp_Tw_100 sh_2 sh_41 (by decide) (by decide) (by decide) (by decide) (Nat.le_of_ble_eq_true rfl) ?_
  refine mj_aload_n (pc := 58) (i := 1) d_Tw_become_58 rfl rfl (by decide) ?_
  refine mj_getR (pc := 59) d_Tw_become_59 fl_Tw_19 sh_1 rfl rfl (by decide) (by decide) (by decide) ?_
  refine mj_iconst (pc := 62) (v := 0) d_Tw_become_62 (by decide) ?_
  refine mj_aload_n (pc := 63) (i := 0) d_Tw_become_63 rfl rfl (by decide) ?_
  refine mj_getR (pc := 64) d_Tw_become_64 fl_Tw_19 sh_40 rfl rfl (by decide) (by decide) (by decide) ?_
  refine mj_iconst (pc := 67) (v := 0) d_Tw_become_67 (by decide) ?_
  refine mj_aload_n (pc := 68) (i := 0) d_Tw_become_68 rfl rfl (by decide) ?_
  refine mj_getR (pc := 69) d_Tw_become_69 fl_Tw_19 sh_40 rfl rfl (by decide) (by decide) (by decide) ?_
  refine mj_alen (pc := 72) (v := 12) d_Tw_become_72 sh_42 (by decide) (by decide) ?_
  refine cj_copy (pc := 73) d_Tw_become_73 cp_Tw_100 sh_3 sh_42 (by decide) (by decide) (by decide) (by decide) (Nat.le_of_ble_eq_true rfl) ?_
  refine mj_aload_n (pc := 76) (i := 1) d_Tw_become_76 rfl rfl (by decide) ?_
  refine mj_getR (pc := 77) d_Tw_become_77 fl_Tw_22 sh_1 rfl rfl (by decide) (by decide) (by decide) ?_
  refine mj_iconst (pc := 80) (v := 0) d_Tw_become_80 (by decide) ?_
  refine mj_aload_n (pc := 81) (i := 0) d_Tw_become_81 rfl rfl (by decide) ?_
  refine mj_getR (pc := 82) d_Tw_become_82 fl_Tw_22 sh_40 rfl rfl (by decide) (by decide) (by decide) ?_
  refine mj_iconst (pc := 85) (v := 0) d_Tw_become_85 (by decide) ?_
  refine mj_aload_n (pc := 86) (i := 0) d_Tw_become_86 rfl rfl (by decide) ?_
  refine mj_getR (pc := 87) d_Tw_become_87 fl_Tw_22 sh_40 rfl rfl (by decide) (by decide) (by decide) ?_
  refine mj_alen (pc := 90) (v := 12) d_Tw_become_90 sh_43 (by decide) (by decide) ?_
  refine cj_copy (pc := 91) d_Tw_become_91 cp_Tw_100 sh_4 sh_43 (by decide) (by decide) (by decide) (by decide) (Nat.le_of_ble_eq_true rfl) ?_
  refine mj_aload_n (pc := 94) (i := 1) d_Tw_become_94 rfl rfl (by decide) ?_
  refine mj_getR (pc := 95) d_Tw_become_95 fl_Tw_25 sh_1 rfl rfl (by decide) (by decide) (by decide) ?_
  refine mj_iconst (pc := 98) (v := 0) d_Tw_become_98 (by decide) ?_
  refine mj_aload_n (pc := 99) (i := 0) d_Tw_become_99 rfl rfl (by decide) ?_
  refine mj_getR (pc := 100) d_Tw_become_100 fl_Tw_25 sh_40 rfl rfl (by decide) (by decide) (by decide) ?_
  refine mj_iconst (pc := 103) (v := 0) d_Tw_become_103 (by decide) ?_
  refine mj_aload_n (pc := 104) (i := 0) d_Tw_become_104 rfl rfl (by decide) ?_
  refine mj_getR (pc := 105) d_Tw_become_105 fl_Tw_25 sh_40 rfl rfl (by decide) (by decide) (by decide) ?_
  refine mj_alen (pc := 108) (v := 12) d_Tw_become_108 sh_44 (by decide) (by decide) ?_
  refine cj_copy (pc := 109) d_Tw_become_109 cp_Tw_100 sh_5 sh_44 (by decide) (by decide) (by decide) (by decide) (Nat.le_of_ble_eq_true rfl) ?_
  refine mj_aload_n (pc := 112) (i := 1) d_Tw_become_112 rfl rfl (by decide) ?_
  refine mj_getR (pc := 113) d_Tw_become_113 fl_Tw_28 sh_1 rfl rfl (by decide) (by decide) (by decide) ?_
  refine mj_iconst (pc := 116) (v := 0) d_Tw_become_116 (by decide) ?_
  refine mj_aload_n (pc := 117) (i := 0) d_Tw_become_117 rfl rfl (by decide) ?_
  refine mj_getR (pc := 118) d_Tw_become_118 fl_Tw_28 sh_40 rfl rfl (by decide) (by decide) (by decide) ?_
  refine mj_iconst (pc := 121) (v := 0) d_Tw_become_121 (by decide) ?_
  refine mj_aload_n (pc := 122) (i := 0) d_Tw_become_122 rfl rfl (by decide) ?_
  refine mj_getR (pc := 123) d_Tw_become_123 fl_Tw_28 sh_40 rfl rfl (by decide) (by decide) (by decide) ?_
  refine mj_alen (pc := 126) (v := 720) d_Tw_become_126 sh_45 (by decide) (by decide) ?_
  refine cj_copy (pc := 127) d_Tw_become_127 cp_Tw_100 sh_6 sh_45 (by decide) (by decide) (by decide) (by decide) (Nat.le_of_ble_eq_true rfl) ?_
  refine mj_aload_n (pc := 130) (i := 0) d_Tw_become_130 rfl rfl (by decide) ?_
  refine mj_getR (pc := 131) d_Tw_become_131 fl_Tw_34 sh_40 rfl rfl (by decide) (by decide) (by decide) ?_
  refine mj_aload_n (pc := 134) (i := 1) d_Tw_become_134 rfl rfl (by decide) ?_
  refine mj_getR (pc := 135) d_Tw_become_135 fl_Tw_34 sh_1 rfl rfl (by decide) (by decide) (by decide) ?_
  obtain ⟨C1, hb2, h⟩ := bd1_some h
  refine mj_callV (pc := 138) (b := 46) (vs := [.ref 7]) (st := []) d_Tw_become_138 bB_Tw_become_Sk_become lk_Tw_106 iv_Sk_become rc_46 rfl (Nat.le_of_ble_eq_true rfl) (Nat.le_of_ble_eq_true rfl) (r_Sk_become hb2) ?_
  show mj_R M_Tw_become 141 [some (.ref 40), some (.ref 1)] [] (SH, jn C1 D) none (SH, jn (C') D)
  refine mj_aload_n (pc := 141) (i := 0) d_Tw_become_141 rfl rfl (by decide) ?_
  refine mj_getR (pc := 142) d_Tw_become_142 fl_Tw_41 sh_40 rfl rfl (by decide) (by decide) (by decide) ?_
  refine mj_aload_n (pc := 145) (i := 1) d_Tw_become_145 rfl rfl (by decide) ?_
  refine mj_getR (pc := 146) d_Tw_become_146 fl_Tw_41 sh_1 rfl rfl (by decide) (by decide) (by decide) ?_
  obtain ⟨C3, hb4, h⟩ := bd1_some h
  refine mj_callV (pc := 149) (b := 49) (vs := [.ref 10]) (st := []) d_Tw_become_149 bB_Tw_become_Wr_become lk_Tw_110 iv_Wr_become rc_49 rfl (Nat.le_of_ble_eq_true rfl) (Nat.le_of_ble_eq_true rfl) (r_Wr_become hb4) ?_
  show mj_R M_Tw_become 152 [some (.ref 40), some (.ref 1)] [] (SH, jn C3 D) none (SH, jn (C') D)
  refine mj_aload_n (pc := 152) (i := 0) d_Tw_become_152 rfl rfl (by decide) ?_
  refine mj_getR (pc := 153) d_Tw_become_153 fl_Tw_48 sh_40 rfl rfl (by decide) (by decide) (by decide) ?_
  refine mj_aload_n (pc := 156) (i := 1) d_Tw_become_156 rfl rfl (by decide) ?_
  refine mj_getR (pc := 157) d_Tw_become_157 fl_Tw_48 sh_1 rfl rfl (by decide) (by decide) (by decide) ?_
  obtain ⟨C5, hb6, h⟩ := bd1_some h
  refine mj_callV (pc := 160) (b := 51) (vs := [.ref 12]) (st := []) d_Tw_become_160 bB_Tw_become_Rl_become lk_Tw_113 iv_Rl_become rc_51 rfl (Nat.le_of_ble_eq_true rfl) (Nat.le_of_ble_eq_true rfl) (r_Rl_become hb6) ?_
  show mj_R M_Tw_become 163 [some (.ref 40), some (.ref 1)] [] (SH, jn C5 D) none (SH, jn (C') D)
  refine mj_aload_n (pc := 163) (i := 0) d_Tw_become_163 rfl rfl (by decide) ?_
  refine mj_getR (pc := 164) d_Tw_become_164 fl_Tw_55 sh_40 rfl rfl (by decide) (by decide) (by decide) ?_
  refine mj_aload_n (pc := 167) (i := 1) d_Tw_become_167 rfl rfl (by decide) ?_
  refine mj_getR (pc := 168) d_Tw_become_168 fl_Tw_55 sh_1 rfl rfl (by decide) (by decide) (by decide) ?_
  obtain ⟨C7, hb8, h⟩ := bd1_some h
  refine mj_callV (pc := 171) (b := 54) (vs := [.ref 15]) (st := []) d_Tw_become_171 bB_Tw_become_Ln_become lk_Tw_116 iv_Ln_become rc_54 rfl (Nat.le_of_ble_eq_true rfl) (Nat.le_of_ble_eq_true rfl) (r_Ln_become hb8) ?_
  show mj_R M_Tw_become 174 [some (.ref 40), some (.ref 1)] [] (SH, jn C7 D) none (SH, jn (C') D)
  cases h
  exact mj_vret (pc := 174) d_Tw_become_174 rfl
set_option maxRecDepth 20000 in
theorem r_Sk_become_1  {C0 D : St} {C' : St} (h : f_Sk_become_1 C0 = some (C')) : mj_R M_Sk_become 0 (mj_lv M_Sk_become.2.2.1 [.ref 62, .ref 7]) [] (SH, jn C0 D) none (SH, jn (C') D) := by
  show mj_R M_Sk_become 0 [some (.ref 62), some (.ref 7)] [] _ _ _
  unfold f_Sk_become_1 at h
  refine mj_aload_n (pc := 0) (i := 1) d_Sk_become_0 rfl rfl (by decide) ?_
  refine mj_getR (pc := 1) d_Sk_become_1 fl_Sk_9 sh_7 rfl rfl (by decide) (by decide) (by decide) ?_
  refine mj_iconst (pc := 4) (v := 0) d_Sk_become_4 (by decide) ?_
  refine mj_aload_n (pc := 5) (i := 0) d_Sk_become_5 rfl rfl (by decide) ?_
  refine mj_getR (pc := 6) d_Sk_become_6 fl_Sk_9 sh_62 rfl rfl (by decide) (by decide) (by decide) ?_
  refine mj_iconst (pc := 9) (v := 0) d_Sk_become_9 (by decide) ?_
  refine mj_aload_n (pc := 10) (i := 0) d_Sk_become_10 rfl rfl (by decide) ?_
  refine mj_getR (pc := 11) d_Sk_become_11 fl_Sk_9 sh_62 rfl rfl (by decide) (by decide) (by decide) ?_
  refine mj_alen (pc := 14) (v := 600) d_Sk_become_14 sh_63 (by decide) (by decide) ?_
  refine cj_copy (pc := 15) d_Sk_become_15 cp_Sk_34 sh_8 sh_63 (by decide) (by decide) (by decide) (by decide) (Nat.le_of_ble_eq_true rfl) ?_
  refine mj_aload_n (pc := 18) (i := 1) d_Sk_become_18 rfl rfl (by decide) ?_
  refine mj_getR (pc := 19) d_Sk_become_19 fl_Sk_15 sh_7 rfl rfl (by decide) (by decide) (by decide) ?_
  refine mj_iconst (pc := 22) (v := 0) d_Sk_become_22 (by decide) ?_
  refine mj_aload_n (pc := 23) (i := 0) d_Sk_become_23 rfl rfl (by decide) ?_
  refine mj_getR (pc := 24) d_Sk_become_24 fl_Sk_15 sh_62 rfl rfl (by decide) (by decide) (by decide) ?_
  refine mj_iconst (pc := 27) (v := 0) d_Sk_become_27 (by decide) ?_
  refine mj_aload_n (pc := 28) (i := 0) d_Sk_become_28 rfl rfl (by decide) ?_
  refine mj_getR (pc := 29) d_Sk_become_29 fl_Sk_15 sh_62 rfl rfl (by decide) (by decide) (by decide) ?_
  refine mj_alen (pc := 32) (v := 60) d_Sk_become_32 sh_64 (by decide) (by decide) ?_
  refine cj_copy (pc := 33) d_Sk_become_33 cp_Sk_34 sh_9 sh_64 (by decide) (by decide) (by decide) (by decide) (Nat.le_of_ble_eq_true rfl) ?_
  cases h
  exact mj_vret (pc := 36) d_Sk_become_36 rfl
set_option maxRecDepth 20000 in
theorem r_Wr_become_1  {C0 D : St} {C' : St} (h : f_Wr_become_1 C0 = some (C')) : mj_R M_Wr_become 0 (mj_lv M_Wr_become.2.2.1 [.ref 65, .ref 10]) [] (SH, jn C0 D) none (SH, jn (C') D) := by
  show mj_R M_Wr_become 0 [some (.ref 65), some (.ref 10)] [] _ _ _
  unfold f_Wr_become_1 at h
  refine mj_aload_n (pc := 0) (i := 1) d_Wr_become_0 rfl rfl (by decide) ?_
  refine mj_getR (pc := 1) d_Wr_become_1 fl_Wr_11 sh_10 rfl rfl (by decide) (by decide) (by decide) ?_
  refine mj_iconst (pc := 4) (v := 0) d_Wr_become_4 (by decide) ?_
  refine mj_aload_n (pc := 5) (i := 0) d_Wr_become_5 rfl rfl (by decide) ?_
  refine mj_getR (pc := 6) d_Wr_become_6 fl_Wr_11 sh_65 rfl rfl (by decide) (by decide) (by decide) ?_
  refine mj_iconst (pc := 9) (v := 0) d_Wr_become_9 (by decide) ?_
  refine mj_aload_n (pc := 10) (i := 0) d_Wr_become_10 rfl rfl (by decide) ?_
  refine mj_getR (pc := 11) d_Wr_become_11 fl_Wr_11 sh_65 rfl rfl (by decide) (by decide) (by decide) ?_
  refine mj_alen (pc := 14) (v := 55) d_Wr_become_14 sh_66 (by decide) (by decide) ?_
  refine cj_copy (pc := 15) d_Wr_become_15 cp_Wr_15 sh_11 sh_66 (by decide) (by decide) (by decide) (by decide) (Nat.le_of_ble_eq_true rfl) ?_
  cases h
  exact mj_vret (pc := 18) d_Wr_become_18 rfl
set_option maxRecDepth 20000 in
theorem r_Rl_become_1  {C0 D : St} {C' : St} (h : f_Rl_become_1 C0 = some (C')) : mj_R M_Rl_become 0 (mj_lv M_Rl_become.2.2.1 [.ref 67, .ref 12]) [] (SH, jn C0 D) none (SH, jn (C') D) := by
  show mj_R M_Rl_become 0 [some (.ref 67), some (.ref 12)] [] _ _ _
  unfold f_Rl_become_1 at h
  refine mj_aload_n (pc := 0) (i := 1) d_Rl_become_0 rfl rfl (by decide) ?_
  refine mj_getR (pc := 1) d_Rl_become_1 fl_Rl_9 sh_12 rfl rfl (by decide) (by decide) (by decide) ?_
  refine mj_iconst (pc := 4) (v := 0) d_Rl_become_4 (by decide) ?_
  refine mj_aload_n (pc := 5) (i := 0) d_Rl_become_5 rfl rfl (by decide) ?_
  refine mj_getR (pc := 6) d_Rl_become_6 fl_Rl_9 sh_67 rfl rfl (by decide) (by decide) (by decide) ?_
  refine mj_iconst (pc := 9) (v := 0) d_Rl_become_9 (by decide) ?_
  refine mj_aload_n (pc := 10) (i := 0) d_Rl_become_10 rfl rfl (by decide) ?_
  refine mj_getR (pc := 11) d_Rl_become_11 fl_Rl_9 sh_67 rfl rfl (by decide) (by decide) (by decide) ?_
  refine mj_alen (pc := 14) (v := 12) d_Rl_become_14 sh_68 (by decide) (by decide) ?_
  refine cj_copy (pc := 15) d_Rl_become_15 cp_Rl_23 sh_13 sh_68 (by decide) (by decide) (by decide) (by decide) (Nat.le_of_ble_eq_true rfl) ?_
  refine mj_aload_n (pc := 18) (i := 1) d_Rl_become_18 rfl rfl (by decide) ?_
  refine mj_getR (pc := 19) d_Rl_become_19 fl_Rl_15 sh_12 rfl rfl (by decide) (by decide) (by decide) ?_
  refine mj_iconst (pc := 22) (v := 0) d_Rl_become_22 (by decide) ?_
  refine mj_aload_n (pc := 23) (i := 0) d_Rl_become_23 rfl rfl (by decide) ?_
  refine mj_getR (pc := 24) d_Rl_become_24 fl_Rl_15 sh_67 rfl rfl (by decide) (by decide) (by decide) ?_
  refine mj_iconst (pc := 27) (v := 0) d_Rl_become_27 (by decide) ?_
  refine mj_aload_n (pc := 28) (i := 0) d_Rl_become_28 rfl rfl (by decide) ?_
  refine mj_getR (pc := 29) d_Rl_become_29 fl_Rl_15 sh_67 rfl rfl (by decide) (by decide) (by decide) ?_
  refine mj_alen (pc := 32) (v := 648) d_Rl_become_32 sh_69 (by decide) (by decide) ?_
  refine cj_copy (pc := 33) d_Rl_become_33 cp_Rl_23 sh_14 sh_69 (by decide) (by decide) (by decide) (by decide) (Nat.le_of_ble_eq_true rfl) ?_
  cases h
  exact mj_vret (pc := 36) d_Rl_become_36 rfl
set_option maxRecDepth 20000 in
theorem r_Ln_become_1  {C0 D : St} {C' : St} (h : f_Ln_become_1 C0 = some (C')) : mj_R M_Ln_become 0 (mj_lv M_Ln_become.2.2.1 [.ref 70, .ref 15]) [] (SH, jn C0 D) none (SH, jn (C') D) := by
  show mj_R M_Ln_become 0 [some (.ref 70), some (.ref 15)] [] _ _ _
  unfold f_Ln_become_1 at h
  refine mj_aload_n (pc := 0) (i := 0) d_Ln_become_0 rfl rfl (by decide) ?_
  refine mj_aload_n (pc := 1) (i := 1) d_Ln_become_1 rfl rfl (by decide) ?_
  refine cj_getI (pc := 2) d_Ln_become_2 fl_Ln_15 sh_15 rfl (by decide) (by decide) (by decide) ?_
  refine cj_putI (pc := 5) d_Ln_become_5 fl_Ln_15 sh_70 rfl (fun _ _ _ h => by cases h; rfl) (by decide) (by decide) (by decide) ?_
  refine mj_aload_n (pc := 8) (i := 1) d_Ln_become_8 rfl rfl (by decide) ?_
  refine mj_getR (pc := 9) d_Ln_become_9 fl_Ln_11 sh_15 rfl rfl (by decide) (by decide) (by decide) ?_
  refine mj_iconst (pc := 12) (v := 0) d_Ln_become_12 (by decide) ?_
  refine mj_aload_n (pc := 13) (i := 0) d_Ln_become_13 rfl rfl (by decide) ?_
  refine mj_getR (pc := 14) d_Ln_become_14 fl_Ln_11 sh_70 rfl rfl (by decide) (by decide) (by decide) ?_
  refine mj_iconst (pc := 17) (v := 0) d_Ln_become_17 (by decide) ?_
  refine mj_aload_n (pc := 18) (i := 0) d_Ln_become_18 rfl rfl (by decide) ?_
  refine mj_getR (pc := 19) d_Ln_become_19 fl_Ln_11 sh_70 rfl rfl (by decide) (by decide) (by decide) ?_
  refine mj_alen (pc := 22) (v := 80) d_Ln_become_22 sh_71 (by decide) (by decide) ?_
  refine cj_copy (pc := 23) d_Ln_become_23 cp_Ln_69 sh_16 sh_71 (by decide) (by decide) (by decide) (by decide) (Nat.le_of_ble_eq_true rfl) ?_
  cases h
  exact mj_vret (pc := 26) d_Ln_become_26 rfl
set_option maxRecDepth 20000 in
theorem r_Tw_become_1  {C0 D : St} {C' : St} (h : f_Tw_become_1 C0 = some (C')) : mj_R M_Tw_become 0 (mj_lv M_Tw_become.2.2.1 [.ref 56, .ref 1]) [] (SH, jn C0 D) none (SH, jn (C') D) := by
  show mj_R M_Tw_become 0 [some (.ref 56), some (.ref 1)] [] _ _ _
  unfold f_Tw_become_1 at h
  refine mj_aload_n (pc := 0) (i := 0) d_Tw_become_0 rfl rfl (by decide) ?_
  refine mj_aload_n (pc := 1) (i := 1) d_Tw_become_1 rfl rfl (by decide) ?_
  refine cj_getI (pc := 2) d_Tw_become_2 fl_Tw_59 sh_1 rfl (by decide) (by decide) (by decide) ?_
  refine cj_putI (pc := 5) d_Tw_become_5 fl_Tw_59 sh_56 rfl (fun _ _ _ h => by cases h; rfl) (by decide) (by decide) (by decide) ?_
  refine mj_aload_n (pc := 8) (i := 0) d_Tw_become_8 rfl rfl (by decide) ?_
  refine mj_aload_n (pc := 9) (i := 1) d_Tw_become_9 rfl rfl (by decide) ?_
  refine cj_getI (pc := 10) d_Tw_become_10 fl_Tw_91 sh_1 rfl (by decide) (by decide) (by decide) ?_
  refine cj_putI (pc := 13) d_Tw_become_13 fl_Tw_91 sh_56 rfl (fun _ _ _ h => by cases h; rfl) (by decide) (by decide) (by decide) ?_
  refine mj_aload_n (pc := 16) (i := 0) d_Tw_become_16 rfl rfl (by decide) ?_
  refine mj_aload_n (pc := 17) (i := 1) d_Tw_become_17 rfl rfl (by decide) ?_
  refine cj_getI (pc := 18) d_Tw_become_18 fl_Tw_9 sh_1 rfl (by decide) (by decide) (by decide) ?_
  refine cj_putI (pc := 21) d_Tw_become_21 fl_Tw_9 sh_56 rfl (fun _ _ _ h => by cases h; rfl) (by decide) (by decide) (by decide) ?_
  refine mj_aload_n (pc := 24) (i := 0) d_Tw_become_24 rfl rfl (by decide) ?_
  refine mj_aload_n (pc := 25) (i := 1) d_Tw_become_25 rfl rfl (by decide) ?_
  refine cj_getI (pc := 26) d_Tw_become_26 fl_Tw_94 sh_1 rfl (by decide) (by decide) (by decide) ?_
  refine cj_putI (pc := 29) d_Tw_become_29 fl_Tw_94 sh_56 rfl (fun _ _ _ h => by cases h; rfl) (by decide) (by decide) (by decide) ?_
  refine mj_aload_n (pc := 32) (i := 0) d_Tw_become_32 rfl rfl (by decide) ?_
  refine mj_aload_n (pc := 33) (i := 1) d_Tw_become_33 rfl rfl (by decide) ?_
  refine cj_getI (pc := 34) d_Tw_become_34 fl_Tw_97 sh_1 rfl (by decide) (by decide) (by decide) ?_
  refine cj_putI (pc := 37) d_Tw_become_37 fl_Tw_97 sh_56 rfl (fun _ _ _ h => by cases h; rfl) (by decide) (by decide) (by decide) ?_
  refine mj_aload_n (pc := 40) (i := 1) d_Tw_become_40 rfl rfl (by decide) ?_
  refine mj_getR (pc := 41) d_Tw_become_41 fl_Tw_15 sh_1 rfl rfl (by decide) (by decide) (by decide) ?_
  refine mj_iconst (pc := 44) (v := 0) d_Tw_become_44 (by decide) ?_
  refine mj_aload_n (pc := 45) (i := 0) d_Tw_become_45 rfl rfl (by decide) ?_
  refine mj_getR (pc := 46) d_Tw_become_46 fl_Tw_15 sh_56 rfl rfl (by decide) (by decide) (by decide) ?_
  refine mj_iconst (pc := 49) (v := 0) d_Tw_become_49 (by decide) ?_
  refine mj_aload_n (pc := 50) (i := 0) d_Tw_become_50 rfl rfl (by decide) ?_
  refine mj_getR (pc := 51) d_Tw_become_51 fl_Tw_15 sh_56 rfl rfl (by decide) (by decide) (by decide) ?_
  refine mj_alen (pc := 54) (v := 12) d_Tw_become_54 sh_57 (by decide) (by decide) ?_
  refine cj_copy (pc := 55) d_Tw_become_55 cp_Tw_100 sh_2 sh_57 (by decide) (by decide) (by decide) (by decide) (Nat.le_of_ble_eq_true rfl) ?_
  refine mj_aload_n (pc := 58) (i := 1) d_Tw_become_58 rfl rfl (by decide) ?_
  refine mj_getR (pc := 59) d_Tw_become_59 fl_Tw_19 sh_1 rfl rfl (by decide) (by decide) (by decide) ?_
  refine mj_iconst (pc := 62) (v := 0) d_Tw_become_62 (by decide) ?_
  refine mj_aload_n (pc := 63) (i := 0) d_Tw_become_63 rfl rfl (by decide) ?_
  refine mj_getR (pc := 64) d_Tw_become_64 fl_Tw_19 sh_56 rfl rfl (by decide) (by decide) (by decide) ?_
  refine mj_iconst (pc := 67) (v := 0) d_Tw_become_67 (by decide) ?_
  refine mj_aload_n (pc := 68) (i := 0) d_Tw_become_68 rfl rfl (by decide) ?_
  refine mj_getR (pc := 69) d_Tw_become_69 fl_Tw_19 sh_56 rfl rfl (by decide) (by decide) (by decide) ?_
  refine mj_alen (pc := 72) (v := 12) d_Tw_become_72 sh_58 (by decide) (by decide) ?_
  refine cj_copy (pc := 73) d_Tw_become_73 cp_Tw_100 sh_3 sh_58 (by decide) (by decide) (by decide) (by decide) (Nat.le_of_ble_eq_true rfl) ?_
  refine mj_aload_n (pc := 76) (i := 1) d_Tw_become_76 rfl rfl (by decide) ?_
  refine mj_getR (pc := 77) d_Tw_become_77 fl_Tw_22 sh_1 rfl rfl (by decide) (by decide) (by decide) ?_
  refine mj_iconst (pc := 80) (v := 0) d_Tw_become_80 (by decide) ?_
  refine mj_aload_n (pc := 81) (i := 0) d_Tw_become_81 rfl rfl (by decide) ?_
  refine mj_getR (pc := 82) d_Tw_become_82 fl_Tw_22 sh_56 rfl rfl (by decide) (by decide) (by decide) ?_
  refine mj_iconst (pc := 85) (v := 0) d_Tw_become_85 (by decide) ?_
  refine mj_aload_n (pc := 86) (i := 0) d_Tw_become_86 rfl rfl (by decide) ?_
  refine mj_getR (pc := 87) d_Tw_become_87 fl_Tw_22 sh_56 rfl rfl (by decide) (by decide) (by decide) ?_
  refine mj_alen (pc := 90) (v := 12) d_Tw_become_90 sh_59 (by decide) (by decide) ?_
  refine cj_copy (pc := 91) d_Tw_become_91 cp_Tw_100 sh_4 sh_59 (by decide) (by decide) (by decide) (by decide) (Nat.le_of_ble_eq_true rfl) ?_
  refine mj_aload_n (pc := 94) (i := 1) d_Tw_become_94 rfl rfl (by decide) ?_
  refine mj_getR (pc := 95) d_Tw_become_95 fl_Tw_25 sh_1 rfl rfl (by decide) (by decide) (by decide) ?_
  refine mj_iconst (pc := 98) (v := 0) d_Tw_become_98 (by decide) ?_
  refine mj_aload_n (pc := 99) (i := 0) d_Tw_become_99 rfl rfl (by decide) ?_
  refine mj_getR (pc := 100) d_Tw_become_100 fl_Tw_25 sh_56 rfl rfl (by decide) (by decide) (by decide) ?_
  refine mj_iconst (pc := 103) (v := 0) d_Tw_become_103 (by decide) ?_
  refine mj_aload_n (pc := 104) (i := 0) d_Tw_become_104 rfl rfl (by decide) ?_
  refine mj_getR (pc := 105) d_Tw_become_105 fl_Tw_25 sh_56 rfl rfl (by decide) (by decide) (by decide) ?_
  refine mj_alen (pc := 108) (v := 12) d_Tw_become_108 sh_60 (by decide) (by decide) ?_
  refine cj_copy (pc := 109) d_Tw_become_109 cp_Tw_100 sh_5 sh_60 (by decide) (by decide) (by decide) (by decide) (Nat.le_of_ble_eq_true rfl) ?_
  refine mj_aload_n (pc := 112) (i := 1) d_Tw_become_112 rfl rfl (by decide) ?_
  refine mj_getR (pc := 113) d_Tw_become_113 fl_Tw_28 sh_1 rfl rfl (by decide) (by decide) (by decide) ?_
  refine mj_iconst (pc := 116) (v := 0) d_Tw_become_116 (by decide) ?_
  refine mj_aload_n (pc := 117) (i := 0) d_Tw_become_117 rfl rfl (by decide) ?_
  refine mj_getR (pc := 118) d_Tw_become_118 fl_Tw_28 sh_56 rfl rfl (by decide) (by decide) (by decide) ?_
  refine mj_iconst (pc := 121) (v := 0) d_Tw_become_121 (by decide) ?_
  refine mj_aload_n (pc := 122) (i := 0) d_Tw_become_122 rfl rfl (by decide) ?_
  refine mj_getR (pc := 123) d_Tw_become_123 fl_Tw_28 sh_56 rfl rfl (by decide) (by decide) (by decide) ?_
  refine mj_alen (pc := 126) (v := 720) d_Tw_become_126 sh_61 (by decide) (by decide) ?_
  refine cj_copy (pc := 127) d_Tw_become_127 cp_Tw_100 sh_6 sh_61 (by decide) (by decide) (by decide) (by decide) (Nat.le_of_ble_eq_true rfl) ?_
  refine mj_aload_n (pc := 130) (i := 0) d_Tw_become_130 rfl rfl (by decide) ?_
  refine mj_getR (pc := 131) d_Tw_become_131 fl_Tw_34 sh_56 rfl rfl (by decide) (by decide) (by decide) ?_
  refine mj_aload_n (pc := 134) (i := 1) d_Tw_become_134 rfl rfl (by decide) ?_
  refine mj_getR (pc := 135) d_Tw_become_135 fl_Tw_34 sh_1 rfl rfl (by decide) (by decide) (by decide) ?_
  obtain ⟨C1, hb2, h⟩ := bd1_some h
  refine mj_callV (pc := 138) (b := 62) (vs := [.ref 7]) (st := []) d_Tw_become_138 bB_Tw_become_Sk_become lk_Tw_106 iv_Sk_become rc_62 rfl (Nat.le_of_ble_eq_true rfl) (Nat.le_of_ble_eq_true rfl) (r_Sk_become_1 hb2) ?_
  show mj_R M_Tw_become 141 [some (.ref 56), some (.ref 1)] [] (SH, jn C1 D) none (SH, jn (C') D)
  refine mj_aload_n (pc := 141) (i := 0) d_Tw_become_141 rfl rfl (by decide) ?_
  refine mj_getR (pc := 142) d_Tw_become_142 fl_Tw_41 sh_56 rfl rfl (by decide) (by decide) (by decide) ?_
  refine mj_aload_n (pc := 145) (i := 1) d_Tw_become_145 rfl rfl (by decide) ?_
  refine mj_getR (pc := 146) d_Tw_become_146 fl_Tw_41 sh_1 rfl rfl (by decide) (by decide) (by decide) ?_
  obtain ⟨C3, hb4, h⟩ := bd1_some h
  refine mj_callV (pc := 149) (b := 65) (vs := [.ref 10]) (st := []) d_Tw_become_149 bB_Tw_become_Wr_become lk_Tw_110 iv_Wr_become rc_65 rfl (Nat.le_of_ble_eq_true rfl) (Nat.le_of_ble_eq_true rfl) (r_Wr_become_1 hb4) ?_
  show mj_R M_Tw_become 152 [some (.ref 56), some (.ref 1)] [] (SH, jn C3 D) none (SH, jn (C') D)
  refine mj_aload_n (pc := 152) (i := 0) d_Tw_become_152 rfl rfl (by decide) ?_
  refine mj_getR (pc := 153) d_Tw_become_153 fl_Tw_48 sh_56 rfl rfl (by decide) (by decide) (by decide) ?_
  refine mj_aload_n (pc := 156) (i := 1) d_Tw_become_156 rfl rfl (by decide) ?_
  refine mj_getR (pc := 157) d_Tw_become_157 fl_Tw_48 sh_1 rfl rfl (by decide) (by decide) (by decide) ?_
  obtain ⟨C5, hb6, h⟩ := bd1_some h
  refine mj_callV (pc := 160) (b := 67) (vs := [.ref 12]) (st := []) d_Tw_become_160 bB_Tw_become_Rl_become lk_Tw_113 iv_Rl_become rc_67 rfl (Nat.le_of_ble_eq_true rfl) (Nat.le_of_ble_eq_true rfl) (r_Rl_become_1 hb6) ?_
  show mj_R M_Tw_become 163 [some (.ref 56), some (.ref 1)] [] (SH, jn C5 D) none (SH, jn (C') D)
  refine mj_aload_n (pc := 163) (i := 0) d_Tw_become_163 rfl rfl (by decide) ?_
  refine mj_getR (pc := 164) d_Tw_become_164 fl_Tw_55 sh_56 rfl rfl (by decide) (by decide) (by decide) ?_
  refine mj_aload_n (pc := 167) (i := 1) d_Tw_become_167 rfl rfl (by decide) ?_
  refine mj_getR (pc := 168) d_Tw_become_168 fl_Tw_55 sh_1 rfl rfl (by decide) (by decide) (by decide) ?_
  obtain ⟨C7, hb8, h⟩ := bd1_some h
  refine mj_callV (pc := 171) (b := 70) (vs := [.ref 15]) (st := []) d_Tw_become_171 bB_Tw_become_Ln_become lk_Tw_116 iv_Ln_become rc_70 rfl (Nat.le_of_ble_eq_true rfl) (Nat.le_of_ble_eq_true rfl) (r_Ln_become_1 hb8) ?_
  show mj_R M_Tw_become 174 [some (.ref 56), some (.ref 1)] [] (SH, jn C7 D) none (SH, jn (C') D)
  cases h
  exact mj_vret (pc := 174) d_Tw_become_174 rfl
set_option maxRecDepth 20000 in
theorem r_Sk_become_2  {C0 D : St} {C' : St} (h : f_Sk_become_2 C0 = some (C')) : mj_R M_Sk_become 0 (mj_lv M_Sk_become.2.2.1 [.ref 78, .ref 7]) [] (SH, jn C0 D) none (SH, jn (C') D) := by
  show mj_R M_Sk_become 0 [some (.ref 78), some (.ref 7)] [] _ _ _
  unfold f_Sk_become_2 at h
  refine mj_aload_n (pc := 0) (i := 1) d_Sk_become_0 rfl rfl (by decide) ?_
  refine mj_getR (pc := 1) d_Sk_become_1 fl_Sk_9 sh_7 rfl rfl (by decide) (by decide) (by decide) ?_
  refine mj_iconst (pc := 4) (v := 0) d_Sk_become_4 (by decide) ?_
  refine mj_aload_n (pc := 5) (i := 0) d_Sk_become_5 rfl rfl (by decide) ?_
  refine mj_getR (pc := 6) d_Sk_become_6 fl_Sk_9 sh_78 rfl rfl (by decide) (by decide) (by decide) ?_
  refine mj_iconst (pc := 9) (v := 0) d_Sk_become_9 (by decide) ?_
  refine mj_aload_n (pc := 10) (i := 0) d_Sk_become_10 rfl rfl (by decide) ?_
  refine mj_getR (pc := 11) d_Sk_become_11 fl_Sk_9 sh_78 rfl rfl (by decide) (by decide) (by decide) ?_
  refine mj_alen (pc := 14) (v := 600) d_Sk_become_14 sh_79 (by decide) (by decide) ?_
  refine cj_copy (pc := 15) d_Sk_become_15 cp_Sk_34 sh_8 sh_79 (by decide) (by decide) (by decide) (by decide) (Nat.le_of_ble_eq_true rfl) ?_
  refine mj_aload_n (pc := 18) (i := 1) d_Sk_become_18 rfl rfl (by decide) ?_
  refine mj_getR (pc := 19) d_Sk_become_19 fl_Sk_15 sh_7 rfl rfl (by decide) (by decide) (by decide) ?_
  refine mj_iconst (pc := 22) (v := 0) d_Sk_become_22 (by decide) ?_
  refine mj_aload_n (pc := 23) (i := 0) d_Sk_become_23 rfl rfl (by decide) ?_
  refine mj_getR (pc := 24) d_Sk_become_24 fl_Sk_15 sh_78 rfl rfl (by decide) (by decide) (by decide) ?_
  refine mj_iconst (pc := 27) (v := 0) d_Sk_become_27 (by decide) ?_
  refine mj_aload_n (pc := 28) (i := 0) d_Sk_become_28 rfl rfl (by decide) ?_
  refine mj_getR (pc := 29) d_Sk_become_29 fl_Sk_15 sh_78 rfl rfl (by decide) (by decide) (by decide) ?_
  refine mj_alen (pc := 32) (v := 60) d_Sk_become_32 sh_80 (by decide) (by decide) ?_
  refine cj_copy (pc := 33) d_Sk_become_33 cp_Sk_34 sh_9 sh_80 (by decide) (by decide) (by decide) (by decide) (Nat.le_of_ble_eq_true rfl) ?_
  cases h
  exact mj_vret (pc := 36) d_Sk_become_36 rfl
