set_option maxRecDepth 20000 in
theorem r_Ln_close {x1 : Int32} {C0 D : St} {C' : St} (h : f_Ln_close x1 C0 = some (C')) : mj_R M_Ln_close 0 (mj_lv M_Ln_close.2.2.1 [.ref 15, .int x1]) [] (SH, jn C0 D) none (SH, jn (C') D) := by
  show mj_R M_Ln_close 0 [some (.ref 15), some (.int x1)] [] _ _ _
  unfold f_Ln_close at h
  refine mj_aload_n (pc := 0) (i := 0) d_Ln_close_0 rfl rfl (by decide) ?_
  refine mj_getR (pc := 1) d_Ln_close_1 fl_Ln_11 sh_15 rfl rfl (by decide) (by decide) (by decide) ?_
  refine mj_iload_n (pc := 4) (i := 1) d_Ln_close_4 rfl rfl ?_
  refine mj_iconst (pc := 5) (v := 4) d_Ln_close_5 (by decide) ?_
  refine mj_imul (pc := 6) d_Ln_close_6 ?_
  refine mj_iconst (pc := 7) (v := 2) d_Ln_close_7 (by decide) ?_
  refine mj_iadd (pc := 8) d_Ln_close_8 ?_
  refine mj_iconst (pc := 9) (v := 0) d_Ln_close_9 (by decide) ?_
  obtain ⟨hg1, h⟩ := mj_gd h
  refine cj_iast (pc := 10) d_Ln_close_10 sh_16 (by decide) hg1 (by decide) ?_
  cases h
  exact mj_vret (pc := 11) d_Ln_close_11 rfl
set_option maxRecDepth 20000 in
theorem l_Ln_handOutRest_2 {r : Option Value} {D y : St} : ∀ (n : Nat) (y2 : Int32) (y3 : Int32) (C : St) (Q_ : St), L_Ln_handOutRest_2 n y2 y3 C = some Q_ → mj_R M_Ln_handOutRest 62 [none, none, none, none] [] (SH, jn Q_ D) r (SH, y) → mj_R M_Ln_handOutRest 2 [some (.ref 15), some (.ref 1), some (.int y2), some (.int y3)] [] (SH, jn C D) r (SH, y) := by
  intro n
  induction n with
  | zero => intro y2 y3 C Q_ h; cases h
  | succ n ih =>
    intro y2 y3 C Q_ h hX
    unfold L_Ln_handOutRest_2 at h
    refine mj_iload_n (pc := 2) (i := 3) d_Ln_handOutRest_2 rfl rfl ?_
    refine mj_aload_n (pc := 3) (i := 0) d_Ln_handOutRest_3 rfl rfl (by decide) ?_
    refine cj_getI (pc := 4) d_Ln_handOutRest_4 fl_Ln_15 sh_15 rfl (by decide) (by decide) (by decide) ?_
    refine mj_icmp_ge (pc := 7) (tgt := 62) d_Ln_handOutRest_7 (by decide) mj_hs (fun hc1 => ?_) (fun hc1 => ?_)
    · rw [if_pos hc1] at h
      cases h
      exact mj_weak _ trivial hX
    · rw [if_neg hc1] at h
      refine mj_aload_n (pc := 10) (i := 0) d_Ln_handOutRest_10 rfl rfl (by decide) ?_
      refine mj_iload_n (pc := 11) (i := 3) d_Ln_handOutRest_11 rfl rfl ?_
      refine mj_iconst (pc := 12) (v := 1) d_Ln_handOutRest_12 (by decide) ?_
      obtain ⟨v2, hb3, h⟩ := bd1_some h
      refine mj_callV (pc := 13) (b := 15) (vs := [.int y3, .int 1]) (st := []) d_Ln_handOutRest_13 bB_Ln_handOutRest_Ln_get lk_Ln_23 iv_Ln_get rc_15 rfl (Nat.le_of_ble_eq_true rfl) (Nat.le_of_ble_eq_true rfl) (r_Ln_get hb3) ?_
      show mj_R M_Ln_handOutRest 16 [some (.ref 15), some (.ref 1), some (.int y2), some (.int y3)] [.int v2] (SH, jn C D) r (SH, y)
      refine mj_iload_n (pc := 16) (i := 2) d_Ln_handOutRest_16 rfl rfl ?_
      obtain ⟨C15, hb17, h⟩ := bd1_some h
      have k16 : mj_R M_Ln_handOutRest 56 [some (.ref 15), some (.ref 1), some (.int y2), some (.int y3)] [] (SH, jn C15 D) r (SH, y) := by
        refine mj_iinc (pc := 56) (i := 3) (v := y3 + 1) d_Ln_handOutRest_56 rfl (by rfl) rfl (by decide) ?_
        refine mj_goto (pc := 59) (tgt := 2) d_Ln_handOutRest_59 (by decide) ?_
        exact mj_weak [some (.ref 15), some (.ref 1), some (.int y2), some (.int (y3 + 1))] (And.intro rfl (And.intro rfl (And.intro rfl (And.intro rfl trivial)))) (ih _ _ _ _ h hX)
      have h := hb17
      refine mj_icmp_ne (pc := 17) (tgt := 56) d_Ln_handOutRest_17 (by decide) mj_hs (fun hc4 => ?_) (fun hc4 => ?_)
      · rw [if_neg hc4] at h
        cases h
        exact mj_weak _ (And.intro rfl (And.intro rfl (And.intro rfl (And.intro rfl trivial)))) k16
      · rw [if_pos hc4] at h
        refine mj_aload_n (pc := 20) (i := 0) d_Ln_handOutRest_20 rfl rfl (by decide) ?_
        refine mj_iload_n (pc := 21) (i := 3) d_Ln_handOutRest_21 rfl rfl ?_
        refine mj_iconst (pc := 22) (v := 2) d_Ln_handOutRest_22 (by decide) ?_
        obtain ⟨v5, hb6, h⟩ := bd1_some h
        refine mj_callV (pc := 23) (b := 15) (vs := [.int y3, .int 2]) (st := []) d_Ln_handOutRest_23 bB_Ln_handOutRest_Ln_get lk_Ln_23 iv_Ln_get rc_15 rfl (Nat.le_of_ble_eq_true rfl) (Nat.le_of_ble_eq_true rfl) (r_Ln_get hb6) ?_
        show mj_R M_Ln_handOutRest 26 [some (.ref 15), some (.ref 1), some (.int y2), some (.int y3)] [.int v5] (SH, jn C D) r (SH, y)
        refine mj_if_eq (y := 0) (pc := 26) (tgt := 56) d_Ln_handOutRest_26 (by decide) mj_hs (fun hc7 => ?_) (fun hc7 => ?_)
        · rw [if_pos hc7] at h
          cases h
          exact mj_weak _ (And.intro rfl (And.intro rfl (And.intro rfl (And.intro rfl trivial)))) k16
        · rw [if_neg hc7] at h
          refine mj_aload_n (pc := 29) (i := 1) d_Ln_handOutRest_29 rfl rfl (by decide) ?_
          refine mj_iload_n (pc := 30) (i := 2) d_Ln_handOutRest_30 rfl rfl ?_
          refine mj_aload_n (pc := 31) (i := 0) d_Ln_handOutRest_31 rfl rfl (by decide) ?_
          refine mj_iload_n (pc := 32) (i := 3) d_Ln_handOutRest_32 rfl rfl ?_
          refine mj_iconst (pc := 33) (v := 0) d_Ln_handOutRest_33 (by decide) ?_
          obtain ⟨v8, hb9, h⟩ := bd1_some h
          refine mj_callV (pc := 34) (b := 15) (vs := [.int y3, .int 0]) (st := [.int y2, .ref 1]) d_Ln_handOutRest_34 bB_Ln_handOutRest_Ln_get lk_Ln_23 iv_Ln_get rc_15 rfl (Nat.le_of_ble_eq_true rfl) (Nat.le_of_ble_eq_true rfl) (r_Ln_get hb9) ?_
          show mj_R M_Ln_handOutRest 37 [some (.ref 15), some (.ref 1), some (.int y2), some (.int y3)] [.int v8, .int y2, .ref 1] (SH, jn C D) r (SH, y)
          refine mj_iconst (pc := 37) (v := 4) d_Ln_handOutRest_37 (by decide) ?_
          refine mj_iconst (pc := 38) (v := 1) d_Ln_handOutRest_38 (by decide) ?_
          refine mj_aload_n (pc := 39) (i := 1) d_Ln_handOutRest_39 rfl rfl (by decide) ?_
          refine mj_getR (pc := 40) d_Ln_handOutRest_40 fl_Ln_39 sh_1 rfl rfl (by decide) (by decide) (by decide) ?_
          refine mj_iload_n (pc := 43) (i := 2) d_Ln_handOutRest_43 rfl rfl ?_
          obtain ⟨hg10, h⟩ := mj_gd h
          refine cj_iald (pc := 44) d_Ln_handOutRest_44 sh_3 (by decide) hg10 (by decide) ?_
          refine mj_min (pc := 45) d_Ln_handOutRest_45 mn_Ln_64 (by decide) (Nat.le_of_ble_eq_true rfl) ?_
          obtain ⟨C11, hb12, h⟩ := bd1_some h
          refine mj_callV (pc := 48) (b := 1) (vs := [.int y2, .int v8, .int 4, .int (if (C 3 y2.toNatClampNeg) < 1 then C 3 y2.toNatClampNeg else 1)]) (st := []) d_Ln_handOutRest_48 bB_Ln_handOutRest_Tw_hand lk_Ln_42 iv_Tw_hand rc_1 rfl (Nat.le_of_ble_eq_true rfl) (Nat.le_of_ble_eq_true rfl) (r_Tw_hand hb12) ?_
          show mj_R M_Ln_handOutRest 51 [some (.ref 15), some (.ref 1), some (.int y2), some (.int y3)] [] (SH, jn C11 D) r (SH, y)
          refine mj_aload_n (pc := 51) (i := 0) d_Ln_handOutRest_51 rfl rfl (by decide) ?_
          refine mj_iload_n (pc := 52) (i := 3) d_Ln_handOutRest_52 rfl rfl ?_
          obtain ⟨C13, hb14, h⟩ := bd1_some h
          refine mj_callV (pc := 53) (b := 15) (vs := [.int y3]) (st := []) d_Ln_handOutRest_53 bB_Ln_handOutRest_Ln_close lk_Ln_46 iv_Ln_close rc_15 rfl (Nat.le_of_ble_eq_true rfl) (Nat.le_of_ble_eq_true rfl) (r_Ln_close hb14) ?_
          show mj_R M_Ln_handOutRest 56 [some (.ref 15), some (.ref 1), some (.int y2), some (.int y3)] [] (SH, jn C13 D) r (SH, y)
          cases h
          exact mj_weak _ (And.intro rfl (And.intro rfl (And.intro rfl (And.intro rfl trivial)))) k16
set_option maxRecDepth 20000 in
theorem r_Ln_handOutRest {x2 : Int32} {C0 D : St} {C' : St} (h : f_Ln_handOutRest x2 C0 = some (C')) : mj_R M_Ln_handOutRest 0 (mj_lv M_Ln_handOutRest.2.2.1 [.ref 15, .ref 1, .int x2]) [] (SH, jn C0 D) none (SH, jn (C') D) := by
  show mj_R M_Ln_handOutRest 0 [some (.ref 15), some (.ref 1), some (.int x2), none] [] _ _ _
  unfold f_Ln_handOutRest at h
  refine mj_iconst (pc := 0) (v := 0) d_Ln_handOutRest_0 (by decide) ?_
  refine mj_istore_n (pc := 1) (i := 3) d_Ln_handOutRest_1 rfl rfl (by decide) ?_
  obtain ⟨C18, hl19, h⟩ := bd1_some h
  refine mj_weak [some (.ref 15), some (.ref 1), some (.int x2), some (.int 0)] (And.intro rfl (And.intro rfl (And.intro rfl (And.intro rfl trivial)))) (l_Ln_handOutRest_2 3000 _ _ _ _ hl19 ?_)
  cases h
  exact mj_vret (pc := 62) d_Ln_handOutRest_62 rfl
set_option maxRecDepth 20000 in
theorem r_Ln_settle {x2 : Int32} {x3 : Int32} {C0 D : St} {C' : St} (h : f_Ln_settle x2 x3 C0 = some (C')) : mj_R M_Ln_settle 0 (mj_lv M_Ln_settle.2.2.1 [.ref 15, .ref 1, .int x2, .int x3]) [] (SH, jn C0 D) none (SH, jn (C') D) := by
  show mj_R M_Ln_settle 0 [some (.ref 15), some (.ref 1), some (.int x2), some (.int x3)] [] _ _ _
  unfold f_Ln_settle at h
  refine mj_aload_n (pc := 0) (i := 1) d_Ln_settle_0 rfl rfl (by decide) ?_
  refine mj_getR (pc := 1) d_Ln_settle_1 fl_Ln_39 sh_1 rfl rfl (by decide) (by decide) (by decide) ?_
  refine mj_iload_n (pc := 4) (i := 3) d_Ln_settle_4 rfl rfl ?_
  obtain ⟨hg1, h⟩ := mj_gd h
  refine cj_iald (pc := 5) d_Ln_settle_5 sh_3 (by decide) hg1 (by decide) ?_
  refine mj_aload_n (pc := 6) (i := 0) d_Ln_settle_6 rfl rfl (by decide) ?_
  refine mj_iload_n (pc := 7) (i := 2) d_Ln_settle_7 rfl rfl ?_
  refine mj_iconst (pc := 8) (v := 2) d_Ln_settle_8 (by decide) ?_
  obtain ⟨v2, hb3, h⟩ := bd1_some h
  refine mj_callV (pc := 9) (b := 15) (vs := [.int x2, .int 2]) (st := [.int (C0 3 x3.toNatClampNeg)]) d_Ln_settle_9 bB_Ln_settle_Ln_get lk_Ln_23 iv_Ln_get rc_15 rfl (Nat.le_of_ble_eq_true rfl) (Nat.le_of_ble_eq_true rfl) (r_Ln_get hb3) ?_
  show mj_R M_Ln_settle 12 [some (.ref 15), some (.ref 1), some (.int x2), some (.int x3)] [.int v2, .int (C0 3 x3.toNatClampNeg)] (SH, jn C0 D) none (SH, jn (C') D)
  obtain ⟨C20, hb22, h⟩ := bd1_some h
  have k21 : mj_R M_Ln_settle 74 [none, none, none, none] [] (SH, jn C20 D) none (SH, jn (C') D) := by
    cases h
    exact mj_vret (pc := 74) d_Ln_settle_74 rfl
  have h := hb22
  refine mj_icmp_lt (pc := 12) (tgt := 41) d_Ln_settle_12 (by decide) mj_hs (fun hc4 => ?_) (fun hc4 => ?_)
  · rw [if_pos hc4] at h
    refine mj_aload_n (pc := 41) (i := 1) d_Ln_settle_41 rfl rfl (by decide) ?_
    refine mj_getR (pc := 42) d_Ln_settle_42 fl_Ln_50 sh_1 rfl rfl (by decide) (by decide) (by decide) ?_
    refine mj_iload_n (pc := 45) (i := 3) d_Ln_settle_45 rfl rfl ?_
    refine mj_iconst (pc := 46) (v := 1) d_Ln_settle_46 (by decide) ?_
    refine cj_iast (pc := 47) d_Ln_settle_47 sh_4 (by decide) hg1 (by decide) ?_
    refine mj_aload_n (pc := 48) (i := 0) d_Ln_settle_48 rfl rfl (by decide) ?_
    refine mj_aload_n (pc := 49) (i := 1) d_Ln_settle_49 rfl rfl (by decide) ?_
    refine mj_iload_n (pc := 50) (i := 3) d_Ln_settle_50 rfl rfl ?_
    refine mj_aload_n (pc := 51) (i := 1) d_Ln_settle_51 rfl rfl (by decide) ?_
    refine mj_getR (pc := 52) d_Ln_settle_52 fl_Ln_39 sh_1 rfl rfl (by decide) (by decide) (by decide) ?_
    refine mj_iload_n (pc := 55) (i := 3) d_Ln_settle_55 rfl rfl ?_
    refine cj_iald (pc := 56) d_Ln_settle_56 sh_3 (by decide) hg1 (by decide) ?_
    refine mj_i2l (pc := 57) d_Ln_settle_57 ?_
    refine mj_aload_n (pc := 58) (i := 0) d_Ln_settle_58 rfl rfl (by decide) ?_
    refine mj_iconst (pc := 59) (v := 1) d_Ln_settle_59 (by decide) ?_
    refine mj_iload_n (pc := 60) (i := 3) d_Ln_settle_60 rfl rfl ?_
    obtain ⟨v6, hb7, h⟩ := bd1_some h
    refine mj_callV (pc := 61) (b := 15) (vs := [.int 1, .int x3]) (st := [.long ((mj_wr C0 4 (x3.toNatClampNeg) 1 3 x3.toNatClampNeg).toInt64), .int x3, .ref 1, .ref 15]) d_Ln_settle_61 bB_Ln_settle_Ln_owedWhere lk_Ln_53 iv_Ln_owedWhere rc_15 rfl (Nat.le_of_ble_eq_true rfl) (Nat.le_of_ble_eq_true rfl) (r_Ln_owedWhere hb7) ?_
    show mj_R M_Ln_settle 64 [some (.ref 15), some (.ref 1), some (.int x2), some (.int x3)] [.int v6, .long ((mj_wr C0 4 (x3.toNatClampNeg) 1 3 x3.toNatClampNeg).toInt64), .int x3, .ref 1, .ref 15] (SH, jn (mj_wr C0 4 (x3.toNatClampNeg) 1) D) none (SH, jn (C') D)
    refine mj_i2l (pc := 64) d_Ln_settle_64 ?_
    obtain ⟨C8, hb9, h⟩ := bd1_some h
    refine mj_callV (pc := 65) (b := 15) (vs := [.ref 1, .int x3, .long ((mj_wr C0 4 (x3.toNatClampNeg) 1 3 x3.toNatClampNeg).toInt64), .long (v6.toInt64)]) (st := []) d_Ln_settle_65 bB_Ln_settle_Ln_shareOut lk_Ln_56 iv_Ln_shareOut rc_15 rfl (Nat.le_of_ble_eq_true rfl) (Nat.le_of_ble_eq_true rfl) (r_Ln_shareOut hb9) ?_
    show mj_R M_Ln_settle 68 [some (.ref 15), some (.ref 1), some (.int x2), some (.int x3)] [] (SH, jn C8 D) none (SH, jn (C') D)
    refine mj_aload_n (pc := 68) (i := 0) d_Ln_settle_68 rfl rfl (by decide) ?_
    refine mj_aload_n (pc := 69) (i := 1) d_Ln_settle_69 rfl rfl (by decide) ?_
    refine mj_iload_n (pc := 70) (i := 3) d_Ln_settle_70 rfl rfl ?_
    obtain ⟨C10, hb11, h⟩ := bd1_some h
    refine mj_callV (pc := 71) (b := 15) (vs := [.ref 1, .int x3]) (st := []) d_Ln_settle_71 bB_Ln_settle_Ln_handOutRest lk_Ln_60 iv_Ln_handOutRest rc_15 rfl (Nat.le_of_ble_eq_true rfl) (Nat.le_of_ble_eq_true rfl) (r_Ln_handOutRest hb11) ?_
    show mj_R M_Ln_settle 74 [some (.ref 15), some (.ref 1), some (.int x2), some (.int x3)] [] (SH, jn C10 D) none (SH, jn (C') D)
    cases h
    exact mj_weak _ trivial k21
  · rw [if_neg hc4] at h
    refine mj_aload_n (pc := 15) (i := 1) d_Ln_settle_15 rfl rfl (by decide) ?_
    refine mj_iload_n (pc := 16) (i := 3) d_Ln_settle_16 rfl rfl ?_
    refine mj_aload_n (pc := 17) (i := 0) d_Ln_settle_17 rfl rfl (by decide) ?_
    refine mj_iload_n (pc := 18) (i := 2) d_Ln_settle_18 rfl rfl ?_
    refine mj_iconst (pc := 19) (v := 0) d_Ln_settle_19 (by decide) ?_
    obtain ⟨v12, hb13, h⟩ := bd1_some h
    refine mj_callV (pc := 20) (b := 15) (vs := [.int x2, .int 0]) (st := [.int x3, .ref 1]) d_Ln_settle_20 bB_Ln_settle_Ln_get lk_Ln_23 iv_Ln_get rc_15 rfl (Nat.le_of_ble_eq_true rfl) (Nat.le_of_ble_eq_true rfl) (r_Ln_get hb13) ?_
    show mj_R M_Ln_settle 23 [some (.ref 15), some (.ref 1), some (.int x2), some (.int x3)] [.int v12, .int x3, .ref 1] (SH, jn C0 D) none (SH, jn (C') D)
    refine mj_iconst (pc := 23) (v := 4) d_Ln_settle_23 (by decide) ?_
    refine mj_aload_n (pc := 24) (i := 0) d_Ln_settle_24 rfl rfl (by decide) ?_
    refine mj_iload_n (pc := 25) (i := 2) d_Ln_settle_25 rfl rfl ?_
    refine mj_iconst (pc := 26) (v := 2) d_Ln_settle_26 (by decide) ?_
    obtain ⟨v14, hb15, h⟩ := bd1_some h
    refine mj_callV (pc := 27) (b := 15) (vs := [.int x2, .int 2]) (st := [.int 4, .int v12, .int x3, .ref 1]) d_Ln_settle_27 bB_Ln_settle_Ln_get lk_Ln_23 iv_Ln_get rc_15 rfl (Nat.le_of_ble_eq_true rfl) (Nat.le_of_ble_eq_true rfl) (r_Ln_get hb15) ?_
    show mj_R M_Ln_settle 30 [some (.ref 15), some (.ref 1), some (.int x2), some (.int x3)] [.int v14, .int 4, .int v12, .int x3, .ref 1] (SH, jn C0 D) none (SH, jn (C') D)
    obtain ⟨C16, hb17, h⟩ := bd1_some h
    refine mj_callV (pc := 30) (b := 1) (vs := [.int x3, .int v12, .int 4, .int v14]) (st := []) d_Ln_settle_30 bB_Ln_settle_Tw_hand lk_Ln_42 iv_Tw_hand rc_1 rfl (Nat.le_of_ble_eq_true rfl) (Nat.le_of_ble_eq_true rfl) (r_Tw_hand hb17) ?_
    show mj_R M_Ln_settle 33 [some (.ref 15), some (.ref 1), some (.int x2), some (.int x3)] [] (SH, jn C16 D) none (SH, jn (C') D)
    refine mj_aload_n (pc := 33) (i := 0) d_Ln_settle_33 rfl rfl (by decide) ?_
    refine mj_iload_n (pc := 34) (i := 2) d_Ln_settle_34 rfl rfl ?_
    obtain ⟨C18, hb19, h⟩ := bd1_some h
    refine mj_callV (pc := 35) (b := 15) (vs := [.int x2]) (st := []) d_Ln_settle_35 bB_Ln_settle_Ln_close lk_Ln_46 iv_Ln_close rc_15 rfl (Nat.le_of_ble_eq_true rfl) (Nat.le_of_ble_eq_true rfl) (r_Ln_close hb19) ?_
    show mj_R M_Ln_settle 38 [some (.ref 15), some (.ref 1), some (.int x2), some (.int x3)] [] (SH, jn C18 D) none (SH, jn (C') D)
    refine mj_goto (pc := 38) (tgt := 74) d_Ln_settle_38 (by decide) ?_
    cases h
    exact mj_weak _ trivial k21
set_option maxRecDepth 20000 in
theorem l_Ln_forgetClosed_4 {r : Option Value} {D y : St} : ∀ (n : Nat) (y1 : Int32) (y2 : Int32) (C : St) (o1_ : Int32) (Q_ : St), L_Ln_forgetClosed_4 n y1 y2 C = some (o1_, Q_) → mj_R M_Ln_forgetClosed 48 [some (.ref 15), some (.int o1_), none] [] (SH, jn Q_ D) r (SH, y) → mj_R M_Ln_forgetClosed 4 [some (.ref 15), some (.int y1), some (.int y2)] [] (SH, jn C D) r (SH, y) := by
  intro n
  induction n with
  | zero => intro y1 y2 C o1_ Q_ h; cases h
  | succ n ih =>
    intro y1 y2 C o1_ Q_ h hX
    unfold L_Ln_forgetClosed_4 at h
    refine mj_iload_n (pc := 4) (i := 2) d_Ln_forgetClosed_4 rfl rfl ?_
    refine mj_aload_n (pc := 5) (i := 0) d_Ln_forgetClosed_5 rfl rfl (by decide) ?_
    refine cj_getI (pc := 6) d_Ln_forgetClosed_6 fl_Ln_15 sh_15 rfl (by decide) (by decide) (by decide) ?_
    refine mj_icmp_ge (pc := 9) (tgt := 48) d_Ln_forgetClosed_9 (by decide) mj_hs (fun hc1 => ?_) (fun hc1 => ?_)
    · rw [if_pos hc1] at h
      cases h
      exact mj_weak _ (And.intro rfl (And.intro rfl trivial)) hX
    · rw [if_neg hc1] at h
      refine mj_aload_n (pc := 12) (i := 0) d_Ln_forgetClosed_12 rfl rfl (by decide) ?_
      refine mj_iload_n (pc := 13) (i := 2) d_Ln_forgetClosed_13 rfl rfl ?_
      refine mj_iconst (pc := 14) (v := 2) d_Ln_forgetClosed_14 (by decide) ?_
      obtain ⟨v2, hb3, h⟩ := bd1_some h
      refine mj_callV (pc := 15) (b := 15) (vs := [.int y2, .int 2]) (st := []) d_Ln_forgetClosed_15 bB_Ln_forgetClosed_Ln_get lk_Ln_23 iv_Ln_get rc_15 rfl (Nat.le_of_ble_eq_true rfl) (Nat.le_of_ble_eq_true rfl) (r_Ln_get hb3) ?_
      show mj_R M_Ln_forgetClosed 18 [some (.ref 15), some (.int y1), some (.int y2)] [.int v2] (SH, jn C D) r (SH, y)
      obtain ⟨w6, C7, hb9, h⟩ := bd2_some h
      have k8 : mj_R M_Ln_forgetClosed 42 [some (.ref 15), some (.int w6), some (.int y2)] [] (SH, jn C7 D) r (SH, y) := by
        refine mj_iinc (pc := 42) (i := 2) (v := y2 + 1) d_Ln_forgetClosed_42 rfl (by rfl) rfl (by decide) ?_
        refine mj_goto (pc := 45) (tgt := 4) d_Ln_forgetClosed_45 (by decide) ?_
        exact mj_weak [some (.ref 15), some (.int w6), some (.int (y2 + 1))] (And.intro rfl (And.intro rfl (And.intro rfl trivial))) (ih _ _ _ _ _ h hX)
      have h := hb9
      refine mj_if_eq (y := 0) (pc := 18) (tgt := 42) d_Ln_forgetClosed_18 (by decide) mj_hs (fun hc4 => ?_) (fun hc4 => ?_)
      · rw [if_pos hc4] at h
        cases h
        exact mj_weak _ (And.intro rfl (And.intro rfl (And.intro rfl trivial))) k8
      · rw [if_neg hc4] at h
        refine mj_aload_n (pc := 21) (i := 0) d_Ln_forgetClosed_21 rfl rfl (by decide) ?_
        refine mj_getR (pc := 22) d_Ln_forgetClosed_22 fl_Ln_11 sh_15 rfl rfl (by decide) (by decide) (by decide) ?_
        refine mj_iload_n (pc := 25) (i := 2) d_Ln_forgetClosed_25 rfl rfl ?_
        refine mj_iconst (pc := 26) (v := 4) d_Ln_forgetClosed_26 (by decide) ?_
        refine mj_imul (pc := 27) d_Ln_forgetClosed_27 ?_
        refine mj_aload_n (pc := 28) (i := 0) d_Ln_forgetClosed_28 rfl rfl (by decide) ?_
        refine mj_getR (pc := 29) d_Ln_forgetClosed_29 fl_Ln_11 sh_15 rfl rfl (by decide) (by decide) (by decide) ?_
        refine mj_iload_n (pc := 32) (i := 1) d_Ln_forgetClosed_32 rfl rfl ?_
        refine mj_iconst (pc := 33) (v := 4) d_Ln_forgetClosed_33 (by decide) ?_
        refine mj_imul (pc := 34) d_Ln_forgetClosed_34 ?_
        refine mj_iconst (pc := 35) (v := 4) d_Ln_forgetClosed_35 (by decide) ?_
        obtain ⟨hg5, h⟩ := mj_gd h
        refine cj_copy (pc := 36) d_Ln_forgetClosed_36 cp_Ln_69 sh_16 sh_16 (by decide) (by decide) hg5 (by decide) (Nat.le_of_ble_eq_true rfl) ?_
        refine mj_iinc (pc := 39) (i := 1) (v := y1 + 1) d_Ln_forgetClosed_39 rfl (by rfl) rfl (by decide) ?_
        cases h
        exact mj_weak _ (And.intro rfl (And.intro rfl (And.intro rfl trivial))) k8
set_option maxRecDepth 20000 in
theorem r_Ln_forgetClosed  {C0 D : St} {C' : St} (h : f_Ln_forgetClosed C0 = some (C')) : mj_R M_Ln_forgetClosed 0 (mj_lv M_Ln_forgetClosed.2.2.1 [.ref 15]) [] (SH, jn C0 D) none (SH, jn (C') D) := by
  show mj_R M_Ln_forgetClosed 0 [some (.ref 15), none, none] [] _ _ _
  unfold f_Ln_forgetClosed at h
  refine mj_iconst (pc := 0) (v := 0) d_Ln_forgetClosed_0 (by decide) ?_
  refine mj_istore_n (pc := 1) (i := 1) d_Ln_forgetClosed_1 rfl rfl (by decide) ?_
  refine mj_iconst (pc := 2) (v := 0) d_Ln_forgetClosed_2 (by decide) ?_
  refine mj_istore_n (pc := 3) (i := 2) d_Ln_forgetClosed_3 rfl rfl (by decide) ?_
  obtain ⟨o10, C11, hl12, h⟩ := bd2_some h
  refine mj_weak [some (.ref 15), some (.int 0), some (.int 0)] (And.intro rfl (And.intro rfl (And.intro rfl trivial))) (l_Ln_forgetClosed_4 3000 _ _ _ _ _ hl12 ?_)
  refine mj_aload_n (pc := 48) (i := 0) d_Ln_forgetClosed_48 rfl rfl (by decide) ?_
  refine mj_iload_n (pc := 49) (i := 1) d_Ln_forgetClosed_49 rfl rfl ?_
  refine cj_putI (pc := 50) d_Ln_forgetClosed_50 fl_Ln_15 sh_15 rfl (fun _ _ _ h => by cases h; rfl) (by decide) (by decide) (by decide) ?_
  cases h
  exact mj_vret (pc := 53) d_Ln_forgetClosed_53 rfl
set_option maxRecDepth 20000 in
theorem l_Ln_fallDue_2 {r : Option Value} {D y : St} : ∀ (n : Nat) (y2 : Int32) (C : St) (Q_ : St), L_Ln_fallDue_2 n y2 C = some Q_ → mj_R M_Ln_fallDue 50 [some (.ref 15), none, none] [] (SH, jn Q_ D) r (SH, y) → mj_R M_Ln_fallDue 2 [some (.ref 15), some (.ref 1), some (.int y2)] [] (SH, jn C D) r (SH, y) := by
  intro n
  induction n with
  | zero => intro y2 C Q_ h; cases h
  | succ n ih =>
    intro y2 C Q_ h hX
    unfold L_Ln_fallDue_2 at h
    refine mj_iload_n (pc := 2) (i := 2) d_Ln_fallDue_2 rfl rfl ?_
    refine mj_aload_n (pc := 3) (i := 0) d_Ln_fallDue_3 rfl rfl (by decide) ?_
    refine cj_getI (pc := 4) d_Ln_fallDue_4 fl_Ln_15 sh_15 rfl (by decide) (by decide) (by decide) ?_
    refine mj_icmp_ge (pc := 7) (tgt := 50) d_Ln_fallDue_7 (by decide) mj_hs (fun hc1 => ?_) (fun hc1 => ?_)
    · rw [if_pos hc1] at h
      cases h
      exact mj_weak _ (And.intro rfl trivial) hX
    · rw [if_neg hc1] at h
      refine mj_aload_n (pc := 10) (i := 0) d_Ln_fallDue_10 rfl rfl (by decide) ?_
      refine mj_iload_n (pc := 11) (i := 2) d_Ln_fallDue_11 rfl rfl ?_
      refine mj_iconst (pc := 12) (v := 2) d_Ln_fallDue_12 (by decide) ?_
      obtain ⟨v2, hb3, h⟩ := bd1_some h
      refine mj_callV (pc := 13) (b := 15) (vs := [.int y2, .int 2]) (st := []) d_Ln_fallDue_13 bB_Ln_fallDue_Ln_get lk_Ln_23 iv_Ln_get rc_15 rfl (Nat.le_of_ble_eq_true rfl) (Nat.le_of_ble_eq_true rfl) (r_Ln_get hb3) ?_
      show mj_R M_Ln_fallDue 16 [some (.ref 15), some (.ref 1), some (.int y2)] [.int v2] (SH, jn C D) r (SH, y)
      obtain ⟨C12, hb14, h⟩ := bd1_some h
      have k13 : mj_R M_Ln_fallDue 44 [some (.ref 15), some (.ref 1), some (.int y2)] [] (SH, jn C12 D) r (SH, y) := by
        refine mj_iinc (pc := 44) (i := 2) (v := y2 + 1) d_Ln_fallDue_44 rfl (by rfl) rfl (by decide) ?_
        refine mj_goto (pc := 47) (tgt := 2) d_Ln_fallDue_47 (by decide) ?_
        exact mj_weak [some (.ref 15), some (.ref 1), some (.int (y2 + 1))] (And.intro rfl (And.intro rfl (And.intro rfl trivial))) (ih _ _ _ h hX)
      have h := hb14
      refine mj_if_eq (y := 0) (pc := 16) (tgt := 44) d_Ln_fallDue_16 (by decide) mj_hs (fun hc4 => ?_) (fun hc4 => ?_)
      · rw [if_pos hc4] at h
        cases h
        exact mj_weak _ (And.intro rfl (And.intro rfl (And.intro rfl trivial))) k13
      · rw [if_neg hc4] at h
        refine mj_aload_n (pc := 19) (i := 0) d_Ln_fallDue_19 rfl rfl (by decide) ?_
        refine mj_iload_n (pc := 20) (i := 2) d_Ln_fallDue_20 rfl rfl ?_
        refine mj_iconst (pc := 21) (v := 3) d_Ln_fallDue_21 (by decide) ?_
        obtain ⟨v5, hb6, h⟩ := bd1_some h
        refine mj_callV (pc := 22) (b := 15) (vs := [.int y2, .int 3]) (st := []) d_Ln_fallDue_22 bB_Ln_fallDue_Ln_get lk_Ln_23 iv_Ln_get rc_15 rfl (Nat.le_of_ble_eq_true rfl) (Nat.le_of_ble_eq_true rfl) (r_Ln_get hb6) ?_
        show mj_R M_Ln_fallDue 25 [some (.ref 15), some (.ref 1), some (.int y2)] [.int v5] (SH, jn C D) r (SH, y)
        refine mj_aload_n (pc := 25) (i := 1) d_Ln_fallDue_25 rfl rfl (by decide) ?_
        refine cj_getI (pc := 26) d_Ln_fallDue_26 fl_Ln_27 sh_1 rfl (by decide) (by decide) (by decide) ?_
        refine mj_icmp_ne (pc := 29) (tgt := 44) d_Ln_fallDue_29 (by decide) mj_hs (fun hc7 => ?_) (fun hc7 => ?_)
        · rw [if_neg hc7] at h
          cases h
          exact mj_weak _ (And.intro rfl (And.intro rfl (And.intro rfl trivial))) k13
        · rw [if_pos hc7] at h
          refine mj_aload_n (pc := 32) (i := 0) d_Ln_fallDue_32 rfl rfl (by decide) ?_
          refine mj_aload_n (pc := 33) (i := 1) d_Ln_fallDue_33 rfl rfl (by decide) ?_
          refine mj_iload_n (pc := 34) (i := 2) d_Ln_fallDue_34 rfl rfl ?_
          refine mj_aload_n (pc := 35) (i := 0) d_Ln_fallDue_35 rfl rfl (by decide) ?_
          refine mj_iload_n (pc := 36) (i := 2) d_Ln_fallDue_36 rfl rfl ?_
          refine mj_iconst (pc := 37) (v := 1) d_Ln_fallDue_37 (by decide) ?_
          obtain ⟨v8, hb9, h⟩ := bd1_some h
          refine mj_callV (pc := 38) (b := 15) (vs := [.int y2, .int 1]) (st := [.int y2, .ref 1, .ref 15]) d_Ln_fallDue_38 bB_Ln_fallDue_Ln_get lk_Ln_23 iv_Ln_get rc_15 rfl (Nat.le_of_ble_eq_true rfl) (Nat.le_of_ble_eq_true rfl) (r_Ln_get hb9) ?_
          show mj_R M_Ln_fallDue 41 [some (.ref 15), some (.ref 1), some (.int y2)] [.int v8, .int y2, .ref 1, .ref 15] (SH, jn C D) r (SH, y)
          obtain ⟨C10, hb11, h⟩ := bd1_some h
          refine mj_callV (pc := 41) (b := 15) (vs := [.ref 1, .int y2, .int v8]) (st := []) d_Ln_fallDue_41 bB_Ln_fallDue_Ln_settle lk_Ln_32 iv_Ln_settle rc_15 rfl (Nat.le_of_ble_eq_true rfl) (Nat.le_of_ble_eq_true rfl) (r_Ln_settle hb11) ?_
          show mj_R M_Ln_fallDue 44 [some (.ref 15), some (.ref 1), some (.int y2)] [] (SH, jn C10 D) r (SH, y)
          cases h
          exact mj_weak _ (And.intro rfl (And.intro rfl (And.intro rfl trivial))) k13
set_option maxRecDepth 20000 in
theorem r_Ln_fallDue  {C0 D : St} {C' : St} (h : f_Ln_fallDue C0 = some (C')) : mj_R M_Ln_fallDue 0 (mj_lv M_Ln_fallDue.2.2.1 [.ref 15, .ref 1]) [] (SH, jn C0 D) none (SH, jn (C') D) := by
  show mj_R M_Ln_fallDue 0 [some (.ref 15), some (.ref 1), none] [] _ _ _
  unfold f_Ln_fallDue at h
  refine mj_iconst (pc := 0) (v := 0) d_Ln_fallDue_0 (by decide) ?_
  refine mj_istore_n (pc := 1) (i := 2) d_Ln_fallDue_1 rfl rfl (by decide) ?_
  obtain ⟨C15, hl16, h⟩ := bd1_some h
  refine mj_weak [some (.ref 15), some (.ref 1), some (.int 0)] (And.intro rfl (And.intro rfl (And.intro rfl trivial))) (l_Ln_fallDue_2 3000 _ _ _ hl16 ?_)
  refine mj_aload_n (pc := 50) (i := 0) d_Ln_fallDue_50 rfl rfl (by decide) ?_
  obtain ⟨C17, hb18, h⟩ := bd1_some h
  refine mj_callV (pc := 51) (b := 15) (vs := []) (st := []) d_Ln_fallDue_51 bB_Ln_fallDue_Ln_forgetClosed lk_Ln_36 iv_Ln_forgetClosed rc_15 rfl (Nat.le_of_ble_eq_true rfl) (Nat.le_of_ble_eq_true rfl) (r_Ln_forgetClosed hb18) ?_
  show mj_R M_Ln_fallDue 54 [some (.ref 15), none, none] [] (SH, jn C17 D) none (SH, jn (C') D)
  cases h
  exact mj_vret (pc := 54) d_Ln_fallDue_54 rfl
set_option maxRecDepth 20000 in
theorem l_Sk_shiftAges_28 {r : Option Value} {D y : St} : ∀ (n : Nat) (y1 : Int32) (y3 : Int32) (C : St) (Q_ : St), L_Sk_shiftAges_28 n y1 y3 C = some Q_ → mj_R M_Sk_shiftAges 53 [some (.ref 7), some (.int y1), none, none] [] (SH, jn Q_ D) r (SH, y) → mj_R M_Sk_shiftAges 28 [some (.ref 7), some (.int y1), none, some (.int y3)] [] (SH, jn C D) r (SH, y) := by
  intro n
  induction n with
  | zero => intro y1 y3 C Q_ h; cases h
  | succ n ih =>
    intro y1 y3 C Q_ h hX
    unfold L_Sk_shiftAges_28 at h
    refine mj_iload_n (pc := 28) (i := 3) d_Sk_shiftAges_28 rfl rfl ?_
    refine mj_iload_n (pc := 29) (i := 1) d_Sk_shiftAges_29 rfl rfl ?_
    refine mj_icmp_le (pc := 30) (tgt := 53) d_Sk_shiftAges_30 (by decide) mj_hs (fun hc3 => ?_) (fun hc3 => ?_)
    · rw [if_pos hc3] at h
      cases h
      exact mj_weak _ (And.intro rfl (And.intro rfl trivial)) hX
    · rw [if_neg hc3] at h
      refine mj_aload_n (pc := 33) (i := 0) d_Sk_shiftAges_33 rfl rfl (by decide) ?_
      refine mj_getR (pc := 34) d_Sk_shiftAges_34 fl_Sk_9 sh_7 rfl rfl (by decide) (by decide) (by decide) ?_
      refine mj_iload_n (pc := 37) (i := 3) d_Sk_shiftAges_37 rfl rfl ?_
      refine mj_aload_n (pc := 38) (i := 0) d_Sk_shiftAges_38 rfl rfl (by decide) ?_
      refine mj_getR (pc := 39) d_Sk_shiftAges_39 fl_Sk_9 sh_7 rfl rfl (by decide) (by decide) (by decide) ?_
      refine mj_iload_n (pc := 42) (i := 3) d_Sk_shiftAges_42 rfl rfl ?_
      refine mj_iconst (pc := 43) (v := 1) d_Sk_shiftAges_43 (by decide) ?_
      refine mj_isub (pc := 44) d_Sk_shiftAges_44 ?_
      obtain ⟨hg4, h⟩ := mj_gd h
      refine cj_iald (pc := 45) d_Sk_shiftAges_45 sh_8 (by decide) hg4 (by decide) ?_
      obtain ⟨hg5, h⟩ := mj_gd h
      refine cj_iast (pc := 46) d_Sk_shiftAges_46 sh_8 (by decide) hg5 (by decide) ?_
      refine mj_iinc (pc := 47) (i := 3) (v := y3 + (-1)) d_Sk_shiftAges_47 rfl (by rfl) rfl (by decide) ?_
      refine mj_goto (pc := 50) (tgt := 28) d_Sk_shiftAges_50 (by decide) ?_
      exact mj_weak [some (.ref 7), some (.int y1), none, some (.int (y3 + (-1)))] (And.intro rfl (And.intro rfl (And.intro rfl trivial))) (ih _ _ _ _ h hX)
set_option maxRecDepth 20000 in
theorem r_Sk_shiftAges {x1 : Int32} {C0 D : St} {C' : St} (h : f_Sk_shiftAges x1 C0 = some (C')) : mj_R M_Sk_shiftAges 0 (mj_lv M_Sk_shiftAges.2.2.1 [.ref 7, .int x1]) [] (SH, jn C0 D) none (SH, jn (C') D) := by
  show mj_R M_Sk_shiftAges 0 [some (.ref 7), some (.int x1), none, none] [] _ _ _
  unfold f_Sk_shiftAges at h
  refine mj_iload_n (pc := 0) (i := 1) d_Sk_shiftAges_0 rfl rfl ?_
  refine mj_bipush (pc := 1) (v := 10) d_Sk_shiftAges_1 (by decide) ?_
  refine mj_iadd (pc := 3) d_Sk_shiftAges_3 ?_
  refine mj_iconst (pc := 4) (v := 1) d_Sk_shiftAges_4 (by decide) ?_
  refine mj_isub (pc := 5) d_Sk_shiftAges_5 ?_
  refine mj_istore_n (pc := 6) (i := 2) d_Sk_shiftAges_6 rfl rfl (by decide) ?_
  refine mj_aload_n (pc := 7) (i := 0) d_Sk_shiftAges_7 rfl rfl (by decide) ?_
  refine mj_getR (pc := 8) d_Sk_shiftAges_8 fl_Sk_9 sh_7 rfl rfl (by decide) (by decide) (by decide) ?_
  refine mj_iload_n (pc := 11) (i := 2) d_Sk_shiftAges_11 rfl rfl ?_
  refine mj_dup2 (pc := 12) d_Sk_shiftAges_12 rfl rfl ?_
  obtain ⟨hg1, h⟩ := mj_gd h
  refine cj_iald (pc := 13) d_Sk_shiftAges_13 sh_8 (by decide) hg1 (by decide) ?_
  refine mj_aload_n (pc := 14) (i := 0) d_Sk_shiftAges_14 rfl rfl (by decide) ?_
  refine mj_getR (pc := 15) d_Sk_shiftAges_15 fl_Sk_9 sh_7 rfl rfl (by decide) (by decide) (by decide) ?_
  refine mj_iload_n (pc := 18) (i := 2) d_Sk_shiftAges_18 rfl rfl ?_
  refine mj_iconst (pc := 19) (v := 1) d_Sk_shiftAges_19 (by decide) ?_
  refine mj_isub (pc := 20) d_Sk_shiftAges_20 ?_
  obtain ⟨hg2, h⟩ := mj_gd h
  refine cj_iald (pc := 21) d_Sk_shiftAges_21 sh_8 (by decide) hg2 (by decide) ?_
  refine mj_iadd (pc := 22) d_Sk_shiftAges_22 ?_
  refine cj_iast (pc := 23) d_Sk_shiftAges_23 sh_8 (by decide) hg1 (by decide) ?_
  refine mj_iload_n (pc := 24) (i := 2) d_Sk_shiftAges_24 rfl rfl ?_
  refine mj_iconst (pc := 25) (v := 1) d_Sk_shiftAges_25 (by decide) ?_
  refine mj_isub (pc := 26) d_Sk_shiftAges_26 ?_
  refine mj_istore_n (pc := 27) (i := 3) d_Sk_shiftAges_27 rfl rfl (by decide) ?_
  obtain ⟨C6, hl7, h⟩ := bd1_some h
  refine mj_weak [some (.ref 7), some (.int x1), none, some (.int (((x1 + 10) - 1) - 1))] (And.intro rfl (And.intro rfl (And.intro rfl trivial))) (l_Sk_shiftAges_28 3000 _ _ _ _ hl7 ?_)
  refine mj_aload_n (pc := 53) (i := 0) d_Sk_shiftAges_53 rfl rfl (by decide) ?_
  refine mj_getR (pc := 54) d_Sk_shiftAges_54 fl_Sk_9 sh_7 rfl rfl (by decide) (by decide) (by decide) ?_
  refine mj_iload_n (pc := 57) (i := 1) d_Sk_shiftAges_57 rfl rfl ?_
  refine mj_iconst (pc := 58) (v := 0) d_Sk_shiftAges_58 (by decide) ?_
  obtain ⟨hg8, h⟩ := mj_gd h
  refine cj_iast (pc := 59) d_Sk_shiftAges_59 sh_8 (by decide) hg8 (by decide) ?_
  cases h
  exact mj_vret (pc := 60) d_Sk_shiftAges_60 rfl
set_option maxRecDepth 20000 in
theorem l_Sk_takeFromAge_5 {r : Option Value} {D y : St} : ∀ (n : Nat) (y1 : Int32) (y3 : Int32) (y4 : Int32) (C : St) (o3_ : Int32) (Q_ : St), L_Sk_takeFromAge_5 n y1 y3 y4 C = some (o3_, Q_) → mj_R M_Sk_takeFromAge 40 [none, none, none, some (.int o3_), none] [] (SH, jn Q_ D) r (SH, y) → mj_R M_Sk_takeFromAge 5 [some (.ref 7), some (.int y1), none, some (.int y3), some (.int y4)] [] (SH, jn C D) r (SH, y) := by
  intro n
  induction n with
  | zero => intro y1 y3 y4 C o3_ Q_ h; cases h
  | succ n ih =>
    intro y1 y3 y4 C o3_ Q_ h hX
    unfold L_Sk_takeFromAge_5 at h
    refine mj_iload (pc := 5) (i := 4) d_Sk_takeFromAge_5 rfl ?_
    refine mj_bipush (pc := 7) (v := 10) d_Sk_takeFromAge_7 (by decide) ?_
    refine mj_icmp_ge (pc := 9) (tgt := 40) d_Sk_takeFromAge_9 (by decide) mj_hs (fun hc1 => ?_) (fun hc1 => ?_)
    · rw [if_pos hc1] at h
      cases h
      exact mj_weak _ (And.intro rfl trivial) hX
    · rw [if_neg hc1] at h
      refine mj_iload_n (pc := 12) (i := 3) d_Sk_takeFromAge_12 rfl rfl ?_
      refine mj_aload_n (pc := 13) (i := 0) d_Sk_takeFromAge_13 rfl rfl (by decide) ?_
      refine mj_getR (pc := 14) d_Sk_takeFromAge_14 fl_Sk_9 sh_7 rfl rfl (by decide) (by decide) (by decide) ?_
      refine mj_iload_n (pc := 17) (i := 1) d_Sk_takeFromAge_17 rfl rfl ?_
      refine mj_iload (pc := 18) (i := 4) d_Sk_takeFromAge_18 rfl ?_
      refine mj_iadd (pc := 20) d_Sk_takeFromAge_20 ?_
      obtain ⟨hg2, h⟩ := mj_gd h
      refine cj_iald (pc := 21) d_Sk_takeFromAge_21 sh_8 (by decide) hg2 (by decide) ?_
      refine mj_iadd (pc := 22) d_Sk_takeFromAge_22 ?_
      refine mj_istore_n (pc := 23) (i := 3) d_Sk_takeFromAge_23 rfl rfl (by decide) ?_
      refine mj_aload_n (pc := 24) (i := 0) d_Sk_takeFromAge_24 rfl rfl (by decide) ?_
      refine mj_getR (pc := 25) d_Sk_takeFromAge_25 fl_Sk_9 sh_7 rfl rfl (by decide) (by decide) (by decide) ?_
      refine mj_iload_n (pc := 28) (i := 1) d_Sk_takeFromAge_28 rfl rfl ?_
      refine mj_iload (pc := 29) (i := 4) d_Sk_takeFromAge_29 rfl ?_
      refine mj_iadd (pc := 31) d_Sk_takeFromAge_31 ?_
      refine mj_iconst (pc := 32) (v := 0) d_Sk_takeFromAge_32 (by decide) ?_
      refine cj_iast (pc := 33) d_Sk_takeFromAge_33 sh_8 (by decide) hg2 (by decide) ?_
      refine mj_iinc (pc := 34) (i := 4) (v := y4 + 1) d_Sk_takeFromAge_34 rfl (by rfl) rfl (by decide) ?_
      refine mj_goto (pc := 37) (tgt := 5) d_Sk_takeFromAge_37 (by decide) ?_
      exact mj_weak [some (.ref 7), some (.int y1), none, some (.int (y3 + (C 8 (y1 + y4).toNatClampNeg))), some (.int (y4 + 1))] (And.intro rfl (And.intro rfl (And.intro rfl (And.intro rfl trivial)))) (ih _ _ _ _ _ _ h hX)
set_option maxRecDepth 20000 in
theorem r_Sk_takeFromAge {x1 : Int32} {x2 : Int32} {C0 D : St} {v : Int32} {C' : St} (h : f_Sk_takeFromAge x1 x2 C0 = some (v, C')) : mj_R M_Sk_takeFromAge 0 (mj_lv M_Sk_takeFromAge.2.2.1 [.ref 7, .int x1, .int x2]) [] (SH, jn C0 D) (some (.int v)) (SH, jn (C') D) := by
  show mj_R M_Sk_takeFromAge 0 [some (.ref 7), some (.int x1), some (.int x2), none, none] [] _ _ _
  unfold f_Sk_takeFromAge at h
  refine mj_iconst (pc := 0) (v := 0) d_Sk_takeFromAge_0 (by decide) ?_
  refine mj_istore_n (pc := 1) (i := 3) d_Sk_takeFromAge_1 rfl rfl (by decide) ?_
  refine mj_iload_n (pc := 2) (i := 2) d_Sk_takeFromAge_2 rfl rfl ?_
  refine mj_istore (pc := 3) (i := 4) d_Sk_takeFromAge_3 rfl (by decide) ?_
  obtain ⟨o3, C4, hl5, h⟩ := bd2_some h
  refine mj_weak [some (.ref 7), some (.int x1), none, some (.int 0), some (.int x2)] (And.intro rfl (And.intro rfl (And.intro rfl (And.intro rfl trivial)))) (l_Sk_takeFromAge_5 3000 _ _ _ _ _ _ hl5 ?_)
  refine mj_iload_n (pc := 40) (i := 3) d_Sk_takeFromAge_40 rfl rfl ?_
  cases h
  exact mj_iret (pc := 41) d_Sk_takeFromAge_41 rfl
set_option maxRecDepth 20000 in
theorem l_Sk_grow_5 {r : Option Value} {D y : St} : ∀ (n : Nat) (y1 : Int32) (y2 : Int32) (y3 : Int32) (y4 : Int32) (C : St) (o3_ : Int32) (Q_ : St), L_Sk_grow_5 n y1 y2 y3 y4 C = some (o3_, Q_) → mj_R M_Sk_grow 82 [none, none, none, some (.int o3_), none, none, none] [] (SH, jn Q_ D) r (SH, y) → mj_R M_Sk_grow 5 [some (.ref 7), some (.int y1), some (.int y2), some (.int y3), some (.int y4), none, none] [] (SH, jn C D) r (SH, y) := by
  intro n
  induction n with
  | zero => intro y1 y2 y3 y4 C o3_ Q_ h; cases h
  | succ n ih =>
    intro y1 y2 y3 y4 C o3_ Q_ h hX
    unfold L_Sk_grow_5 at h
    refine mj_iload (pc := 5) (i := 4) d_Sk_grow_5 rfl ?_
    refine mj_bipush (pc := 7) (v := 12) d_Sk_grow_7 (by decide) ?_
    refine mj_icmp_ge (pc := 9) (tgt := 82) d_Sk_grow_9 (by decide) mj_hs (fun hc1 => ?_) (fun hc1 => ?_)
    · rw [if_pos hc1] at h
      cases h
      exact mj_weak _ (And.intro rfl trivial) hX
    · rw [if_neg hc1] at h
      refine mj_iload (pc := 12) (i := 4) d_Sk_grow_12 rfl ?_
      refine mj_iconst (pc := 14) (v := 5) d_Sk_grow_14 (by decide) ?_
      refine mj_imul (pc := 15) d_Sk_grow_15 ?_
      refine mj_iload_n (pc := 16) (i := 1) d_Sk_grow_16 rfl rfl ?_
      refine mj_iadd (pc := 17) d_Sk_grow_17 ?_
      refine mj_istore (pc := 18) (i := 5) d_Sk_grow_18 rfl (by decide) ?_
      refine mj_aload_n (pc := 20) (i := 0) d_Sk_grow_20 rfl rfl (by decide) ?_
      refine mj_getR (pc := 21) d_Sk_grow_21 fl_Sk_15 sh_7 rfl rfl (by decide) (by decide) (by decide) ?_
      refine mj_iload (pc := 24) (i := 5) d_Sk_grow_24 rfl ?_
      obtain ⟨hg2, h⟩ := mj_gd h
      refine cj_iald (pc := 26) d_Sk_grow_26 sh_9 (by decide) hg2 (by decide) ?_
      obtain ⟨w15, C16, hb18, h⟩ := bd2_some h
      have k17 : mj_R M_Sk_grow 76 [some (.ref 7), some (.int y1), some (.int y2), some (.int w15), some (.int y4), none, none] [] (SH, jn C16 D) r (SH, y) := by
        refine mj_iinc (pc := 76) (i := 4) (v := y4 + 1) d_Sk_grow_76 rfl (by rfl) rfl (by decide) ?_
        refine mj_goto (pc := 79) (tgt := 5) d_Sk_grow_79 (by decide) ?_
        exact mj_weak [some (.ref 7), some (.int y1), some (.int y2), some (.int w15), some (.int (y4 + 1)), none, none] (And.intro rfl (And.intro rfl (And.intro rfl (And.intro rfl (And.intro rfl trivial))))) (ih _ _ _ _ _ _ _ h hX)
      have h := hb18
      refine mj_if_le (y := 0) (pc := 27) (tgt := 76) d_Sk_grow_27 (by decide) mj_hs (fun hc3 => ?_) (fun hc3 => ?_)
      · rw [if_pos hc3] at h
        cases h
        exact mj_weak _ (And.intro rfl (And.intro rfl (And.intro rfl (And.intro rfl (And.intro rfl trivial))))) k17
      · rw [if_neg hc3] at h
        refine mj_aload_n (pc := 30) (i := 0) d_Sk_grow_30 rfl rfl (by decide) ?_
        refine mj_iload (pc := 31) (i := 5) d_Sk_grow_31 rfl ?_
        refine mj_bipush (pc := 33) (v := 10) d_Sk_grow_33 (by decide) ?_
        refine mj_imul (pc := 35) d_Sk_grow_35 ?_
        obtain ⟨C4, hb5, h⟩ := bd1_some h
        refine mj_callV (pc := 36) (b := 7) (vs := [.int (((y4 * 5) + y1) * 10)]) (st := []) d_Sk_grow_36 bB_Sk_grow_Sk_shiftAges lk_Sk_27 iv_Sk_shiftAges rc_7 rfl (Nat.le_of_ble_eq_true rfl) (Nat.le_of_ble_eq_true rfl) (r_Sk_shiftAges hb5) ?_
        show mj_R M_Sk_grow 39 [some (.ref 7), some (.int y1), some (.int y2), some (.int y3), some (.int y4), some (.int ((y4 * 5) + y1)), none] [] (SH, jn C4 D) r (SH, y)
        refine mj_iload_n (pc := 39) (i := 2) d_Sk_grow_39 rfl rfl ?_
        obtain ⟨w10, C11, hb13, h⟩ := bd2_some h
        have k12 : mj_R M_Sk_grow 57 [some (.ref 7), some (.int y1), some (.int y2), some (.int y3), some (.int y4), some (.int ((y4 * 5) + y1)), none] [.int w10] (SH, jn C11 D) r (SH, y) := by
          refine mj_istore (pc := 57) (i := 6) d_Sk_grow_57 rfl (by decide) ?_
          refine mj_aload_n (pc := 59) (i := 0) d_Sk_grow_59 rfl rfl (by decide) ?_
          refine mj_getR (pc := 60) d_Sk_grow_60 fl_Sk_15 sh_7 rfl rfl (by decide) (by decide) (by decide) ?_
          refine mj_iload (pc := 63) (i := 5) d_Sk_grow_63 rfl ?_
          refine mj_dup2 (pc := 65) d_Sk_grow_65 rfl rfl ?_
          refine cj_iald (pc := 66) d_Sk_grow_66 sh_9 (by decide) hg2 (by decide) ?_
          refine mj_iload (pc := 67) (i := 6) d_Sk_grow_67 rfl ?_
          refine mj_isub (pc := 69) d_Sk_grow_69 ?_
          refine cj_iast (pc := 70) d_Sk_grow_70 sh_9 (by decide) hg2 (by decide) ?_
          refine mj_iload_n (pc := 71) (i := 3) d_Sk_grow_71 rfl rfl ?_
          refine mj_iload (pc := 72) (i := 6) d_Sk_grow_72 rfl ?_
          refine mj_iadd (pc := 74) d_Sk_grow_74 ?_
          refine mj_istore_n (pc := 75) (i := 3) d_Sk_grow_75 rfl rfl (by decide) ?_
          cases h
          exact mj_weak _ (And.intro rfl (And.intro rfl (And.intro rfl (And.intro rfl (And.intro rfl trivial))))) k17
        have h := hb13
        refine mj_if_le (y := 0) (pc := 40) (tgt := 56) d_Sk_grow_40 (by decide) mj_hs (fun hc6 => ?_) (fun hc6 => ?_)
        · rw [if_pos hc6] at h
          refine mj_iconst (pc := 56) (v := 0) d_Sk_grow_56 (by decide) ?_
          cases h
          exact mj_weak _ (And.intro rfl (And.intro rfl (And.intro rfl (And.intro rfl (And.intro rfl (And.intro rfl trivial)))))) k12
        · rw [if_neg hc6] at h
          refine mj_aload_n (pc := 43) (i := 0) d_Sk_grow_43 rfl rfl (by decide) ?_
          refine mj_iload (pc := 44) (i := 5) d_Sk_grow_44 rfl ?_
          refine mj_bipush (pc := 46) (v := 10) d_Sk_grow_46 (by decide) ?_
          refine mj_imul (pc := 48) d_Sk_grow_48 ?_
          refine mj_iload_n (pc := 49) (i := 2) d_Sk_grow_49 rfl rfl ?_
          obtain ⟨v7, C8, hb9, h⟩ := bd2_some h
          refine mj_callV (pc := 50) (b := 7) (vs := [.int (((y4 * 5) + y1) * 10), .int y2]) (st := []) d_Sk_grow_50 bB_Sk_grow_Sk_takeFromAge lk_Sk_31 iv_Sk_takeFromAge rc_7 rfl (Nat.le_of_ble_eq_true rfl) (Nat.le_of_ble_eq_true rfl) (r_Sk_takeFromAge hb9) ?_
          show mj_R M_Sk_grow 53 [some (.ref 7), some (.int y1), some (.int y2), some (.int y3), some (.int y4), some (.int ((y4 * 5) + y1)), none] [.int v7] (SH, jn C8 D) r (SH, y)
          refine mj_goto (pc := 53) (tgt := 57) d_Sk_grow_53 (by decide) ?_
          cases h
          exact mj_weak _ (And.intro rfl (And.intro rfl (And.intro rfl (And.intro rfl (And.intro rfl (And.intro rfl trivial)))))) k12
set_option maxRecDepth 20000 in
theorem r_Sk_grow {x1 : Int32} {x2 : Int32} {C0 D : St} {v : Int32} {C' : St} (h : f_Sk_grow x1 x2 C0 = some (v, C')) : mj_R M_Sk_grow 0 (mj_lv M_Sk_grow.2.2.1 [.ref 7, .int x1, .int x2]) [] (SH, jn C0 D) (some (.int v)) (SH, jn (C') D) := by
  show mj_R M_Sk_grow 0 [some (.ref 7), some (.int x1), some (.int x2), none, none, none, none] [] _ _ _
  unfold f_Sk_grow at h
  refine mj_iconst (pc := 0) (v := 0) d_Sk_grow_0 (by decide) ?_
  refine mj_istore_n (pc := 1) (i := 3) d_Sk_grow_1 rfl rfl (by decide) ?_
  refine mj_iconst (pc := 2) (v := 0) d_Sk_grow_2 (by decide) ?_
  refine mj_istore (pc := 3) (i := 4) d_Sk_grow_3 rfl (by decide) ?_
  obtain ⟨o19, C20, hl21, h⟩ := bd2_some h
  refine mj_weak [some (.ref 7), some (.int x1), some (.int x2), some (.int 0), some (.int 0), none, none] (And.intro rfl (And.intro rfl (And.intro rfl (And.intro rfl (And.intro rfl trivial))))) (l_Sk_grow_5 3000 _ _ _ _ _ _ _ hl21 ?_)
  refine mj_iload_n (pc := 82) (i := 3) d_Sk_grow_82 rfl rfl ?_
  cases h
  exact mj_iret (pc := 83) d_Sk_grow_83 rfl
set_option maxRecDepth 20000 in
theorem l_Dy_pass_14 {r : Option Value} {D y : St} : ∀ (n : Nat) (y2 : Int32) (C : St) (Q_ : St), L_Dy_pass_14 n y2 C = some Q_ → mj_R M_Dy_pass 53 [some (.ref 23), some (.ref 1), none, none] [] (SH, jn Q_ D) r (SH, y) → mj_R M_Dy_pass 14 [some (.ref 23), some (.ref 1), some (.int y2), none] [] (SH, jn C D) r (SH, y) := by
  intro n
  induction n with
  | zero => intro y2 C Q_ h; cases h
  | succ n ih =>
    intro y2 C Q_ h hX
    unfold L_Dy_pass_14 at h
    refine mj_iload_n (pc := 14) (i := 2) d_Dy_pass_14 rfl rfl ?_
    refine mj_aload_n (pc := 15) (i := 1) d_Dy_pass_15 rfl rfl (by decide) ?_
    refine cj_getI (pc := 16) d_Dy_pass_16 fl_Dy_29 sh_1 rfl (by decide) (by decide) (by decide) ?_
    refine mj_icmp_ge (pc := 19) (tgt := 53) d_Dy_pass_19 (by decide) mj_hs (fun hc5 => ?_) (fun hc5 => ?_)
    · rw [if_pos hc5] at h
      cases h
      exact mj_weak _ (And.intro rfl (And.intro rfl trivial)) hX
    · rw [if_neg hc5] at h
      refine mj_aload_n (pc := 22) (i := 1) d_Dy_pass_22 rfl rfl (by decide) ?_
      refine mj_getR (pc := 23) d_Dy_pass_23 fl_Dy_35 sh_1 rfl rfl (by decide) (by decide) (by decide) ?_
      refine mj_aload_n (pc := 26) (i := 0) d_Dy_pass_26 rfl rfl (by decide) ?_
      refine mj_getR (pc := 27) d_Dy_pass_27 fl_Dy_9 sh_23 rfl rfl (by decide) (by decide) (by decide) ?_
      refine mj_iload_n (pc := 30) (i := 2) d_Dy_pass_30 rfl rfl ?_
      obtain ⟨hg6, h⟩ := mj_gd h
      refine cj_iald (pc := 31) d_Dy_pass_31 sh_24 (by decide) hg6 (by decide) ?_
      obtain ⟨hg7, h⟩ := mj_gd h
      refine cj_iald (pc := 32) d_Dy_pass_32 sh_4 (by decide) hg7 (by decide) ?_
      obtain ⟨C12, hb14, h⟩ := bd1_some h
      have k13 : mj_R M_Dy_pass 47 [some (.ref 23), some (.ref 1), some (.int y2), none] [] (SH, jn C12 D) r (SH, y) := by
        refine mj_iinc (pc := 47) (i := 2) (v := y2 + 1) d_Dy_pass_47 rfl (by rfl) rfl (by decide) ?_
        refine mj_goto (pc := 50) (tgt := 14) d_Dy_pass_50 (by decide) ?_
        exact mj_weak [some (.ref 23), some (.ref 1), some (.int (y2 + 1)), none] (And.intro rfl (And.intro rfl (And.intro rfl trivial))) (ih _ _ _ h hX)
      have h := hb14
      refine mj_if_ne (y := 0) (pc := 33) (tgt := 47) d_Dy_pass_33 (by decide) mj_hs (fun hc8 => ?_) (fun hc8 => ?_)
      · rw [if_neg hc8] at h
        cases h
        exact mj_weak _ (And.intro rfl (And.intro rfl (And.intro rfl trivial))) k13
      · rw [if_pos hc8] at h
        refine mj_aload_n (pc := 36) (i := 0) d_Dy_pass_36 rfl rfl (by decide) ?_
        refine mj_aload_n (pc := 37) (i := 1) d_Dy_pass_37 rfl rfl (by decide) ?_
        refine mj_aload_n (pc := 38) (i := 0) d_Dy_pass_38 rfl rfl (by decide) ?_
        refine mj_getR (pc := 39) d_Dy_pass_39 fl_Dy_9 sh_23 rfl rfl (by decide) (by decide) (by decide) ?_
        refine mj_iload_n (pc := 42) (i := 2) d_Dy_pass_42 rfl rfl ?_
        refine cj_iald (pc := 43) d_Dy_pass_43 sh_24 (by decide) hg6 (by decide) ?_
        obtain ⟨C10, hb11, h⟩ := bd1_some h
        refine mj_callV (pc := 44) (b := 23) (vs := [.ref 1, .int (C 24 y2.toNatClampNeg)]) (st := []) d_Dy_pass_44 bB_Dy_pass_Dy_followRules lk_Dy_38 iv_Dy_followRules rc_23 rfl (Nat.le_of_ble_eq_true rfl) (Nat.le_of_ble_eq_true rfl) (r_Dy_followRules hb11) ?_
        show mj_R M_Dy_pass 47 [some (.ref 23), some (.ref 1), some (.int y2), none] [] (SH, jn C10 D) r (SH, y)
        cases h
        exact mj_weak _ (And.intro rfl (And.intro rfl (And.intro rfl trivial))) k13
set_option maxRecDepth 20000 in
theorem l_Dy_pass_71 {r : Option Value} {D y : St} : ∀ (n : Nat) (y2 : Int32) (C : St) (Q_ : St), L_Dy_pass_71 n y2 C = some Q_ → mj_R M_Dy_pass 111 [none, some (.ref 1), none, none] [] (SH, jn Q_ D) r (SH, y) → mj_R M_Dy_pass 71 [none, some (.ref 1), some (.int y2), none] [] (SH, jn C D) r (SH, y) := by
  intro n
  induction n with
  | zero => intro y2 C Q_ h; cases h
  | succ n ih =>
    intro y2 C Q_ h hX
    unfold L_Dy_pass_71 at h
    refine mj_iload_n (pc := 71) (i := 2) d_Dy_pass_71 rfl rfl ?_
    refine mj_iconst (pc := 72) (v := 5) d_Dy_pass_72 (by decide) ?_
    refine mj_icmp_ge (pc := 73) (tgt := 111) d_Dy_pass_73 (by decide) mj_hs (fun hc21 => ?_) (fun hc21 => ?_)
    · rw [if_pos hc21] at h
      cases h
      exact mj_weak _ (And.intro rfl trivial) hX
    · rw [if_neg hc21] at h
      refine mj_aload_n (pc := 76) (i := 1) d_Dy_pass_76 rfl rfl (by decide) ?_
      refine mj_getR (pc := 77) d_Dy_pass_77 fl_Dy_54 sh_1 rfl rfl (by decide) (by decide) (by decide) ?_
      refine mj_iload_n (pc := 80) (i := 2) d_Dy_pass_80 rfl rfl ?_
      refine mj_aload_n (pc := 81) (i := 1) d_Dy_pass_81 rfl rfl (by decide) ?_
      refine mj_getR (pc := 82) d_Dy_pass_82 fl_Dy_58 sh_1 rfl rfl (by decide) (by decide) (by decide) ?_
      refine mj_iload_n (pc := 85) (i := 2) d_Dy_pass_85 rfl rfl ?_
      refine mj_iconst (pc := 86) (v := 0) d_Dy_pass_86 (by decide) ?_
      obtain ⟨v22, hb23, h⟩ := bd1_some h
      refine mj_callV (pc := 87) (b := 10) (vs := [.int y2, .int 0]) (st := [.int y2, .ref 7]) d_Dy_pass_87 bB_Dy_pass_Wr_get lk_Dy_64 iv_Wr_get rc_10 rfl (Nat.le_of_ble_eq_true rfl) (Nat.le_of_ble_eq_true rfl) (r_Wr_get hb23) ?_
      show mj_R M_Dy_pass 90 [none, some (.ref 1), some (.int y2), none] [.int v22, .int y2, .ref 7] (SH, jn C D) r (SH, y)
      obtain ⟨v24, C25, hb26, h⟩ := bd2_some h
      refine mj_callV (pc := 90) (b := 7) (vs := [.int y2, .int v22]) (st := []) d_Dy_pass_90 bB_Dy_pass_Sk_grow lk_Dy_68 iv_Sk_grow rc_7 rfl (Nat.le_of_ble_eq_true rfl) (Nat.le_of_ble_eq_true rfl) (r_Sk_grow hb26) ?_
      show mj_R M_Dy_pass 93 [none, some (.ref 1), some (.int y2), none] [.int v24] (SH, jn C25 D) r (SH, y)
      refine mj_istore_n (pc := 93) (i := 3) d_Dy_pass_93 rfl rfl (by decide) ?_
      refine mj_aload_n (pc := 94) (i := 1) d_Dy_pass_94 rfl rfl (by decide) ?_
      refine mj_getR (pc := 95) d_Dy_pass_95 fl_Dy_58 sh_1 rfl rfl (by decide) (by decide) (by decide) ?_
      refine mj_iload_n (pc := 98) (i := 2) d_Dy_pass_98 rfl rfl ?_
      refine mj_bipush (pc := 99) (v := 6) d_Dy_pass_99 (by decide) ?_
      refine mj_iload_n (pc := 101) (i := 3) d_Dy_pass_101 rfl rfl ?_
      obtain ⟨C27, hb28, h⟩ := bd1_some h
      refine mj_callV (pc := 102) (b := 10) (vs := [.int y2, .int 6, .int v24]) (st := []) d_Dy_pass_102 bB_Dy_pass_Wr_increase lk_Dy_73 iv_Wr_increase rc_10 rfl (Nat.le_of_ble_eq_true rfl) (Nat.le_of_ble_eq_true rfl) (r_Wr_increase hb28) ?_
      show mj_R M_Dy_pass 105 [none, some (.ref 1), some (.int y2), some (.int v24)] [] (SH, jn C27 D) r (SH, y)
      refine mj_iinc (pc := 105) (i := 2) (v := y2 + 1) d_Dy_pass_105 rfl (by rfl) rfl (by decide) ?_
      refine mj_goto (pc := 108) (tgt := 71) d_Dy_pass_108 (by decide) ?_
      exact mj_weak [none, some (.ref 1), some (.int (y2 + 1)), none] (And.intro rfl (And.intro rfl trivial)) (ih _ _ _ h hX)
set_option maxRecDepth 20000 in
theorem r_Dy_pass  {C0 D : St} {C' : St} (h : f_Dy_pass C0 = some (C')) : mj_R M_Dy_pass 0 (mj_lv M_Dy_pass.2.2.1 [.ref 23, .ref 1]) [] (SH, jn C0 D) none (SH, jn (C') D) := by
  show mj_R M_Dy_pass 0 [some (.ref 23), some (.ref 1), none, none] [] _ _ _
  unfold f_Dy_pass at h
  refine mj_aload_n (pc := 0) (i := 0) d_Dy_pass_0 rfl rfl (by decide) ?_
  refine mj_aload_n (pc := 1) (i := 1) d_Dy_pass_1 rfl rfl (by decide) ?_
  obtain ⟨C1, hb2, h⟩ := bd1_some h
  refine mj_callV (pc := 2) (b := 23) (vs := [.ref 1]) (st := []) d_Dy_pass_2 bB_Dy_pass_Dy_drawOrder lk_Dy_22 iv_Dy_drawOrder rc_23 rfl (Nat.le_of_ble_eq_true rfl) (Nat.le_of_ble_eq_true rfl) (r_Dy_drawOrder hb2) ?_
  show mj_R M_Dy_pass 5 [some (.ref 23), some (.ref 1), none, none] [] (SH, jn C1 D) none (SH, jn (C') D)
  refine mj_aload_n (pc := 5) (i := 0) d_Dy_pass_5 rfl rfl (by decide) ?_
  refine mj_getR (pc := 6) d_Dy_pass_6 fl_Dy_18 sh_23 rfl rfl (by decide) (by decide) (by decide) ?_
  obtain ⟨C3, hb4, h⟩ := bd1_some h
  refine mj_callV (pc := 9) (b := 25) (vs := []) (st := []) d_Dy_pass_9 bB_Dy_pass_Mt_clear lk_Dy_26 iv_Mt_clear rc_25 rfl (Nat.le_of_ble_eq_true rfl) (Nat.le_of_ble_eq_true rfl) (r_Mt_clear hb4) ?_
  show mj_R M_Dy_pass 12 [some (.ref 23), some (.ref 1), none, none] [] (SH, jn C3 D) none (SH, jn (C') D)
  refine mj_iconst (pc := 12) (v := 0) d_Dy_pass_12 (by decide) ?_
  refine mj_istore_n (pc := 13) (i := 2) d_Dy_pass_13 rfl rfl (by decide) ?_
  obtain ⟨C15, hl16, h⟩ := bd1_some h
  refine mj_weak [some (.ref 23), some (.ref 1), some (.int 0), none] (And.intro rfl (And.intro rfl (And.intro rfl trivial))) (l_Dy_pass_14 3000 _ _ _ hl16 ?_)
  refine mj_aload_n (pc := 53) (i := 0) d_Dy_pass_53 rfl rfl (by decide) ?_
  refine mj_getR (pc := 54) d_Dy_pass_54 fl_Dy_18 sh_23 rfl rfl (by decide) (by decide) (by decide) ?_
  refine mj_aload_n (pc := 57) (i := 1) d_Dy_pass_57 rfl rfl (by decide) ?_
  obtain ⟨C17, hb18, h⟩ := bd1_some h
  refine mj_callV (pc := 58) (b := 25) (vs := [.ref 1]) (st := []) d_Dy_pass_58 bB_Dy_pass_Mt_open lk_Dy_42 iv_Mt_open rc_25 rfl (Nat.le_of_ble_eq_true rfl) (Nat.le_of_ble_eq_true rfl) (r_Mt_open hb18) ?_
  show mj_R M_Dy_pass 61 [some (.ref 23), some (.ref 1), none, none] [] (SH, jn C17 D) none (SH, jn (C') D)
  refine mj_aload_n (pc := 61) (i := 1) d_Dy_pass_61 rfl rfl (by decide) ?_
  refine mj_getR (pc := 62) d_Dy_pass_62 fl_Dy_45 sh_1 rfl rfl (by decide) (by decide) (by decide) ?_
  refine mj_aload_n (pc := 65) (i := 1) d_Dy_pass_65 rfl rfl (by decide) ?_
  obtain ⟨C19, hb20, h⟩ := bd1_some h
  refine mj_callV (pc := 66) (b := 15) (vs := [.ref 1]) (st := []) d_Dy_pass_66 bB_Dy_pass_Ln_fallDue lk_Dy_49 iv_Ln_fallDue rc_15 rfl (Nat.le_of_ble_eq_true rfl) (Nat.le_of_ble_eq_true rfl) (r_Ln_fallDue hb20) ?_
  show mj_R M_Dy_pass 69 [some (.ref 23), some (.ref 1), none, none] [] (SH, jn C19 D) none (SH, jn (C') D)
  refine mj_iconst (pc := 69) (v := 0) d_Dy_pass_69 (by decide) ?_
  refine mj_istore_n (pc := 70) (i := 2) d_Dy_pass_70 rfl rfl (by decide) ?_
  obtain ⟨C29, hl30, h⟩ := bd1_some h
  refine mj_weak [none, some (.ref 1), some (.int 0), none] (And.intro rfl (And.intro rfl trivial)) (l_Dy_pass_71 3000 _ _ _ hl30 ?_)
  refine mj_aload_n (pc := 111) (i := 1) d_Dy_pass_111 rfl rfl (by decide) ?_
  refine mj_dup (pc := 112) d_Dy_pass_112 rfl ?_
  refine cj_getI (pc := 113) d_Dy_pass_113 fl_Dy_77 sh_1 rfl (by decide) (by decide) (by decide) ?_
  refine mj_iconst (pc := 116) (v := 1) d_Dy_pass_116 (by decide) ?_
  refine mj_iadd (pc := 117) d_Dy_pass_117 ?_
  refine cj_putI (pc := 118) d_Dy_pass_118 fl_Dy_77 sh_1 rfl (fun _ _ _ h => by cases h; rfl) (by decide) (by decide) (by decide) ?_
  cases h
  exact mj_vret (pc := 121) d_Dy_pass_121 rfl
set_option maxRecDepth 20000 in
theorem l_Mk_live_30 {r : Option Value} {D y : St} : ∀ (n : Nat) (y1 : Int32) (y2 : Int32) (C : St) (Q_ : St), L_Mk_live_30 n y1 y2 C = some Q_ → mj_R M_Mk_live 52 [some (.ref 0), none, none] [] (SH, jn Q_ D) r (SH, y) → mj_R M_Mk_live 30 [some (.ref 0), some (.int y1), some (.int y2)] [] (SH, jn C D) r (SH, y) := by
  intro n
  induction n with
  | zero => intro y1 y2 C Q_ h; cases h
  | succ n ih =>
    intro y1 y2 C Q_ h hX
    unfold L_Mk_live_30 at h
    refine mj_iload_n (pc := 30) (i := 2) d_Mk_live_30 rfl rfl ?_
    refine mj_iload_n (pc := 31) (i := 1) d_Mk_live_31 rfl rfl ?_
    refine mj_icmp_ge (pc := 32) (tgt := 52) d_Mk_live_32 (by decide) mj_hs (fun hc5 => ?_) (fun hc5 => ?_)
    · rw [if_pos hc5] at h
      cases h
      exact mj_weak _ (And.intro rfl trivial) hX
    · rw [if_neg hc5] at h
      refine mj_aload_n (pc := 35) (i := 0) d_Mk_live_35 rfl rfl (by decide) ?_
      refine mj_getR (pc := 36) d_Mk_live_36 fl_Mk_41 sh_0 rfl rfl (by decide) (by decide) (by decide) ?_
      refine mj_aload_n (pc := 39) (i := 0) d_Mk_live_39 rfl rfl (by decide) ?_
      refine mj_getR (pc := 40) d_Mk_live_40 fl_Mk_10 sh_0 rfl rfl (by decide) (by decide) (by decide) ?_
      obtain ⟨C6, hb7, h⟩ := bd1_some h
      refine mj_callV (pc := 43) (b := 23) (vs := [.ref 1]) (st := []) d_Mk_live_43 bB_Mk_live_Dy_pass lk_Mk_142 iv_Dy_pass rc_23 rfl (Nat.le_of_ble_eq_true rfl) (Nat.le_of_ble_eq_true rfl) (r_Dy_pass hb7) ?_
      show mj_R M_Mk_live 46 [some (.ref 0), some (.int y1), some (.int y2)] [] (SH, jn C6 D) r (SH, y)
      refine mj_iinc (pc := 46) (i := 2) (v := y2 + 1) d_Mk_live_46 rfl (by rfl) rfl (by decide) ?_
      refine mj_goto (pc := 49) (tgt := 30) d_Mk_live_49 (by decide) ?_
      exact mj_weak [some (.ref 0), some (.int y1), some (.int (y2 + 1))] (And.intro rfl (And.intro rfl (And.intro rfl trivial))) (ih _ _ _ _ h hX)
set_option maxRecDepth 20000 in
theorem r_Mk_live {x1 : Int32} {C0 D : St} {v : Int32} {C' : St} (h : f_Mk_live x1 C0 = some (v, C')) : mj_R M_Mk_live 0 (mj_lv M_Mk_live.2.2.1 [.ref 0, .int x1]) [] (SH, jn C0 D) (some (.int v)) (SH, jn (C') D) := by
  show mj_R M_Mk_live 0 [some (.ref 0), some (.int x1), none] [] _ _ _
  unfold f_Mk_live at h
  refine mj_iload_n (pc := 0) (i := 1) d_Mk_live_0 rfl rfl ?_
  refine mj_iconst (pc := 1) (v := 1) d_Mk_live_1 (by decide) ?_
  refine mj_bipush (pc := 2) (v := 30) d_Mk_live_2 (by decide) ?_
  obtain ⟨v1, hb2, h⟩ := bd1_some h
  refine mj_callS (pc := 4) (vs := [.int x1, .int 1, .int 30]) (st := []) d_Mk_live_4 bB_Mk_live_Mk_isWithin lk_Mk_50 st_Mk_isWithin rfl (Nat.le_of_ble_eq_true rfl) (Nat.le_of_ble_eq_true rfl) (r_Mk_isWithin hb2) ?_
  show mj_R M_Mk_live 7 [some (.ref 0), some (.int x1), none] [.int v1] (SH, jn C0 D) (some (.int v)) (SH, jn (C') D)
  refine mj_if_eq (y := 0) (pc := 7) (tgt := 25) d_Mk_live_7 (by decide) mj_hs (fun hc3 => ?_) (fun hc3 => ?_)
  · rw [if_pos hc3] at h
    refine mj_ldc (pc := 25) (v := -1000000001) d_Mk_live_25 k_Mk_54 ?_
    cases h
    exact mj_iret (pc := 27) d_Mk_live_27 rfl
  · rw [if_neg hc3] at h
    refine mj_aload_n (pc := 10) (i := 0) d_Mk_live_10 rfl rfl (by decide) ?_
    refine mj_getR (pc := 11) d_Mk_live_11 fl_Mk_10 sh_0 rfl rfl (by decide) (by decide) (by decide) ?_
    refine cj_getI (pc := 14) d_Mk_live_14 fl_Mk_139 sh_1 rfl (by decide) (by decide) (by decide) ?_
    refine mj_iload_n (pc := 17) (i := 1) d_Mk_live_17 rfl rfl ?_
    refine mj_iadd (pc := 18) d_Mk_live_18 ?_
    refine mj_sipush (pc := 19) (v := 700) d_Mk_live_19 (by decide) ?_
    refine mj_icmp_le (pc := 22) (tgt := 28) d_Mk_live_22 (by decide) mj_hs (fun hc4 => ?_) (fun hc4 => ?_)
    · rw [if_pos hc4] at h
      refine mj_iconst (pc := 28) (v := 0) d_Mk_live_28 (by decide) ?_
      refine mj_istore_n (pc := 29) (i := 2) d_Mk_live_29 rfl rfl (by decide) ?_
      obtain ⟨C8, hl9, h⟩ := bd1_some h
      refine mj_weak [some (.ref 0), some (.int x1), some (.int 0)] (And.intro rfl (And.intro rfl (And.intro rfl trivial))) (l_Mk_live_30 3000 _ _ _ _ hl9 ?_)
      refine mj_aload_n (pc := 52) (i := 0) d_Mk_live_52 rfl rfl (by decide) ?_
      refine mj_getR (pc := 53) d_Mk_live_53 fl_Mk_10 sh_0 rfl rfl (by decide) (by decide) (by decide) ?_
      refine cj_getI (pc := 56) d_Mk_live_56 fl_Mk_139 sh_1 rfl (by decide) (by decide) (by decide) ?_
      cases h
      exact mj_iret (pc := 59) d_Mk_live_59 rfl
    · rw [if_neg hc4] at h
      refine mj_ldc (pc := 25) (v := -1000000001) d_Mk_live_25 k_Mk_54 ?_
      cases h
      exact mj_iret (pc := 27) d_Mk_live_27 rfl
set_option maxRecDepth 20000 in
theorem r_Mk_about {x1 : Int32} {x2 : Int32} {C0 D : St} {v : Int32} (h : f_Mk_about x1 x2 C0 = some v) : mj_R M_Mk_about 0 (mj_lv M_Mk_about.2.2.1 [.ref 0, .int x1, .int x2]) [] (SH, jn C0 D) (some (.int v)) (SH, jn C0 D) := by
  show mj_R M_Mk_about 0 [some (.ref 0), some (.int x1), some (.int x2)] [] _ _ _
  unfold f_Mk_about at h
  refine mj_aload_n (pc := 0) (i := 0) d_Mk_about_0 rfl rfl (by decide) ?_
  refine mj_getR (pc := 1) d_Mk_about_1 fl_Mk_10 sh_0 rfl rfl (by decide) (by decide) (by decide) ?_
  refine mj_iload_n (pc := 4) (i := 1) d_Mk_about_4 rfl rfl ?_
  obtain ⟨v1, hb2, h⟩ := bd1_some h
  refine mj_callV (pc := 5) (b := 1) (vs := [.int x1]) (st := []) d_Mk_about_5 bB_Mk_about_Tw_isThere lk_Mk_64 iv_Tw_isThere rc_1 rfl (Nat.le_of_ble_eq_true rfl) (Nat.le_of_ble_eq_true rfl) (r_Tw_isThere hb2) ?_
  show mj_R M_Mk_about 8 [some (.ref 0), some (.int x1), some (.int x2)] [.int v1] (SH, jn C0 D) (some (.int v)) (SH, jn C0 D)
  refine mj_if_ne (y := 0) (pc := 8) (tgt := 14) d_Mk_about_8 (by decide) mj_hs (fun hc3 => ?_) (fun hc3 => ?_)
  · rw [if_neg hc3] at h
    refine mj_iload_n (pc := 14) (i := 2) d_Mk_about_14 rfl rfl ?_
    by_cases hc4 : x2 = 0
    · rw [if_pos hc4] at h
      refine mj_tsEq (pc := 15) (tgt := 56) 0 d_Mk_about_15 hc4 (by decide) (by decide) (by rfl) (by decide) ?_
      refine mj_aload_n (pc := 56) (i := 0) d_Mk_about_56 rfl rfl (by decide) ?_
      refine mj_getR (pc := 57) d_Mk_about_57 fl_Mk_10 sh_0 rfl rfl (by decide) (by decide) (by decide) ?_
      refine mj_getR (pc := 60) d_Mk_about_60 fl_Mk_146 sh_1 rfl rfl (by decide) (by decide) (by decide) ?_
      refine mj_iload_n (pc := 63) (i := 1) d_Mk_about_63 rfl rfl ?_
      obtain ⟨hg11, h⟩ := mj_gd h
      refine cj_iald (pc := 64) d_Mk_about_64 sh_2 (by decide) hg11 (by decide) ?_
      cases h
      exact mj_iret (pc := 65) d_Mk_about_65 rfl
    · rw [if_neg hc4] at h
      by_cases hc5 : x2 = 1
      · rw [if_pos hc5] at h
        refine mj_tsEq (pc := 15) (tgt := 66) 1 d_Mk_about_15 hc5 (by decide) (by decide) (by rfl) (by decide) ?_
        refine mj_aload_n (pc := 66) (i := 0) d_Mk_about_66 rfl rfl (by decide) ?_
        refine mj_getR (pc := 67) d_Mk_about_67 fl_Mk_10 sh_0 rfl rfl (by decide) (by decide) (by decide) ?_
        refine mj_getR (pc := 70) d_Mk_about_70 fl_Mk_149 sh_1 rfl rfl (by decide) (by decide) (by decide) ?_
        refine mj_iload_n (pc := 73) (i := 1) d_Mk_about_73 rfl rfl ?_
        obtain ⟨hg12, h⟩ := mj_gd h
        refine cj_iald (pc := 74) d_Mk_about_74 sh_3 (by decide) hg12 (by decide) ?_
        cases h
        exact mj_iret (pc := 75) d_Mk_about_75 rfl
      · rw [if_neg hc5] at h
        by_cases hc6 : x2 = 2
        · rw [if_pos hc6] at h
          refine mj_tsEq (pc := 15) (tgt := 76) 2 d_Mk_about_15 hc6 (by decide) (by decide) (by rfl) (by decide) ?_
          refine mj_aload_n (pc := 76) (i := 0) d_Mk_about_76 rfl rfl (by decide) ?_
          refine mj_getR (pc := 77) d_Mk_about_77 fl_Mk_10 sh_0 rfl rfl (by decide) (by decide) (by decide) ?_
          refine mj_getR (pc := 80) d_Mk_about_80 fl_Mk_152 sh_1 rfl rfl (by decide) (by decide) (by decide) ?_
          refine mj_iload_n (pc := 83) (i := 1) d_Mk_about_83 rfl rfl ?_
          obtain ⟨hg13, h⟩ := mj_gd h
          refine cj_iald (pc := 84) d_Mk_about_84 sh_4 (by decide) hg13 (by decide) ?_
          cases h
          exact mj_iret (pc := 85) d_Mk_about_85 rfl
        · rw [if_neg hc6] at h
          by_cases hc7 : x2 = 3
          · rw [if_pos hc7] at h
            refine mj_tsEq (pc := 15) (tgt := 86) 3 d_Mk_about_15 hc7 (by decide) (by decide) (by rfl) (by decide) ?_
            refine mj_aload_n (pc := 86) (i := 0) d_Mk_about_86 rfl rfl (by decide) ?_
            refine mj_getR (pc := 87) d_Mk_about_87 fl_Mk_10 sh_0 rfl rfl (by decide) (by decide) (by decide) ?_
            refine mj_getR (pc := 90) d_Mk_about_90 fl_Mk_123 sh_1 rfl rfl (by decide) (by decide) (by decide) ?_
            refine mj_getR (pc := 93) d_Mk_about_93 fl_Mk_155 sh_12 rfl rfl (by decide) (by decide) (by decide) ?_
            refine mj_iload_n (pc := 96) (i := 1) d_Mk_about_96 rfl rfl ?_
            obtain ⟨hg14, h⟩ := mj_gd h
            refine cj_iald (pc := 97) d_Mk_about_97 sh_13 (by decide) hg14 (by decide) ?_
            cases h
            exact mj_iret (pc := 98) d_Mk_about_98 rfl
          · rw [if_neg hc7] at h
            by_cases hc8 : x2 = 4
            · rw [if_pos hc8] at h
              refine mj_tsEq (pc := 15) (tgt := 99) 4 d_Mk_about_15 hc8 (by decide) (by decide) (by rfl) (by decide) ?_
              refine mj_aload_n (pc := 99) (i := 0) d_Mk_about_99 rfl rfl (by decide) ?_
              refine mj_getR (pc := 100) d_Mk_about_100 fl_Mk_10 sh_0 rfl rfl (by decide) (by decide) (by decide) ?_
              refine mj_getR (pc := 103) d_Mk_about_103 fl_Mk_158 sh_1 rfl rfl (by decide) (by decide) (by decide) ?_
              refine mj_iconst (pc := 106) (v := 1) d_Mk_about_106 (by decide) ?_
              refine mj_iload_n (pc := 107) (i := 1) d_Mk_about_107 rfl rfl ?_
              obtain ⟨v15, hb16, h⟩ := bd1_some h
              refine mj_callV (pc := 108) (b := 15) (vs := [.int 1, .int x1]) (st := []) d_Mk_about_108 bB_Mk_about_Ln_owedWhere lk_Mk_164 iv_Ln_owedWhere rc_15 rfl (Nat.le_of_ble_eq_true rfl) (Nat.le_of_ble_eq_true rfl) (r_Ln_owedWhere hb16) ?_
              show mj_R M_Mk_about 111 [some (.ref 0), some (.int x1), some (.int x2)] [.int v15] (SH, jn C0 D) (some (.int v)) (SH, jn C0 D)
              cases h
              exact mj_iret (pc := 111) d_Mk_about_111 rfl
            · rw [if_neg hc8] at h
              by_cases hc9 : x2 = 5
              · rw [if_pos hc9] at h
                refine mj_tsEq (pc := 15) (tgt := 112) 5 d_Mk_about_15 hc9 (by decide) (by decide) (by rfl) (by decide) ?_
                refine mj_aload_n (pc := 112) (i := 0) d_Mk_about_112 rfl rfl (by decide) ?_
                refine mj_getR (pc := 113) d_Mk_about_113 fl_Mk_10 sh_0 rfl rfl (by decide) (by decide) (by decide) ?_
                refine mj_getR (pc := 116) d_Mk_about_116 fl_Mk_158 sh_1 rfl rfl (by decide) (by decide) (by decide) ?_
                refine mj_iconst (pc := 119) (v := 0) d_Mk_about_119 (by decide) ?_
                refine mj_iload_n (pc := 120) (i := 1) d_Mk_about_120 rfl rfl ?_
                obtain ⟨v17, hb18, h⟩ := bd1_some h
                refine mj_callV (pc := 121) (b := 15) (vs := [.int 0, .int x1]) (st := []) d_Mk_about_121 bB_Mk_about_Ln_owedWhere lk_Mk_164 iv_Ln_owedWhere rc_15 rfl (Nat.le_of_ble_eq_true rfl) (Nat.le_of_ble_eq_true rfl) (r_Ln_owedWhere hb18) ?_
                show mj_R M_Mk_about 124 [some (.ref 0), some (.int x1), some (.int x2)] [.int v17] (SH, jn C0 D) (some (.int v)) (SH, jn C0 D)
                cases h
                exact mj_iret (pc := 124) d_Mk_about_124 rfl
              · rw [if_neg hc9] at h
                by_cases hc10 : x2 = 6
                · rw [if_pos hc10] at h
                  refine mj_tsEq (pc := 15) (tgt := 125) 6 d_Mk_about_15 hc10 (by decide) (by decide) (by rfl) (by decide) ?_
                  refine mj_aload_n (pc := 125) (i := 0) d_Mk_about_125 rfl rfl (by decide) ?_
                  refine mj_getR (pc := 126) d_Mk_about_126 fl_Mk_10 sh_0 rfl rfl (by decide) (by decide) (by decide) ?_
                  refine mj_getR (pc := 129) d_Mk_about_129 fl_Mk_167 sh_1 rfl rfl (by decide) (by decide) (by decide) ?_
                  refine mj_iload_n (pc := 132) (i := 1) d_Mk_about_132 rfl rfl ?_
                  obtain ⟨hg19, h⟩ := mj_gd h
                  refine cj_iald (pc := 133) d_Mk_about_133 sh_5 (by decide) hg19 (by decide) ?_
                  cases h
                  exact mj_iret (pc := 134) d_Mk_about_134 rfl
                · rw [if_neg hc10] at h
                  refine mj_tableOut (pc := 15) (tgt := 135) d_Mk_about_15 (by have q0 := i32_ne (n := 0) (by decide) hc4; have q1 := i32_ne (n := 1) (by decide) hc5; have q2 := i32_ne (n := 2) (by decide) hc6; have q3 := i32_ne (n := 3) (by decide) hc7; have q4 := i32_ne (n := 4) (by decide) hc8; have q5 := i32_ne (n := 5) (by decide) hc9; have q6 := i32_ne (n := 6) (by decide) hc10; omega) (by decide) ?_
                  refine mj_ldc (pc := 135) (v := -1000000001) d_Mk_about_135 k_Mk_54 ?_
                  cases h
                  exact mj_iret (pc := 137) d_Mk_about_137 rfl
  · rw [if_pos hc3] at h
    refine mj_ldc (pc := 11) (v := -1000000001) d_Mk_about_11 k_Mk_54 ?_
    cases h
    exact mj_iret (pc := 13) d_Mk_about_13 rfl
set_option maxRecDepth 20000 in
theorem r_Mk_isOf {x1 : Int32} {x2 : Int32} {C0 D : St} {v : Int32} (h : f_Mk_isOf x1 x2 C0 = some v) : mj_R M_Mk_isOf 0 (mj_lv M_Mk_isOf.2.2.1 [.ref 0, .int x1, .int x2]) [] (SH, jn C0 D) (some (.int v)) (SH, jn C0 D) := by
  show mj_R M_Mk_isOf 0 [some (.ref 0), some (.int x1), some (.int x2)] [] _ _ _
  unfold f_Mk_isOf at h
  refine mj_aload_n (pc := 0) (i := 0) d_Mk_isOf_0 rfl rfl (by decide) ?_
  refine mj_getR (pc := 1) d_Mk_isOf_1 fl_Mk_10 sh_0 rfl rfl (by decide) (by decide) (by decide) ?_
  refine mj_iload_n (pc := 4) (i := 1) d_Mk_isOf_4 rfl rfl ?_
  obtain ⟨v1, hb2, h⟩ := bd1_some h
  refine mj_callV (pc := 5) (b := 1) (vs := [.int x1]) (st := []) d_Mk_isOf_5 bB_Mk_isOf_Tw_isThere lk_Mk_64 iv_Tw_isThere rc_1 rfl (Nat.le_of_ble_eq_true rfl) (Nat.le_of_ble_eq_true rfl) (r_Tw_isThere hb2) ?_
  show mj_R M_Mk_isOf 8 [some (.ref 0), some (.int x1), some (.int x2)] [.int v1] (SH, jn C0 D) (some (.int v)) (SH, jn C0 D)
  refine mj_if_eq (y := 0) (pc := 8) (tgt := 18) d_Mk_isOf_8 (by decide) mj_hs (fun hc3 => ?_) (fun hc3 => ?_)
  · rw [if_pos hc3] at h
    refine mj_ldc (pc := 18) (v := -1000000001) d_Mk_isOf_18 k_Mk_54 ?_
    cases h
    exact mj_iret (pc := 20) d_Mk_isOf_20 rfl
  · rw [if_neg hc3] at h
    refine mj_iload_n (pc := 11) (i := 2) d_Mk_isOf_11 rfl rfl ?_
    obtain ⟨v4, hb5, h⟩ := bd1_some h
    refine mj_callS (pc := 12) (vs := [.int x2]) (st := []) d_Mk_isOf_12 bB_Mk_isOf_Mk_isKind lk_Mk_45 st_Mk_isKind rfl (Nat.le_of_ble_eq_true rfl) (Nat.le_of_ble_eq_true rfl) (r_Mk_isKind hb5) ?_
    show mj_R M_Mk_isOf 15 [some (.ref 0), some (.int x1), some (.int x2)] [.int v4] (SH, jn C0 D) (some (.int v)) (SH, jn C0 D)
    refine mj_if_ne (y := 0) (pc := 15) (tgt := 21) d_Mk_isOf_15 (by decide) mj_hs (fun hc6 => ?_) (fun hc6 => ?_)
    · rw [if_neg hc6] at h
      refine mj_aload_n (pc := 21) (i := 0) d_Mk_isOf_21 rfl rfl (by decide) ?_
      refine mj_getR (pc := 22) d_Mk_isOf_22 fl_Mk_10 sh_0 rfl rfl (by decide) (by decide) (by decide) ?_
      refine mj_iload_n (pc := 25) (i := 1) d_Mk_isOf_25 rfl rfl ?_
      refine mj_iload_n (pc := 26) (i := 2) d_Mk_isOf_26 rfl rfl ?_
      obtain ⟨v7, hb8, h⟩ := bd1_some h
      refine mj_callV (pc := 27) (b := 1) (vs := [.int x1, .int x2]) (st := []) d_Mk_isOf_27 bB_Mk_isOf_Tw_belongs lk_Mk_170 iv_Tw_belongs rc_1 rfl (Nat.le_of_ble_eq_true rfl) (Nat.le_of_ble_eq_true rfl) (r_Tw_belongs hb8) ?_
      show mj_R M_Mk_isOf 30 [some (.ref 0), some (.int x1), some (.int x2)] [.int v7] (SH, jn C0 D) (some (.int v)) (SH, jn C0 D)
      have k10 : mj_R M_Mk_isOf 38 [none, none, none] [.int (if v7 = 0 then 0 else 1)] (SH, jn C0 D) (some (.int v)) (SH, jn C0 D) := by
        cases h
        exact mj_iret (pc := 38) d_Mk_isOf_38 rfl
      refine mj_if_eq (y := 0) (pc := 30) (tgt := 37) d_Mk_isOf_30 (by decide) mj_hs (fun hc9 => ?_) (fun hc9 => ?_)
      · refine mj_iconst (pc := 37) (v := 0) d_Mk_isOf_37 (by decide) ?_
        simp only [if_pos hc9] at k10
        exact mj_weak _ trivial k10
      · refine mj_iconst (pc := 33) (v := 1) d_Mk_isOf_33 (by decide) ?_
        refine mj_goto (pc := 34) (tgt := 38) d_Mk_isOf_34 (by decide) ?_
        simp only [if_neg hc9] at k10
        exact mj_weak _ trivial k10
    · rw [if_pos hc6] at h
      refine mj_ldc (pc := 18) (v := -1000000001) d_Mk_isOf_18 k_Mk_54 ?_
      cases h
      exact mj_iret (pc := 20) d_Mk_isOf_20 rfl
set_option maxRecDepth 20000 in
theorem r_Sk_ofAge {x1 : Int32} {x2 : Int32} {x3 : Int32} {C0 D : St} {v : Int32} (h : f_Sk_ofAge x1 x2 x3 C0 = some v) : mj_R M_Sk_ofAge 0 (mj_lv M_Sk_ofAge.2.2.1 [.ref 7, .int x1, .int x2, .int x3]) [] (SH, jn C0 D) (some (.int v)) (SH, jn C0 D) := by
  show mj_R M_Sk_ofAge 0 [some (.ref 7), some (.int x1), some (.int x2), some (.int x3)] [] _ _ _
  unfold f_Sk_ofAge at h
  refine mj_aload_n (pc := 0) (i := 0) d_Sk_ofAge_0 rfl rfl (by decide) ?_
  refine mj_getR (pc := 1) d_Sk_ofAge_1 fl_Sk_9 sh_7 rfl rfl (by decide) (by decide) (by decide) ?_
  refine mj_iload_n (pc := 4) (i := 1) d_Sk_ofAge_4 rfl rfl ?_
  refine mj_iconst (pc := 5) (v := 5) d_Sk_ofAge_5 (by decide) ?_
  refine mj_imul (pc := 6) d_Sk_ofAge_6 ?_
  refine mj_iload_n (pc := 7) (i := 2) d_Sk_ofAge_7 rfl rfl ?_
  refine mj_iadd (pc := 8) d_Sk_ofAge_8 ?_
  refine mj_bipush (pc := 9) (v := 10) d_Sk_ofAge_9 (by decide) ?_
  refine mj_imul (pc := 11) d_Sk_ofAge_11 ?_
  refine mj_iload_n (pc := 12) (i := 3) d_Sk_ofAge_12 rfl rfl ?_
  refine mj_iadd (pc := 13) d_Sk_ofAge_13 ?_
  obtain ⟨hg1, h⟩ := mj_gd h
  refine cj_iald (pc := 14) d_Sk_ofAge_14 sh_8 (by decide) hg1 (by decide) ?_
  cases h
  exact mj_iret (pc := 15) d_Sk_ofAge_15 rfl
set_option maxRecDepth 20000 in
theorem r_Mk_has {x1 : Int32} {x2 : Int32} {x3 : Int32} {C0 D : St} {v : Int32} (h : f_Mk_has x1 x2 x3 C0 = some v) : mj_R M_Mk_has 0 (mj_lv M_Mk_has.2.2.1 [.ref 0, .int x1, .int x2, .int x3]) [] (SH, jn C0 D) (some (.int v)) (SH, jn C0 D) := by
  show mj_R M_Mk_has 0 [some (.ref 0), some (.int x1), some (.int x2), some (.int x3)] [] _ _ _
  unfold f_Mk_has at h
  refine mj_aload_n (pc := 0) (i := 0) d_Mk_has_0 rfl rfl (by decide) ?_
  refine mj_getR (pc := 1) d_Mk_has_1 fl_Mk_10 sh_0 rfl rfl (by decide) (by decide) (by decide) ?_
  refine mj_iload_n (pc := 4) (i := 1) d_Mk_has_4 rfl rfl ?_
  obtain ⟨v1, hb2, h⟩ := bd1_some h
  refine mj_callV (pc := 5) (b := 1) (vs := [.int x1]) (st := []) d_Mk_has_5 bB_Mk_has_Tw_isThere lk_Mk_64 iv_Tw_isThere rc_1 rfl (Nat.le_of_ble_eq_true rfl) (Nat.le_of_ble_eq_true rfl) (r_Tw_isThere hb2) ?_
  show mj_R M_Mk_has 8 [some (.ref 0), some (.int x1), some (.int x2), some (.int x3)] [.int v1] (SH, jn C0 D) (some (.int v)) (SH, jn C0 D)
  refine mj_if_eq (y := 0) (pc := 8) (tgt := 28) d_Mk_has_8 (by decide) mj_hs (fun hc3 => ?_) (fun hc3 => ?_)
  · rw [if_pos hc3] at h
    refine mj_ldc (pc := 28) (v := -1000000001) d_Mk_has_28 k_Mk_54 ?_
    cases h
    exact mj_iret (pc := 30) d_Mk_has_30 rfl
  · rw [if_neg hc3] at h
    refine mj_iload_n (pc := 11) (i := 2) d_Mk_has_11 rfl rfl ?_
    obtain ⟨v4, hb5, h⟩ := bd1_some h
    refine mj_callS (pc := 12) (vs := [.int x2]) (st := []) d_Mk_has_12 bB_Mk_has_Mk_isGood lk_Mk_67 st_Mk_isGood rfl (Nat.le_of_ble_eq_true rfl) (Nat.le_of_ble_eq_true rfl) (r_Mk_isGood hb5) ?_
    show mj_R M_Mk_has 15 [some (.ref 0), some (.int x1), some (.int x2), some (.int x3)] [.int v4] (SH, jn C0 D) (some (.int v)) (SH, jn C0 D)
    refine mj_if_eq (y := 0) (pc := 15) (tgt := 28) d_Mk_has_15 (by decide) mj_hs (fun hc6 => ?_) (fun hc6 => ?_)
    · rw [if_pos hc6] at h
      refine mj_ldc (pc := 28) (v := -1000000001) d_Mk_has_28 k_Mk_54 ?_
      cases h
      exact mj_iret (pc := 30) d_Mk_has_30 rfl
    · rw [if_neg hc6] at h
      refine mj_iload_n (pc := 18) (i := 3) d_Mk_has_18 rfl rfl ?_
      refine mj_iconst (pc := 19) (v := -1) d_Mk_has_19 (by decide) ?_
      refine mj_bipush (pc := 20) (v := 9) d_Mk_has_20 (by decide) ?_
      obtain ⟨v7, hb8, h⟩ := bd1_some h
      refine mj_callS (pc := 22) (vs := [.int x3, .int (-1), .int 9]) (st := []) d_Mk_has_22 bB_Mk_has_Mk_isWithin lk_Mk_50 st_Mk_isWithin rfl (Nat.le_of_ble_eq_true rfl) (Nat.le_of_ble_eq_true rfl) (r_Mk_isWithin hb8) ?_
      show mj_R M_Mk_has 25 [some (.ref 0), some (.int x1), some (.int x2), some (.int x3)] [.int v7] (SH, jn C0 D) (some (.int v)) (SH, jn C0 D)
      refine mj_if_ne (y := 0) (pc := 25) (tgt := 31) d_Mk_has_25 (by decide) mj_hs (fun hc9 => ?_) (fun hc9 => ?_)
      · rw [if_neg hc9] at h
        refine mj_iload_n (pc := 31) (i := 3) d_Mk_has_31 rfl rfl ?_
        obtain ⟨w15, hb17, h⟩ := bd1_some h
        have k16 : mj_R M_Mk_has 63 [none, none, none, none] [.int w15] (SH, jn C0 D) (some (.int v)) (SH, jn C0 D) := by
          cases h
          exact mj_iret (pc := 63) d_Mk_has_63 rfl
        have h := hb17
        refine mj_if_ge (y := 0) (pc := 32) (tgt := 50) d_Mk_has_32 (by decide) mj_hs (fun hc10 => ?_) (fun hc10 => ?_)
        · rw [if_pos hc10] at h
          refine mj_aload_n (pc := 50) (i := 0) d_Mk_has_50 rfl rfl (by decide) ?_
          refine mj_getR (pc := 51) d_Mk_has_51 fl_Mk_10 sh_0 rfl rfl (by decide) (by decide) (by decide) ?_
          refine mj_getR (pc := 54) d_Mk_has_54 fl_Mk_70 sh_1 rfl rfl (by decide) (by decide) (by decide) ?_
          refine mj_iload_n (pc := 57) (i := 1) d_Mk_has_57 rfl rfl ?_
          refine mj_iload_n (pc := 58) (i := 2) d_Mk_has_58 rfl rfl ?_
          refine mj_iload_n (pc := 59) (i := 3) d_Mk_has_59 rfl rfl ?_
          obtain ⟨v11, hb12, h⟩ := bd1_some h
          refine mj_callV (pc := 60) (b := 7) (vs := [.int x1, .int x2, .int x3]) (st := []) d_Mk_has_60 bB_Mk_has_Sk_ofAge lk_Mk_174 iv_Sk_ofAge rc_7 rfl (Nat.le_of_ble_eq_true rfl) (Nat.le_of_ble_eq_true rfl) (r_Sk_ofAge hb12) ?_
          show mj_R M_Mk_has 63 [some (.ref 0), some (.int x1), some (.int x2), some (.int x3)] [.int v11] (SH, jn C0 D) (some (.int v)) (SH, jn C0 D)
          cases h
          exact mj_weak _ trivial k16
        · rw [if_neg hc10] at h
          refine mj_aload_n (pc := 35) (i := 0) d_Mk_has_35 rfl rfl (by decide) ?_
          refine mj_getR (pc := 36) d_Mk_has_36 fl_Mk_10 sh_0 rfl rfl (by decide) (by decide) (by decide) ?_
          refine mj_getR (pc := 39) d_Mk_has_39 fl_Mk_70 sh_1 rfl rfl (by decide) (by decide) (by decide) ?_
          refine mj_iload_n (pc := 42) (i := 1) d_Mk_has_42 rfl rfl ?_
          refine mj_iload_n (pc := 43) (i := 2) d_Mk_has_43 rfl rfl ?_
          obtain ⟨v13, hb14, h⟩ := bd1_some h
          refine mj_callV (pc := 44) (b := 7) (vs := [.int x1, .int x2]) (st := []) d_Mk_has_44 bB_Mk_has_Sk_all lk_Mk_80 iv_Sk_all rc_7 rfl (Nat.le_of_ble_eq_true rfl) (Nat.le_of_ble_eq_true rfl) (r_Sk_all hb14) ?_
          show mj_R M_Mk_has 47 [some (.ref 0), some (.int x1), some (.int x2), some (.int x3)] [.int v13] (SH, jn C0 D) (some (.int v)) (SH, jn C0 D)
          refine mj_goto (pc := 47) (tgt := 63) d_Mk_has_47 (by decide) ?_
          cases h
          exact mj_weak _ trivial k16
      · rw [if_pos hc9] at h
        refine mj_ldc (pc := 28) (v := -1000000001) d_Mk_has_28 k_Mk_54 ?_
        cases h
        exact mj_iret (pc := 30) d_Mk_has_30 rfl
