set_option maxRecDepth 20000 in
theorem r_Rl_start {x0 : Int32} {x1 : Int32} {mem : mj_Mem} {v : Int32} (h : f_Rl_start x0 x1 = some v) : mj_R M_Rl_start 0 (mj_lv M_Rl_start.2.2.1 [.int x0, .int x1]) [] mem (some (.int v)) mem := by
  show mj_R M_Rl_start 0 [some (.int x0), some (.int x1)] [] _ _ _
  unfold f_Rl_start at h
  refine mj_iload_n (pc := 0) (i := 0) d_Rl_start_0 rfl rfl ?_
  refine mj_bipush (pc := 1) (v := 6) d_Rl_start_1 (by decide) ?_
  refine mj_imul (pc := 3) d_Rl_start_3 ?_
  refine mj_iload_n (pc := 4) (i := 1) d_Rl_start_4 rfl rfl ?_
  refine mj_iadd (pc := 5) d_Rl_start_5 ?_
  refine mj_bipush (pc := 6) (v := 9) d_Rl_start_6 (by decide) ?_
  refine mj_imul (pc := 8) d_Rl_start_8 ?_
  cases h
  exact mj_iret (pc := 9) d_Rl_start_9 rfl
set_option maxRecDepth 20000 in
theorem r_Rl_append {x1 : Int32} {C0 D : St} {v : Int32} {C' : St} (h : f_Rl_append x1 C0 = some (v, C')) : mj_R M_Rl_append 0 (mj_lv M_Rl_append.2.2.1 [.ref 12, .int x1, .ref 22]) [] (SH, jn C0 D) (some (.int v)) (SH, jn (C') D) := by
  show mj_R M_Rl_append 0 [some (.ref 12), some (.int x1), some (.ref 22), none] [] _ _ _
  unfold f_Rl_append at h
  refine mj_aload_n (pc := 0) (i := 0) d_Rl_append_0 rfl rfl (by decide) ?_
  refine mj_getR (pc := 1) d_Rl_append_1 fl_Rl_9 sh_12 rfl rfl (by decide) (by decide) (by decide) ?_
  refine mj_iload_n (pc := 4) (i := 1) d_Rl_append_4 rfl rfl ?_
  obtain ⟨hg1, h⟩ := mj_gd h
  refine cj_iald (pc := 5) d_Rl_append_5 sh_13 (by decide) hg1 (by decide) ?_
  refine mj_istore_n (pc := 6) (i := 3) d_Rl_append_6 rfl rfl (by decide) ?_
  refine mj_iload_n (pc := 7) (i := 3) d_Rl_append_7 rfl rfl ?_
  refine mj_bipush (pc := 8) (v := 6) d_Rl_append_8 (by decide) ?_
  refine mj_icmp_lt (pc := 10) (tgt := 16) d_Rl_append_10 (by decide) mj_hs (fun hc2 => ?_) (fun hc2 => ?_)
  · rw [if_pos hc2] at h
    refine mj_aload_n (pc := 16) (i := 2) d_Rl_append_16 rfl rfl (by decide) ?_
    refine mj_iconst (pc := 17) (v := 0) d_Rl_append_17 (by decide) ?_
    refine mj_aload_n (pc := 18) (i := 0) d_Rl_append_18 rfl rfl (by decide) ?_
    refine mj_getR (pc := 19) d_Rl_append_19 fl_Rl_15 sh_12 rfl rfl (by decide) (by decide) (by decide) ?_
    refine mj_iload_n (pc := 22) (i := 1) d_Rl_append_22 rfl rfl ?_
    refine mj_iload_n (pc := 23) (i := 3) d_Rl_append_23 rfl rfl ?_
    obtain ⟨v3, hb4, h⟩ := bd1_some h
    refine mj_callS (pc := 24) (vs := [.int x1, .int (C0 13 x1.toNatClampNeg)]) (st := [.ref 14, .int 0, .ref 22]) d_Rl_append_24 bB_Rl_append_Rl_start lk_Rl_18 st_Rl_start rfl (Nat.le_of_ble_eq_true rfl) (Nat.le_of_ble_eq_true rfl) (r_Rl_start hb4) ?_
    show mj_R M_Rl_append 27 [some (.ref 12), some (.int x1), some (.ref 22), some (.int (C0 13 x1.toNatClampNeg))] [.int v3, .ref 14, .int 0, .ref 22] (SH, jn C0 D) (some (.int v)) (SH, jn (C') D)
    refine mj_bipush (pc := 27) (v := 9) d_Rl_append_27 (by decide) ?_
    obtain ⟨hg5, h⟩ := mj_gd h
    refine cj_copy (pc := 29) d_Rl_append_29 cp_Rl_23 sh_22 sh_14 (by decide) (by decide) hg5 (by decide) (Nat.le_of_ble_eq_true rfl) ?_
    refine mj_aload_n (pc := 32) (i := 0) d_Rl_append_32 rfl rfl (by decide) ?_
    refine mj_getR (pc := 33) d_Rl_append_33 fl_Rl_9 sh_12 rfl rfl (by decide) (by decide) (by decide) ?_
    refine mj_iload_n (pc := 36) (i := 1) d_Rl_append_36 rfl rfl ?_
    refine mj_dup2 (pc := 37) d_Rl_append_37 rfl rfl ?_
    refine cj_iald (pc := 38) d_Rl_append_38 sh_13 (by decide) hg1 (by decide) ?_
    refine mj_iconst (pc := 39) (v := 1) d_Rl_append_39 (by decide) ?_
    refine mj_iadd (pc := 40) d_Rl_append_40 ?_
    refine cj_iast (pc := 41) d_Rl_append_41 sh_13 (by decide) hg1 (by decide) ?_
    refine mj_iload_n (pc := 42) (i := 3) d_Rl_append_42 rfl rfl ?_
    cases h
    exact mj_iret (pc := 43) d_Rl_append_43 rfl
  · rw [if_neg hc2] at h
    refine mj_ldc (pc := 13) (v := -1000000003) d_Rl_append_13 k_Rl_22 ?_
    cases h
    exact mj_iret (pc := 15) d_Rl_append_15 rfl
set_option maxRecDepth 20000 in
theorem r_Mk_readRule {x1 : Int32} {C0 D : St} {v : Int32} {C' : St} (h : f_Mk_readRule x1 C0 = some (v, C')) : mj_R M_Mk_readRule 0 (mj_lv M_Mk_readRule.2.2.1 [.ref 0, .int x1]) [] (SH, jn C0 D) (some (.int v)) (SH, jn (C') D) := by
  show mj_R M_Mk_readRule 0 [some (.ref 0), some (.int x1)] [] _ _ _
  unfold f_Mk_readRule at h
  refine mj_aload_n (pc := 0) (i := 0) d_Mk_readRule_0 rfl rfl (by decide) ?_
  refine mj_getR (pc := 1) d_Mk_readRule_1 fl_Mk_10 sh_0 rfl rfl (by decide) (by decide) (by decide) ?_
  refine mj_iload_n (pc := 4) (i := 1) d_Mk_readRule_4 rfl rfl ?_
  obtain ⟨v1, hb2, h⟩ := bd1_some h
  refine mj_callV (pc := 5) (b := 1) (vs := [.int x1]) (st := []) d_Mk_readRule_5 bB_Mk_readRule_Tw_isThere lk_Mk_64 iv_Tw_isThere rc_1 rfl (Nat.le_of_ble_eq_true rfl) (Nat.le_of_ble_eq_true rfl) (r_Tw_isThere hb2) ?_
  show mj_R M_Mk_readRule 8 [some (.ref 0), some (.int x1)] [.int v1] (SH, jn C0 D) (some (.int v)) (SH, jn (C') D)
  refine mj_if_ne (y := 0) (pc := 8) (tgt := 14) d_Mk_readRule_8 (by decide) mj_hs (fun hc3 => ?_) (fun hc3 => ?_)
  · rw [if_neg hc3] at h
    refine mj_aload_n (pc := 14) (i := 0) d_Mk_readRule_14 rfl rfl (by decide) ?_
    refine mj_getR (pc := 15) d_Mk_readRule_15 fl_Mk_34 sh_0 rfl rfl (by decide) (by decide) (by decide) ?_
    refine mj_aload_n (pc := 18) (i := 0) d_Mk_readRule_18 rfl rfl (by decide) ?_
    refine mj_getR (pc := 19) d_Mk_readRule_19 fl_Mk_27 sh_0 rfl rfl (by decide) (by decide) (by decide) ?_
    refine mj_iload_n (pc := 22) (i := 1) d_Mk_readRule_22 rfl rfl ?_
    refine mj_aload_n (pc := 23) (i := 0) d_Mk_readRule_23 rfl rfl (by decide) ?_
    refine mj_getR (pc := 24) d_Mk_readRule_24 fl_Mk_10 sh_0 rfl rfl (by decide) (by decide) (by decide) ?_
    refine cj_getI (pc := 27) d_Mk_readRule_27 fl_Mk_55 sh_1 rfl (by decide) (by decide) (by decide) ?_
    obtain ⟨v4, C5, hb6, h⟩ := bd2_some h
    refine mj_callV (pc := 30) (b := 21) (vs := [.ref 19, .int x1, .int (C0 1 0)]) (st := []) d_Mk_readRule_30 bB_Mk_readRule_Rr_understands lk_Mk_116 iv_Rr_understands rc_21 rfl (Nat.le_of_ble_eq_true rfl) (Nat.le_of_ble_eq_true rfl) (r_Rr_understands hb6) ?_
    show mj_R M_Mk_readRule 33 [some (.ref 0), some (.int x1)] [.int v4] (SH, jn C5 D) (some (.int v)) (SH, jn (C') D)
    refine mj_if_ne (y := 0) (pc := 33) (tgt := 47) d_Mk_readRule_33 (by decide) mj_hs (fun hc7 => ?_) (fun hc7 => ?_)
    · rw [if_neg hc7] at h
      refine mj_aload_n (pc := 47) (i := 0) d_Mk_readRule_47 rfl rfl (by decide) ?_
      refine mj_getR (pc := 48) d_Mk_readRule_48 fl_Mk_10 sh_0 rfl rfl (by decide) (by decide) (by decide) ?_
      refine mj_getR (pc := 51) d_Mk_readRule_51 fl_Mk_123 sh_1 rfl rfl (by decide) (by decide) (by decide) ?_
      refine mj_iload_n (pc := 54) (i := 1) d_Mk_readRule_54 rfl rfl ?_
      refine mj_aload_n (pc := 55) (i := 0) d_Mk_readRule_55 rfl rfl (by decide) ?_
      refine mj_getR (pc := 56) d_Mk_readRule_56 fl_Mk_34 sh_0 rfl rfl (by decide) (by decide) (by decide) ?_
      refine mj_getR (pc := 59) d_Mk_readRule_59 fl_Mk_127 sh_21 rfl rfl (by decide) (by decide) (by decide) ?_
      obtain ⟨v8, C9, hb10, h⟩ := bd2_some h
      refine mj_callV (pc := 62) (b := 12) (vs := [.int x1, .ref 22]) (st := []) d_Mk_readRule_62 bB_Mk_readRule_Rl_append lk_Mk_131 iv_Rl_append rc_12 rfl (Nat.le_of_ble_eq_true rfl) (Nat.le_of_ble_eq_true rfl) (r_Rl_append hb10) ?_
      show mj_R M_Mk_readRule 65 [some (.ref 0), some (.int x1)] [.int v8] (SH, jn C9 D) (some (.int v)) (SH, jn (C') D)
      cases h
      exact mj_iret (pc := 65) d_Mk_readRule_65 rfl
    · rw [if_pos hc7] at h
      refine mj_bipush (pc := 36) (v := -100) d_Mk_readRule_36 (by decide) ?_
      refine mj_aload_n (pc := 38) (i := 0) d_Mk_readRule_38 rfl rfl (by decide) ?_
      refine mj_getR (pc := 39) d_Mk_readRule_39 fl_Mk_34 sh_0 rfl rfl (by decide) (by decide) (by decide) ?_
      refine cj_getI (pc := 42) d_Mk_readRule_42 fl_Mk_120 sh_21 rfl (by decide) (by decide) (by decide) ?_
      refine mj_isub (pc := 45) d_Mk_readRule_45 ?_
      cases h
      exact mj_iret (pc := 46) d_Mk_readRule_46 rfl
  · rw [if_pos hc3] at h
    refine mj_ldc (pc := 11) (v := -1000000001) d_Mk_readRule_11 k_Mk_54 ?_
    cases h
    exact mj_iret (pc := 13) d_Mk_readRule_13 rfl
set_option maxRecDepth 20000 in
theorem r_Mk_rule {x1 : Int32} {C0 D : St} {v : Int32} {C' : St} (h : f_Mk_rule x1 C0 = some (v, C')) : mj_R M_Mk_rule 0 (mj_lv M_Mk_rule.2.2.1 [.ref 0, .int x1]) [] (SH, jn C0 D) (some (.int v)) (SH, jn (C') D) := by
  show mj_R M_Mk_rule 0 [some (.ref 0), some (.int x1), none] [] _ _ _
  unfold f_Mk_rule at h
  refine mj_aload_n (pc := 0) (i := 0) d_Mk_rule_0 rfl rfl (by decide) ?_
  refine mj_iload_n (pc := 1) (i := 1) d_Mk_rule_1 rfl rfl ?_
  obtain ⟨v1, C2, hb3, h⟩ := bd2_some h
  refine mj_callV (pc := 2) (b := 0) (vs := [.int x1]) (st := []) d_Mk_rule_2 bB_Mk_rule_Mk_readRule lk_Mk_112 iv_Mk_readRule rc_0 rfl (Nat.le_of_ble_eq_true rfl) (Nat.le_of_ble_eq_true rfl) (r_Mk_readRule hb3) ?_
  show mj_R M_Mk_rule 5 [some (.ref 0), some (.int x1), none] [.int v1] (SH, jn C2 D) (some (.int v)) (SH, jn (C') D)
  refine mj_istore_n (pc := 5) (i := 2) d_Mk_rule_5 rfl rfl (by decide) ?_
  refine mj_aload_n (pc := 6) (i := 0) d_Mk_rule_6 rfl rfl (by decide) ?_
  refine mj_getR (pc := 7) d_Mk_rule_7 fl_Mk_27 sh_0 rfl rfl (by decide) (by decide) (by decide) ?_
  refine mj_iconst (pc := 10) (v := 0) d_Mk_rule_10 (by decide) ?_
  refine cj_putI (pc := 11) d_Mk_rule_11 fl_Mk_109 sh_19 rfl (fun _ _ _ h => by cases h; rfl) (by decide) (by decide) (by decide) ?_
  refine mj_iload_n (pc := 14) (i := 2) d_Mk_rule_14 rfl rfl ?_
  cases h
  exact mj_iret (pc := 15) d_Mk_rule_15 rfl
set_option maxRecDepth 20000 in
theorem r_Rl_dropLast {x1 : Int32} {C0 D : St} {v : Int32} {C' : St} (h : f_Rl_dropLast x1 C0 = some (v, C')) : mj_R M_Rl_dropLast 0 (mj_lv M_Rl_dropLast.2.2.1 [.ref 12, .int x1]) [] (SH, jn C0 D) (some (.int v)) (SH, jn (C') D) := by
  show mj_R M_Rl_dropLast 0 [some (.ref 12), some (.int x1)] [] _ _ _
  unfold f_Rl_dropLast at h
  refine mj_aload_n (pc := 0) (i := 0) d_Rl_dropLast_0 rfl rfl (by decide) ?_
  refine mj_getR (pc := 1) d_Rl_dropLast_1 fl_Rl_9 sh_12 rfl rfl (by decide) (by decide) (by decide) ?_
  refine mj_iload_n (pc := 4) (i := 1) d_Rl_dropLast_4 rfl rfl ?_
  obtain ⟨hg1, h⟩ := mj_gd h
  refine cj_iald (pc := 5) d_Rl_dropLast_5 sh_13 (by decide) hg1 (by decide) ?_
  refine mj_if_gt (y := 0) (pc := 6) (tgt := 12) d_Rl_dropLast_6 (by decide) mj_hs (fun hc2 => ?_) (fun hc2 => ?_)
  · rw [if_pos hc2] at h
    refine mj_aload_n (pc := 12) (i := 0) d_Rl_dropLast_12 rfl rfl (by decide) ?_
    refine mj_getR (pc := 13) d_Rl_dropLast_13 fl_Rl_9 sh_12 rfl rfl (by decide) (by decide) (by decide) ?_
    refine mj_iload_n (pc := 16) (i := 1) d_Rl_dropLast_16 rfl rfl ?_
    refine mj_dup2 (pc := 17) d_Rl_dropLast_17 rfl rfl ?_
    refine cj_iald (pc := 18) d_Rl_dropLast_18 sh_13 (by decide) hg1 (by decide) ?_
    refine mj_iconst (pc := 19) (v := 1) d_Rl_dropLast_19 (by decide) ?_
    refine mj_isub (pc := 20) d_Rl_dropLast_20 ?_
    refine cj_iast (pc := 21) d_Rl_dropLast_21 sh_13 (by decide) hg1 (by decide) ?_
    refine mj_aload_n (pc := 22) (i := 0) d_Rl_dropLast_22 rfl rfl (by decide) ?_
    refine mj_getR (pc := 23) d_Rl_dropLast_23 fl_Rl_9 sh_12 rfl rfl (by decide) (by decide) (by decide) ?_
    refine mj_iload_n (pc := 26) (i := 1) d_Rl_dropLast_26 rfl rfl ?_
    refine cj_iald (pc := 27) d_Rl_dropLast_27 sh_13 (by decide) hg1 (by decide) ?_
    cases h
    exact mj_iret (pc := 28) d_Rl_dropLast_28 rfl
  · rw [if_neg hc2] at h
    refine mj_ldc (pc := 9) (v := -1000000002) d_Rl_dropLast_9 k_Rl_29 ?_
    cases h
    exact mj_iret (pc := 11) d_Rl_dropLast_11 rfl
set_option maxRecDepth 20000 in
theorem r_Mk_unrule {x1 : Int32} {C0 D : St} {v : Int32} {C' : St} (h : f_Mk_unrule x1 C0 = some (v, C')) : mj_R M_Mk_unrule 0 (mj_lv M_Mk_unrule.2.2.1 [.ref 0, .int x1]) [] (SH, jn C0 D) (some (.int v)) (SH, jn (C') D) := by
  show mj_R M_Mk_unrule 0 [some (.ref 0), some (.int x1)] [] _ _ _
  unfold f_Mk_unrule at h
  refine mj_aload_n (pc := 0) (i := 0) d_Mk_unrule_0 rfl rfl (by decide) ?_
  refine mj_getR (pc := 1) d_Mk_unrule_1 fl_Mk_10 sh_0 rfl rfl (by decide) (by decide) (by decide) ?_
  refine mj_iload_n (pc := 4) (i := 1) d_Mk_unrule_4 rfl rfl ?_
  obtain ⟨v1, hb2, h⟩ := bd1_some h
  refine mj_callV (pc := 5) (b := 1) (vs := [.int x1]) (st := []) d_Mk_unrule_5 bB_Mk_unrule_Tw_isThere lk_Mk_64 iv_Tw_isThere rc_1 rfl (Nat.le_of_ble_eq_true rfl) (Nat.le_of_ble_eq_true rfl) (r_Tw_isThere hb2) ?_
  show mj_R M_Mk_unrule 8 [some (.ref 0), some (.int x1)] [.int v1] (SH, jn C0 D) (some (.int v)) (SH, jn (C') D)
  refine mj_if_ne (y := 0) (pc := 8) (tgt := 14) d_Mk_unrule_8 (by decide) mj_hs (fun hc3 => ?_) (fun hc3 => ?_)
  · rw [if_neg hc3] at h
    refine mj_aload_n (pc := 14) (i := 0) d_Mk_unrule_14 rfl rfl (by decide) ?_
    refine mj_getR (pc := 15) d_Mk_unrule_15 fl_Mk_10 sh_0 rfl rfl (by decide) (by decide) (by decide) ?_
    refine mj_getR (pc := 18) d_Mk_unrule_18 fl_Mk_123 sh_1 rfl rfl (by decide) (by decide) (by decide) ?_
    refine mj_iload_n (pc := 21) (i := 1) d_Mk_unrule_21 rfl rfl ?_
    obtain ⟨v4, C5, hb6, h⟩ := bd2_some h
    refine mj_callV (pc := 22) (b := 12) (vs := [.int x1]) (st := []) d_Mk_unrule_22 bB_Mk_unrule_Rl_dropLast lk_Mk_136 iv_Rl_dropLast rc_12 rfl (Nat.le_of_ble_eq_true rfl) (Nat.le_of_ble_eq_true rfl) (r_Rl_dropLast hb6) ?_
    show mj_R M_Mk_unrule 25 [some (.ref 0), some (.int x1)] [.int v4] (SH, jn C5 D) (some (.int v)) (SH, jn (C') D)
    cases h
    exact mj_iret (pc := 25) d_Mk_unrule_25 rfl
  · rw [if_pos hc3] at h
    refine mj_ldc (pc := 11) (v := -1000000001) d_Mk_unrule_11 k_Mk_54 ?_
    cases h
    exact mj_iret (pc := 13) d_Mk_unrule_13 rfl
set_option maxRecDepth 20000 in
theorem l_Dy_drawOrder_2 {r : Option Value} {D y : St} : ∀ (n : Nat) (y2 : Int32) (C : St) (Q_ : St), L_Dy_drawOrder_2 n y2 C = some Q_ → mj_R M_Dy_drawOrder 23 [some (.ref 23), some (.ref 1), none, none, none] [] (SH, jn Q_ D) r (SH, y) → mj_R M_Dy_drawOrder 2 [some (.ref 23), some (.ref 1), some (.int y2), none, none] [] (SH, jn C D) r (SH, y) := by
  intro n
  induction n with
  | zero => intro y2 C Q_ h; cases h
  | succ n ih =>
    intro y2 C Q_ h hX
    unfold L_Dy_drawOrder_2 at h
    refine mj_iload_n (pc := 2) (i := 2) d_Dy_drawOrder_2 rfl rfl ?_
    refine mj_aload_n (pc := 3) (i := 1) d_Dy_drawOrder_3 rfl rfl (by decide) ?_
    refine cj_getI (pc := 4) d_Dy_drawOrder_4 fl_Dy_29 sh_1 rfl (by decide) (by decide) (by decide) ?_
    refine mj_icmp_ge (pc := 7) (tgt := 23) d_Dy_drawOrder_7 (by decide) mj_hs (fun hc1 => ?_) (fun hc1 => ?_)
    · rw [if_pos hc1] at h
      cases h
      exact mj_weak _ (And.intro rfl (And.intro rfl trivial)) hX
    · rw [if_neg hc1] at h
      refine mj_aload_n (pc := 10) (i := 0) d_Dy_drawOrder_10 rfl rfl (by decide) ?_
      refine mj_getR (pc := 11) d_Dy_drawOrder_11 fl_Dy_9 sh_23 rfl rfl (by decide) (by decide) (by decide) ?_
      refine mj_iload_n (pc := 14) (i := 2) d_Dy_drawOrder_14 rfl rfl ?_
      refine mj_iload_n (pc := 15) (i := 2) d_Dy_drawOrder_15 rfl rfl ?_
      obtain ⟨hg2, h⟩ := mj_gd h
      refine cj_iast (pc := 16) d_Dy_drawOrder_16 sh_24 (by decide) hg2 (by decide) ?_
      refine mj_iinc (pc := 17) (i := 2) (v := y2 + 1) d_Dy_drawOrder_17 rfl (by rfl) rfl (by decide) ?_
      refine mj_goto (pc := 20) (tgt := 2) d_Dy_drawOrder_20 (by decide) ?_
      exact mj_weak [some (.ref 23), some (.ref 1), some (.int (y2 + 1)), none, none] (And.intro rfl (And.intro rfl (And.intro rfl trivial))) (ih _ _ _ h hX)
set_option maxRecDepth 20000 in
theorem l_Dy_drawOrder_30 {r : Option Value} {D y : St} : ∀ (n : Nat) (y2 : Int32) (C : St) (Q_ : St), L_Dy_drawOrder_30 n y2 C = some Q_ → mj_R M_Dy_drawOrder 103 [some (.ref 23), some (.ref 1), none, none, none] [] (SH, jn Q_ D) r (SH, y) → mj_R M_Dy_drawOrder 30 [some (.ref 23), some (.ref 1), some (.int y2), none, none] [] (SH, jn C D) r (SH, y) := by
  intro n
  induction n with
  | zero => intro y2 C Q_ h; cases h
  | succ n ih =>
    intro y2 C Q_ h hX
    unfold L_Dy_drawOrder_30 at h
    refine mj_iload_n (pc := 30) (i := 2) d_Dy_drawOrder_30 rfl rfl ?_
    refine mj_iconst (pc := 31) (v := 1) d_Dy_drawOrder_31 (by decide) ?_
    refine mj_icmp_lt (pc := 32) (tgt := 103) d_Dy_drawOrder_32 (by decide) mj_hs (fun hc5 => ?_) (fun hc5 => ?_)
    · rw [if_pos hc5] at h
      cases h
      exact mj_weak _ (And.intro rfl (And.intro rfl trivial)) hX
    · rw [if_neg hc5] at h
      refine mj_aload_n (pc := 35) (i := 1) d_Dy_drawOrder_35 rfl rfl (by decide) ?_
      refine mj_aload_n (pc := 36) (i := 1) d_Dy_drawOrder_36 rfl rfl (by decide) ?_
      refine cj_getI (pc := 37) d_Dy_drawOrder_37 fl_Dy_80 sh_1 rfl (by decide) (by decide) (by decide) ?_
      refine mj_i2l (pc := 40) d_Dy_drawOrder_40 ?_
      refine mj_ldc2 (pc := 41) (v := 1103515245) d_Dy_drawOrder_41 k_Dy_83 ?_
      refine mj_lmul (pc := 44) d_Dy_drawOrder_44 ?_
      refine mj_ldc2 (pc := 45) (v := 12345) d_Dy_drawOrder_45 k_Dy_85 ?_
      refine mj_ladd (pc := 48) d_Dy_drawOrder_48 ?_
      refine mj_ldc2 (pc := 49) (v := 2147483648) d_Dy_drawOrder_49 k_Dy_87 ?_
      refine mj_lrem (pc := 52) d_Dy_drawOrder_52 (by decide) ?_
      refine mj_l2i (pc := 53) d_Dy_drawOrder_53 ?_
      refine cj_putI (pc := 54) d_Dy_drawOrder_54 fl_Dy_80 sh_1 rfl (fun _ _ _ h => by cases h; rfl) (by decide) (by decide) (by decide) ?_
      refine mj_aload_n (pc := 57) (i := 1) d_Dy_drawOrder_57 rfl rfl (by decide) ?_
      refine cj_getI (pc := 58) d_Dy_drawOrder_58 fl_Dy_80 sh_1 rfl (by decide) (by decide) (by decide) ?_
      refine mj_ldc (pc := 61) (v := 65536) d_Dy_drawOrder_61 k_Dy_89 ?_
      refine mj_idiv (pc := 63) d_Dy_drawOrder_63 (by decide) ?_
      refine mj_iload_n (pc := 64) (i := 2) d_Dy_drawOrder_64 rfl rfl ?_
      refine mj_iconst (pc := 65) (v := 1) d_Dy_drawOrder_65 (by decide) ?_
      refine mj_iadd (pc := 66) d_Dy_drawOrder_66 ?_
      obtain ⟨hg6, h⟩ := mj_gz h
      refine mj_irem (pc := 67) d_Dy_drawOrder_67 hg6 ?_
      refine mj_istore_n (pc := 68) (i := 3) d_Dy_drawOrder_68 rfl rfl (by decide) ?_
      refine mj_aload_n (pc := 69) (i := 0) d_Dy_drawOrder_69 rfl rfl (by decide) ?_
      refine mj_getR (pc := 70) d_Dy_drawOrder_70 fl_Dy_9 sh_23 rfl rfl (by decide) (by decide) (by decide) ?_
      refine mj_iload_n (pc := 73) (i := 3) d_Dy_drawOrder_73 rfl rfl ?_
      obtain ⟨hg7, h⟩ := mj_gd h
      refine cj_iald (pc := 74) d_Dy_drawOrder_74 sh_24 (by decide) hg7 (by decide) ?_
      refine mj_istore (pc := 75) (i := 4) d_Dy_drawOrder_75 rfl (by decide) ?_
      refine mj_aload_n (pc := 77) (i := 0) d_Dy_drawOrder_77 rfl rfl (by decide) ?_
      refine mj_getR (pc := 78) d_Dy_drawOrder_78 fl_Dy_9 sh_23 rfl rfl (by decide) (by decide) (by decide) ?_
      refine mj_iload_n (pc := 81) (i := 3) d_Dy_drawOrder_81 rfl rfl ?_
      refine mj_aload_n (pc := 82) (i := 0) d_Dy_drawOrder_82 rfl rfl (by decide) ?_
      refine mj_getR (pc := 83) d_Dy_drawOrder_83 fl_Dy_9 sh_23 rfl rfl (by decide) (by decide) (by decide) ?_
      refine mj_iload_n (pc := 86) (i := 2) d_Dy_drawOrder_86 rfl rfl ?_
      obtain ⟨hg8, h⟩ := mj_gd h
      refine cj_iald (pc := 87) d_Dy_drawOrder_87 sh_24 (by decide) hg8 (by decide) ?_
      refine cj_iast (pc := 88) d_Dy_drawOrder_88 sh_24 (by decide) hg7 (by decide) ?_
      refine mj_aload_n (pc := 89) (i := 0) d_Dy_drawOrder_89 rfl rfl (by decide) ?_
      refine mj_getR (pc := 90) d_Dy_drawOrder_90 fl_Dy_9 sh_23 rfl rfl (by decide) (by decide) (by decide) ?_
      refine mj_iload_n (pc := 93) (i := 2) d_Dy_drawOrder_93 rfl rfl ?_
      refine mj_iload (pc := 94) (i := 4) d_Dy_drawOrder_94 rfl ?_
      refine cj_iast (pc := 96) d_Dy_drawOrder_96 sh_24 (by decide) hg8 (by decide) ?_
      refine mj_iinc (pc := 97) (i := 2) (v := y2 + (-1)) d_Dy_drawOrder_97 rfl (by rfl) rfl (by decide) ?_
      refine mj_goto (pc := 100) (tgt := 30) d_Dy_drawOrder_100 (by decide) ?_
      exact mj_weak [some (.ref 23), some (.ref 1), some (.int (y2 + (-1))), none, none] (And.intro rfl (And.intro rfl (And.intro rfl trivial))) (ih _ _ _ h hX)
set_option maxRecDepth 20000 in
theorem l_Dy_drawOrder_105 {r : Option Value} {D y : St} : ∀ (n : Nat) (y2 : Int32) (C : St) (Q_ : St), L_Dy_drawOrder_105 n y2 C = some Q_ → mj_R M_Dy_drawOrder 131 [none, none, none, none, none] [] (SH, jn Q_ D) r (SH, y) → mj_R M_Dy_drawOrder 105 [some (.ref 23), some (.ref 1), some (.int y2), none, none] [] (SH, jn C D) r (SH, y) := by
  intro n
  induction n with
  | zero => intro y2 C Q_ h; cases h
  | succ n ih =>
    intro y2 C Q_ h hX
    unfold L_Dy_drawOrder_105 at h
    refine mj_iload_n (pc := 105) (i := 2) d_Dy_drawOrder_105 rfl rfl ?_
    refine mj_aload_n (pc := 106) (i := 1) d_Dy_drawOrder_106 rfl rfl (by decide) ?_
    refine cj_getI (pc := 107) d_Dy_drawOrder_107 fl_Dy_29 sh_1 rfl (by decide) (by decide) (by decide) ?_
    refine mj_icmp_ge (pc := 110) (tgt := 131) d_Dy_drawOrder_110 (by decide) mj_hs (fun hc11 => ?_) (fun hc11 => ?_)
    · rw [if_pos hc11] at h
      cases h
      exact mj_weak _ trivial hX
    · rw [if_neg hc11] at h
      refine mj_aload_n (pc := 113) (i := 1) d_Dy_drawOrder_113 rfl rfl (by decide) ?_
      refine mj_getR (pc := 114) d_Dy_drawOrder_114 fl_Dy_90 sh_1 rfl rfl (by decide) (by decide) (by decide) ?_
      refine mj_aload_n (pc := 117) (i := 0) d_Dy_drawOrder_117 rfl rfl (by decide) ?_
      refine mj_getR (pc := 118) d_Dy_drawOrder_118 fl_Dy_9 sh_23 rfl rfl (by decide) (by decide) (by decide) ?_
      refine mj_iload_n (pc := 121) (i := 2) d_Dy_drawOrder_121 rfl rfl ?_
      obtain ⟨hg12, h⟩ := mj_gd h
      refine cj_iald (pc := 122) d_Dy_drawOrder_122 sh_24 (by decide) hg12 (by decide) ?_
      refine mj_iload_n (pc := 123) (i := 2) d_Dy_drawOrder_123 rfl rfl ?_
      obtain ⟨hg13, h⟩ := mj_gd h
      refine cj_iast (pc := 124) d_Dy_drawOrder_124 sh_5 (by decide) hg13 (by decide) ?_
      refine mj_iinc (pc := 125) (i := 2) (v := y2 + 1) d_Dy_drawOrder_125 rfl (by rfl) rfl (by decide) ?_
      refine mj_goto (pc := 128) (tgt := 105) d_Dy_drawOrder_128 (by decide) ?_
      exact mj_weak [some (.ref 23), some (.ref 1), some (.int (y2 + 1)), none, none] (And.intro rfl (And.intro rfl (And.intro rfl trivial))) (ih _ _ _ h hX)
set_option maxRecDepth 20000 in
theorem r_Dy_drawOrder  {C0 D : St} {C' : St} (h : f_Dy_drawOrder C0 = some (C')) : mj_R M_Dy_drawOrder 0 (mj_lv M_Dy_drawOrder.2.2.1 [.ref 23, .ref 1]) [] (SH, jn C0 D) none (SH, jn (C') D) := by
  show mj_R M_Dy_drawOrder 0 [some (.ref 23), some (.ref 1), none, none, none] [] _ _ _
  unfold f_Dy_drawOrder at h
  refine mj_iconst (pc := 0) (v := 0) d_Dy_drawOrder_0 (by decide) ?_
  refine mj_istore_n (pc := 1) (i := 2) d_Dy_drawOrder_1 rfl rfl (by decide) ?_
  obtain ⟨C3, hl4, h⟩ := bd1_some h
  refine mj_weak [some (.ref 23), some (.ref 1), some (.int 0), none, none] (And.intro rfl (And.intro rfl (And.intro rfl trivial))) (l_Dy_drawOrder_2 3000 _ _ _ hl4 ?_)
  refine mj_aload_n (pc := 23) (i := 1) d_Dy_drawOrder_23 rfl rfl (by decide) ?_
  refine cj_getI (pc := 24) d_Dy_drawOrder_24 fl_Dy_29 sh_1 rfl (by decide) (by decide) (by decide) ?_
  refine mj_iconst (pc := 27) (v := 1) d_Dy_drawOrder_27 (by decide) ?_
  refine mj_isub (pc := 28) d_Dy_drawOrder_28 ?_
  refine mj_istore_n (pc := 29) (i := 2) d_Dy_drawOrder_29 rfl rfl (by decide) ?_
  obtain ⟨C9, hl10, h⟩ := bd1_some h
  refine mj_weak [some (.ref 23), some (.ref 1), some (.int ((C3 1 0) - 1)), none, none] (And.intro rfl (And.intro rfl (And.intro rfl trivial))) (l_Dy_drawOrder_30 3000 _ _ _ hl10 ?_)
  refine mj_iconst (pc := 103) (v := 0) d_Dy_drawOrder_103 (by decide) ?_
  refine mj_istore_n (pc := 104) (i := 2) d_Dy_drawOrder_104 rfl rfl (by decide) ?_
  obtain ⟨C14, hl15, h⟩ := bd1_some h
  refine mj_weak [some (.ref 23), some (.ref 1), some (.int 0), none, none] (And.intro rfl (And.intro rfl (And.intro rfl trivial))) (l_Dy_drawOrder_105 3000 _ _ _ hl15 ?_)
  cases h
  exact mj_vret (pc := 131) d_Dy_drawOrder_131 rfl
set_option maxRecDepth 20000 in
theorem r_Of_clear  {C0 D : St} {C' : St} (h : f_Of_clear C0 = some (C')) : mj_R M_Of_clear 0 (mj_lv M_Of_clear.2.2.1 [.ref 26]) [] (SH, jn C0 D) none (SH, jn (C') D) := by
  show mj_R M_Of_clear 0 [some (.ref 26)] [] _ _ _
  unfold f_Of_clear at h
  refine mj_aload_n (pc := 0) (i := 0) d_Of_clear_0 rfl rfl (by decide) ?_
  refine mj_iconst (pc := 1) (v := 0) d_Of_clear_1 (by decide) ?_
  refine cj_putI (pc := 2) d_Of_clear_2 fl_Of_27 sh_26 rfl (fun _ _ _ h => by cases h; rfl) (by decide) (by decide) (by decide) ?_
  refine mj_aload_n (pc := 5) (i := 0) d_Of_clear_5 rfl rfl (by decide) ?_
  refine mj_iconst (pc := 6) (v := 0) d_Of_clear_6 (by decide) ?_
  refine cj_putI (pc := 7) d_Of_clear_7 fl_Of_31 sh_26 rfl (fun _ _ _ h => by cases h; rfl) (by decide) (by decide) (by decide) ?_
  cases h
  exact mj_vret (pc := 10) d_Of_clear_10 rfl
set_option maxRecDepth 20000 in
theorem r_Of_clear_1  {C0 D : St} {C' : St} (h : f_Of_clear_1 C0 = some (C')) : mj_R M_Of_clear 0 (mj_lv M_Of_clear.2.2.1 [.ref 32]) [] (SH, jn C0 D) none (SH, jn (C') D) := by
  show mj_R M_Of_clear 0 [some (.ref 32)] [] _ _ _
  unfold f_Of_clear_1 at h
  refine mj_aload_n (pc := 0) (i := 0) d_Of_clear_0 rfl rfl (by decide) ?_
  refine mj_iconst (pc := 1) (v := 0) d_Of_clear_1 (by decide) ?_
  refine cj_putI (pc := 2) d_Of_clear_2 fl_Of_27 sh_32 rfl (fun _ _ _ h => by cases h; rfl) (by decide) (by decide) (by decide) ?_
  refine mj_aload_n (pc := 5) (i := 0) d_Of_clear_5 rfl rfl (by decide) ?_
  refine mj_iconst (pc := 6) (v := 0) d_Of_clear_6 (by decide) ?_
  refine cj_putI (pc := 7) d_Of_clear_7 fl_Of_31 sh_32 rfl (fun _ _ _ h => by cases h; rfl) (by decide) (by decide) (by decide) ?_
  cases h
  exact mj_vret (pc := 10) d_Of_clear_10 rfl
set_option maxRecDepth 20000 in
theorem l_Mt_clear_16 {r : Option Value} {D y : St} : ∀ (n : Nat) (y1 : Int32) (C : St) (Q_ : St), L_Mt_clear_16 n y1 C = some Q_ → mj_R M_Mt_clear 38 [some (.ref 25), none] [] (SH, jn Q_ D) r (SH, y) → mj_R M_Mt_clear 16 [some (.ref 25), some (.int y1)] [] (SH, jn C D) r (SH, y) := by
  intro n
  induction n with
  | zero => intro y1 C Q_ h; cases h
  | succ n ih =>
    intro y1 C Q_ h hX
    unfold L_Mt_clear_16 at h
    refine mj_iload_n (pc := 16) (i := 1) d_Mt_clear_16 rfl rfl ?_
    refine mj_aload_n (pc := 17) (i := 0) d_Mt_clear_17 rfl rfl (by decide) ?_
    refine mj_getR (pc := 18) d_Mt_clear_18 fl_Mt_21 sh_25 rfl rfl (by decide) (by decide) (by decide) ?_
    refine mj_alen (pc := 21) (v := 60) d_Mt_clear_21 sh_38 (by decide) (by decide) ?_
    refine mj_icmp_ge (pc := 22) (tgt := 38) d_Mt_clear_22 (by decide) mj_hs (fun hc5 => ?_) (fun hc5 => ?_)
    · rw [if_pos hc5] at h
      cases h
      exact mj_weak _ (And.intro rfl trivial) hX
    · rw [if_neg hc5] at h
      refine mj_aload_n (pc := 25) (i := 0) d_Mt_clear_25 rfl rfl (by decide) ?_
      refine mj_getR (pc := 26) d_Mt_clear_26 fl_Mt_21 sh_25 rfl rfl (by decide) (by decide) (by decide) ?_
      refine mj_iload_n (pc := 29) (i := 1) d_Mt_clear_29 rfl rfl ?_
      refine mj_iconst (pc := 30) (v := 0) d_Mt_clear_30 (by decide) ?_
      obtain ⟨hg6, h⟩ := mj_gd h
      refine cj_iast (pc := 31) d_Mt_clear_31 sh_38 (by decide) hg6 (by decide) ?_
      refine mj_iinc (pc := 32) (i := 1) (v := y1 + 1) d_Mt_clear_32 rfl (by rfl) rfl (by decide) ?_
      refine mj_goto (pc := 35) (tgt := 16) d_Mt_clear_35 (by decide) ?_
      exact mj_weak [some (.ref 25), some (.int (y1 + 1))] (And.intro rfl (And.intro rfl trivial)) (ih _ _ _ h hX)
set_option maxRecDepth 20000 in
theorem l_Mt_clear_40 {r : Option Value} {D y : St} : ∀ (n : Nat) (y1 : Int32) (C : St) (Q_ : St), L_Mt_clear_40 n y1 C = some Q_ → mj_R M_Mt_clear 62 [none, none] [] (SH, jn Q_ D) r (SH, y) → mj_R M_Mt_clear 40 [some (.ref 25), some (.int y1)] [] (SH, jn C D) r (SH, y) := by
  intro n
  induction n with
  | zero => intro y1 C Q_ h; cases h
  | succ n ih =>
    intro y1 C Q_ h hX
    unfold L_Mt_clear_40 at h
    refine mj_iload_n (pc := 40) (i := 1) d_Mt_clear_40 rfl rfl ?_
    refine mj_aload_n (pc := 41) (i := 0) d_Mt_clear_41 rfl rfl (by decide) ?_
    refine mj_getR (pc := 42) d_Mt_clear_42 fl_Mt_25 sh_25 rfl rfl (by decide) (by decide) (by decide) ?_
    refine mj_alen (pc := 45) (v := 12) d_Mt_clear_45 sh_39 (by decide) (by decide) ?_
    refine mj_icmp_ge (pc := 46) (tgt := 62) d_Mt_clear_46 (by decide) mj_hs (fun hc9 => ?_) (fun hc9 => ?_)
    · rw [if_pos hc9] at h
      cases h
      exact mj_weak _ trivial hX
    · rw [if_neg hc9] at h
      refine mj_aload_n (pc := 49) (i := 0) d_Mt_clear_49 rfl rfl (by decide) ?_
      refine mj_getR (pc := 50) d_Mt_clear_50 fl_Mt_25 sh_25 rfl rfl (by decide) (by decide) (by decide) ?_
      refine mj_iload_n (pc := 53) (i := 1) d_Mt_clear_53 rfl rfl ?_
      refine mj_iconst (pc := 54) (v := 0) d_Mt_clear_54 (by decide) ?_
      obtain ⟨hg10, h⟩ := mj_gd h
      refine cj_iast (pc := 55) d_Mt_clear_55 sh_39 (by decide) hg10 (by decide) ?_
      refine mj_iinc (pc := 56) (i := 1) (v := y1 + 1) d_Mt_clear_56 rfl (by rfl) rfl (by decide) ?_
      refine mj_goto (pc := 59) (tgt := 40) d_Mt_clear_59 (by decide) ?_
      exact mj_weak [some (.ref 25), some (.int (y1 + 1))] (And.intro rfl (And.intro rfl trivial)) (ih _ _ _ h hX)
set_option maxRecDepth 20000 in
theorem r_Mt_clear  {C0 D : St} {C' : St} (h : f_Mt_clear C0 = some (C')) : mj_R M_Mt_clear 0 (mj_lv M_Mt_clear.2.2.1 [.ref 25]) [] (SH, jn C0 D) none (SH, jn (C') D) := by
  show mj_R M_Mt_clear 0 [some (.ref 25), none] [] _ _ _
  unfold f_Mt_clear at h
  refine mj_aload_n (pc := 0) (i := 0) d_Mt_clear_0 rfl rfl (by decide) ?_
  refine mj_getR (pc := 1) d_Mt_clear_1 fl_Mt_12 sh_25 rfl rfl (by decide) (by decide) (by decide) ?_
  obtain ⟨C1, hb2, h⟩ := bd1_some h
  refine mj_callV (pc := 4) (b := 26) (vs := []) (st := []) d_Mt_clear_4 bB_Mt_clear_Of_clear lk_Mt_28 iv_Of_clear rc_26 rfl (Nat.le_of_ble_eq_true rfl) (Nat.le_of_ble_eq_true rfl) (r_Of_clear hb2) ?_
  show mj_R M_Mt_clear 7 [some (.ref 25), none] [] (SH, jn C1 D) none (SH, jn (C') D)
  refine mj_aload_n (pc := 7) (i := 0) d_Mt_clear_7 rfl rfl (by decide) ?_
  refine mj_getR (pc := 8) d_Mt_clear_8 fl_Mt_18 sh_25 rfl rfl (by decide) (by decide) (by decide) ?_
  obtain ⟨C3, hb4, h⟩ := bd1_some h
  refine mj_callV (pc := 11) (b := 32) (vs := []) (st := []) d_Mt_clear_11 bB_Mt_clear_Of_clear lk_Mt_28 iv_Of_clear rc_32 rfl (Nat.le_of_ble_eq_true rfl) (Nat.le_of_ble_eq_true rfl) (r_Of_clear_1 hb4) ?_
  show mj_R M_Mt_clear 14 [some (.ref 25), none] [] (SH, jn C3 D) none (SH, jn (C') D)
  refine mj_iconst (pc := 14) (v := 0) d_Mt_clear_14 (by decide) ?_
  refine mj_istore_n (pc := 15) (i := 1) d_Mt_clear_15 rfl rfl (by decide) ?_
  obtain ⟨C7, hl8, h⟩ := bd1_some h
  refine mj_weak [some (.ref 25), some (.int 0)] (And.intro rfl (And.intro rfl trivial)) (l_Mt_clear_16 3000 _ _ _ hl8 ?_)
  refine mj_iconst (pc := 38) (v := 0) d_Mt_clear_38 (by decide) ?_
  refine mj_istore_n (pc := 39) (i := 1) d_Mt_clear_39 rfl rfl (by decide) ?_
  obtain ⟨C11, hl12, h⟩ := bd1_some h
  refine mj_weak [some (.ref 25), some (.int 0)] (And.intro rfl (And.intro rfl trivial)) (l_Mt_clear_40 3000 _ _ _ hl12 ?_)
  cases h
  exact mj_vret (pc := 62) d_Mt_clear_62 rfl
set_option maxRecDepth 20000 in
theorem r_Rl_get {x1 : Int32} {x2 : Int32} {x3 : Int32} {C0 D : St} {v : Int32} (h : f_Rl_get x1 x2 x3 C0 = some v) : mj_R M_Rl_get 0 (mj_lv M_Rl_get.2.2.1 [.ref 12, .int x1, .int x2, .int x3]) [] (SH, jn C0 D) (some (.int v)) (SH, jn C0 D) := by
  show mj_R M_Rl_get 0 [some (.ref 12), some (.int x1), some (.int x2), some (.int x3)] [] _ _ _
  unfold f_Rl_get at h
  refine mj_aload_n (pc := 0) (i := 0) d_Rl_get_0 rfl rfl (by decide) ?_
  refine mj_getR (pc := 1) d_Rl_get_1 fl_Rl_15 sh_12 rfl rfl (by decide) (by decide) (by decide) ?_
  refine mj_iload_n (pc := 4) (i := 1) d_Rl_get_4 rfl rfl ?_
  refine mj_iload_n (pc := 5) (i := 2) d_Rl_get_5 rfl rfl ?_
  obtain ⟨v1, hb2, h⟩ := bd1_some h
  refine mj_callS (pc := 6) (vs := [.int x1, .int x2]) (st := [.ref 14]) d_Rl_get_6 bB_Rl_get_Rl_start lk_Rl_18 st_Rl_start rfl (Nat.le_of_ble_eq_true rfl) (Nat.le_of_ble_eq_true rfl) (r_Rl_start hb2) ?_
  show mj_R M_Rl_get 9 [some (.ref 12), some (.int x1), some (.int x2), some (.int x3)] [.int v1, .ref 14] (SH, jn C0 D) (some (.int v)) (SH, jn C0 D)
  refine mj_iload_n (pc := 9) (i := 3) d_Rl_get_9 rfl rfl ?_
  refine mj_iadd (pc := 10) d_Rl_get_10 ?_
  obtain ⟨hg3, h⟩ := mj_gd h
  refine cj_iald (pc := 11) d_Rl_get_11 sh_14 (by decide) hg3 (by decide) ?_
  cases h
  exact mj_iret (pc := 12) d_Rl_get_12 rfl
set_option maxRecDepth 20000 in
theorem r_Tw_belongs {x1 : Int32} {x2 : Int32} {C0 D : St} {v : Int32} (h : f_Tw_belongs x1 x2 C0 = some v) : mj_R M_Tw_belongs 0 (mj_lv M_Tw_belongs.2.2.1 [.ref 1, .int x1, .int x2]) [] (SH, jn C0 D) (some (.int v)) (SH, jn C0 D) := by
  show mj_R M_Tw_belongs 0 [some (.ref 1), some (.int x1), some (.int x2), none] [] _ _ _
  unfold f_Tw_belongs at h
  refine mj_aload_n (pc := 0) (i := 0) d_Tw_belongs_0 rfl rfl (by decide) ?_
  refine mj_getR (pc := 1) d_Tw_belongs_1 fl_Tw_15 sh_1 rfl rfl (by decide) (by decide) (by decide) ?_
  refine mj_iload_n (pc := 4) (i := 1) d_Tw_belongs_4 rfl rfl ?_
  obtain ⟨hg1, h⟩ := mj_gd h
  refine cj_iald (pc := 5) d_Tw_belongs_5 sh_2 (by decide) hg1 (by decide) ?_
  refine mj_istore_n (pc := 6) (i := 3) d_Tw_belongs_6 rfl rfl (by decide) ?_
  refine mj_iload_n (pc := 7) (i := 2) d_Tw_belongs_7 rfl rfl ?_
  have k6 : mj_R M_Tw_belongs 31 [none, none, none, none] [.int (if x2 = 0 then 1 else (if (C0 2 x1.toNatClampNeg) = x2 then 1 else (if x2 = 2 then (if (C0 2 x1.toNatClampNeg) = 3 then 1 else 0) else 0)))] (SH, jn C0 D) (some (.int v)) (SH, jn C0 D) := by
    cases h
    exact mj_zret (pc := 31) (ty := .boolean) d_Tw_belongs_31 rfl (mj_b01 (by (repeat' split) <;> simp))
  refine mj_if_eq (y := 0) (pc := 8) (tgt := 26) d_Tw_belongs_8 (by decide) mj_hs (fun hc2 => ?_) (fun hc2 => ?_)
  · refine mj_iconst (pc := 26) (v := 1) d_Tw_belongs_26 (by decide) ?_
    refine mj_goto (pc := 27) (tgt := 31) d_Tw_belongs_27 (by decide) ?_
    simp only [if_pos hc2] at k6
    exact mj_weak _ trivial k6
  · refine mj_iload_n (pc := 11) (i := 3) d_Tw_belongs_11 rfl rfl ?_
    refine mj_iload_n (pc := 12) (i := 2) d_Tw_belongs_12 rfl rfl ?_
    refine mj_icmp_eq (pc := 13) (tgt := 26) d_Tw_belongs_13 (by decide) mj_hs (fun hc3 => ?_) (fun hc3 => ?_)
    · refine mj_iconst (pc := 26) (v := 1) d_Tw_belongs_26 (by decide) ?_
      refine mj_goto (pc := 27) (tgt := 31) d_Tw_belongs_27 (by decide) ?_
      simp only [if_neg hc2, if_pos hc3] at k6
      exact mj_weak _ trivial k6
    · refine mj_iload_n (pc := 16) (i := 2) d_Tw_belongs_16 rfl rfl ?_
      refine mj_iconst (pc := 17) (v := 2) d_Tw_belongs_17 (by decide) ?_
      refine mj_icmp_ne (pc := 18) (tgt := 30) d_Tw_belongs_18 (by decide) mj_hs (fun hc4 => ?_) (fun hc4 => ?_)
      · refine mj_iconst (pc := 30) (v := 0) d_Tw_belongs_30 (by decide) ?_
        simp only [if_neg hc2, if_neg hc3, if_neg hc4] at k6
        exact mj_weak _ trivial k6
      · refine mj_iload_n (pc := 21) (i := 3) d_Tw_belongs_21 rfl rfl ?_
        refine mj_iconst (pc := 22) (v := 3) d_Tw_belongs_22 (by decide) ?_
        refine mj_icmp_ne (pc := 23) (tgt := 30) d_Tw_belongs_23 (by decide) mj_hs (fun hc5 => ?_) (fun hc5 => ?_)
        · refine mj_iconst (pc := 30) (v := 0) d_Tw_belongs_30 (by decide) ?_
          simp only [if_neg hc2, if_neg hc3, if_pos hc4, if_neg hc5] at k6
          exact mj_weak _ trivial k6
        · refine mj_iconst (pc := 26) (v := 1) d_Tw_belongs_26 (by decide) ?_
          refine mj_goto (pc := 27) (tgt := 31) d_Tw_belongs_27 (by decide) ?_
          simp only [if_neg hc2, if_neg hc3, if_pos hc4, if_pos hc5] at k6
          exact mj_weak _ trivial k6
set_option maxRecDepth 20000 in
theorem r_Dy_mayAct {x1 : Int32} {x2 : Int32} {C0 D : St} {v : Int32} (h : f_Dy_mayAct x1 x2 C0 = some v) : mj_R M_Dy_mayAct 0 (mj_lv M_Dy_mayAct.2.2.1 [.ref 1, .int x1, .int x2]) [] (SH, jn C0 D) (some (.int v)) (SH, jn C0 D) := by
  show mj_R M_Dy_mayAct 0 [some (.ref 1), some (.int x1), some (.int x2)] [] _ _ _
  unfold f_Dy_mayAct at h
  refine mj_iload_n (pc := 0) (i := 2) d_Dy_mayAct_0 rfl rfl ?_
  by_cases hc1 : x2 = 0
  · rw [if_pos hc1] at h
    refine mj_lkEq (pc := 1) (tgt := 36) 0 d_Dy_mayAct_1 hc1 (by decide) (by rfl) (by decide) ?_
    refine mj_aload_n (pc := 36) (i := 0) d_Dy_mayAct_36 rfl rfl (by decide) ?_
    refine mj_iload_n (pc := 37) (i := 1) d_Dy_mayAct_37 rfl rfl ?_
    refine mj_iconst (pc := 38) (v := 2) d_Dy_mayAct_38 (by decide) ?_
    obtain ⟨v4, hb5, h⟩ := bd1_some h
    refine mj_callV (pc := 39) (b := 1) (vs := [.int x1, .int 2]) (st := []) d_Dy_mayAct_39 bB_Dy_mayAct_Tw_belongs lk_Dy_123 iv_Tw_belongs rc_1 rfl (Nat.le_of_ble_eq_true rfl) (Nat.le_of_ble_eq_true rfl) (r_Tw_belongs hb5) ?_
    show mj_R M_Dy_mayAct 42 [some (.ref 1), some (.int x1), some (.int x2)] [.int v4] (SH, jn C0 D) (some (.int v)) (SH, jn C0 D)
    obtain ⟨hg6, h⟩ := mj_gd h
    cases h
    exact mj_zret (pc := 42) (ty := .boolean) d_Dy_mayAct_42 rfl (mj_b01 hg6)
  · rw [if_neg hc1] at h
    by_cases hc2 : x2 = 1
    · rw [if_pos hc2] at h
      refine mj_lkEq (pc := 1) (tgt := 43) 1 d_Dy_mayAct_1 hc2 (by decide) (by rfl) (by decide) ?_
      refine mj_aload_n (pc := 43) (i := 0) d_Dy_mayAct_43 rfl rfl (by decide) ?_
      refine mj_iload_n (pc := 44) (i := 1) d_Dy_mayAct_44 rfl rfl ?_
      refine mj_iconst (pc := 45) (v := 1) d_Dy_mayAct_45 (by decide) ?_
      obtain ⟨v7, hb8, h⟩ := bd1_some h
      refine mj_callV (pc := 46) (b := 1) (vs := [.int x1, .int 1]) (st := []) d_Dy_mayAct_46 bB_Dy_mayAct_Tw_belongs lk_Dy_123 iv_Tw_belongs rc_1 rfl (Nat.le_of_ble_eq_true rfl) (Nat.le_of_ble_eq_true rfl) (r_Tw_belongs hb8) ?_
      show mj_R M_Dy_mayAct 49 [some (.ref 1), some (.int x1), some (.int x2)] [.int v7] (SH, jn C0 D) (some (.int v)) (SH, jn C0 D)
      obtain ⟨hg9, h⟩ := mj_gd h
      cases h
      exact mj_zret (pc := 49) (ty := .boolean) d_Dy_mayAct_49 rfl (mj_b01 hg9)
    · rw [if_neg hc2] at h
      by_cases hc3 : x2 = 5
      · rw [if_pos hc3] at h
        refine mj_lkEq (pc := 1) (tgt := 50) 5 d_Dy_mayAct_1 hc3 (by decide) (by rfl) (by decide) ?_
        refine mj_aload_n (pc := 50) (i := 0) d_Dy_mayAct_50 rfl rfl (by decide) ?_
        refine mj_iload_n (pc := 51) (i := 1) d_Dy_mayAct_51 rfl rfl ?_
        refine mj_iconst (pc := 52) (v := 4) d_Dy_mayAct_52 (by decide) ?_
        obtain ⟨v10, hb11, h⟩ := bd1_some h
        refine mj_callV (pc := 53) (b := 1) (vs := [.int x1, .int 4]) (st := []) d_Dy_mayAct_53 bB_Dy_mayAct_Tw_belongs lk_Dy_123 iv_Tw_belongs rc_1 rfl (Nat.le_of_ble_eq_true rfl) (Nat.le_of_ble_eq_true rfl) (r_Tw_belongs hb11) ?_
        show mj_R M_Dy_mayAct 56 [some (.ref 1), some (.int x1), some (.int x2)] [.int v10] (SH, jn C0 D) (some (.int v)) (SH, jn C0 D)
        obtain ⟨w16, hb18, h⟩ := bd1_some h
        have k17 : mj_R M_Dy_mayAct 73 [none, none, none] [.int w16] (SH, jn C0 D) (some (.int v)) (SH, jn C0 D) := by
          obtain ⟨hg19, h⟩ := mj_gd h
          cases h
          exact mj_zret (pc := 73) (ty := .boolean) d_Dy_mayAct_73 rfl (mj_b01 hg19)
        have h := hb18
        refine mj_if_ne (y := 0) (pc := 56) (tgt := 68) d_Dy_mayAct_56 (by decide) mj_hs (fun hc12 => ?_) (fun hc12 => ?_)
        · rw [if_neg hc12] at h
          refine mj_iconst (pc := 68) (v := 1) d_Dy_mayAct_68 (by decide) ?_
          refine mj_goto (pc := 69) (tgt := 73) d_Dy_mayAct_69 (by decide) ?_
          cases h
          exact mj_weak _ trivial k17
        · rw [if_pos hc12] at h
          refine mj_aload_n (pc := 59) (i := 0) d_Dy_mayAct_59 rfl rfl (by decide) ?_
          refine mj_iload_n (pc := 60) (i := 1) d_Dy_mayAct_60 rfl rfl ?_
          refine mj_iconst (pc := 61) (v := 5) d_Dy_mayAct_61 (by decide) ?_
          obtain ⟨v13, hb14, h⟩ := bd1_some h
          refine mj_callV (pc := 62) (b := 1) (vs := [.int x1, .int 5]) (st := []) d_Dy_mayAct_62 bB_Dy_mayAct_Tw_belongs lk_Dy_123 iv_Tw_belongs rc_1 rfl (Nat.le_of_ble_eq_true rfl) (Nat.le_of_ble_eq_true rfl) (r_Tw_belongs hb14) ?_
          show mj_R M_Dy_mayAct 65 [some (.ref 1), some (.int x1), some (.int x2)] [.int v13] (SH, jn C0 D) (some (.int v)) (SH, jn C0 D)
          refine mj_if_eq (y := 0) (pc := 65) (tgt := 72) d_Dy_mayAct_65 (by decide) mj_hs (fun hc15 => ?_) (fun hc15 => ?_)
          · rw [if_pos hc15] at h
            refine mj_iconst (pc := 72) (v := 0) d_Dy_mayAct_72 (by decide) ?_
            cases h
            exact mj_weak _ trivial k17
          · rw [if_neg hc15] at h
            refine mj_iconst (pc := 68) (v := 1) d_Dy_mayAct_68 (by decide) ?_
            refine mj_goto (pc := 69) (tgt := 73) d_Dy_mayAct_69 (by decide) ?_
            cases h
            exact mj_weak _ trivial k17
      · rw [if_neg hc3] at h
        refine mj_lookup (pc := 1) (tgt := 74) d_Dy_mayAct_1 (by decide) (by have q0 := i32_ne (n := 0) (by decide) hc1; have q1 := i32_ne (n := 1) (by decide) hc2; have q2 := i32_ne (n := 5) (by decide) hc3; simp [Op.lookupswitch.offset, Ne.symm q0, Ne.symm q1, Ne.symm q2]; rfl) (by decide) ?_
        refine mj_iconst (pc := 74) (v := 1) d_Dy_mayAct_74 (by decide) ?_
        cases h
        exact mj_zret (pc := 75) (ty := .boolean) d_Dy_mayAct_75 rfl (mj_b01 (by decide))
set_option maxRecDepth 20000 in
theorem r_Wr_get {x1 : Int32} {x2 : Int32} {C0 D : St} {v : Int32} (h : f_Wr_get x1 x2 C0 = some v) : mj_R M_Wr_get 0 (mj_lv M_Wr_get.2.2.1 [.ref 10, .int x1, .int x2]) [] (SH, jn C0 D) (some (.int v)) (SH, jn C0 D) := by
  show mj_R M_Wr_get 0 [some (.ref 10), some (.int x1), some (.int x2)] [] _ _ _
  unfold f_Wr_get at h
  refine mj_aload_n (pc := 0) (i := 0) d_Wr_get_0 rfl rfl (by decide) ?_
  refine mj_getR (pc := 1) d_Wr_get_1 fl_Wr_11 sh_10 rfl rfl (by decide) (by decide) (by decide) ?_
  refine mj_iload_n (pc := 4) (i := 1) d_Wr_get_4 rfl rfl ?_
  refine mj_bipush (pc := 5) (v := 11) d_Wr_get_5 (by decide) ?_
  refine mj_imul (pc := 7) d_Wr_get_7 ?_
  refine mj_iload_n (pc := 8) (i := 2) d_Wr_get_8 rfl rfl ?_
  refine mj_iadd (pc := 9) d_Wr_get_9 ?_
  obtain ⟨hg1, h⟩ := mj_gd h
  refine cj_iald (pc := 10) d_Wr_get_10 sh_11 (by decide) hg1 (by decide) ?_
  cases h
  exact mj_iret (pc := 11) d_Wr_get_11 rfl
set_option maxRecDepth 20000 in
theorem r_Dy_subjectOf {x1 : Int32} {x2 : Int32} {x3 : Int32} {C0 D : St} {v : Int32} (h : f_Dy_subjectOf x1 x2 x3 C0 = some v) : mj_R M_Dy_subjectOf 0 (mj_lv M_Dy_subjectOf.2.2.1 [.ref 1, .int x1, .int x2, .int x3]) [] (SH, jn C0 D) (some (.int v)) (SH, jn C0 D) := by
  show mj_R M_Dy_subjectOf 0 [some (.ref 1), some (.int x1), some (.int x2), some (.int x3)] [] _ _ _
  unfold f_Dy_subjectOf at h
  refine mj_iload_n (pc := 0) (i := 2) d_Dy_subjectOf_0 rfl rfl ?_
  by_cases hc1 : x2 = 0
  · rw [if_pos hc1] at h
    refine mj_tsEq (pc := 1) (tgt := 28) 0 d_Dy_subjectOf_1 hc1 (by decide) (by decide) (by rfl) (by decide) ?_
    refine mj_aload_n (pc := 28) (i := 0) d_Dy_subjectOf_28 rfl rfl (by decide) ?_
    refine mj_getR (pc := 29) d_Dy_subjectOf_29 fl_Dy_132 sh_1 rfl rfl (by decide) (by decide) (by decide) ?_
    refine mj_iload_n (pc := 32) (i := 1) d_Dy_subjectOf_32 rfl rfl ?_
    obtain ⟨hg4, h⟩ := mj_gd h
    refine cj_iald (pc := 33) d_Dy_subjectOf_33 sh_3 (by decide) hg4 (by decide) ?_
    cases h
    exact mj_iret (pc := 34) d_Dy_subjectOf_34 rfl
  · rw [if_neg hc1] at h
    by_cases hc2 : x2 = 1
    · rw [if_pos hc2] at h
      refine mj_tsEq (pc := 1) (tgt := 35) 1 d_Dy_subjectOf_1 hc2 (by decide) (by decide) (by rfl) (by decide) ?_
      refine mj_aload_n (pc := 35) (i := 0) d_Dy_subjectOf_35 rfl rfl (by decide) ?_
      refine mj_getR (pc := 36) d_Dy_subjectOf_36 fl_Dy_54 sh_1 rfl rfl (by decide) (by decide) (by decide) ?_
      refine mj_iload_n (pc := 39) (i := 1) d_Dy_subjectOf_39 rfl rfl ?_
      refine mj_iload_n (pc := 40) (i := 3) d_Dy_subjectOf_40 rfl rfl ?_
      obtain ⟨v5, hb6, h⟩ := bd1_some h
      refine mj_callV (pc := 41) (b := 7) (vs := [.int x1, .int x3]) (st := []) d_Dy_subjectOf_41 bB_Dy_subjectOf_Sk_all lk_Dy_135 iv_Sk_all rc_7 rfl (Nat.le_of_ble_eq_true rfl) (Nat.le_of_ble_eq_true rfl) (r_Sk_all hb6) ?_
      show mj_R M_Dy_subjectOf 44 [some (.ref 1), some (.int x1), some (.int x2), some (.int x3)] [.int v5] (SH, jn C0 D) (some (.int v)) (SH, jn C0 D)
      cases h
      exact mj_iret (pc := 44) d_Dy_subjectOf_44 rfl
    · rw [if_neg hc2] at h
      by_cases hc3 : x2 = 2
      · rw [if_pos hc3] at h
        refine mj_tsEq (pc := 1) (tgt := 45) 2 d_Dy_subjectOf_1 hc3 (by decide) (by decide) (by rfl) (by decide) ?_
        refine mj_aload_n (pc := 45) (i := 0) d_Dy_subjectOf_45 rfl rfl (by decide) ?_
        refine cj_getI (pc := 46) d_Dy_subjectOf_46 fl_Dy_77 sh_1 rfl (by decide) (by decide) (by decide) ?_
        cases h
        exact mj_iret (pc := 49) d_Dy_subjectOf_49 rfl
      · rw [if_neg hc3] at h
        refine mj_tableOut (pc := 1) (tgt := 50) d_Dy_subjectOf_1 (by have q0 := i32_ne (n := 0) (by decide) hc1; have q1 := i32_ne (n := 1) (by decide) hc2; have q2 := i32_ne (n := 2) (by decide) hc3; omega) (by decide) ?_
        refine mj_aload_n (pc := 50) (i := 0) d_Dy_subjectOf_50 rfl rfl (by decide) ?_
        refine mj_getR (pc := 51) d_Dy_subjectOf_51 fl_Dy_58 sh_1 rfl rfl (by decide) (by decide) (by decide) ?_
        refine mj_iload_n (pc := 54) (i := 3) d_Dy_subjectOf_54 rfl rfl ?_
        refine mj_iconst (pc := 55) (v := 2) d_Dy_subjectOf_55 (by decide) ?_
        obtain ⟨v7, hb8, h⟩ := bd1_some h
        refine mj_callV (pc := 56) (b := 10) (vs := [.int x3, .int 2]) (st := []) d_Dy_subjectOf_56 bB_Dy_subjectOf_Wr_get lk_Dy_64 iv_Wr_get rc_10 rfl (Nat.le_of_ble_eq_true rfl) (Nat.le_of_ble_eq_true rfl) (r_Wr_get hb8) ?_
        show mj_R M_Dy_subjectOf 59 [some (.ref 1), some (.int x1), some (.int x2), some (.int x3)] [.int v7] (SH, jn C0 D) (some (.int v)) (SH, jn C0 D)
        cases h
        exact mj_iret (pc := 59) d_Dy_subjectOf_59 rfl
set_option maxRecDepth 20000 in
theorem r_Dy_condHolds {x1 : Int32} {x2 : Int32} {C0 D : St} {v : Int32} (h : f_Dy_condHolds x1 x2 C0 = some v) : mj_R M_Dy_condHolds 0 (mj_lv M_Dy_condHolds.2.2.1 [.ref 1, .int x1, .int x2]) [] (SH, jn C0 D) (some (.int v)) (SH, jn C0 D) := by
  show mj_R M_Dy_condHolds 0 [some (.ref 1), some (.int x1), some (.int x2), none, none, none, none, none] [] _ _ _
  unfold f_Dy_condHolds at h
  refine mj_aload_n (pc := 0) (i := 0) d_Dy_condHolds_0 rfl rfl (by decide) ?_
  refine mj_getR (pc := 1) d_Dy_condHolds_1 fl_Dy_93 sh_1 rfl rfl (by decide) (by decide) (by decide) ?_
  refine mj_iload_n (pc := 4) (i := 1) d_Dy_condHolds_4 rfl rfl ?_
  refine mj_iload_n (pc := 5) (i := 2) d_Dy_condHolds_5 rfl rfl ?_
  refine mj_iconst (pc := 6) (v := 5) d_Dy_condHolds_6 (by decide) ?_
  obtain ⟨v1, hb2, h⟩ := bd1_some h
  refine mj_callV (pc := 7) (b := 12) (vs := [.int x1, .int x2, .int 5]) (st := []) d_Dy_condHolds_7 bB_Dy_condHolds_Rl_get lk_Dy_114 iv_Rl_get rc_12 rfl (Nat.le_of_ble_eq_true rfl) (Nat.le_of_ble_eq_true rfl) (r_Rl_get hb2) ?_
  show mj_R M_Dy_condHolds 10 [some (.ref 1), some (.int x1), some (.int x2), none, none, none, none, none] [.int v1] (SH, jn C0 D) (some (.int v)) (SH, jn C0 D)
  refine mj_istore_n (pc := 10) (i := 3) d_Dy_condHolds_10 rfl rfl (by decide) ?_
  refine mj_iload_n (pc := 11) (i := 3) d_Dy_condHolds_11 rfl rfl ?_
  refine mj_ldc (pc := 12) (v := -1000000005) d_Dy_condHolds_12 k_Dy_127 ?_
  refine mj_icmp_ne (pc := 14) (tgt := 19) d_Dy_condHolds_14 (by decide) mj_hs (fun hc3 => ?_) (fun hc3 => ?_)
  · rw [if_neg hc3] at h
    refine mj_iload_n (pc := 19) (i := 3) d_Dy_condHolds_19 rfl rfl ?_
    refine mj_iconst (pc := 20) (v := 4) d_Dy_condHolds_20 (by decide) ?_
    have k5 : mj_R M_Dy_condHolds 29 [some (.ref 1), some (.int x1), some (.int x2), some (.int v1), none, none, none, none] [.int (if v1 < 4 then 0 else 1)] (SH, jn C0 D) (some (.int v)) (SH, jn C0 D) := by
      refine mj_istore (pc := 29) (i := 4) d_Dy_condHolds_29 rfl (by decide) ?_
      refine mj_iload (pc := 31) (i := 4) d_Dy_condHolds_31 rfl ?_
      have k7 : mj_R M_Dy_condHolds 43 [some (.ref 1), some (.int x1), some (.int x2), none, some (.int (if v1 < 4 then 0 else 1)), none, none, none] [.int (if (if v1 < 4 then 0 else 1) = 0 then v1 else v1 - 4)] (SH, jn C0 D) (some (.int v)) (SH, jn C0 D) := by
        refine mj_istore (pc := 43) (i := 5) d_Dy_condHolds_43 rfl (by decide) ?_
        refine mj_aload_n (pc := 45) (i := 0) d_Dy_condHolds_45 rfl rfl (by decide) ?_
        refine mj_iload_n (pc := 46) (i := 1) d_Dy_condHolds_46 rfl rfl ?_
        refine mj_iload (pc := 47) (i := 5) d_Dy_condHolds_47 rfl ?_
        refine mj_aload_n (pc := 49) (i := 0) d_Dy_condHolds_49 rfl rfl (by decide) ?_
        refine mj_getR (pc := 50) d_Dy_condHolds_50 fl_Dy_93 sh_1 rfl rfl (by decide) (by decide) (by decide) ?_
        refine mj_iload_n (pc := 53) (i := 1) d_Dy_condHolds_53 rfl rfl ?_
        refine mj_iload_n (pc := 54) (i := 2) d_Dy_condHolds_54 rfl rfl ?_
        refine mj_bipush (pc := 55) (v := 6) d_Dy_condHolds_55 (by decide) ?_
        obtain ⟨v8, hb9, h⟩ := bd1_some h
        refine mj_callV (pc := 57) (b := 12) (vs := [.int x1, .int x2, .int 6]) (st := [.int (if (if v1 < 4 then 0 else 1) = 0 then v1 else v1 - 4), .int x1, .ref 1]) d_Dy_condHolds_57 bB_Dy_condHolds_Rl_get lk_Dy_114 iv_Rl_get rc_12 rfl (Nat.le_of_ble_eq_true rfl) (Nat.le_of_ble_eq_true rfl) (r_Rl_get hb9) ?_
        show mj_R M_Dy_condHolds 60 [some (.ref 1), some (.int x1), some (.int x2), none, some (.int (if v1 < 4 then 0 else 1)), some (.int (if (if v1 < 4 then 0 else 1) = 0 then v1 else v1 - 4)), none, none] [.int v8, .int (if (if v1 < 4 then 0 else 1) = 0 then v1 else v1 - 4), .int x1, .ref 1] (SH, jn C0 D) (some (.int v)) (SH, jn C0 D)
        obtain ⟨v10, hb11, h⟩ := bd1_some h
        refine mj_callS (pc := 60) (vs := [.ref 1, .int x1, .int (if (if v1 < 4 then 0 else 1) = 0 then v1 else v1 - 4), .int v8]) (st := []) d_Dy_condHolds_60 bB_Dy_condHolds_Dy_subjectOf lk_Dy_128 st_Dy_subjectOf rfl (Nat.le_of_ble_eq_true rfl) (Nat.le_of_ble_eq_true rfl) (r_Dy_subjectOf hb11) ?_
        show mj_R M_Dy_condHolds 63 [some (.ref 1), some (.int x1), some (.int x2), none, some (.int (if v1 < 4 then 0 else 1)), some (.int (if (if v1 < 4 then 0 else 1) = 0 then v1 else v1 - 4)), none, none] [.int v10] (SH, jn C0 D) (some (.int v)) (SH, jn C0 D)
        refine mj_istore (pc := 63) (i := 6) d_Dy_condHolds_63 rfl (by decide) ?_
        refine mj_aload_n (pc := 65) (i := 0) d_Dy_condHolds_65 rfl rfl (by decide) ?_
        refine mj_getR (pc := 66) d_Dy_condHolds_66 fl_Dy_93 sh_1 rfl rfl (by decide) (by decide) (by decide) ?_
        refine mj_iload_n (pc := 69) (i := 1) d_Dy_condHolds_69 rfl rfl ?_
        refine mj_iload_n (pc := 70) (i := 2) d_Dy_condHolds_70 rfl rfl ?_
        refine mj_bipush (pc := 71) (v := 7) d_Dy_condHolds_71 (by decide) ?_
        obtain ⟨v12, hb13, h⟩ := bd1_some h
        refine mj_callV (pc := 73) (b := 12) (vs := [.int x1, .int x2, .int 7]) (st := []) d_Dy_condHolds_73 bB_Dy_condHolds_Rl_get lk_Dy_114 iv_Rl_get rc_12 rfl (Nat.le_of_ble_eq_true rfl) (Nat.le_of_ble_eq_true rfl) (r_Rl_get hb13) ?_
        show mj_R M_Dy_condHolds 76 [some (.ref 1), some (.int x1), some (.int x2), none, some (.int (if v1 < 4 then 0 else 1)), some (.int (if (if v1 < 4 then 0 else 1) = 0 then v1 else v1 - 4)), some (.int v10), none] [.int v12] (SH, jn C0 D) (some (.int v)) (SH, jn C0 D)
        refine mj_istore (pc := 76) (i := 7) d_Dy_condHolds_76 rfl (by decide) ?_
        refine mj_iload (pc := 78) (i := 4) d_Dy_condHolds_78 rfl ?_
        have k17 : mj_R M_Dy_condHolds 110 [none, none, none, none, none, none, none, none] [.int (if (if v1 < 4 then 0 else 1) = 0 then (if v12 ≤ v10 then 0 else 1) else (if v10 ≤ v12 then 0 else 1))] (SH, jn C0 D) (some (.int v)) (SH, jn C0 D) := by
          cases h
          exact mj_zret (pc := 110) (ty := .boolean) d_Dy_condHolds_110 rfl (mj_b01 (by (repeat' split) <;> simp))
        refine mj_if_eq (y := 0) (pc := 80) (tgt := 98) d_Dy_condHolds_80 (by decide) mj_hs (fun hc14 => ?_) (fun hc14 => ?_)
        · refine mj_iload (pc := 98) (i := 6) d_Dy_condHolds_98 rfl ?_
          refine mj_iload (pc := 100) (i := 7) d_Dy_condHolds_100 rfl ?_
          refine mj_icmp_ge (pc := 102) (tgt := 109) d_Dy_condHolds_102 (by decide) mj_hs (fun hc15 => ?_) (fun hc15 => ?_)
          · refine mj_iconst (pc := 109) (v := 0) d_Dy_condHolds_109 (by decide) ?_
            simp only [if_pos hc14, if_pos hc15] at k17
            exact mj_weak _ trivial k17
          · refine mj_iconst (pc := 105) (v := 1) d_Dy_condHolds_105 (by decide) ?_
            refine mj_goto (pc := 106) (tgt := 110) d_Dy_condHolds_106 (by decide) ?_
            simp only [if_pos hc14, if_neg hc15] at k17
            exact mj_weak _ trivial k17
        · refine mj_iload (pc := 83) (i := 6) d_Dy_condHolds_83 rfl ?_
          refine mj_iload (pc := 85) (i := 7) d_Dy_condHolds_85 rfl ?_
          refine mj_icmp_le (pc := 87) (tgt := 94) d_Dy_condHolds_87 (by decide) mj_hs (fun hc16 => ?_) (fun hc16 => ?_)
          · refine mj_iconst (pc := 94) (v := 0) d_Dy_condHolds_94 (by decide) ?_
            refine mj_goto (pc := 95) (tgt := 110) d_Dy_condHolds_95 (by decide) ?_
            simp only [if_neg hc14, if_pos hc16] at k17
            exact mj_weak _ trivial k17
          · refine mj_iconst (pc := 90) (v := 1) d_Dy_condHolds_90 (by decide) ?_
            refine mj_goto (pc := 91) (tgt := 110) d_Dy_condHolds_91 (by decide) ?_
            simp only [if_neg hc14, if_neg hc16] at k17
            exact mj_weak _ trivial k17
      refine mj_if_eq (y := 0) (pc := 33) (tgt := 42) d_Dy_condHolds_33 (by decide) mj_hs (fun hc6 => ?_) (fun hc6 => ?_)
      · refine mj_iload_n (pc := 42) (i := 3) d_Dy_condHolds_42 rfl rfl ?_
        simp only [if_pos hc6] at k7
        exact mj_weak _ (And.intro rfl (And.intro rfl (And.intro rfl (And.intro rfl trivial)))) k7
      · refine mj_iload_n (pc := 36) (i := 3) d_Dy_condHolds_36 rfl rfl ?_
        refine mj_iconst (pc := 37) (v := 4) d_Dy_condHolds_37 (by decide) ?_
        refine mj_isub (pc := 38) d_Dy_condHolds_38 ?_
        refine mj_goto (pc := 39) (tgt := 43) d_Dy_condHolds_39 (by decide) ?_
        simp only [if_neg hc6] at k7
        exact mj_weak _ (And.intro rfl (And.intro rfl (And.intro rfl (And.intro rfl trivial)))) k7
    refine mj_icmp_lt (pc := 21) (tgt := 28) d_Dy_condHolds_21 (by decide) mj_hs (fun hc4 => ?_) (fun hc4 => ?_)
    · refine mj_iconst (pc := 28) (v := 0) d_Dy_condHolds_28 (by decide) ?_
      simp only [if_pos hc4] at k5
      exact mj_weak _ (And.intro rfl (And.intro rfl (And.intro rfl (And.intro rfl trivial)))) k5
    · refine mj_iconst (pc := 24) (v := 1) d_Dy_condHolds_24 (by decide) ?_
      refine mj_goto (pc := 25) (tgt := 29) d_Dy_condHolds_25 (by decide) ?_
      simp only [if_neg hc4] at k5
      exact mj_weak _ (And.intro rfl (And.intro rfl (And.intro rfl (And.intro rfl trivial)))) k5
  · rw [if_pos hc3] at h
    refine mj_iconst (pc := 17) (v := 1) d_Dy_condHolds_17 (by decide) ?_
    cases h
    exact mj_zret (pc := 18) (ty := .boolean) d_Dy_condHolds_18 rfl (mj_b01 (by decide))
set_option maxRecDepth 20000 in
theorem r_Dy_fires {x1 : Int32} {x2 : Int32} {C0 D : St} {v : Int32} (h : f_Dy_fires x1 x2 C0 = some v) : mj_R M_Dy_fires 0 (mj_lv M_Dy_fires.2.2.1 [.ref 1, .int x1, .int x2]) [] (SH, jn C0 D) (some (.int v)) (SH, jn C0 D) := by
  show mj_R M_Dy_fires 0 [some (.ref 1), some (.int x1), some (.int x2), none] [] _ _ _
  unfold f_Dy_fires at h
  refine mj_aload_n (pc := 0) (i := 0) d_Dy_fires_0 rfl rfl (by decide) ?_
  refine mj_getR (pc := 1) d_Dy_fires_1 fl_Dy_93 sh_1 rfl rfl (by decide) (by decide) (by decide) ?_
  refine mj_iload_n (pc := 4) (i := 1) d_Dy_fires_4 rfl rfl ?_
  refine mj_iload_n (pc := 5) (i := 2) d_Dy_fires_5 rfl rfl ?_
  refine mj_iconst (pc := 6) (v := 4) d_Dy_fires_6 (by decide) ?_
  obtain ⟨v1, hb2, h⟩ := bd1_some h
  refine mj_callV (pc := 7) (b := 12) (vs := [.int x1, .int x2, .int 4]) (st := []) d_Dy_fires_7 bB_Dy_fires_Rl_get lk_Dy_114 iv_Rl_get rc_12 rfl (Nat.le_of_ble_eq_true rfl) (Nat.le_of_ble_eq_true rfl) (r_Rl_get hb2) ?_
  show mj_R M_Dy_fires 10 [some (.ref 1), some (.int x1), some (.int x2), none] [.int v1] (SH, jn C0 D) (some (.int v)) (SH, jn C0 D)
  refine mj_istore_n (pc := 10) (i := 3) d_Dy_fires_10 rfl rfl (by decide) ?_
  refine mj_aload_n (pc := 11) (i := 0) d_Dy_fires_11 rfl rfl (by decide) ?_
  refine mj_iload_n (pc := 12) (i := 1) d_Dy_fires_12 rfl rfl ?_
  refine mj_aload_n (pc := 13) (i := 0) d_Dy_fires_13 rfl rfl (by decide) ?_
  refine mj_getR (pc := 14) d_Dy_fires_14 fl_Dy_93 sh_1 rfl rfl (by decide) (by decide) (by decide) ?_
  refine mj_iload_n (pc := 17) (i := 1) d_Dy_fires_17 rfl rfl ?_
  refine mj_iload_n (pc := 18) (i := 2) d_Dy_fires_18 rfl rfl ?_
  refine mj_iconst (pc := 19) (v := 0) d_Dy_fires_19 (by decide) ?_
  obtain ⟨v3, hb4, h⟩ := bd1_some h
  refine mj_callV (pc := 20) (b := 12) (vs := [.int x1, .int x2, .int 0]) (st := [.int x1, .ref 1]) d_Dy_fires_20 bB_Dy_fires_Rl_get lk_Dy_114 iv_Rl_get rc_12 rfl (Nat.le_of_ble_eq_true rfl) (Nat.le_of_ble_eq_true rfl) (r_Rl_get hb4) ?_
  show mj_R M_Dy_fires 23 [some (.ref 1), some (.int x1), some (.int x2), some (.int v1)] [.int v3, .int x1, .ref 1] (SH, jn C0 D) (some (.int v)) (SH, jn C0 D)
  obtain ⟨v5, hb6, h⟩ := bd1_some h
  refine mj_callS (pc := 23) (vs := [.ref 1, .int x1, .int v3]) (st := []) d_Dy_fires_23 bB_Dy_fires_Dy_mayAct lk_Dy_117 st_Dy_mayAct rfl (Nat.le_of_ble_eq_true rfl) (Nat.le_of_ble_eq_true rfl) (r_Dy_mayAct hb6) ?_
  show mj_R M_Dy_fires 26 [some (.ref 1), some (.int x1), some (.int x2), some (.int v1)] [.int v5] (SH, jn C0 D) (some (.int v)) (SH, jn C0 D)
  obtain ⟨w14, hb16, h⟩ := bd1_some h
  have k15 : mj_R M_Dy_fires 56 [none, none, none, none] [.int w14] (SH, jn C0 D) (some (.int v)) (SH, jn C0 D) := by
    obtain ⟨hg17, h⟩ := mj_gd h
    cases h
    exact mj_zret (pc := 56) (ty := .boolean) d_Dy_fires_56 rfl (mj_b01 hg17)
  have h := hb16
  refine mj_if_eq (y := 0) (pc := 26) (tgt := 55) d_Dy_fires_26 (by decide) mj_hs (fun hc7 => ?_) (fun hc7 => ?_)
  · rw [if_pos hc7] at h
    refine mj_iconst (pc := 55) (v := 0) d_Dy_fires_55 (by decide) ?_
    cases h
    exact mj_weak _ trivial k15
  · rw [if_neg hc7] at h
    refine mj_iload_n (pc := 29) (i := 3) d_Dy_fires_29 rfl rfl ?_
    refine mj_if_le (y := 0) (pc := 30) (tgt := 55) d_Dy_fires_30 (by decide) mj_hs (fun hc8 => ?_) (fun hc8 => ?_)
    · rw [if_pos hc8] at h
      refine mj_iconst (pc := 55) (v := 0) d_Dy_fires_55 (by decide) ?_
      cases h
      exact mj_weak _ trivial k15
    · rw [if_neg hc8] at h
      refine mj_aload_n (pc := 33) (i := 0) d_Dy_fires_33 rfl rfl (by decide) ?_
      refine cj_getI (pc := 34) d_Dy_fires_34 fl_Dy_77 sh_1 rfl (by decide) (by decide) (by decide) ?_
      refine mj_iload_n (pc := 37) (i := 3) d_Dy_fires_37 rfl rfl ?_
      obtain ⟨hg9, h⟩ := mj_gz h
      refine mj_irem (pc := 38) d_Dy_fires_38 hg9 ?_
      refine mj_if_ne (y := 0) (pc := 39) (tgt := 55) d_Dy_fires_39 (by decide) mj_hs (fun hc10 => ?_) (fun hc10 => ?_)
      · rw [if_neg hc10] at h
        refine mj_iconst (pc := 55) (v := 0) d_Dy_fires_55 (by decide) ?_
        cases h
        exact mj_weak _ trivial k15
      · rw [if_pos hc10] at h
        refine mj_aload_n (pc := 42) (i := 0) d_Dy_fires_42 rfl rfl (by decide) ?_
        refine mj_iload_n (pc := 43) (i := 1) d_Dy_fires_43 rfl rfl ?_
        refine mj_iload_n (pc := 44) (i := 2) d_Dy_fires_44 rfl rfl ?_
        obtain ⟨v11, hb12, h⟩ := bd1_some h
        refine mj_callS (pc := 45) (vs := [.ref 1, .int x1, .int x2]) (st := []) d_Dy_fires_45 bB_Dy_fires_Dy_condHolds lk_Dy_120 st_Dy_condHolds rfl (Nat.le_of_ble_eq_true rfl) (Nat.le_of_ble_eq_true rfl) (r_Dy_condHolds hb12) ?_
        show mj_R M_Dy_fires 48 [some (.ref 1), some (.int x1), some (.int x2), some (.int v1)] [.int v11] (SH, jn C0 D) (some (.int v)) (SH, jn C0 D)
        refine mj_if_eq (y := 0) (pc := 48) (tgt := 55) d_Dy_fires_48 (by decide) mj_hs (fun hc13 => ?_) (fun hc13 => ?_)
        · rw [if_pos hc13] at h
          refine mj_iconst (pc := 55) (v := 0) d_Dy_fires_55 (by decide) ?_
          cases h
          exact mj_weak _ trivial k15
        · rw [if_neg hc13] at h
          refine mj_iconst (pc := 51) (v := 1) d_Dy_fires_51 (by decide) ?_
          refine mj_goto (pc := 52) (tgt := 56) d_Dy_fires_52 (by decide) ?_
          cases h
          exact mj_weak _ trivial k15
set_option maxRecDepth 20000 in
theorem r_Rl_countFire {x1 : Int32} {x2 : Int32} {C0 D : St} {C' : St} (h : f_Rl_countFire x1 x2 C0 = some (C')) : mj_R M_Rl_countFire 0 (mj_lv M_Rl_countFire.2.2.1 [.ref 12, .int x1, .int x2]) [] (SH, jn C0 D) none (SH, jn (C') D) := by
  show mj_R M_Rl_countFire 0 [some (.ref 12), some (.int x1), some (.int x2)] [] _ _ _
  unfold f_Rl_countFire at h
  refine mj_aload_n (pc := 0) (i := 0) d_Rl_countFire_0 rfl rfl (by decide) ?_
  refine mj_getR (pc := 1) d_Rl_countFire_1 fl_Rl_15 sh_12 rfl rfl (by decide) (by decide) (by decide) ?_
  refine mj_iload_n (pc := 4) (i := 1) d_Rl_countFire_4 rfl rfl ?_
  refine mj_iload_n (pc := 5) (i := 2) d_Rl_countFire_5 rfl rfl ?_
  obtain ⟨v1, hb2, h⟩ := bd1_some h
  refine mj_callS (pc := 6) (vs := [.int x1, .int x2]) (st := [.ref 14]) d_Rl_countFire_6 bB_Rl_countFire_Rl_start lk_Rl_18 st_Rl_start rfl (Nat.le_of_ble_eq_true rfl) (Nat.le_of_ble_eq_true rfl) (r_Rl_start hb2) ?_
  show mj_R M_Rl_countFire 9 [some (.ref 12), some (.int x1), some (.int x2)] [.int v1, .ref 14] (SH, jn C0 D) none (SH, jn (C') D)
  refine mj_bipush (pc := 9) (v := 8) d_Rl_countFire_9 (by decide) ?_
  refine mj_iadd (pc := 11) d_Rl_countFire_11 ?_
  refine mj_dup2 (pc := 12) d_Rl_countFire_12 rfl rfl ?_
  obtain ⟨hg3, h⟩ := mj_gd h
  refine cj_iald (pc := 13) d_Rl_countFire_13 sh_14 (by decide) hg3 (by decide) ?_
  refine mj_iconst (pc := 14) (v := 1) d_Rl_countFire_14 (by decide) ?_
  refine mj_iadd (pc := 15) d_Rl_countFire_15 ?_
  refine cj_iast (pc := 16) d_Rl_countFire_16 sh_14 (by decide) hg3 (by decide) ?_
  cases h
  exact mj_vret (pc := 17) d_Rl_countFire_17 rfl
set_option maxRecDepth 20000 in
theorem r_Mt_freeOf {x2 : Int32} {x3 : Int32} {C0 D : St} {v : Int32} (h : f_Mt_freeOf x2 x3 C0 = some v) : mj_R M_Mt_freeOf 0 (mj_lv M_Mt_freeOf.2.2.1 [.ref 25, .ref 1, .int x2, .int x3]) [] (SH, jn C0 D) (some (.int v)) (SH, jn C0 D) := by
  show mj_R M_Mt_freeOf 0 [some (.ref 25), some (.ref 1), some (.int x2), some (.int x3)] [] _ _ _
  unfold f_Mt_freeOf at h
  refine mj_aload_n (pc := 0) (i := 1) d_Mt_freeOf_0 rfl rfl (by decide) ?_
  refine mj_getR (pc := 1) d_Mt_freeOf_1 fl_Mt_31 sh_1 rfl rfl (by decide) (by decide) (by decide) ?_
  refine mj_iload_n (pc := 4) (i := 2) d_Mt_freeOf_4 rfl rfl ?_
  refine mj_iload_n (pc := 5) (i := 3) d_Mt_freeOf_5 rfl rfl ?_
  obtain ⟨v1, hb2, h⟩ := bd1_some h
  refine mj_callV (pc := 6) (b := 7) (vs := [.int x2, .int x3]) (st := []) d_Mt_freeOf_6 bB_Mt_freeOf_Sk_all lk_Mt_37 iv_Sk_all rc_7 rfl (Nat.le_of_ble_eq_true rfl) (Nat.le_of_ble_eq_true rfl) (r_Sk_all hb2) ?_
  show mj_R M_Mt_freeOf 9 [some (.ref 25), some (.ref 1), some (.int x2), some (.int x3)] [.int v1] (SH, jn C0 D) (some (.int v)) (SH, jn C0 D)
  refine mj_aload_n (pc := 9) (i := 0) d_Mt_freeOf_9 rfl rfl (by decide) ?_
  refine mj_getR (pc := 10) d_Mt_freeOf_10 fl_Mt_21 sh_25 rfl rfl (by decide) (by decide) (by decide) ?_
  refine mj_iload_n (pc := 13) (i := 2) d_Mt_freeOf_13 rfl rfl ?_
  refine mj_iconst (pc := 14) (v := 5) d_Mt_freeOf_14 (by decide) ?_
  refine mj_imul (pc := 15) d_Mt_freeOf_15 ?_
  refine mj_iload_n (pc := 16) (i := 3) d_Mt_freeOf_16 rfl rfl ?_
  refine mj_iadd (pc := 17) d_Mt_freeOf_17 ?_
  obtain ⟨hg3, h⟩ := mj_gd h
  refine cj_iald (pc := 18) d_Mt_freeOf_18 sh_38 (by decide) hg3 (by decide) ?_
  refine mj_isub (pc := 19) d_Mt_freeOf_19 ?_
  cases h
  exact mj_iret (pc := 20) d_Mt_freeOf_20 rfl
set_option maxRecDepth 20000 in
theorem r_Dy_allowed {x0 : Int32} {x1 : Int32} {x2 : Int32} {mem : mj_Mem} {v : Int32} (h : f_Dy_allowed x0 x1 x2 = some v) : mj_R M_Dy_allowed 0 (mj_lv M_Dy_allowed.2.2.1 [.int x0, .int x1, .int x2]) [] mem (some (.int v)) mem := by
  show mj_R M_Dy_allowed 0 [some (.int x0), some (.int x1), some (.int x2)] [] _ _ _
  unfold f_Dy_allowed at h
  refine mj_iload_n (pc := 0) (i := 1) d_Dy_allowed_0 rfl rfl ?_
  obtain ⟨w3, hb5, h⟩ := bd1_some h
  have k4 : mj_R M_Dy_allowed 15 [none, none, none] [.int w3] mem (some (.int v)) mem := by
    cases h
    exact mj_iret (pc := 15) d_Dy_allowed_15 rfl
  have h := hb5
  refine mj_if_le (y := 0) (pc := 1) (tgt := 14) d_Dy_allowed_1 (by decide) mj_hn (fun hc1 => ?_) (fun hc1 => ?_)
  · rw [if_pos hc1] at h
    refine mj_iload_n (pc := 14) (i := 0) d_Dy_allowed_14 rfl rfl ?_
    cases h
    exact mj_weak _ trivial k4
  · rw [if_neg hc1] at h
    refine mj_iload_n (pc := 4) (i := 0) d_Dy_allowed_4 rfl rfl ?_
    refine mj_iload_n (pc := 5) (i := 2) d_Dy_allowed_5 rfl rfl ?_
    refine mj_iload_n (pc := 6) (i := 1) d_Dy_allowed_6 rfl rfl ?_
    obtain ⟨hg2, h⟩ := mj_gz h
    refine mj_idiv (pc := 7) d_Dy_allowed_7 hg2 ?_
    refine mj_min (pc := 8) d_Dy_allowed_8 mn_Dy_156 (by decide) (Nat.le_of_ble_eq_true rfl) ?_
    refine mj_goto (pc := 11) (tgt := 15) d_Dy_allowed_11 (by decide) ?_
    cases h
    exact mj_weak _ trivial k4
set_option maxRecDepth 20000 in
theorem l_Sk_use_14 {r : Option Value} {D y : St} : ∀ (n : Nat) (y3 : Int32) (y4 : Int32) (y5 : Int32) (y6 : Int32) (C : St) (o5_ : Int32) (Q_ : St), L_Sk_use_14 n y3 y4 y5 y6 C = some (o5_, Q_) → mj_R M_Sk_use 75 [some (.ref 7), none, none, some (.int y3), some (.int y4), some (.int o5_), none, none] [] (SH, jn Q_ D) r (SH, y) → mj_R M_Sk_use 14 [some (.ref 7), none, none, some (.int y3), some (.int y4), some (.int y5), some (.int y6), none] [] (SH, jn C D) r (SH, y) := by
  intro n
  induction n with
  | zero => intro y3 y4 y5 y6 C o5_ Q_ h; cases h
  | succ n ih =>
    intro y3 y4 y5 y6 C o5_ Q_ h hX
    unfold L_Sk_use_14 at h
    refine mj_iload (pc := 14) (i := 6) d_Sk_use_14 rfl ?_
    refine mj_if_lt (y := 0) (pc := 16) (tgt := 75) d_Sk_use_16 (by decide) mj_hs (fun hc1 => ?_) (fun hc1 => ?_)
    · rw [if_pos hc1] at h
      cases h
      exact mj_weak _ (And.intro rfl (And.intro rfl (And.intro rfl (And.intro rfl trivial)))) hX
    · rw [if_neg hc1] at h
      refine mj_iload (pc := 19) (i := 5) d_Sk_use_19 rfl ?_
      refine mj_if_le (y := 0) (pc := 21) (tgt := 75) d_Sk_use_21 (by decide) mj_hs (fun hc2 => ?_) (fun hc2 => ?_)
      · rw [if_pos hc2] at h
        cases h
        exact mj_weak _ (And.intro rfl (And.intro rfl (And.intro rfl (And.intro rfl trivial)))) hX
      · rw [if_neg hc2] at h
        refine mj_iload (pc := 24) (i := 5) d_Sk_use_24 rfl ?_
        refine mj_aload_n (pc := 26) (i := 0) d_Sk_use_26 rfl rfl (by decide) ?_
        refine mj_getR (pc := 27) d_Sk_use_27 fl_Sk_9 sh_7 rfl rfl (by decide) (by decide) (by decide) ?_
        refine mj_iload (pc := 30) (i := 4) d_Sk_use_30 rfl ?_
        refine mj_bipush (pc := 32) (v := 10) d_Sk_use_32 (by decide) ?_
        refine mj_imul (pc := 34) d_Sk_use_34 ?_
        refine mj_iload (pc := 35) (i := 6) d_Sk_use_35 rfl ?_
        refine mj_iadd (pc := 37) d_Sk_use_37 ?_
        obtain ⟨hg3, h⟩ := mj_gd h
        refine cj_iald (pc := 38) d_Sk_use_38 sh_8 (by decide) hg3 (by decide) ?_
        refine mj_min (pc := 39) d_Sk_use_39 mn_Sk_22 (by decide) (Nat.le_of_ble_eq_true rfl) ?_
        refine mj_istore (pc := 42) (i := 7) d_Sk_use_42 rfl (by decide) ?_
        refine mj_aload_n (pc := 44) (i := 0) d_Sk_use_44 rfl rfl (by decide) ?_
        refine mj_getR (pc := 45) d_Sk_use_45 fl_Sk_9 sh_7 rfl rfl (by decide) (by decide) (by decide) ?_
        refine mj_iload (pc := 48) (i := 4) d_Sk_use_48 rfl ?_
        refine mj_bipush (pc := 50) (v := 10) d_Sk_use_50 (by decide) ?_
        refine mj_imul (pc := 52) d_Sk_use_52 ?_
        refine mj_iload (pc := 53) (i := 6) d_Sk_use_53 rfl ?_
        refine mj_iadd (pc := 55) d_Sk_use_55 ?_
        refine mj_dup2 (pc := 56) d_Sk_use_56 rfl rfl ?_
        refine cj_iald (pc := 57) d_Sk_use_57 sh_8 (by decide) hg3 (by decide) ?_
        refine mj_iload (pc := 58) (i := 7) d_Sk_use_58 rfl ?_
        refine mj_isub (pc := 60) d_Sk_use_60 ?_
        refine cj_iast (pc := 61) d_Sk_use_61 sh_8 (by decide) hg3 (by decide) ?_
        refine mj_iload (pc := 62) (i := 5) d_Sk_use_62 rfl ?_
        refine mj_iload (pc := 64) (i := 7) d_Sk_use_64 rfl ?_
        refine mj_isub (pc := 66) d_Sk_use_66 ?_
        refine mj_istore (pc := 67) (i := 5) d_Sk_use_67 rfl (by decide) ?_
        refine mj_iinc (pc := 69) (i := 6) (v := y6 + (-1)) d_Sk_use_69 rfl (by rfl) rfl (by decide) ?_
        refine mj_goto (pc := 72) (tgt := 14) d_Sk_use_72 (by decide) ?_
        exact mj_weak [some (.ref 7), none, none, some (.int y3), some (.int y4), some (.int (y5 - (if (C 8 ((y4 * 10) + y6).toNatClampNeg) < y5 then C 8 ((y4 * 10) + y6).toNatClampNeg else y5))), some (.int (y6 + (-1))), none] (And.intro rfl (And.intro rfl (And.intro rfl (And.intro rfl (And.intro rfl trivial))))) (ih _ _ _ _ _ _ _ h hX)
set_option maxRecDepth 20000 in
theorem r_Sk_use {x1 : Int32} {x2 : Int32} {x3 : Int32} {C0 D : St} {C' : St} (h : f_Sk_use x1 x2 x3 C0 = some (C')) : mj_R M_Sk_use 0 (mj_lv M_Sk_use.2.2.1 [.ref 7, .int x1, .int x2, .int x3]) [] (SH, jn C0 D) none (SH, jn (C') D) := by
  show mj_R M_Sk_use 0 [some (.ref 7), some (.int x1), some (.int x2), some (.int x3), none, none, none, none] [] _ _ _
  unfold f_Sk_use at h
  refine mj_iload_n (pc := 0) (i := 1) d_Sk_use_0 rfl rfl ?_
  refine mj_iconst (pc := 1) (v := 5) d_Sk_use_1 (by decide) ?_
  refine mj_imul (pc := 2) d_Sk_use_2 ?_
  refine mj_iload_n (pc := 3) (i := 2) d_Sk_use_3 rfl rfl ?_
  refine mj_iadd (pc := 4) d_Sk_use_4 ?_
  refine mj_istore (pc := 5) (i := 4) d_Sk_use_5 rfl (by decide) ?_
  refine mj_iload_n (pc := 7) (i := 3) d_Sk_use_7 rfl rfl ?_
  refine mj_istore (pc := 8) (i := 5) d_Sk_use_8 rfl (by decide) ?_
  refine mj_bipush (pc := 10) (v := 9) d_Sk_use_10 (by decide) ?_
  refine mj_istore (pc := 12) (i := 6) d_Sk_use_12 rfl (by decide) ?_
  obtain ⟨o5, C6, hl7, h⟩ := bd2_some h
  refine mj_weak [some (.ref 7), none, none, some (.int x3), some (.int ((x1 * 5) + x2)), some (.int x3), some (.int 9), none] (And.intro rfl (And.intro rfl (And.intro rfl (And.intro rfl (And.intro rfl trivial))))) (l_Sk_use_14 3000 _ _ _ _ _ _ _ hl7 ?_)
  refine mj_aload_n (pc := 75) (i := 0) d_Sk_use_75 rfl rfl (by decide) ?_
  refine mj_getR (pc := 76) d_Sk_use_76 fl_Sk_15 sh_7 rfl rfl (by decide) (by decide) (by decide) ?_
  refine mj_iload (pc := 79) (i := 4) d_Sk_use_79 rfl ?_
  refine mj_dup2 (pc := 81) d_Sk_use_81 rfl rfl ?_
  obtain ⟨hg8, h⟩ := mj_gd h
  refine cj_iald (pc := 82) d_Sk_use_82 sh_9 (by decide) hg8 (by decide) ?_
  refine mj_iload_n (pc := 83) (i := 3) d_Sk_use_83 rfl rfl ?_
  refine mj_iload (pc := 84) (i := 5) d_Sk_use_84 rfl ?_
  refine mj_isub (pc := 86) d_Sk_use_86 ?_
  refine mj_isub (pc := 87) d_Sk_use_87 ?_
  refine cj_iast (pc := 88) d_Sk_use_88 sh_9 (by decide) hg8 (by decide) ?_
  cases h
  exact mj_vret (pc := 89) d_Sk_use_89 rfl
