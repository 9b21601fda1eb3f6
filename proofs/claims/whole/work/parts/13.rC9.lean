set_option maxRecDepth 20000 in
theorem r_Mk_differs {x1 : Int32} {C0 D : St} {v : Int32} (h : f_Mk_differs x1 C0 = some v) : mj_R M_Mk_differs 0 (mj_lv M_Mk_differs.2.2.1 [.ref 0, .int x1]) [] (SH, jn C0 D) (some (.int v)) (SH, jn C0 D) := by
  show mj_R M_Mk_differs 0 [some (.ref 0), some (.int x1)] [] _ _ _
  unfold f_Mk_differs at h
  refine mj_iload_n (pc := 0) (i := 1) d_Mk_differs_0 rfl rfl ?_
  refine mj_iconst (pc := 1) (v := 0) d_Mk_differs_1 (by decide) ?_
  refine mj_iconst (pc := 2) (v := 2) d_Mk_differs_2 (by decide) ?_
  obtain ⟨v1, hb2, h⟩ := bd1_some h
  refine mj_callS (pc := 3) (vs := [.int x1, .int 0, .int 2]) (st := []) d_Mk_differs_3 bB_Mk_differs_Mk_isWithin lk_Mk_50 st_Mk_isWithin rfl (Nat.le_of_ble_eq_true rfl) (Nat.le_of_ble_eq_true rfl) (r_Mk_isWithin hb2) ?_
  show mj_R M_Mk_differs 6 [some (.ref 0), some (.int x1)] [.int v1] (SH, jn C0 D) (some (.int v)) (SH, jn C0 D)
  refine mj_if_ne (y := 0) (pc := 6) (tgt := 12) d_Mk_differs_6 (by decide) mj_hs (fun hc3 => ?_) (fun hc3 => ?_)
  · rw [if_neg hc3] at h
    refine mj_aload_n (pc := 12) (i := 0) d_Mk_differs_12 rfl rfl (by decide) ?_
    refine mj_getR (pc := 13) d_Mk_differs_13 fl_Mk_20 sh_0 rfl rfl (by decide) (by decide) (by decide) ?_
    refine mj_iload_n (pc := 16) (i := 1) d_Mk_differs_16 rfl rfl ?_
    obtain ⟨hg4, h⟩ := mj_gd h
    refine cj_zald (pc := 17) d_Mk_differs_17 sh_18 (by decide) hg4 (by decide) ?_
    obtain ⟨w15, hb17, h⟩ := bd1_some h
    have k16 : mj_R M_Mk_differs 39 [none, none] [.int w15] (SH, jn C0 D) (some (.int v)) (SH, jn C0 D) := by
      obtain e_1 := inj1 h
      subst e_1
      exact mj_iret (pc := 39) d_Mk_differs_39 rfl
    have h := hb17
    refine mj_if_eq (y := 0) (pc := 18) (tgt := 37) d_Mk_differs_18 (by decide) mj_hs (fun hc5 => ?_) (fun hc5 => ?_)
    · rw [if_pos hc5] at h
      refine mj_ldc (pc := 37) (v := -1000000002) d_Mk_differs_37 k_Mk_205 ?_
      obtain e_1 := inj1 h
      subst e_1
      exact mj_wk k16 trivial
    · rw [if_neg hc5] at h
      refine mj_aload_n (pc := 21) (i := 0) d_Mk_differs_21 rfl rfl (by decide) ?_
      refine mj_getR (pc := 22) d_Mk_differs_22 fl_Mk_12 sh_0 rfl rfl (by decide) (by decide) (by decide) ?_
      refine mj_aload_n (pc := 25) (i := 0) d_Mk_differs_25 rfl rfl (by decide) ?_
      refine mj_getR (pc := 26) d_Mk_differs_26 fl_Mk_16 sh_0 rfl rfl (by decide) (by decide) (by decide) ?_
      refine mj_iload_n (pc := 29) (i := 1) d_Mk_differs_29 rfl rfl ?_
      by_cases hc8 : x1 = 0
      · rw [if_pos hc8] at h
        refine mj_aaldE (pc := 30) 0 d_Mk_differs_30 hc8 sh_17 (by decide) (by decide) rfl (by decide) ?_
        obtain ⟨v6, hb7, h⟩ := bd1_some h
        refine mj_callV (pc := 31) (b := 1) (vs := [.ref 40]) (st := []) d_Mk_differs_31 bB_Mk_differs_Tw_firstUnlike lk_Mk_206 iv_Tw_firstUnlike rc_1 rfl (Nat.le_of_ble_eq_true rfl) (Nat.le_of_ble_eq_true rfl) (r_Tw_firstUnlike hb7) ?_
        show mj_R M_Mk_differs 34 [some (.ref 0), some (.int x1)] [.int v6] (SH, jn C0 D) (some (.int v)) (SH, jn C0 D)
        refine mj_goto (pc := 34) (tgt := 39) d_Mk_differs_34 (by decide) ?_
        obtain e_1 := inj1 h
        subst e_1
        exact mj_wk k16 trivial
      · rw [if_neg hc8] at h
        by_cases hc11 : x1 = 1
        · rw [if_pos hc11] at h
          refine mj_aaldE (pc := 30) 1 d_Mk_differs_30 hc11 sh_17 (by decide) (by decide) rfl (by decide) ?_
          obtain ⟨v9, hb10, h⟩ := bd1_some h
          refine mj_callV (pc := 31) (b := 1) (vs := [.ref 56]) (st := []) d_Mk_differs_31 bB_Mk_differs_Tw_firstUnlike lk_Mk_206 iv_Tw_firstUnlike rc_1 rfl (Nat.le_of_ble_eq_true rfl) (Nat.le_of_ble_eq_true rfl) (r_Tw_firstUnlike_1 hb10) ?_
          show mj_R M_Mk_differs 34 [some (.ref 0), some (.int x1)] [.int v9] (SH, jn C0 D) (some (.int v)) (SH, jn C0 D)
          refine mj_goto (pc := 34) (tgt := 39) d_Mk_differs_34 (by decide) ?_
          obtain e_1 := inj1 h
          subst e_1
          exact mj_wk k16 trivial
        · rw [if_neg hc11] at h
          by_cases hc14 : x1 = 2
          · rw [if_pos hc14] at h
            refine mj_aaldE (pc := 30) 2 d_Mk_differs_30 hc14 sh_17 (by decide) (by decide) rfl (by decide) ?_
            obtain ⟨v12, hb13, h⟩ := bd1_some h
            refine mj_callV (pc := 31) (b := 1) (vs := [.ref 72]) (st := []) d_Mk_differs_31 bB_Mk_differs_Tw_firstUnlike lk_Mk_206 iv_Tw_firstUnlike rc_1 rfl (Nat.le_of_ble_eq_true rfl) (Nat.le_of_ble_eq_true rfl) (r_Tw_firstUnlike_2 hb13) ?_
            show mj_R M_Mk_differs 34 [some (.ref 0), some (.int x1)] [.int v12] (SH, jn C0 D) (some (.int v)) (SH, jn C0 D)
            refine mj_goto (pc := 34) (tgt := 39) d_Mk_differs_34 (by decide) ?_
            obtain e_1 := inj1 h
            subst e_1
            exact mj_wk k16 trivial
          · rw [if_neg hc14] at h
            cases h
  · rw [if_pos hc3] at h
    refine mj_ldc (pc := 9) (v := -1000000001) d_Mk_differs_9 k_Mk_54 ?_
    obtain e_1 := inj1 h
    subst e_1
    exact mj_iret (pc := 11) d_Mk_differs_11 rfl
set_option maxRecDepth 20000 in
theorem l_Tw_cashInAll_4 {r : Option Value} {D y : St} : ∀ (n : Nat) (y1 : Int32) (y2 : Int32) (C : St) (o1_ : Int32), L_Tw_cashInAll_4 n y1 y2 C = some o1_ → mj_R M_Tw_cashInAll 27 [none, some (.int o1_), none] [] (SH, jn C D) r (SH, y) → mj_R M_Tw_cashInAll 4 [some (.ref 1), some (.int y1), some (.int y2)] [] (SH, jn C D) r (SH, y) := by
  intro n
  induction n with
  | zero => intro y1 y2 C o1_ h; cases h
  | succ n ih =>
    intro y1 y2 C o1_ h hX
    unfold L_Tw_cashInAll_4 at h
    refine mj_iload_n (pc := 4) (i := 2) d_Tw_cashInAll_4 rfl rfl ?_
    refine mj_aload_n (pc := 5) (i := 0) d_Tw_cashInAll_5 rfl rfl (by decide) ?_
    refine cj_getI (pc := 6) d_Tw_cashInAll_6 fl_Tw_59 sh_1 rfl (by decide) (by decide) (by decide) ?_
    refine mj_icmp_ge (pc := 9) (tgt := 27) d_Tw_cashInAll_9 (by decide) mj_hs (fun hc1 => ?_) (fun hc1 => ?_)
    · rw [if_pos hc1] at h
      obtain e_1 := inj1 h
      subst e_1
      exact mj_wk hX (And.intro rfl trivial)
    · rw [if_neg hc1] at h
      refine mj_iload_n (pc := 12) (i := 1) d_Tw_cashInAll_12 rfl rfl ?_
      refine mj_aload_n (pc := 13) (i := 0) d_Tw_cashInAll_13 rfl rfl (by decide) ?_
      refine mj_getR (pc := 14) d_Tw_cashInAll_14 fl_Tw_19 sh_1 rfl rfl (by decide) (by decide) (by decide) ?_
      refine mj_iload_n (pc := 17) (i := 2) d_Tw_cashInAll_17 rfl rfl ?_
      obtain ⟨hg2, h⟩ := mj_gd h
      refine cj_iald (pc := 18) d_Tw_cashInAll_18 sh_3 (by decide) hg2 (by decide) ?_
      refine mj_iadd (pc := 19) d_Tw_cashInAll_19 ?_
      refine mj_istore_n (pc := 20) (i := 1) d_Tw_cashInAll_20 rfl rfl (by decide) ?_
      refine mj_iinc (pc := 21) (i := 2) (v := y2 + 1) d_Tw_cashInAll_21 rfl (by rfl) rfl (by decide) ?_
      refine mj_goto (pc := 24) (tgt := 4) d_Tw_cashInAll_24 (by decide) ?_
      exact mj_weak [some (.ref 1), some (.int (y1 + (C 3 y2.toNatClampNeg))), some (.int (y2 + 1))] (And.intro rfl (And.intro rfl (And.intro rfl trivial))) (ih _ _ _ _ h hX)
set_option maxRecDepth 20000 in
theorem r_Tw_cashInAll  {C0 D : St} {v : Int32} (h : f_Tw_cashInAll C0 = some v) : mj_R M_Tw_cashInAll 0 (mj_lv M_Tw_cashInAll.2.2.1 [.ref 1]) [] (SH, jn C0 D) (some (.int v)) (SH, jn C0 D) := by
  show mj_R M_Tw_cashInAll 0 [some (.ref 1), none, none] [] _ _ _
  unfold f_Tw_cashInAll at h
  refine mj_iconst (pc := 0) (v := 0) d_Tw_cashInAll_0 (by decide) ?_
  refine mj_istore_n (pc := 1) (i := 1) d_Tw_cashInAll_1 rfl rfl (by decide) ?_
  refine mj_iconst (pc := 2) (v := 0) d_Tw_cashInAll_2 (by decide) ?_
  refine mj_istore_n (pc := 3) (i := 2) d_Tw_cashInAll_3 rfl rfl (by decide) ?_
  obtain ⟨o3, hl4, h⟩ := bd1_some h
  refine mj_weak [some (.ref 1), some (.int 0), some (.int 0)] (And.intro rfl (And.intro rfl (And.intro rfl trivial))) (l_Tw_cashInAll_4 3000 _ _ _ _ hl4 ?_)
  refine mj_iload_n (pc := 27) (i := 1) d_Tw_cashInAll_27 rfl rfl ?_
  obtain e_1 := inj1 h
  subst e_1
  exact mj_iret (pc := 28) d_Tw_cashInAll_28 rfl
set_option maxRecDepth 20000 in
theorem l_Tw_brokeAgents_4 {r : Option Value} {D y : St} : ∀ (n : Nat) (y1 : Int32) (y2 : Int32) (C : St) (o1_ : Int32), L_Tw_brokeAgents_4 n y1 y2 C = some o1_ → mj_R M_Tw_brokeAgents 27 [none, some (.int o1_), none] [] (SH, jn C D) r (SH, y) → mj_R M_Tw_brokeAgents 4 [some (.ref 1), some (.int y1), some (.int y2)] [] (SH, jn C D) r (SH, y) := by
  intro n
  induction n with
  | zero => intro y1 y2 C o1_ h; cases h
  | succ n ih =>
    intro y1 y2 C o1_ h hX
    unfold L_Tw_brokeAgents_4 at h
    refine mj_iload_n (pc := 4) (i := 2) d_Tw_brokeAgents_4 rfl rfl ?_
    refine mj_aload_n (pc := 5) (i := 0) d_Tw_brokeAgents_5 rfl rfl (by decide) ?_
    refine cj_getI (pc := 6) d_Tw_brokeAgents_6 fl_Tw_59 sh_1 rfl (by decide) (by decide) (by decide) ?_
    refine mj_icmp_ge (pc := 9) (tgt := 27) d_Tw_brokeAgents_9 (by decide) mj_hs (fun hc1 => ?_) (fun hc1 => ?_)
    · rw [if_pos hc1] at h
      obtain e_1 := inj1 h
      subst e_1
      exact mj_wk hX (And.intro rfl trivial)
    · rw [if_neg hc1] at h
      refine mj_iload_n (pc := 12) (i := 1) d_Tw_brokeAgents_12 rfl rfl ?_
      refine mj_aload_n (pc := 13) (i := 0) d_Tw_brokeAgents_13 rfl rfl (by decide) ?_
      refine mj_getR (pc := 14) d_Tw_brokeAgents_14 fl_Tw_22 sh_1 rfl rfl (by decide) (by decide) (by decide) ?_
      refine mj_iload_n (pc := 17) (i := 2) d_Tw_brokeAgents_17 rfl rfl ?_
      obtain ⟨hg2, h⟩ := mj_gd h
      refine cj_iald (pc := 18) d_Tw_brokeAgents_18 sh_4 (by decide) hg2 (by decide) ?_
      refine mj_iadd (pc := 19) d_Tw_brokeAgents_19 ?_
      refine mj_istore_n (pc := 20) (i := 1) d_Tw_brokeAgents_20 rfl rfl (by decide) ?_
      refine mj_iinc (pc := 21) (i := 2) (v := y2 + 1) d_Tw_brokeAgents_21 rfl (by rfl) rfl (by decide) ?_
      refine mj_goto (pc := 24) (tgt := 4) d_Tw_brokeAgents_24 (by decide) ?_
      exact mj_weak [some (.ref 1), some (.int (y1 + (C 4 y2.toNatClampNeg))), some (.int (y2 + 1))] (And.intro rfl (And.intro rfl (And.intro rfl trivial))) (ih _ _ _ _ h hX)
set_option maxRecDepth 20000 in
theorem r_Tw_brokeAgents  {C0 D : St} {v : Int32} (h : f_Tw_brokeAgents C0 = some v) : mj_R M_Tw_brokeAgents 0 (mj_lv M_Tw_brokeAgents.2.2.1 [.ref 1]) [] (SH, jn C0 D) (some (.int v)) (SH, jn C0 D) := by
  show mj_R M_Tw_brokeAgents 0 [some (.ref 1), none, none] [] _ _ _
  unfold f_Tw_brokeAgents at h
  refine mj_iconst (pc := 0) (v := 0) d_Tw_brokeAgents_0 (by decide) ?_
  refine mj_istore_n (pc := 1) (i := 1) d_Tw_brokeAgents_1 rfl rfl (by decide) ?_
  refine mj_iconst (pc := 2) (v := 0) d_Tw_brokeAgents_2 (by decide) ?_
  refine mj_istore_n (pc := 3) (i := 2) d_Tw_brokeAgents_3 rfl rfl (by decide) ?_
  obtain ⟨o3, hl4, h⟩ := bd1_some h
  refine mj_weak [some (.ref 1), some (.int 0), some (.int 0)] (And.intro rfl (And.intro rfl (And.intro rfl trivial))) (l_Tw_brokeAgents_4 3000 _ _ _ _ hl4 ?_)
  refine mj_iload_n (pc := 27) (i := 1) d_Tw_brokeAgents_27 rfl rfl ?_
  obtain e_1 := inj1 h
  subst e_1
  exact mj_iret (pc := 28) d_Tw_brokeAgents_28 rfl
set_option maxRecDepth 20000 in
theorem l_Tw_paidByAll_4 {r : Option Value} {D y : St} : ∀ (n : Nat) (y1 : Int32) (y2 : Int32) (C : St) (o1_ : Int32), L_Tw_paidByAll_4 n y1 y2 C = some o1_ → mj_R M_Tw_paidByAll 28 [none, some (.int o1_), none] [] (SH, jn C D) r (SH, y) → mj_R M_Tw_paidByAll 4 [some (.ref 1), some (.int y1), some (.int y2)] [] (SH, jn C D) r (SH, y) := by
  intro n
  induction n with
  | zero => intro y1 y2 C o1_ h; cases h
  | succ n ih =>
    intro y1 y2 C o1_ h hX
    unfold L_Tw_paidByAll_4 at h
    refine mj_iload_n (pc := 4) (i := 2) d_Tw_paidByAll_4 rfl rfl ?_
    refine mj_aload_n (pc := 5) (i := 0) d_Tw_paidByAll_5 rfl rfl (by decide) ?_
    refine mj_getR (pc := 6) d_Tw_paidByAll_6 fl_Tw_28 sh_1 rfl rfl (by decide) (by decide) (by decide) ?_
    refine mj_alen (pc := 9) (v := 720) d_Tw_paidByAll_9 sh_6 (by decide) (by decide) ?_
    refine mj_icmp_ge (pc := 10) (tgt := 28) d_Tw_paidByAll_10 (by decide) mj_hs (fun hc1 => ?_) (fun hc1 => ?_)
    · rw [if_pos hc1] at h
      obtain e_1 := inj1 h
      subst e_1
      exact mj_wk hX (And.intro rfl trivial)
    · rw [if_neg hc1] at h
      refine mj_iload_n (pc := 13) (i := 1) d_Tw_paidByAll_13 rfl rfl ?_
      refine mj_aload_n (pc := 14) (i := 0) d_Tw_paidByAll_14 rfl rfl (by decide) ?_
      refine mj_getR (pc := 15) d_Tw_paidByAll_15 fl_Tw_28 sh_1 rfl rfl (by decide) (by decide) (by decide) ?_
      refine mj_iload_n (pc := 18) (i := 2) d_Tw_paidByAll_18 rfl rfl ?_
      obtain ⟨hg2, h⟩ := mj_gd h
      refine cj_iald (pc := 19) d_Tw_paidByAll_19 sh_6 (by decide) hg2 (by decide) ?_
      refine mj_iadd (pc := 20) d_Tw_paidByAll_20 ?_
      refine mj_istore_n (pc := 21) (i := 1) d_Tw_paidByAll_21 rfl rfl (by decide) ?_
      refine mj_iinc (pc := 22) (i := 2) (v := y2 + 1) d_Tw_paidByAll_22 rfl (by rfl) rfl (by decide) ?_
      refine mj_goto (pc := 25) (tgt := 4) d_Tw_paidByAll_25 (by decide) ?_
      exact mj_weak [some (.ref 1), some (.int (y1 + (C 6 y2.toNatClampNeg))), some (.int (y2 + 1))] (And.intro rfl (And.intro rfl (And.intro rfl trivial))) (ih _ _ _ _ h hX)
set_option maxRecDepth 20000 in
theorem r_Tw_paidByAll  {C0 D : St} {v : Int32} (h : f_Tw_paidByAll C0 = some v) : mj_R M_Tw_paidByAll 0 (mj_lv M_Tw_paidByAll.2.2.1 [.ref 1]) [] (SH, jn C0 D) (some (.int v)) (SH, jn C0 D) := by
  show mj_R M_Tw_paidByAll 0 [some (.ref 1), none, none] [] _ _ _
  unfold f_Tw_paidByAll at h
  refine mj_iconst (pc := 0) (v := 0) d_Tw_paidByAll_0 (by decide) ?_
  refine mj_istore_n (pc := 1) (i := 1) d_Tw_paidByAll_1 rfl rfl (by decide) ?_
  refine mj_iconst (pc := 2) (v := 0) d_Tw_paidByAll_2 (by decide) ?_
  refine mj_istore_n (pc := 3) (i := 2) d_Tw_paidByAll_3 rfl rfl (by decide) ?_
  obtain ⟨o3, hl4, h⟩ := bd1_some h
  refine mj_weak [some (.ref 1), some (.int 0), some (.int 0)] (And.intro rfl (And.intro rfl (And.intro rfl trivial))) (l_Tw_paidByAll_4 3000 _ _ _ _ hl4 ?_)
  refine mj_iload_n (pc := 28) (i := 1) d_Tw_paidByAll_28 rfl rfl ?_
  obtain e_1 := inj1 h
  subst e_1
  exact mj_iret (pc := 29) d_Tw_paidByAll_29 rfl
set_option maxRecDepth 20000 in
theorem r_Mk_count {x1 : Int32} {C0 D : St} {v : Int32} (h : f_Mk_count x1 C0 = some v) : mj_R M_Mk_count 0 (mj_lv M_Mk_count.2.2.1 [.ref 0, .int x1]) [] (SH, jn C0 D) (some (.int v)) (SH, jn C0 D) := by
  show mj_R M_Mk_count 0 [some (.ref 0), some (.int x1)] [] _ _ _
  unfold f_Mk_count at h
  refine mj_iload_n (pc := 0) (i := 1) d_Mk_count_0 rfl rfl ?_
  by_cases hc1 : x1 = 0
  · rw [if_pos hc1] at h
    refine mj_tsEq (pc := 1) (tgt := 48) 0 d_Mk_count_1 hc1 (by decide) (by decide) (by rfl) (by decide) ?_
    refine mj_aload_n (pc := 48) (i := 0) d_Mk_count_48 rfl rfl (by decide) ?_
    refine mj_getR (pc := 49) d_Mk_count_49 fl_Mk_12 sh_0 rfl rfl (by decide) (by decide) (by decide) ?_
    refine cj_getI (pc := 52) d_Mk_count_52 fl_Mk_55 sh_1 rfl (by decide) (by decide) (by decide) ?_
    obtain e_1 := inj1 h
    subst e_1
    exact mj_iret (pc := 55) d_Mk_count_55 rfl
  · rw [if_neg hc1] at h
    by_cases hc2 : x1 = 1
    · rw [if_pos hc2] at h
      refine mj_tsEq (pc := 1) (tgt := 56) 1 d_Mk_count_1 hc2 (by decide) (by decide) (by rfl) (by decide) ?_
      refine mj_aload_n (pc := 56) (i := 0) d_Mk_count_56 rfl rfl (by decide) ?_
      refine mj_getR (pc := 57) d_Mk_count_57 fl_Mk_12 sh_0 rfl rfl (by decide) (by decide) (by decide) ?_
      refine cj_getI (pc := 60) d_Mk_count_60 fl_Mk_139 sh_1 rfl (by decide) (by decide) (by decide) ?_
      obtain e_1 := inj1 h
      subst e_1
      exact mj_iret (pc := 63) d_Mk_count_63 rfl
    · rw [if_neg hc2] at h
      by_cases hc3 : x1 = 2
      · rw [if_pos hc3] at h
        refine mj_tsEq (pc := 1) (tgt := 64) 2 d_Mk_count_1 hc3 (by decide) (by decide) (by rfl) (by decide) ?_
        refine mj_aload_n (pc := 64) (i := 0) d_Mk_count_64 rfl rfl (by decide) ?_
        refine mj_getR (pc := 65) d_Mk_count_65 fl_Mk_12 sh_0 rfl rfl (by decide) (by decide) (by decide) ?_
        obtain ⟨v9, hb10, h⟩ := bd1_some h
        refine mj_callV (pc := 68) (b := 1) (vs := []) (st := []) d_Mk_count_68 bB_Mk_count_Tw_cashInAll lk_Mk_210 iv_Tw_cashInAll rc_1 rfl (Nat.le_of_ble_eq_true rfl) (Nat.le_of_ble_eq_true rfl) (r_Tw_cashInAll hb10) ?_
        show mj_R M_Mk_count 71 [some (.ref 0), some (.int x1)] [.int v9] (SH, jn C0 D) (some (.int v)) (SH, jn C0 D)
        obtain e_1 := inj1 h
        subst e_1
        exact mj_iret (pc := 71) d_Mk_count_71 rfl
      · rw [if_neg hc3] at h
        by_cases hc4 : x1 = 3
        · rw [if_pos hc4] at h
          refine mj_tsEq (pc := 1) (tgt := 72) 3 d_Mk_count_1 hc4 (by decide) (by decide) (by rfl) (by decide) ?_
          refine mj_aload_n (pc := 72) (i := 0) d_Mk_count_72 rfl rfl (by decide) ?_
          refine mj_getR (pc := 73) d_Mk_count_73 fl_Mk_12 sh_0 rfl rfl (by decide) (by decide) (by decide) ?_
          refine mj_getR (pc := 76) d_Mk_count_76 fl_Mk_158 sh_1 rfl rfl (by decide) (by decide) (by decide) ?_
          refine cj_getI (pc := 79) d_Mk_count_79 fl_Mk_195 sh_15 rfl (by decide) (by decide) (by decide) ?_
          obtain e_1 := inj1 h
          subst e_1
          exact mj_iret (pc := 82) d_Mk_count_82 rfl
        · rw [if_neg hc4] at h
          by_cases hc5 : x1 = 4
          · rw [if_pos hc5] at h
            refine mj_tsEq (pc := 1) (tgt := 83) 4 d_Mk_count_1 hc5 (by decide) (by decide) (by rfl) (by decide) ?_
            refine mj_aload_n (pc := 83) (i := 0) d_Mk_count_83 rfl rfl (by decide) ?_
            refine mj_getR (pc := 84) d_Mk_count_84 fl_Mk_12 sh_0 rfl rfl (by decide) (by decide) (by decide) ?_
            obtain ⟨v11, hb12, h⟩ := bd1_some h
            refine mj_callV (pc := 87) (b := 1) (vs := []) (st := []) d_Mk_count_87 bB_Mk_count_Tw_brokeAgents lk_Mk_214 iv_Tw_brokeAgents rc_1 rfl (Nat.le_of_ble_eq_true rfl) (Nat.le_of_ble_eq_true rfl) (r_Tw_brokeAgents hb12) ?_
            show mj_R M_Mk_count 90 [some (.ref 0), some (.int x1)] [.int v11] (SH, jn C0 D) (some (.int v)) (SH, jn C0 D)
            obtain e_1 := inj1 h
            subst e_1
            exact mj_iret (pc := 90) d_Mk_count_90 rfl
          · rw [if_neg hc5] at h
            by_cases hc6 : x1 = 5
            · rw [if_pos hc6] at h
              refine mj_tsEq (pc := 1) (tgt := 91) 5 d_Mk_count_1 hc6 (by decide) (by decide) (by rfl) (by decide) ?_
              refine mj_aload_n (pc := 91) (i := 0) d_Mk_count_91 rfl rfl (by decide) ?_
              refine mj_getR (pc := 92) d_Mk_count_92 fl_Mk_27 sh_0 rfl rfl (by decide) (by decide) (by decide) ?_
              refine cj_getI (pc := 95) d_Mk_count_95 fl_Mk_109 sh_19 rfl (by decide) (by decide) (by decide) ?_
              obtain e_1 := inj1 h
              subst e_1
              exact mj_iret (pc := 98) d_Mk_count_98 rfl
            · rw [if_neg hc6] at h
              by_cases hc7 : x1 = 6
              · rw [if_pos hc7] at h
                refine mj_tsEq (pc := 1) (tgt := 99) 6 d_Mk_count_1 hc7 (by decide) (by decide) (by rfl) (by decide) ?_
                refine mj_aload_n (pc := 99) (i := 0) d_Mk_count_99 rfl rfl (by decide) ?_
                refine mj_getR (pc := 100) d_Mk_count_100 fl_Mk_12 sh_0 rfl rfl (by decide) (by decide) (by decide) ?_
                refine cj_getI (pc := 103) d_Mk_count_103 fl_Mk_98 sh_1 rfl (by decide) (by decide) (by decide) ?_
                obtain e_1 := inj1 h
                subst e_1
                exact mj_iret (pc := 106) d_Mk_count_106 rfl
              · rw [if_neg hc7] at h
                by_cases hc8 : x1 = 7
                · rw [if_pos hc8] at h
                  refine mj_tsEq (pc := 1) (tgt := 107) 7 d_Mk_count_1 hc8 (by decide) (by decide) (by rfl) (by decide) ?_
                  refine mj_aload_n (pc := 107) (i := 0) d_Mk_count_107 rfl rfl (by decide) ?_
                  refine mj_getR (pc := 108) d_Mk_count_108 fl_Mk_12 sh_0 rfl rfl (by decide) (by decide) (by decide) ?_
                  obtain ⟨v13, hb14, h⟩ := bd1_some h
                  refine mj_callV (pc := 111) (b := 1) (vs := []) (st := []) d_Mk_count_111 bB_Mk_count_Tw_paidByAll lk_Mk_217 iv_Tw_paidByAll rc_1 rfl (Nat.le_of_ble_eq_true rfl) (Nat.le_of_ble_eq_true rfl) (r_Tw_paidByAll hb14) ?_
                  show mj_R M_Mk_count 114 [some (.ref 0), some (.int x1)] [.int v13] (SH, jn C0 D) (some (.int v)) (SH, jn C0 D)
                  obtain e_1 := inj1 h
                  subst e_1
                  exact mj_iret (pc := 114) d_Mk_count_114 rfl
                · rw [if_neg hc8] at h
                  refine mj_tableOut (pc := 1) (tgt := 115) d_Mk_count_1 (by have q0 := i32_ne (n := 0) (by decide) hc1; have q1 := i32_ne (n := 1) (by decide) hc2; have q2 := i32_ne (n := 2) (by decide) hc3; have q3 := i32_ne (n := 3) (by decide) hc4; have q4 := i32_ne (n := 4) (by decide) hc5; have q5 := i32_ne (n := 5) (by decide) hc6; have q6 := i32_ne (n := 6) (by decide) hc7; have q7 := i32_ne (n := 7) (by decide) hc8; omega) (by decide) ?_
                  refine mj_ldc (pc := 115) (v := -1000000001) d_Mk_count_115 k_Mk_54 ?_
                  obtain e_1 := inj1 h
                  subst e_1
                  exact mj_iret (pc := 117) d_Mk_count_117 rfl
