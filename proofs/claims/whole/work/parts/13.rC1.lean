set_option maxRecDepth 20000 in
theorem r_Jp_checkIndex {x0 : Int32} {x1 : Int32} {mem : mj_Mem} {v : Int32} (h : f_Jp_checkIndex x0 x1 = some v) : mj_R M_Jp_checkIndex 0 (mj_lv M_Jp_checkIndex.2.2.1 [.int x0, .int x1, .ref 3000000]) [] mem (some (.int v)) mem := by
  show mj_R M_Jp_checkIndex 0 [some (.int x0), some (.int x1), some (.ref 3000000)] [] _ _ _
  unfold f_Jp_checkIndex at h
  refine mj_iload_n (pc := 0) (i := 0) d_Jp_checkIndex_0 rfl rfl ?_
  refine mj_if_lt (y := 0) (pc := 1) (tgt := 9) d_Jp_checkIndex_1 (by decide) mj_hn (fun hc1 => ?_) (fun hc1 => ?_)
  · rw [if_pos hc1] at h
    cases h
  · rw [if_neg hc1] at h
    refine mj_iload_n (pc := 4) (i := 0) d_Jp_checkIndex_4 rfl rfl ?_
    refine mj_iload_n (pc := 5) (i := 1) d_Jp_checkIndex_5 rfl rfl ?_
    refine mj_icmp_lt (pc := 6) (tgt := 16) d_Jp_checkIndex_6 (by decide) mj_hn (fun hc2 => ?_) (fun hc2 => ?_)
    · rw [if_pos hc2] at h
      refine mj_iload_n (pc := 16) (i := 0) d_Jp_checkIndex_16 rfl rfl ?_
      obtain e_1 := inj1 h
      subst e_1
      exact mj_iret (pc := 17) d_Jp_checkIndex_17 rfl
    · rw [if_neg hc2] at h
      cases h
set_option maxRecDepth 20000 in
theorem r_Js_checkIndex {x0 : Int32} {x1 : Int32} {mem : mj_Mem}  (h : f_Js_checkIndex x0 x1 = some ()) : mj_R M_Js_checkIndex 0 (mj_lv M_Js_checkIndex.2.2.1 [.int x0, .int x1]) [] mem none mem := by
  show mj_R M_Js_checkIndex 0 [some (.int x0), some (.int x1)] [] _ _ _
  unfold f_Js_checkIndex at h
  refine mj_iload_n (pc := 0) (i := 0) d_Js_checkIndex_0 rfl rfl ?_
  refine mj_iload_n (pc := 1) (i := 1) d_Js_checkIndex_1 rfl rfl ?_
  refine mj_sfmt (pc := 2) d_Js_checkIndex_2 k_Js_1053 ?_
  obtain ⟨v1, hb2, h⟩ := bd1_some h
  refine mj_callS (pc := 5) (vs := [.int x0, .int x1, .ref 3000000]) (st := []) d_Js_checkIndex_5 bB_Js_checkIndex_Jp_checkIndex lk_Js_1059 st_Jp_checkIndex rfl (Nat.le_of_ble_eq_true rfl) (Nat.le_of_ble_eq_true rfl) (r_Jp_checkIndex hb2) ?_
  show mj_R M_Js_checkIndex 8 [some (.int x0), some (.int x1)] [.int v1] mem none mem
  refine mj_popI (pc := 8) d_Js_checkIndex_8 ?_
  exact mj_vret (pc := 9) d_Js_checkIndex_9 rfl
set_option maxRecDepth 20000 in
theorem r_Jl_charAt {j0 : Nat} {x1 : Int32} {mem : mj_Mem} {v : Int32} (hj0 : j0 < 14) (h : f_Jl_charAt j0 x1 = some v) : mj_R M_Jl_charAt 0 (mj_lv M_Jl_charAt.2.2.1 [.ref (2000000 + j0), .int x1]) [] mem (some (.int v)) mem := by
  show mj_R M_Jl_charAt 0 [some (.ref (2000000 + j0)), some (.int x1)] [] _ _ _
  unfold f_Jl_charAt at h
  refine mj_iload_n (pc := 0) (i := 1) d_Jl_charAt_0 rfl rfl ?_
  refine mj_aload_n (pc := 1) (i := 0) d_Jl_charAt_1 rfl rfl (by omega) ?_
  refine mj_slen (pc := 2) d_Jl_charAt_2 hj0 ?_
  obtain ⟨_uhb1, hb1, h⟩ := bd1_some h
  refine mj_callS (pc := 3) (vs := [.int x1, .int (Int32.ofNat (kSln.getD j0 0))]) (st := []) d_Jl_charAt_3 bB_Jl_charAt_Js_checkIndex lk_Jl_9 st_Js_checkIndex rfl (Nat.le_of_ble_eq_true rfl) (Nat.le_of_ble_eq_true rfl) (r_Js_checkIndex hb1) ?_
  show mj_R M_Jl_charAt 6 [some (.ref (2000000 + j0)), some (.int x1)] [] mem (some (.int v)) mem
  refine mj_aload_n (pc := 6) (i := 0) d_Jl_charAt_6 rfl rfl (by omega) ?_
  refine mj_iload_n (pc := 7) (i := 1) d_Jl_charAt_7 rfl rfl ?_
  obtain ⟨hg2, h⟩ := mj_gd h
  refine mj_sbyt (pc := 8) d_Jl_charAt_8 hj0 (inb_in hg2) ?_
  refine mj_sipush (pc := 9) (v := 255) d_Jl_charAt_9 (by decide) ?_
  refine mj_iand (pc := 12) d_Jl_charAt_12 ?_
  refine mj_i2c (pc := 13) d_Jl_charAt_13 ?_
  obtain ⟨hg3, h⟩ := mj_gd h
  obtain e_1 := inj1 h
  subst e_1
  exact mj_zret (pc := 14) (ty := .char) d_Jl_charAt_14 rfl hg3
set_option maxRecDepth 20000 in
theorem r_Js_charAt {j0 : Nat} {x1 : Int32} {mem : mj_Mem} {v : Int32} (hj0 : j0 < 14) (h : f_Js_charAt j0 x1 = some v) : mj_R M_Js_charAt 0 (mj_lv M_Js_charAt.2.2.1 [.ref (1000000 + j0), .int x1]) [] mem (some (.int v)) mem := by
  show mj_R M_Js_charAt 0 [some (.ref (1000000 + j0)), some (.int x1)] [] _ _ _
  unfold f_Js_charAt at h
  refine mj_aload_n (pc := 0) (i := 0) d_Js_charAt_0 rfl rfl (by omega) ?_
  obtain ⟨v1, hb2, h⟩ := bd1_some h
  refine mj_callV (pc := 1) (b := (1000000 + j0)) (vs := []) (st := []) d_Js_charAt_1 bB_Js_charAt_Js_isLatin1 lk_Js_492 iv_Js_isLatin1 (mj_rcS hj0) rfl (Nat.le_of_ble_eq_true rfl) (Nat.le_of_ble_eq_true rfl) (r_Js_isLatin1 hj0 hb2) ?_
  show mj_R M_Js_charAt 4 [some (.ref (1000000 + j0)), some (.int x1)] [.int v1] mem (some (.int v)) mem
  refine mj_if_eq (y := 0) (pc := 4) (tgt := 16) d_Js_charAt_4 (by decide) mj_hn (fun hc3 => ?_) (fun hc3 => ?_)
  · rw [if_pos hc3] at h
    refine mj_aload_n (pc := 16) (i := 0) d_Js_charAt_16 rfl rfl (by omega) ?_
    refine mj_sval (pc := 17) d_Js_charAt_17 hj0 k_Js_9 ?_
    refine mj_iload_n (pc := 20) (i := 1) d_Js_charAt_20 rfl rfl ?_
    cases h
  · rw [if_neg hc3] at h
    refine mj_aload_n (pc := 7) (i := 0) d_Js_charAt_7 rfl rfl (by omega) ?_
    refine mj_sval (pc := 8) d_Js_charAt_8 hj0 k_Js_9 ?_
    refine mj_iload_n (pc := 11) (i := 1) d_Js_charAt_11 rfl rfl ?_
    obtain ⟨v4, hb5, h⟩ := bd1_some h
    refine mj_callS (pc := 12) (vs := [.ref (2000000 + j0), .int x1]) (st := []) d_Js_charAt_12 bB_Js_charAt_Jl_charAt lk_Js_495 st_Jl_charAt rfl (Nat.le_of_ble_eq_true rfl) (Nat.le_of_ble_eq_true rfl) (r_Jl_charAt hj0 hb5) ?_
    show mj_R M_Js_charAt 15 [some (.ref (1000000 + j0)), some (.int x1)] [.int v4] mem (some (.int v)) mem
    obtain ⟨hg6, h⟩ := mj_gd h
    obtain e_1 := inj1 h
    subst e_1
    exact mj_zret (pc := 15) (ty := .char) d_Js_charAt_15 rfl hg6
set_option maxRecDepth 20000 in
theorem l_Rr_isWord_20 {r : Option Value} {D y : St} : ∀ (n : Nat) (j2 : Nat) (y3 : Int32) (hj2 : j2 < 14) (C : St) (o : (Int32) ⊕ (Unit)), L_Rr_isWord_20 n j2 y3 C = some o → (∀ a : Int32, o = .inl a → r = some (.int a) ∧ y = jn C D) → (∀ a : Unit, o = .inr a → mj_R M_Rr_isWord 54 [none, none, none, none] [] (SH, jn C D) r (SH, y)) → mj_R M_Rr_isWord 20 [some (.ref 21), some (.ref 19), some (.ref (1000000 + j2)), some (.int y3)] [] (SH, jn C D) r (SH, y) := by
  intro n
  induction n with
  | zero => intro j2 y3 hj2 C o h; cases h
  | succ n ih =>
    intro j2 y3 hj2 C o h hE hX
    unfold L_Rr_isWord_20 at h
    refine mj_iload_n (pc := 20) (i := 3) d_Rr_isWord_20 rfl rfl ?_
    refine mj_aload_n (pc := 21) (i := 2) d_Rr_isWord_21 rfl rfl (by omega) ?_
    obtain ⟨v4, hb5, h⟩ := bd1_some h
    refine mj_callV (pc := 22) (b := (1000000 + j2)) (vs := []) (st := [.int y3]) d_Rr_isWord_22 bB_Rr_isWord_Js_length lk_Rr_57 iv_Js_length (mj_rcS hj2) rfl (Nat.le_of_ble_eq_true rfl) (Nat.le_of_ble_eq_true rfl) (r_Js_length hj2 hb5) ?_
    show mj_R M_Rr_isWord 25 [some (.ref 21), some (.ref 19), some (.ref (1000000 + j2)), some (.int y3)] [.int v4, .int y3] (SH, jn C D) r (SH, y)
    refine mj_icmp_ge (pc := 25) (tgt := 54) d_Rr_isWord_25 (by decide) mj_hs (fun hc6 => ?_) (fun hc6 => ?_)
    · rw [if_pos hc6] at h
      obtain e_1 := inj1 h
      subst e_1
      exact mj_wk (hX _ rfl) trivial
    · rw [if_neg hc6] at h
      refine mj_aload_n (pc := 28) (i := 1) d_Rr_isWord_28 rfl rfl (by decide) ?_
      refine mj_aload_n (pc := 29) (i := 0) d_Rr_isWord_29 rfl rfl (by decide) ?_
      refine cj_getI (pc := 30) d_Rr_isWord_30 fl_Rr_54 sh_21 rfl (by decide) (by decide) (by decide) ?_
      refine mj_iload_n (pc := 33) (i := 3) d_Rr_isWord_33 rfl rfl ?_
      refine mj_iadd (pc := 34) d_Rr_isWord_34 ?_
      obtain ⟨v7, hb8, h⟩ := bd1_some h
      refine mj_callV (pc := 35) (b := 19) (vs := [.int ((C 21 1) + y3)]) (st := []) d_Rr_isWord_35 bB_Rr_isWord_Tp_byteAt lk_Rr_63 iv_Tp_byteAt rc_19 rfl (Nat.le_of_ble_eq_true rfl) (Nat.le_of_ble_eq_true rfl) (r_Tp_byteAt hb8) ?_
      show mj_R M_Rr_isWord 38 [some (.ref 21), some (.ref 19), some (.ref (1000000 + j2)), some (.int y3)] [.int v7] (SH, jn C D) r (SH, y)
      refine mj_aload_n (pc := 38) (i := 2) d_Rr_isWord_38 rfl rfl (by omega) ?_
      refine mj_iload_n (pc := 39) (i := 3) d_Rr_isWord_39 rfl rfl ?_
      obtain ⟨v9, hb10, h⟩ := bd1_some h
      refine mj_callV (pc := 40) (b := (1000000 + j2)) (vs := [.int y3]) (st := [.int v7]) d_Rr_isWord_40 bB_Rr_isWord_Js_charAt lk_Rr_67 iv_Js_charAt (mj_rcS hj2) rfl (Nat.le_of_ble_eq_true rfl) (Nat.le_of_ble_eq_true rfl) (r_Js_charAt hj2 hb10) ?_
      show mj_R M_Rr_isWord 43 [some (.ref 21), some (.ref 19), some (.ref (1000000 + j2)), some (.int y3)] [.int v9, .int v7] (SH, jn C D) r (SH, y)
      refine mj_icmp_eq (pc := 43) (tgt := 48) d_Rr_isWord_43 (by decide) mj_hs (fun hc11 => ?_) (fun hc11 => ?_)
      · rw [if_pos hc11] at h
        refine mj_iinc (pc := 48) (i := 3) (v := y3 + 1) d_Rr_isWord_48 rfl (by rfl) rfl (by decide) ?_
        refine mj_goto (pc := 51) (tgt := 20) d_Rr_isWord_51 (by decide) ?_
        exact mj_weak [some (.ref 21), some (.ref 19), some (.ref (1000000 + j2)), some (.int (y3 + 1))] (And.intro rfl (And.intro rfl (And.intro rfl (And.intro rfl trivial)))) (ih _ _ hj2 _ _ h hE hX)
      · rw [if_neg hc11] at h
        refine mj_iconst (pc := 46) (v := 0) d_Rr_isWord_46 (by decide) ?_
        obtain e_1 := inj1 h
        subst e_1
        obtain ⟨e1, e2⟩ := hE _ rfl
        subst e1
        subst e2
        exact mj_zret (pc := 47) (ty := .boolean) d_Rr_isWord_47 rfl (mj_b01 (by decide))
set_option maxRecDepth 20000 in
theorem r_Rr_isWord {j2 : Nat} {C0 D : St} {v : Int32} (hj2 : j2 < 14) (h : f_Rr_isWord j2 C0 = some v) : mj_R M_Rr_isWord 0 (mj_lv M_Rr_isWord.2.2.1 [.ref 21, .ref 19, .ref (1000000 + j2)]) [] (SH, jn C0 D) (some (.int v)) (SH, jn C0 D) := by
  show mj_R M_Rr_isWord 0 [some (.ref 21), some (.ref 19), some (.ref (1000000 + j2)), none] [] _ _ _
  unfold f_Rr_isWord at h
  refine mj_aload_n (pc := 0) (i := 0) d_Rr_isWord_0 rfl rfl (by decide) ?_
  refine cj_getI (pc := 1) d_Rr_isWord_1 fl_Rr_20 sh_21 rfl (by decide) (by decide) (by decide) ?_
  refine mj_aload_n (pc := 4) (i := 0) d_Rr_isWord_4 rfl rfl (by decide) ?_
  refine cj_getI (pc := 5) d_Rr_isWord_5 fl_Rr_54 sh_21 rfl (by decide) (by decide) (by decide) ?_
  refine mj_isub (pc := 8) d_Rr_isWord_8 ?_
  refine mj_aload_n (pc := 9) (i := 2) d_Rr_isWord_9 rfl rfl (by omega) ?_
  obtain ⟨v1, hb2, h⟩ := bd1_some h
  refine mj_callV (pc := 10) (b := (1000000 + j2)) (vs := []) (st := [.int ((C0 21 2) - (C0 21 1))]) d_Rr_isWord_10 bB_Rr_isWord_Js_length lk_Rr_57 iv_Js_length (mj_rcS hj2) rfl (Nat.le_of_ble_eq_true rfl) (Nat.le_of_ble_eq_true rfl) (r_Js_length hj2 hb2) ?_
  show mj_R M_Rr_isWord 13 [some (.ref 21), some (.ref 19), some (.ref (1000000 + j2)), none] [.int v1, .int ((C0 21 2) - (C0 21 1))] (SH, jn C0 D) (some (.int v)) (SH, jn C0 D)
  refine mj_icmp_eq (pc := 13) (tgt := 18) d_Rr_isWord_13 (by decide) mj_hs (fun hc3 => ?_) (fun hc3 => ?_)
  · rw [if_pos hc3] at h
    refine mj_iconst (pc := 18) (v := 0) d_Rr_isWord_18 (by decide) ?_
    refine mj_istore_n (pc := 19) (i := 3) d_Rr_isWord_19 rfl rfl (by decide) ?_
    rcases bdS_some h with ⟨e13, hl12, h⟩ | ⟨_u, hl12, h⟩
    · refine mj_weak [some (.ref 21), some (.ref 19), some (.ref (1000000 + j2)), some (.int 0)] (And.intro rfl (And.intro rfl (And.intro rfl (And.intro rfl trivial)))) (l_Rr_isWord_20 3000 _ _ hj2 _ _ hl12 (fun a e => ?_) (fun a e => nomatch e))
      cases e
      obtain e_1 := inj1 h
      subst e_1
      exact ⟨rfl, rfl⟩
    · refine mj_weak [some (.ref 21), some (.ref 19), some (.ref (1000000 + j2)), some (.int 0)] (And.intro rfl (And.intro rfl (And.intro rfl (And.intro rfl trivial)))) (l_Rr_isWord_20 3000 _ _ hj2 _ _ hl12 (fun a e => nomatch e) (fun a e => ?_))
      cases e
      refine mj_iconst (pc := 54) (v := 1) d_Rr_isWord_54 (by decide) ?_
      obtain e_1 := inj1 h
      subst e_1
      exact mj_zret (pc := 55) (ty := .boolean) d_Rr_isWord_55 rfl (mj_b01 (by decide))
  · rw [if_neg hc3] at h
    refine mj_iconst (pc := 16) (v := 0) d_Rr_isWord_16 (by decide) ?_
    obtain e_1 := inj1 h
    subst e_1
    exact mj_zret (pc := 17) (ty := .boolean) d_Rr_isWord_17 rfl (mj_b01 (by decide))
set_option maxRecDepth 20000 in
theorem r_Rr_actOf  {C0 D : St} {v : Int32} (h : f_Rr_actOf C0 = some v) : mj_R M_Rr_actOf 0 (mj_lv M_Rr_actOf.2.2.1 [.ref 21, .ref 19]) [] (SH, jn C0 D) (some (.int v)) (SH, jn C0 D) := by
  show mj_R M_Rr_actOf 0 [some (.ref 21), some (.ref 19)] [] _ _ _
  unfold f_Rr_actOf at h
  refine mj_aload_n (pc := 0) (i := 0) d_Rr_actOf_0 rfl rfl (by decide) ?_
  refine mj_aload_n (pc := 1) (i := 1) d_Rr_actOf_1 rfl rfl (by decide) ?_
  refine mj_ldcS (pc := 2) (j := 8) d_Rr_actOf_2 rfl (by decide) rfl ?_
  obtain ⟨v1, hb2, h⟩ := bd1_some h
  refine mj_callV (pc := 4) (b := 21) (vs := [.ref 19, .ref (1000000 + 8)]) (st := []) d_Rr_actOf_4 bB_Rr_actOf_Rr_isWord lk_Rr_30 iv_Rr_isWord rc_21 rfl (Nat.le_of_ble_eq_true rfl) (Nat.le_of_ble_eq_true rfl) (r_Rr_isWord (by decide) hb2) ?_
  show mj_R M_Rr_actOf 7 [some (.ref 21), some (.ref 19)] [.int v1] (SH, jn C0 D) (some (.int v)) (SH, jn C0 D)
  refine mj_if_eq (y := 0) (pc := 7) (tgt := 12) d_Rr_actOf_7 (by decide) mj_hs (fun hc3 => ?_) (fun hc3 => ?_)
  · rw [if_pos hc3] at h
    refine mj_aload_n (pc := 12) (i := 0) d_Rr_actOf_12 rfl rfl (by decide) ?_
    refine mj_aload_n (pc := 13) (i := 1) d_Rr_actOf_13 rfl rfl (by decide) ?_
    refine mj_ldcS (pc := 14) (j := 9) d_Rr_actOf_14 rfl (by decide) rfl ?_
    obtain ⟨v4, hb5, h⟩ := bd1_some h
    refine mj_callV (pc := 16) (b := 21) (vs := [.ref 19, .ref (1000000 + 9)]) (st := []) d_Rr_actOf_16 bB_Rr_actOf_Rr_isWord lk_Rr_30 iv_Rr_isWord rc_21 rfl (Nat.le_of_ble_eq_true rfl) (Nat.le_of_ble_eq_true rfl) (r_Rr_isWord (by decide) hb5) ?_
    show mj_R M_Rr_actOf 19 [some (.ref 21), some (.ref 19)] [.int v4] (SH, jn C0 D) (some (.int v)) (SH, jn C0 D)
    refine mj_if_eq (y := 0) (pc := 19) (tgt := 24) d_Rr_actOf_19 (by decide) mj_hs (fun hc6 => ?_) (fun hc6 => ?_)
    · rw [if_pos hc6] at h
      refine mj_aload_n (pc := 24) (i := 0) d_Rr_actOf_24 rfl rfl (by decide) ?_
      refine mj_aload_n (pc := 25) (i := 1) d_Rr_actOf_25 rfl rfl (by decide) ?_
      refine mj_ldcS (pc := 26) (j := 10) d_Rr_actOf_26 rfl (by decide) rfl ?_
      obtain ⟨v7, hb8, h⟩ := bd1_some h
      refine mj_callV (pc := 28) (b := 21) (vs := [.ref 19, .ref (1000000 + 10)]) (st := []) d_Rr_actOf_28 bB_Rr_actOf_Rr_isWord lk_Rr_30 iv_Rr_isWord rc_21 rfl (Nat.le_of_ble_eq_true rfl) (Nat.le_of_ble_eq_true rfl) (r_Rr_isWord (by decide) hb8) ?_
      show mj_R M_Rr_actOf 31 [some (.ref 21), some (.ref 19)] [.int v7] (SH, jn C0 D) (some (.int v)) (SH, jn C0 D)
      refine mj_if_eq (y := 0) (pc := 31) (tgt := 36) d_Rr_actOf_31 (by decide) mj_hs (fun hc9 => ?_) (fun hc9 => ?_)
      · rw [if_pos hc9] at h
        refine mj_aload_n (pc := 36) (i := 0) d_Rr_actOf_36 rfl rfl (by decide) ?_
        refine mj_aload_n (pc := 37) (i := 1) d_Rr_actOf_37 rfl rfl (by decide) ?_
        refine mj_ldcS (pc := 38) (j := 11) d_Rr_actOf_38 rfl (by decide) rfl ?_
        obtain ⟨v10, hb11, h⟩ := bd1_some h
        refine mj_callV (pc := 40) (b := 21) (vs := [.ref 19, .ref (1000000 + 11)]) (st := []) d_Rr_actOf_40 bB_Rr_actOf_Rr_isWord lk_Rr_30 iv_Rr_isWord rc_21 rfl (Nat.le_of_ble_eq_true rfl) (Nat.le_of_ble_eq_true rfl) (r_Rr_isWord (by decide) hb11) ?_
        show mj_R M_Rr_actOf 43 [some (.ref 21), some (.ref 19)] [.int v10] (SH, jn C0 D) (some (.int v)) (SH, jn C0 D)
        refine mj_if_eq (y := 0) (pc := 43) (tgt := 48) d_Rr_actOf_43 (by decide) mj_hs (fun hc12 => ?_) (fun hc12 => ?_)
        · rw [if_pos hc12] at h
          refine mj_aload_n (pc := 48) (i := 0) d_Rr_actOf_48 rfl rfl (by decide) ?_
          refine mj_aload_n (pc := 49) (i := 1) d_Rr_actOf_49 rfl rfl (by decide) ?_
          refine mj_ldcS (pc := 50) (j := 12) d_Rr_actOf_50 rfl (by decide) rfl ?_
          obtain ⟨v13, hb14, h⟩ := bd1_some h
          refine mj_callV (pc := 52) (b := 21) (vs := [.ref 19, .ref (1000000 + 12)]) (st := []) d_Rr_actOf_52 bB_Rr_actOf_Rr_isWord lk_Rr_30 iv_Rr_isWord rc_21 rfl (Nat.le_of_ble_eq_true rfl) (Nat.le_of_ble_eq_true rfl) (r_Rr_isWord (by decide) hb14) ?_
          show mj_R M_Rr_actOf 55 [some (.ref 21), some (.ref 19)] [.int v13] (SH, jn C0 D) (some (.int v)) (SH, jn C0 D)
          refine mj_if_eq (y := 0) (pc := 55) (tgt := 60) d_Rr_actOf_55 (by decide) mj_hs (fun hc15 => ?_) (fun hc15 => ?_)
          · rw [if_pos hc15] at h
            refine mj_aload_n (pc := 60) (i := 0) d_Rr_actOf_60 rfl rfl (by decide) ?_
            refine mj_aload_n (pc := 61) (i := 1) d_Rr_actOf_61 rfl rfl (by decide) ?_
            refine mj_ldcS (pc := 62) (j := 13) d_Rr_actOf_62 rfl (by decide) rfl ?_
            obtain ⟨v16, hb17, h⟩ := bd1_some h
            refine mj_callV (pc := 64) (b := 21) (vs := [.ref 19, .ref (1000000 + 13)]) (st := []) d_Rr_actOf_64 bB_Rr_actOf_Rr_isWord lk_Rr_30 iv_Rr_isWord rc_21 rfl (Nat.le_of_ble_eq_true rfl) (Nat.le_of_ble_eq_true rfl) (r_Rr_isWord (by decide) hb17) ?_
            show mj_R M_Rr_actOf 67 [some (.ref 21), some (.ref 19)] [.int v16] (SH, jn C0 D) (some (.int v)) (SH, jn C0 D)
            have k19 : mj_R M_Rr_actOf 75 [none, none] [.int (if v16 = 0 then (-1) else 5 : Int32)] (SH, jn C0 D) (some (.int v)) (SH, jn C0 D) := by
              obtain e_1 := inj1 h
              subst e_1
              exact mj_iret (pc := 75) d_Rr_actOf_75 rfl
            refine mj_if_eq (y := 0) (pc := 67) (tgt := 74) d_Rr_actOf_67 (by decide) mj_hs (fun hc18 => ?_) (fun hc18 => ?_)
            · refine mj_iconst (pc := 74) (v := -1) d_Rr_actOf_74 (by decide) ?_
              try simp only [if_pos hc18] at k19
              exact mj_wk k19 trivial
            · refine mj_iconst (pc := 70) (v := 5) d_Rr_actOf_70 (by decide) ?_
              refine mj_goto (pc := 71) (tgt := 75) d_Rr_actOf_71 (by decide) ?_
              try simp only [if_neg hc18] at k19
              exact mj_wk k19 trivial
          · rw [if_neg hc15] at h
            refine mj_iconst (pc := 58) (v := 4) d_Rr_actOf_58 (by decide) ?_
            obtain e_1 := inj1 h
            subst e_1
            exact mj_iret (pc := 59) d_Rr_actOf_59 rfl
        · rw [if_neg hc12] at h
          refine mj_iconst (pc := 46) (v := 3) d_Rr_actOf_46 (by decide) ?_
          obtain e_1 := inj1 h
          subst e_1
          exact mj_iret (pc := 47) d_Rr_actOf_47 rfl
      · rw [if_neg hc9] at h
        refine mj_iconst (pc := 34) (v := 2) d_Rr_actOf_34 (by decide) ?_
        obtain e_1 := inj1 h
        subst e_1
        exact mj_iret (pc := 35) d_Rr_actOf_35 rfl
    · rw [if_neg hc6] at h
      refine mj_iconst (pc := 22) (v := 1) d_Rr_actOf_22 (by decide) ?_
      obtain e_1 := inj1 h
      subst e_1
      exact mj_iret (pc := 23) d_Rr_actOf_23 rfl
  · rw [if_neg hc3] at h
    refine mj_iconst (pc := 10) (v := 0) d_Rr_actOf_10 (by decide) ?_
    obtain e_1 := inj1 h
    subst e_1
    exact mj_iret (pc := 11) d_Rr_actOf_11 rfl
set_option maxRecDepth 20000 in
theorem l_Rr_number_7 {r : Option Value} {D y : St} : ∀ (n : Nat) (y2 : Int32) (y3 : Int32) (C : St) (o : (Int32) ⊕ (Int32)), L_Rr_number_7 n y2 y3 C = some o → (∀ a : Int32, o = .inl a → r = some (.int a) ∧ y = jn C D) → (∀ a : Int32, o = .inr a → mj_R M_Rr_number 61 [none, none, some (.int a), none, none] [] (SH, jn C D) r (SH, y)) → mj_R M_Rr_number 7 [some (.ref 21), some (.ref 19), some (.int y2), some (.int y3), none] [] (SH, jn C D) r (SH, y) := by
  intro n
  induction n with
  | zero => intro y2 y3 C o h; cases h
  | succ n ih =>
    intro y2 y3 C o h hE hX
    unfold L_Rr_number_7 at h
    refine mj_iload_n (pc := 7) (i := 3) d_Rr_number_7 rfl rfl ?_
    refine mj_aload_n (pc := 8) (i := 0) d_Rr_number_8 rfl rfl (by decide) ?_
    refine cj_getI (pc := 9) d_Rr_number_9 fl_Rr_20 sh_21 rfl (by decide) (by decide) (by decide) ?_
    refine mj_icmp_ge (pc := 12) (tgt := 61) d_Rr_number_12 (by decide) mj_hs (fun hc1 => ?_) (fun hc1 => ?_)
    · rw [if_pos hc1] at h
      obtain e_1 := inj1 h
      subst e_1
      exact mj_wk (hX _ rfl) (And.intro rfl trivial)
    · rw [if_neg hc1] at h
      refine mj_aload_n (pc := 15) (i := 1) d_Rr_number_15 rfl rfl (by decide) ?_
      refine mj_iload_n (pc := 16) (i := 3) d_Rr_number_16 rfl rfl ?_
      obtain ⟨v2, hb3, h⟩ := bd1_some h
      refine mj_callV (pc := 17) (b := 19) (vs := [.int y3]) (st := []) d_Rr_number_17 bB_Rr_number_Tp_byteAt lk_Rr_63 iv_Tp_byteAt rc_19 rfl (Nat.le_of_ble_eq_true rfl) (Nat.le_of_ble_eq_true rfl) (r_Tp_byteAt hb3) ?_
      show mj_R M_Rr_number 20 [some (.ref 21), some (.ref 19), some (.int y2), some (.int y3), none] [.int v2] (SH, jn C D) r (SH, y)
      refine mj_bipush (pc := 20) (v := 48) d_Rr_number_20 (by decide) ?_
      refine mj_isub (pc := 22) d_Rr_number_22 ?_
      refine mj_istore (pc := 23) (i := 4) d_Rr_number_23 rfl (by decide) ?_
      refine mj_iload (pc := 25) (i := 4) d_Rr_number_25 rfl ?_
      refine mj_iconst (pc := 27) (v := 0) d_Rr_number_27 (by decide) ?_
      refine mj_bipush (pc := 28) (v := 9) d_Rr_number_28 (by decide) ?_
      obtain ⟨v4, hb5, h⟩ := bd1_some h
      refine mj_callS (pc := 30) (vs := [.int (v2 - 48), .int 0, .int 9]) (st := []) d_Rr_number_30 bB_Rr_number_Mk_isWithin lk_Rr_105 st_Mk_isWithin rfl (Nat.le_of_ble_eq_true rfl) (Nat.le_of_ble_eq_true rfl) (r_Mk_isWithin hb5) ?_
      show mj_R M_Rr_number 33 [some (.ref 21), some (.ref 19), some (.int y2), some (.int y3), some (.int (v2 - 48))] [.int v4] (SH, jn C D) r (SH, y)
      refine mj_if_ne (y := 0) (pc := 33) (tgt := 38) d_Rr_number_33 (by decide) mj_hs (fun hc6 => ?_) (fun hc6 => ?_)
      · rw [if_neg hc6] at h
        refine mj_iload_n (pc := 38) (i := 2) d_Rr_number_38 rfl rfl ?_
        refine mj_bipush (pc := 39) (v := 10) d_Rr_number_39 (by decide) ?_
        refine mj_imul (pc := 41) d_Rr_number_41 ?_
        refine mj_iload (pc := 42) (i := 4) d_Rr_number_42 rfl ?_
        refine mj_iadd (pc := 44) d_Rr_number_44 ?_
        refine mj_istore_n (pc := 45) (i := 2) d_Rr_number_45 rfl rfl (by decide) ?_
        refine mj_iload_n (pc := 46) (i := 2) d_Rr_number_46 rfl rfl ?_
        refine mj_sipush (pc := 47) (v := 9999) d_Rr_number_47 (by decide) ?_
        refine mj_icmp_le (pc := 50) (tgt := 55) d_Rr_number_50 (by decide) mj_hs (fun hc7 => ?_) (fun hc7 => ?_)
        · rw [if_pos hc7] at h
          refine mj_iinc (pc := 55) (i := 3) (v := y3 + 1) d_Rr_number_55 rfl (by rfl) rfl (by decide) ?_
          refine mj_goto (pc := 58) (tgt := 7) d_Rr_number_58 (by decide) ?_
          exact mj_weak [some (.ref 21), some (.ref 19), some (.int ((y2 * 10) + (v2 - 48))), some (.int (y3 + 1)), none] (And.intro rfl (And.intro rfl (And.intro rfl (And.intro rfl trivial)))) (ih _ _ _ _ h hE hX)
        · rw [if_neg hc7] at h
          refine mj_iconst (pc := 53) (v := -1) d_Rr_number_53 (by decide) ?_
          obtain e_1 := inj1 h
          subst e_1
          obtain ⟨e1, e2⟩ := hE _ rfl
          subst e1
          subst e2
          exact mj_iret (pc := 54) d_Rr_number_54 rfl
      · rw [if_pos hc6] at h
        refine mj_iconst (pc := 36) (v := -1) d_Rr_number_36 (by decide) ?_
        obtain e_1 := inj1 h
        subst e_1
        obtain ⟨e1, e2⟩ := hE _ rfl
        subst e1
        subst e2
        exact mj_iret (pc := 37) d_Rr_number_37 rfl
set_option maxRecDepth 20000 in
theorem r_Rr_number  {C0 D : St} {v : Int32} (h : f_Rr_number C0 = some v) : mj_R M_Rr_number 0 (mj_lv M_Rr_number.2.2.1 [.ref 21, .ref 19]) [] (SH, jn C0 D) (some (.int v)) (SH, jn C0 D) := by
  show mj_R M_Rr_number 0 [some (.ref 21), some (.ref 19), none, none, none] [] _ _ _
  unfold f_Rr_number at h
  refine mj_iconst (pc := 0) (v := 0) d_Rr_number_0 (by decide) ?_
  refine mj_istore_n (pc := 1) (i := 2) d_Rr_number_1 rfl rfl (by decide) ?_
  refine mj_aload_n (pc := 2) (i := 0) d_Rr_number_2 rfl rfl (by decide) ?_
  refine cj_getI (pc := 3) d_Rr_number_3 fl_Rr_54 sh_21 rfl (by decide) (by decide) (by decide) ?_
  refine mj_istore_n (pc := 6) (i := 3) d_Rr_number_6 rfl rfl (by decide) ?_
  rcases bdS_some h with ⟨e10, hl9, h⟩ | ⟨o8, hl9, h⟩
  · refine mj_weak [some (.ref 21), some (.ref 19), some (.int 0), some (.int (C0 21 1)), none] (And.intro rfl (And.intro rfl (And.intro rfl (And.intro rfl trivial)))) (l_Rr_number_7 3000 _ _ _ _ hl9 (fun a e => ?_) (fun a e => nomatch e))
    cases e
    obtain e_1 := inj1 h
    subst e_1
    exact ⟨rfl, rfl⟩
  · refine mj_weak [some (.ref 21), some (.ref 19), some (.int 0), some (.int (C0 21 1)), none] (And.intro rfl (And.intro rfl (And.intro rfl (And.intro rfl trivial)))) (l_Rr_number_7 3000 _ _ _ _ hl9 (fun a e => nomatch e) (fun a e => ?_))
    cases e
    refine mj_iload_n (pc := 61) (i := 2) d_Rr_number_61 rfl rfl ?_
    obtain e_1 := inj1 h
    subst e_1
    exact mj_iret (pc := 62) d_Rr_number_62 rfl
set_option maxRecDepth 20000 in
theorem r_Rr_reads {x2 : Int32} {x3 : Int32} {x4 : Int32} {C0 D : St} {v : Int32} {C' : St} (h : f_Rr_reads x2 x3 x4 C0 = some (v, C')) : mj_R M_Rr_reads 0 (mj_lv M_Rr_reads.2.2.1 [.ref 21, .ref 19, .int x2, .int x3, .int x4]) [] (SH, jn C0 D) (some (.int v)) (SH, jn (C') D) := by
  show mj_R M_Rr_reads 0 [some (.ref 21), some (.ref 19), some (.int x2), some (.int x3), some (.int x4), none] [] _ _ _
  unfold f_Rr_reads at h
  refine mj_aload_n (pc := 0) (i := 0) d_Rr_reads_0 rfl rfl (by decide) ?_
  refine mj_aload_n (pc := 1) (i := 1) d_Rr_reads_1 rfl rfl (by decide) ?_
  obtain ⟨v1, C2, hb3, h⟩ := bd2_some h
  refine mj_callV (pc := 2) (b := 21) (vs := [.ref 19]) (st := []) d_Rr_reads_2 bB_Rr_reads_Rr_nextWord lk_Rr_24 iv_Rr_nextWord rc_21 rfl (Nat.le_of_ble_eq_true rfl) (Nat.le_of_ble_eq_true rfl) (r_Rr_nextWord hb3) ?_
  show mj_R M_Rr_reads 5 [some (.ref 21), some (.ref 19), some (.int x2), some (.int x3), some (.int x4), none] [.int v1] (SH, jn C2 D) (some (.int v)) (SH, jn (C') D)
  obtain ⟨w7, hb9, h⟩ := bd1_some h
  have k8 : mj_R M_Rr_reads 17 [some (.ref 21), none, some (.int x2), some (.int x3), some (.int x4), none] [.int w7] (SH, jn C2 D) (some (.int v)) (SH, jn (C') D) := by
    refine mj_istore (pc := 17) (i := 5) d_Rr_reads_17 rfl (by decide) ?_
    refine mj_iload (pc := 19) (i := 5) d_Rr_reads_19 rfl ?_
    refine mj_iload_n (pc := 21) (i := 3) d_Rr_reads_21 rfl rfl ?_
    refine mj_iload (pc := 22) (i := 4) d_Rr_reads_22 rfl ?_
    obtain ⟨v10, hb11, h⟩ := bd1_some h
    refine mj_callS (pc := 24) (vs := [.int w7, .int x3, .int x4]) (st := []) d_Rr_reads_24 bB_Rr_reads_Mk_isWithin lk_Rr_105 st_Mk_isWithin rfl (Nat.le_of_ble_eq_true rfl) (Nat.le_of_ble_eq_true rfl) (r_Mk_isWithin hb11) ?_
    show mj_R M_Rr_reads 27 [some (.ref 21), none, some (.int x2), some (.int x3), some (.int x4), some (.int w7)] [.int v10] (SH, jn C2 D) (some (.int v)) (SH, jn (C') D)
    refine mj_if_ne (y := 0) (pc := 27) (tgt := 32) d_Rr_reads_27 (by decide) mj_hs (fun hc12 => ?_) (fun hc12 => ?_)
    · rw [if_neg hc12] at h
      refine mj_aload_n (pc := 32) (i := 0) d_Rr_reads_32 rfl rfl (by decide) ?_
      refine mj_getR (pc := 33) d_Rr_reads_33 fl_Rr_11 sh_21 rfl rfl (by decide) (by decide) (by decide) ?_
      refine mj_iload_n (pc := 36) (i := 2) d_Rr_reads_36 rfl rfl ?_
      refine mj_iload (pc := 37) (i := 5) d_Rr_reads_37 rfl ?_
      obtain ⟨hg13, h⟩ := mj_gd h
      refine cj_iast (pc := 39) d_Rr_reads_39 sh_22 (by decide) hg13 (by decide) ?_
      refine mj_iconst (pc := 40) (v := 1) d_Rr_reads_40 (by decide) ?_
      obtain ⟨e_1, e_2⟩ := inj2 h
      subst e_1
      subst e_2
      exact mj_zret (pc := 41) (ty := .boolean) d_Rr_reads_41 rfl (mj_b01 (by decide))
    · rw [if_pos hc12] at h
      refine mj_iconst (pc := 30) (v := 0) d_Rr_reads_30 (by decide) ?_
      obtain ⟨e_1, e_2⟩ := inj2 h
      subst e_1
      subst e_2
      exact mj_zret (pc := 31) (ty := .boolean) d_Rr_reads_31 rfl (mj_b01 (by decide))
  have h := hb9
  refine mj_if_eq (y := 0) (pc := 5) (tgt := 16) d_Rr_reads_5 (by decide) mj_hs (fun hc4 => ?_) (fun hc4 => ?_)
  · rw [if_pos hc4] at h
    refine mj_iconst (pc := 16) (v := -1) d_Rr_reads_16 (by decide) ?_
    obtain e_1 := inj1 h
    subst e_1
    exact mj_wk k8 (And.intro rfl (And.intro rfl (And.intro rfl (And.intro rfl trivial))))
  · rw [if_neg hc4] at h
    refine mj_aload_n (pc := 8) (i := 0) d_Rr_reads_8 rfl rfl (by decide) ?_
    refine mj_aload_n (pc := 9) (i := 1) d_Rr_reads_9 rfl rfl (by decide) ?_
    obtain ⟨v5, hb6, h⟩ := bd1_some h
    refine mj_callV (pc := 10) (b := 21) (vs := [.ref 19]) (st := []) d_Rr_reads_10 bB_Rr_reads_Rr_number lk_Rr_102 iv_Rr_number rc_21 rfl (Nat.le_of_ble_eq_true rfl) (Nat.le_of_ble_eq_true rfl) (r_Rr_number hb6) ?_
    show mj_R M_Rr_reads 13 [some (.ref 21), some (.ref 19), some (.int x2), some (.int x3), some (.int x4), none] [.int v5] (SH, jn C2 D) (some (.int v)) (SH, jn (C') D)
    refine mj_goto (pc := 13) (tgt := 17) d_Rr_reads_13 (by decide) ?_
    obtain e_1 := inj1 h
    subst e_1
    exact mj_wk k8 (And.intro rfl (And.intro rfl (And.intro rfl (And.intro rfl trivial))))
set_option maxRecDepth 20000 in
theorem r_Rr_readsAct {x2 : Int32} {x3 : Int32} {C0 D : St} {v : Int32} {C' : St} (h : f_Rr_readsAct x2 x3 C0 = some (v, C')) : mj_R M_Rr_readsAct 0 (mj_lv M_Rr_readsAct.2.2.1 [.ref 21, .ref 19, .int x2, .int x3]) [] (SH, jn C0 D) (some (.int v)) (SH, jn (C') D) := by
  show mj_R M_Rr_readsAct 0 [some (.ref 21), some (.ref 19), some (.int x2), some (.int x3), none, none] [] _ _ _
  unfold f_Rr_readsAct at h
  refine mj_aload_n (pc := 0) (i := 0) d_Rr_readsAct_0 rfl rfl (by decide) ?_
  refine mj_aload_n (pc := 1) (i := 1) d_Rr_readsAct_1 rfl rfl (by decide) ?_
  obtain ⟨v1, hb2, h⟩ := bd1_some h
  refine mj_callV (pc := 2) (b := 21) (vs := [.ref 19]) (st := []) d_Rr_readsAct_2 bB_Rr_readsAct_Rr_actOf lk_Rr_87 iv_Rr_actOf rc_21 rfl (Nat.le_of_ble_eq_true rfl) (Nat.le_of_ble_eq_true rfl) (r_Rr_actOf hb2) ?_
  show mj_R M_Rr_readsAct 5 [some (.ref 21), some (.ref 19), some (.int x2), some (.int x3), none, none] [.int v1] (SH, jn C0 D) (some (.int v)) (SH, jn (C') D)
  refine mj_istore (pc := 5) (i := 4) d_Rr_readsAct_5 rfl (by decide) ?_
  refine mj_iload (pc := 7) (i := 4) d_Rr_readsAct_7 rfl ?_
  refine mj_iconst (pc := 9) (v := -1) d_Rr_readsAct_9 (by decide) ?_
  refine mj_icmp_ne (pc := 10) (tgt := 15) d_Rr_readsAct_10 (by decide) mj_hs (fun hc3 => ?_) (fun hc3 => ?_)
  · rw [if_neg hc3] at h
    refine mj_aload_n (pc := 15) (i := 0) d_Rr_readsAct_15 rfl rfl (by decide) ?_
    refine mj_getR (pc := 16) d_Rr_readsAct_16 fl_Rr_11 sh_21 rfl rfl (by decide) (by decide) (by decide) ?_
    refine mj_iconst (pc := 19) (v := 0) d_Rr_readsAct_19 (by decide) ?_
    refine mj_iload (pc := 20) (i := 4) d_Rr_readsAct_20 rfl ?_
    refine cj_iast (pc := 22) d_Rr_readsAct_22 sh_22 (by decide) (by decide) (by decide) ?_
    show mj_R M_Rr_readsAct 23 [some (.ref 21), some (.ref 19), some (.int x2), some (.int x3), some (.int v1), none] [] (SH, jn (mj_wr C0 22 0 v1) D) (some (.int v)) (SH, jn (C') D)
    refine mj_iload (pc := 23) (i := 4) d_Rr_readsAct_23 rfl ?_
    refine mj_iconst (pc := 25) (v := 4) d_Rr_readsAct_25 (by decide) ?_
    have k6 : mj_R M_Rr_readsAct 40 [some (.ref 21), some (.ref 19), some (.int x2), some (.int x3), some (.int v1), none] [.int (if v1 = 4 then 1 else (if v1 = 5 then 1 else 0 : Int32) : Int32)] (SH, jn (mj_wr C0 22 0 v1) D) (some (.int v)) (SH, jn (C') D) := by
      refine mj_istore (pc := 40) (i := 5) d_Rr_readsAct_40 rfl (by decide) ?_
      refine mj_aload_n (pc := 42) (i := 0) d_Rr_readsAct_42 rfl rfl (by decide) ?_
      refine mj_aload_n (pc := 43) (i := 1) d_Rr_readsAct_43 rfl rfl (by decide) ?_
      refine mj_iconst (pc := 44) (v := 1) d_Rr_readsAct_44 (by decide) ?_
      refine mj_iconst (pc := 45) (v := 0) d_Rr_readsAct_45 (by decide) ?_
      refine mj_iload (pc := 46) (i := 5) d_Rr_readsAct_46 rfl ?_
      have k8 : mj_R M_Rr_readsAct 58 [some (.ref 21), some (.ref 19), some (.int x2), none, some (.int v1), some (.int (if v1 = 4 then 1 else (if v1 = 5 then 1 else 0 : Int32) : Int32))] [.int (if (if v1 = 4 then 1 else (if v1 = 5 then 1 else 0 : Int32) : Int32) = 0 then 4 else x3 - 1 : Int32), .int 0, .int 1, .ref 19, .ref 21] (SH, jn (mj_wr C0 22 0 v1) D) (some (.int v)) (SH, jn (C') D) := by
        obtain ⟨v9, C10, hb11, h⟩ := bd2_some h
        refine mj_callV (pc := 58) (b := 21) (vs := [.ref 19, .int 1, .int 0, .int (if (if v1 = 4 then 1 else (if v1 = 5 then 1 else 0 : Int32) : Int32) = 0 then 4 else x3 - 1 : Int32)]) (st := []) d_Rr_readsAct_58 bB_Rr_readsAct_Rr_reads lk_Rr_34 iv_Rr_reads rc_21 rfl (Nat.le_of_ble_eq_true rfl) (Nat.le_of_ble_eq_true rfl) (r_Rr_reads hb11) ?_
        show mj_R M_Rr_readsAct 61 [some (.ref 21), some (.ref 19), some (.int x2), none, some (.int v1), some (.int (if v1 = 4 then 1 else (if v1 = 5 then 1 else 0 : Int32) : Int32))] [.int v9] (SH, jn C10 D) (some (.int v)) (SH, jn (C') D)
        refine mj_if_ne (y := 0) (pc := 61) (tgt := 66) d_Rr_readsAct_61 (by decide) mj_hs (fun hc12 => ?_) (fun hc12 => ?_)
        · rw [if_neg hc12] at h
          refine mj_iload (pc := 66) (i := 5) d_Rr_readsAct_66 rfl ?_
          refine mj_if_eq (y := 0) (pc := 68) (tgt := 83) d_Rr_readsAct_68 (by decide) mj_hs (fun hc13 => ?_) (fun hc13 => ?_)
          · rw [if_pos hc13] at h
            refine mj_aload_n (pc := 83) (i := 0) d_Rr_readsAct_83 rfl rfl (by decide) ?_
            refine mj_aload_n (pc := 84) (i := 1) d_Rr_readsAct_84 rfl rfl (by decide) ?_
            refine mj_iconst (pc := 85) (v := 2) d_Rr_readsAct_85 (by decide) ?_
            refine mj_iconst (pc := 86) (v := 1) d_Rr_readsAct_86 (by decide) ?_
            refine mj_sipush (pc := 87) (v := 999) d_Rr_readsAct_87 (by decide) ?_
            obtain ⟨v14, C15, hb16, h⟩ := bd2_some h
            refine mj_callV (pc := 90) (b := 21) (vs := [.ref 19, .int 2, .int 1, .int 999]) (st := []) d_Rr_readsAct_90 bB_Rr_readsAct_Rr_reads lk_Rr_34 iv_Rr_reads rc_21 rfl (Nat.le_of_ble_eq_true rfl) (Nat.le_of_ble_eq_true rfl) (r_Rr_reads hb16) ?_
            show mj_R M_Rr_readsAct 93 [some (.ref 21), some (.ref 19), some (.int x2), none, some (.int v1), some (.int (if v1 = 4 then 1 else (if v1 = 5 then 1 else 0 : Int32) : Int32))] [.int v14] (SH, jn C15 D) (some (.int v)) (SH, jn (C') D)
            refine mj_if_ne (y := 0) (pc := 93) (tgt := 98) d_Rr_readsAct_93 (by decide) mj_hs (fun hc17 => ?_) (fun hc17 => ?_)
            · rw [if_neg hc17] at h
              refine mj_iload (pc := 98) (i := 4) d_Rr_readsAct_98 rfl ?_
              by_cases hc18 : v1 = 2
              · rw [if_pos hc18] at h
                refine mj_tsEq (pc := 100) (tgt := 132) 2 d_Rr_readsAct_100 hc18 (by decide) (by decide) (by rfl) (by decide) ?_
                refine mj_aload_n (pc := 132) (i := 0) d_Rr_readsAct_132 rfl rfl (by decide) ?_
                refine mj_aload_n (pc := 133) (i := 1) d_Rr_readsAct_133 rfl rfl (by decide) ?_
                refine mj_iconst (pc := 134) (v := 3) d_Rr_readsAct_134 (by decide) ?_
                refine mj_iconst (pc := 135) (v := 1) d_Rr_readsAct_135 (by decide) ?_
                refine mj_sipush (pc := 136) (v := 999) d_Rr_readsAct_136 (by decide) ?_
                obtain ⟨v22, C23, hb24, h⟩ := bd2_some h
                refine mj_callV (pc := 139) (b := 21) (vs := [.ref 19, .int 3, .int 1, .int 999]) (st := []) d_Rr_readsAct_139 bB_Rr_readsAct_Rr_reads lk_Rr_34 iv_Rr_reads rc_21 rfl (Nat.le_of_ble_eq_true rfl) (Nat.le_of_ble_eq_true rfl) (r_Rr_reads hb24) ?_
                show mj_R M_Rr_readsAct 142 [some (.ref 21), some (.ref 19), some (.int x2), none, some (.int v1), some (.int (if v1 = 4 then 1 else (if v1 = 5 then 1 else 0 : Int32) : Int32))] [.int v22] (SH, jn C23 D) (some (.int v)) (SH, jn (C') D)
                obtain ⟨hg25, h⟩ := mj_gd h
                obtain ⟨e_1, e_2⟩ := inj2 h
                subst e_1
                subst e_2
                exact mj_zret (pc := 142) (ty := .boolean) d_Rr_readsAct_142 rfl (mj_b01 hg25)
              · rw [if_neg hc18] at h
                by_cases hc19 : v1 = 3
                · rw [if_pos hc19] at h
                  refine mj_tsEq (pc := 100) (tgt := 132) 3 d_Rr_readsAct_100 hc19 (by decide) (by decide) (by rfl) (by decide) ?_
                  refine mj_aload_n (pc := 132) (i := 0) d_Rr_readsAct_132 rfl rfl (by decide) ?_
                  refine mj_aload_n (pc := 133) (i := 1) d_Rr_readsAct_133 rfl rfl (by decide) ?_
                  refine mj_iconst (pc := 134) (v := 3) d_Rr_readsAct_134 (by decide) ?_
                  refine mj_iconst (pc := 135) (v := 1) d_Rr_readsAct_135 (by decide) ?_
                  refine mj_sipush (pc := 136) (v := 999) d_Rr_readsAct_136 (by decide) ?_
                  obtain ⟨v26, C27, hb28, h⟩ := bd2_some h
                  refine mj_callV (pc := 139) (b := 21) (vs := [.ref 19, .int 3, .int 1, .int 999]) (st := []) d_Rr_readsAct_139 bB_Rr_readsAct_Rr_reads lk_Rr_34 iv_Rr_reads rc_21 rfl (Nat.le_of_ble_eq_true rfl) (Nat.le_of_ble_eq_true rfl) (r_Rr_reads hb28) ?_
                  show mj_R M_Rr_readsAct 142 [some (.ref 21), some (.ref 19), some (.int x2), none, some (.int v1), some (.int (if v1 = 4 then 1 else (if v1 = 5 then 1 else 0 : Int32) : Int32))] [.int v26] (SH, jn C27 D) (some (.int v)) (SH, jn (C') D)
                  obtain ⟨hg29, h⟩ := mj_gd h
                  obtain ⟨e_1, e_2⟩ := inj2 h
                  subst e_1
                  subst e_2
                  exact mj_zret (pc := 142) (ty := .boolean) d_Rr_readsAct_142 rfl (mj_b01 hg29)
                · rw [if_neg hc19] at h
                  by_cases hc20 : v1 = 4
                  · rw [if_pos hc20] at h
                    refine mj_tsEq (pc := 100) (tgt := 153) 4 d_Rr_readsAct_100 hc20 (by decide) (by decide) (by rfl) (by decide) ?_
                    refine mj_iconst (pc := 153) (v := 1) d_Rr_readsAct_153 (by decide) ?_
                    obtain ⟨e_1, e_2⟩ := inj2 h
                    subst e_1
                    subst e_2
                    exact mj_zret (pc := 154) (ty := .boolean) d_Rr_readsAct_154 rfl (mj_b01 (by decide))
                  · rw [if_neg hc20] at h
                    by_cases hc21 : v1 = 5
                    · rw [if_pos hc21] at h
                      refine mj_tsEq (pc := 100) (tgt := 143) 5 d_Rr_readsAct_100 hc21 (by decide) (by decide) (by rfl) (by decide) ?_
                      refine mj_aload_n (pc := 143) (i := 0) d_Rr_readsAct_143 rfl rfl (by decide) ?_
                      refine mj_aload_n (pc := 144) (i := 1) d_Rr_readsAct_144 rfl rfl (by decide) ?_
                      refine mj_iconst (pc := 145) (v := 3) d_Rr_readsAct_145 (by decide) ?_
                      refine mj_iconst (pc := 146) (v := 1) d_Rr_readsAct_146 (by decide) ?_
                      refine mj_bipush (pc := 147) (v := 30) d_Rr_readsAct_147 (by decide) ?_
                      obtain ⟨v30, C31, hb32, h⟩ := bd2_some h
                      refine mj_callV (pc := 149) (b := 21) (vs := [.ref 19, .int 3, .int 1, .int 30]) (st := []) d_Rr_readsAct_149 bB_Rr_readsAct_Rr_reads lk_Rr_34 iv_Rr_reads rc_21 rfl (Nat.le_of_ble_eq_true rfl) (Nat.le_of_ble_eq_true rfl) (r_Rr_reads hb32) ?_
                      show mj_R M_Rr_readsAct 152 [some (.ref 21), some (.ref 19), some (.int x2), none, some (.int v1), some (.int (if v1 = 4 then 1 else (if v1 = 5 then 1 else 0 : Int32) : Int32))] [.int v30] (SH, jn C31 D) (some (.int v)) (SH, jn (C') D)
                      obtain ⟨hg33, h⟩ := mj_gd h
                      obtain ⟨e_1, e_2⟩ := inj2 h
                      subst e_1
                      subst e_2
                      exact mj_zret (pc := 152) (ty := .boolean) d_Rr_readsAct_152 rfl (mj_b01 hg33)
                    · rw [if_neg hc21] at h
                      refine mj_tableOut (pc := 100) (tgt := 153) d_Rr_readsAct_100 (by have q0 := i32_ne (n := 2) (by decide) hc18; have q1 := i32_ne (n := 3) (by decide) hc19; have q2 := i32_ne (n := 4) (by decide) hc20; have q3 := i32_ne (n := 5) (by decide) hc21; omega) (by decide) ?_
                      refine mj_iconst (pc := 153) (v := 1) d_Rr_readsAct_153 (by decide) ?_
                      obtain ⟨e_1, e_2⟩ := inj2 h
                      subst e_1
                      subst e_2
                      exact mj_zret (pc := 154) (ty := .boolean) d_Rr_readsAct_154 rfl (mj_b01 (by decide))
            · rw [if_pos hc17] at h
              refine mj_iconst (pc := 96) (v := 0) d_Rr_readsAct_96 (by decide) ?_
              obtain ⟨e_1, e_2⟩ := inj2 h
              subst e_1
              subst e_2
              exact mj_zret (pc := 97) (ty := .boolean) d_Rr_readsAct_97 rfl (mj_b01 (by decide))
          · rw [if_neg hc13] at h
            refine mj_aload_n (pc := 71) (i := 0) d_Rr_readsAct_71 rfl rfl (by decide) ?_
            refine mj_getR (pc := 72) d_Rr_readsAct_72 fl_Rr_11 sh_21 rfl rfl (by decide) (by decide) (by decide) ?_
            refine mj_iconst (pc := 75) (v := 1) d_Rr_readsAct_75 (by decide) ?_
            refine cj_iald (pc := 76) d_Rr_readsAct_76 sh_22 (by decide) (by decide) (by decide) ?_
            show mj_R M_Rr_readsAct 77 [some (.ref 21), some (.ref 19), some (.int x2), none, some (.int v1), some (.int (if v1 = 4 then 1 else (if v1 = 5 then 1 else 0 : Int32) : Int32))] [.int (C10 22 1)] (SH, jn C10 D) (some (.int v)) (SH, jn (C') D)
            refine mj_iload_n (pc := 77) (i := 2) d_Rr_readsAct_77 rfl rfl ?_
            refine mj_icmp_ne (pc := 78) (tgt := 83) d_Rr_readsAct_78 (by decide) mj_hs (fun hc35 => ?_) (fun hc35 => ?_)
            · rw [if_neg hc35] at h
              refine mj_aload_n (pc := 83) (i := 0) d_Rr_readsAct_83 rfl rfl (by decide) ?_
              refine mj_aload_n (pc := 84) (i := 1) d_Rr_readsAct_84 rfl rfl (by decide) ?_
              refine mj_iconst (pc := 85) (v := 2) d_Rr_readsAct_85 (by decide) ?_
              refine mj_iconst (pc := 86) (v := 1) d_Rr_readsAct_86 (by decide) ?_
              refine mj_sipush (pc := 87) (v := 999) d_Rr_readsAct_87 (by decide) ?_
              obtain ⟨v36, C37, hb38, h⟩ := bd2_some h
              refine mj_callV (pc := 90) (b := 21) (vs := [.ref 19, .int 2, .int 1, .int 999]) (st := []) d_Rr_readsAct_90 bB_Rr_readsAct_Rr_reads lk_Rr_34 iv_Rr_reads rc_21 rfl (Nat.le_of_ble_eq_true rfl) (Nat.le_of_ble_eq_true rfl) (r_Rr_reads hb38) ?_
              show mj_R M_Rr_readsAct 93 [some (.ref 21), some (.ref 19), some (.int x2), none, some (.int v1), some (.int (if v1 = 4 then 1 else (if v1 = 5 then 1 else 0 : Int32) : Int32))] [.int v36] (SH, jn C37 D) (some (.int v)) (SH, jn (C') D)
              refine mj_if_ne (y := 0) (pc := 93) (tgt := 98) d_Rr_readsAct_93 (by decide) mj_hs (fun hc39 => ?_) (fun hc39 => ?_)
              · rw [if_neg hc39] at h
                refine mj_iload (pc := 98) (i := 4) d_Rr_readsAct_98 rfl ?_
                by_cases hc40 : v1 = 2
                · rw [if_pos hc40] at h
                  refine mj_tsEq (pc := 100) (tgt := 132) 2 d_Rr_readsAct_100 hc40 (by decide) (by decide) (by rfl) (by decide) ?_
                  refine mj_aload_n (pc := 132) (i := 0) d_Rr_readsAct_132 rfl rfl (by decide) ?_
                  refine mj_aload_n (pc := 133) (i := 1) d_Rr_readsAct_133 rfl rfl (by decide) ?_
                  refine mj_iconst (pc := 134) (v := 3) d_Rr_readsAct_134 (by decide) ?_
                  refine mj_iconst (pc := 135) (v := 1) d_Rr_readsAct_135 (by decide) ?_
                  refine mj_sipush (pc := 136) (v := 999) d_Rr_readsAct_136 (by decide) ?_
                  obtain ⟨v44, C45, hb46, h⟩ := bd2_some h
                  refine mj_callV (pc := 139) (b := 21) (vs := [.ref 19, .int 3, .int 1, .int 999]) (st := []) d_Rr_readsAct_139 bB_Rr_readsAct_Rr_reads lk_Rr_34 iv_Rr_reads rc_21 rfl (Nat.le_of_ble_eq_true rfl) (Nat.le_of_ble_eq_true rfl) (r_Rr_reads hb46) ?_
                  show mj_R M_Rr_readsAct 142 [some (.ref 21), some (.ref 19), some (.int x2), none, some (.int v1), some (.int (if v1 = 4 then 1 else (if v1 = 5 then 1 else 0 : Int32) : Int32))] [.int v44] (SH, jn C45 D) (some (.int v)) (SH, jn (C') D)
                  obtain ⟨hg47, h⟩ := mj_gd h
                  obtain ⟨e_1, e_2⟩ := inj2 h
                  subst e_1
                  subst e_2
                  exact mj_zret (pc := 142) (ty := .boolean) d_Rr_readsAct_142 rfl (mj_b01 hg47)
                · rw [if_neg hc40] at h
                  by_cases hc41 : v1 = 3
                  · rw [if_pos hc41] at h
                    refine mj_tsEq (pc := 100) (tgt := 132) 3 d_Rr_readsAct_100 hc41 (by decide) (by decide) (by rfl) (by decide) ?_
                    refine mj_aload_n (pc := 132) (i := 0) d_Rr_readsAct_132 rfl rfl (by decide) ?_
                    refine mj_aload_n (pc := 133) (i := 1) d_Rr_readsAct_133 rfl rfl (by decide) ?_
                    refine mj_iconst (pc := 134) (v := 3) d_Rr_readsAct_134 (by decide) ?_
                    refine mj_iconst (pc := 135) (v := 1) d_Rr_readsAct_135 (by decide) ?_
                    refine mj_sipush (pc := 136) (v := 999) d_Rr_readsAct_136 (by decide) ?_
                    obtain ⟨v48, C49, hb50, h⟩ := bd2_some h
                    refine mj_callV (pc := 139) (b := 21) (vs := [.ref 19, .int 3, .int 1, .int 999]) (st := []) d_Rr_readsAct_139 bB_Rr_readsAct_Rr_reads lk_Rr_34 iv_Rr_reads rc_21 rfl (Nat.le_of_ble_eq_true rfl) (Nat.le_of_ble_eq_true rfl) (r_Rr_reads hb50) ?_
                    show mj_R M_Rr_readsAct 142 [some (.ref 21), some (.ref 19), some (.int x2), none, some (.int v1), some (.int (if v1 = 4 then 1 else (if v1 = 5 then 1 else 0 : Int32) : Int32))] [.int v48] (SH, jn C49 D) (some (.int v)) (SH, jn (C') D)
                    obtain ⟨hg51, h⟩ := mj_gd h
                    obtain ⟨e_1, e_2⟩ := inj2 h
                    subst e_1
                    subst e_2
                    exact mj_zret (pc := 142) (ty := .boolean) d_Rr_readsAct_142 rfl (mj_b01 hg51)
                  · rw [if_neg hc41] at h
                    by_cases hc42 : v1 = 4
                    · rw [if_pos hc42] at h
                      refine mj_tsEq (pc := 100) (tgt := 153) 4 d_Rr_readsAct_100 hc42 (by decide) (by decide) (by rfl) (by decide) ?_
                      refine mj_iconst (pc := 153) (v := 1) d_Rr_readsAct_153 (by decide) ?_
                      obtain ⟨e_1, e_2⟩ := inj2 h
                      subst e_1
                      subst e_2
                      exact mj_zret (pc := 154) (ty := .boolean) d_Rr_readsAct_154 rfl (mj_b01 (by decide))
                    · rw [if_neg hc42] at h
                      by_cases hc43 : v1 = 5
                      · rw [if_pos hc43] at h
                        refine mj_tsEq (pc := 100) (tgt := 143) 5 d_Rr_readsAct_100 hc43 (by decide) (by decide) (by rfl) (by decide) ?_
                        refine mj_aload_n (pc := 143) (i := 0) d_Rr_readsAct_143 rfl rfl (by decide) ?_
                        refine mj_aload_n (pc := 144) (i := 1) d_Rr_readsAct_144 rfl rfl (by decide) ?_
                        refine mj_iconst (pc := 145) (v := 3) d_Rr_readsAct_145 (by decide) ?_
                        refine mj_iconst (pc := 146) (v := 1) d_Rr_readsAct_146 (by decide) ?_
                        refine mj_bipush (pc := 147) (v := 30) d_Rr_readsAct_147 (by decide) ?_
                        obtain ⟨v52, C53, hb54, h⟩ := bd2_some h
                        refine mj_callV (pc := 149) (b := 21) (vs := [.ref 19, .int 3, .int 1, .int 30]) (st := []) d_Rr_readsAct_149 bB_Rr_readsAct_Rr_reads lk_Rr_34 iv_Rr_reads rc_21 rfl (Nat.le_of_ble_eq_true rfl) (Nat.le_of_ble_eq_true rfl) (r_Rr_reads hb54) ?_
                        show mj_R M_Rr_readsAct 152 [some (.ref 21), some (.ref 19), some (.int x2), none, some (.int v1), some (.int (if v1 = 4 then 1 else (if v1 = 5 then 1 else 0 : Int32) : Int32))] [.int v52] (SH, jn C53 D) (some (.int v)) (SH, jn (C') D)
                        obtain ⟨hg55, h⟩ := mj_gd h
                        obtain ⟨e_1, e_2⟩ := inj2 h
                        subst e_1
                        subst e_2
                        exact mj_zret (pc := 152) (ty := .boolean) d_Rr_readsAct_152 rfl (mj_b01 hg55)
                      · rw [if_neg hc43] at h
                        refine mj_tableOut (pc := 100) (tgt := 153) d_Rr_readsAct_100 (by have q0 := i32_ne (n := 2) (by decide) hc40; have q1 := i32_ne (n := 3) (by decide) hc41; have q2 := i32_ne (n := 4) (by decide) hc42; have q3 := i32_ne (n := 5) (by decide) hc43; omega) (by decide) ?_
                        refine mj_iconst (pc := 153) (v := 1) d_Rr_readsAct_153 (by decide) ?_
                        obtain ⟨e_1, e_2⟩ := inj2 h
                        subst e_1
                        subst e_2
                        exact mj_zret (pc := 154) (ty := .boolean) d_Rr_readsAct_154 rfl (mj_b01 (by decide))
              · rw [if_pos hc39] at h
                refine mj_iconst (pc := 96) (v := 0) d_Rr_readsAct_96 (by decide) ?_
                obtain ⟨e_1, e_2⟩ := inj2 h
                subst e_1
                subst e_2
                exact mj_zret (pc := 97) (ty := .boolean) d_Rr_readsAct_97 rfl (mj_b01 (by decide))
            · rw [if_pos hc35] at h
              refine mj_iconst (pc := 81) (v := 0) d_Rr_readsAct_81 (by decide) ?_
              obtain ⟨e_1, e_2⟩ := inj2 h
              subst e_1
              subst e_2
              exact mj_zret (pc := 82) (ty := .boolean) d_Rr_readsAct_82 rfl (mj_b01 (by decide))
        · rw [if_pos hc12] at h
          refine mj_iconst (pc := 64) (v := 0) d_Rr_readsAct_64 (by decide) ?_
          obtain ⟨e_1, e_2⟩ := inj2 h
          subst e_1
          subst e_2
          exact mj_zret (pc := 65) (ty := .boolean) d_Rr_readsAct_65 rfl (mj_b01 (by decide))
      refine mj_if_eq (y := 0) (pc := 48) (tgt := 57) d_Rr_readsAct_48 (by decide) mj_hs (fun hc7 => ?_) (fun hc7 => ?_)
      · refine mj_iconst (pc := 57) (v := 4) d_Rr_readsAct_57 (by decide) ?_
        try simp only [if_pos hc7] at k8
        exact mj_wk k8 (And.intro rfl (And.intro rfl (And.intro rfl (And.intro rfl (And.intro rfl trivial)))))
      · refine mj_iload_n (pc := 51) (i := 3) d_Rr_readsAct_51 rfl rfl ?_
        refine mj_iconst (pc := 52) (v := 1) d_Rr_readsAct_52 (by decide) ?_
        refine mj_isub (pc := 53) d_Rr_readsAct_53 ?_
        refine mj_goto (pc := 54) (tgt := 58) d_Rr_readsAct_54 (by decide) ?_
        try simp only [if_neg hc7] at k8
        exact mj_wk k8 (And.intro rfl (And.intro rfl (And.intro rfl (And.intro rfl (And.intro rfl trivial)))))
    refine mj_icmp_eq (pc := 26) (tgt := 35) d_Rr_readsAct_26 (by decide) mj_hs (fun hc4 => ?_) (fun hc4 => ?_)
    · refine mj_iconst (pc := 35) (v := 1) d_Rr_readsAct_35 (by decide) ?_
      refine mj_goto (pc := 36) (tgt := 40) d_Rr_readsAct_36 (by decide) ?_
      try simp only [if_pos hc4] at k6
      exact mj_wk k6 (And.intro rfl (And.intro rfl (And.intro rfl (And.intro rfl (And.intro rfl trivial)))))
    · refine mj_iload (pc := 29) (i := 4) d_Rr_readsAct_29 rfl ?_
      refine mj_iconst (pc := 31) (v := 5) d_Rr_readsAct_31 (by decide) ?_
      refine mj_icmp_ne (pc := 32) (tgt := 39) d_Rr_readsAct_32 (by decide) mj_hs (fun hc5 => ?_) (fun hc5 => ?_)
      · refine mj_iconst (pc := 39) (v := 0) d_Rr_readsAct_39 (by decide) ?_
        try simp only [if_neg hc4, if_neg hc5] at k6
        exact mj_wk k6 (And.intro rfl (And.intro rfl (And.intro rfl (And.intro rfl (And.intro rfl trivial)))))
      · refine mj_iconst (pc := 35) (v := 1) d_Rr_readsAct_35 (by decide) ?_
        refine mj_goto (pc := 36) (tgt := 40) d_Rr_readsAct_36 (by decide) ?_
        try simp only [if_neg hc4, if_pos hc5] at k6
        exact mj_wk k6 (And.intro rfl (And.intro rfl (And.intro rfl (And.intro rfl (And.intro rfl trivial)))))
  · rw [if_pos hc3] at h
    refine mj_iconst (pc := 13) (v := 0) d_Rr_readsAct_13 (by decide) ?_
    obtain ⟨e_1, e_2⟩ := inj2 h
    subst e_1
    subst e_2
    exact mj_zret (pc := 14) (ty := .boolean) d_Rr_readsAct_14 rfl (mj_b01 (by decide))
set_option maxRecDepth 20000 in
theorem r_Rr_condOf  {C0 D : St} {v : Int32} (h : f_Rr_condOf C0 = some v) : mj_R M_Rr_condOf 0 (mj_lv M_Rr_condOf.2.2.1 [.ref 21, .ref 19]) [] (SH, jn C0 D) (some (.int v)) (SH, jn C0 D) := by
  show mj_R M_Rr_condOf 0 [some (.ref 21), some (.ref 19)] [] _ _ _
  unfold f_Rr_condOf at h
  refine mj_aload_n (pc := 0) (i := 0) d_Rr_condOf_0 rfl rfl (by decide) ?_
  refine mj_aload_n (pc := 1) (i := 1) d_Rr_condOf_1 rfl rfl (by decide) ?_
  refine mj_ldcS (pc := 2) (j := 2) d_Rr_condOf_2 rfl (by decide) rfl ?_
  obtain ⟨v1, hb2, h⟩ := bd1_some h
  refine mj_callV (pc := 4) (b := 21) (vs := [.ref 19, .ref (1000000 + 2)]) (st := []) d_Rr_condOf_4 bB_Rr_condOf_Rr_isWord lk_Rr_30 iv_Rr_isWord rc_21 rfl (Nat.le_of_ble_eq_true rfl) (Nat.le_of_ble_eq_true rfl) (r_Rr_isWord (by decide) hb2) ?_
  show mj_R M_Rr_condOf 7 [some (.ref 21), some (.ref 19)] [.int v1] (SH, jn C0 D) (some (.int v)) (SH, jn C0 D)
  refine mj_if_eq (y := 0) (pc := 7) (tgt := 12) d_Rr_condOf_7 (by decide) mj_hs (fun hc3 => ?_) (fun hc3 => ?_)
  · rw [if_pos hc3] at h
    refine mj_aload_n (pc := 12) (i := 0) d_Rr_condOf_12 rfl rfl (by decide) ?_
    refine mj_aload_n (pc := 13) (i := 1) d_Rr_condOf_13 rfl rfl (by decide) ?_
    refine mj_ldcS (pc := 14) (j := 3) d_Rr_condOf_14 rfl (by decide) rfl ?_
    obtain ⟨v4, hb5, h⟩ := bd1_some h
    refine mj_callV (pc := 16) (b := 21) (vs := [.ref 19, .ref (1000000 + 3)]) (st := []) d_Rr_condOf_16 bB_Rr_condOf_Rr_isWord lk_Rr_30 iv_Rr_isWord rc_21 rfl (Nat.le_of_ble_eq_true rfl) (Nat.le_of_ble_eq_true rfl) (r_Rr_isWord (by decide) hb5) ?_
    show mj_R M_Rr_condOf 19 [some (.ref 21), some (.ref 19)] [.int v4] (SH, jn C0 D) (some (.int v)) (SH, jn C0 D)
    refine mj_if_eq (y := 0) (pc := 19) (tgt := 24) d_Rr_condOf_19 (by decide) mj_hs (fun hc6 => ?_) (fun hc6 => ?_)
    · rw [if_pos hc6] at h
      refine mj_aload_n (pc := 24) (i := 0) d_Rr_condOf_24 rfl rfl (by decide) ?_
      refine mj_aload_n (pc := 25) (i := 1) d_Rr_condOf_25 rfl rfl (by decide) ?_
      refine mj_ldcS (pc := 26) (j := 4) d_Rr_condOf_26 rfl (by decide) rfl ?_
      obtain ⟨v7, hb8, h⟩ := bd1_some h
      refine mj_callV (pc := 28) (b := 21) (vs := [.ref 19, .ref (1000000 + 4)]) (st := []) d_Rr_condOf_28 bB_Rr_condOf_Rr_isWord lk_Rr_30 iv_Rr_isWord rc_21 rfl (Nat.le_of_ble_eq_true rfl) (Nat.le_of_ble_eq_true rfl) (r_Rr_isWord (by decide) hb8) ?_
      show mj_R M_Rr_condOf 31 [some (.ref 21), some (.ref 19)] [.int v7] (SH, jn C0 D) (some (.int v)) (SH, jn C0 D)
      refine mj_if_eq (y := 0) (pc := 31) (tgt := 36) d_Rr_condOf_31 (by decide) mj_hs (fun hc9 => ?_) (fun hc9 => ?_)
      · rw [if_pos hc9] at h
        refine mj_aload_n (pc := 36) (i := 0) d_Rr_condOf_36 rfl rfl (by decide) ?_
        refine mj_aload_n (pc := 37) (i := 1) d_Rr_condOf_37 rfl rfl (by decide) ?_
        refine mj_ldcS (pc := 38) (j := 5) d_Rr_condOf_38 rfl (by decide) rfl ?_
        obtain ⟨v10, hb11, h⟩ := bd1_some h
        refine mj_callV (pc := 40) (b := 21) (vs := [.ref 19, .ref (1000000 + 5)]) (st := []) d_Rr_condOf_40 bB_Rr_condOf_Rr_isWord lk_Rr_30 iv_Rr_isWord rc_21 rfl (Nat.le_of_ble_eq_true rfl) (Nat.le_of_ble_eq_true rfl) (r_Rr_isWord (by decide) hb11) ?_
        show mj_R M_Rr_condOf 43 [some (.ref 21), some (.ref 19)] [.int v10] (SH, jn C0 D) (some (.int v)) (SH, jn C0 D)
        have k13 : mj_R M_Rr_condOf 51 [none, none] [.int (if v10 = 0 then (-1) else 3 : Int32)] (SH, jn C0 D) (some (.int v)) (SH, jn C0 D) := by
          obtain e_1 := inj1 h
          subst e_1
          exact mj_iret (pc := 51) d_Rr_condOf_51 rfl
        refine mj_if_eq (y := 0) (pc := 43) (tgt := 50) d_Rr_condOf_43 (by decide) mj_hs (fun hc12 => ?_) (fun hc12 => ?_)
        · refine mj_iconst (pc := 50) (v := -1) d_Rr_condOf_50 (by decide) ?_
          try simp only [if_pos hc12] at k13
          exact mj_wk k13 trivial
        · refine mj_iconst (pc := 46) (v := 3) d_Rr_condOf_46 (by decide) ?_
          refine mj_goto (pc := 47) (tgt := 51) d_Rr_condOf_47 (by decide) ?_
          try simp only [if_neg hc12] at k13
          exact mj_wk k13 trivial
      · rw [if_neg hc9] at h
        refine mj_iconst (pc := 34) (v := 2) d_Rr_condOf_34 (by decide) ?_
        obtain e_1 := inj1 h
        subst e_1
        exact mj_iret (pc := 35) d_Rr_condOf_35 rfl
    · rw [if_neg hc6] at h
      refine mj_iconst (pc := 22) (v := 1) d_Rr_condOf_22 (by decide) ?_
      obtain e_1 := inj1 h
      subst e_1
      exact mj_iret (pc := 23) d_Rr_condOf_23 rfl
  · rw [if_neg hc3] at h
    refine mj_iconst (pc := 10) (v := 0) d_Rr_condOf_10 (by decide) ?_
    obtain e_1 := inj1 h
    subst e_1
    exact mj_iret (pc := 11) d_Rr_condOf_11 rfl
set_option maxRecDepth 20000 in
theorem r_Rr_readsCond  {C0 D : St} {v : Int32} {C' : St} (h : f_Rr_readsCond C0 = some (v, C')) : mj_R M_Rr_readsCond 0 (mj_lv M_Rr_readsCond.2.2.1 [.ref 21, .ref 19]) [] (SH, jn C0 D) (some (.int v)) (SH, jn (C') D) := by
  show mj_R M_Rr_readsCond 0 [some (.ref 21), some (.ref 19), none, none, none] [] _ _ _
  unfold f_Rr_readsCond at h
  refine mj_aload_n (pc := 0) (i := 0) d_Rr_readsCond_0 rfl rfl (by decide) ?_
  refine mj_aload_n (pc := 1) (i := 1) d_Rr_readsCond_1 rfl rfl (by decide) ?_
  obtain ⟨v1, C2, hb3, h⟩ := bd2_some h
  refine mj_callV (pc := 2) (b := 21) (vs := [.ref 19]) (st := []) d_Rr_readsCond_2 bB_Rr_readsCond_Rr_nextWord lk_Rr_24 iv_Rr_nextWord rc_21 rfl (Nat.le_of_ble_eq_true rfl) (Nat.le_of_ble_eq_true rfl) (r_Rr_nextWord hb3) ?_
  show mj_R M_Rr_readsCond 5 [some (.ref 21), some (.ref 19), none, none, none] [.int v1] (SH, jn C2 D) (some (.int v)) (SH, jn (C') D)
  refine mj_popI (pc := 5) d_Rr_readsCond_5 ?_
  refine mj_aload_n (pc := 6) (i := 0) d_Rr_readsCond_6 rfl rfl (by decide) ?_
  refine mj_aload_n (pc := 7) (i := 1) d_Rr_readsCond_7 rfl rfl (by decide) ?_
  obtain ⟨v4, hb5, h⟩ := bd1_some h
  refine mj_callV (pc := 8) (b := 21) (vs := [.ref 19]) (st := []) d_Rr_readsCond_8 bB_Rr_readsCond_Rr_condOf lk_Rr_71 iv_Rr_condOf rc_21 rfl (Nat.le_of_ble_eq_true rfl) (Nat.le_of_ble_eq_true rfl) (r_Rr_condOf hb5) ?_
  show mj_R M_Rr_readsCond 11 [some (.ref 21), some (.ref 19), none, none, none] [.int v4] (SH, jn C2 D) (some (.int v)) (SH, jn (C') D)
  refine mj_istore_n (pc := 11) (i := 2) d_Rr_readsCond_11 rfl rfl (by decide) ?_
  refine mj_iload_n (pc := 12) (i := 2) d_Rr_readsCond_12 rfl rfl ?_
  refine mj_iconst (pc := 13) (v := -1) d_Rr_readsCond_13 (by decide) ?_
  refine mj_icmp_ne (pc := 14) (tgt := 19) d_Rr_readsCond_14 (by decide) mj_hs (fun hc6 => ?_) (fun hc6 => ?_)
  · rw [if_neg hc6] at h
    refine mj_iload_n (pc := 19) (i := 2) d_Rr_readsCond_19 rfl rfl ?_
    refine mj_iconst (pc := 20) (v := 1) d_Rr_readsCond_20 (by decide) ?_
    have k9 : mj_R M_Rr_readsCond 34 [some (.ref 21), some (.ref 19), some (.int v4), none, none] [.int (if v4 = 1 then 1 else (if v4 = 3 then 1 else 0 : Int32) : Int32)] (SH, jn C2 D) (some (.int v)) (SH, jn (C') D) := by
      refine mj_istore_n (pc := 34) (i := 3) d_Rr_readsCond_34 rfl rfl (by decide) ?_
      refine mj_iload_n (pc := 35) (i := 3) d_Rr_readsCond_35 rfl rfl ?_
      refine mj_if_eq (y := 0) (pc := 36) (tgt := 53) d_Rr_readsCond_36 (by decide) mj_hs (fun hc10 => ?_) (fun hc10 => ?_)
      · rw [if_pos hc10] at h
        refine mj_aload_n (pc := 53) (i := 0) d_Rr_readsCond_53 rfl rfl (by decide) ?_
        refine mj_aload_n (pc := 54) (i := 1) d_Rr_readsCond_54 rfl rfl (by decide) ?_
        obtain ⟨v11, C12, hb13, h⟩ := bd2_some h
        refine mj_callV (pc := 55) (b := 21) (vs := [.ref 19]) (st := []) d_Rr_readsCond_55 bB_Rr_readsCond_Rr_nextWord lk_Rr_24 iv_Rr_nextWord rc_21 rfl (Nat.le_of_ble_eq_true rfl) (Nat.le_of_ble_eq_true rfl) (r_Rr_nextWord hb13) ?_
        show mj_R M_Rr_readsCond 58 [some (.ref 21), some (.ref 19), some (.int v4), some (.int (if v4 = 1 then 1 else (if v4 = 3 then 1 else 0 : Int32) : Int32)), none] [.int v11] (SH, jn C12 D) (some (.int v)) (SH, jn (C') D)
        refine mj_popI (pc := 58) d_Rr_readsCond_58 ?_
        refine mj_aload_n (pc := 59) (i := 0) d_Rr_readsCond_59 rfl rfl (by decide) ?_
        refine mj_aload_n (pc := 60) (i := 1) d_Rr_readsCond_60 rfl rfl (by decide) ?_
        refine mj_ldcS (pc := 61) (j := 6) d_Rr_readsCond_61 rfl (by decide) rfl ?_
        obtain ⟨v14, hb15, h⟩ := bd1_some h
        refine mj_callV (pc := 63) (b := 21) (vs := [.ref 19, .ref (1000000 + 6)]) (st := []) d_Rr_readsCond_63 bB_Rr_readsCond_Rr_isWord lk_Rr_30 iv_Rr_isWord rc_21 rfl (Nat.le_of_ble_eq_true rfl) (Nat.le_of_ble_eq_true rfl) (r_Rr_isWord (by decide) hb15) ?_
        show mj_R M_Rr_readsCond 66 [some (.ref 21), some (.ref 19), some (.int v4), some (.int (if v4 = 1 then 1 else (if v4 = 3 then 1 else 0 : Int32) : Int32)), none] [.int v14] (SH, jn C12 D) (some (.int v)) (SH, jn (C') D)
        refine mj_istore (pc := 66) (i := 4) d_Rr_readsCond_66 rfl (by decide) ?_
        refine mj_iload (pc := 68) (i := 4) d_Rr_readsCond_68 rfl ?_
        refine mj_if_ne (y := 0) (pc := 70) (tgt := 85) d_Rr_readsCond_70 (by decide) mj_hs (fun hc16 => ?_) (fun hc16 => ?_)
        · rw [if_neg hc16] at h
          refine mj_aload_n (pc := 85) (i := 0) d_Rr_readsCond_85 rfl rfl (by decide) ?_
          refine mj_getR (pc := 86) d_Rr_readsCond_86 fl_Rr_11 sh_21 rfl rfl (by decide) (by decide) (by decide) ?_
          refine mj_iconst (pc := 89) (v := 5) d_Rr_readsCond_89 (by decide) ?_
          refine mj_iload (pc := 90) (i := 4) d_Rr_readsCond_90 rfl ?_
          have k18 : mj_R M_Rr_readsCond 102 [some (.ref 21), some (.ref 19), none, none, none] [.int (if v14 = 0 then v4 else v4 + 4 : Int32), .int 5, .ref 22] (SH, jn C12 D) (some (.int v)) (SH, jn (C') D) := by
            refine cj_iast (pc := 102) d_Rr_readsCond_102 sh_22 (by decide) (by decide) (by decide) ?_
            show mj_R M_Rr_readsCond 103 [some (.ref 21), some (.ref 19), none, none, none] [] (SH, jn (mj_wr C12 22 5 (if v14 = 0 then v4 else v4 + 4 : Int32)) D) (some (.int v)) (SH, jn (C') D)
            refine mj_aload_n (pc := 103) (i := 0) d_Rr_readsCond_103 rfl rfl (by decide) ?_
            refine mj_aload_n (pc := 104) (i := 1) d_Rr_readsCond_104 rfl rfl (by decide) ?_
            refine mj_bipush (pc := 105) (v := 7) d_Rr_readsCond_105 (by decide) ?_
            refine mj_iconst (pc := 107) (v := 0) d_Rr_readsCond_107 (by decide) ?_
            refine mj_sipush (pc := 108) (v := 9999) d_Rr_readsCond_108 (by decide) ?_
            obtain ⟨v19, C20, hb21, h⟩ := bd2_some h
            refine mj_callV (pc := 111) (b := 21) (vs := [.ref 19, .int 7, .int 0, .int 9999]) (st := []) d_Rr_readsCond_111 bB_Rr_readsCond_Rr_reads lk_Rr_34 iv_Rr_reads rc_21 rfl (Nat.le_of_ble_eq_true rfl) (Nat.le_of_ble_eq_true rfl) (r_Rr_reads hb21) ?_
            show mj_R M_Rr_readsCond 114 [some (.ref 21), some (.ref 19), none, none, none] [.int v19] (SH, jn C20 D) (some (.int v)) (SH, jn (C') D)
            obtain ⟨hg22, h⟩ := mj_gd h
            obtain ⟨e_1, e_2⟩ := inj2 h
            subst e_1
            subst e_2
            exact mj_zret (pc := 114) (ty := .boolean) d_Rr_readsCond_114 rfl (mj_b01 hg22)
          refine mj_if_eq (y := 0) (pc := 92) (tgt := 101) d_Rr_readsCond_92 (by decide) mj_hs (fun hc17 => ?_) (fun hc17 => ?_)
          · refine mj_iload_n (pc := 101) (i := 2) d_Rr_readsCond_101 rfl rfl ?_
            try simp only [if_pos hc17] at k18
            exact mj_wk k18 (And.intro rfl (And.intro rfl trivial))
          · refine mj_iload_n (pc := 95) (i := 2) d_Rr_readsCond_95 rfl rfl ?_
            refine mj_iconst (pc := 96) (v := 4) d_Rr_readsCond_96 (by decide) ?_
            refine mj_iadd (pc := 97) d_Rr_readsCond_97 ?_
            refine mj_goto (pc := 98) (tgt := 102) d_Rr_readsCond_98 (by decide) ?_
            try simp only [if_neg hc17] at k18
            exact mj_wk k18 (And.intro rfl (And.intro rfl trivial))
        · rw [if_pos hc16] at h
          refine mj_aload_n (pc := 73) (i := 0) d_Rr_readsCond_73 rfl rfl (by decide) ?_
          refine mj_aload_n (pc := 74) (i := 1) d_Rr_readsCond_74 rfl rfl (by decide) ?_
          refine mj_ldcS (pc := 75) (j := 7) d_Rr_readsCond_75 rfl (by decide) rfl ?_
          obtain ⟨v23, hb24, h⟩ := bd1_some h
          refine mj_callV (pc := 77) (b := 21) (vs := [.ref 19, .ref (1000000 + 7)]) (st := []) d_Rr_readsCond_77 bB_Rr_readsCond_Rr_isWord lk_Rr_30 iv_Rr_isWord rc_21 rfl (Nat.le_of_ble_eq_true rfl) (Nat.le_of_ble_eq_true rfl) (r_Rr_isWord (by decide) hb24) ?_
          show mj_R M_Rr_readsCond 80 [some (.ref 21), some (.ref 19), some (.int v4), some (.int (if v4 = 1 then 1 else (if v4 = 3 then 1 else 0 : Int32) : Int32)), some (.int v14)] [.int v23] (SH, jn C12 D) (some (.int v)) (SH, jn (C') D)
          refine mj_if_ne (y := 0) (pc := 80) (tgt := 85) d_Rr_readsCond_80 (by decide) mj_hs (fun hc25 => ?_) (fun hc25 => ?_)
          · rw [if_neg hc25] at h
            refine mj_aload_n (pc := 85) (i := 0) d_Rr_readsCond_85 rfl rfl (by decide) ?_
            refine mj_getR (pc := 86) d_Rr_readsCond_86 fl_Rr_11 sh_21 rfl rfl (by decide) (by decide) (by decide) ?_
            refine mj_iconst (pc := 89) (v := 5) d_Rr_readsCond_89 (by decide) ?_
            refine mj_iload (pc := 90) (i := 4) d_Rr_readsCond_90 rfl ?_
            have k27 : mj_R M_Rr_readsCond 102 [some (.ref 21), some (.ref 19), none, none, none] [.int (if v14 = 0 then v4 else v4 + 4 : Int32), .int 5, .ref 22] (SH, jn C12 D) (some (.int v)) (SH, jn (C') D) := by
              refine cj_iast (pc := 102) d_Rr_readsCond_102 sh_22 (by decide) (by decide) (by decide) ?_
              show mj_R M_Rr_readsCond 103 [some (.ref 21), some (.ref 19), none, none, none] [] (SH, jn (mj_wr C12 22 5 (if v14 = 0 then v4 else v4 + 4 : Int32)) D) (some (.int v)) (SH, jn (C') D)
              refine mj_aload_n (pc := 103) (i := 0) d_Rr_readsCond_103 rfl rfl (by decide) ?_
              refine mj_aload_n (pc := 104) (i := 1) d_Rr_readsCond_104 rfl rfl (by decide) ?_
              refine mj_bipush (pc := 105) (v := 7) d_Rr_readsCond_105 (by decide) ?_
              refine mj_iconst (pc := 107) (v := 0) d_Rr_readsCond_107 (by decide) ?_
              refine mj_sipush (pc := 108) (v := 9999) d_Rr_readsCond_108 (by decide) ?_
              obtain ⟨v28, C29, hb30, h⟩ := bd2_some h
              refine mj_callV (pc := 111) (b := 21) (vs := [.ref 19, .int 7, .int 0, .int 9999]) (st := []) d_Rr_readsCond_111 bB_Rr_readsCond_Rr_reads lk_Rr_34 iv_Rr_reads rc_21 rfl (Nat.le_of_ble_eq_true rfl) (Nat.le_of_ble_eq_true rfl) (r_Rr_reads hb30) ?_
              show mj_R M_Rr_readsCond 114 [some (.ref 21), some (.ref 19), none, none, none] [.int v28] (SH, jn C29 D) (some (.int v)) (SH, jn (C') D)
              obtain ⟨hg31, h⟩ := mj_gd h
              obtain ⟨e_1, e_2⟩ := inj2 h
              subst e_1
              subst e_2
              exact mj_zret (pc := 114) (ty := .boolean) d_Rr_readsCond_114 rfl (mj_b01 hg31)
            refine mj_if_eq (y := 0) (pc := 92) (tgt := 101) d_Rr_readsCond_92 (by decide) mj_hs (fun hc26 => ?_) (fun hc26 => ?_)
            · refine mj_iload_n (pc := 101) (i := 2) d_Rr_readsCond_101 rfl rfl ?_
              try simp only [if_pos hc26] at k27
              exact mj_wk k27 (And.intro rfl (And.intro rfl trivial))
            · refine mj_iload_n (pc := 95) (i := 2) d_Rr_readsCond_95 rfl rfl ?_
              refine mj_iconst (pc := 96) (v := 4) d_Rr_readsCond_96 (by decide) ?_
              refine mj_iadd (pc := 97) d_Rr_readsCond_97 ?_
              refine mj_goto (pc := 98) (tgt := 102) d_Rr_readsCond_98 (by decide) ?_
              try simp only [if_neg hc26] at k27
              exact mj_wk k27 (And.intro rfl (And.intro rfl trivial))
          · rw [if_pos hc25] at h
            refine mj_iconst (pc := 83) (v := 0) d_Rr_readsCond_83 (by decide) ?_
            obtain ⟨e_1, e_2⟩ := inj2 h
            subst e_1
            subst e_2
            exact mj_zret (pc := 84) (ty := .boolean) d_Rr_readsCond_84 rfl (mj_b01 (by decide))
      · rw [if_neg hc10] at h
        refine mj_aload_n (pc := 39) (i := 0) d_Rr_readsCond_39 rfl rfl (by decide) ?_
        refine mj_aload_n (pc := 40) (i := 1) d_Rr_readsCond_40 rfl rfl (by decide) ?_
        refine mj_bipush (pc := 41) (v := 6) d_Rr_readsCond_41 (by decide) ?_
        refine mj_iconst (pc := 43) (v := 0) d_Rr_readsCond_43 (by decide) ?_
        refine mj_iconst (pc := 44) (v := 4) d_Rr_readsCond_44 (by decide) ?_
        obtain ⟨v32, C33, hb34, h⟩ := bd2_some h
        refine mj_callV (pc := 45) (b := 21) (vs := [.ref 19, .int 6, .int 0, .int 4]) (st := []) d_Rr_readsCond_45 bB_Rr_readsCond_Rr_reads lk_Rr_34 iv_Rr_reads rc_21 rfl (Nat.le_of_ble_eq_true rfl) (Nat.le_of_ble_eq_true rfl) (r_Rr_reads hb34) ?_
        show mj_R M_Rr_readsCond 48 [some (.ref 21), some (.ref 19), some (.int v4), some (.int (if v4 = 1 then 1 else (if v4 = 3 then 1 else 0 : Int32) : Int32)), none] [.int v32] (SH, jn C33 D) (some (.int v)) (SH, jn (C') D)
        refine mj_if_ne (y := 0) (pc := 48) (tgt := 53) d_Rr_readsCond_48 (by decide) mj_hs (fun hc35 => ?_) (fun hc35 => ?_)
        · rw [if_neg hc35] at h
          refine mj_aload_n (pc := 53) (i := 0) d_Rr_readsCond_53 rfl rfl (by decide) ?_
          refine mj_aload_n (pc := 54) (i := 1) d_Rr_readsCond_54 rfl rfl (by decide) ?_
          obtain ⟨v36, C37, hb38, h⟩ := bd2_some h
          refine mj_callV (pc := 55) (b := 21) (vs := [.ref 19]) (st := []) d_Rr_readsCond_55 bB_Rr_readsCond_Rr_nextWord lk_Rr_24 iv_Rr_nextWord rc_21 rfl (Nat.le_of_ble_eq_true rfl) (Nat.le_of_ble_eq_true rfl) (r_Rr_nextWord hb38) ?_
          show mj_R M_Rr_readsCond 58 [some (.ref 21), some (.ref 19), some (.int v4), some (.int (if v4 = 1 then 1 else (if v4 = 3 then 1 else 0 : Int32) : Int32)), none] [.int v36] (SH, jn C37 D) (some (.int v)) (SH, jn (C') D)
          refine mj_popI (pc := 58) d_Rr_readsCond_58 ?_
          refine mj_aload_n (pc := 59) (i := 0) d_Rr_readsCond_59 rfl rfl (by decide) ?_
          refine mj_aload_n (pc := 60) (i := 1) d_Rr_readsCond_60 rfl rfl (by decide) ?_
          refine mj_ldcS (pc := 61) (j := 6) d_Rr_readsCond_61 rfl (by decide) rfl ?_
          obtain ⟨v39, hb40, h⟩ := bd1_some h
          refine mj_callV (pc := 63) (b := 21) (vs := [.ref 19, .ref (1000000 + 6)]) (st := []) d_Rr_readsCond_63 bB_Rr_readsCond_Rr_isWord lk_Rr_30 iv_Rr_isWord rc_21 rfl (Nat.le_of_ble_eq_true rfl) (Nat.le_of_ble_eq_true rfl) (r_Rr_isWord (by decide) hb40) ?_
          show mj_R M_Rr_readsCond 66 [some (.ref 21), some (.ref 19), some (.int v4), some (.int (if v4 = 1 then 1 else (if v4 = 3 then 1 else 0 : Int32) : Int32)), none] [.int v39] (SH, jn C37 D) (some (.int v)) (SH, jn (C') D)
          refine mj_istore (pc := 66) (i := 4) d_Rr_readsCond_66 rfl (by decide) ?_
          refine mj_iload (pc := 68) (i := 4) d_Rr_readsCond_68 rfl ?_
          refine mj_if_ne (y := 0) (pc := 70) (tgt := 85) d_Rr_readsCond_70 (by decide) mj_hs (fun hc41 => ?_) (fun hc41 => ?_)
          · rw [if_neg hc41] at h
            refine mj_aload_n (pc := 85) (i := 0) d_Rr_readsCond_85 rfl rfl (by decide) ?_
            refine mj_getR (pc := 86) d_Rr_readsCond_86 fl_Rr_11 sh_21 rfl rfl (by decide) (by decide) (by decide) ?_
            refine mj_iconst (pc := 89) (v := 5) d_Rr_readsCond_89 (by decide) ?_
            refine mj_iload (pc := 90) (i := 4) d_Rr_readsCond_90 rfl ?_
            have k43 : mj_R M_Rr_readsCond 102 [some (.ref 21), some (.ref 19), none, none, none] [.int (if v39 = 0 then v4 else v4 + 4 : Int32), .int 5, .ref 22] (SH, jn C37 D) (some (.int v)) (SH, jn (C') D) := by
              refine cj_iast (pc := 102) d_Rr_readsCond_102 sh_22 (by decide) (by decide) (by decide) ?_
              show mj_R M_Rr_readsCond 103 [some (.ref 21), some (.ref 19), none, none, none] [] (SH, jn (mj_wr C37 22 5 (if v39 = 0 then v4 else v4 + 4 : Int32)) D) (some (.int v)) (SH, jn (C') D)
              refine mj_aload_n (pc := 103) (i := 0) d_Rr_readsCond_103 rfl rfl (by decide) ?_
              refine mj_aload_n (pc := 104) (i := 1) d_Rr_readsCond_104 rfl rfl (by decide) ?_
              refine mj_bipush (pc := 105) (v := 7) d_Rr_readsCond_105 (by decide) ?_
              refine mj_iconst (pc := 107) (v := 0) d_Rr_readsCond_107 (by decide) ?_
              refine mj_sipush (pc := 108) (v := 9999) d_Rr_readsCond_108 (by decide) ?_
              obtain ⟨v44, C45, hb46, h⟩ := bd2_some h
              refine mj_callV (pc := 111) (b := 21) (vs := [.ref 19, .int 7, .int 0, .int 9999]) (st := []) d_Rr_readsCond_111 bB_Rr_readsCond_Rr_reads lk_Rr_34 iv_Rr_reads rc_21 rfl (Nat.le_of_ble_eq_true rfl) (Nat.le_of_ble_eq_true rfl) (r_Rr_reads hb46) ?_
              show mj_R M_Rr_readsCond 114 [some (.ref 21), some (.ref 19), none, none, none] [.int v44] (SH, jn C45 D) (some (.int v)) (SH, jn (C') D)
              obtain ⟨hg47, h⟩ := mj_gd h
              obtain ⟨e_1, e_2⟩ := inj2 h
              subst e_1
              subst e_2
              exact mj_zret (pc := 114) (ty := .boolean) d_Rr_readsCond_114 rfl (mj_b01 hg47)
            refine mj_if_eq (y := 0) (pc := 92) (tgt := 101) d_Rr_readsCond_92 (by decide) mj_hs (fun hc42 => ?_) (fun hc42 => ?_)
            · refine mj_iload_n (pc := 101) (i := 2) d_Rr_readsCond_101 rfl rfl ?_
              try simp only [if_pos hc42] at k43
              exact mj_wk k43 (And.intro rfl (And.intro rfl trivial))
            · refine mj_iload_n (pc := 95) (i := 2) d_Rr_readsCond_95 rfl rfl ?_
              refine mj_iconst (pc := 96) (v := 4) d_Rr_readsCond_96 (by decide) ?_
              refine mj_iadd (pc := 97) d_Rr_readsCond_97 ?_
              refine mj_goto (pc := 98) (tgt := 102) d_Rr_readsCond_98 (by decide) ?_
              try simp only [if_neg hc42] at k43
              exact mj_wk k43 (And.intro rfl (And.intro rfl trivial))
          · rw [if_pos hc41] at h
            refine mj_aload_n (pc := 73) (i := 0) d_Rr_readsCond_73 rfl rfl (by decide) ?_
            refine mj_aload_n (pc := 74) (i := 1) d_Rr_readsCond_74 rfl rfl (by decide) ?_
            refine mj_ldcS (pc := 75) (j := 7) d_Rr_readsCond_75 rfl (by decide) rfl ?_
            obtain ⟨v48, hb49, h⟩ := bd1_some h
            refine mj_callV (pc := 77) (b := 21) (vs := [.ref 19, .ref (1000000 + 7)]) (st := []) d_Rr_readsCond_77 bB_Rr_readsCond_Rr_isWord lk_Rr_30 iv_Rr_isWord rc_21 rfl (Nat.le_of_ble_eq_true rfl) (Nat.le_of_ble_eq_true rfl) (r_Rr_isWord (by decide) hb49) ?_
            show mj_R M_Rr_readsCond 80 [some (.ref 21), some (.ref 19), some (.int v4), some (.int (if v4 = 1 then 1 else (if v4 = 3 then 1 else 0 : Int32) : Int32)), some (.int v39)] [.int v48] (SH, jn C37 D) (some (.int v)) (SH, jn (C') D)
            refine mj_if_ne (y := 0) (pc := 80) (tgt := 85) d_Rr_readsCond_80 (by decide) mj_hs (fun hc50 => ?_) (fun hc50 => ?_)
            · rw [if_neg hc50] at h
              refine mj_aload_n (pc := 85) (i := 0) d_Rr_readsCond_85 rfl rfl (by decide) ?_
              refine mj_getR (pc := 86) d_Rr_readsCond_86 fl_Rr_11 sh_21 rfl rfl (by decide) (by decide) (by decide) ?_
              refine mj_iconst (pc := 89) (v := 5) d_Rr_readsCond_89 (by decide) ?_
              refine mj_iload (pc := 90) (i := 4) d_Rr_readsCond_90 rfl ?_
              have k52 : mj_R M_Rr_readsCond 102 [some (.ref 21), some (.ref 19), none, none, none] [.int (if v39 = 0 then v4 else v4 + 4 : Int32), .int 5, .ref 22] (SH, jn C37 D) (some (.int v)) (SH, jn (C') D) := by
                refine cj_iast (pc := 102) d_Rr_readsCond_102 sh_22 (by decide) (by decide) (by decide) ?_
                show mj_R M_Rr_readsCond 103 [some (.ref 21), some (.ref 19), none, none, none] [] (SH, jn (mj_wr C37 22 5 (if v39 = 0 then v4 else v4 + 4 : Int32)) D) (some (.int v)) (SH, jn (C') D)
                refine mj_aload_n (pc := 103) (i := 0) d_Rr_readsCond_103 rfl rfl (by decide) ?_
                refine mj_aload_n (pc := 104) (i := 1) d_Rr_readsCond_104 rfl rfl (by decide) ?_
                refine mj_bipush (pc := 105) (v := 7) d_Rr_readsCond_105 (by decide) ?_
                refine mj_iconst (pc := 107) (v := 0) d_Rr_readsCond_107 (by decide) ?_
                refine mj_sipush (pc := 108) (v := 9999) d_Rr_readsCond_108 (by decide) ?_
                obtain ⟨v53, C54, hb55, h⟩ := bd2_some h
                refine mj_callV (pc := 111) (b := 21) (vs := [.ref 19, .int 7, .int 0, .int 9999]) (st := []) d_Rr_readsCond_111 bB_Rr_readsCond_Rr_reads lk_Rr_34 iv_Rr_reads rc_21 rfl (Nat.le_of_ble_eq_true rfl) (Nat.le_of_ble_eq_true rfl) (r_Rr_reads hb55) ?_
                show mj_R M_Rr_readsCond 114 [some (.ref 21), some (.ref 19), none, none, none] [.int v53] (SH, jn C54 D) (some (.int v)) (SH, jn (C') D)
                obtain ⟨hg56, h⟩ := mj_gd h
                obtain ⟨e_1, e_2⟩ := inj2 h
                subst e_1
                subst e_2
                exact mj_zret (pc := 114) (ty := .boolean) d_Rr_readsCond_114 rfl (mj_b01 hg56)
              refine mj_if_eq (y := 0) (pc := 92) (tgt := 101) d_Rr_readsCond_92 (by decide) mj_hs (fun hc51 => ?_) (fun hc51 => ?_)
              · refine mj_iload_n (pc := 101) (i := 2) d_Rr_readsCond_101 rfl rfl ?_
                try simp only [if_pos hc51] at k52
                exact mj_wk k52 (And.intro rfl (And.intro rfl trivial))
              · refine mj_iload_n (pc := 95) (i := 2) d_Rr_readsCond_95 rfl rfl ?_
                refine mj_iconst (pc := 96) (v := 4) d_Rr_readsCond_96 (by decide) ?_
                refine mj_iadd (pc := 97) d_Rr_readsCond_97 ?_
                refine mj_goto (pc := 98) (tgt := 102) d_Rr_readsCond_98 (by decide) ?_
                try simp only [if_neg hc51] at k52
                exact mj_wk k52 (And.intro rfl (And.intro rfl trivial))
            · rw [if_pos hc50] at h
              refine mj_iconst (pc := 83) (v := 0) d_Rr_readsCond_83 (by decide) ?_
              obtain ⟨e_1, e_2⟩ := inj2 h
              subst e_1
              subst e_2
              exact mj_zret (pc := 84) (ty := .boolean) d_Rr_readsCond_84 rfl (mj_b01 (by decide))
        · rw [if_pos hc35] at h
          refine mj_iconst (pc := 51) (v := 0) d_Rr_readsCond_51 (by decide) ?_
          obtain ⟨e_1, e_2⟩ := inj2 h
          subst e_1
          subst e_2
          exact mj_zret (pc := 52) (ty := .boolean) d_Rr_readsCond_52 rfl (mj_b01 (by decide))
    refine mj_icmp_eq (pc := 21) (tgt := 29) d_Rr_readsCond_21 (by decide) mj_hs (fun hc7 => ?_) (fun hc7 => ?_)
    · refine mj_iconst (pc := 29) (v := 1) d_Rr_readsCond_29 (by decide) ?_
      refine mj_goto (pc := 30) (tgt := 34) d_Rr_readsCond_30 (by decide) ?_
      try simp only [if_pos hc7] at k9
      exact mj_wk k9 (And.intro rfl (And.intro rfl (And.intro rfl trivial)))
    · refine mj_iload_n (pc := 24) (i := 2) d_Rr_readsCond_24 rfl rfl ?_
      refine mj_iconst (pc := 25) (v := 3) d_Rr_readsCond_25 (by decide) ?_
      refine mj_icmp_ne (pc := 26) (tgt := 33) d_Rr_readsCond_26 (by decide) mj_hs (fun hc8 => ?_) (fun hc8 => ?_)
      · refine mj_iconst (pc := 33) (v := 0) d_Rr_readsCond_33 (by decide) ?_
        try simp only [if_neg hc7, if_neg hc8] at k9
        exact mj_wk k9 (And.intro rfl (And.intro rfl (And.intro rfl trivial)))
      · refine mj_iconst (pc := 29) (v := 1) d_Rr_readsCond_29 (by decide) ?_
        refine mj_goto (pc := 30) (tgt := 34) d_Rr_readsCond_30 (by decide) ?_
        try simp only [if_neg hc7, if_pos hc8] at k9
        exact mj_wk k9 (And.intro rfl (And.intro rfl (And.intro rfl trivial)))
  · rw [if_pos hc6] at h
    refine mj_iconst (pc := 17) (v := 0) d_Rr_readsCond_17 (by decide) ?_
    obtain ⟨e_1, e_2⟩ := inj2 h
    subst e_1
    subst e_2
    exact mj_zret (pc := 18) (ty := .boolean) d_Rr_readsCond_18 rfl (mj_b01 (by decide))
