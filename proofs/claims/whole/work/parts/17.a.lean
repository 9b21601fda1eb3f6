theorem nw_Lw_7 : Cond.classLink "MarketTownLaw" 7 "MarketTown" ∈ TB ∧ Cond.instantiable "MarketTown" 6 ∈ TB ∧ Cond.initialized "MarketTown" ∈ TB := ⟨tb_at 97 (by decide +kernel) (by decide +kernel), tb_at 98 (by decide +kernel) (by decide +kernel), tb_at 79 (by decide +kernel) (by decide +kernel)⟩
theorem nw_Lw_10 : Cond.classLink "MarketTownLaw" 10 "MarketTownModel" ∈ TB ∧ Cond.instantiable "MarketTownModel" 21 ∈ TB ∧ Cond.initialized "MarketTownModel" ∈ TB := ⟨tb_at 921 (by decide +kernel) (by decide +kernel), tb_at 922 (by decide +kernel) (by decide +kernel), tb_at 90 (by decide +kernel) (by decide +kernel)⟩
theorem lk_Lw_9 : Cond.methodLink "MarketTownLaw" 9 M_Mk_init.1 ∈ TB := tb_at 99 (by decide +kernel) (by decide +kernel)
theorem lk_Lw_12 : Cond.methodLink "MarketTownLaw" 12 M_Md_init.1 ∈ TB := tb_at 923 (by decide +kernel) (by decide +kernel)
section LZ
variable {p : Program} {l : Launch} {e : Env} {s : State} {m : MethodId} {below : List Frame} {meth : Method} {c : Code} {b L : Nat} {xs : Nat → Int32} {E : mj_E} {pc : Nat} {st : List Value} {sh sh' : List (Nat × Nat × (Nat → Option Nat))} {x x' : St} {H : Heap} {locs : List Loc} {ls : Array Slot} {Q : State → Prop}
theorem lz_new (K : lx_K p s m meth c b L xs E) {ci N idx n : Nat} {Cn : String} {T : u_T} (hn : sh.length = n) (hd : decode code pc = .ok (.new idx, 3)) (hc : kCls[ci]? = some (Cn, T, N)) (hw : Cond.classLink "MarketTownLaw" idx Cn ∈ TB ∧ Cond.instantiable Cn N ∈ TB ∧ Cond.initialized Cn ∈ TB) (hty : ∀ k, k < N → kFty (kTy ci k) = true ∨ kTy ci k = .int) (h0 : ∀ j, x n j = 0) (hroom : n + 1 ≤ 600000 ∧ mj_sz (sh, x) + N ≤ 7302250) (hH : mj_H E (sh, x) H) (hS : va_S (mj_A E) s.heap H locs)
    (kk : ∀ H1 : Heap, mj_H E (sh ++ [(ci + 3, N, fun _ => none)], x) H1 → va_S (mj_A E) s.heap H1 locs → W p l e room_1 s m #[Value.ref b] below meth c H1 locs (n + 1) (mj_sz (sh, x) + N) Q (F0 m (pc + 3) ls (.ref (E.2.2.1 + n) :: st))) : W p l e room_1 s m #[Value.ref b] below meth c H locs n (mj_sz (sh, x)) Q (F0 m pc ls st) := by
  subst hn
  obtain ⟨⟨hx, hb, hr, hml, hown, hts, hX, hbl, hlocks, hgv⟩, hG, hbase⟩ := K
  have htb : ∀ w ∈ TB, w.before #[Value.ref b] s = true := fun w hw => hts w (List.mem_filter.mp hw).1
  obtain ⟨w1, w2, w3, w4⟩ := kOk hc
  refine va_new (fs := (List.range N).map (fun j => if kRf ci j then va_rf ((none : Option Nat).map (fun i => E.2.2.1 + i)) else Value.int (x sh.length j))) hx hb htb w1 (kTy ci) w3 hown (htb _ hw.1) (htb _ hw.2.1) (htb _ hw.2.2) hG.1 hH (mj_D E (sh, x)) hS (mj_hA (L0 := 0) (by rw [hbase]; rfl)) hc (fun j hj => ?_) hroom.1 hroom.2 hd fun q H1 a1 a2 a3 => ?_
  · show _ = ((List.range N).map (fun j => if kRf ci j then va_rf ((none : Option Nat).map (fun i => E.2.2.1 + i)) else Value.int (x sh.length j))).getD j .null
    rw [List.getD_eq_getElem?_getD, mj_fs (rs := fun _ => none) hj]
    show _ = (if kRf ci j then va_rf none else Value.int (x sh.length j))
    rcases hty j hj with h | h
    · unfold kRf
      rw [h]
      generalize kTy ci j = t at h ⊢
      cases t <;> first | rfl | cases h
    · unfold kRf
      rw [h, h0]
      rfl
  · intro T' hT X
    have hz : T'.heap.size ≤ s.heap.size + (sh.length + 1) := X.same.2.2.1
    rw [hT] at hz
    have hq : q = E.2.2.1 + (sh, x).1.length := mj_newq (mem := (sh, x)) a1 a2 (by rw [hbase]; show H1.size ≤ s.heap.size + sh.length + 1; omega)
    subst hq
    exact kk H1 (by unfold mj_H; rw [mj_wl_push (mem := (sh, x))]; exact a1) a3 T' hT X
theorem lz_init (K : lx_K p s m meth c b L xs E) {M2 : mj_M} {idx q n n' : Nat} (hn : sh.length = n) (hn' : sh'.length = n') (hd : decode code pc = .ok (.invokespecial idx, 3)) (hB : Cond.code M2.1 M2.2.1 M2.2.2.1 M2.2.2.2.1 ∈ TB ∧ Cond.initialized M2.1.cls ∈ TB ∧ (M2.1.cls ≠ "java/lang/invoke/MethodHandle" ∧ M2.1.cls ≠ "java/lang/invoke/VarHandle") ∧ (parseMethodDescriptor M2.1.desc).map (fun d => d.parameters.length) = some 0 ∧ plainName M2.1.cls = true) (hroom : M2.2.2.2.2.1 + 1 ≤ 13 ∧ 8 + (M2.2.2.1 + 11) + M2.2.2.2.2.2 ≤ 484) (hl : Cond.methodLink "MarketTownLaw" idx M2.1 ∈ TB) (hst : Cond.instanceMethod M2.1 ∈ TB) (hin : M2.1.name = "<init>") (hre : M2.2.2.2.1 = none) (hq : q < 1000000) (hen : (mj_ent [.ref q]).length ≤ M2.2.2.1) (hw : (st.map fun v => v.category).sum ≤ 8) (hfit : n' ≤ 600000 ∧ mj_sz (sh', x') ≤ 7302250) (hH : mj_H E (sh, x) H) (hS : va_S (mj_A E) s.heap H locs)
    (hR : mj_R M2 0 (mj_lv M2.2.2.1 [.ref q]) [] (sh, x) none (sh', x')) (kk : ∀ (H1 : Heap) (locs1 : List Loc), mj_H E (sh', x') H1 → va_S (mj_A E) s.heap H1 locs1 → W p l e room_1 s m #[Value.ref b] below meth c H1 locs1 n' (mj_sz (sh', x')) Q (F0 m (pc + 3) ls st)) (hls : ls.size = 4) : W p l e room_1 s m #[Value.ref b] below meth c H locs n (mj_sz (sh, x)) Q (F0 m pc ls (.ref (E.2.2.1 + q) :: st)) := by
  subst hn
  subst hn'
  obtain ⟨⟨hx, hb, hr, hml, hown, hts, hX, hbl, hlocks, hgv⟩, hG, hbase⟩ := K
  have htb : ∀ w ∈ TB, w.before #[Value.ref b] s = true := fun w hw => hts w (List.mem_filter.mp hw).1
  obtain ⟨b1, b2, b3, b4, b5⟩ := hB
  have hM := mj_met hR b5 hen E l
  have hle := hR.1
  have g1 : sh.length ≤ sh'.length := hle.1
  have g2 := hle.2
  refine mj_size (L0 := 0) (mem := (sh, x)) hH (by rw [hbase]; rfl) (Nat.zero_le _) fun hsz => ?_
  have hargs : ([.ref q] : List Value).map (mj_cv E) = [.ref (E.2.2.1 + q)] := by rw [List.map_cons, mj_adw hq]; rfl
  have hpre : PreS s H (mj_P E [.ref q] (sh, x)) (.ref (E.2.2.1 + q) :: []) := ⟨mj_blind E _ _, fun U hU hW => ⟨by rw [hargs], by rw [hU]; exact hH, by rw [hU]; exact hsz, hG.moved hW hU hS⟩⟩
  have fix : CallFix p m c code 4 s #[Value.ref b] TB "MarketTownLaw" := ⟨hx, hb, hml, hown, htb⟩
  have hwsn : mj_ws M2 = Cond.code M2.1 M2.2.1 M2.2.2.1 none :: TB := by unfold mj_ws; rw [hre]
  have run : va_Run p l e room_1 s m #[Value.ref b] below meth c H locs sh.length (mj_sz (sh, x)) ((sh', x').1.length - (sh, x).1.length) (mj_sz (sh', x') - mj_sz (sh, x)) (F0 m pc ls (.ref (E.2.2.1 + q) :: st)) st (mj_Q E none (sh', x') (Value.ref (E.2.2.1 + q) :: []).toArray) (mj_A E) :=
    va_runI (n := 0) (maxL := M2.2.2.1) (bytes := M2.2.1) fix hM ⟨callB_of 0 htb (mj_good b1) hwsn rfl rfl (htb _ b2) (htb _ hl) ⟨b3.1, b3.2, b4⟩ hroom, hin, htb _ hst⟩ hpre rfl rfl hls rfl (lv_room hw) hd ⟨by show sh.length + (sh'.length - sh.length) ≤ 600000; omega, by show _ ≤ 7302250; omega⟩
  refine mj_go run hS fun H1 locs1 hH1 hS1 => ?_
  have k1 := kk H1 locs1 hH1 hS1
  have q1 : (sh, x).1.length - 0 + ((sh', x').1.length - (sh, x).1.length) = sh'.length := by show sh.length - 0 + (sh'.length - sh.length) = sh'.length; omega
  have q2 : mj_sz (sh, x) + (mj_sz (sh', x') - mj_sz (sh, x)) = mj_sz (sh', x') := by omega
  rw [q1, q2]
  exact k1
end LZ
section LO
variable {p : Program} {l : Launch} {e : Env} {s : State} {m : MethodId} {below : List Frame} {meth : Method} {c : Code} {b L : Nat} {xs : Nat → Int32} {E : mj_E} {Rel : Nat → St → St → Prop}
theorem lo_i (t : Nat) : (nI (6 * t)) + Int32.ofInt 6 = nI (6 * (t + 1)) := by
  have h : Int32.ofInt 6 = nI 6 := by decide
  rw [h, nI_add, show 6 * t + 6 = 6 * (t + 1) by omega]
theorem lo_in {t : Nat} (h : 6 * t + 6 ≤ L) (hL : L ≤ 3072) : ∀ k : Int32, 1 ≤ k → k ≤ 5 → vp_in (nI (6 * t) + k) L := by
  intro k h1 h2
  rw [Int32.le_iff_toInt_le] at h1 h2
  have e1 : (1 : Int32).toInt = 1 := by decide
  have e5 : (5 : Int32).toInt = 5 := by decide
  rw [e1] at h1
  rw [e5] at h2
  obtain ⟨j, hj, rfl⟩ := nI_of (x := k) (by rw [Int32.lt_iff_toInt_lt, Int32.toInt_zero]; omega)
  rw [nI_toInt hj] at h1 h2
  rw [nI_add]
  exact vp_in_nI (by omega) (by omega)
theorem lo_gt {t : Nat} (hL : L ≤ 3072) (ht : 6 * t ≤ L + 6) : (Int32.ofNat L - 6 < nI (6 * t)) ↔ L < 6 * t + 6 := by
  have e6 : (6 : Int32) = nI 6 := by decide
  have e1 : (nI L - nI 6).toInt = (L : Int) - 6 := pk_sub_toInt (by omega) (by omega)
  rw [Int32.lt_iff_toInt_lt, nI_toInt (show 6 * t < 2 ^ 31 by omega), e6]
  show (nI L - nI 6).toInt < _ ↔ _
  rw [e1]
  omega
theorem lo_loop (hSIM : SIM Rel) (K : lx_K p s m meth c b L xs E) (hL : L ≤ 3072) : ∀ (n t : Nat) (C D : St), 6 * t ≤ L + 6 → L + 12 ≤ 6 * t + n → Rel t C D → lx p l e s m below meth c b E C D (nI (6 * t)) 18 [] := by
  intro n
  induction n with
  | zero => intro t C D h1 h2; omega
  | succ n ih =>
    intro t C D ht hn hrel H locs ls hH hS hl
    have hx := K.1.1
    have hb := K.1.2.1
    refine lv_iload_n hx hb d_law_18 rfl (lv_at hl 0 rfl) ?_
    refine lv_aload_n hx hb d_law_19 rfl (lv_at hl 3 rfl) ?_
    refine va_slen hx hb K.1.2.2.2.2.2.2.1 K.1.2.2.2.2.2.2.2.1 (lx_hbA K) hS d_law_20 ?_
    refine lv_bipush (v := 6) hx hb d_law_21 (by decide) ?_
    refine lv_isub hx hb d_law_23 ?_
    refine lv_icmp_gt (tgt := 915) hx hb d_law_24 (by decide) (fun hc => ?_) (fun hc => ?_)
    · refine va_forget (fun q hq => by rw [← K.2.2]; exact hS.2.2 q hq) ?_
      refine lv_iconst (v := 1) hx hb d_law_915 (by decide) ?_
      refine W.widen (k := 600000) (n := 7302250) (by decide) (by decide) ?_
      exact lw_ret hx hb K.1.2.2.1 K.1.2.2.2.2.2.2.2.2.1 d_law_916
    · rw [lo_gt hL ht] at hc
      have hle : 6 * t + 6 ≤ L := by omega
      have hin := lo_in (t := t) hle hL
      have hin0 : vp_in (nI (6 * t)) L := vp_in_nI (by omega) (by omega)
      have hback : ∀ C2 D2 : St, Rel (t + 1) C2 D2 → lx p l e s m below meth c b E C2 D2 (nI (6 * t)) 909 [] := by
        intro C2 D2 h2 H2 locs2 ls2 hH2 hS2 hl2
        refine lv_iinc (v := nI (6 * (t + 1))) (lv' := [(3, .int (nI (6 * (t + 1)))), (2, .ref (E.2.2.1 + 88)), (1, .ref (E.2.2.1 + 0)), (0, .ref b)]) hx hb d_law_909 hl2 (k := 0) rfl (lo_i t) (by decide) rfl (fun ls3 hl3 => ?_)
        refine lv_goto (tgt := 18) hx hb d_law_912 (by decide) ?_
        exact ih (t + 1) C2 D2 (by omega) (by omega) h2 H2 locs2 ls3 hH2 hS2 hl3
      obtain ⟨s_agent, s_give, s_good, s_recipe, s_policy, s_lots, s_feed, s_trim, s_rule, s_unrule, s_live, s_about, s_isOf, s_has, s_told, s_goods, s_paid, s_loan, s_median, s_save, s_load, s_differs, s_count⟩ := hSIM.2 t C D (by omega) hrel
      refine lv_aload_n hx hb d_law_27 rfl (lv_at hl 3 rfl) ?_
      refine lv_iload_n hx hb d_law_28 rfl (lv_at hl 0 rfl) ?_
      refine va_sld hx hb K.1.2.2.2.2.2.2.1 K.1.2.2.2.2.2.2.2.1 (lx_hbA K) hS hin0 d_law_29 ?_
      refine lv_bipush (v := 31) hx hb d_law_30 (by decide) ?_
      refine lv_iand hx hb d_law_32 ?_
      obtain ⟨j, hj, ej⟩ := pk_andE (xs (nI (6 * t)).toNatClampNeg) (m := 31) 5 (by decide)
      rw [ej]
      match j, hj with
      | 0, _ => exact lv_tableIn (tgt := 140) hx hb d_law_33 (by decide) (by decide) (by rfl) (by decide) (lc_agent K hin s_agent hback H locs ls hH hS hl)
      | 1, _ => exact lv_tableIn (tgt := 173) hx hb d_law_33 (by decide) (by decide) (by rfl) (by decide) (lc_give K hin s_give hback H locs ls hH hS hl)
      | 2, _ => exact lv_tableIn (tgt := 216) hx hb d_law_33 (by decide) (by decide) (by rfl) (by decide) (lc_good K hin s_good hback H locs ls hH hS hl)
      | 3, _ => exact lv_tableIn (tgt := 259) hx hb d_law_33 (by decide) (by decide) (by rfl) (by decide) (lc_recipe K hin s_recipe hback H locs ls hH hS hl)
      | 4, _ => exact lv_tableIn (tgt := 322) hx hb d_law_33 (by decide) (by decide) (by rfl) (by decide) (lc_policy K hin s_policy hback H locs ls hH hS hl)
      | 5, _ => exact lv_tableIn (tgt := 355) hx hb d_law_33 (by decide) (by decide) (by rfl) (by decide) (lc_lots K hin s_lots hback H locs ls hH hS hl)
      | 6, _ => exact lv_tableIn (tgt := 378) hx hb d_law_33 (by decide) (by decide) (by rfl) (by decide) (lc_feed K hin s_feed hback H locs ls hH hS hl)
      | 7, _ => exact lv_tableIn (tgt := 441) hx hb d_law_33 (by decide) (by decide) (by rfl) (by decide) (lc_trim K hin s_trim hback H locs ls hH hS hl)
      | 8, _ => exact lv_tableIn (tgt := 464) hx hb d_law_33 (by decide) (by decide) (by rfl) (by decide) (lc_rule K hin s_rule hback H locs ls hH hS hl)
      | 9, _ => exact lv_tableIn (tgt := 487) hx hb d_law_33 (by decide) (by decide) (by rfl) (by decide) (lc_unrule K hin s_unrule hback H locs ls hH hS hl)
      | 10, _ => exact lv_tableIn (tgt := 510) hx hb d_law_33 (by decide) (by decide) (by rfl) (by decide) (lc_live K hin s_live hback H locs ls hH hS hl)
      | 11, _ => exact lv_tableIn (tgt := 533) hx hb d_law_33 (by decide) (by decide) (by rfl) (by decide) (lc_about K hin s_about hback H locs ls hH hS hl)
      | 12, _ => exact lv_tableIn (tgt := 566) hx hb d_law_33 (by decide) (by decide) (by rfl) (by decide) (lc_isOf K hin s_isOf hback H locs ls hH hS hl)
      | 13, _ => exact lv_tableIn (tgt := 599) hx hb d_law_33 (by decide) (by decide) (by rfl) (by decide) (lc_has K hin s_has hback H locs ls hH hS hl)
      | 14, _ => exact lv_tableIn (tgt := 642) hx hb d_law_33 (by decide) (by decide) (by rfl) (by decide) (lc_told K hin s_told hback H locs ls hH hS hl)
      | 15, _ => exact lv_tableIn (tgt := 685) hx hb d_law_33 (by decide) (by decide) (by rfl) (by decide) (lc_goods K hin s_goods hback H locs ls hH hS hl)
      | 16, _ => exact lv_tableIn (tgt := 718) hx hb d_law_33 (by decide) (by decide) (by rfl) (by decide) (lc_paid K hin s_paid hback H locs ls hH hS hl)
      | 17, _ => exact lv_tableIn (tgt := 761) hx hb d_law_33 (by decide) (by decide) (by rfl) (by decide) (lc_loan K hin s_loan hback H locs ls hH hS hl)
      | 18, _ => exact lv_tableIn (tgt := 794) hx hb d_law_33 (by decide) (by decide) (by rfl) (by decide) (lc_median K hin s_median hback H locs ls hH hS hl)
      | 19, _ => exact lv_tableIn (tgt := 817) hx hb d_law_33 (by decide) (by decide) (by rfl) (by decide) (lc_save K hin s_save hback H locs ls hH hS hl)
      | 20, _ => exact lv_tableIn (tgt := 840) hx hb d_law_33 (by decide) (by decide) (by rfl) (by decide) (lc_load K hin s_load hback H locs ls hH hS hl)
      | 21, _ => exact lv_tableIn (tgt := 863) hx hb d_law_33 (by decide) (by decide) (by rfl) (by decide) (lc_differs K hin s_differs hback H locs ls hH hS hl)
      | 22, _ => exact lv_tableIn (tgt := 886) hx hb d_law_33 (by decide) (by decide) (by rfl) (by decide) (lc_count K hin s_count hback H locs ls hH hS hl)
      | 23, _ => exact lv_tableOut (tgt := 909) hx hb d_law_33 (Or.inr (by decide)) (by decide) (hback C D (hSIM.1 t C D hrel) H locs ls hH hS hl)
      | 24, _ => exact lv_tableOut (tgt := 909) hx hb d_law_33 (Or.inr (by decide)) (by decide) (hback C D (hSIM.1 t C D hrel) H locs ls hH hS hl)
      | 25, _ => exact lv_tableOut (tgt := 909) hx hb d_law_33 (Or.inr (by decide)) (by decide) (hback C D (hSIM.1 t C D hrel) H locs ls hH hS hl)
      | 26, _ => exact lv_tableOut (tgt := 909) hx hb d_law_33 (Or.inr (by decide)) (by decide) (hback C D (hSIM.1 t C D hrel) H locs ls hH hS hl)
      | 27, _ => exact lv_tableOut (tgt := 909) hx hb d_law_33 (Or.inr (by decide)) (by decide) (hback C D (hSIM.1 t C D hrel) H locs ls hH hS hl)
      | 28, _ => exact lv_tableOut (tgt := 909) hx hb d_law_33 (Or.inr (by decide)) (by decide) (hback C D (hSIM.1 t C D hrel) H locs ls hH hS hl)
      | 29, _ => exact lv_tableOut (tgt := 909) hx hb d_law_33 (Or.inr (by decide)) (by decide) (hback C D (hSIM.1 t C D hrel) H locs ls hH hS hl)
      | 30, _ => exact lv_tableOut (tgt := 909) hx hb d_law_33 (Or.inr (by decide)) (by decide) (hback C D (hSIM.1 t C D hrel) H locs ls hH hS hl)
      | 31, _ => exact lv_tableOut (tgt := 909) hx hb d_law_33 (Or.inr (by decide)) (by decide) (hback C D (hSIM.1 t C D hrel) H locs ls hH hS hl)
      | j + 32, hj => exact absurd hj (by omega)
end LO
