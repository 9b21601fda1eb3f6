/-! PURE: a day: loans: settled -/
theorem settle_ok {C D : St} {t n d q i : Nat} (h : LSt C D t n d q) (hi : i < q) (ho : opC C i = true) (f : Nat) : ∃ a C' D', C 16 (4 * i + 1) = nI a ∧ f_Ln_settle (nI i) (nI a) C = some C' ∧ L_Md_settle_5 (f + 1) (nI (cn (opC C) i)) D = (bd1 (f_Md_firstDue D') fun v19 => L_Md_settle_5 f v19 D') ∧ LSt C' D' t n d q ∧ opC C' i = false ∧ (∀ j, j < q → C' 16 (4 * j + 3) = C 16 (4 * j + 3) ∧ (opC C' j = true → opC C j = true)) ∧ (∀ j, j ≠ 3 → j ≠ 4 → j ≠ 6 → j ≠ 16 → C' j = C j) ∧ (∀ j, j ≠ 89 → j ≠ 102 → D' j = D j) ∧ D' 89 2164 = D 89 2164 := by
  have hn := h.2.1.n
  have hq := h.2.2.1.1
  have hle := cn_le (P := opC C) q
  have hlt := cn_lt (P := opC C) (a := i) q hi ho
  obtain ⟨a, a1, a2, a3⟩ := rg_nI (h.2.2.2 i hi).2.1
  have ha : a < n := by omega
  obtain ⟨r1, r2, r3, r4⟩ := h.2.2.2.at hn hi
  have d0 : D 89 (1363 + (4 * cn (opC C) i + 0)) = C 16 (4 * i) := h.2.2.1.2.2.2 i hi ho 0 (by omega)
  have d1 : D 89 (1363 + (4 * cn (opC C) i + 1)) = nI a := by rw [h.2.2.1.2.2.2 i hi ho 1 (by omega), a3]
  have d2 : D 89 (1363 + (4 * cn (opC C) i + 2)) = C 16 (4 * i + 2) := h.2.2.1.2.2.2 i hi ho 2 (by omega)
  have dc : f_Md_cash (nI a) D = some (C 3 a) := by rw [m_cash (by omega), (h.1.a (show a < 12 by omega)).2.1]
  have g0 : f_Ln_get (nI i) 0 C = some (C 16 (4 * i)) := v_lget (k := 0) (by omega) (by omega)
  have g2 : f_Ln_get (nI i) 2 C = some (C 16 (4 * i + 2)) := v_lget (k := 2) (by omega) (by omega)
  have mhead : ∀ X, (if (C 3 a) < (C 16 (4 * i + 2)) then bd1 (f_Md_breaks (nI a) D) fun C9 => some C9 else bd1 (f_Md_pays (nI a) (C 16 (4 * i)) (C 16 (4 * i + 2)) 4 D) fun C12 => bd1 (f_Md_closeLoan (nI (cn (opC C) i)) C12) fun C14 => some C14) = some X → L_Md_settle_5 (f + 1) (nI (cn (opC C) i)) D = (bd1 (f_Md_firstDue X) fun v19 => L_Md_settle_5 f v19 X) := fun X hX => by
    rw [L_Md_settle_5, if_neg (nI_nlt0 (by omega)), l1, l2, m_at, m_at, m_at0, if_pos (inb_t (by omega) (by omega)), if_pos (inb_t (by omega) (by omega)), if_pos (inb_t (by omega) (by omega)), nI_clamp (by omega), nI_clamp (by omega), nI_clamp (by omega), d0, d1, d2, dc, bd1_s, hX, bd1_s]
  by_cases hc : C 3 a < C 16 (4 * i + 2)
  · have hb := lst_broke h ha
    have op : opC (mj_wr C 4 a 1) = opC C := by funext j; unfold opC; rw [wr_cell _ _ (by omega)]
    obtain ⟨v6, C1, C2, E1, E2, E3, D', o19, b1, b2, b3, b4, b5, b6, b7, b8, b9, b10, b11, b12, b13, b14⟩ := break_ok hb ha hi (by rw [op]; exact ho) (by rw [wr_cell _ _ (by omega)]; exact a3)
    have hA : isA (mj_wr C 4 a 1) a i = true := by
      unfold isA dA
      rw [op, ho, wr_cell _ _ (by omega), decide_eq_true a3]; rfl
    refine ⟨a, C2, D', a3, ?_, mhead D' ?_, b10, ?_, fun j hj => ⟨?_, fun hh => ?_⟩, fun j h3 h4 h6 h16 => by rw [b12 j h3 h6 h16, wr_row _ _ h4], fun j h1 h2 => by rw [b13 j h1 h2, wr_row _ _ h1], by rw [b14, wr_idx _ _ (by omega)]⟩
    · unfold f_Ln_settle
      rw [if_pos (inb_t (by omega) (by omega)), g2, bd1_s, nI_clamp (by omega), if_pos hc, b1, bd1_s, b2, bd1_s, b3, bd1_s, bd1_s]
    · rw [if_pos hc]
      have e2 : (0 + (5 * nI a)) + 2 = nI (5 * a + 2) := by
        rw [l0, l5, l2]
        simp only [pk_mul, nI_add]
        exact congrArg nI (by omega)
      have c3 : mj_wr C 4 a 1 3 a = C 3 a := wr_cell _ _ (by omega)
      rw [c3] at b5 b6
      unfold f_Md_breaks
      rw [e2, if_pos (inb_t (by omega) (by omega)), nI_clamp (by omega), b4, bd1_s, b5, bd1_s, b6, bd2_s, b7, bd1_s, b8, bd1_s, b9, bd1_s, bd1_s]
    · rw [(b11 i hi).2, hA, op]; simp
    · rw [(b11 j hj).1, wr_cell _ _ (by omega)]
    · rw [(b11 j hj).2, op, Bool.and_eq_true] at hh
      exact hh.1
  · have ck := h.2.1.ck
    have cb := sm_le ck.1 (show a < 12 by omega)
    have cb2 := ck.2.2
    have ne := h.2.2.2.ne hn hi a3
    rw [Int32.lt_iff_toInt_lt] at hc
    have w0 : 0 ≤ (C 16 (4 * i + 2)).toInt := by rw [r3, nI_toInt (by omega)]; omega
    obtain ⟨C1, c1, c2, c3, c4, c5⟩ := hand_ck (C := C) (v := C 16 (4 * i + 2)) hn ck ha r2 w0 (by omega)
    obtain ⟨D1, f1, f2, f3, f4, f5, f6⟩ := m_pays (D := D) (a := a) (b := lnd C i) (r := 4) (by omega) (by omega) (by omega) (C 16 (4 * i + 2))
    have N1 : NLR C1 D1 := by
      refine nlr_cash h.1 (fun j h3 h6 _ _ => c5 j h3 h6) f4 (fun i hi _ => f5 i (by omega)) (fun x hx => ?_) (fun z hz => ?_)
      · rw [c3, f2, if_pos (by omega)]
        have hh : ∀ x, x < 12 → C 3 x = D 89 (5 * x + 1) := fun x hx => (h.1.a hx).2.1
        unfold py up
        dsimp only
        rw [hh x hx, hh a (by omega), hh (lnd C i) (by omega)]
      · rw [c4, f3 z hz]
        have hh : ∀ i, i < 720 → C 6 i = D 89 (1443 + i) := fun i hi => h.1.b hi
        unfold up
        dsimp only
        rw [hh z hz, hh _ (by omega)]
    have W1 : NLW C1 t n d := nlw_cash h.2.1 (fun j h3 h6 _ _ => c5 j h3 h6) c2
    have T1 : TL C1 D1 q := (h.2.2.1.ext (by rw [c5 15 (by omega) (by omega)]) (fun z _ => by rw [c5 16 (by omega) (by omega)])).extD (fun z hz => f5 z (by omega))
    have op : opC C1 = opC C := by funext j; unfold opC; rw [c5 16 (by omega) (by omega)]
    obtain ⟨D2, k1, k2, k3, k4⟩ := tl_close (C' := mj_wr C1 16 (4 * i + 2) 0) T1 hi (by rw [op]; exact ho) (by rw [wr_cell _ _ (by omega)]) (wr_same _ _ _ _) (fun z _ hz => wr_idx _ _ hz)
    rw [op] at k1
    have ec : f_Ln_close (nI i) C1 = some (mj_wr C1 16 (4 * i + 2) 0) := by
      unfold f_Ln_close
      rw [show (2 : Int32) = nI 2 from rfl, q_at, if_pos (inb_t (by omega) (by omega)), nI_clamp (by omega)]
    refine ⟨a, mj_wr C1 16 (4 * i + 2) 0, D2, a3, ?_, mhead D2 ?_, ⟨?_, ?_, k2, fun j hj => ?_⟩, ?_, fun j hj => ⟨?_, fun hh => ?_⟩, fun j h3 h4 h6 h16 => by rw [wr_row _ _ h16, c5 j h3 h6], fun j h1 h2 => by rw [k4 j h1, f6 j h1], by rw [k3 2164 (by omega) (by omega), f5 2164 (by omega)]⟩
    · unfold f_Ln_settle
      rw [if_pos (inb_t (by omega) (by omega)), g2, bd1_s, nI_clamp (by omega), if_neg (by rw [Int32.lt_iff_toInt_lt]; exact hc), g0, bd1_s, bd1_s, r1, c1, bd1_s, ec, bd1_s, bd1_s]
    · rw [if_neg (by rw [Int32.lt_iff_toInt_lt]; exact hc), r1, l4, f1, bd1_s, k1, bd1_s]
    · refine nlr_cash N1 (fun j _ _ _ h16 => wr_row _ _ h16) (fun z h1 h2 => k3 z (by omega) (by omega)) (fun z h1 h2 => k3 z (by omega) h2) (fun x hx => ?_) (fun z hz => ?_)
      · rw [wr_row _ _ (by omega), k3 _ (by omega) (by omega)]; exact (N1.a hx).2.1
      · rw [wr_row _ _ (by omega), k3 _ (by omega) (by omega)]; exact N1.b hz
    · refine nlw_cash W1 (fun j _ _ _ h16 => wr_row _ _ h16) ?_
      unfold CK at c2 ⊢
      rw [wr_row _ _ (by omega)]
      exact c2
    · obtain ⟨z1, z2, z3, z4⟩ := h.2.2.2 j hj
      rw [wr_idx (j := 4 * j) _ _ (by omega), wr_idx (j := 4 * j + 1) _ _ (by omega), wr_at, c5 16 (by omega) (by omega)]
      refine ⟨z1, z2, ?_, z4⟩
      split
      · exact ⟨by decide, by decide⟩
      · exact z3
    · unfold opC; rw [wr_same]; decide
    · rw [wr_idx _ _ (by omega), c5 16 (by omega) (by omega)]
    · unfold opC at hh ⊢
      by_cases e : j = i
      · subst e; rw [wr_same] at hh; exact absurd hh (by decide)
      · rw [wr_idx _ _ (by omega), c5 16 (by omega) (by omega)] at hh
        exact hh
theorem fall_l {t n d q : Nat} : ∀ (m i f f' : Nat) (y : Int32) (C D : St), i + m = q → m < f → m < f' → LSt C D t n d q → (∀ j, j < i → opC C j = true → C 16 (4 * j + 3) ≠ D 89 2164) → f_Md_firstDue D = some y → ∃ C' D', L_Ln_fallDue_2 f (nI i) C = some C' ∧ L_Md_settle_5 f' y D = some D' ∧ LSt C' D' t n d q ∧ (∀ j, j ≠ 3 → j ≠ 4 → j ≠ 6 → j ≠ 16 → C' j = C j) ∧ (∀ j, j ≠ 89 → j ≠ 102 → D' j = D j)
  | 0, i, f + 1, f' + 1, y, C, D, hi, _, _, h, hb, hy => by
    have hq := h.2.2.1.1
    obtain rfl : i = q := by omega
    refine ⟨C, D, by rw [L_Ln_fallDue_2, h.2.2.1.2.1, if_pos (by rw [nI_leI (by omega) (by omega)]; omega)], ?_, h, fun _ _ _ _ _ => rfl, fun _ _ _ => rfl⟩
    rcases m_due h.2.2.1 with ⟨e1, -⟩ | ⟨k, k1, k2, k3, k4, -⟩
    · rw [e1] at hy
      rw [← Option.some.inj hy]
      exact if_pos (by decide)
    · exact absurd k4 (hb k k1 k2)
  | m + 1, i, f + 1, f' + 1, y, C, D, hi, hf, hf', h, hb, hy => by
    have hq := h.2.2.1.1
    have hday := h.1.day
    have g2 : f_Ln_get (nI i) 2 C = some (C 16 (4 * i + 2)) := v_lget (k := 2) (by omega) (by omega)
    have g3 : f_Ln_get (nI i) 3 C = some (C 16 (4 * i + 3)) := v_lget (k := 3) (by omega) (by omega)
    have g1 : f_Ln_get (nI i) 1 C = some (C 16 (4 * i + 1)) := v_lget (k := 1) (by omega) (by omega)
    have skip : (opC C i = true → C 16 (4 * i + 3) ≠ D 89 2164) → ∃ C' D', L_Ln_fallDue_2 f (nI (i + 1)) C = some C' ∧ L_Md_settle_5 (f' + 1) y D = some D' ∧ LSt C' D' t n d q ∧ (∀ j, j ≠ 3 → j ≠ 4 → j ≠ 6 → j ≠ 16 → C' j = C j) ∧ (∀ j, j ≠ 89 → j ≠ 102 → D' j = D j) := fun hh => fall_l m (i + 1) f (f' + 1) y C D (by omega) (by omega) (by omega) h (fun j hj => by
      by_cases e : j = i
      · rw [e]; exact hh
      · exact hb j (by omega)) hy
    rw [L_Ln_fallDue_2, h.2.2.1.2.1, if_neg (by rw [nI_leI (by omega) (by omega)]; omega), g2, bd1_s, g3, bd1_s, g1, bd1_s, hday]
    by_cases ho : C 16 (4 * i + 2) = 0
    · obtain ⟨C', D', s1, s2⟩ := skip (fun hh => by unfold opC at hh; rw [ho] at hh; exact absurd hh (by decide))
      refine ⟨C', D', ?_, s2⟩
      rw [if_pos ho, bd1_s, l1, nI_add]
      exact s1
    · rw [if_neg ho]
      by_cases hdue : C 16 (4 * i + 3) = D 89 2164
      · have hop : opC C i = true := decide_eq_true ho
        obtain ⟨a, C1, D1, a1, a2, a3, a4, a5, a6, a7, a8, a9⟩ := settle_ok h (show i < q by omega) hop f'
        have hyk : y = nI (cn (opC C) i) := by
          rcases m_due h.2.2.1 with ⟨e1, e2⟩ | ⟨k, k1, k2, k3, k4, k5⟩
          · exact absurd hdue (e2 i (by omega) hop)
          · have hki : k = i := by
              rcases Nat.lt_trichotomy k i with hk | hk | hk
              · exact absurd k4 (hb k hk k2)
              · exact hk
              · exact absurd hdue (k5 i hk hop)
            rw [k3] at hy
            rw [← Option.some.inj hy, hki]
        have hy1 : ∃ y1, f_Md_firstDue D1 = some y1 := by
          rcases m_due a4.2.2.1 with ⟨e1, -⟩ | ⟨k, -, -, k3, -⟩
          · exact ⟨_, e1⟩
          · exact ⟨_, k3⟩
        obtain ⟨y1, hy1⟩ := hy1
        obtain ⟨C', D', s1, s2, s3, s4, s5⟩ := fall_l m (i + 1) f f' y1 C1 D1 (by omega) (by omega) (by omega) a4 (fun j hj hoj => by
          by_cases e : j = i
          · rw [e, a5] at hoj; exact absurd hoj (by decide)
          · rw [(a6 j (by omega)).1, a9]
            exact hb j (by omega) ((a6 j (by omega)).2 hoj)) hy1
        refine ⟨C', D', ?_, ?_, s3, fun j h3 h4 h6 h16 => by rw [s4 j h3 h4 h6 h16, a7 j h3 h4 h6 h16], fun j h1 h2 => by rw [s5 j h1 h2, a8 j h1 h2]⟩
        · rw [if_pos hdue, a1, a2, bd1_s, bd1_s, l1, nI_add]
          exact s1
        · rw [hyk, a3, hy1, bd1_s]
          exact s2
      · obtain ⟨C', D', s1, s2⟩ := skip (fun _ => hdue)
        refine ⟨C', D', ?_, s2⟩
        rw [if_neg hdue, bd1_s, l1, nI_add]
        exact s1
theorem v_forget_l {C0 : St} {q : Nat} (hq : q ≤ 20) (h15 : C0 15 0 = nI q) : ∀ (m i f : Nat) (C : St), i + m = q → m < f → (∀ j, j ≠ 16 → C j = C0 j) → (∀ z, 4 * i ≤ z → C 16 z = C0 16 z) → (∀ k, k < i → opC C0 k = true → ∀ c, c < 4 → C 16 (4 * cn (opC C0) k + c) = C0 16 (4 * k + c)) → ∃ C', L_Ln_forgetClosed_4 f (nI (cn (opC C0) i)) (nI i) C = some (nI (cn (opC C0) q), C') ∧ (∀ j, j ≠ 16 → C' j = C0 j) ∧ (∀ k, k < q → opC C0 k = true → ∀ c, c < 4 → C' 16 (4 * cn (opC C0) k + c) = C0 16 (4 * k + c))
  | 0, i, f + 1, C, hi, _, e, g, k => by
    obtain rfl : i = q := by omega
    exact ⟨C, by rw [L_Ln_forgetClosed_4, e 15 (by omega), h15, if_pos (by rw [nI_leI (by omega) (by omega)]; omega)], e, k⟩
  | m + 1, i, f + 1, C, hi, hf, e, g, k => by
    have hle := cn_le (P := opC C0) i
    have g2 : f_Ln_get (nI i) 2 C = some (C0 16 (4 * i + 2)) := by rw [l2, v_lget (by omega) (by omega), g _ (by omega)]
    rw [L_Ln_forgetClosed_4, e 15 (by omega), h15, if_neg (by rw [nI_leI (by omega) (by omega)]; omega), g2, bd1_s]
    by_cases ho : C0 16 (4 * i + 2) = 0
    · have hop : opC C0 i = false := by unfold opC; rw [ho]; decide
      have hs : cn (opC C0) (i + 1) = cn (opC C0) i := by rw [cn_succ, hop]; rfl
      rw [if_pos ho, bd2_s, l1, nI_add, ← hs]
      exact v_forget_l hq h15 m (i + 1) f C (by omega) (by omega) e (fun z hz => g z (by omega)) (fun j hj hoj c hc => by
        by_cases ej : j = i
        · rw [ej, hop] at hoj; exact absurd hoj (by decide)
        · exact k j (by omega) hoj c hc)
    · have hop : opC C0 i = true := decide_eq_true ho
      have hs : cn (opC C0) (i + 1) = cn (opC C0) i + 1 := by rw [cn_succ, if_pos hop]
      have cond : 0 ≤ (nI i * 4).toInt ∧ 0 ≤ (nI (cn (opC C0) i) * 4).toInt ∧ 0 ≤ Int32.toInt 4 ∧ (nI i * 4).toInt + Int32.toInt 4 ≤ 80 ∧ (nI (cn (opC C0) i) * 4).toInt + Int32.toInt 4 ≤ 80 := by
        rw [l4, pk_mul, pk_mul, nI_toInt (by omega), nI_toInt (by omega), nI_toInt (by omega)]
        omega
      have cp : ∀ z, mj_cp C 16 16 (4 * i) (4 * cn (opC C0) i) 4 16 z = if 4 * cn (opC C0) i ≤ z ∧ z < 4 * cn (opC C0) i + 4 then C 16 (4 * i + (z - 4 * cn (opC C0) i)) else C 16 z := fun z => by
        unfold mj_cp va_cpy
        rw [if_pos rfl]
      rw [if_neg ho, if_pos cond, bd2_s, l1, nI_add, nI_add, ← hs, l4, pk_mul, pk_mul, nI_clamp (by omega), nI_clamp (by omega), Nat.mul_comm i 4, Nat.mul_comm (cn (opC C0) i) 4]
      refine v_forget_l hq h15 m (i + 1) f (mj_cp C 16 16 (4 * i) (4 * cn (opC C0) i) 4) (by omega) (by omega) (fun j hj => by rw [cp_row _ hj, e j hj]) (fun z hz => by rw [cp, if_neg (by omega)]; exact g z (by omega)) (fun j hj hoj c hc => ?_)
      rw [cp]
      by_cases ej : j = i
      · subst ej
        rw [if_pos (by omega), show 4 * cn (opC C0) j + c - 4 * cn (opC C0) j = c by omega]
        exact g _ (by omega)
      · have := cn_lt (P := opC C0) (a := j) i (by omega) hoj
        rw [if_neg (by omega)]
        exact k j (by omega) hoj c hc
theorem cn_all {P : Nat → Bool} : ∀ (n : Nat), (∀ i, i < n → P i = true) → cn P n = n
  | 0, _ => rfl
  | n + 1, h => by rw [cn_succ, cn_all n (fun i hi => h i (by omega)), if_pos (h n (by omega))]
/-- ALL LOANS that fall due, on both sides -/
theorem loans_ok {C D : St} {t n d : Nat} (hR : RT C D 0 89 0) (hW : WTn C 0 t n d) : ∃ C' D', f_Ln_fallDue C = some C' ∧ f_Md_settle D = some D' ∧ RT C' D' 0 89 0 ∧ WTn C' 0 t n d ∧ (∀ j, j ≠ 3 → j ≠ 4 → j ≠ 6 → j ≠ 15 → j ≠ 16 → C' j = C j) ∧ (∀ j, j ≠ 89 → j ≠ 102 → D' j = D j) := by
  have hn := hW.1.1
  obtain ⟨q, q1, q2, q3⟩ := hW.loans
  have q4 : D 89 2168 = nI q := by rw [← q2]; exact (rt_n hR).2.2.2.2.2.symm
  have all : ∀ i, i < q → opC C i = true := fun i hi => by
    unfold opC
    refine decide_eq_true (fun e => ?_)
    have := (q3 i hi).2.2.1.1
    rw [e, Int32.toInt_zero] at this
    omega
  have h0 : LSt C D t n d q := by
    refine ⟨?_, ?_, ⟨q1, q2, by rw [cn_all q all]; exact q4, fun i hi ho c hc => ?_⟩, fun i hi => ?_⟩
    · refine rt_loans hR (fun j h1 h2 => Zs_row h1 h2) (fun i h1 h2 => Zd_i h1 h2) ?_ (fun i _ hi => ?_)
      · rw [Zs_z (by omega)]; unfold Zd; rw [if_pos ⟨rfl, Or.inr rfl⟩]
      · rw [Zs_z (by omega), Int32.toInt_zero] at hi; omega
    · exact hW.put_loans (fun j h1 h2 => Zs_row h1 h2) ⟨0, by omega, by rw [Zs_z (by omega)]; rfl, fun i hi => by omega⟩
    · rw [cn_all i (fun k hk => all k (by omega))]
      exact (rt_l hR (show 4 * i + c < 80 by omega) (by rw [q2, nI_toInt (by omega)]; omega)).symm
    · obtain ⟨z1, z2, z3, z4⟩ := q3 i hi
      exact ⟨z1, z2, ⟨by have := z3.1; omega, z3.2⟩, z4⟩
  have hy : ∃ y, f_Md_firstDue D = some y := by
    rcases m_due h0.2.2.1 with ⟨e1, -⟩ | ⟨k, -, -, k3, -⟩
    · exact ⟨_, e1⟩
    · exact ⟨_, k3⟩
  obtain ⟨y, hy⟩ := hy
  obtain ⟨C1, D1, s1, s2, s3, s4, s5⟩ := fall_l q 0 3000 3000 y C D (by omega) (by omega) (by omega) h0 (fun j hj => by omega) hy
  obtain ⟨p1, p2, p3, p4⟩ := s3
  obtain ⟨C2, u1, u2, u3⟩ := v_forget_l (C0 := C1) q1 p3.2.1 q 0 3000 C1 (by omega) (by omega) (fun _ _ => rfl) (fun _ _ => rfl) (fun k hk => by omega)
  have hle := cn_le (P := opC C1) q
  refine ⟨mj_wr C2 15 0 (nI (cn (opC C1) q)), D1, ?_, ?_, ?_, ?_, fun j h3 h4 h6 h15 h16 => by rw [wr_row _ _ h15, u2 j h16, s4 j h3 h4 h6 h16], s5⟩
  · unfold f_Ln_fallDue f_Ln_forgetClosed
    rw [show L_Ln_fallDue_2 3000 0 C = _ from s1, bd1_s, show L_Ln_forgetClosed_4 3000 0 0 C1 = _ from u1, bd2_s, bd1_s]
  · unfold f_Md_settle
    rw [hy, bd1_s, s2, bd1_s]
  · refine rt_loans p1 (fun j h1 h2 => by rw [wr_row _ _ h1, u2 j h2, Zs_row h1 h2]) (fun i h1 h2 => (Zd_i h1 h2).symm) (by rw [wr_same, p3.2.2.1]) (fun i hi hi2 => ?_)
    rw [wr_same, nI_toInt (by omega)] at hi2
    obtain ⟨k, k1, k2, k3⟩ := cn_find (P := opC C1) q (show i / 4 < cn (opC C1) q by omega)
    have e1 := u3 k k1 k2 (i % 4) (by omega)
    have e2 := p3.2.2.2 k k1 k2 (i % 4) (by omega)
    rw [k3, show 4 * (i / 4) + i % 4 = i by omega] at e1 e2
    rw [wr_cell _ _ (by omega), e1, e2]
  · refine WTn.put_loans p2 (fun j h1 h2 => by rw [wr_row _ _ h1, u2 j h2, Zs_row h1 h2]) ⟨cn (opC C1) q, by omega, wr_same _ _ _ _, fun i hi => ?_⟩
    obtain ⟨k, k1, k2, k3⟩ := cn_find (P := opC C1) q hi
    have e0 := u3 k k1 k2 0 (by omega)
    have e1 := u3 k k1 k2 1 (by omega)
    have e2 := u3 k k1 k2 2 (by omega)
    rw [k3] at e0 e1 e2
    obtain ⟨z1, z2, z3, z4⟩ := p4 k k1
    have w0 : mj_wr C2 15 0 (nI (cn (opC C1) q)) 16 (4 * i) = C1 16 (4 * k) := by rw [wr_cell _ _ (by omega)]; exact e0
    rw [w0, wr_cell _ _ (by omega), wr_cell _ _ (by omega), e1, e2]
    refine ⟨z1, z2, ⟨?_, z3.2⟩, z4⟩
    have hne : C1 16 (4 * k + 2) ≠ 0 := by unfold opC at k2; exact of_decide_eq_true k2
    have : (C1 16 (4 * k + 2)).toInt ≠ 0 := fun e => hne (Int32.toInt_inj.mp (e.trans Int32.toInt_zero.symm))
    have := z3.1
    omega
