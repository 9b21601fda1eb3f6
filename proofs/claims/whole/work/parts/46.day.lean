/-! PURE: a day: the acts -/
theorem amt_toInt (l f : Int32) : (amt l f).toInt = if f.toInt < l.toInt then f.toInt else l.toInt := by
  unfold amt
  by_cases h : f < l
  · rw [if_pos h, if_pos (by rwa [Int32.lt_iff_toInt_lt] at h)]
  · rw [if_neg h, if_neg (by rwa [Int32.lt_iff_toInt_lt] at h)]
theorem AS.le9 {C D : St} {t n d no p : Nat} (h : AS C D t n d no) (hp : p < 60) : 0 ≤ (C 38 p).toInt ∧ (C 38 p).toInt ≤ (C 9 p).toInt := by
  have := h.2.2.2.2.1 (p / 5) (p % 5) (by omega) (by omega)
  rw [show 5 * (p / 5) + p % 5 = p by omega] at this
  exact this.2
theorem AS.le3 {C D : St} {t n d no a : Nat} (h : AS C D t n d no) (ha : a < 12) : 0 ≤ (C 39 a).toInt ∧ (C 39 a).toInt ≤ (C 3 a).toInt := (h.2.2.2.2.2 a ha).2
theorem FRM.of {C D C' D' : St} (hC : ∀ j, j = 2 ∨ j = 4 ∨ j = 13 ∨ 17 ≤ j → C' j = C j) (hD : ∀ j, j ≠ 89 → j ≠ 101 → D' j = D j) : FRM C D C' D' := ⟨fun j hj => hC j (by omega), fun j hj => hD j (by omega) (by omega), fun i _ => by rw [hD 88 (by omega) (by omega)]⟩
/-- EAT -/
theorem eat_ok {C D : St} {t n d no a g : Nat} {N : Int32} (h : AS C D t n d no) (ht : t ≤ 600) (ha : a < n) (hg : g < 5) (hN : rg N 1 999) : ∃ C' D', f_Dy_eat (nI a) (nI g) N C = some C' ∧ (bd1 (f_Md_freeOf (nI a) (nI g) D) fun v16 => bd1 (f_Md_less N v16) fun v18 => bd1 (f_Md_go (nI a) (nI g) v18 (-1) D) fun C20 => bd1 (f_Md_addGood (nI g) 4 v18 C20) fun C22 => some C22) = some D' ∧ AS C' D' t n d no ∧ FRM C D C' D' := by
  have hn := h.2.1.1.1
  obtain ⟨f, f1, f2, f3, f4, f5⟩ := free_of h ht (show a < 12 by omega) hg
  have hm := amt_toInt N f
  have hN1 := hN.1
  have hN2 := hN.2
  have m0 : 0 ≤ (amt N f).toInt := by rw [hm]; split <;> omega
  have m1 : (amt N f).toInt ≤ f.toInt := by rw [hm]; split <;> omega
  obtain ⟨C1, D1, e1, e2, e3, e4, e5, e6, e7, e8, e9, -, -⟩ := use h.1 h.2.1 ht (show a < 12 by omega) hg m0
  obtain ⟨i1, i2, i3, i4⟩ := inc e3 e4 hg (show 3 ≤ 4 by omega) (by omega) (amt N f)
  refine ⟨_, _, ?_, ?_, h.step i3 i4 (fun j hj => by rw [wr_row _ _ (by omega), e5 j (by omega) (by omega)]) (fun j h1 h2 => by rw [wr_row _ _ (by omega), e6 j h1 h2]) (fun p hp => ?_) (fun x hx => ?_), FRM.of (fun j hj => by rw [wr_row _ _ (by omega), e5 j (by omega) (by omega)]) (fun j h1 h2 => by rw [wr_row _ _ (by omega), e6 j h1 h2])⟩
  · unfold f_Dy_eat
    rw [f1, bd1_s, show (if f < N then f else N : Int32) = amt N f from rfl, e1, bd1_s, l4, i1, bd1_s]
  · rw [f2, bd1_s, m_less, bd1_s, e2, bd1_s, l4, i2, bd1_s]
  · rw [wr_row _ _ (by omega)]
    by_cases hpp : p = 5 * a + g
    · subst hpp; rw [e9 (by have := h.le9 hp; omega)]; omega
    · rw [e8 p hpp]; exact (h.le9 hp).2
  · rw [wr_row _ _ (by omega), e5 3 (by omega) (by omega)]; exact (h.le3 hx).2
/-- PAY -/
theorem pay_ok {C D : St} {t n d no a b : Nat} {N : Int32} (h : AS C D t n d no) (ha : a < n) (hb : b < n) (hN : rg N 1 999) : ∃ C' D', (bd1 (f_Mt_freeCash (nI a) C) fun v22 => bd1 (f_Tw_hand (nI a) (nI b) 2 (if v22 < N then v22 else N : Int32) C) fun C24 => some C24) = some C' ∧ (bd1 (f_Md_freeCash (nI a) D) fun v37 => bd1 (f_Md_less N v37) fun v39 => bd1 (f_Md_pays (nI a) (nI b) v39 2 D) fun C41 => some C41) = some D' ∧ AS C' D' t n d no ∧ FRM C D C' D' := by
  have hn := h.2.1.1.1
  obtain ⟨f, f1, f2, f3, f4, f5⟩ := free_cash h (show a < 12 by omega)
  have hm := amt_toInt N f
  have hN1 := hN.1
  have m0 : 0 ≤ (amt N f).toInt := by rw [hm]; split <;> omega
  have m1 : (amt N f).toInt ≤ f.toInt := by rw [hm]; split <;> omega
  have hh := h.le3 (show a < 12 by omega)
  obtain ⟨C1, D1, e1, e2, e3, e4, e5, e6, e7, e8, e9⟩ := pay h.1 h.2.1 ha hb (show 2 < 5 by omega) m0 (by omega)
  obtain ⟨k1, k2, k3⟩ := h.2.1.cash
  obtain ⟨-, -, -, -, -, -, p7⟩ := py_int (f := C 3) (N := 12) (a := a) (b := b) (v := amt N f) k1 (by omega) (by omega) (by omega) m0 (by omega)
  refine ⟨C1, D1, ?_, ?_, h.step e3 e4 (fun j hj => e6 j (by omega) (by omega)) (fun j h1 h2 => e9 j h1) (fun p hp => ?_) (fun x hx => ?_), FRM.of (fun j hj => e6 j (by omega) (by omega)) (fun j h1 h2 => e9 j h1)⟩
  · rw [f1, bd1_s, show (if f < N then f else N : Int32) = amt N f from rfl, l2, e1, bd1_s]
  · rw [f2, bd1_s, m_less, bd1_s, l2, e2, bd1_s]
  · rw [e6 9 (by omega) (by omega)]; exact (h.le9 hp).2
  · rw [e5]
    have := p7 x hx
    by_cases hxa : x = a
    · subst hxa; rw [if_pos rfl] at this; omega
    · rw [if_neg hxa] at this
      have := (h.le3 hx).2
      omega
/-- LEND -/
theorem WTn.loans {C : St} {t n d : Nat} (h : WTn C 0 t n d) : ∃ q : Nat, q ≤ 20 ∧ C 15 0 = nI q ∧ ∀ i : Nat, i < q → rg (C 16 (4 * i)) 0 (n - 1) ∧ rg (C 16 (4 * i + 1)) 0 (n - 1) ∧ rg (C 16 (4 * i + 2)) 1 1998 ∧ C 16 (4 * i) ≠ C 16 (4 * i + 1) := by
  have := h.2.2.2.2.2.2.2.2.2.2
  simp only [Nat.zero_add] at this
  exact this
theorem WTn.put_loans {C C' : St} {t n d : Nat} (h : WTn C 0 t n d) (hC : ∀ j, j ≠ 15 → j ≠ 16 → C' j = C j) (hl : ∃ q : Nat, q ≤ 20 ∧ C' 15 0 = nI q ∧ ∀ i : Nat, i < q → rg (C' 16 (4 * i)) 0 (n - 1) ∧ rg (C' 16 (4 * i + 1)) 0 (n - 1) ∧ rg (C' 16 (4 * i + 2)) 1 1998 ∧ C' 16 (4 * i) ≠ C' 16 (4 * i + 1)) : WTn C' 0 t n d := by
  unfold WTn at h ⊢
  simp only [Nat.zero_add] at h ⊢
  rw [hC 1 (by omega) (by omega), hC 2 (by omega) (by omega), hC 3 (by omega) (by omega), hC 4 (by omega) (by omega), hC 8 (by omega) (by omega), hC 9 (by omega) (by omega), hC 11 (by omega) (by omega), hC 13 (by omega) (by omega), hC 14 (by omega) (by omega)]
  exact ⟨h.1, h.2.1, h.2.2.1, h.2.2.2.1, h.2.2.2.2.1, h.2.2.2.2.2.1, h.2.2.2.2.2.2.1, h.2.2.2.2.2.2.2.1, h.2.2.2.2.2.2.2.2.1, h.2.2.2.2.2.2.2.2.2.1, hl⟩
theorem rt_loans {C D C' D' : St} (hR : RT C D 0 89 0) (hC : ∀ j, j ≠ 15 → j ≠ 16 → C' j = C j) (hD : ∀ i, (i < 1363 ∨ 1443 ≤ i) → i ≠ 2168 → D' 89 i = D 89 i) (h15 : C' 15 0 = D' 89 2168) (h16 : ∀ i : Nat, i < 80 → (i : Int) < 4 * (C' 15 0).toInt → C' 16 i = D' 89 (1363 + i)) : RT C' D' 0 89 0 := by
  unfold RT at hR ⊢
  simp only [Nat.zero_add] at hR ⊢
  rw [hC 1 (by omega) (by omega), hC 2 (by omega) (by omega), hC 3 (by omega) (by omega), hC 4 (by omega) (by omega), hC 5 (by omega) (by omega), hC 6 (by omega) (by omega), hC 8 (by omega) (by omega), hC 11 (by omega) (by omega), hC 13 (by omega) (by omega), hC 14 (by omega) (by omega), hD 2163 (by omega) (by omega), hD 2164 (by omega) (by omega), hD 2165 (by omega) (by omega), hD 2166 (by omega) (by omega), hD 2167 (by omega) (by omega)]
  obtain ⟨⟨r1, r2, r3, r4, r5, r6⟩, rA, rP, rR, rW, rL, rB⟩ := hR
  refine ⟨⟨r1, r2, r3, r4, r5, h15⟩, fun a ha => ?_, fun i hi => ?_, fun i hi => ?_, fun i hi => ?_, h16, fun i hi => ?_⟩
  · rw [hD _ (by omega) (by omega), hD _ (by omega) (by omega), hD _ (by omega) (by omega), hD _ (by omega) (by omega), hD _ (by omega) (by omega)]; exact rA a ha
  · rw [hD _ (by omega) (by omega)]; exact rP i hi
  · rw [hD _ (by omega) (by omega)]; exact rR i hi
  · rw [hD _ (by omega) (by omega)]; exact rW i hi
  · rw [hD _ (by omega) (by omega)]; exact rB i hi
theorem q_at {q k : Nat} : (nI q * 4) + nI k = nI (4 * q + k) := by
  rw [l4]
  simp only [pk_mul, nI_add]
  exact congrArg nI (by omega)
theorem lend_ok {C D : St} {t n d no a b : Nat} {N T : Int32} (h : AS C D t n d no) (ha : a < n) (hb : b < n) (hab : a ≠ b) (hN : rg N 1 999) : ∃ C' D', f_Dy_lend (nI a) (nI b) N T C = some C' ∧ f_Md_lend (nI a) (nI b) N T D = some D' ∧ AS C' D' t n d no ∧ FRM C D C' D' := by
  have hn := h.2.1.1.1
  obtain ⟨f, f1, f2, f3, f4, f5⟩ := free_cash h (show a < 12 by omega)
  have hm := amt_toInt N f
  have hN1 := hN.1
  have hN2 := hN.2
  have m0 : 0 ≤ (amt N f).toInt := by rw [hm]; split <;> omega
  have m1 : (amt N f).toInt ≤ f.toInt := by rw [hm]; split <;> omega
  have m2 : (amt N f).toInt ≤ 999 := by rw [hm]; split <;> omega
  have hh := h.le3 (show a < 12 by omega)
  obtain ⟨vv, v1, v2, v3⟩ := rg_nI (x := amt N f) (hi := 999) ⟨m0, m2⟩
  obtain ⟨q, q1, q2, q3⟩ := h.2.1.loans
  have q4 : D 89 2168 = nI q := by rw [← q2]; exact (rt_n h.1).2.2.2.2.2.symm
  unfold f_Dy_lend f_Md_lend
  rw [f1, f2, bd1_s, bd1_s, m_less, bd1_s, show (if f < N then f else N : Int32) = amt N f from rfl]
  by_cases hz : amt N f = 0
  · rw [hz, if_pos (by decide), if_pos rfl]
    exact ⟨C, D, rfl, rfl, h, FRM.refl C D⟩
  · have hz' : ¬ amt N f ≤ 0 := fun hle => hz (Int32.toInt_inj.mp (by rw [Int32.le_iff_toInt_le, Int32.toInt_zero] at hle; rw [Int32.toInt_zero]; omega))
    rw [if_neg hz', if_neg hz]
    unfold f_Ln_hasRoom
    rw [bd1_s, q2, q4]
    by_cases hq : q = 20
    · subst hq
      rw [if_pos (show (20 : Int32) ≤ nI 20 by decide), if_pos rfl, if_pos (show nI 20 = (20 : Int32) from rfl)]
      exact ⟨C, D, rfl, rfl, h, FRM.refl C D⟩
    · have n20 : ¬ ((20 : Int32) ≤ nI q) := by rw [l20, nI_leI (by omega) (by omega)]; omega
      have n20' : ¬ (nI q = (20 : Int32)) := fun e => by
        rw [l20] at e
        have := congrArg Int32.toInt e
        rw [nI_toInt (by omega), nI_toInt (by omega)] at this
        omega
      rw [if_neg n20, if_neg n20', if_neg i10]
      obtain ⟨C1, D1, e1, e2, e3, e4, e5, e6, e7, e8, e9⟩ := pay h.1 h.2.1 ha hb (show 3 < 5 by omega) m0 (by omega)
      obtain ⟨k1, k2, k3⟩ := h.2.1.cash
      obtain ⟨-, -, -, -, -, -, p7⟩ := py_int (f := C 3) (N := 12) (a := a) (b := b) (v := amt N f) k1 (by omega) (by omega) (by omega) m0 (by omega)
      rw [show (3 : Int32) = nI 3 from rfl, e1, e2, bd1_s, bd1_s]
      have c15 : C1 15 0 = nI q := by rw [e6 15 (by omega) (by omega)]; exact q2
      have d15 : D1 89 2168 = nI q := by rw [e7 2168 (by omega)]; exact q4
      obtain ⟨ii, j1, j2, j3⟩ := rg_nI h.2.1.sc.2.2
      have c4 : C1 1 4 = nI ii := by rw [e6 1 (by omega) (by omega)]; exact j3
      have d4 : D1 89 2167 = nI ii := by rw [e7 2167 (by omega), ← (rt_n h.1).2.2.2.2.1]; exact j3
      have d11 : D1 89 2164 = C1 1 1 := by rw [e7 2164 (by omega), e6 1 (by omega) (by omega)]; exact (rt_n h.1).2.1.symm
      have eo : amt N f + (amt N f * nI ii) / 100 = nI (vv + vv * ii / 100) := by
        have : vv * ii ≤ 999 * 100 := Nat.mul_le_mul (by omega) (by omega)
        rw [v3, pk_mul, l100, pk_div (by omega) (by omega) (by omega), nI_add]
      have bo : vv + vv * ii / 100 ≤ 1998 := by
        have : vv * ii ≤ 999 * 100 := Nat.mul_le_mul (by omega) (by omega)
        omega
      have bo1 : 1 ≤ vv := by
        by_cases hv : vv = 0
        · subst hv; exact absurd v3 hz
        · omega
      unfold f_Ln_append f_Ln_hasRoom
      rw [c4, eo, c15, bd1_s, if_neg n20, if_neg i10, l0, l1, l2, show (3 : Int32) = nI 3 from rfl, q_at, q_at, q_at, q_at, if_pos (inb_t (by omega) (by omega)), if_pos (inb_t (by omega) (by omega)), if_pos (inb_t (by omega) (by omega)), if_pos (inb_t (by omega) (by omega)), nI_clamp (by omega), nI_clamp (by omega), nI_clamp (by omega), nI_clamp (by omega)]
      rw [d15, m_at, m_at, m_at, m_at0, if_pos (inb_t (by omega) (by omega)), if_pos (inb_t (by omega) (by omega)), if_pos (inb_t (by omega) (by omega)), if_pos (inb_t (by omega) (by omega)), nI_clamp (by omega), nI_clamp (by omega), nI_clamp (by omega), nI_clamp (by omega)]
      rw [wr_cell (i := 15) _ _ (by omega), wr_cell (i := 15) _ _ (by omega), wr_cell (i := 15) _ _ (by omega), wr_cell (i := 15) _ _ (by omega), c15, nI_add]
      rw [wr_idx (j := 2167) _ _ (by omega), wr_idx (j := 2167) _ _ (by omega), d4, eo, wr_idx (j := 2164) _ _ (by omega), wr_idx (j := 2164) _ _ (by omega), wr_idx (j := 2164) _ _ (by omega), d11, wr_idx (j := 2168) _ _ (by omega), wr_idx (j := 2168) _ _ (by omega), wr_idx (j := 2168) _ _ (by omega), wr_idx (j := 2168) _ _ (by omega), d15, nI_add]
      have fC : ∀ j, j ≠ 15 → j ≠ 16 → mj_wr (mj_wr (mj_wr (mj_wr (mj_wr C1 16 (4 * q + 0) (nI a)) 16 (4 * q + 1) (nI b)) 16 (4 * q + 2) (nI (vv + vv * ii / 100))) 16 (4 * q + 3) (C1 1 1 + T)) 15 0 (nI (q + 1)) j = C1 j := fun j h1 h2 => by
        rw [wr_row _ _ h1, wr_row _ _ h2, wr_row _ _ h2, wr_row _ _ h2, wr_row _ _ h2]
      have gC : ∀ i, mj_wr (mj_wr (mj_wr (mj_wr (mj_wr C1 16 (4 * q + 0) (nI a)) 16 (4 * q + 1) (nI b)) 16 (4 * q + 2) (nI (vv + vv * ii / 100))) 16 (4 * q + 3) (C1 1 1 + T)) 15 0 (nI (q + 1)) 16 i = if i = 4 * q + 3 then C1 1 1 + T else if i = 4 * q + 2 then nI (vv + vv * ii / 100) else if i = 4 * q + 1 then nI b else if i = 4 * q + 0 then nI a else C1 16 i := fun i => by
        rw [wr_cell _ _ (by omega), wr_at, wr_at, wr_at, wr_at]
      have R2 : RT (mj_wr (mj_wr (mj_wr (mj_wr (mj_wr C1 16 (4 * q + 0) (nI a)) 16 (4 * q + 1) (nI b)) 16 (4 * q + 2) (nI (vv + vv * ii / 100))) 16 (4 * q + 3) (C1 1 1 + T)) 15 0 (nI (q + 1))) (mj_wr (mj_wr (mj_wr (mj_wr (mj_wr D1 89 (1363 + (4 * q + 0)) (nI a)) 89 (1363 + (4 * q + 1)) (nI b)) 89 (1363 + (4 * q + 2)) (nI (vv + vv * ii / 100))) 89 (1363 + (4 * q + 3)) (C1 1 1 + T)) 89 2168 (nI (q + 1))) 0 89 0 := by
        refine rt_loans e3 fC (fun i h1 h2 => ?_) ?_ (fun i hi hq' => ?_)
        · rw [wr_idx _ _ h2, wr_idx _ _ (by omega), wr_idx _ _ (by omega), wr_idx _ _ (by omega), wr_idx _ _ (by omega)]
        · rw [wr_same, wr_same]
        · rw [wr_same, nI_toInt (by omega)] at hq'
          rw [gC, wr_idx _ _ (by omega), wr_at, wr_at, wr_at, wr_at]
          by_cases i3 : i = 4 * q + 3
          · rw [if_pos i3, if_pos (show 1363 + i = 1363 + (4 * q + 3) by omega)]
          · rw [if_neg i3, if_neg (show ¬ (1363 + i = 1363 + (4 * q + 3)) by omega)]
            by_cases i2 : i = 4 * q + 2
            · rw [if_pos i2, if_pos (show 1363 + i = 1363 + (4 * q + 2) by omega)]
            · rw [if_neg i2, if_neg (show ¬ (1363 + i = 1363 + (4 * q + 2)) by omega)]
              by_cases i1 : i = 4 * q + 1
              · rw [if_pos i1, if_pos (show 1363 + i = 1363 + (4 * q + 1) by omega)]
              · rw [if_neg i1, if_neg (show ¬ (1363 + i = 1363 + (4 * q + 1)) by omega)]
                by_cases i0 : i = 4 * q + 0
                · rw [if_pos i0, if_pos (show 1363 + i = 1363 + (4 * q + 0) by omega)]
                · rw [if_neg i0, if_neg (show ¬ (1363 + i = 1363 + (4 * q + 0)) by omega)]
                  exact rt_l e3 hi (by rw [c15, nI_toInt (by omega)]; omega)
      have W2 : WTn (mj_wr (mj_wr (mj_wr (mj_wr (mj_wr C1 16 (4 * q + 0) (nI a)) 16 (4 * q + 1) (nI b)) 16 (4 * q + 2) (nI (vv + vv * ii / 100))) 16 (4 * q + 3) (C1 1 1 + T)) 15 0 (nI (q + 1))) 0 t n d := by
        refine e4.put_loans fC ⟨q + 1, by omega, wr_same _ _ _ _, fun i hi => ?_⟩
        rw [gC, gC, gC]
        by_cases hiq : i = q
        · subst hiq
          rw [if_neg (by omega), if_neg (by omega), if_neg (by omega), if_pos (by omega), if_neg (by omega), if_neg (by omega), if_pos (by omega), if_neg (by omega), if_pos (by omega)]
          refine ⟨rg_of (by omega) (by omega) (by omega), rg_of (by omega) (by omega) (by omega), rg_of (by omega) (by omega) (by omega), fun e => hab ?_⟩
          have := congrArg Int32.toInt e
          rw [nI_toInt (by omega), nI_toInt (by omega)] at this
          omega
        · rw [if_neg (by omega), if_neg (by omega), if_neg (by omega), if_neg (by omega), if_neg (by omega), if_neg (by omega), if_neg (by omega), if_neg (by omega), if_neg (by omega), if_neg (by omega), if_neg (by omega), if_neg (by omega), e6 16 (by omega) (by omega)]
          exact q3 i (by omega)
      have fD : ∀ j, j ≠ 89 → j ≠ 101 → mj_wr (mj_wr (mj_wr (mj_wr (mj_wr D1 89 (1363 + (4 * q + 0)) (nI a)) 89 (1363 + (4 * q + 1)) (nI b)) 89 (1363 + (4 * q + 2)) (nI (vv + vv * ii / 100))) 89 (1363 + (4 * q + 3)) (C1 1 1 + T)) 89 2168 (nI (q + 1)) j = D j := fun j h1 h2 => by
        rw [wr_row _ _ h1, wr_row _ _ h1, wr_row _ _ h1, wr_row _ _ h1, wr_row _ _ h1, e9 j h1]
      refine ⟨_, _, rfl, rfl, h.step R2 W2 (fun j hj => by rw [fC j (by omega) (by omega), e6 j (by omega) (by omega)]) fD (fun p hp => ?_) (fun x hx => ?_), FRM.of (fun j hj => by rw [fC j (by omega) (by omega), e6 j (by omega) (by omega)]) fD⟩
      · rw [fC 9 (by omega) (by omega), e6 9 (by omega) (by omega)]; exact (h.le9 hp).2
      · rw [fC 3 (by omega) (by omega), e5]
        have := p7 x hx
        by_cases hxa : x = a
        · subst hxa; rw [if_pos rfl] at this; omega
        · rw [if_neg hxa] at this
          have := (h.le3 hx).2
          omega
