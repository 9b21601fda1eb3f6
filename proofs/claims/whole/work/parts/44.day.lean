/-! PURE: a day: the order of the agents -/
def dr (x : Int32) : Int32 := ((((x.toInt64) * 1103515245) + 12345) - (((x.toInt64) * 1103515245) + 12345) / 2147483648 * 2147483648).toInt32
theorem dr_nI {x : Int32} (h : rg x 0 2147483647) : ∃ k : Nat, k < 2 ^ 31 ∧ dr x = nI k := by
  obtain ⟨k, h1, h2, rfl⟩ := rg_nI h
  refine ⟨(k * 1103515245 + 12345) % 2147483648, Nat.mod_lt _ (by omega), ?_⟩
  unfold dr
  rw [nI_l h2, show (1103515245 : Int64) = lN 1103515245 from rfl, show (12345 : Int64) = lN 12345 from rfl, show (2147483648 : Int64) = lN 2147483648 from rfl, lN_mul, lN_add, pk_lRem (by omega) (by omega) (by omega), lN_i]
theorem WTn.frame5 {C C' : St} {t n d : Nat} (h : WTn C 0 t n d) (hC : ∀ j, 1 ≤ j → j ≤ 16 → j ≠ 5 → C' j = C j) : WTn C' 0 t n d := by
  unfold WTn at h ⊢
  simp only [Nat.zero_add] at h ⊢
  rw [hC 1 (by omega) (by omega) (by omega), hC 2 (by omega) (by omega) (by omega), hC 3 (by omega) (by omega) (by omega), hC 4 (by omega) (by omega) (by omega), hC 8 (by omega) (by omega) (by omega), hC 9 (by omega) (by omega) (by omega), hC 11 (by omega) (by omega) (by omega), hC 13 (by omega) (by omega) (by omega), hC 14 (by omega) (by omega) (by omega), hC 15 (by omega) (by omega) (by omega), hC 16 (by omega) (by omega) (by omega)]
  exact h
theorem WTn.put_sc {C C' : St} {t n d : Nat} (h : WTn C 0 t n d) (hC : ∀ j, 2 ≤ j → j ≤ 16 → C' j = C j) (h0 : C' 1 0 = C 1 0) (h1 : C' 1 1 = C 1 1) (h2 : rg (C' 1 2) 0 2147483647) (h3 : C' 1 3 = C 1 3) (h4 : C' 1 4 = C 1 4) : WTn C' 0 t n d := by
  unfold WTn at h ⊢
  simp only [Nat.zero_add] at h ⊢
  rw [hC 2 (by omega) (by omega), hC 3 (by omega) (by omega), hC 4 (by omega) (by omega), hC 8 (by omega) (by omega), hC 9 (by omega) (by omega), hC 11 (by omega) (by omega), hC 13 (by omega) (by omega), hC 14 (by omega) (by omega), hC 15 (by omega) (by omega), hC 16 (by omega) (by omega), h0, h1, h3, h4]
  exact ⟨h.1, ⟨h2, h.2.1.2⟩, h.2.2⟩
theorem WTn.n0 {C : St} {t n d : Nat} (h : WTn C 0 t n d) : n ≤ 12 ∧ C 1 0 = nI n ∧ d ≤ 700 ∧ C 1 1 = nI d := by
  have := h.1
  simp only [Nat.zero_add] at this
  exact this
theorem WTn.sc {C : St} {t n d : Nat} (h : WTn C 0 t n d) : rg (C 1 2) 0 2147483647 ∧ rg (C 1 3) 0 1000 ∧ rg (C 1 4) 0 100 := by
  have := h.2.1
  simp only [Nat.zero_add] at this
  exact this
/-- the ORDER of the day, on both sides -/
def OR (C D : St) (n : Nat) : Prop := ∀ i, i < n → ∃ a : Nat, a < n ∧ C 24 i = nI a ∧ D 100 i = nI a
theorem v_do1 {n : Nat} (hn : n ≤ 12) : ∀ (m k q : Nat) (C : St), k + m = n → m < q → C 1 0 = nI n → ∃ C', L_Dy_drawOrder_2 q (nI k) C = some C' ∧ (∀ i, C' 24 i = if k ≤ i ∧ i < n then nI i else C 24 i) ∧ ∀ j, j ≠ 24 → C' j = C j
  | 0, k, q + 1, C, hk, _, h1 => by
    refine ⟨C, ?_, fun i => by rw [if_neg (by omega)], fun _ _ => rfl⟩
    show (if (C 1 0) ≤ nI k then some C else _) = _
    rw [h1, if_pos (by rw [nI_leI (by omega) (by omega)]; omega)]
  | m + 1, k, q + 1, C, hk, hq, h1 => by
    obtain ⟨C', e1, e2, e3⟩ := v_do1 hn m (k + 1) q (mj_wr C 24 k (nI k)) (by omega) (by omega) (by rw [wr_cell _ _ (by omega)]; exact h1)
    refine ⟨C', ?_, fun i => ?_, fun j hj => by rw [e3 j hj, wr_row _ _ hj]⟩
    · show (if (C 1 0) ≤ nI k then some C else if inb (nI k) 12 then L_Dy_drawOrder_2 q (nI k + 1) (mj_wr C 24 ((nI k).toNatClampNeg) (nI k)) else none) = _
      rw [h1, if_neg (by rw [nI_leI (by omega) (by omega)]; omega), if_pos (inb_t (by omega) (by omega)), nI_clamp (by omega), l1, nI_add]
      exact e1
    · rw [e2, wr_at]
      by_cases h2 : i = k
      · rw [if_neg (by omega), if_pos h2, if_pos (by omega), h2]
      · rw [if_neg h2]
        by_cases h3 : k + 1 ≤ i ∧ i < n
        · rw [if_pos h3, if_pos (by omega)]
        · rw [if_neg h3, if_neg (by omega)]
theorem m_do1 {n : Nat} (hn : n ≤ 12) : ∀ (m k q : Nat) (D : St), k + m = n → m < q → ∃ D', L_Md_drawOrder_11 q (nI n) (nI k) D = some D' ∧ (∀ i, D' 100 i = if k ≤ i ∧ i < n then nI i else D 100 i) ∧ ∀ j, j ≠ 100 → D' j = D j
  | 0, k, q + 1, C, hk, _ => by
    refine ⟨C, ?_, fun i => by rw [if_neg (by omega)], fun _ _ => rfl⟩
    show (if nI n ≤ nI k then some C else _) = _
    rw [if_pos (by rw [nI_leI (by omega) (by omega)]; omega)]
  | m + 1, k, q + 1, C, hk, hq => by
    obtain ⟨C', e1, e2, e3⟩ := m_do1 hn m (k + 1) q (mj_wr C 100 k (nI k)) (by omega) (by omega)
    refine ⟨C', ?_, fun i => ?_, fun j hj => by rw [e3 j hj, wr_row _ _ hj]⟩
    · show (if nI n ≤ nI k then some C else if inb (nI k) 12 then L_Md_drawOrder_11 q (nI n) (nI k + 1) (mj_wr C 100 ((nI k).toNatClampNeg) (nI k)) else none) = _
      rw [if_neg (by rw [nI_leI (by omega) (by omega)]; omega), if_pos (inb_t (by omega) (by omega)), nI_clamp (by omega), l1, nI_add]
      exact e1
    · rw [e2, wr_at]
      by_cases h2 : i = k
      · rw [if_neg (by omega), if_pos h2, if_pos (by omega), h2]
      · rw [if_neg h2]
        by_cases h3 : k + 1 ≤ i ∧ i < n
        · rw [if_pos h3, if_pos (by omega)]
        · rw [if_neg h3, if_neg (by omega)]
theorem shuf {t n d : Nat} (hn : n ≤ 12) (y1 : Int32) : ∀ (k q q' : Nat) (C D : St), k < n → k < q → k < q' → RT C D 0 89 0 → WTn C 0 t n d → OR C D n → ∃ C' D', L_Dy_drawOrder_30 q (nI k) C = some C' ∧ L_Md_drawOrder_33 q' y1 (nI k) D = some D' ∧ RT C' D' 0 89 0 ∧ WTn C' 0 t n d ∧ OR C' D' n ∧ (∀ j, j ≠ 1 → j ≠ 24 → C' j = C j) ∧ (∀ j, j ≠ 89 → j ≠ 100 → D' j = D j) ∧ (∀ i, i ≠ 2165 → D' 89 i = D 89 i)
  | 0, q + 1, q' + 1, C, D, _, _, _, hR, hW, hO => ⟨C, D, if_pos (by decide), if_pos (by decide), hR, hW, hO, fun _ _ _ => rfl, fun _ _ _ => rfl, fun _ _ => rfl⟩
  | k + 1, q + 1, q' + 1, C, D, hk, hq, hq', hR, hW, hO => by
    obtain ⟨r, hr, er⟩ := dr_nI hW.sc.1
    have eL : D 89 2165 = C 1 2 := (rt_n hR).2.2.1.symm
    have hlt : ¬ (nI (k + 1) < (1 : Int32)) := by rw [l1, nI_ltI (by omega) (by omega)]; omega
    have h0 : ¬ (nI (k + 1) + 1 = (0 : Int32)) := by
      rw [l1, nI_add]
      intro e
      have := congrArg Int32.toInt e
      rw [nI_toInt (by omega), Int32.toInt_zero] at this
      omega
    have ej : (nI r / 65536) - (nI r / 65536) / (nI (k + 1) + 1) * (nI (k + 1) + 1) = nI (r / 65536 % (k + 2)) := by
      rw [l65536, l1, nI_add, pk_div hr (by omega) (by omega), pk_rem (by omega) (by omega) (by omega)]
    have hj : r / 65536 % (k + 2) < k + 2 := Nat.mod_lt _ (by omega)
    generalize r / 65536 % (k + 2) = j at ej hj
    have R1 := rt_sc hR (show 2 < 5 by omega) (nI r)
    have ec : ((((C 1 2).toInt64 * 1103515245) + 12345) - (((C 1 2).toInt64 * 1103515245) + 12345) / 2147483648 * 2147483648).toInt32 = nI r := er
    have O1 : OR (mj_wr (mj_wr (mj_wr C 1 2 (nI r)) 24 j (C 24 (k + 1))) 24 (k + 1) (C 24 j)) (mj_wr (mj_wr (mj_wr D 89 2165 (nI r)) 100 (k + 1) (D 100 j)) 100 j (D 100 (k + 1))) n := by
      intro i hi
      by_cases i1 : i = k + 1
      · subst i1
        rw [wr_same]
        by_cases i2 : k + 1 = j
        · rw [← i2, wr_same]; exact hO _ hi
        · rw [wr_idx _ _ i2, wr_same]; exact hO _ (by omega)
      · rw [wr_idx _ _ i1]
        by_cases i2 : i = j
        · subst i2
          rw [wr_same, wr_same]; exact hO _ (by omega)
        · rw [wr_idx _ _ i2, wr_idx _ _ i2, wr_idx _ _ i1, wr_cell _ _ (by omega), wr_cell _ _ (by omega)]; exact hO _ hi
    obtain ⟨C', D', e1, e2, e3, e4, e5, e6, e7, e8⟩ := shuf (t := t) (n := n) (d := d) hn y1 k q q' (mj_wr (mj_wr (mj_wr C 1 2 (nI r)) 24 j (C 24 (k + 1))) 24 (k + 1) (C 24 j)) (mj_wr (mj_wr (mj_wr D 89 2165 (nI r)) 100 (k + 1) (D 100 j)) 100 j (D 100 (k + 1))) (by omega) (by omega) (by omega)
      (R1.frame (fun i h1 h2 => by rw [wr_row _ _ (by omega), wr_row _ _ (by omega)]) (by rw [wr_row _ _ (by omega), wr_row _ _ (by omega)]))
      (hW.put_sc (fun i h1 h2 => by rw [wr_row _ _ (by omega), wr_row _ _ (by omega), wr_row _ _ (by omega)]) (by rw [wr_cell _ _ (by omega), wr_cell _ _ (by omega), wr_idx _ _ (by omega)]) (by rw [wr_cell _ _ (by omega), wr_cell _ _ (by omega), wr_idx _ _ (by omega)]) (by rw [wr_cell _ _ (by omega), wr_cell _ _ (by omega), wr_same]; exact rg_of (by omega) (by omega) hr) (by rw [wr_cell _ _ (by omega), wr_cell _ _ (by omega), wr_idx _ _ (by omega)]) (by rw [wr_cell _ _ (by omega), wr_cell _ _ (by omega), wr_idx _ _ (by omega)])) O1
    refine ⟨C', D', ?_, ?_, e3, e4, e5, fun i h1 h2 => by rw [e6 i h1 h2, wr_row _ _ h2, wr_row _ _ h2, wr_row _ _ h1], fun i h1 h2 => by rw [e7 i h1 h2, wr_row _ _ h2, wr_row _ _ h2, wr_row _ _ h1], fun i h1 => by rw [e8 i h1, wr_cell _ _ (by omega), wr_cell _ _ (by omega), wr_idx _ _ h1]⟩
    · rw [← e1, L_Dy_drawOrder_30]
      rw [ec, if_neg hlt, if_neg h0]
      simp only [wr_same]
      rw [ej, if_pos (inb_t (by omega) (by omega)), if_pos (inb_t (by omega) (by omega)), nI_clamp (by omega), nI_clamp (by omega), pk_m1, wr_cell _ _ (by omega), wr_cell _ _ (by omega)]
    · rw [← e2, L_Md_drawOrder_33]
      rw [eL, ec, if_neg hlt, if_neg h0]
      simp only [wr_same]
      rw [ej, if_pos (inb_t (by omega) (by omega)), if_pos (inb_t (by omega) (by omega)), nI_clamp (by omega), nI_clamp (by omega), pk_m1, wr_cell _ _ (by omega), wr_cell _ _ (by omega)]
theorem places {t n d : Nat} (hn : n ≤ 12) : ∀ (m k q q' : Nat) (C D : St), k + m = n → m < q → m < q' → RT C D 0 89 0 → WTn C 0 t n d → OR C D n → ∃ C' D', L_Dy_drawOrder_105 q (nI k) C = some C' ∧ L_Md_drawOrder_120 q' (nI n) (nI k) D = some D' ∧ RT C' D' 0 89 0 ∧ WTn C' 0 t n d ∧ OR C' D' n ∧ (∀ j, j ≠ 5 → C' j = C j) ∧ (∀ j, j ≠ 89 → D' j = D j)
  | 0, k, q + 1, q' + 1, C, D, hk, _, _, hR, hW, hO => ⟨C, D, if_pos (by rw [hW.n0.2.1, nI_leI (by omega) (by omega)]; omega), if_pos (by rw [nI_leI (by omega) (by omega)]; omega), hR, hW, hO, fun _ _ => rfl, fun _ _ => rfl⟩
  | m + 1, k, q + 1, q' + 1, C, D, hk, hq, hq', hR, hW, hO => by
    obtain ⟨a, ha, ea, eb⟩ := hO k (by omega)
    obtain ⟨C', D', e1, e2, e3, e4, e5, e6, e7⟩ := places (t := t) (n := n) (d := d) hn m (k + 1) q q' (mj_wr C 5 a (nI k)) (mj_wr D 89 (5 * a + 3) (nI k)) (by omega) (by omega) (by omega) (rt_put hR (c := 5) (j := 3) (by omega) (by omega) (nI k)) (hW.frame5 (fun j h1 h2 h3 => wr_row _ _ h3)) (fun i hi => by rw [wr_cell _ _ (by omega), wr_cell _ _ (by omega)]; exact hO i hi)
    refine ⟨C', D', ?_, ?_, e3, e4, e5, fun j h => by rw [e6 j h, wr_row _ _ h], fun j h => by rw [e7 j h, wr_row _ _ h]⟩
    · rw [← e1, L_Dy_drawOrder_105]
      rw [hW.n0.2.1, if_neg (by rw [nI_leI (by omega) (by omega)]; omega), if_pos (inb_t (by omega) (by omega)), nI_clamp (by omega), ea, if_pos (inb_t (by omega) (by omega)), nI_clamp (by omega), l1, nI_add]
    · rw [← e2, L_Md_drawOrder_120]
      rw [if_neg (by rw [nI_leI (by omega) (by omega)]; omega), if_pos (inb_t (by omega) (by omega)), nI_clamp (by omega), eb, show (0 + (5 * nI a)) + 3 = nI (5 * a + 3) by rw [l0, l5, l3]; simp only [pk_mul, nI_add]; exact congrArg nI (by omega), if_pos (inb_t (by omega) (by omega)), nI_clamp (by omega), l1, nI_add]
/-- THE ORDER is drawn, on both sides -/
theorem draw {C D : St} {t n d : Nat} (hR : RT C D 0 89 0) (hW : WTn C 0 t n d) : ∃ C' D', f_Dy_drawOrder C = some C' ∧ f_Md_drawOrder D = some D' ∧ RT C' D' 0 89 0 ∧ WTn C' 0 t n d ∧ OR C' D' n ∧ (∀ j, j ≠ 1 → j ≠ 5 → j ≠ 24 → C' j = C j) ∧ (∀ j, j ≠ 89 → j ≠ 100 → D' j = D j) := by
  obtain ⟨hn, h1, -, -⟩ := hW.n0
  have hd : D 89 2163 = nI n := by rw [← h1]; exact (rt_n hR).1.symm
  obtain ⟨C1, a1, a2, a3⟩ := v_do1 hn n 0 3000 C (by omega) (by omega) h1
  obtain ⟨D1, b1, b2, b3⟩ := m_do1 hn n 0 3000 D (by omega) (by omega)
  have R1 : RT C1 D1 0 89 0 := hR.frame (fun j h1 h2 => a3 _ (by omega)) (b3 89 (by omega))
  have W1 : WTn C1 0 t n d := hW.frame (fun j h1 h2 => a3 _ (by omega))
  have O1 : OR C1 D1 n := fun i hi => ⟨i, hi, by rw [a2, if_pos (by omega)], by rw [b2, if_pos (by omega)]⟩
  have S : ∃ C2 D2, L_Dy_drawOrder_30 3000 (nI n - 1) C1 = some C2 ∧ L_Md_drawOrder_33 3000 (nI n) (nI n - 1) D1 = some D2 ∧ RT C2 D2 0 89 0 ∧ WTn C2 0 t n d ∧ OR C2 D2 n ∧ (∀ j, j ≠ 1 → j ≠ 24 → C2 j = C1 j) ∧ (∀ j, j ≠ 89 → j ≠ 100 → D2 j = D1 j) := by
    by_cases hz : n = 0
    · subst hz
      exact ⟨C1, D1, if_pos (by decide), if_pos (by decide), R1, W1, O1, fun _ _ _ => rfl, fun _ _ _ => rfl⟩
    · rw [nI_m1 (by omega)]
      obtain ⟨C2, D2, c1, c2, c3, c4, c5, c6, c7, -⟩ := shuf (t := t) (d := d) hn (nI n) (n - 1) 3000 3000 C1 D1 (by omega) (by omega) (by omega) R1 W1 O1
      exact ⟨C2, D2, c1, c2, c3, c4, c5, c6, c7⟩
  obtain ⟨C2, D2, c1, c2, c3, c4, c5, c6, c7⟩ := S
  obtain ⟨C3, D3, g1, g2, g3, g4, g5, g6, g7⟩ := places (t := t) (d := d) hn n 0 3000 3000 C2 D2 (by omega) (by omega) (by omega) c3 c4 c5
  refine ⟨C3, D3, ?_, ?_, g3, g4, g5, fun j h1 h2 h3 => by rw [g6 j h2, c6 j h1 h3, a3 j h3], fun j h1 h2 => by rw [g7 j h1, c7 j h1 h2, b3 j h2]⟩
  · unfold f_Dy_drawOrder
    rw [show L_Dy_drawOrder_2 3000 0 C = _ from a1, bd1_s, a3 1 (by omega), h1, c1, bd1_s, show L_Dy_drawOrder_105 3000 0 C2 = _ from g1, bd1_s]
  · unfold f_Md_drawOrder
    rw [hd, show L_Md_drawOrder_11 3000 (nI n) 0 D = _ from b1, bd1_s, c2, bd1_s, show L_Md_drawOrder_120 3000 (nI n) 0 D2 = _ from g2, bd1_s]
