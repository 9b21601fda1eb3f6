/-! PURE: a day's steps: pieces and wares on both sides -/
theorem i_sub_sub (a b c : Int32) : a - b - c = a - (b + c) := by
  rw [Int32.sub_eq_add_neg, Int32.sub_eq_add_neg, Int32.sub_eq_add_neg, Int32.neg_add, Int32.add_assoc, Int32.sub_eq_add_neg]
theorem rt_w1 {C D : St} (h : RT C D 0 89 0) {k : Nat} (hk : k < 55) (x : Int32) : RT (mj_wr C 11 k x) (mj_wr D 89 (1308 + k) x) 0 89 0 := by
  have kd : ∀ i : Nat, (i < 1308 ∨ 1363 ≤ i) → mj_wr D 89 (1308 + k) x 89 i = D 89 i := fun i hi => wr_idx D x (by omega)
  have hC : ∀ j, j ≠ 11 → mj_wr C 11 k x j = C j := fun j hj => wr_row _ _ hj
  unfold RT at h ⊢
  simp only [Nat.zero_add] at h ⊢
  rw [hC 1 (by omega), hC 2 (by omega), hC 3 (by omega), hC 4 (by omega), hC 5 (by omega), hC 6 (by omega), hC 8 (by omega), hC 13 (by omega), hC 14 (by omega), hC 15 (by omega), hC 16 (by omega), kd 2163 (by omega), kd 2164 (by omega), kd 2165 (by omega), kd 2166 (by omega), kd 2167 (by omega), kd 2168 (by omega)]
  obtain ⟨r1, rA, rP, rR, rW, rL, rB⟩ := h
  refine ⟨r1, fun a ha => ?_, fun i hi => ?_, fun i hi => ?_, fun i hi => ?_, fun i hi hq => ?_, fun i hi => ?_⟩
  · rw [kd _ (by omega), kd _ (by omega), kd _ (by omega), kd _ (by omega), kd _ (by omega)]; exact rA a ha
  · rw [kd _ (by omega)]; exact rP i hi
  · rw [kd _ (by omega)]; exact rR i hi
  · by_cases h1 : i = k
    · subst h1; rw [wr_same, wr_same]
    · rw [wr_idx _ _ h1, wr_idx _ _ (by omega)]; exact rW i hi
  · rw [kd _ (by omega)]; exact rL i hi hq
  · rw [kd _ (by omega)]; exact rB i hi
theorem WTn.put_w {C : St} {t n d : Nat} (h : WTn C 0 t n d) {g c : Nat} (hg : g < 5) (hc : 2 ≤ c) (hc6 : c ≤ 6) {x : Int32} (hx : c = 2 → rg x 0 999) : WTn (mj_wr C 11 (11 * g + c) x) 0 t n d := by
  have hC : ∀ j, j ≠ 11 → mj_wr C 11 (11 * g + c) x j = C j := fun j hj => wr_row _ _ hj
  unfold WTn at h ⊢
  simp only [Nat.zero_add] at h ⊢
  rw [hC 1 (by omega), hC 2 (by omega), hC 3 (by omega), hC 4 (by omega), hC 8 (by omega), hC 9 (by omega), hC 13 (by omega), hC 14 (by omega), hC 15 (by omega), hC 16 (by omega)]
  obtain ⟨u1, u2, u3, u4, u5, u6, u7, u8, u9, u10⟩ := h
  refine ⟨u1, u2, u3, u4, u5, u6, u7, u8, fun g' hg' => ?_, u10⟩
  obtain ⟨w1, w2, w3, w4⟩ := u9 g' hg'
  rw [wr_idx _ _ (by omega), wr_idx _ _ (by omega), wr_idx (j := 11 * g' + 7) _ _ (by omega), wr_idx (j := 11 * g' + 8) _ _ (by omega), wr_idx (j := 11 * g' + 9) _ _ (by omega), wr_idx (j := 11 * g' + 10) _ _ (by omega)]
  refine ⟨w1, w2, ?_, w4⟩
  by_cases he : 11 * g' + 2 = 11 * g + c
  · rw [he, wr_same]; exact hx (by omega)
  · rw [wr_idx _ _ he]; exact w3
theorem WTn.wares {C : St} {t n d : Nat} (h : WTn C 0 t n d) {g : Nat} (hg : g < 5) : rg (C 11 (11 * g)) 0 9 ∧ rg (C 11 (11 * g + 1)) 0 2 ∧ rg (C 11 (11 * g + 2)) 0 999 ∧ rg (C 11 (11 * g + 7)) 0 4 ∧ rg (C 11 (11 * g + 8)) (-1) 9 ∧ rg (C 11 (11 * g + 9)) 0 4 ∧ rg (C 11 (11 * g + 10)) 0 9 := by
  have := h.2.2.2.2.2.2.2.2.1 g hg
  simp only [Nat.zero_add] at this
  exact this
/-- a count of a ware, on both sides -/
theorem inc {C D : St} {t n d : Nat} (hR : RT C D 0 89 0) (hW : WTn C 0 t n d) {g c : Nat} (hg : g < 5) (hc : 3 ≤ c) (hc6 : c ≤ 6) (x : Int32) : f_Wr_increase (nI g) (nI c) x C = some (mj_wr C 11 (11 * g + c) (C 11 (11 * g + c) + x)) ∧ f_Md_addGood (nI g) (nI c) x D = some (mj_wr D 89 (1308 + (11 * g + c)) (C 11 (11 * g + c) + x)) ∧ RT (mj_wr C 11 (11 * g + c) (C 11 (11 * g + c) + x)) (mj_wr D 89 (1308 + (11 * g + c)) (C 11 (11 * g + c) + x)) 0 89 0 ∧ WTn (mj_wr C 11 (11 * g + c) (C 11 (11 * g + c) + x)) 0 t n d := by
  refine ⟨v_winc hg (by omega) x, ?_, rt_w1 hR (by omega) _, hW.put_w hg (by omega) hc6 (fun h => by omega)⟩
  rw [m_addGood hg (by omega), ← rt_w hR (show 11 * g + c < 55 by omega)]
/-- pieces used, on both sides -/
theorem use {C D : St} {t n d : Nat} (hR : RT C D 0 89 0) (hW : WTn C 0 t n d) (ht : t ≤ 600) {a g : Nat} (ha : a < 12) (hg : g < 5) {m : Int32} (hm : 0 ≤ m.toInt) : ∃ C' D', f_Sk_use (nI a) (nI g) m C = some C' ∧ f_Md_go (nI a) (nI g) m (-1) D = some D' ∧ RT C' D' 0 89 0 ∧ WTn C' 0 t n d ∧ (∀ j, j ≠ 8 → j ≠ 9 → C' j = C j) ∧ (∀ j, j ≠ 89 → j ≠ 101 → D' j = D j) ∧ (∀ i, (i < 60 ∨ 660 ≤ i) → D' 89 i = D 89 i) ∧ (∀ q, q ≠ 5 * a + g → C' 9 q = C 9 q) ∧ (m.toInt ≤ (C 9 (5 * a + g)).toInt → (C' 9 (5 * a + g)).toInt = (C 9 (5 * a + g)).toInt - m.toInt) ∧ (∀ i, C' 8 i = if 10 * (5 * a + g) ≤ i ∧ i < 10 * (5 * a + g) + 10 then C 8 i - aw (fun i => C 8 (10 * (5 * a + g) + i)) 10 m (i - 10 * (5 * a + g)) else C 8 i) ∧ C' 9 = up (C 9) (5 * a + g) (C 9 (5 * a + g) - (m - lw (fun i => C 8 (10 * (5 * a + g) + i)) 10 m)) := by
  have hd := hW.1.2.2.1
  have P := hW.ps
  obtain ⟨C', e1, e2, e3, e4⟩ := v_use (C := C) ha hg hm (fun i hi => P.1 _ (by omega))
  obtain ⟨D', f1, f2, f3⟩ := m_go0 (D := D) ha hg m
  obtain ⟨P', Q'⟩ := ps_use P (by omega) (show 5 * a + g < 60 by omega) hm e2 e3
  refine ⟨C', D', e1, f1, rel_pieces hR e4 (fun i hi => ?_) (fun i hi => ?_), hW.put_ps e4 rfl P', e4, f3, fun i hi => ?_, fun q hq => ?_, Q', e2, e3⟩
  · rw [f2, if_neg (by omega)]
  · rw [e2, f2]
    have hcg : ∀ i, i < 10 → (fun i => C 8 (10 * (5 * a + g) + i)) i = (fun i => D 89 (60 + 10 * (5 * a + g) + i)) i := fun i hi => by
      have := rt_p hR (show 10 * (5 * a + g) + i < 600 by omega)
      rw [← Nat.add_assoc] at this
      exact this
    by_cases s : 10 * (5 * a + g) ≤ i ∧ i < 10 * (5 * a + g) + 10
    · rw [if_pos s, if_pos (by omega), aw_congr 10 m hcg, rt_p hR hi, show 60 + i - (60 + 10 * (5 * a + g)) = i - 10 * (5 * a + g) by omega]
    · rw [if_neg s, if_neg (by omega), rt_p hR hi]
  · rw [f2, if_neg (by omega)]
  · rw [e3, up_ne _ _ hq]
/-- pieces carried, on both sides -/
theorem carry {C D : St} {t n d : Nat} (hR : RT C D 0 89 0) (hW : WTn C 0 t n d) (ht : t ≤ 600) {a b g : Nat} (ha : a < n) (hb : b < n) (hg : g < 5) {m : Int32} (hm : 0 ≤ m.toInt) : ∃ C' D', f_Sk_carry (nI a) (nI b) (nI g) m C = some C' ∧ f_Md_go (nI a) (nI g) m (nI b) D = some D' ∧ RT C' D' 0 89 0 ∧ WTn C' 0 t n d ∧ (∀ j, j ≠ 8 → j ≠ 9 → C' j = C j) ∧ (∀ j, j ≠ 89 → j ≠ 101 → D' j = D j) ∧ (∀ i, (i < 60 ∨ 660 ≤ i) → D' 89 i = D 89 i) := by
  have hd := hW.1.2.2.1
  have hn := hW.1.1
  have P := hW.ps
  obtain ⟨C', e1, e2, e3, e4⟩ := v_carry (C := C) (a := a) (b := b) (by omega) (by omega) hg hm (fun i hi => P.1 _ (by omega))
  obtain ⟨D', f1, f2, f3⟩ := m_go1 (D := D) (a := a) (b := b) (by omega) (by omega) hg m
  have P' := ps_carry P (by omega) hn (show 5 * a + g < 5 * n by omega) (show 5 * b + g < 5 * n by omega) hm e2 e3
  refine ⟨C', D', e1, f1, rel_pieces hR e4 (fun i hi => ?_) (fun i hi => ?_), hW.put_ps e4 rfl P', e4, f3, fun i hi => ?_⟩
  · rw [f2, if_neg (by omega), if_neg (by omega), Int32.add_zero]
  · rw [e2, f2]
    have hcg : ∀ i, i < 10 → (fun i => C 8 (10 * (5 * a + g) + i)) i = (fun i => D 89 (60 + 10 * (5 * a + g) + i)) i := fun i hi => by
      have := rt_p hR (show 10 * (5 * a + g) + i < 600 by omega)
      rw [← Nat.add_assoc] at this
      exact this
    rw [aw_congr 10 m hcg, aw_congr 10 m hcg, rt_p hR hi]
    have c1 : (if 10 * (5 * a + g) ≤ i ∧ i < 10 * (5 * a + g) + 10 then D 89 (60 + i) - aw (fun i => D 89 (60 + 10 * (5 * a + g) + i)) 10 m (i - 10 * (5 * a + g)) else D 89 (60 + i)) = (if 60 + 10 * (5 * a + g) ≤ 60 + i ∧ 60 + i < 60 + 10 * (5 * a + g) + 10 then D 89 (60 + i) - aw (fun i => D 89 (60 + 10 * (5 * a + g) + i)) 10 m (60 + i - (60 + 10 * (5 * a + g))) else D 89 (60 + i)) := by
      by_cases s : 10 * (5 * a + g) ≤ i ∧ i < 10 * (5 * a + g) + 10
      · rw [if_pos s, if_pos (by omega), show 60 + i - (60 + 10 * (5 * a + g)) = i - 10 * (5 * a + g) by omega]
      · rw [if_neg s, if_neg (by omega)]
    have c2 : (if 10 * (5 * b + g) ≤ i ∧ i < 10 * (5 * b + g) + 10 then aw (fun i => D 89 (60 + 10 * (5 * a + g) + i)) 10 m (i - 10 * (5 * b + g)) else 0) = (if 60 + 10 * (5 * b + g) ≤ 60 + i ∧ 60 + i < 60 + 10 * (5 * b + g) + 10 then aw (fun i => D 89 (60 + 10 * (5 * a + g) + i)) 10 m (60 + i - (60 + 10 * (5 * b + g))) else 0) := by
      by_cases s : 10 * (5 * b + g) ≤ i ∧ i < 10 * (5 * b + g) + 10
      · rw [if_pos s, if_pos (by omega), show 60 + i - (60 + 10 * (5 * b + g)) = i - 10 * (5 * b + g) by omega]
      · rw [if_neg s, if_neg (by omega)]
    rw [c1, c2]
  · rw [f2, if_neg (by omega), if_neg (by omega), Int32.add_zero]
/-- pieces brought, on both sides -/
theorem bring {C D : St} {t n d : Nat} (hR : RT C D 0 89 0) (hW : WTn C 0 t n d) (ht : t < 600) {a g x : Nat} (ha : a < n) (hg : g < 5) (hx : x ≤ 999) : ∃ C', f_Sk_bring (nI a) (nI g) (nI x) C = some C' ∧ RT C' (mj_wr D 89 (60 + 10 * (5 * a + g)) (D 89 (60 + 10 * (5 * a + g)) + nI x)) 0 89 0 ∧ WTn C' 0 (t + 1) n d ∧ (∀ j, j ≠ 8 → j ≠ 9 → C' j = C j) ∧ (∀ q, q < 60 → (C 9 q).toInt ≤ (C' 9 q).toInt) := by
  have hd := hW.1.2.2.1
  have hn := hW.1.1
  have P1 := ps_bring (p := 5 * a + g) (x := x) hW.ps (by omega) hn (by omega)
  have hCf : ∀ j, j ≠ 8 → j ≠ 9 → mj_wr (mj_wr C 8 (10 * (5 * a + g)) (C 8 (10 * (5 * a + g)) + nI x)) 9 (5 * a + g) (C 9 (5 * a + g) + nI x) j = C j := fun j h1 h2 => by rw [wr_row _ _ h2, wr_row _ _ h1]
  refine ⟨_, v_bring (by omega) hg _, rel_pieces hR hCf (fun i hi => wr_idx D _ (by omega)) (fun i hi => ?_), hW.put_ps hCf rfl ⟨P1.1, P1.2.1, by have := P1.2.2.1; omega, P1.2.2.2⟩, hCf, fun q hq => ?_⟩
  · rw [wr_cell _ _ (by omega)]
    by_cases h1 : i = 10 * (5 * a + g)
    · subst h1; rw [wr_same, wr_same, rt_p hR hi]
    · rw [wr_idx _ _ h1, wr_idx _ _ (by omega)]; exact rt_p hR hi
  · rw [wr_at, wr_cell _ _ (by omega)]
    by_cases h1 : q = 5 * a + g
    · have b := ps_sum hW.ps (show 5 * a + g < 60 by omega)
      rw [if_pos h1, h1, add_toInt (by rw [nI_toInt (by omega)]; omega) (by rw [nI_toInt (by omega)]; omega), nI_toInt (by omega)]
      omega
    · rw [if_neg h1]; omega
