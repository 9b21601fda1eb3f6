/-! PURE: a day's steps: payments, pieces -/
def up (f : Nat → Int32) (k : Nat) (x : Int32) : Nat → Int32 := fun j => if j = k then x else f j
theorem up_same (f : Nat → Int32) (k : Nat) (x : Int32) : up f k x k = x := if_pos rfl
theorem up_ne (f : Nat → Int32) {k j : Nat} (x : Int32) (h : j ≠ k) : up f k x j = f j := if_neg h
theorem wr_up (C : St) (b k : Nat) (x : Int32) : mj_wr C b k x b = up (C b) k x := by
  funext j
  exact wr_at C b k x j
/-- from a to b -/
def py (f : Nat → Int32) (a b : Nat) (v : Int32) : Nat → Int32 := up (up f a (f a - v)) b (up f a (f a - v) b + v)
theorem py_int {f : Nat → Int32} {N a b : Nat} {v : Int32} (hf : ∀ x, x < N → 0 ≤ (f x).toInt) (hs : sm (fun x => (f x).toInt) N ≤ 2147483647) (ha : a < N) (hb : b < N) (h0 : 0 ≤ v.toInt) (h1 : v.toInt ≤ (f a).toInt) :
    (∀ x, x < N → 0 ≤ (py f a b v x).toInt) ∧ sm (fun x => (py f a b v x).toInt) N = sm (fun x => (f x).toInt) N ∧ (∀ x, x ≠ a → x ≠ b → py f a b v x = f x) ∧ (∀ x, x < N → x ≠ a → (f x).toInt ≤ (py f a b v x).toInt) ∧ (a ≠ b → (py f a b v a).toInt = (f a).toInt - v.toInt ∧ (py f a b v b).toInt = (f b).toInt + v.toInt) ∧ (a = b → ∀ x, py f a b v x = f x) ∧ (∀ x, x < N → (f x).toInt - (if x = a then v.toInt else 0) ≤ (py f a b v x).toInt) := by
  have ba := sm_le hf ha
  have bb := sm_le hf hb
  have fa0 := hf a ha
  have fb0 := hf b hb
  have e1 : (f a - v).toInt = (f a).toInt - v.toInt := sub_toInt (by omega) (by omega)
  have g1 : ∀ x, (up f a (f a - v) x).toInt = if x = a then (f a).toInt - v.toInt else (f x).toInt := by
    intro x
    unfold up
    by_cases hx : x = a
    · rw [if_pos hx, if_pos hx, e1]
    · rw [if_neg hx, if_neg hx]
  have s1 : sm (fun x => (up f a (f a - v) x).toInt) N = sm (fun x => (f x).toInt) N - v.toInt := by
    rw [sm_congr (g := fun x => if x = a then (f a).toInt - v.toInt else (f x).toInt) N (fun x _ => g1 x), sm_upd, if_pos ha]
    omega
  have n1 : ∀ x, x < N → 0 ≤ (up f a (f a - v) x).toInt := by
    intro x hx
    rw [g1]
    by_cases hxa : x = a
    · rw [if_pos hxa]; omega
    · rw [if_neg hxa]; exact hf x hx
  have bb' := sm_le n1 hb
  have bb0 := n1 b hb
  have e2 : (up f a (f a - v) b + v).toInt = (up f a (f a - v) b).toInt + v.toInt := add_toInt (by omega) (by omega)
  have g2 : ∀ x, (py f a b v x).toInt = if x = b then (up f a (f a - v) b).toInt + v.toInt else (up f a (f a - v) x).toInt := by
    intro x
    unfold py
    by_cases hx : x = b
    · rw [hx, up_same, if_pos rfl, e2]
    · rw [up_ne _ _ hx, if_neg hx]
  refine ⟨fun x hx => ?_, ?_, fun x h2 h3 => ?_, fun x hx h2 => ?_, fun hab => ⟨?_, ?_⟩, fun hab x => ?_, fun x hx => ?_⟩
  · rw [g2]
    by_cases hxb : x = b
    · rw [if_pos hxb]; omega
    · rw [if_neg hxb]; exact n1 x hx
  · rw [sm_congr (g := fun x => if x = b then (up f a (f a - v) b).toInt + v.toInt else (up f a (f a - v) x).toInt) N (fun x _ => g2 x), sm_upd (f := fun x => (up f a (f a - v) x).toInt), if_pos hb, s1]
    omega
  · unfold py
    rw [up_ne _ _ h3, up_ne _ _ h2]
  · rw [g2]
    by_cases hxb : x = b
    · subst hxb
      rw [if_pos rfl, g1, if_neg h2]; omega
    · rw [if_neg hxb, g1, if_neg h2]; omega
  · rw [g2, if_neg hab, g1, if_pos rfl]
  · rw [g2, if_pos rfl, g1, if_neg (Ne.symm hab)]
  · subst hab
    refine Int32.toInt_inj.mp ?_
    rw [g2]
    by_cases hxa : x = a
    · subst hxa
      rw [if_pos rfl, g1, if_pos rfl]; omega
    · rw [if_neg hxa, g1, if_neg hxa]
  · rw [g2]
    by_cases hxb : x = b
    · rw [if_pos hxb, hxb, g1]
      by_cases hba : b = a
      · rw [if_pos hba, hba]; rw [if_pos rfl]; omega
      · rw [if_neg hba, if_neg hba]; omega
    · rw [if_neg hxb, g1]
      by_cases hxa : x = a
      · rw [if_pos hxa, if_pos hxa, hxa]; omega
      · rw [if_neg hxa, if_neg hxa]; omega
theorem v_hand {C : St} {a b r : Nat} (ha : a < 12) (hb : b < 12) (hr : r < 5) (v : Int32) : ∃ C', f_Tw_hand (nI a) (nI b) (nI r) v C = some C' ∧ C' 3 = py (C 3) a b v ∧ C' 6 = up (C 6) (5 * (12 * a + b) + r) (C 6 (5 * (12 * a + b) + r) + v) ∧ ∀ j, j ≠ 3 → j ≠ 6 → C' j = C j := by
  unfold f_Tw_hand
  rw [if_pos (inb_t ha (by omega)), if_pos (inb_t hb (by omega)), v_entry, bd1_s, if_pos (inb_t (by omega) (by omega)), nI_clamp (by omega), nI_clamp (by omega), nI_clamp (by omega)]
  refine ⟨_, rfl, ?_, ?_, fun j h3 h6 => ?_⟩
  · rw [wr_row _ _ (by omega), wr_up, wr_up]
    rfl
  · rw [wr_up, wr_row _ _ (by omega), wr_row _ _ (by omega)]
  · rw [wr_row _ _ h6, wr_row _ _ h3, wr_row _ _ h3]
theorem m_pays {D : St} {a b r : Nat} (ha : a < 12) (hb : b < 12) (hr : r < 5) (v : Int32) : ∃ D', f_Md_pays (nI a) (nI b) v (nI r) D = some D' ∧ (∀ x, D' 89 (5 * x + 1) = if x < 144 then py (fun x => D 89 (5 * x + 1)) a b v x else D' 89 (5 * x + 1)) ∧ (∀ i, i < 720 → D' 89 (1443 + i) = up (fun i => D 89 (1443 + i)) (5 * (12 * a + b) + r) (D 89 (1443 + (5 * (12 * a + b) + r)) + v) i) ∧ (∀ i, i < 60 → i % 5 ≠ 1 → D' 89 i = D 89 i) ∧ (∀ i, (60 ≤ i ∧ i < 1443) ∨ 2163 ≤ i → D' 89 i = D 89 i) ∧ ∀ j, j ≠ 89 → D' j = D j := by
  have e1 : ∀ a : Nat, (0 + (5 * nI a)) + 1 = nI (5 * a + 1) := fun a => by
    rw [l0, l5, l1]
    simp only [pk_mul, nI_add]
    exact congrArg nI (by omega)
  have e2 : (1443 + (5 * ((12 * nI a) + nI b))) + nI r = nI (1443 + (5 * (12 * a + b) + r)) := by
    rw [l1443, l5, l12]
    simp only [pk_mul, nI_add]
    exact congrArg nI (by omega)
  unfold f_Md_pays
  rw [e1, e1, e2, if_pos (inb_t (by omega) (by omega)), if_pos (inb_t (by omega) (by omega)), if_pos (inb_t (by omega) (by omega)), nI_clamp (by omega), nI_clamp (by omega), nI_clamp (by omega)]
  refine ⟨_, rfl, fun x => ?_, fun i hi => ?_, fun i h1 h2 => ?_, fun i hi => ?_, fun j hj => ?_⟩
  · by_cases hx : x < 144
    · rw [if_pos hx]
      by_cases hxx : 5 * x + 1 = 1443 + (5 * (12 * a + b) + r)
      · omega
      · rw [wr_idx _ _ hxx]
        unfold py
        by_cases h1 : x = b
        · subst h1
          rw [wr_same, up_same]
          by_cases h2 : x = a
          · subst h2
            rw [wr_same, up_same]
          · rw [wr_idx _ _ (by omega), up_ne _ _ h2]
        · rw [wr_idx _ _ (by omega), up_ne _ _ h1]
          by_cases h2 : x = a
          · subst h2
            rw [wr_same, up_same]
          · rw [wr_idx _ _ (by omega), up_ne _ _ h2]
    · rw [if_neg hx]
  · by_cases h1 : i = 5 * (12 * a + b) + r
    · subst h1
      rw [wr_same, up_same, wr_idx _ _ (by omega), wr_idx _ _ (by omega)]
    · rw [wr_idx _ _ (by omega), up_ne _ _ h1, wr_idx _ _ (by omega), wr_idx _ _ (by omega)]
  · rw [wr_idx _ _ (by omega), wr_idx _ _ (by omega), wr_idx _ _ (by omega)]
  · rw [wr_idx _ _ (by omega), wr_idx _ _ (by omega), wr_idx _ _ (by omega)]
  · rw [wr_row _ _ hj, wr_row _ _ hj, wr_row _ _ hj]
/-- cash and books -/
theorem rt_cash {C D C' D' : St} (hR : RT C D 0 89 0) (hC : ∀ j, j ≠ 3 → j ≠ 6 → C' j = C j) (hD1 : ∀ i, i < 60 → i % 5 ≠ 1 → D' 89 i = D 89 i) (hD2 : ∀ i, (60 ≤ i ∧ i < 1443) ∨ 2163 ≤ i → D' 89 i = D 89 i) (h3 : ∀ a, a < 12 → C' 3 a = D' 89 (5 * a + 1)) (h6 : ∀ i, i < 720 → C' 6 i = D' 89 (1443 + i)) : RT C' D' 0 89 0 := by
  unfold RT at hR ⊢
  simp only [Nat.zero_add] at hR ⊢
  rw [hC 1 (by omega) (by omega), hC 2 (by omega) (by omega), hC 4 (by omega) (by omega), hC 5 (by omega) (by omega), hC 8 (by omega) (by omega), hC 11 (by omega) (by omega), hC 13 (by omega) (by omega), hC 14 (by omega) (by omega), hC 15 (by omega) (by omega), hC 16 (by omega) (by omega), hD2 2163 (by omega), hD2 2164 (by omega), hD2 2165 (by omega), hD2 2166 (by omega), hD2 2167 (by omega), hD2 2168 (by omega)]
  obtain ⟨r1, rA, rP, rR, rW, rL, rB⟩ := hR
  refine ⟨r1, fun a ha => ?_, fun i hi => ?_, fun i hi => ?_, fun i hi => ?_, fun i hi hq => ?_, h6⟩
  · rw [hD1 (5 * a) (by omega) (by omega), hD1 (5 * a + 2) (by omega) (by omega), hD1 (5 * a + 3) (by omega) (by omega), hD1 (5 * a + 4) (by omega) (by omega)]
    have := rA a ha
    exact ⟨this.1, h3 a ha, this.2.2⟩
  · rw [hD2 _ (by omega)]; exact rP i hi
  · rw [hD2 _ (by omega)]; exact rR i hi
  · rw [hD2 _ (by omega)]; exact rW i hi
  · rw [hD2 _ (by omega)]; exact rL i hi hq
theorem WTn.put_cash {C C' : St} {t n d : Nat} (h : WTn C 0 t n d) (hC : ∀ j, j ≠ 3 → j ≠ 6 → C' j = C j) (h1 : ∀ a, a < 12 → 0 ≤ (C' 3 a).toInt) (h2 : ∀ a, n ≤ a → a < 12 → C' 3 a = 0) (h3 : sm (fun a => (C' 3 a).toInt) 12 ≤ 100000 * n) : WTn C' 0 t n d := by
  unfold WTn at h ⊢
  simp only [Nat.zero_add] at h ⊢
  rw [hC 1 (by omega) (by omega), hC 2 (by omega) (by omega), hC 4 (by omega) (by omega), hC 8 (by omega) (by omega), hC 9 (by omega) (by omega), hC 11 (by omega) (by omega), hC 13 (by omega) (by omega), hC 14 (by omega) (by omega), hC 15 (by omega) (by omega), hC 16 (by omega) (by omega)]
  exact ⟨h.1, h.2.1, h.2.2.1, ⟨h1, h2, h3⟩, h.2.2.2.2⟩
theorem WTn.cash {C : St} {t n d : Nat} (h : WTn C 0 t n d) : (∀ a, a < 12 → 0 ≤ (C 3 a).toInt) ∧ (∀ a, n ≤ a → a < 12 → C 3 a = 0) ∧ sm (fun a => (C 3 a).toInt) 12 ≤ 100000 * n := by
  have := h.2.2.2.1
  simp only [Nat.zero_add] at this
  exact this
/-- A PAYMENT, on both sides -/
theorem pay {C D : St} {t n d : Nat} (hR : RT C D 0 89 0) (hW : WTn C 0 t n d) {a b r : Nat} (ha : a < n) (hb : b < n) (hr : r < 5) {v : Int32} (h0 : 0 ≤ v.toInt) (h1 : v.toInt ≤ (C 3 a).toInt) :
    ∃ C' D', f_Tw_hand (nI a) (nI b) (nI r) v C = some C' ∧ f_Md_pays (nI a) (nI b) v (nI r) D = some D' ∧ RT C' D' 0 89 0 ∧ WTn C' 0 t n d ∧ C' 3 = py (C 3) a b v ∧ (∀ j, j ≠ 3 → j ≠ 6 → C' j = C j) ∧ (∀ i, (60 ≤ i ∧ i < 1443) ∨ 2163 ≤ i → D' 89 i = D 89 i) ∧ (∀ i, i < 60 → i % 5 ≠ 1 → D' 89 i = D 89 i) ∧ (∀ j, j ≠ 89 → D' j = D j) := by
  have hn := hW.1.1
  obtain ⟨k1, k2, k3⟩ := hW.cash
  obtain ⟨C', e1, e2, e3, e4⟩ := v_hand (C := C) (a := a) (b := b) (r := r) (by omega) (by omega) hr v
  obtain ⟨D', f1, f2, f3, f4, f5, f6⟩ := m_pays (D := D) (a := a) (b := b) (r := r) (by omega) (by omega) hr v
  obtain ⟨p1, p2, p3, -⟩ := py_int (f := C 3) (N := 12) (a := a) (b := b) (v := v) k1 (by omega) (by omega) (by omega) h0 h1
  refine ⟨C', D', e1, f1, rt_cash hR e4 f4 f5 (fun x hx => ?_) (fun i hi => ?_), hW.put_cash e4 (fun x hx => ?_) (fun x h1 h2 => ?_) ?_, e2, e4, f5, f4, f6⟩
  · rw [e2, f2, if_pos (by omega)]
    have hh : ∀ x, x < 12 → C 3 x = D 89 (5 * x + 1) := fun x hx => (rt_a hR hx).2.1
    unfold py up
    dsimp only
    rw [hh x hx, hh a (by omega), hh b (by omega)]
  · rw [e3, f3 i hi]
    have hh : ∀ i, i < 720 → C 6 i = D 89 (1443 + i) := fun i hi => rt_b hR hi
    unfold up
    dsimp only
    rw [hh i hi, hh _ (by omega)]
  · rw [e2]; exact p1 x hx
  · rw [e2, p3 x (by omega) (by omega)]; exact k2 x h1 h2
  · rw [e2, p2]; exact k3
