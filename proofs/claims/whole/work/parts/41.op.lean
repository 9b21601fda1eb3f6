/-! PURE: a day's steps: pieces used and carried -/
def amt (l f : Int32) : Int32 := if f < l then f else l
def lw (f : Nat → Int32) : Nat → Int32 → Int32
  | 0, l => l
  | k + 1, l => lw f k (l - amt l (f k))
def aw (f : Nat → Int32) : Nat → Int32 → Nat → Int32
  | 0, _, _ => 0
  | k + 1, l, i => if i = k then amt l (f k) else aw f k (l - amt l (f k)) i
theorem amt_int {l f : Int32} (hl : 0 ≤ l.toInt) (hf : 0 ≤ f.toInt) : 0 ≤ (amt l f).toInt ∧ (amt l f).toInt ≤ l.toInt ∧ (amt l f).toInt ≤ f.toInt ∧ (l - amt l f).toInt = l.toInt - (amt l f).toInt ∧ (f - amt l f).toInt = f.toInt - (amt l f).toInt ∧ ((amt l f).toInt = l.toInt ∨ (amt l f).toInt = f.toInt) := by
  have b1 := Int32.toInt_lt l
  have b2 := Int32.toInt_lt f
  have k : 0 ≤ (amt l f).toInt ∧ (amt l f).toInt ≤ l.toInt ∧ (amt l f).toInt ≤ f.toInt ∧ ((amt l f).toInt = l.toInt ∨ (amt l f).toInt = f.toInt) := by
    unfold amt
    by_cases h : f < l
    · rw [if_pos h]
      rw [Int32.lt_iff_toInt_lt] at h
      omega
    · rw [if_neg h]
      rw [Int32.lt_iff_toInt_lt] at h
      omega
  exact ⟨k.1, k.2.1, k.2.2.1, sub_toInt (by omega) (by omega), sub_toInt (by omega) (by omega), k.2.2.2⟩
theorem amt_less (l f : Int32) : (if f ≤ l then f else l : Int32) = amt l f := by
  unfold amt
  by_cases h : f < l
  · rw [if_pos h, if_pos (Int32.le_of_lt h)]
  · rw [if_neg h]
    by_cases h2 : f ≤ l
    · rw [if_pos h2]
      rw [Int32.lt_iff_toInt_lt] at h
      rw [Int32.le_iff_toInt_le] at h2
      exact Int32.toInt_inj.mp (by omega)
    · rw [if_neg h2]
theorem amt_0 {l f : Int32} (hl : l = 0) (hf : 0 ≤ f.toInt) : amt l f = 0 := by
  unfold amt
  rw [hl, if_neg]
  rw [Int32.lt_iff_toInt_lt, Int32.toInt_zero]
  omega
theorem lw_0 {f : Nat → Int32} : ∀ (k : Nat), (∀ i, i < k → 0 ≤ (f i).toInt) → lw f k 0 = 0
  | 0, _ => rfl
  | k + 1, h => by
    show lw f k (0 - amt 0 (f k)) = 0
    rw [amt_0 rfl (h k (by omega)), show (0 : Int32) - 0 = 0 from rfl]
    exact lw_0 k (fun i hi => h i (by omega))
theorem aw_0 {f : Nat → Int32} : ∀ (k : Nat), (∀ i, i < k → 0 ≤ (f i).toInt) → ∀ i, aw f k 0 i = 0
  | 0, _, i => rfl
  | k + 1, h, i => by
    show (if i = k then amt 0 (f k) else aw f k (0 - amt 0 (f k)) i) = 0
    rw [amt_0 rfl (h k (by omega)), show (0 : Int32) - 0 = 0 from rfl, aw_0 k (fun i hi => h i (by omega)) i]
    by_cases hk : i = k
    · rw [if_pos hk]
    · rw [if_neg hk]
theorem lw_congr {f g : Nat → Int32} : ∀ (k : Nat) (l : Int32), (∀ i, i < k → f i = g i) → lw f k l = lw g k l
  | 0, l, _ => rfl
  | k + 1, l, h => by
    show lw f k (l - amt l (f k)) = lw g k (l - amt l (g k))
    rw [h k (by omega)]
    exact lw_congr k _ (fun i hi => h i (by omega))
theorem aw_congr {f g : Nat → Int32} : ∀ (k : Nat) (l : Int32), (∀ i, i < k → f i = g i) → ∀ i, aw f k l i = aw g k l i
  | 0, l, _, i => rfl
  | k + 1, l, h, i => by
    show (if i = k then amt l (f k) else aw f k (l - amt l (f k)) i) = (if i = k then amt l (g k) else aw g k (l - amt l (g k)) i)
    rw [h k (by omega), aw_congr k _ (fun i hi => h i (by omega)) i]
theorem aw_int {f : Nat → Int32} : ∀ (k : Nat) (l : Int32), 0 ≤ l.toInt → (∀ i, i < k → 0 ≤ (f i).toInt) → (∀ i, i < k → 0 ≤ (aw f k l i).toInt ∧ (aw f k l i).toInt ≤ (f i).toInt ∧ (f i - aw f k l i).toInt = (f i).toInt - (aw f k l i).toInt) ∧ (lw f k l).toInt = l.toInt - sm (fun i => (aw f k l i).toInt) k ∧ 0 ≤ (lw f k l).toInt ∧ (l - lw f k l).toInt = sm (fun i => (aw f k l i).toInt) k
  | 0, l, hl, _ => ⟨fun i hi => by omega, by show l.toInt = l.toInt - 0; omega, hl, by
      show (l - l).toInt = 0
      rw [Int32.sub_self]; rfl⟩
  | k + 1, l, hl, h => by
    obtain ⟨a1, a2, a3, a4, a5, a6⟩ := amt_int hl (h k (by omega))
    obtain ⟨b1, b2, b3, b4⟩ := aw_int (f := f) k (l - amt l (f k)) (by omega) (fun i hi => h i (by omega))
    have e : sm (fun i => (aw f (k + 1) l i).toInt) (k + 1) = sm (fun i => (aw f k (l - amt l (f k)) i).toInt) k + (amt l (f k)).toInt := by
      show sm (fun i => (aw f (k + 1) l i).toInt) k + (if k = k then amt l (f k) else _).toInt = _
      rw [if_pos rfl, sm_congr k (g := fun i => (aw f k (l - amt l (f k)) i).toInt) fun i hi => by
        show (if i = k then amt l (f k) else aw f k (l - amt l (f k)) i).toInt = _
        rw [if_neg (by omega)]]
    have e2 : (lw f (k + 1) l) = lw f k (l - amt l (f k)) := rfl
    have hlt := Int32.toInt_lt l
    have hlq := Int32.toInt_lt (lw f k (l - amt l (f k)))
    refine ⟨fun i hi => ?_, ?_, ?_, ?_⟩
    · show 0 ≤ (if i = k then amt l (f k) else aw f k (l - amt l (f k)) i).toInt ∧ (if i = k then amt l (f k) else aw f k (l - amt l (f k)) i).toInt ≤ _ ∧ (f i - (if i = k then amt l (f k) else aw f k (l - amt l (f k)) i)).toInt = (f i).toInt - (if i = k then amt l (f k) else aw f k (l - amt l (f k)) i).toInt
      by_cases hk : i = k
      · rw [if_pos hk, hk]; exact ⟨a1, a3, a5⟩
      · rw [if_neg hk]; exact b1 i (by omega)
    · rw [e2, b2, e, a4]; omega
    · rw [e2]; exact b3
    · rw [e, e2, sub_toInt (by omega) (by omega), b2, a4]; omega
/-- twice is once -/
theorem aw_two {f : Nat → Int32} : ∀ (k : Nat) (l m s : Int32), 0 ≤ l.toInt → 0 ≤ m.toInt → s.toInt = l.toInt + m.toInt → (∀ i, i < k → 0 ≤ (f i).toInt) → ∀ i, i < k → (f i - aw f k l i) - aw (fun i => f i - aw f k l i) k m i = f i - aw f k s i
  | 0, l, m, s, _, _, _, _, i, hi => by omega
  | k + 1, l, m, s, hl, hm, hs, h, i, hi => by
    obtain ⟨a1, a2, a3, a4, a5, a6⟩ := amt_int hl (h k (by omega))
    have ek : (fun i => f i - aw f (k + 1) l i) k = f k - amt l (f k) := by
      show f k - (if k = k then amt l (f k) else _) = _
      rw [if_pos rfl]
    have hk' : 0 ≤ (f k - amt l (f k)).toInt := by omega
    obtain ⟨b1, b2, b3, b4, b5, b6⟩ := amt_int hm hk'
    obtain ⟨c1, c2, c3, c4, c5, c6⟩ := amt_int (l := s) (by omega) (h k (by omega))
    have key : (amt s (f k)).toInt = (amt l (f k)).toInt + (amt m (f k - amt l (f k))).toInt := by omega
    show (f i - (if i = k then amt l (f k) else aw f k (l - amt l (f k)) i)) - (if i = k then amt m ((fun i => f i - aw f (k + 1) l i) k) else aw (fun i => f i - aw f (k + 1) l i) k (m - amt m ((fun i => f i - aw f (k + 1) l i) k)) i) = f i - (if i = k then amt s (f k) else aw f k (s - amt s (f k)) i)
    rw [ek]
    by_cases hk : i = k
    · subst hk
      rw [if_pos rfl, if_pos rfl, if_pos rfl]
      refine Int32.toInt_inj.mp ?_
      rw [b5, c5, a5, key]; omega
    · rw [if_neg hk, if_neg hk, if_neg hk]
      rw [aw_congr (f := fun i => f i - aw f (k + 1) l i) (g := fun i => f i - aw f k (l - amt l (f k)) i) k _ (fun j hj => by
        show f j - (if j = k then amt l (f k) else aw f k (l - amt l (f k)) j) = _
        rw [if_neg (by omega)]) i]
      exact aw_two k (l - amt l (f k)) (m - amt m (f k - amt l (f k))) (s - amt s (f k)) (by omega) (by omega) (by rw [c4, a4, b4, key]; omega) (fun j hj => h j (by omega)) i (by omega)
theorem pile_at {p i : Nat} : (nI p * 10) + nI i = nI (10 * p + i) := by
  rw [l10]
  simp only [pk_mul, nI_add]
  exact congrArg nI (by omega)
theorem nI_m1' {k : Nat} : nI (k + 1) + (-1) = nI k := by
  have h1 : ((-1 : Int32)) = 0 - nI 1 := by decide
  have h2 : nI (k + 1) + (-1) = nI (k + 1) - 1 := by
    rw [Int32.sub_eq_add_neg]
  rw [h2, nI_m1 (by omega)]
  rfl
theorem v_use_l {p : Nat} (hp : p < 60) (y3 : Int32) : ∀ (k n : Nat) (l y6 : Int32) (C : St), k ≤ 10 → k < n → (k = 0 → y6 = -1) → (∀ j, k = j + 1 → y6 = nI j) → 0 ≤ l.toInt → (∀ i, i < k → 0 ≤ (C 8 (10 * p + i)).toInt) → ∃ C', L_Sk_use_14 n y3 (nI p) l y6 C = some (lw (fun i => C 8 (10 * p + i)) k l, C') ∧ (∀ i, C' 8 i = if 10 * p ≤ i ∧ i < 10 * p + k then C 8 i - aw (fun i => C 8 (10 * p + i)) k l (i - 10 * p) else C 8 i) ∧ ∀ j, j ≠ 8 → C' j = C j
  | 0, n + 1, l, y6, C, hk, hn, h6, _, hl, hf => by
    rw [h6 rfl]
    unfold L_Sk_use_14
    rw [if_pos (by decide)]
    exact ⟨C, rfl, fun i => by rw [if_neg (by omega)], fun j _ => rfl⟩
  | k + 1, n + 1, l, y6, C, hk, hn, _, h6, hl, hf => by
    rw [h6 k rfl]
    unfold L_Sk_use_14
    rw [if_neg (nI_pos (by omega)), pile_at, if_pos (inb_t (by omega) (by omega)), nI_clamp (by omega)]
    by_cases hz : l ≤ 0
    · have hl0 : l = 0 := by
        rw [Int32.le_iff_toInt_le, Int32.toInt_zero] at hz
        exact Int32.toInt_inj.mp (by rw [Int32.toInt_zero]; omega)
      rw [if_pos hz, hl0, lw_0 (k + 1) hf]
      refine ⟨C, rfl, fun i => ?_, fun j _ => rfl⟩
      rw [aw_0 (k + 1) hf]
      by_cases hi : 10 * p ≤ i ∧ i < 10 * p + (k + 1)
      · rw [if_pos hi]; exact (Int32.sub_zero _).symm
      · rw [if_neg hi]
    · rw [if_neg hz]
      obtain ⟨a1, a2, a3, a4, a5, a6⟩ := amt_int hl (hf k (by omega))
      obtain ⟨C', e1, e2, e3⟩ := v_use_l hp y3 k n (l - amt l (C 8 (10 * p + k))) (nI k + (-1)) (mj_wr C 8 (10 * p + k) (C 8 (10 * p + k) - amt l (C 8 (10 * p + k)))) (by omega) (by omega) (fun h => by subst h; decide) (fun j hj => by subst hj; exact nI_m1') (by omega) (fun i hi => by rw [wr_idx _ _ (by omega)]; exact hf i (by omega))
      have hcg : ∀ i, i < k → (fun i => mj_wr C 8 (10 * p + k) (C 8 (10 * p + k) - amt l (C 8 (10 * p + k))) 8 (10 * p + i)) i = (fun i => C 8 (10 * p + i)) i := fun i hi => wr_idx _ _ (by omega)
      refine ⟨C', ?_, fun i => ?_, fun j hj => by rw [e3 j hj, wr_row _ _ hj]⟩
      · rw [lw_congr k _ hcg] at e1
        exact e1
      · rw [e2, aw_congr k _ hcg]
        by_cases hi : 10 * p ≤ i ∧ i < 10 * p + k
        · rw [if_pos hi, if_pos (by omega), wr_idx _ _ (by omega)]
          show _ = C 8 i - (if i - 10 * p = k then _ else aw (fun i => C 8 (10 * p + i)) k (l - amt l (C 8 (10 * p + k))) (i - 10 * p))
          rw [if_neg (by omega)]
        · rw [if_neg hi]
          by_cases hik : i = 10 * p + k
          · subst hik
            rw [wr_same, if_pos (by omega)]
            show _ = C 8 (10 * p + k) - (if 10 * p + k - 10 * p = k then amt l (C 8 (10 * p + k)) else _)
            rw [if_pos (by omega)]
          · rw [wr_idx _ _ hik, if_neg (by omega)]
theorem v_use {C : St} {a g : Nat} (ha : a < 12) (hg : g < 5) {m : Int32} (hm : 0 ≤ m.toInt) (hf : ∀ i, i < 10 → 0 ≤ (C 8 (10 * (5 * a + g) + i)).toInt) : ∃ C', f_Sk_use (nI a) (nI g) m C = some C' ∧ (∀ i, C' 8 i = if 10 * (5 * a + g) ≤ i ∧ i < 10 * (5 * a + g) + 10 then C 8 i - aw (fun i => C 8 (10 * (5 * a + g) + i)) 10 m (i - 10 * (5 * a + g)) else C 8 i) ∧ C' 9 = up (C 9) (5 * a + g) (C 9 (5 * a + g) - (m - lw (fun i => C 8 (10 * (5 * a + g) + i)) 10 m)) ∧ ∀ j, j ≠ 8 → j ≠ 9 → C' j = C j := by
  have e : (nI a * 5) + nI g = nI (5 * a + g) := by
    rw [l5]
    simp only [pk_mul, nI_add]
    exact congrArg nI (by omega)
  obtain ⟨C', e1, e2, e3⟩ := v_use_l (p := 5 * a + g) (by omega) m 10 3000 m 9 C (by omega) (by omega) (by omega) (fun j hj => by rw [show j = 9 by omega]; rfl) hm hf
  unfold f_Sk_use
  rw [e, e1, bd2_s, if_pos (inb_t (by omega) (by omega)), nI_clamp (by omega)]
  refine ⟨_, rfl, fun i => ?_, ?_, fun j h8 h9 => ?_⟩
  · rw [wr_cell _ _ (by omega)]; exact e2 i
  · rw [wr_up, e3 9 (by omega)]
  · rw [wr_row _ _ h9, e3 j h8]
theorem v_carry_l {p q : Nat} (hp : p < 60) (hq : q < 60) (y4 : Int32) : ∀ (k n : Nat) (l y6 : Int32) (C : St), k ≤ 10 → k < n → (k = 0 → y6 = -1) → (∀ j, k = j + 1 → y6 = nI j) → 0 ≤ l.toInt → (∀ i, i < k → 0 ≤ (C 8 (10 * p + i)).toInt) → ∃ C', L_Sk_carry_22 n y4 (nI p) (nI q) l y6 C = some (lw (fun i => C 8 (10 * p + i)) k l, C') ∧ (∀ i, C' 8 i = (if 10 * p ≤ i ∧ i < 10 * p + k then C 8 i - aw (fun i => C 8 (10 * p + i)) k l (i - 10 * p) else C 8 i) + (if 10 * q ≤ i ∧ i < 10 * q + k then aw (fun i => C 8 (10 * p + i)) k l (i - 10 * q) else 0)) ∧ ∀ j, j ≠ 8 → C' j = C j
  | 0, n + 1, l, y6, C, hk, hn, h6, _, hl, hf => by
    rw [h6 rfl]
    unfold L_Sk_carry_22
    rw [if_pos (by decide)]
    exact ⟨C, rfl, fun i => by rw [if_neg (by omega), if_neg (by omega)]; exact (Int32.add_zero _).symm, fun j _ => rfl⟩
  | k + 1, n + 1, l, y6, C, hk, hn, _, h6, hl, hf => by
    rw [h6 k rfl]
    unfold L_Sk_carry_22
    rw [if_neg (nI_pos (by omega)), pile_at, pile_at, if_pos (inb_t (by omega) (by omega)), if_pos (inb_t (by omega) (by omega)), nI_clamp (by omega), nI_clamp (by omega)]
    by_cases hz : l ≤ 0
    · have hl0 : l = 0 := by
        rw [Int32.le_iff_toInt_le, Int32.toInt_zero] at hz
        exact Int32.toInt_inj.mp (by rw [Int32.toInt_zero]; omega)
      rw [if_pos hz, hl0, lw_0 (k + 1) hf]
      refine ⟨C, rfl, fun i => ?_, fun j _ => rfl⟩
      rw [aw_0 (k + 1) hf, aw_0 (k + 1) hf]
      have e0 : (if 10 * q ≤ i ∧ i < 10 * q + (k + 1) then (0 : Int32) else 0) = 0 := by
        by_cases hi : 10 * q ≤ i ∧ i < 10 * q + (k + 1)
        · rw [if_pos hi]
        · rw [if_neg hi]
      rw [e0, Int32.add_zero]
      by_cases hi : 10 * p ≤ i ∧ i < 10 * p + (k + 1)
      · rw [if_pos hi]; exact (Int32.sub_zero _).symm
      · rw [if_neg hi]
    · rw [if_neg hz]
      obtain ⟨a1, a2, a3, a4, a5, a6⟩ := amt_int hl (hf k (by omega))
      generalize hX : mj_wr (mj_wr C 8 (10 * p + k) (C 8 (10 * p + k) - amt l (C 8 (10 * p + k)))) 8 (10 * q + k) (mj_wr C 8 (10 * p + k) (C 8 (10 * p + k) - amt l (C 8 (10 * p + k))) 8 (10 * q + k) + amt l (C 8 (10 * p + k))) = X
      have hX8 : ∀ i, X 8 i = (if i = 10 * p + k then C 8 i - amt l (C 8 (10 * p + k)) else C 8 i) + (if i = 10 * q + k then amt l (C 8 (10 * p + k)) else 0) := by
        intro i
        rw [← hX, wr_at, wr_at, wr_at]
        by_cases h1 : i = 10 * q + k
        · rw [if_pos h1, if_pos h1, ← h1]
          by_cases h2 : i = 10 * p + k
          · rw [if_pos h2, if_pos h2, ← h2]
          · rw [if_neg h2, if_neg h2]
        · rw [if_neg h1, if_neg h1, Int32.add_zero]
          by_cases h2 : i = 10 * p + k
          · rw [if_pos h2, if_pos h2, ← h2]
          · rw [if_neg h2, if_neg h2]
      have hXj : ∀ j, j ≠ 8 → X j = C j := fun j hj => by rw [← hX, wr_row _ _ hj, wr_row _ _ hj]
      have hcg : ∀ i, i < k → (fun i => X 8 (10 * p + i)) i = (fun i => C 8 (10 * p + i)) i := fun i hi => by
        show X 8 (10 * p + i) = C 8 (10 * p + i)
        rw [hX8, if_neg (by omega), if_neg (by omega), Int32.add_zero]
      obtain ⟨C', e1, e2, e3⟩ := v_carry_l hp hq y4 k n (l - amt l (C 8 (10 * p + k))) (nI k + (-1)) X (by omega) (by omega) (fun h => by subst h; decide) (fun j hj => by subst hj; exact nI_m1') (by omega) (fun i hi => by rw [show X 8 (10 * p + i) = C 8 (10 * p + i) from hcg i hi]; exact hf i (by omega))
      rw [lw_congr k _ hcg] at e1
      refine ⟨C', ?_, fun i => ?_, fun j hj => by rw [e3 j hj, hXj j hj]⟩
      · rw [show (mj_wr (mj_wr C 8 (10 * p + k) (C 8 (10 * p + k) - (if C 8 (10 * p + k) < l then C 8 (10 * p + k) else l : Int32))) 8 (10 * q + k) (mj_wr C 8 (10 * p + k) (C 8 (10 * p + k) - (if C 8 (10 * p + k) < l then C 8 (10 * p + k) else l : Int32)) 8 (10 * q + k) + (if C 8 (10 * p + k) < l then C 8 (10 * p + k) else l : Int32))) = X from hX]
        exact e1
      · rw [e2, aw_congr k _ hcg, aw_congr k _ hcg, hX8]
        have A1 : ∀ x, x < k → aw (fun i => C 8 (10 * p + i)) (k + 1) l x = aw (fun i => C 8 (10 * p + i)) k (l - amt l (C 8 (10 * p + k))) x := fun x hx => by
          show (if x = k then _ else aw (fun i => C 8 (10 * p + i)) k (l - amt l (C 8 (10 * p + k))) x) = _
          rw [if_neg (by omega)]
        have A2 : aw (fun i => C 8 (10 * p + i)) (k + 1) l k = amt l (C 8 (10 * p + k)) := if_pos rfl
        by_cases s1 : 10 * p ≤ i ∧ i < 10 * p + k
        · rw [if_pos s1, if_neg (show ¬ i = 10 * p + k by omega), if_pos (show 10 * p ≤ i ∧ i < 10 * p + (k + 1) by omega), A1 _ (by omega)]
          by_cases t1 : 10 * q ≤ i ∧ i < 10 * q + k
          · rw [if_pos t1, if_neg (show ¬ i = 10 * q + k by omega), if_pos (show 10 * q ≤ i ∧ i < 10 * q + (k + 1) by omega), A1 _ (by omega), Int32.add_zero]
          · rw [if_neg t1, if_neg (show ¬ i = 10 * q + k by omega), if_neg (show ¬ (10 * q ≤ i ∧ i < 10 * q + (k + 1)) by omega)]
            simp only [Int32.add_zero]
        · rw [if_neg s1]
          by_cases s2 : i = 10 * p + k
          · rw [if_pos s2, if_pos (show 10 * p ≤ i ∧ i < 10 * p + (k + 1) by omega), show i - 10 * p = k by omega, A2]
            by_cases t2 : i = 10 * q + k
            · rw [if_pos t2, if_neg (show ¬ (10 * q ≤ i ∧ i < 10 * q + k) by omega), if_pos (show 10 * q ≤ i ∧ i < 10 * q + (k + 1) by omega), show i - 10 * q = k by omega, A2, Int32.add_zero]
            · rw [if_neg t2, if_neg (show ¬ (10 * q ≤ i ∧ i < 10 * q + k) by omega), if_neg (show ¬ (10 * q ≤ i ∧ i < 10 * q + (k + 1)) by omega), Int32.add_zero]
          · rw [if_neg s2, if_neg (show ¬ (10 * p ≤ i ∧ i < 10 * p + (k + 1)) by omega)]
            by_cases t2 : i = 10 * q + k
            · rw [if_pos t2, if_neg (show ¬ (10 * q ≤ i ∧ i < 10 * q + k) by omega), if_pos (show 10 * q ≤ i ∧ i < 10 * q + (k + 1) by omega), show i - 10 * q = k by omega, A2, Int32.add_zero]
            · rw [if_neg t2, Int32.add_zero]
              by_cases t1 : 10 * q ≤ i ∧ i < 10 * q + k
              · rw [if_pos t1, if_pos (show 10 * q ≤ i ∧ i < 10 * q + (k + 1) by omega), A1 _ (by omega)]
              · rw [if_neg t1, if_neg (show ¬ (10 * q ≤ i ∧ i < 10 * q + (k + 1)) by omega)]
theorem v_carry {C : St} {a b g : Nat} (ha : a < 12) (hb : b < 12) (hg : g < 5) {m : Int32} (hm : 0 ≤ m.toInt) (hf : ∀ i, i < 10 → 0 ≤ (C 8 (10 * (5 * a + g) + i)).toInt) : ∃ C', f_Sk_carry (nI a) (nI b) (nI g) m C = some C' ∧ (∀ i, C' 8 i = (if 10 * (5 * a + g) ≤ i ∧ i < 10 * (5 * a + g) + 10 then C 8 i - aw (fun i => C 8 (10 * (5 * a + g) + i)) 10 m (i - 10 * (5 * a + g)) else C 8 i) + (if 10 * (5 * b + g) ≤ i ∧ i < 10 * (5 * b + g) + 10 then aw (fun i => C 8 (10 * (5 * a + g) + i)) 10 m (i - 10 * (5 * b + g)) else 0)) ∧ C' 9 = py (C 9) (5 * a + g) (5 * b + g) (m - lw (fun i => C 8 (10 * (5 * a + g) + i)) 10 m) ∧ ∀ j, j ≠ 8 → j ≠ 9 → C' j = C j := by
  have e : ∀ a : Nat, (nI a * 5) + nI g = nI (5 * a + g) := fun a => by
    rw [l5]
    simp only [pk_mul, nI_add]
    exact congrArg nI (by omega)
  obtain ⟨C', e1, e2, e3⟩ := v_carry_l (p := 5 * a + g) (q := 5 * b + g) (by omega) (by omega) m 10 3000 m 9 C (by omega) (by omega) (by omega) (fun j hj => by rw [show j = 9 by omega]; rfl) hm hf
  unfold f_Sk_carry
  rw [e, e, e1, bd2_s, if_pos (inb_t (by omega) (by omega)), if_pos (inb_t (by omega) (by omega)), nI_clamp (by omega), nI_clamp (by omega)]
  refine ⟨_, rfl, fun i => ?_, ?_, fun j h8 h9 => ?_⟩
  · rw [wr_cell _ _ (by omega), wr_cell _ _ (by omega)]; exact e2 i
  · rw [wr_up, wr_up, e3 9 (by omega)]
    rfl
  · rw [wr_row _ _ h9, wr_row _ _ h9, e3 j h8]
