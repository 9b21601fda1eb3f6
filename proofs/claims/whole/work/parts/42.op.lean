/-! PURE: a day's steps: the model's go; both sides -/
theorem m_less (x y : Int32) : f_Md_less x y = some (amt x y) := by
  unfold f_Md_less
  rw [amt_less]
theorem m_go_l {a g p : Nat} (hp : p = 5 * a + g) (ha : a < 12) (hg : g < 5) (y4 : Int32) : ∀ (k n : Nat) (l y6 : Int32) (D : St), k ≤ 10 → k < n → (k = 0 → y6 = -1) → (∀ j, k = j + 1 → y6 = nI j) → ∃ D', L_Md_go_7 n (nI a) (nI g) y4 l y6 D = some D' ∧ (∀ i, D' 89 i = if 60 + 10 * p ≤ i ∧ i < 60 + 10 * p + k then D 89 i - aw (fun i => D 89 (60 + 10 * p + i)) k l (i - (60 + 10 * p)) else D 89 i) ∧ (∀ j, j ≠ 89 → j ≠ 101 → D' j = D j) ∧ (¬ y4 < 0 → ∀ i, D' 101 i = if i < k then aw (fun i => D 89 (60 + 10 * p + i)) k l i else D 101 i)
  | 0, n + 1, l, y6, D, hk, hn, h6, _ => by
    rw [h6 rfl]
    unfold L_Md_go_7
    rw [if_pos (by decide)]
    exact ⟨D, rfl, fun i => by rw [if_neg (by omega)], fun j _ _ => rfl, fun _ i => by rw [if_neg (by omega)]⟩
  | k + 1, n + 1, l, y6, D, hk, hn, _, h6 => by
    rw [h6 k rfl]
    have ei : 60 + (10 * (5 * a + g) + k) = 60 + 10 * p + k := by omega
    unfold L_Md_go_7
    rw [if_neg (nI_pos (by omega)), m_ageAt, bd1_s, ei, if_pos (inb_t (by omega) (by omega)), nI_clamp (by omega), m_less, bd1_s, bd1_s, if_pos (inb_t (by omega) (by omega)), nI_clamp (show 60 + 10 * p + k < 2 ^ 31 by omega)]
    have A1 : ∀ x, x < k → aw (fun i => D 89 (60 + 10 * p + i)) (k + 1) l x = aw (fun i => D 89 (60 + 10 * p + i)) k (l - amt l (D 89 (60 + 10 * p + k))) x := fun x hx => by
      show (if x = k then _ else aw (fun i => D 89 (60 + 10 * p + i)) k (l - amt l (D 89 (60 + 10 * p + k))) x) = _
      rw [if_neg (by omega)]
    have A2 : aw (fun i => D 89 (60 + 10 * p + i)) (k + 1) l k = amt l (D 89 (60 + 10 * p + k)) := if_pos rfl
    have main : ∀ X : St, (∀ i, X 89 i = if i = 60 + 10 * p + k then D 89 i - amt l (D 89 (60 + 10 * p + k)) else D 89 i) → (∀ j, j ≠ 89 → j ≠ 101 → X j = D j) → (¬ y4 < 0 → ∀ i, X 101 i = if i = k then amt l (D 89 (60 + 10 * p + k)) else D 101 i) → ∃ D', L_Md_go_7 n (nI a) (nI g) y4 (l - amt l (D 89 (60 + 10 * p + k))) (nI k + (-1)) X = some D' ∧ (∀ i, D' 89 i = if 60 + 10 * p ≤ i ∧ i < 60 + 10 * p + (k + 1) then D 89 i - aw (fun i => D 89 (60 + 10 * p + i)) (k + 1) l (i - (60 + 10 * p)) else D 89 i) ∧ (∀ j, j ≠ 89 → j ≠ 101 → D' j = D j) ∧ (¬ y4 < 0 → ∀ i, D' 101 i = if i < k + 1 then aw (fun i => D 89 (60 + 10 * p + i)) (k + 1) l i else D 101 i) := by
      intro X x1 x2 x3
      obtain ⟨D', e1, e2, e3, e4⟩ := m_go_l hp ha hg y4 k n (l - amt l (D 89 (60 + 10 * p + k))) (nI k + (-1)) X (by omega) (by omega) (fun h => by subst h; decide) (fun j hj => by subst hj; exact nI_m1')
      have hcg : ∀ i, i < k → (fun i => X 89 (60 + 10 * p + i)) i = (fun i => D 89 (60 + 10 * p + i)) i := fun i hi => by
        show X 89 (60 + 10 * p + i) = D 89 (60 + 10 * p + i)
        rw [x1, if_neg (by omega)]
      refine ⟨D', e1, fun i => ?_, fun j h1 h2 => by rw [e3 j h1 h2, x2 j h1 h2], fun hy i => ?_⟩
      · rw [e2, aw_congr k _ hcg, x1]
        by_cases s1 : 60 + 10 * p ≤ i ∧ i < 60 + 10 * p + k
        · rw [if_pos s1, if_neg (show ¬ i = 60 + 10 * p + k by omega), if_pos (show 60 + 10 * p ≤ i ∧ i < 60 + 10 * p + (k + 1) by omega), A1 _ (by omega)]
        · rw [if_neg s1]
          by_cases s2 : i = 60 + 10 * p + k
          · rw [if_pos s2, if_pos (show 60 + 10 * p ≤ i ∧ i < 60 + 10 * p + (k + 1) by omega), show i - (60 + 10 * p) = k by omega, A2]
          · rw [if_neg s2, if_neg (show ¬ (60 + 10 * p ≤ i ∧ i < 60 + 10 * p + (k + 1)) by omega)]
      · rw [e4 hy, aw_congr k _ hcg, x3 hy]
        by_cases s1 : i < k
        · rw [if_pos s1, if_pos (show i < k + 1 by omega), A1 _ s1]
        · rw [if_neg s1]
          by_cases s2 : i = k
          · rw [if_pos s2, if_pos (show i < k + 1 by omega), s2, A2]
          · rw [if_neg s2, if_neg (show ¬ i < k + 1 by omega)]
    have w0 : ∀ i, mj_wr D 89 (60 + 10 * p + k) (D 89 (60 + 10 * p + k) - amt l (D 89 (60 + 10 * p + k))) 89 i = if i = 60 + 10 * p + k then D 89 i - amt l (D 89 (60 + 10 * p + k)) else D 89 i := by
      intro i
      rw [wr_at]
      by_cases h : i = 60 + 10 * p + k
      · rw [if_pos h, if_pos h, ← h]
      · rw [if_neg h, if_neg h]
    by_cases hy : y4 < 0
    · rw [if_pos hy, bd1_s]
      exact main _ w0 (fun j h1 h2 => wr_row _ _ h1) (fun h => absurd hy h)
    · rw [if_neg hy, if_pos (inb_t (by omega) (by omega)), nI_clamp (show k < 2 ^ 31 by omega), bd1_s]
      exact main _ (fun i => by rw [wr_cell _ _ (by omega)]; exact w0 i) (fun j h1 h2 => by rw [wr_row _ _ h2, wr_row _ _ h1]) (fun _ i => by rw [wr_at, wr_cell _ _ (by omega)])
theorem m_go78_l {b g q : Nat} (hq : q = 5 * b + g) (hb : b < 12) (hg : g < 5) : ∀ (m k n : Nat) (D : St), k + m = 10 → m < n → ∃ D', L_Md_go_78 n (nI g) (nI b) (nI k) D = some D' ∧ (∀ i, D' 89 i = if 60 + 10 * q + k ≤ i ∧ i < 60 + 10 * q + 10 then D 89 i + D 101 (i - (60 + 10 * q)) else D 89 i) ∧ (∀ j, j ≠ 89 → D' j = D j)
  | 0, k, n + 1, D, hk, hn => by
    obtain rfl : k = 10 := by omega
    unfold L_Md_go_78
    rw [if_pos (by decide)]
    exact ⟨D, rfl, fun i => by rw [if_neg (by omega)], fun j _ => rfl⟩
  | m + 1, k, n + 1, D, hk, hn => by
    have ei : 60 + (10 * (5 * b + g) + k) = 60 + 10 * q + k := by omega
    unfold L_Md_go_78
    rw [if_neg (by rw [l10]; exact nI_ge (by omega) (by omega)), if_neg (nI_pos (by omega)), m_ageAt, bd1_s, ei, if_pos (inb_t (by omega) (by omega)), if_pos (inb_t (by omega) (by omega)), nI_clamp (by omega), nI_clamp (by omega), nI_1]
    obtain ⟨D', e1, e2, e3⟩ := m_go78_l hq hb hg m (k + 1) n (mj_wr D 89 (60 + 10 * q + k) (D 89 (60 + 10 * q + k) + D 101 k)) (by omega) (by omega)
    refine ⟨D', e1, fun i => ?_, fun j hj => by rw [e3 j hj, wr_row _ _ hj]⟩
    rw [e2, wr_at, wr_cell _ _ (by omega)]
    by_cases s1 : 60 + 10 * q + (k + 1) ≤ i ∧ i < 60 + 10 * q + 10
    · rw [if_pos s1, if_neg (show ¬ i = 60 + 10 * q + k by omega), if_pos (show 60 + 10 * q + k ≤ i ∧ i < 60 + 10 * q + 10 by omega)]
    · rw [if_neg s1]
      by_cases s2 : i = 60 + 10 * q + k
      · rw [if_pos s2, if_pos (show 60 + 10 * q + k ≤ i ∧ i < 60 + 10 * q + 10 by omega), s2, show 60 + 10 * q + k - (60 + 10 * q) = k by omega]
      · rw [if_neg s2, if_neg (show ¬ (60 + 10 * q + k ≤ i ∧ i < 60 + 10 * q + 10) by omega)]
theorem m_go0 {D : St} {a g : Nat} (ha : a < 12) (hg : g < 5) (m : Int32) : ∃ D', f_Md_go (nI a) (nI g) m (-1) D = some D' ∧ (∀ i, D' 89 i = if 60 + 10 * (5 * a + g) ≤ i ∧ i < 60 + 10 * (5 * a + g) + 10 then D 89 i - aw (fun i => D 89 (60 + 10 * (5 * a + g) + i)) 10 m (i - (60 + 10 * (5 * a + g))) else D 89 i) ∧ (∀ j, j ≠ 89 → j ≠ 101 → D' j = D j) := by
  obtain ⟨D', e1, e2, e3, -⟩ := m_go_l (p := 5 * a + g) rfl ha hg (-1) 10 3000 m 9 D (by omega) (by omega) (by omega) (fun j hj => by rw [show j = 9 by omega]; rfl)
  unfold f_Md_go
  rw [e1, bd1_s]
  have e4 : L_Md_go_78 3000 (nI g) (-1) 0 D' = some D' := by
    unfold L_Md_go_78
    rw [if_neg (by decide), if_pos (by decide)]
  rw [e4, bd1_s]
  exact ⟨D', rfl, e2, e3⟩
theorem m_go1 {D : St} {a b g : Nat} (ha : a < 12) (hb : b < 12) (hg : g < 5) (m : Int32) : ∃ D', f_Md_go (nI a) (nI g) m (nI b) D = some D' ∧ (∀ i, D' 89 i = (if 60 + 10 * (5 * a + g) ≤ i ∧ i < 60 + 10 * (5 * a + g) + 10 then D 89 i - aw (fun i => D 89 (60 + 10 * (5 * a + g) + i)) 10 m (i - (60 + 10 * (5 * a + g))) else D 89 i) + (if 60 + 10 * (5 * b + g) ≤ i ∧ i < 60 + 10 * (5 * b + g) + 10 then aw (fun i => D 89 (60 + 10 * (5 * a + g) + i)) 10 m (i - (60 + 10 * (5 * b + g))) else 0)) ∧ (∀ j, j ≠ 89 → j ≠ 101 → D' j = D j) := by
  obtain ⟨D1, e1, e2, e3, e4⟩ := m_go_l (p := 5 * a + g) rfl ha hg (nI b) 10 3000 m 9 D (by omega) (by omega) (by omega) (fun j hj => by rw [show j = 9 by omega]; rfl)
  obtain ⟨D2, f1, f2, f3⟩ := m_go78_l (q := 5 * b + g) rfl hb hg 10 0 3000 D1 rfl (by omega)
  unfold f_Md_go
  rw [e1, bd1_s, show L_Md_go_78 3000 (nI g) (nI b) 0 D1 = _ from f1, bd1_s]
  refine ⟨D2, rfl, fun i => ?_, fun j h1 h2 => by rw [f3 j h1, e3 j h1 h2]⟩
  rw [f2, e2, e4 (nI_pos (by omega)), Nat.add_zero]
  by_cases t1 : 60 + 10 * (5 * b + g) ≤ i ∧ i < 60 + 10 * (5 * b + g) + 10
  · rw [if_pos t1, if_pos t1, if_pos (show i - (60 + 10 * (5 * b + g)) < 10 by omega)]
  · rw [if_neg t1, if_neg t1, Int32.add_zero]
/-- blocks of ten -/
theorem sm_blk {f : Nat → Int} : ∀ (m : Nat), sm f (10 * m) = sm (fun p => sm (fun k => f (10 * p + k)) 10) m
  | 0 => rfl
  | m + 1 => by
    rw [show 10 * (m + 1) = 10 * m + 10 by omega, sm_add, sm_blk m]
    rfl
theorem PS.tot {C : St} {n B : Nat} (h : PS C n B) : sm (fun p => (C 9 p).toInt) 60 ≤ B := by
  have := h.2.2.1
  rw [show 600 = 10 * 60 by omega, sm_blk] at this
  rw [sm_congr 60 (g := fun p => sm (fun k => (C 8 (10 * p + k)).toInt) 10) h.2.2.2]
  exact this
theorem PS.of {C : St} {n B : Nat} (h1 : ∀ i, i < 600 → 0 ≤ (C 8 i).toInt) (h2 : ∀ i, 50 * n ≤ i → i < 600 → C 8 i = 0) (h3 : sm (fun p => (C 9 p).toInt) 60 ≤ B) (h4 : ∀ p, p < 60 → (C 9 p).toInt = sm (fun k => (C 8 (10 * p + k)).toInt) 10) : PS C n B := by
  refine ⟨h1, h2, ?_, h4⟩
  rw [show 600 = 10 * 60 by omega, sm_blk]
  rw [sm_congr 60 (g := fun p => sm (fun k => (C 8 (10 * p + k)).toInt) 10) h4] at h3
  exact h3
theorem sm_sub {f g : Nat → Int} : ∀ (n : Nat), sm (fun i => f i - g i) n = sm f n - sm g n
  | 0 => rfl
  | n + 1 => by
    show sm (fun i => f i - g i) n + (f n - g n) = (sm f n + f n) - (sm g n + g n)
    rw [sm_sub n]; omega
theorem sm_plus {f g : Nat → Int} : ∀ (n : Nat), sm (fun i => f i + g i) n = sm f n + sm g n
  | 0 => rfl
  | n + 1 => by
    show sm (fun i => f i + g i) n + (f n + g n) = (sm f n + f n) + (sm g n + g n)
    rw [sm_plus n]; omega
theorem sm_mono {f g : Nat → Int} : ∀ (n : Nat), (∀ i, i < n → f i ≤ g i) → sm f n ≤ sm g n
  | 0, _ => Int.le_refl 0
  | n + 1, h => by
    show sm f n + f n ≤ sm g n + g n
    have := sm_mono n (fun i hi => h i (by omega))
    have := h n (by omega)
    omega
theorem ps_use {C C' : St} {n B p : Nat} (h : PS C n B) (hB : B < 2147483647) (hp : p < 60) {m : Int32} (hm : 0 ≤ m.toInt) (h8 : ∀ i, C' 8 i = if 10 * p ≤ i ∧ i < 10 * p + 10 then C 8 i - aw (fun i => C 8 (10 * p + i)) 10 m (i - 10 * p) else C 8 i) (h9 : C' 9 = up (C 9) p (C 9 p - (m - lw (fun i => C 8 (10 * p + i)) 10 m))) : PS C' n B ∧ (m.toInt ≤ (C 9 p).toInt → (C' 9 p).toInt = (C 9 p).toInt - m.toInt) := by
  obtain ⟨a1, a2, a3, a4⟩ := aw_int (f := fun i => C 8 (10 * p + i)) 10 m hm (fun i hi => h.1 _ (by omega))
  have b := ps_sum h hp
  have hs : sm (fun i => (aw (fun i => C 8 (10 * p + i)) 10 m i).toInt) 10 ≤ (C 9 p).toInt := by
    rw [h.2.2.2 p hp]
    exact sm_mono 10 fun i hi => (a1 i hi).2.1
  have h0 : 0 ≤ sm (fun i => (aw (fun i => C 8 (10 * p + i)) 10 m i).toInt) 10 := sm_nonneg 10 fun i hi => (a1 i hi).1
  have e9 : (C 9 p - (m - lw (fun i => C 8 (10 * p + i)) 10 m)).toInt = (C 9 p).toInt - sm (fun i => (aw (fun i => C 8 (10 * p + i)) 10 m i).toInt) 10 := by
    rw [sub_toInt (by rw [a4]; omega) (by rw [a4]; omega), a4]
  have e8 : ∀ i, i < 10 → (C' 8 (10 * p + i)).toInt = (C 8 (10 * p + i)).toInt - (aw (fun i => C 8 (10 * p + i)) 10 m i).toInt := fun i hi => by
    rw [h8, if_pos (by omega), show 10 * p + i - 10 * p = i by omega, (a1 i hi).2.2]
  refine ⟨PS.of (fun i hi => ?_) (fun i h1 h2 => ?_) ?_ (fun q hq => ?_), fun hle => ?_⟩
  · rw [h8]
    by_cases s : 10 * p ≤ i ∧ i < 10 * p + 10
    · have e := e8 (i - 10 * p) (by omega)
      have a := a1 (i - 10 * p) (by omega)
      rw [h8, show 10 * p + (i - 10 * p) = i by omega] at e
      rw [show 10 * p + (i - 10 * p) = i by omega] at a
      omega
    · rw [if_neg s]; exact h.1 i hi
  · rw [h8, h.2.1 i h1 h2]
    by_cases s : 10 * p ≤ i ∧ i < 10 * p + 10
    · have a := a1 (i - 10 * p) (by omega)
      have z : C 8 (10 * p + (i - 10 * p)) = 0 := by
        rw [show 10 * p + (i - 10 * p) = i by omega]; exact h.2.1 i h1 h2
      rw [z] at a
      have : aw (fun i => C 8 (10 * p + i)) 10 m (i - 10 * p) = 0 := Int32.toInt_inj.mp (by rw [Int32.toInt_zero]; have : (0 : Int32).toInt = 0 := rfl; omega)
      rw [if_pos s, this]; rfl
    · rw [if_neg s]
  · rw [h9]
    have : sm (fun x => (up (C 9) p (C 9 p - (m - lw (fun i => C 8 (10 * p + i)) 10 m)) x).toInt) 60 = sm (fun i => if i = p then (C 9 p).toInt - sm (fun i => (aw (fun i => C 8 (10 * p + i)) 10 m i).toInt) 10 else (C 9 i).toInt) 60 := sm_congr 60 fun i hi => by
      unfold up
      by_cases hi : i = p
      · rw [if_pos hi, if_pos hi, e9]
      · rw [if_neg hi, if_neg hi]
    rw [this, sm_upd, if_pos hp]
    have := h.tot
    omega
  · by_cases hqp : q = p
    · subst hqp
      rw [h9, up_same, e9, sm_congr 10 e8, sm_sub, h.2.2.2 q hq]
    · rw [h9, up_ne _ _ hqp, h.2.2.2 q hq]
      exact sm_congr 10 fun k hk => by rw [h8, if_neg (by omega)]
  · rw [h9, up_same, e9]
    have key : ∀ (k : Nat) (l : Int32), 0 ≤ l.toInt → (∀ i, i < k → 0 ≤ (C 8 (10 * p + i)).toInt) → l.toInt ≤ sm (fun i => (C 8 (10 * p + i)).toInt) k → (lw (fun i => C 8 (10 * p + i)) k l).toInt = 0 := by
      intro k
      induction k with
      | zero => intro l h0 _ h1; have : sm (fun i => (C 8 (10 * p + i)).toInt) 0 = 0 := rfl; show l.toInt = 0; omega
      | succ k ih =>
        intro l h0 hf h1
        obtain ⟨c1, c2, c3, c4, c5, c6⟩ := amt_int h0 (hf k (by omega))
        have h1' : l.toInt ≤ sm (fun i => (C 8 (10 * p + i)).toInt) k + (C 8 (10 * p + k)).toInt := h1
        have hnn := sm_nonneg (f := fun i => (C 8 (10 * p + i)).toInt) k (fun i hi => hf i (by omega))
        exact ih (l - amt l (C 8 (10 * p + k))) (by omega) (fun i hi => hf i (by omega)) (by omega)
    have := key 10 m hm (fun i hi => h.1 _ (by omega)) (by rw [← h.2.2.2 p hp]; exact hle)
    omega
theorem ps_carry {C C' : St} {n B p q : Nat} (h : PS C n B) (hB : B < 2147483647) (hn : n ≤ 12) (hp : p < 5 * n) (hq : q < 5 * n) {m : Int32} (hm : 0 ≤ m.toInt) (h8 : ∀ i, C' 8 i = (if 10 * p ≤ i ∧ i < 10 * p + 10 then C 8 i - aw (fun i => C 8 (10 * p + i)) 10 m (i - 10 * p) else C 8 i) + (if 10 * q ≤ i ∧ i < 10 * q + 10 then aw (fun i => C 8 (10 * p + i)) 10 m (i - 10 * q) else 0)) (h9 : C' 9 = py (C 9) p q (m - lw (fun i => C 8 (10 * p + i)) 10 m)) : PS C' n B := by
  obtain ⟨a1, a2, a3, a4⟩ := aw_int (f := fun i => C 8 (10 * p + i)) 10 m hm (fun i hi => h.1 _ (by omega))
  have b := ps_sum h (show p < 60 by omega)
  have bq := ps_sum h (show q < 60 by omega)
  have hs : sm (fun i => (aw (fun i => C 8 (10 * p + i)) 10 m i).toInt) 10 ≤ (C 9 p).toInt := by
    rw [h.2.2.2 p (by omega)]
    exact sm_mono 10 fun i hi => (a1 i hi).2.1
  have h0 : 0 ≤ sm (fun i => (aw (fun i => C 8 (10 * p + i)) 10 m i).toInt) 10 := sm_nonneg 10 fun i hi => (a1 i hi).1
  have ht := h.tot
  obtain ⟨p1, p2, p3, p4, p5, p6, -⟩ := py_int (f := C 9) (N := 60) (a := p) (b := q) (v := m - lw (fun i => C 8 (10 * p + i)) 10 m) (fun x hx => (ps_sum h hx).1) (by omega) (by omega) (by omega) (by rw [a4]; exact h0) (by rw [a4]; exact hs)
  by_cases hpq : p = q
  · subst hpq
    have z8 : ∀ i, C' 8 i = C 8 i := fun i => by
      rw [h8]
      by_cases s : 10 * p ≤ i ∧ i < 10 * p + 10
      · rw [if_pos s, if_pos s]
        exact Int32.sub_add_cancel _ _
      · rw [if_neg s, if_neg s, Int32.add_zero]
    have z9 : ∀ i, C' 9 i = C 9 i := fun i => by rw [h9]; exact p6 rfl i
    refine PS.of (fun i hi => by rw [z8]; exact h.1 i hi) (fun i x y => by rw [z8]; exact h.2.1 i x y) ?_ (fun q hq => ?_)
    · rw [sm_congr 60 (g := fun x => (C 9 x).toInt) (fun i _ => by rw [z9])]; exact ht
    · rw [z9, h.2.2.2 q hq]
      exact sm_congr 10 fun k _ => by rw [z8]
  · have eP : ∀ i, i < 10 → (C' 8 (10 * p + i)).toInt = (C 8 (10 * p + i)).toInt - (aw (fun i => C 8 (10 * p + i)) 10 m i).toInt := fun i hi => by
      rw [h8, if_pos (by omega), if_neg (by omega), Int32.add_zero, show 10 * p + i - 10 * p = i by omega, (a1 i hi).2.2]
    have eQ : ∀ i, i < 10 → (C' 8 (10 * q + i)).toInt = (C 8 (10 * q + i)).toInt + (aw (fun i => C 8 (10 * p + i)) 10 m i).toInt := fun i hi => by
      have u1 := ps_le h (show 10 * q + i < 600 by omega)
      have u2 := h.1 (10 * q + i) (by omega)
      have u3 := sm_le (f := fun i => (aw (fun i => C 8 (10 * p + i)) 10 m i).toInt) (n := 10) (fun j hj => (a1 j hj).1) hi
      have u4 := (a1 i hi).1
      have u5 : (C 8 (10 * q + i)).toInt ≤ (C 9 q).toInt := by
        rw [h.2.2.2 q (by omega)]
        exact sm_le (f := fun k => (C 8 (10 * q + k)).toInt) (fun j hj => h.1 _ (by omega)) hi
      have u6 : (C 9 p).toInt + (C 9 q).toInt ≤ B := by
        have w1 := sm_upd (f := fun x => (C 9 x).toInt) (k := p) (v := 0) 60
        rw [if_pos (by omega)] at w1
        have w2 := sm_le (f := fun i => if i = p then 0 else (C 9 i).toInt) (n := 60) (i := q) (fun j hj => by
          by_cases hjp : j = p
          · rw [if_pos hjp]; omega
          · rw [if_neg hjp]; exact (ps_sum h hj).1) (by omega)
        rw [if_neg (Ne.symm hpq)] at w2
        omega
      rw [h8, if_neg (by omega), if_pos (by omega), show 10 * q + i - 10 * q = i by omega]
      exact add_toInt (by omega) (by omega)
    have eO : ∀ i, ¬ (10 * p ≤ i ∧ i < 10 * p + 10) → ¬ (10 * q ≤ i ∧ i < 10 * q + 10) → C' 8 i = C 8 i := fun i s1 s2 => by
      rw [h8, if_neg s1, if_neg s2, Int32.add_zero]
    refine PS.of (fun i hi => ?_) (fun i x y => ?_) ?_ (fun r hr => ?_)
    · by_cases s : 10 * p ≤ i ∧ i < 10 * p + 10
      · have e := eP (i - 10 * p) (by omega)
        have a := a1 (i - 10 * p) (by omega)
        rw [show 10 * p + (i - 10 * p) = i by omega] at e a
        omega
      · by_cases s2 : 10 * q ≤ i ∧ i < 10 * q + 10
        · have e := eQ (i - 10 * q) (by omega)
          have a := a1 (i - 10 * q) (by omega)
          have u := h.1 i hi
          rw [show 10 * q + (i - 10 * q) = i by omega] at e
          omega
        · rw [eO i s s2]; exact h.1 i hi
    · rw [eO i (by omega) (by omega)]; exact h.2.1 i x y
    · rw [h9, p2]; exact ht
    · rw [h9]
      by_cases h1 : r = p
      · subst h1
        rw [(p5 hpq).1, a4, sm_congr 10 eP, sm_sub, h.2.2.2 r hr]
      · by_cases h2 : r = q
        · subst h2
          rw [(p5 hpq).2, a4, sm_congr 10 eQ, sm_plus, h.2.2.2 r hr]
        · rw [p3 r h1 h2, h.2.2.2 r hr]
          exact sm_congr 10 fun k hk => by rw [eO _ (by omega) (by omega)]
