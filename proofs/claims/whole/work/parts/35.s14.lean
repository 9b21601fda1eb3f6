/-! PURE: the rule reader: the model's words, numbers -/
section W2
variable {T : Nat → Int32} {L : Nat} {C D : St}
theorem m_reads1 (h : TD T L D) {s e : Nat} (hs : D 88 14 = nI s) (he' : D 88 15 = nI e) (hse : s ≤ e) (he : e ≤ L) (x1 : Int32)  : f_Md_reads x1 0 0 0 0 D = some (isw T s e [x1]) := by
  have h0 := h.1
  have cnt : (if (0 : Int32) = 0 then (if (0 : Int32) = 0 then (if (0 : Int32) = 0 then (if (0 : Int32) = 0 then 1 else 2 : Int32) else 3 : Int32) else 4 : Int32) else 5 : Int32) = 1 := by
    rw [if_pos (rfl : (0 : Int32) = 0), if_pos (rfl : (0 : Int32) = 0), if_pos (rfl : (0 : Int32) = 0), if_pos (rfl : (0 : Int32) = 0)]
  unfold f_Md_reads isw
  rw [cnt, h.2.1, hs, he', pk_sub hse]
  by_cases hc : e - s = [x1].length
  · have hc' : e - s = 1 := hc
    rw [if_neg (nI_ge (by omega) (by omega)), if_pos (show nI (e - s) = 1 by rw [hc']; rfl), if_pos hc, if_pos (inb_t (by omega) (by omega)), nI_clamp (by omega), h.2.2 s (by omega)]
    unfold mt
    by_cases g1 : T s = x1
    · rw [if_pos g1, if_pos g1]
      rw [if_pos (show ((1 : Int32) < 2) by decide)]
      rw [if_pos (show ((1 : Int32) < 3) by decide)]
      rw [if_pos (show ((1 : Int32) < 4) by decide)]
      rw [if_pos (show ((1 : Int32) < 5) by decide)]
      unfold mt
      rw [bd1_s, if_pos (Or.inr rfl)]
    · rw [if_neg g1, if_neg g1]
  · have hc' : ¬ e - s = 1 := hc
    rw [if_neg hc, if_neg (show ¬ nI (e - s) = 1 from fun q => hc' (by rw [l1, nI_eq (by omega) (by omega)] at q; exact q))]
    by_cases q : nI L ≤ nI s
    · rw [if_pos q]
    · rw [if_neg q]
theorem m_reads2 (h : TD T L D) {s e : Nat} (hs : D 88 14 = nI s) (he' : D 88 15 = nI e) (hse : s ≤ e) (he : e ≤ L) (x1 x2 : Int32) (h2 : x2 ≠ 0) : f_Md_reads x1 x2 0 0 0 D = some (isw T s e [x1, x2]) := by
  have h0 := h.1
  have cnt : (if (0 : Int32) = 0 then (if (0 : Int32) = 0 then (if (0 : Int32) = 0 then (if x2 = 0 then 1 else 2 : Int32) else 3 : Int32) else 4 : Int32) else 5 : Int32) = 2 := by
    rw [if_pos (rfl : (0 : Int32) = 0), if_pos (rfl : (0 : Int32) = 0), if_pos (rfl : (0 : Int32) = 0), if_neg h2]
  unfold f_Md_reads isw
  rw [cnt, h.2.1, hs, he', pk_sub hse]
  by_cases hc : e - s = [x1, x2].length
  · have hc' : e - s = 2 := hc
    rw [if_neg (nI_ge (by omega) (by omega)), if_pos (show nI (e - s) = 2 by rw [hc']; rfl), if_pos hc, if_pos (inb_t (by omega) (by omega)), nI_clamp (by omega), h.2.2 s (by omega)]
    unfold mt
    by_cases g1 : T s = x1
    · rw [if_pos g1, if_pos g1]
      unfold mt
      rw [if_neg (show ¬ ((2 : Int32) < 2) by decide), show nI s + 1 = nI (s + 1) from nI_add _ _, if_pos (inb_t (by omega) (by omega)), nI_clamp (by omega), h.2.2 (s + 1) (by omega)]
      by_cases g2 : T (s + 1) = x2
      rotate_left
      · rw [if_neg g2, bd1_s, if_pos (Or.inl rfl), if_neg (show ¬ T (s + 1) = x2 from g2)]
      rw [if_pos g2, if_pos (show T (s + 1) = x2 from g2)]
      rw [if_pos (show ((2 : Int32) < 3) by decide)]
      rw [if_pos (show ((2 : Int32) < 4) by decide)]
      rw [if_pos (show ((2 : Int32) < 5) by decide)]
      unfold mt
      rw [bd1_s, if_pos (Or.inr rfl)]
    · rw [if_neg g1, if_neg g1]
  · have hc' : ¬ e - s = 2 := hc
    rw [if_neg hc, if_neg (show ¬ nI (e - s) = 2 from fun q => hc' (by rw [l2, nI_eq (by omega) (by omega)] at q; exact q))]
    by_cases q : nI L ≤ nI s
    · rw [if_pos q]
    · rw [if_neg q]
theorem m_reads3 (h : TD T L D) {s e : Nat} (hs : D 88 14 = nI s) (he' : D 88 15 = nI e) (hse : s ≤ e) (he : e ≤ L) (x1 x2 x3 : Int32) (h3 : x3 ≠ 0) : f_Md_reads x1 x2 x3 0 0 D = some (isw T s e [x1, x2, x3]) := by
  have h0 := h.1
  have cnt : (if (0 : Int32) = 0 then (if (0 : Int32) = 0 then (if x3 = 0 then (if x2 = 0 then 1 else 2 : Int32) else 3 : Int32) else 4 : Int32) else 5 : Int32) = 3 := by
    rw [if_pos (rfl : (0 : Int32) = 0), if_pos (rfl : (0 : Int32) = 0), if_neg h3]
  unfold f_Md_reads isw
  rw [cnt, h.2.1, hs, he', pk_sub hse]
  by_cases hc : e - s = [x1, x2, x3].length
  · have hc' : e - s = 3 := hc
    rw [if_neg (nI_ge (by omega) (by omega)), if_pos (show nI (e - s) = 3 by rw [hc']; rfl), if_pos hc, if_pos (inb_t (by omega) (by omega)), nI_clamp (by omega), h.2.2 s (by omega)]
    unfold mt
    by_cases g1 : T s = x1
    · rw [if_pos g1, if_pos g1]
      unfold mt
      rw [if_neg (show ¬ ((3 : Int32) < 2) by decide), show nI s + 1 = nI (s + 1) from nI_add _ _, if_pos (inb_t (by omega) (by omega)), nI_clamp (by omega), h.2.2 (s + 1) (by omega)]
      by_cases g2 : T (s + 1) = x2
      rotate_left
      · rw [if_neg g2, bd1_s, if_pos (Or.inl rfl), if_neg (show ¬ T (s + 1) = x2 from g2)]
      rw [if_pos g2, if_pos (show T (s + 1) = x2 from g2)]
      unfold mt
      rw [if_neg (show ¬ ((3 : Int32) < 3) by decide), show nI s + 2 = nI (s + 2) from nI_add _ _, if_pos (inb_t (by omega) (by omega)), nI_clamp (by omega), h.2.2 (s + 2) (by omega)]
      by_cases g3 : T (s + 2) = x3
      rotate_left
      · rw [if_neg g3, bd1_s, if_pos (Or.inl rfl), if_neg (show ¬ T (s + 1 + 1) = x3 from g3)]
      rw [if_pos g3, if_pos (show T (s + 1 + 1) = x3 from g3)]
      rw [if_pos (show ((3 : Int32) < 4) by decide)]
      rw [if_pos (show ((3 : Int32) < 5) by decide)]
      unfold mt
      rw [bd1_s, if_pos (Or.inr rfl)]
    · rw [if_neg g1, if_neg g1]
  · have hc' : ¬ e - s = 3 := hc
    rw [if_neg hc, if_neg (show ¬ nI (e - s) = 3 from fun q => hc' (by rw [l3, nI_eq (by omega) (by omega)] at q; exact q))]
    by_cases q : nI L ≤ nI s
    · rw [if_pos q]
    · rw [if_neg q]
theorem m_reads4 (h : TD T L D) {s e : Nat} (hs : D 88 14 = nI s) (he' : D 88 15 = nI e) (hse : s ≤ e) (he : e ≤ L) (x1 x2 x3 x4 : Int32) (h4 : x4 ≠ 0) : f_Md_reads x1 x2 x3 x4 0 D = some (isw T s e [x1, x2, x3, x4]) := by
  have h0 := h.1
  have cnt : (if (0 : Int32) = 0 then (if x4 = 0 then (if x3 = 0 then (if x2 = 0 then 1 else 2 : Int32) else 3 : Int32) else 4 : Int32) else 5 : Int32) = 4 := by
    rw [if_pos (rfl : (0 : Int32) = 0), if_neg h4]
  unfold f_Md_reads isw
  rw [cnt, h.2.1, hs, he', pk_sub hse]
  by_cases hc : e - s = [x1, x2, x3, x4].length
  · have hc' : e - s = 4 := hc
    rw [if_neg (nI_ge (by omega) (by omega)), if_pos (show nI (e - s) = 4 by rw [hc']; rfl), if_pos hc, if_pos (inb_t (by omega) (by omega)), nI_clamp (by omega), h.2.2 s (by omega)]
    unfold mt
    by_cases g1 : T s = x1
    · rw [if_pos g1, if_pos g1]
      unfold mt
      rw [if_neg (show ¬ ((4 : Int32) < 2) by decide), show nI s + 1 = nI (s + 1) from nI_add _ _, if_pos (inb_t (by omega) (by omega)), nI_clamp (by omega), h.2.2 (s + 1) (by omega)]
      by_cases g2 : T (s + 1) = x2
      rotate_left
      · rw [if_neg g2, bd1_s, if_pos (Or.inl rfl), if_neg (show ¬ T (s + 1) = x2 from g2)]
      rw [if_pos g2, if_pos (show T (s + 1) = x2 from g2)]
      unfold mt
      rw [if_neg (show ¬ ((4 : Int32) < 3) by decide), show nI s + 2 = nI (s + 2) from nI_add _ _, if_pos (inb_t (by omega) (by omega)), nI_clamp (by omega), h.2.2 (s + 2) (by omega)]
      by_cases g3 : T (s + 2) = x3
      rotate_left
      · rw [if_neg g3, bd1_s, if_pos (Or.inl rfl), if_neg (show ¬ T (s + 1 + 1) = x3 from g3)]
      rw [if_pos g3, if_pos (show T (s + 1 + 1) = x3 from g3)]
      unfold mt
      rw [if_neg (show ¬ ((4 : Int32) < 4) by decide), show nI s + 3 = nI (s + 3) from nI_add _ _, if_pos (inb_t (by omega) (by omega)), nI_clamp (by omega), h.2.2 (s + 3) (by omega)]
      by_cases g4 : T (s + 3) = x4
      rotate_left
      · rw [if_neg g4, bd1_s, if_pos (Or.inl rfl), if_neg (show ¬ T (s + 1 + 1 + 1) = x4 from g4)]
      rw [if_pos g4, if_pos (show T (s + 1 + 1 + 1) = x4 from g4)]
      rw [if_pos (show ((4 : Int32) < 5) by decide)]
      unfold mt
      rw [bd1_s, if_pos (Or.inr rfl)]
    · rw [if_neg g1, if_neg g1]
  · have hc' : ¬ e - s = 4 := hc
    rw [if_neg hc, if_neg (show ¬ nI (e - s) = 4 from fun q => hc' (by rw [l4, nI_eq (by omega) (by omega)] at q; exact q))]
    by_cases q : nI L ≤ nI s
    · rw [if_pos q]
    · rw [if_neg q]
theorem m_reads5 (h : TD T L D) {s e : Nat} (hs : D 88 14 = nI s) (he' : D 88 15 = nI e) (hse : s ≤ e) (he : e ≤ L) (x1 x2 x3 x4 x5 : Int32) (h5 : x5 ≠ 0) : f_Md_reads x1 x2 x3 x4 x5 D = some (isw T s e [x1, x2, x3, x4, x5]) := by
  have h0 := h.1
  have cnt : (if x5 = 0 then (if x4 = 0 then (if x3 = 0 then (if x2 = 0 then 1 else 2 : Int32) else 3 : Int32) else 4 : Int32) else 5 : Int32) = 5 := by
    rw [if_neg h5]
  unfold f_Md_reads isw
  rw [cnt, h.2.1, hs, he', pk_sub hse]
  by_cases hc : e - s = [x1, x2, x3, x4, x5].length
  · have hc' : e - s = 5 := hc
    rw [if_neg (nI_ge (by omega) (by omega)), if_pos (show nI (e - s) = 5 by rw [hc']; rfl), if_pos hc, if_pos (inb_t (by omega) (by omega)), nI_clamp (by omega), h.2.2 s (by omega)]
    unfold mt
    by_cases g1 : T s = x1
    · rw [if_pos g1, if_pos g1]
      unfold mt
      rw [if_neg (show ¬ ((5 : Int32) < 2) by decide), show nI s + 1 = nI (s + 1) from nI_add _ _, if_pos (inb_t (by omega) (by omega)), nI_clamp (by omega), h.2.2 (s + 1) (by omega)]
      by_cases g2 : T (s + 1) = x2
      rotate_left
      · rw [if_neg g2, bd1_s, if_pos (Or.inl rfl), if_neg (show ¬ T (s + 1) = x2 from g2)]
      rw [if_pos g2, if_pos (show T (s + 1) = x2 from g2)]
      unfold mt
      rw [if_neg (show ¬ ((5 : Int32) < 3) by decide), show nI s + 2 = nI (s + 2) from nI_add _ _, if_pos (inb_t (by omega) (by omega)), nI_clamp (by omega), h.2.2 (s + 2) (by omega)]
      by_cases g3 : T (s + 2) = x3
      rotate_left
      · rw [if_neg g3, bd1_s, if_pos (Or.inl rfl), if_neg (show ¬ T (s + 1 + 1) = x3 from g3)]
      rw [if_pos g3, if_pos (show T (s + 1 + 1) = x3 from g3)]
      unfold mt
      rw [if_neg (show ¬ ((5 : Int32) < 4) by decide), show nI s + 3 = nI (s + 3) from nI_add _ _, if_pos (inb_t (by omega) (by omega)), nI_clamp (by omega), h.2.2 (s + 3) (by omega)]
      by_cases g4 : T (s + 3) = x4
      rotate_left
      · rw [if_neg g4, bd1_s, if_pos (Or.inl rfl), if_neg (show ¬ T (s + 1 + 1 + 1) = x4 from g4)]
      rw [if_pos g4, if_pos (show T (s + 1 + 1 + 1) = x4 from g4)]
      unfold mt
      rw [if_neg (show ¬ ((5 : Int32) < 5) by decide), show nI s + 4 = nI (s + 4) from nI_add _ _, if_pos (inb_t (by omega) (by omega)), nI_clamp (by omega), h.2.2 (s + 4) (by omega)]
      by_cases g5 : T (s + 4) = x5
      rotate_left
      · rw [if_neg g5, bd1_s, if_pos (Or.inl rfl), if_neg (show ¬ T (s + 1 + 1 + 1 + 1) = x5 from g5)]
      rw [if_pos g5, if_pos (show T (s + 1 + 1 + 1 + 1) = x5 from g5)]
      unfold mt
      rw [bd1_s, if_pos (Or.inr rfl)]
    · rw [if_neg g1, if_neg g1]
  · have hc' : ¬ e - s = 5 := hc
    rw [if_neg hc, if_neg (show ¬ nI (e - s) = 5 from fun q => hc' (by rw [l5, nI_eq (by omega) (by omega)] at q; exact q))]
    by_cases q : nI L ≤ nI s
    · rw [if_pos q]
    · rw [if_neg q]
/-- digits -/
theorem dg {c : Nat} (hc : c ≤ 255) : (48 ≤ c ∧ c ≤ 57 ∧ f_Mk_isWithin (nI c - 48) 0 9 = some 1 ∧ f_Md_isIn (nI c) 48 57 = some 1 ∧ nI c - 48 = nI (c - 48)) ∨ ((c < 48 ∨ 57 < c) ∧ f_Mk_isWithin (nI c - 48) 0 9 = some 0 ∧ f_Md_isIn (nI c) 48 57 = some 0) := by
  have key : ∀ c : Nat, c < 256 → (48 ≤ c ∧ c ≤ 57 ∧ f_Mk_isWithin (nI c - 48) 0 9 = some 1 ∧ f_Md_isIn (nI c) 48 57 = some 1 ∧ nI c - 48 = nI (c - 48)) ∨ ((c < 48 ∨ 57 < c) ∧ f_Mk_isWithin (nI c - 48) 0 9 = some 0 ∧ f_Md_isIn (nI c) 48 57 = some 0) := by decide +kernel
  exact key c (by omega)
def nm (T : Nat → Int32) : Nat → Nat → Nat → Option Nat
  | 0, _, v => some v
  | m + 1, p, v => if 48 ≤ (T p).toInt ∧ (T p).toInt ≤ 57 then (if 10 * v + ((T p).toInt - 48).toNat ≤ 9999 then nm T m (p + 1) (10 * v + ((T p).toInt - 48).toNat) else none) else none
theorem nm_le : ∀ (m p v w : Nat), v ≤ 9999 → nm T m p v = some w → w ≤ 9999
  | 0, p, v, w, hv, h => by cases h; exact hv
  | m + 1, p, v, w, hv, h => by
    unfold nm at h
    by_cases h1 : 48 ≤ (T p).toInt ∧ (T p).toInt ≤ 57
    · rw [if_pos h1] at h
      by_cases h2 : 10 * v + ((T p).toInt - 48).toNat ≤ 9999
      · rw [if_pos h2] at h
        exact nm_le m _ _ w h2 h
      · rw [if_neg h2] at h; cases h
    · rw [if_neg h1] at h; cases h
theorem v_nm_l (h : TC T L C) (hT : ∀ i, i < L → rg (T i) 0 255) {e : Nat} (he : e ≤ L) (he' : C 21 2 = nI e) : ∀ (m p v n : Nat), p + m = e → m < n → v ≤ 9999 → L_Rr_number_7 n (nI v) (nI p) C = some (match nm T m p v with | none => .inl (-1) | some w => .inr (nI w))
  | 0, p, v, n + 1, hp, hn, hv => by
    obtain rfl : p = e := by omega
    unfold L_Rr_number_7 nm
    rw [he', if_pos (Int32.le_refl _)]
  | m + 1, p, v, n + 1, hp, hn, hv => by
    have h0 := h.1
    obtain ⟨c, hc1, hc2, hc⟩ := rg_nI (hT p (by omega))
    have ih := v_nm_l h hT he he' m (p + 1)
    unfold L_Rr_number_7 nm
    rw [he', if_neg (nI_ge (by omega) (by omega)), v_byteAt h (by omega), bd1_s, hc, nI_toInt hc2]
    rcases dg (c := c) (by omega) with ⟨g1, g2, g3, g4, g5⟩ | ⟨g1, g3, g4⟩
    · have e1 : nI v * 10 + nI (c - 48) = nI (10 * v + ((c : Int) - 48).toNat) := by
        rw [l10, pk_mul, nI_add]
        exact congrArg nI (by omega)
      rw [g3, bd1_s, if_neg i10, g5, e1, nI_1, if_pos (show 48 ≤ (c : Int) ∧ (c : Int) ≤ 57 by omega)]
      by_cases hz : 10 * v + ((c : Int) - 48).toNat ≤ 9999
      · rw [if_pos (by rw [l9999]; exact nI_le (by omega) (by omega)), if_pos hz]
        exact ih _ n (by omega) (by omega) hz
      · rw [if_neg (by rw [l9999]; exact nI_ge (by omega) (by omega)), if_neg hz]
    · rw [g3, bd1_s, if_pos i01, if_neg (show ¬ (48 ≤ (c : Int) ∧ (c : Int) ≤ 57) by omega)]
theorem m_nm0 (h : TD T L D) {e : Nat} (he : e ≤ L) (he' : D 88 15 = nI e) (y1 y2 y3 : Int32) : ∀ (m p n : Nat), p + m = e → m < n → L_Md_number_26 n y1 y2 y3 0 (nI p) D = some (y3, 0)
  | 0, p, n + 1, hp, hn => by
    obtain rfl : p = e := by omega
    unfold L_Md_number_26
    rw [he', if_pos (Int32.le_refl _)]
  | m + 1, p, n + 1, hp, hn => by
    have h0 := h.1
    unfold L_Md_number_26
    rw [he', if_neg (nI_ge (by omega) (by omega)), if_pos i01, bd1_s, if_pos i01, bd1_s, nI_1]
    exact m_nm0 h he he' y1 y2 y3 m (p + 1) n (by omega) (by omega)
theorem m_nmB (h : TD T L D) (hT : ∀ i, i < L → rg (T i) 0 255) {e : Nat} (he : e ≤ L) (he' : D 88 15 = nI e) (y1 y2 y3 : Int32) (hy : 9999 < y3) : ∀ (m p n : Nat), p + m = e → m < n → ∃ g : Int32, L_Md_number_26 n y1 y2 y3 1 (nI p) D = some (y3, g)
  | 0, p, n + 1, hp, hn => by
    obtain rfl : p = e := by omega
    unfold L_Md_number_26
    rw [he', if_pos (Int32.le_refl _)]
    exact ⟨_, rfl⟩
  | m + 1, p, n + 1, hp, hn => by
    have h0 := h.1
    obtain ⟨c, hc1, hc2, hc⟩ := rg_nI (hT p (by omega))
    unfold L_Md_number_26
    rw [he', if_neg (nI_ge (by omega) (by omega)), if_neg i10, if_pos (inb_t (by omega) (by omega)), nI_clamp (by omega), h.2.2 p (by omega), hc, nI_1]
    rcases dg (c := c) (by omega) with ⟨g1, g2, g3, g4, g5⟩ | ⟨g1, g3, g4⟩
    · rw [g4, bd1_s, if_neg i10, bd1_s, if_neg i10, if_pos hy, bd1_s]
      exact m_nmB h hT he he' y1 y2 y3 hy m (p + 1) n (by omega) (by omega)
    · rw [g4, bd1_s, if_pos i01, bd1_s, if_pos i01, bd1_s]
      exact ⟨_, m_nm0 h he he' y1 y2 y3 m (p + 1) n (by omega) (by omega)⟩
theorem m_nm_l (h : TD T L D) (hT : ∀ i, i < L → rg (T i) 0 255) {e : Nat} (he : e ≤ L) (he' : D 88 15 = nI e) (y1 y2 : Int32) : ∀ (m p v n : Nat), p + m = e → m < n → v ≤ 9999 → ∃ r g : Int32, L_Md_number_26 n y1 y2 (nI v) 1 (nI p) D = some (r, g) ∧ (match nm T m p v with | none => g = 0 ∨ 9999 < r | some w => g = 1 ∧ r = nI w)
  | 0, p, v, n + 1, hp, hn, hv => by
    obtain rfl : p = e := by omega
    unfold L_Md_number_26 nm
    rw [he', if_pos (Int32.le_refl _)]
    exact ⟨_, _, rfl, rfl, rfl⟩
  | m + 1, p, v, n + 1, hp, hn, hv => by
    have h0 := h.1
    obtain ⟨c, hc1, hc2, hc⟩ := rg_nI (hT p (by omega))
    have ih := m_nm_l h hT he he' y1 y2 m (p + 1)
    have gv : ¬ ((9999 : Int32) < nI v) := by
      rw [l9999, Int32.lt_iff_toInt_lt, nI_toInt (by omega), nI_toInt (by omega)]
      omega
    unfold L_Md_number_26 nm
    rw [he', if_neg (nI_ge (by omega) (by omega)), if_neg i10, if_pos (inb_t (by omega) (by omega)), nI_clamp (by omega), h.2.2 p (by omega), hc, nI_1, nI_toInt hc2]
    rcases dg (c := c) (by omega) with ⟨g1, g2, g3, g4, g5⟩ | ⟨g1, g3, g4⟩
    · have e1 : 10 * nI v + nI c - 48 = nI (10 * v + ((c : Int) - 48).toNat) := by
        rw [l10, pk_mul, nI_add, l48, pk_sub (by omega)]
        exact congrArg nI (by omega)
      rw [g4, bd1_s, if_neg i10, bd1_s, if_neg i10, if_neg gv, if_pos (inb_t (by omega) (by omega)), bd1_s, e1, if_pos (show 48 ≤ (c : Int) ∧ (c : Int) ≤ 57 by omega)]
      by_cases hz : 10 * v + ((c : Int) - 48).toNat ≤ 9999
      · rw [if_pos hz]
        exact ih _ n (by omega) (by omega) hz
      · rw [if_neg hz]
        have hy : (9999 : Int32) < nI (10 * v + ((c : Int) - 48).toNat) := by
          rw [l9999]
          exact nI_lt (by omega) (by omega)
        obtain ⟨g, hg⟩ := m_nmB h hT he he' y1 y2 _ hy m (p + 1) n (by omega) (by omega)
        exact ⟨_, _, hg, Or.inr hy⟩
    · rw [g4, bd1_s, if_pos i01, bd1_s, if_pos i01, bd1_s, if_neg (show ¬ (48 ≤ (c : Int) ∧ (c : Int) ≤ 57) by omega)]
      exact ⟨_, _, m_nm0 h he he' y1 y2 _ m (p + 1) n (by omega) (by omega), Or.inl rfl⟩
end W2
