/-! PURE: differs -/
/-- two rows are alike from k on for m places -/
def al (f g : Nat → Int32) (k : Nat) : Nat → Int32
  | 0 => 1
  | m + 1 => if f k = g k then al f g (k + 1) m else 0
theorem al_congr {f g f' g' : Nat → Int32} : ∀ (m k k' : Nat), (∀ j, j < m → f (k + j) = f' (k' + j) ∧ g (k + j) = g' (k' + j)) → al f g k m = al f' g' k' m
  | 0, k, k', _ => rfl
  | m + 1, k, k', h => by
    have h0 := h 0 (by omega)
    simp only [Nat.add_zero] at h0
    unfold al
    rw [h0.1, h0.2, al_congr m (k + 1) (k' + 1) fun j hj => by rw [Nat.add_assoc, Nat.add_assoc]; exact h (1 + j) (by omega)]
theorem al_01 {f g : Nat → Int32} : ∀ (m k : Nat), al f g k m = 0 ∨ al f g k m = 1
  | 0, k => Or.inr rfl
  | m + 1, k => by
    unfold al
    by_cases h : f k = g k
    · rw [if_pos h]; exact al_01 m (k + 1)
    · rw [if_neg h]; exact Or.inl rfl
theorem bdS_l {α β γ : Type} (a : α) (f : α → Option γ) (g : β → Option γ) : bdS (some (.inl a)) f g = f a := rfl
theorem bdS_r {α β γ : Type} (a : β) (f : α → Option γ) (g : β → Option γ) : bdS (some (.inr a)) f g = g a := rfl
theorem m_differs_in0 {D : St} {w a e : Nat} (ha : a < 12) (he : e = 60 + 50 * (a + 1)) : ∀ (m k n : Nat), k + m = e → m < n → L_Md_differs_138 n (nI w) (nI a) 0 (nI k) D = some 0
  | 0, k, n + 1, hk, hn => by
    unfold L_Md_differs_138
    rw [nI_1, l0, m_ageAt, bd1_s, if_pos (by rw [show 60 + (10 * (5 * (a + 1) + 0) + 0) = k by omega]; exact Int32.le_refl _)]
  | m + 1, k, n + 1, hk, hn => by
    unfold L_Md_differs_138
    have e0 : (nI 0 : Int32) = 0 := rfl
    rw [nI_1, l0, m_ageAt, bd1_s, if_neg (nI_ge (by omega) (by omega)), if_pos rfl, bd1_s, nI_1]
    exact m_differs_in0 ha he m (k + 1) n (by omega) (by omega)
theorem m_differs_in {D : St} {w a e : Nat} (hw : w < 3) (ha : a < 12) (he : e = 60 + 50 * (a + 1)) : ∀ (m k n : Nat), k + m = e → m < n → L_Md_differs_138 n (nI w) (nI a) 1 (nI k) D = some (al (D 89) (fun i => D 90 (2200 * w + i)) k m)
  | 0, k, n + 1, hk, hn => by
    unfold L_Md_differs_138 al
    rw [nI_1, l0, m_ageAt, bd1_s, if_pos (by rw [show 60 + (10 * (5 * (a + 1) + 0) + 0) = k by omega]; exact Int32.le_refl _)]
  | m + 1, k, n + 1, hk, hn => by
    unfold L_Md_differs_138 al
    have ea : f_Md_ageAt (nI a + 1) 0 0 = some (nI (60 + (10 * (5 * (a + 1) + 0) + 0))) := by
      rw [nI_1]
      exact m_ageAt
    have e1 : 2200 * nI w + nI k = nI (2200 * w + k) := by
      rw [l2200]
      simp only [pk_mul, nI_add]
    rw [ea, bd1_s, if_neg (nI_ge (by omega) (by omega)), if_neg i10, e1, if_pos (inb_t (by omega) (by omega)), if_pos (inb_t (by omega) (by omega)), nI_clamp (by omega), nI_clamp (by omega), nI_1]
    by_cases h : D 89 k = D 90 (2200 * w + k)
    · rw [if_pos h, if_pos h, bd1_s]
      exact m_differs_in hw ha he m (k + 1) n (by omega) (by omega)
    · rw [if_neg h, if_neg h, bd1_s]
      exact m_differs_in0 ha he m (k + 1) n (by omega) (by omega)
theorem m_differs_tail {D : St} {w q : Nat} (hw : w < 3) (hq : q ≤ 12) (h1 : D 89 2163 = nI q) (h2 : D 90 (2200 * w + 2163) = nI q) : ∀ (m k n : Nat), k + m = 12 → m < n → q ≤ k → L_Md_differs_26 n (nI w) (nI k) D = some (.inr ())
  | 0, k, n + 1, hk, hn, hk' => by
    obtain rfl : k = 12 := by omega
    unfold L_Md_differs_26
    rw [if_pos (by decide)]
  | m + 1, k, n + 1, hk, hn, hk' => by
    unfold L_Md_differs_26
    have e1 : 2200 * nI w + 2163 = nI (2200 * w + 2163) := by
      rw [l2200, l2163]
      simp only [pk_mul, nI_add]
    have e2 : nI q ≤ nI k := nI_le (by omega) (by omega)
    rw [if_neg (by rw [l12]; exact nI_ge (by omega) (by omega)), e1, if_pos (inb_t (by omega) (by omega)), nI_clamp (by omega), h1, h2, if_pos e2, if_pos i01, if_pos rfl, bd1_s, if_neg i10, nI_1]
    exact m_differs_tail hw hq h1 h2 m (k + 1) n (by omega) (by omega) (by omega)
theorem v_isAlike_l {C : St} {e : Nat} (he : e ≤ 600) : ∀ (m k n : Nat), k + m = e → m < n → L_Sk_isAlike_17 n (nI e) (nI k) C = if al (C 8) (C 47) k m = 0 then some (.inl 0) else some (.inr ())
  | 0, k, n + 1, hk, hn => by
    unfold L_Sk_isAlike_17 al
    rw [if_pos (nI_le (by omega) (by omega)), if_neg i10]
  | m + 1, k, n + 1, hk, hn => by
    unfold L_Sk_isAlike_17 al
    rw [if_neg (nI_ge (by omega) (by omega)), if_pos (inb_t (by omega) (by omega)), nI_clamp (by omega), nI_1]
    by_cases h : C 8 k = C 47 k
    · rw [if_pos h, if_pos h]
      exact v_isAlike_l he m (k + 1) n (by omega) (by omega)
    · rw [if_neg h, if_neg h, if_pos rfl]
theorem v_isAlike {C : St} {a : Nat} (ha : a < 12) : f_Sk_isAlike (nI a) C = some (al (C 8) (C 47) (50 * a) 50) := by
  have e1 : ((nI a + 1) * 5) * 10 = nI (50 * (a + 1)) := by
    rw [nI_1, l5, l10]
    simp only [pk_mul]
    exact congrArg nI (by omega)
  have e2 : (nI a * 5) * 10 = nI (50 * a) := by
    rw [l5, l10]
    simp only [pk_mul]
    exact congrArg nI (by omega)
  unfold f_Sk_isAlike
  rw [e1, e2, v_isAlike_l (by omega) 50 (50 * a) 3000 (by omega) (by omega)]
  rcases al_01 (f := C 8) (g := C 47) 50 (50 * a) with h | h
  · rw [h, if_pos rfl, bdS_l]
  · rw [h, if_neg i10, bdS_r]
theorem s_firstUnlike {C D : St} {q q' mn : Nat} (hq : q ≤ 12) (hq' : q' ≤ 12) (hmn : mn = min q q') (h1 : C 1 0 = nI q) (h1' : D 89 2163 = nI q) (h2 : C 40 0 = nI q') (h2' : D 90 (2200 * 0 + 2163) = nI q')
    (hc : ∀ a, a < 12 → C 3 a = D 89 (5 * a + 1) ∧ C 42 a = D 90 (2200 * 0 + 5 * a + 1)) (hp : ∀ i, i < 600 → C 8 i = D 89 (60 + i) ∧ C 47 i = D 90 (2200 * 0 + 60 + i)) : ∀ (m k n n' : Nat), k + m = mn → m < n → 12 - k < n' → ∃ v : Int32, bdS (L_Tw_firstUnlike_14 n (nI mn) (nI k) C) (fun e11 => some e11) (fun _ => some (if nI q = nI q' then (-1000000005) else nI mn : Int32)) = some v ∧ bdS (L_Md_differs_26 n' (nI 0) (nI k) D) (fun e => some e) (fun _ => some (-1000000005)) = some v
  | 0, k, n + 1, n' + 1, hk, hn, hn' => by
    obtain rfl : k = mn := by omega
    unfold L_Tw_firstUnlike_14
    rw [if_pos (Int32.le_refl _), bdS_r]
    by_cases he : q = q'
    · subst he
      rw [if_pos rfl, m_differs_tail (w := 0) (by omega) hq h1' h2' (12 - k) k (n' + 1) (by omega) (by omega) (by omega), bdS_r]
      exact ⟨_, rfl, rfl⟩
    · rw [if_neg (by rw [nI_eq (by omega) (by omega)]; exact he)]
      refine ⟨_, rfl, ?_⟩
      unfold L_Md_differs_26
      have e1 : 2200 * nI 0 + 2163 = nI (2200 * 0 + 2163) := by
        rw [l2200, l2163]
        simp only [pk_mul, nI_add]
      rw [if_neg (by rw [l12]; exact nI_ge (by omega) (by omega)), e1, if_pos (inb_t (by omega) (by omega)), nI_clamp (by omega), h1', h2']
      by_cases hlt : q < q'
      · rw [if_pos (nI_le (by omega) (by omega)), if_pos i01, if_neg (nI_ge (by omega) (by omega)), if_neg (by decide), bd1_s, if_pos rfl, bdS_l]
      · rw [if_neg (nI_ge (by omega) (by omega)), if_neg i10, if_pos (nI_le (by omega) (by omega)), if_pos i01, if_neg (by decide), bd1_s, if_pos rfl, bdS_l]
  | m + 1, k, n + 1, n' + 1, hk, hn, hn' => by
    unfold L_Tw_firstUnlike_14 L_Md_differs_26
    have e1 : 2200 * nI 0 + 2163 = nI (2200 * 0 + 2163) := by
      rw [l2200, l2163]
      simp only [pk_mul, nI_add]
    have e2 : ((2200 * nI 0 + 0) + (5 * nI k)) + 1 = nI (2200 * 0 + 5 * k + 1) := by
      rw [l2200, l5, l0, l1]
      simp only [pk_mul, nI_add, Nat.add_zero]
    have g1 : ¬ ((12 : Int32) ≤ nI k) := by rw [l12]; exact nI_ge (by omega) (by omega)
    have g2 : ¬ (nI q ≤ nI k) := nI_ge (by omega) (by omega)
    have g3 : ¬ (nI q' ≤ nI k) := nI_ge (by omega) (by omega)
    rw [if_neg (nI_ge (by omega) (by omega)), if_pos (inb_t (N := 12) (by omega) (by omega)), if_neg g1, e1, if_pos (inb_t (n := 2200 * 0 + 2163) (by omega) (by omega)), nI_clamp (n := k) (by omega), nI_clamp (by omega), h1', h2', if_neg g2, if_neg (i10), if_neg g3, if_neg (i10), m_cash (by omega), bd1_s, e2, if_pos (inb_t (by omega) (by omega)), nI_clamp (by omega), nI_1]
    have ea : f_Md_ageAt (nI k) 0 0 = some (nI (60 + (10 * (5 * k + 0) + 0))) := m_ageAt
    rw [ea, bd1_s, (hc k (by omega)).1, (hc k (by omega)).2]
    by_cases hcash : D 89 (5 * k + 1) = D 90 (2200 * 0 + 5 * k + 1)
    · have ej : al (D 89) (fun i => D 90 (2200 * 0 + i)) (60 + (10 * (5 * k + 0) + 0)) 50 = al (C 8) (C 47) (50 * k) 50 := al_congr 50 _ _ fun j hj => by
        have := hp (50 * k + j) (by omega)
        rw [this.1, this.2]
        exact ⟨congrArg (D 89) (by omega), congrArg (D 90) (by omega)⟩
      rw [if_pos hcash, if_pos hcash, v_isAlike (by omega), bd1_s, m_differs_in (w := 0) (a := k) (by omega) (by omega) rfl 50 _ 3000 (by omega) (by omega), bd1_s, bd1_s, ej]
      rcases al_01 (f := C 8) (g := C 47) 50 (50 * k) with h | h
      · rw [h, if_pos rfl, if_pos rfl, bdS_l, bdS_l]
        exact ⟨_, rfl, rfl⟩
      · rw [h, if_neg i10, if_neg i10]
        exact s_firstUnlike hq hq' hmn h1 h1' h2 h2' hc hp m (k + 1) n n' (by omega) (by omega) (by omega)
    · rw [if_neg hcash, if_neg hcash, m_differs_in0 (w := 0) (a := k) (by omega) rfl 50 _ 3000 (by omega) (by omega), bd1_s, bd1_s, if_pos rfl, bdS_l, bdS_l]
      exact ⟨_, rfl, rfl⟩
theorem s_unlike {t : Nat} {C D : St} (h : Rel t C D) (h1 : C 18 0 = 1) : ∃ v : Int32, f_Tw_firstUnlike C = some v ∧ bdS (L_Md_differs_26 3000 (nI 0) 0 D) (fun e => some e) (fun _ => some (-1000000005)) = some v := by
  obtain ⟨hR, ⟨q, d, hW⟩, hWD, -⟩ := h
  obtain ⟨rR, q', d', rW⟩ := (hWD 0 (by omega)).2.2 h1
  have a1 := hW.1.2.1
  have a2 := rW.1.2.1
  simp only [Nat.zero_add, Nat.reduceMul, Nat.reduceAdd] at a1 a2
  have b1 : D 89 2163 = nI q := (rt_n hR).1 ▸ a1
  have b2 : D 90 (2200 * 0 + 2163) = nI q' := by
    have := rR.1.1
    simp only [Nat.zero_add, Nat.reduceMul, Nat.reduceAdd] at this ⊢
    exact this ▸ a2
  have e : (if C 40 0 < C 1 0 then C 40 0 else C 1 0 : Int32) = nI (min q q') := by
    rw [a1, a2]
    by_cases hlt : q' < q
    · rw [if_pos (nI_lt hlt (by have := hW.1.1; omega)), Nat.min_eq_right (by omega)]
    · rw [if_neg (by rw [Int32.lt_iff_toInt_lt, nI_toInt (by have := rW.1.1; omega), nI_toInt (by have := hW.1.1; omega)]; omega), Nat.min_eq_left (by omega)]
  unfold f_Tw_firstUnlike
  rw [e, a1, a2]
  refine s_firstUnlike hW.1.1 rW.1.1 rfl a1 b1 a2 b2 (fun a ha => ⟨(rt_a hR ha).2.1, ?_⟩) (fun i hi => ⟨rt_p hR hi, ?_⟩) (min q q') 0 3000 3000 (by omega) (by have := hW.1.1; omega) (by omega)
  · exact (rR.2.1 a ha).2.1
  · exact rR.2.2.1 i hi
theorem v_isAlike_1_l {C : St} {e : Nat} (he : e ≤ 600) : ∀ (m k n : Nat), k + m = e → m < n → L_Sk_isAlike_1_17 n (nI e) (nI k) C = if al (C 8) (C 63) k m = 0 then some (.inl 0) else some (.inr ())
  | 0, k, n + 1, hk, hn => by
    unfold L_Sk_isAlike_1_17 al
    rw [if_pos (nI_le (by omega) (by omega)), if_neg i10]
  | m + 1, k, n + 1, hk, hn => by
    unfold L_Sk_isAlike_1_17 al
    rw [if_neg (nI_ge (by omega) (by omega)), if_pos (inb_t (by omega) (by omega)), nI_clamp (by omega), nI_1]
    by_cases h : C 8 k = C 63 k
    · rw [if_pos h, if_pos h]
      exact v_isAlike_1_l he m (k + 1) n (by omega) (by omega)
    · rw [if_neg h, if_neg h, if_pos rfl]
theorem v_isAlike_1 {C : St} {a : Nat} (ha : a < 12) : f_Sk_isAlike_1 (nI a) C = some (al (C 8) (C 63) (50 * a) 50) := by
  have e1 : ((nI a + 1) * 5) * 10 = nI (50 * (a + 1)) := by
    rw [nI_1, l5, l10]
    simp only [pk_mul]
    exact congrArg nI (by omega)
  have e2 : (nI a * 5) * 10 = nI (50 * a) := by
    rw [l5, l10]
    simp only [pk_mul]
    exact congrArg nI (by omega)
  unfold f_Sk_isAlike_1
  rw [e1, e2, v_isAlike_1_l (by omega) 50 (50 * a) 3000 (by omega) (by omega)]
  rcases al_01 (f := C 8) (g := C 63) 50 (50 * a) with h | h
  · rw [h, if_pos rfl, bdS_l]
  · rw [h, if_neg i10, bdS_r]
theorem s_firstUnlike_1 {C D : St} {q q' mn : Nat} (hq : q ≤ 12) (hq' : q' ≤ 12) (hmn : mn = min q q') (h1 : C 1 0 = nI q) (h1' : D 89 2163 = nI q) (h2 : C 56 0 = nI q') (h2' : D 90 (2200 * 1 + 2163) = nI q')
    (hc : ∀ a, a < 12 → C 3 a = D 89 (5 * a + 1) ∧ C 58 a = D 90 (2200 * 1 + 5 * a + 1)) (hp : ∀ i, i < 600 → C 8 i = D 89 (60 + i) ∧ C 63 i = D 90 (2200 * 1 + 60 + i)) : ∀ (m k n n' : Nat), k + m = mn → m < n → 12 - k < n' → ∃ v : Int32, bdS (L_Tw_firstUnlike_1_14 n (nI mn) (nI k) C) (fun e11 => some e11) (fun _ => some (if nI q = nI q' then (-1000000005) else nI mn : Int32)) = some v ∧ bdS (L_Md_differs_26 n' (nI 1) (nI k) D) (fun e => some e) (fun _ => some (-1000000005)) = some v
  | 0, k, n + 1, n' + 1, hk, hn, hn' => by
    obtain rfl : k = mn := by omega
    unfold L_Tw_firstUnlike_1_14
    rw [if_pos (Int32.le_refl _), bdS_r]
    by_cases he : q = q'
    · subst he
      rw [if_pos rfl, m_differs_tail (w := 1) (by omega) hq h1' h2' (12 - k) k (n' + 1) (by omega) (by omega) (by omega), bdS_r]
      exact ⟨_, rfl, rfl⟩
    · rw [if_neg (by rw [nI_eq (by omega) (by omega)]; exact he)]
      refine ⟨_, rfl, ?_⟩
      unfold L_Md_differs_26
      have e1 : 2200 * nI 1 + 2163 = nI (2200 * 1 + 2163) := by
        rw [l2200, l2163]
        simp only [pk_mul, nI_add]
      rw [if_neg (by rw [l12]; exact nI_ge (by omega) (by omega)), e1, if_pos (inb_t (by omega) (by omega)), nI_clamp (by omega), h1', h2']
      by_cases hlt : q < q'
      · rw [if_pos (nI_le (by omega) (by omega)), if_pos i01, if_neg (nI_ge (by omega) (by omega)), if_neg (by decide), bd1_s, if_pos rfl, bdS_l]
      · rw [if_neg (nI_ge (by omega) (by omega)), if_neg i10, if_pos (nI_le (by omega) (by omega)), if_pos i01, if_neg (by decide), bd1_s, if_pos rfl, bdS_l]
  | m + 1, k, n + 1, n' + 1, hk, hn, hn' => by
    unfold L_Tw_firstUnlike_1_14 L_Md_differs_26
    have e1 : 2200 * nI 1 + 2163 = nI (2200 * 1 + 2163) := by
      rw [l2200, l2163]
      simp only [pk_mul, nI_add]
    have e2 : ((2200 * nI 1 + 0) + (5 * nI k)) + 1 = nI (2200 * 1 + 5 * k + 1) := by
      rw [l2200, l5, l0, l1]
      simp only [pk_mul, nI_add, Nat.add_zero]
    have g1 : ¬ ((12 : Int32) ≤ nI k) := by rw [l12]; exact nI_ge (by omega) (by omega)
    have g2 : ¬ (nI q ≤ nI k) := nI_ge (by omega) (by omega)
    have g3 : ¬ (nI q' ≤ nI k) := nI_ge (by omega) (by omega)
    rw [if_neg (nI_ge (by omega) (by omega)), if_pos (inb_t (N := 12) (by omega) (by omega)), if_neg g1, e1, if_pos (inb_t (n := 2200 * 1 + 2163) (by omega) (by omega)), nI_clamp (n := k) (by omega), nI_clamp (by omega), h1', h2', if_neg g2, if_neg (i10), if_neg g3, if_neg (i10), m_cash (by omega), bd1_s, e2, if_pos (inb_t (by omega) (by omega)), nI_clamp (by omega), nI_1]
    have ea : f_Md_ageAt (nI k) 0 0 = some (nI (60 + (10 * (5 * k + 0) + 0))) := m_ageAt
    rw [ea, bd1_s, (hc k (by omega)).1, (hc k (by omega)).2]
    by_cases hcash : D 89 (5 * k + 1) = D 90 (2200 * 1 + 5 * k + 1)
    · have ej : al (D 89) (fun i => D 90 (2200 * 1 + i)) (60 + (10 * (5 * k + 0) + 0)) 50 = al (C 8) (C 63) (50 * k) 50 := al_congr 50 _ _ fun j hj => by
        have := hp (50 * k + j) (by omega)
        rw [this.1, this.2]
        exact ⟨congrArg (D 89) (by omega), congrArg (D 90) (by omega)⟩
      rw [if_pos hcash, if_pos hcash, v_isAlike_1 (by omega), bd1_s, m_differs_in (w := 1) (a := k) (by omega) (by omega) rfl 50 _ 3000 (by omega) (by omega), bd1_s, bd1_s, ej]
      rcases al_01 (f := C 8) (g := C 63) 50 (50 * k) with h | h
      · rw [h, if_pos rfl, if_pos rfl, bdS_l, bdS_l]
        exact ⟨_, rfl, rfl⟩
      · rw [h, if_neg i10, if_neg i10]
        exact s_firstUnlike_1 hq hq' hmn h1 h1' h2 h2' hc hp m (k + 1) n n' (by omega) (by omega) (by omega)
    · rw [if_neg hcash, if_neg hcash, m_differs_in0 (w := 1) (a := k) (by omega) rfl 50 _ 3000 (by omega) (by omega), bd1_s, bd1_s, if_pos rfl, bdS_l, bdS_l]
      exact ⟨_, rfl, rfl⟩
theorem s_unlike_1 {t : Nat} {C D : St} (h : Rel t C D) (h1 : C 18 1 = 1) : ∃ v : Int32, f_Tw_firstUnlike_1 C = some v ∧ bdS (L_Md_differs_26 3000 (nI 1) 0 D) (fun e => some e) (fun _ => some (-1000000005)) = some v := by
  obtain ⟨hR, ⟨q, d, hW⟩, hWD, -⟩ := h
  obtain ⟨rR, q', d', rW⟩ := (hWD 1 (by omega)).2.2 h1
  have a1 := hW.1.2.1
  have a2 := rW.1.2.1
  simp only [Nat.zero_add, Nat.reduceMul, Nat.reduceAdd] at a1 a2
  have b1 : D 89 2163 = nI q := (rt_n hR).1 ▸ a1
  have b2 : D 90 (2200 * 1 + 2163) = nI q' := by
    have := rR.1.1
    simp only [Nat.zero_add, Nat.reduceMul, Nat.reduceAdd] at this ⊢
    exact this ▸ a2
  have e : (if C 56 0 < C 1 0 then C 56 0 else C 1 0 : Int32) = nI (min q q') := by
    rw [a1, a2]
    by_cases hlt : q' < q
    · rw [if_pos (nI_lt hlt (by have := hW.1.1; omega)), Nat.min_eq_right (by omega)]
    · rw [if_neg (by rw [Int32.lt_iff_toInt_lt, nI_toInt (by have := rW.1.1; omega), nI_toInt (by have := hW.1.1; omega)]; omega), Nat.min_eq_left (by omega)]
  unfold f_Tw_firstUnlike_1
  rw [e, a1, a2]
  refine s_firstUnlike_1 hW.1.1 rW.1.1 rfl a1 b1 a2 b2 (fun a ha => ⟨(rt_a hR ha).2.1, ?_⟩) (fun i hi => ⟨rt_p hR hi, ?_⟩) (min q q') 0 3000 3000 (by omega) (by have := hW.1.1; omega) (by omega)
  · exact (rR.2.1 a ha).2.1
  · exact rR.2.2.1 i hi
theorem v_isAlike_2_l {C : St} {e : Nat} (he : e ≤ 600) : ∀ (m k n : Nat), k + m = e → m < n → L_Sk_isAlike_2_17 n (nI e) (nI k) C = if al (C 8) (C 79) k m = 0 then some (.inl 0) else some (.inr ())
  | 0, k, n + 1, hk, hn => by
    unfold L_Sk_isAlike_2_17 al
    rw [if_pos (nI_le (by omega) (by omega)), if_neg i10]
  | m + 1, k, n + 1, hk, hn => by
    unfold L_Sk_isAlike_2_17 al
    rw [if_neg (nI_ge (by omega) (by omega)), if_pos (inb_t (by omega) (by omega)), nI_clamp (by omega), nI_1]
    by_cases h : C 8 k = C 79 k
    · rw [if_pos h, if_pos h]
      exact v_isAlike_2_l he m (k + 1) n (by omega) (by omega)
    · rw [if_neg h, if_neg h, if_pos rfl]
theorem v_isAlike_2 {C : St} {a : Nat} (ha : a < 12) : f_Sk_isAlike_2 (nI a) C = some (al (C 8) (C 79) (50 * a) 50) := by
  have e1 : ((nI a + 1) * 5) * 10 = nI (50 * (a + 1)) := by
    rw [nI_1, l5, l10]
    simp only [pk_mul]
    exact congrArg nI (by omega)
  have e2 : (nI a * 5) * 10 = nI (50 * a) := by
    rw [l5, l10]
    simp only [pk_mul]
    exact congrArg nI (by omega)
  unfold f_Sk_isAlike_2
  rw [e1, e2, v_isAlike_2_l (by omega) 50 (50 * a) 3000 (by omega) (by omega)]
  rcases al_01 (f := C 8) (g := C 79) 50 (50 * a) with h | h
  · rw [h, if_pos rfl, bdS_l]
  · rw [h, if_neg i10, bdS_r]
theorem s_firstUnlike_2 {C D : St} {q q' mn : Nat} (hq : q ≤ 12) (hq' : q' ≤ 12) (hmn : mn = min q q') (h1 : C 1 0 = nI q) (h1' : D 89 2163 = nI q) (h2 : C 72 0 = nI q') (h2' : D 90 (2200 * 2 + 2163) = nI q')
    (hc : ∀ a, a < 12 → C 3 a = D 89 (5 * a + 1) ∧ C 74 a = D 90 (2200 * 2 + 5 * a + 1)) (hp : ∀ i, i < 600 → C 8 i = D 89 (60 + i) ∧ C 79 i = D 90 (2200 * 2 + 60 + i)) : ∀ (m k n n' : Nat), k + m = mn → m < n → 12 - k < n' → ∃ v : Int32, bdS (L_Tw_firstUnlike_2_14 n (nI mn) (nI k) C) (fun e11 => some e11) (fun _ => some (if nI q = nI q' then (-1000000005) else nI mn : Int32)) = some v ∧ bdS (L_Md_differs_26 n' (nI 2) (nI k) D) (fun e => some e) (fun _ => some (-1000000005)) = some v
  | 0, k, n + 1, n' + 1, hk, hn, hn' => by
    obtain rfl : k = mn := by omega
    unfold L_Tw_firstUnlike_2_14
    rw [if_pos (Int32.le_refl _), bdS_r]
    by_cases he : q = q'
    · subst he
      rw [if_pos rfl, m_differs_tail (w := 2) (by omega) hq h1' h2' (12 - k) k (n' + 1) (by omega) (by omega) (by omega), bdS_r]
      exact ⟨_, rfl, rfl⟩
    · rw [if_neg (by rw [nI_eq (by omega) (by omega)]; exact he)]
      refine ⟨_, rfl, ?_⟩
      unfold L_Md_differs_26
      have e1 : 2200 * nI 2 + 2163 = nI (2200 * 2 + 2163) := by
        rw [l2200, l2163]
        simp only [pk_mul, nI_add]
      rw [if_neg (by rw [l12]; exact nI_ge (by omega) (by omega)), e1, if_pos (inb_t (by omega) (by omega)), nI_clamp (by omega), h1', h2']
      by_cases hlt : q < q'
      · rw [if_pos (nI_le (by omega) (by omega)), if_pos i01, if_neg (nI_ge (by omega) (by omega)), if_neg (by decide), bd1_s, if_pos rfl, bdS_l]
      · rw [if_neg (nI_ge (by omega) (by omega)), if_neg i10, if_pos (nI_le (by omega) (by omega)), if_pos i01, if_neg (by decide), bd1_s, if_pos rfl, bdS_l]
  | m + 1, k, n + 1, n' + 1, hk, hn, hn' => by
    unfold L_Tw_firstUnlike_2_14 L_Md_differs_26
    have e1 : 2200 * nI 2 + 2163 = nI (2200 * 2 + 2163) := by
      rw [l2200, l2163]
      simp only [pk_mul, nI_add]
    have e2 : ((2200 * nI 2 + 0) + (5 * nI k)) + 1 = nI (2200 * 2 + 5 * k + 1) := by
      rw [l2200, l5, l0, l1]
      simp only [pk_mul, nI_add, Nat.add_zero]
    have g1 : ¬ ((12 : Int32) ≤ nI k) := by rw [l12]; exact nI_ge (by omega) (by omega)
    have g2 : ¬ (nI q ≤ nI k) := nI_ge (by omega) (by omega)
    have g3 : ¬ (nI q' ≤ nI k) := nI_ge (by omega) (by omega)
    rw [if_neg (nI_ge (by omega) (by omega)), if_pos (inb_t (N := 12) (by omega) (by omega)), if_neg g1, e1, if_pos (inb_t (n := 2200 * 2 + 2163) (by omega) (by omega)), nI_clamp (n := k) (by omega), nI_clamp (by omega), h1', h2', if_neg g2, if_neg (i10), if_neg g3, if_neg (i10), m_cash (by omega), bd1_s, e2, if_pos (inb_t (by omega) (by omega)), nI_clamp (by omega), nI_1]
    have ea : f_Md_ageAt (nI k) 0 0 = some (nI (60 + (10 * (5 * k + 0) + 0))) := m_ageAt
    rw [ea, bd1_s, (hc k (by omega)).1, (hc k (by omega)).2]
    by_cases hcash : D 89 (5 * k + 1) = D 90 (2200 * 2 + 5 * k + 1)
    · have ej : al (D 89) (fun i => D 90 (2200 * 2 + i)) (60 + (10 * (5 * k + 0) + 0)) 50 = al (C 8) (C 79) (50 * k) 50 := al_congr 50 _ _ fun j hj => by
        have := hp (50 * k + j) (by omega)
        rw [this.1, this.2]
        exact ⟨congrArg (D 89) (by omega), congrArg (D 90) (by omega)⟩
      rw [if_pos hcash, if_pos hcash, v_isAlike_2 (by omega), bd1_s, m_differs_in (w := 2) (a := k) (by omega) (by omega) rfl 50 _ 3000 (by omega) (by omega), bd1_s, bd1_s, ej]
      rcases al_01 (f := C 8) (g := C 79) 50 (50 * k) with h | h
      · rw [h, if_pos rfl, if_pos rfl, bdS_l, bdS_l]
        exact ⟨_, rfl, rfl⟩
      · rw [h, if_neg i10, if_neg i10]
        exact s_firstUnlike_2 hq hq' hmn h1 h1' h2 h2' hc hp m (k + 1) n n' (by omega) (by omega) (by omega)
    · rw [if_neg hcash, if_neg hcash, m_differs_in0 (w := 2) (a := k) (by omega) rfl 50 _ 3000 (by omega) (by omega), bd1_s, bd1_s, if_pos rfl, bdS_l, bdS_l]
      exact ⟨_, rfl, rfl⟩
theorem s_unlike_2 {t : Nat} {C D : St} (h : Rel t C D) (h1 : C 18 2 = 1) : ∃ v : Int32, f_Tw_firstUnlike_2 C = some v ∧ bdS (L_Md_differs_26 3000 (nI 2) 0 D) (fun e => some e) (fun _ => some (-1000000005)) = some v := by
  obtain ⟨hR, ⟨q, d, hW⟩, hWD, -⟩ := h
  obtain ⟨rR, q', d', rW⟩ := (hWD 2 (by omega)).2.2 h1
  have a1 := hW.1.2.1
  have a2 := rW.1.2.1
  simp only [Nat.zero_add, Nat.reduceMul, Nat.reduceAdd] at a1 a2
  have b1 : D 89 2163 = nI q := (rt_n hR).1 ▸ a1
  have b2 : D 90 (2200 * 2 + 2163) = nI q' := by
    have := rR.1.1
    simp only [Nat.zero_add, Nat.reduceMul, Nat.reduceAdd] at this ⊢
    exact this ▸ a2
  have e : (if C 72 0 < C 1 0 then C 72 0 else C 1 0 : Int32) = nI (min q q') := by
    rw [a1, a2]
    by_cases hlt : q' < q
    · rw [if_pos (nI_lt hlt (by have := hW.1.1; omega)), Nat.min_eq_right (by omega)]
    · rw [if_neg (by rw [Int32.lt_iff_toInt_lt, nI_toInt (by have := rW.1.1; omega), nI_toInt (by have := hW.1.1; omega)]; omega), Nat.min_eq_left (by omega)]
  unfold f_Tw_firstUnlike_2
  rw [e, a1, a2]
  refine s_firstUnlike_2 hW.1.1 rW.1.1 rfl a1 b1 a2 b2 (fun a ha => ⟨(rt_a hR ha).2.1, ?_⟩) (fun i hi => ⟨rt_p hR hi, ?_⟩) (min q q') 0 3000 3000 (by omega) (by have := hW.1.1; omega) (by omega)
  · exact (rR.2.1 a ha).2.1
  · exact rR.2.2.1 i hi
theorem sim_differs_ok {t : Nat} {C D : St} (h : Rel t C D) : sim_differs Rel t C D := by
  intro a1
  unfold f_Mk_differs f_Md_differs
  rcases in_cases a1 0 2 0 2 rfl rfl (by omega) (by omega) with ⟨k, h1, h2, rfl, e1, e2⟩ | ⟨e1, e2⟩
  rotate_left
  · rw [e1, e2]; exact ⟨_, rfl, rfl, h.mono⟩
  have hk := h.2.2.1 k (by omega)
  rw [e1, e2, bd1_s, bd1_s, if_neg i10, if_neg i10, if_pos (inb_t (by omega) (by omega)), if_pos (inb_t (by omega) (by omega)), nI_clamp (by omega), ← hk.1]
  rcases hk.2.1 with h0 | h0
  · rw [h0, if_pos rfl, if_pos rfl, bd1_s]
    exact ⟨_, rfl, rfl, h.mono⟩
  · rw [h0, if_neg i10, if_neg i10]
    rcases (show k = 0 ∨ k = 1 ∨ k = 2 by omega) with rfl | rfl | rfl
    · obtain ⟨v, v1, v2⟩ := s_unlike h h0
      rw [if_pos (by decide), v1, bd1_s, bd1_s]
      exact ⟨v, rfl, v2, h.mono⟩
    · obtain ⟨v, v1, v2⟩ := s_unlike_1 h h0
      rw [if_neg (by decide), if_pos (by decide), v1, bd1_s, bd1_s]
      exact ⟨v, rfl, v2, h.mono⟩
    · obtain ⟨v, v1, v2⟩ := s_unlike_2 h h0
      rw [if_neg (by decide), if_neg (by decide), if_pos (by decide), v1, bd1_s, bd1_s]
      exact ⟨v, rfl, v2, h.mono⟩
