/-! PURE: calls that read -/
section R0
variable {C D : St} {t n d : Nat}
theorem rt_n (h : RT C D 0 89 0) : C 1 0 = D 89 2163 ∧ C 1 1 = D 89 2164 ∧ C 1 2 = D 89 2165 ∧ C 1 3 = D 89 2166 ∧ C 1 4 = D 89 2167 ∧ C 15 0 = D 89 2168 := by
  have := h.1
  simp only [Nat.zero_add] at this
  exact this
theorem rt_a (h : RT C D 0 89 0) {a : Nat} (ha : a < 12) : C 2 a = D 89 (5 * a) ∧ C 3 a = D 89 (5 * a + 1) ∧ C 4 a = D 89 (5 * a + 2) ∧ C 5 a = D 89 (5 * a + 3) ∧ C 13 a = D 89 (5 * a + 4) := by
  have := h.2.1 a ha
  simp only [Nat.zero_add] at this
  exact this
theorem rt_p (h : RT C D 0 89 0) {i : Nat} (hi : i < 600) : C 8 i = D 89 (60 + i) := by
  have := h.2.2.1 i hi
  simp only [Nat.zero_add] at this
  exact this
theorem rt_r (h : RT C D 0 89 0) {i : Nat} (hi : i < 648) : C 14 i = D 89 (660 + i) := by
  have := h.2.2.2.1 i hi
  simp only [Nat.zero_add] at this
  exact this
theorem rt_w (h : RT C D 0 89 0) {i : Nat} (hi : i < 55) : C 11 i = D 89 (1308 + i) := by
  have := h.2.2.2.2.1 i hi
  simp only [Nat.zero_add] at this
  exact this
theorem rt_l (h : RT C D 0 89 0) {i : Nat} (hi : i < 80) (hq : (i : Int) < 4 * (C 15 0).toInt) : C 16 i = D 89 (1363 + i) := by
  have := h.2.2.2.2.2.1 i hi
  simp only [Nat.zero_add] at this
  exact this hq
theorem rt_b (h : RT C D 0 89 0) {i : Nat} (hi : i < 720) : C 6 i = D 89 (1443 + i) := by
  have := h.2.2.2.2.2.2 i hi
  simp only [Nat.zero_add] at this
  exact this
theorem rel_n (h : Rel t C D) : ∃ n : Nat, n ≤ 12 ∧ C 1 0 = nI n ∧ D 89 2163 = nI n := by
  obtain ⟨hR, ⟨n, d, hW⟩, -⟩ := h
  have h1 := hW.1.2.1
  simp only [Nat.zero_add] at h1
  exact ⟨n, hW.1.1, h1, (rt_n hR).1 ▸ h1⟩
end R0
theorem kind_cases (x : Int32) : (∃ k : Nat, k ≤ 5 ∧ x = nI k ∧ f_Mk_isKind x = some 1 ∧ f_Md_isIn x 0 5 = some 1) ∨ (f_Mk_isKind x = some 0 ∧ f_Md_isIn x 0 5 = some 0) := by
  rcases in_cases x 0 5 0 5 rfl rfl (by omega) (by omega) with ⟨k, h1, h2, rfl, e1, e2⟩ | ⟨e1, e2⟩
  · exact Or.inl ⟨k, h2, rfl, by unfold f_Mk_isKind; rw [e1, bd1_s, if_pos (Or.inr rfl)], e2⟩
  · exact Or.inr ⟨by unfold f_Mk_isKind; rw [e1, bd1_s, if_pos (Or.inl rfl)], e2⟩
/-- an agent of kind k is an x -/
def bl (k x : Int32) : Int32 := if x = 0 then 1 else if k = x then 1 else if x = 2 then (if k = 3 then 1 else 0) else 0
theorem v_belongs {C : St} {a : Nat} (ha : a < 12) (x : Int32) : f_Tw_belongs (nI a) x C = some (bl (C 2 a) x) := by
  unfold f_Tw_belongs bl
  rw [if_pos (inb_t (by omega) (by omega)), nI_clamp (by omega)]
theorem m_isKind {D : St} {a : Nat} (ha : a < 12) (x : Int32) : f_Md_isKind (nI a) x D = some (bl (D 89 (5 * a)) x) := by
  unfold f_Md_isKind bl
  rw [m_kind ha, bd1_s, bd1_s]
  by_cases h1 : x = 0
  · rw [if_pos h1, if_pos h1]; rfl
  · rw [if_neg h1, if_neg h1]
    by_cases h2 : D 89 (5 * a) = x
    · rw [if_pos h2, if_pos h2]; rfl
    · rw [if_neg h2, if_neg h2]
      by_cases h3 : x = 2
      · rw [if_pos h3, if_pos h3]
        by_cases h4 : D 89 (5 * a) = 3
        · rw [if_pos h4, if_pos h4]; rfl
        · rw [if_neg h4, if_neg h4]; rfl
      · rw [if_neg h3, if_neg h3]; rfl
theorem sim_isOf_ok {t : Nat} {C D : St} (h : Rel t C D) : sim_isOf Rel t C D := by
  intro a1 a2
  obtain ⟨n, hn, hC, hD⟩ := rel_n h
  rcases agent_cases hn hC hD a1 with ⟨a, ha, rfl, e1, e2⟩ | ⟨e1, e2⟩
  · rcases kind_cases a2 with ⟨k, hk, rfl, f1, f2⟩ | ⟨f1, f2⟩
    · refine ⟨if bl (C 2 a) (nI k) = 0 then 0 else 1, ?_, ?_, h.mono⟩
      · unfold f_Mk_isOf; rw [e1, bd1_s, if_neg i10, f1, bd1_s, if_neg i10, v_belongs (by omega), bd1_s]
      · unfold f_Md_isOf; rw [e2, bd1_s, if_neg i10, f2, bd1_s, if_neg i10, m_isKind (by omega), bd1_s, (rt_a h.1 (show a < 12 by omega)).1]
    · refine ⟨-1000000001, ?_, ?_, h.mono⟩
      · unfold f_Mk_isOf; rw [e1, bd1_s, if_neg i10, f1, bd1_s, if_pos i01]
      · unfold f_Md_isOf; rw [e2, bd1_s, if_neg i10, f2, bd1_s, if_pos i01]
  · refine ⟨-1000000001, ?_, ?_, h.mono⟩
    · unfold f_Mk_isOf; rw [e1, bd1_s, if_pos i01]
    · unfold f_Md_isOf; rw [e2, bd1_s, if_pos i01]
theorem sim_has_ok {t : Nat} {C D : St} (ht : t < 512) (h : Rel t C D) : sim_has Rel t C D := by
  intro a1 a2 a3
  obtain ⟨n, hn, hC, hD⟩ := rel_n h
  rcases agent_cases hn hC hD a1 with ⟨a, ha, rfl, e1, e2⟩ | ⟨e1, e2⟩
  · rcases good_cases a2 with ⟨g, hg, rfl, f1, f2⟩ | ⟨f1, f2⟩
    · rcases inm_cases a3 9 9 rfl (by omega) with ⟨rfl, g1, g2⟩ | ⟨k, hk, rfl, g1, g2⟩ | ⟨g1, g2⟩
      · obtain ⟨hR, ⟨n', d, hW⟩, -⟩ := id h
        refine ⟨C 9 (5 * a + g), ?_, ?_, h.mono⟩
        · unfold f_Mk_has; rw [e1, bd1_s, if_neg i10, f1, bd1_s, if_neg i10, g1, bd1_s, if_neg i10, if_neg (by decide), v_all (by omega) hg]; rfl
        · unfold f_Md_has; rw [e2, bd1_s, if_neg i10, f2, bd1_s, if_neg i10, g2, bd1_s, if_neg i10, if_neg (by decide), all_hasAll hR hW (by omega) (by omega) hg]; rfl
      · refine ⟨C 8 (10 * (5 * a + g) + k), ?_, ?_, h.mono⟩
        · unfold f_Mk_has; rw [e1, bd1_s, if_neg i10, f1, bd1_s, if_neg i10, g1, bd1_s, if_neg i10, if_pos (nI_pos' (by omega)), v_ofAge (by omega) hg (by omega)]; rfl
        · unfold f_Md_has; rw [e2, bd1_s, if_neg i10, f2, bd1_s, if_neg i10, g2, bd1_s, if_neg i10, if_pos (nI_pos' (by omega)), m_ageAt, bd1_s, if_pos (inb_t (by omega) (by omega)), nI_clamp (by omega), rt_p h.1 (show 10 * (5 * a + g) + k < 600 by omega)]; rfl
      · refine ⟨-1000000001, ?_, ?_, h.mono⟩
        · unfold f_Mk_has; rw [e1, bd1_s, if_neg i10, f1, bd1_s, if_neg i10, g1, bd1_s, if_pos i01]
        · unfold f_Md_has; rw [e2, bd1_s, if_neg i10, f2, bd1_s, if_neg i10, g2, bd1_s, if_pos i01]
    · refine ⟨-1000000001, ?_, ?_, h.mono⟩
      · unfold f_Mk_has; rw [e1, bd1_s, if_neg i10, f1, bd1_s, if_pos i01]
      · unfold f_Md_has; rw [e2, bd1_s, if_neg i10, f2, bd1_s, if_pos i01]
  · refine ⟨-1000000001, ?_, ?_, h.mono⟩
    · unfold f_Mk_has; rw [e1, bd1_s, if_pos i01]
    · unfold f_Md_has; rw [e2, bd1_s, if_pos i01]
/-- below a number of RULES -/
theorem many_cases (x : Int32) {q : Nat} (hq : q ≤ 100) : (∃ k : Nat, k < q ∧ x = nI k ∧ f_Mk_isWithin x 0 (nI q - 1) = some 1 ∧ f_Md_isIn x 0 (nI q - 1) = some 1) ∨ (f_Mk_isWithin x 0 (nI q - 1) = some 0 ∧ f_Md_isIn x 0 (nI q - 1) = some 0) := by
  by_cases hz : q = 0
  · subst hz
    have e0 : (nI 0 - 1) = (-1 : Int32) := by decide
    rw [e0]
    refine Or.inr ?_
    by_cases h1 : x < 0
    · exact ⟨by unfold f_Mk_isWithin; rw [if_pos h1], by unfold f_Md_isIn; rw [if_pos h1]⟩
    · have h2 : (-1 : Int32) < x := by
        rw [Int32.lt_iff_toInt_lt, Int32.toInt_zero] at h1
        rw [Int32.lt_iff_toInt_lt, show ((-1 : Int32)).toInt = -1 by decide]
        omega
      exact ⟨by unfold f_Mk_isWithin; rw [if_neg h1, if_pos h2], by unfold f_Md_isIn; rw [if_neg h1, if_pos h2]⟩
  · rw [nI_m1 (by omega)]
    rcases in_cases x 0 (nI (q - 1)) 0 (q - 1) rfl rfl (by omega) (by omega) with ⟨k, h1, h2, rfl, e1, e2⟩ | ⟨e1, e2⟩
    · exact Or.inl ⟨k, by omega, rfl, e1, e2⟩
    · exact Or.inr ⟨e1, e2⟩
theorem rel_size {t : Nat} {C D : St} (h : Rel t C D) {a : Nat} (ha : a < 12) : ∃ q : Nat, q ≤ 6 ∧ C 13 a = nI q ∧ D 89 (5 * a + 4) = nI q := by
  obtain ⟨hR, ⟨n, d, hW⟩, -⟩ := h
  have h1 := (hW.2.2.2.2.2.1 a ha).1
  simp only [Nat.zero_add] at h1
  obtain ⟨q, h2, h3, h4⟩ := rg_nI h1
  exact ⟨q, by omega, h4, (rt_a hR ha).2.2.2.2 ▸ h4⟩
theorem sim_told_ok {t : Nat} {C D : St} (h : Rel t C D) : sim_told Rel t C D := by
  intro a1 a2 a3
  obtain ⟨n, hn, hC, hD⟩ := rel_n h
  rcases agent_cases hn hC hD a1 with ⟨a, ha, rfl, e1, e2⟩ | ⟨e1, e2⟩
  · obtain ⟨q, hq, q1, q2⟩ := rel_size h (show a < 12 by omega)
    have c1 : C 13 (nI a).toNatClampNeg = nI q := by rw [nI_clamp (by omega)]; exact q1
    have c2 : inb (nI a) 12 := inb_t (by omega) (by omega)
    rcases in_cases a3 0 8 0 8 rfl rfl (by omega) (by omega) with ⟨i, i1, i2, rfl, f1, f2⟩ | ⟨f1, f2⟩
    · rcases many_cases a2 (q := q) (by omega) with ⟨k, hk, rfl, g1, g2⟩ | ⟨g1, g2⟩
      · refine ⟨C 14 (9 * (6 * a + k) + i), ?_, ?_, h.mono⟩
        · unfold f_Mk_told; rw [e1, bd1_s, if_neg i10, f1, bd1_s, if_neg i10, if_pos c2, c1, g1, bd1_s, if_neg i10, v_rget (by omega) (by omega) (by omega), bd1_s]
        · unfold f_Md_told; rw [e2, bd1_s, if_neg i10, m_ruleMany (by omega), bd1_s, q2, g2, bd1_s, if_neg i10, f2, bd1_s, if_neg i10, m_ruleIs (by omega) (by omega) (by omega), bd1_s, rt_r h.1 (show 9 * (6 * a + k) + i < 648 by omega)]
      · refine ⟨-1000000001, ?_, ?_, h.mono⟩
        · unfold f_Mk_told; rw [e1, bd1_s, if_neg i10, f1, bd1_s, if_neg i10, if_pos c2, c1, g1, bd1_s, if_pos i01]
        · unfold f_Md_told; rw [e2, bd1_s, if_neg i10, m_ruleMany (by omega), bd1_s, q2, g2, bd1_s, if_pos i01]
    · rcases many_cases a2 (q := q) (by omega) with ⟨k, hk, rfl, g1, g2⟩ | ⟨g1, g2⟩
      · refine ⟨-1000000001, ?_, ?_, h.mono⟩
        · unfold f_Mk_told; rw [e1, bd1_s, if_neg i10, f1, bd1_s, if_pos i01]
        · unfold f_Md_told; rw [e2, bd1_s, if_neg i10, m_ruleMany (by omega), bd1_s, q2, g2, bd1_s, if_neg i10, f2, bd1_s, if_pos i01]
      · refine ⟨-1000000001, ?_, ?_, h.mono⟩
        · unfold f_Mk_told; rw [e1, bd1_s, if_neg i10, f1, bd1_s, if_pos i01]
        · unfold f_Md_told; rw [e2, bd1_s, if_neg i10, m_ruleMany (by omega), bd1_s, q2, g2, bd1_s, if_pos i01]
  · refine ⟨-1000000001, ?_, ?_, h.mono⟩
    · unfold f_Mk_told; rw [e1, bd1_s, if_pos i01]
    · unfold f_Md_told; rw [e2, bd1_s, if_pos i01]
theorem rel_loans {t : Nat} {C D : St} (h : Rel t C D) : ∃ q : Nat, q ≤ 20 ∧ C 15 0 = nI q ∧ D 89 2168 = nI q := by
  obtain ⟨hR, ⟨n, d, hW⟩, -⟩ := h
  obtain ⟨q, h1, h2, -⟩ := hW.2.2.2.2.2.2.2.2.2.2
  simp only [Nat.zero_add] at h2
  exact ⟨q, h1, h2, (rt_n hR).2.2.2.2.2 ▸ h2⟩
theorem sim_loan_ok {t : Nat} {C D : St} (h : Rel t C D) : sim_loan Rel t C D := by
  intro a1 a2
  obtain ⟨q, hq, q1, q2⟩ := rel_loans h
  by_cases hneg : a1 < 0
  · refine ⟨-1000000001, ?_, ?_, h.mono⟩
    · unfold f_Mk_loan; rw [if_pos hneg]
    · unfold f_Md_loan; rw [if_pos hneg]
  · obtain ⟨i, hi, rfl⟩ := nI_of hneg
    rcases in_cases a2 0 3 0 3 rfl rfl (by omega) (by omega) with ⟨k, i1, i2, rfl, f1, f2⟩ | ⟨f1, f2⟩
    · by_cases hle : nI q ≤ nI i
      · refine ⟨-1000000005, ?_, ?_, h.mono⟩
        · unfold f_Mk_loan; rw [if_neg hneg, f1, bd1_s, if_neg i10, q1, if_pos hle, bd1_s]
        · unfold f_Md_loan; rw [if_neg hneg, f2, bd1_s, if_neg i10, q2, if_pos hle, bd1_s]
      · have hlt : i < q := by rw [nI_leI (by omega) hi] at hle; omega
        have e : (1363 + (4 * nI i)) + nI k = nI (1363 + (4 * i + k)) := by
          rw [l1363, l4]
          simp only [pk_mul, nI_add]
          exact congrArg nI (by omega)
        refine ⟨C 16 (4 * i + k), ?_, ?_, h.mono⟩
        · unfold f_Mk_loan; rw [if_neg hneg, f1, bd1_s, if_neg i10, q1, if_neg hle, v_lget (by omega) (by omega), bd1_s, bd1_s]
        · unfold f_Md_loan; rw [if_neg hneg, f2, bd1_s, if_neg i10, q2, if_neg hle, e, if_pos (inb_t (by omega) (by omega)), nI_clamp (by omega), bd1_s, rt_l h.1 (show 4 * i + k < 80 by omega) (by rw [q1, nI_toInt (by omega)]; omega)]
    · refine ⟨-1000000001, ?_, ?_, h.mono⟩
      · unfold f_Mk_loan; rw [if_neg hneg, f1, bd1_s, if_pos i01]
      · unfold f_Md_loan; rw [if_neg hneg, f2, bd1_s, if_pos i01]
