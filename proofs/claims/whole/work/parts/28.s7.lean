/-! PURE: about, count -/
theorem v_owed_loop {C : St} {q col : Nat} {x : Int32} (hq : q ≤ 20) (hC : C 15 0 = nI q) (hc : col < 4) : ∀ (m k n : Nat), k + m = q → m < n → L_Ln_owedWhere_5 n (nI col) x (si (fun i => if C 16 (4 * i + col) = x then C 16 (4 * i + 2) else 0) k) (nI k) C = some (si (fun i => if C 16 (4 * i + col) = x then C 16 (4 * i + 2) else 0) q)
  | 0, k, n + 1, hk, hn => by
    obtain rfl : k = q := by omega
    unfold L_Ln_owedWhere_5
    rw [hC, if_pos (Int32.le_refl _)]
  | m + 1, k, n + 1, hk, hn => by
    unfold L_Ln_owedWhere_5
    rw [hC, if_neg (nI_ge (by omega) (by omega)), v_lget (by omega) hc, bd1_s, l2, v_lget (by omega) (by omega), bd1_s, nI_1]
    have ih := v_owed_loop (x := x) hq hC hc m (k + 1) n (by omega) (by omega)
    by_cases he : C 16 (4 * k + col) = x
    · rw [if_pos he, bd1_s, ← ih]
      show L_Ln_owedWhere_5 _ _ _ _ _ _ = L_Ln_owedWhere_5 _ _ _ (_ + (if C 16 (4 * k + col) = x then C 16 (4 * k + 2) else 0)) _ _
      rw [if_pos he]
    · rw [if_neg he, bd1_s, ← ih]
      show L_Ln_owedWhere_5 _ _ _ _ _ _ = L_Ln_owedWhere_5 _ _ _ (_ + (if C 16 (4 * k + col) = x then C 16 (4 * k + 2) else 0)) _ _
      rw [if_neg he, Int32.add_zero]
theorem v_owed {C : St} {q col : Nat} {x : Int32} (hq : q ≤ 20) (hC : C 15 0 = nI q) (hc : col < 4) : f_Ln_owedWhere (nI col) x C = some (si (fun i => if C 16 (4 * i + col) = x then C 16 (4 * i + 2) else 0) q) := by
  unfold f_Ln_owedWhere
  rw [show L_Ln_owedWhere_5 3000 (nI col) x 0 0 C = _ from v_owed_loop hq hC hc q 0 3000 (by omega) (by omega), bd1_s]
theorem m_at {i k : Nat} : (1363 + (4 * nI i)) + nI k = nI (1363 + (4 * i + k)) := by
  rw [l1363, l4]
  simp only [pk_mul, nI_add]
  exact congrArg nI (by omega)
theorem m_at0 {i : Nat} : 1363 + (4 * nI i) = nI (1363 + (4 * i + 0)) := by
  rw [l1363, l4]
  simp only [pk_mul, nI_add]
  exact congrArg nI (by omega)
theorem m_owes_loop {D : St} {q : Nat} {x : Int32} (hq : q ≤ 20) (hD : D 89 2168 = nI q) : ∀ (m k n : Nat), k + m = q → m < n → L_Md_owes_4 n x (si (fun i => if D 89 (1363 + (4 * i + 1)) = x then D 89 (1363 + (4 * i + 2)) else 0) k) (nI k) D = some (si (fun i => if D 89 (1363 + (4 * i + 1)) = x then D 89 (1363 + (4 * i + 2)) else 0) q)
  | 0, k, n + 1, hk, hn => by
    obtain rfl : k = q := by omega
    unfold L_Md_owes_4
    rw [hD, if_pos (Int32.le_refl _)]
  | m + 1, k, n + 1, hk, hn => by
    unfold L_Md_owes_4
    have ih := m_owes_loop (x := x) hq hD m (k + 1) n (by omega) (by omega)
    have e1 : (1363 + (4 * nI k)) + 1 = nI (1363 + (4 * k + 1)) := m_at
    have e2 : (1363 + (4 * nI k)) + 2 = nI (1363 + (4 * k + 2)) := m_at
    rw [hD, if_neg (nI_ge (by omega) (by omega)), e1, e2, if_pos (inb_t (by omega) (by omega)), if_pos (inb_t (by omega) (by omega)), nI_clamp (by omega), nI_clamp (by omega), nI_1, ← ih]
    show _ = L_Md_owes_4 _ _ (_ + (if D 89 (1363 + (4 * k + 1)) = x then D 89 (1363 + (4 * k + 2)) else 0)) _ _
    by_cases he : D 89 (1363 + (4 * k + 1)) = x
    · rw [if_pos he, if_pos he]; rfl
    · rw [if_neg he, if_neg he]; rfl
theorem m_owed_loop {D : St} {q : Nat} {x : Int32} (hq : q ≤ 20) (hD : D 89 2168 = nI q) : ∀ (m k n : Nat), k + m = q → m < n → L_Md_owed_4 n x (si (fun i => if D 89 (1363 + (4 * i + 0)) = x then D 89 (1363 + (4 * i + 2)) else 0) k) (nI k) D = some (si (fun i => if D 89 (1363 + (4 * i + 0)) = x then D 89 (1363 + (4 * i + 2)) else 0) q)
  | 0, k, n + 1, hk, hn => by
    obtain rfl : k = q := by omega
    unfold L_Md_owed_4
    rw [hD, if_pos (Int32.le_refl _)]
  | m + 1, k, n + 1, hk, hn => by
    unfold L_Md_owed_4
    have ih := m_owed_loop (x := x) hq hD m (k + 1) n (by omega) (by omega)
    have e2 : (1363 + (4 * nI k)) + 2 = nI (1363 + (4 * k + 2)) := m_at
    rw [hD, if_neg (nI_ge (by omega) (by omega)), e2, m_at0, if_pos (inb_t (by omega) (by omega)), if_pos (inb_t (by omega) (by omega)), nI_clamp (by omega), nI_clamp (by omega), nI_1, ← ih]
    show _ = L_Md_owed_4 _ _ (_ + (if D 89 (1363 + (4 * k + 0)) = x then D 89 (1363 + (4 * k + 2)) else 0)) _ _
    by_cases he : D 89 (1363 + (4 * k + 0)) = x
    · rw [if_pos he, if_pos he]; rfl
    · rw [if_neg he, if_neg he]; rfl
theorem m_owes {D : St} {q : Nat} {x : Int32} (hq : q ≤ 20) (hD : D 89 2168 = nI q) : f_Md_owes x D = some (si (fun i => if D 89 (1363 + (4 * i + 1)) = x then D 89 (1363 + (4 * i + 2)) else 0) q) := by
  unfold f_Md_owes
  rw [show L_Md_owes_4 3000 x 0 0 D = _ from m_owes_loop hq hD q 0 3000 (by omega) (by omega), bd1_s]
theorem m_owed {D : St} {q : Nat} {x : Int32} (hq : q ≤ 20) (hD : D 89 2168 = nI q) : f_Md_owed x D = some (si (fun i => if D 89 (1363 + (4 * i + 0)) = x then D 89 (1363 + (4 * i + 2)) else 0) q) := by
  unfold f_Md_owed
  rw [show L_Md_owed_4 3000 x 0 0 D = _ from m_owed_loop hq hD q 0 3000 (by omega) (by omega), bd1_s]
theorem owed_same {C D : St} (hR : RT C D 0 89 0) {q col : Nat} {x : Int32} (hq : q ≤ 20) (hC : C 15 0 = nI q) (hc : col < 4) : si (fun i => if C 16 (4 * i + col) = x then C 16 (4 * i + 2) else 0) q = si (fun i => if D 89 (1363 + (4 * i + col)) = x then D 89 (1363 + (4 * i + 2)) else 0) q := by
  refine si_congr q fun i hi => ?_
  have e : (C 15 0).toInt = q := by rw [hC, nI_toInt (by omega)]
  rw [rt_l hR (show 4 * i + col < 80 by omega) (by omega), rt_l hR (show 4 * i + 2 < 80 by omega) (by omega)]
theorem about_out {x : Int32} (h : f_Md_isIn x 0 6 = some 0) : ∀ k : Nat, k ≤ 6 → x ≠ nI k := by
  intro k hk e
  subst e
  unfold f_Md_isIn at h
  rw [if_neg (nI_pos (by omega)), if_neg (by rw [l6]; exact nI_nlt hk (by omega))] at h
  exact absurd (Option.some.inj h) (by decide)
theorem sim_about_ok {t : Nat} {C D : St} (h : Rel t C D) : sim_about Rel t C D := by
  intro a1 a2
  obtain ⟨n, hn, hC, hD⟩ := rel_n h
  obtain ⟨q, hq, q1, q2⟩ := rel_loans h
  unfold f_Mk_about f_Md_about
  rcases agent_cases hn hC hD a1 with ⟨a, ha, rfl, e1, e2⟩ | ⟨e1, e2⟩
  rotate_left
  · rw [e1, e2]; exact ⟨_, rfl, rfl, h.mono⟩
  have c2 : inb (nI a) 12 := inb_t (by omega) (by omega)
  have ec : (nI a).toNatClampNeg = a := nI_clamp (by omega)
  have e0 : ∀ j, j < 7 → (0 + (5 * nI a)) + nI j = nI (5 * a + j) := by
    intro j hj
    rw [l0, l5]
    simp only [pk_mul, nI_add]
    exact congrArg nI (by omega)
  have ra := rt_a h.1 (show a < 12 by omega)
  rw [e1, e2, bd1_s, bd1_s, if_neg i10, if_neg i10]
  rcases in_cases a2 0 6 0 6 rfl rfl (by omega) (by omega) with ⟨k, i1, i2, rfl, g1, g2⟩ | ⟨g1, g2⟩
  · rw [g2, bd1_s, if_neg i10]
    match k, i2 with
    | 0, _ =>
      rw [if_pos (by decide), if_pos c2, ec, if_neg (by decide), if_neg (by decide), if_neg (by decide), if_neg (by decide), e0 0 (by omega), if_pos (inb_t (by omega) (by omega)), nI_clamp (by omega)]
      exact ⟨_, rfl, by rw [ra.1, Nat.add_zero], h.mono⟩
    | 1, _ =>
      rw [if_neg (by decide), if_pos (by decide), if_pos c2, ec, if_neg (by decide), if_neg (by decide), if_neg (by decide), if_neg (by decide), e0 1 (by omega), if_pos (inb_t (by omega) (by omega)), nI_clamp (by omega)]
      exact ⟨_, rfl, by rw [ra.2.1], h.mono⟩
    | 2, _ =>
      rw [if_neg (by decide), if_neg (by decide), if_pos (by decide), if_pos c2, ec, if_neg (by decide), if_neg (by decide), if_neg (by decide), if_neg (by decide), e0 2 (by omega), if_pos (inb_t (by omega) (by omega)), nI_clamp (by omega)]
      exact ⟨_, rfl, by rw [ra.2.2.1], h.mono⟩
    | 3, _ =>
      rw [if_neg (by decide), if_neg (by decide), if_neg (by decide), if_pos (by decide), if_pos c2, ec, if_pos (by decide), m_ruleMany (by omega), bd1_s]
      exact ⟨_, rfl, by rw [ra.2.2.2.2], h.mono⟩
    | 4, _ =>
      rw [if_neg (by decide), if_neg (by decide), if_neg (by decide), if_neg (by decide), if_pos (by decide), if_neg (by decide), if_pos (by decide), l1, v_owed hq q1 (by omega), bd1_s, m_owes hq q2, bd1_s]
      exact ⟨_, rfl, by rw [owed_same h.1 hq q1 (by omega)], h.mono⟩
    | 5, _ =>
      rw [if_neg (by decide), if_neg (by decide), if_neg (by decide), if_neg (by decide), if_neg (by decide), if_pos (by decide), if_neg (by decide), if_neg (by decide), if_pos (by decide), l0, v_owed hq q1 (by omega), bd1_s, m_owed hq q2, bd1_s]
      exact ⟨_, rfl, by rw [owed_same h.1 hq q1 (by omega)], h.mono⟩
    | 6, _ =>
      have e3 : (0 + (5 * nI a)) + 3 = nI (5 * a + 3) := e0 3 (by omega)
      rw [if_neg (by decide), if_neg (by decide), if_neg (by decide), if_neg (by decide), if_neg (by decide), if_neg (by decide), if_pos (by decide), if_pos c2, ec, if_neg (by decide), if_neg (by decide), if_neg (by decide), if_pos (by decide), e3, if_pos (inb_t (by omega) (by omega)), nI_clamp (by omega)]
      exact ⟨_, rfl, by rw [ra.2.2.2.1], h.mono⟩
    | k + 7, hk => exact absurd hk (by omega)
  · have ho := about_out g2
    rw [g2, bd1_s, if_pos i01, if_neg (show ¬ a2 = 0 from ho 0 (by omega)), if_neg (show ¬ a2 = 1 from ho 1 (by omega)), if_neg (show ¬ a2 = 2 from ho 2 (by omega)), if_neg (show ¬ a2 = 3 from ho 3 (by omega)), if_neg (show ¬ a2 = 4 from ho 4 (by omega)), if_neg (show ¬ a2 = 5 from ho 5 (by omega)), if_neg (show ¬ a2 = 6 from ho 6 (by omega))]
    exact ⟨_, rfl, rfl, h.mono⟩
/-- sums over agents and books -/
theorem v_cash_loop {C : St} {q : Nat} (hq : q ≤ 12) (hC : C 1 0 = nI q) : ∀ (m k n : Nat), k + m = q → m < n → L_Tw_cashInAll_4 n (si (fun a => C 3 a) k) (nI k) C = some (si (fun a => C 3 a) q)
  | 0, k, n + 1, hk, hn => by
    obtain rfl : k = q := by omega
    unfold L_Tw_cashInAll_4
    rw [hC, if_pos (Int32.le_refl _)]
  | m + 1, k, n + 1, hk, hn => by
    unfold L_Tw_cashInAll_4
    rw [hC, if_neg (nI_ge (by omega) (by omega)), if_pos (inb_t (by omega) (by omega)), nI_clamp (by omega), nI_1]
    exact v_cash_loop hq hC m (k + 1) n (by omega) (by omega)
theorem v_broke_loop {C : St} {q : Nat} (hq : q ≤ 12) (hC : C 1 0 = nI q) : ∀ (m k n : Nat), k + m = q → m < n → L_Tw_brokeAgents_4 n (si (fun a => C 4 a) k) (nI k) C = some (si (fun a => C 4 a) q)
  | 0, k, n + 1, hk, hn => by
    obtain rfl : k = q := by omega
    unfold L_Tw_brokeAgents_4
    rw [hC, if_pos (Int32.le_refl _)]
  | m + 1, k, n + 1, hk, hn => by
    unfold L_Tw_brokeAgents_4
    rw [hC, if_neg (nI_ge (by omega) (by omega)), if_pos (inb_t (by omega) (by omega)), nI_clamp (by omega), nI_1]
    exact v_broke_loop hq hC m (k + 1) n (by omega) (by omega)
theorem v_books_loop {C : St} : ∀ (m k n : Nat), k + m = 720 → m < n → L_Tw_paidByAll_4 n (si (fun a => C 6 a) k) (nI k) C = some (si (fun a => C 6 a) 720)
  | 0, k, n + 1, hk, hn => by
    obtain rfl : k = 720 := by omega
    unfold L_Tw_paidByAll_4
    rw [if_pos (by decide)]
  | m + 1, k, n + 1, hk, hn => by
    unfold L_Tw_paidByAll_4
    rw [if_neg (by rw [l720]; exact nI_ge (by omega) (by omega)), if_pos (inb_t (by omega) (by omega)), nI_clamp (by omega), nI_1]
    exact v_books_loop m (k + 1) n (by omega) (by omega)
theorem m_cash_loop {D : St} {q : Nat} (hq : q ≤ 12) (hD : D 89 2163 = nI q) : ∀ (m k n : Nat), k + m = q → m < n → L_Md_count_68 n (si (fun a => D 89 (5 * a + 1)) k) (nI k) D = some (si (fun a => D 89 (5 * a + 1)) q)
  | 0, k, n + 1, hk, hn => by
    obtain rfl : k = q := by omega
    unfold L_Md_count_68
    rw [hD, if_pos (Int32.le_refl _)]
  | m + 1, k, n + 1, hk, hn => by
    unfold L_Md_count_68
    rw [hD, if_neg (nI_ge (by omega) (by omega)), m_cash (by omega), bd1_s, nI_1]
    exact m_cash_loop hq hD m (k + 1) n (by omega) (by omega)
theorem m_broke_loop {D : St} {q : Nat} (hq : q ≤ 12) (hD : D 89 2163 = nI q) (hb : ∀ a, a < 12 → D 89 (5 * a + 2) = 0 ∨ D 89 (5 * a + 2) = 1) : ∀ (m k n : Nat), k + m = q → m < n → L_Md_count_107 n (si (fun a => D 89 (5 * a + 2)) k) (nI k) D = some (si (fun a => D 89 (5 * a + 2)) q)
  | 0, k, n + 1, hk, hn => by
    obtain rfl : k = q := by omega
    unfold L_Md_count_107
    rw [hD, if_pos (Int32.le_refl _)]
  | m + 1, k, n + 1, hk, hn => by
    unfold L_Md_count_107
    have ih := m_broke_loop hq hD hb m (k + 1) n (by omega) (by omega)
    have e : (if (if D 89 (5 * k + 2) = 1 then (1 : Int32) else 0) = 0 then (0 : Int32) else 1) = D 89 (5 * k + 2) := by
      rcases hb k (by omega) with h | h
      · rw [h]; decide
      · rw [h]; decide
    rw [hD, if_neg (nI_ge (by omega) (by omega)), m_isBroke (by omega), bd1_s, nI_1, e]
    exact ih
theorem m_books_loop {D : St} : ∀ (m k n : Nat), k + m = 720 → m < n → L_Md_count_161 n (si (fun a => D 89 (1443 + a)) k) (nI (1443 + k)) D = some (si (fun a => D 89 (1443 + a)) 720)
  | 0, k, n + 1, hk, hn => by
    obtain rfl : k = 720 := by omega
    unfold L_Md_count_161
    rw [if_pos (by decide)]
  | m + 1, k, n + 1, hk, hn => by
    unfold L_Md_count_161
    rw [if_neg (by rw [l2163]; exact nI_ge (by omega) (by omega)), if_pos (inb_t (by omega) (by omega)), nI_clamp (by omega), nI_1]
    exact m_books_loop m (k + 1) n (by omega) (by omega)
theorem sim_count_ok {t : Nat} {C D : St} (h : Rel t C D) : sim_count Rel t C D := by
  intro a1
  obtain ⟨n, hn, hC, hD⟩ := rel_n h
  obtain ⟨hR, ⟨n', d, hW⟩, hWD, ⟨q, hq, q1, q2, q3⟩, hO⟩ := id h
  have rn := rt_n hR
  unfold f_Mk_count f_Md_count
  by_cases h0 : a1 = 0
  · rw [if_pos h0, if_pos h0]; exact ⟨_, rfl, by rw [rn.1], h.mono⟩
  rw [if_neg h0, if_neg h0]
  by_cases h1 : a1 = 1
  · rw [if_pos h1, if_pos h1]; exact ⟨_, rfl, by rw [rn.2.1], h.mono⟩
  rw [if_neg h1, if_neg h1]
  by_cases h2 : a1 = 2
  · rw [if_pos h2, if_pos h2]
    unfold f_Tw_cashInAll
    rw [show L_Tw_cashInAll_4 3000 0 0 C = _ from v_cash_loop hn hC n 0 3000 (by omega) (by omega), bd1_s, bd1_s, show L_Md_count_68 3000 0 0 D = _ from m_cash_loop hn hD n 0 3000 (by omega) (by omega), bd1_s]
    exact ⟨_, rfl, congrArg some (si_congr n fun i hi => (rt_a hR (show i < 12 by omega)).2.1.symm), h.mono⟩
  rw [if_neg h2, if_neg h2]
  by_cases h3 : a1 = 3
  · rw [if_pos h3, if_pos h3]; exact ⟨_, rfl, by rw [rn.2.2.2.2.2], h.mono⟩
  rw [if_neg h3, if_neg h3]
  by_cases h4 : a1 = 4
  · rw [if_pos h4, if_pos h4]
    unfold f_Tw_brokeAgents
    have hb : ∀ a, a < 12 → D 89 (5 * a + 2) = 0 ∨ D 89 (5 * a + 2) = 1 := by
      intro a ha
      have := (hW.2.2.2.2.1 a ha).1
      simp only [Nat.zero_add] at this
      rw [(rt_a hR ha).2.2.1] at this
      obtain ⟨k, k1, k2, k3⟩ := rg_nI this
      rw [k3]
      match k, k1 with
      | 0, _ => exact Or.inl rfl
      | 1, _ => exact Or.inr rfl
      | k + 2, k1 => exact absurd k1 (by omega)
    rw [show L_Tw_brokeAgents_4 3000 0 0 C = _ from v_broke_loop hn hC n 0 3000 (by omega) (by omega), bd1_s, bd1_s, show L_Md_count_107 3000 0 0 D = _ from m_broke_loop hn hD hb n 0 3000 (by omega) (by omega), bd1_s]
    exact ⟨_, rfl, congrArg some (si_congr n fun i hi => (rt_a hR (show i < 12 by omega)).2.2.1.symm), h.mono⟩
  rw [if_neg h4, if_neg h4]
  by_cases h5 : a1 = 5
  · rw [if_pos h5, if_pos h5]; exact ⟨_, rfl, by rw [q1, q2], h.mono⟩
  rw [if_neg h5, if_neg h5]
  by_cases h6 : a1 = 6
  · rw [if_pos h6, if_pos h6]; exact ⟨_, rfl, by rw [rn.2.2.1], h.mono⟩
  rw [if_neg h6, if_neg h6]
  by_cases h7 : a1 = 7
  · rw [if_pos h7, if_pos h7]
    unfold f_Tw_paidByAll
    rw [show L_Tw_paidByAll_4 3000 0 0 C = _ from v_books_loop 720 0 3000 (by omega) (by omega), bd1_s, bd1_s, show L_Md_count_161 3000 0 1443 D = _ from m_books_loop 720 0 3000 (by omega) (by omega), bd1_s]
    exact ⟨_, rfl, congrArg some (si_congr 720 fun i hi => (rt_b hR hi).symm), h.mono⟩
  rw [if_neg h7, if_neg h7]
  exact ⟨_, rfl, rfl, h.mono⟩
