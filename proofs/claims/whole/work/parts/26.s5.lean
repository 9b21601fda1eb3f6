/-! PURE: unrule, agent, give -/
/-- one number of one agent, on both sides -/
theorem rt_put {C D : St} (h : RT C D 0 89 0) {c j a : Nat} (hcj : (c = 2 ∧ j = 0) ∨ (c = 3 ∧ j = 1) ∨ (c = 4 ∧ j = 2) ∨ (c = 5 ∧ j = 3) ∨ (c = 13 ∧ j = 4)) (ha : a < 12) (x : Int32) : RT (mj_wr C c a x) (mj_wr D 89 (5 * a + j) x) 0 89 0 := by
  have key : ∀ c' j' : Nat, j' < 5 → (c' = c ↔ j' = j) → ∀ b, b < 12 → C c' b = D 89 (5 * b + j') → mj_wr C c a x c' b = mj_wr D 89 (5 * a + j) x 89 (5 * b + j') := by
    intro c' j' hj' hiff b hb he
    unfold mj_wr
    by_cases h1 : c' = c ∧ b = a
    · have h2 : j' = j := hiff.mp h1.1
      rw [if_pos h1, if_pos ⟨rfl, by omega⟩]
    · rw [if_neg h1, if_neg, he]
      rintro ⟨-, h3⟩
      have h4 : j' = j ∧ b = a := by omega
      exact h1 ⟨hiff.mpr h4.1, h4.2⟩
  have kc : ∀ c' i : Nat, c' ≠ c → mj_wr C c a x c' i = C c' i := fun c' i hc => wr_cell C x hc
  have kd : ∀ i : Nat, 60 ≤ i → mj_wr D 89 (5 * a + j) x 89 i = D 89 i := fun i hi => wr_idx D x (by omega)
  obtain ⟨r1, rA, rP, rR, rW, rL, rB⟩ := h
  simp only [Nat.zero_add] at r1 rA rP rR rW rL rB
  unfold RT
  simp only [Nat.zero_add]
  rw [kc 1 0 (by omega), kc 1 1 (by omega), kc 1 2 (by omega), kc 1 3 (by omega), kc 1 4 (by omega), kc 15 0 (by omega), kd 2163 (by omega), kd 2164 (by omega), kd 2165 (by omega), kd 2166 (by omega), kd 2167 (by omega), kd 2168 (by omega)]
  refine ⟨r1, fun b hb => ?_, fun i hi => ?_, fun i hi => ?_, fun i hi => ?_, fun i hi hq => ?_, fun i hi => ?_⟩
  · obtain ⟨q1, q2, q3, q4, q5⟩ := rA b hb
    exact ⟨key 2 0 (by omega) (by omega) b hb q1, key 3 1 (by omega) (by omega) b hb q2, key 4 2 (by omega) (by omega) b hb q3, key 5 3 (by omega) (by omega) b hb q4, key 13 4 (by omega) (by omega) b hb q5⟩
  · rw [kc 8 i (by omega), kd _ (by omega)]; exact rP i hi
  · rw [kc 14 i (by omega), kd _ (by omega)]; exact rR i hi
  · rw [kc 11 i (by omega), kd _ (by omega)]; exact rW i hi
  · rw [kc 16 i (by omega), kd _ (by omega)]; exact rL i hi hq
  · rw [kc 6 i (by omega), kd _ (by omega)]; exact rB i hi
/-- one number of the town, on both sides -/
theorem rt_sc {C D : St} (h : RT C D 0 89 0) {k : Nat} (hk : k < 5) (x : Int32) : RT (mj_wr C 1 k x) (mj_wr D 89 (2163 + k) x) 0 89 0 := by
  have key : ∀ q, q < 5 → C 1 q = D 89 (2163 + q) → mj_wr C 1 k x 1 q = mj_wr D 89 (2163 + k) x 89 (2163 + q) := by
    intro q hq he
    by_cases h1 : q = k
    · subst h1; rw [wr_same, wr_same]
    · rw [wr_idx _ _ h1, wr_idx _ _ (by omega)]; exact he
  have kc : ∀ c' i : Nat, c' ≠ 1 → mj_wr C 1 k x c' i = C c' i := fun c' i hc => wr_cell C x hc
  have kd : ∀ i : Nat, i < 2163 → mj_wr D 89 (2163 + k) x 89 i = D 89 i := fun i hi => wr_idx D x (by omega)
  obtain ⟨⟨r1, r2, r3, r4, r5, r6⟩, rA, rP, rR, rW, rL, rB⟩ := h
  simp only [Nat.zero_add] at r1 r2 r3 r4 r5 r6 rA rP rR rW rL rB
  unfold RT
  simp only [Nat.zero_add]
  refine ⟨⟨key 0 (by omega) r1, key 1 (by omega) r2, key 2 (by omega) r3, key 3 (by omega) r4, key 4 (by omega) r5, ?_⟩, fun b hb => ?_, fun i hi => ?_, fun i hi => ?_, fun i hi => ?_, fun i hi hq => ?_, fun i hi => ?_⟩
  · rw [kc 15 0 (by omega), wr_idx _ _ (by omega)]; exact r6
  · rw [kc 2 b (by omega), kc 3 b (by omega), kc 4 b (by omega), kc 5 b (by omega), kc 13 b (by omega), kd (5 * b) (by omega), kd (5 * b + 1) (by omega), kd (5 * b + 2) (by omega), kd (5 * b + 3) (by omega), kd (5 * b + 4) (by omega)]; exact rA b hb
  · rw [kc 8 i (by omega), kd _ (by omega)]; exact rP i hi
  · rw [kc 14 i (by omega), kd _ (by omega)]; exact rR i hi
  · rw [kc 11 i (by omega), kd _ (by omega)]; exact rW i hi
  · rw [kc 16 i (by omega), kd _ (by omega)]; rw [kc 15 0 (by omega)] at hq; exact rL i hi hq
  · rw [kc 6 i (by omega), kd _ (by omega)]; exact rB i hi
theorem sim_unrule_ok {t : Nat} {C D : St} (h : Rel t C D) : sim_unrule Rel t C D := by
  intro a1
  obtain ⟨n, hn, hC, hD⟩ := rel_n h
  unfold f_Mk_unrule f_Md_unrule
  rcases agent_cases hn hC hD a1 with ⟨a, ha, rfl, e1, e2⟩ | ⟨e1, e2⟩
  rotate_left
  · rw [e1, e2]; exact ⟨_, _, _, rfl, rfl, h.mono⟩
  obtain ⟨q, hq, q1, q2⟩ := rel_size h (show a < 12 by omega)
  have c2 : inb (nI a) 12 := inb_t (by omega) (by omega)
  have ec : (nI a).toNatClampNeg = a := nI_clamp (by omega)
  have e4 : (0 + (5 * nI a)) + 4 = nI (5 * a + 4) := by
    rw [l0, l5, l4]
    simp only [pk_mul, nI_add]
    exact congrArg nI (by omega)
  rw [e1, e2, bd1_s, bd1_s, if_neg i10, if_neg i10, m_ruleMany (by omega), bd1_s, q2]
  unfold f_Rl_dropLast
  rw [if_pos c2, ec, q1]
  by_cases hz : q = 0
  · subst hz
    rw [if_neg (by decide), if_pos (by decide)]
    exact ⟨_, _, _, rfl, rfl, h.mono⟩
  · rw [if_pos (by rw [l0]; exact nI_lt (by omega) (by omega)), if_neg (nI_ne0 (by omega) (by omega)), nI_m1 (by omega), wr_same, bd2_s, e4, if_pos (inb_t (by omega) (by omega)), nI_clamp (by omega), q2, nI_m1 (by omega), m_ruleMany (by omega), bd1_s, wr_same]
    refine ⟨_, _, _, rfl, rfl, ?_⟩
    obtain ⟨hR, ⟨n', d, hW⟩, hWD, hT, hO⟩ := h.mono
    refine ⟨rt_put hR (by omega) (by omega) _, ⟨n', d, ?_⟩, hWD.frame (fun j h1 h2 => ?_) ?_ ?_ ?_, hT.frame ?_ ?_ ?_ ?_, ?_⟩
    · unfold WTn at hW ⊢
      simp (disch := omega) only [Nat.zero_add, Nat.reduceAdd, wr_row] at hW ⊢
      refine ⟨hW.1, hW.2.1, hW.2.2.1, hW.2.2.2.1, hW.2.2.2.2.1, fun b hb => ?_, hW.2.2.2.2.2.2.1, hW.2.2.2.2.2.2.2.1, hW.2.2.2.2.2.2.2.2.1, fun b k hb hk hs => ?_, hW.2.2.2.2.2.2.2.2.2.2⟩
      · by_cases hba : b = a
        · subst hba
          rw [wr_same]
          refine ⟨rg_of (by omega) (by omega) (by omega), fun hnb => ?_⟩
          have := (hW.2.2.2.2.2.1 b hb).2 hnb
          rw [q1] at this
          exact absurd this (nI_ne0 (by omega) (by omega))
        · rw [wr_idx C _ hba]; exact hW.2.2.2.2.2.1 b hb
      · refine hW.2.2.2.2.2.2.2.2.2.1 b k hb hk ?_
        by_cases hba : b = a
        · subst hba
          rw [wr_same, nI_toInt (by omega)] at hs
          rw [q1, nI_toInt (by omega)]
          omega
        · rw [wr_idx C _ hba] at hs; exact hs
    all_goals simp (disch := omega) only [wr_row, wr_cell, wr_idx]
    exact hO
theorem sim_agent_ok {t : Nat} {C D : St} (h : Rel t C D) : sim_agent Rel t C D := by
  intro a1 a2
  unfold f_Mk_agent f_Md_agent
  rcases kind_cases a1 with ⟨k, hk, rfl, f1, f2⟩ | ⟨f1, f2⟩
  rotate_left
  · rw [f1, f2]; exact ⟨_, _, _, rfl, rfl, h.mono⟩
  rcases in_cases a2 0 100000 0 100000 rfl rfl (by omega) (by omega) with ⟨c, i1, i2, rfl, g1, g2⟩ | ⟨g1, g2⟩
  rotate_left
  · rw [f1, f2, g1, g2]; exact ⟨_, _, _, rfl, rfl, h.mono⟩
  obtain ⟨hR, ⟨n, d, hW⟩, hWD, hT, hO⟩ := h.mono
  have hC := hW.1.2.1
  simp only [Nat.zero_add] at hC
  have hD : D 89 2163 = nI n := (rt_n hR).1 ▸ hC
  have hn := hW.1.1
  rw [f1, f2, g1, g2, bd1_s, bd1_s, bd1_s, bd1_s, if_neg i10, if_neg i10, if_neg i10, if_neg i10, hC, hD]
  by_cases h12 : n = 12
  · subst h12
    rw [if_neg (by decide), if_pos (by decide)]
    exact ⟨_, _, _, rfl, rfl, h.mono⟩
  · have hlt : n < 12 := by omega
    have e0 : ∀ j, j < 5 → (0 + (5 * nI n)) + nI j = nI (5 * n + j) := by
      intro j hj
      rw [l0, l5]
      simp only [pk_mul, nI_add]
      exact congrArg nI (by omega)
    have ez : 0 + (5 * nI n) = nI (5 * n + 0) := by
      rw [l0, l5]
      simp only [pk_mul, nI_add]
      exact congrArg nI (by omega)
    unfold f_Tw_welcome
    rw [hC, if_pos (by rw [l12]; exact nI_lt hlt (by omega)), if_pos (inb_t hlt (by omega)), bd2_s, if_neg (by rw [l12]; intro e; rw [nI_eq (by omega) (by omega)] at e; omega)]
    have e1 : (0 + (5 * nI n)) + 1 = nI (5 * n + 1) := e0 1 (by omega)
    have e2 : (0 + (5 * nI n)) + 2 = nI (5 * n + 2) := e0 2 (by omega)
    have e3 : (0 + (5 * nI n)) + 3 = nI (5 * n + 3) := e0 3 (by omega)
    have e4 : (0 + (5 * nI n)) + 4 = nI (5 * n + 4) := e0 4 (by omega)
    rw [e1, e2, e3, e4, ez, if_pos (inb_t (by omega) (by omega)), if_pos (inb_t (by omega) (by omega)), if_pos (inb_t (by omega) (by omega)), if_pos (inb_t (by omega) (by omega)), if_pos (inb_t (by omega) (by omega)), nI_clamp (by omega), nI_clamp (by omega), nI_clamp (by omega), nI_clamp (by omega), nI_clamp (by omega), nI_clamp (by omega)]
    simp (disch := omega) only [wr_cell, wr_idx]
    rw [hC, hD, nI_1]
    refine ⟨_, _, _, rfl, rfl, ?_⟩
    -- the relation
    have b0 : C 4 n = 0 := by have := (hW.2.2.2.2.1 n hlt).2 (Nat.le_refl _); simp only [Nat.zero_add] at this; exact this
    have s0 : C 13 n = 0 := by have := (hW.2.2.2.2.2.1 n hlt).2 (Nat.le_refl _); simp only [Nat.zero_add] at this; exact this
    have c0 : C 3 n = 0 := by have := hW.2.2.2.1.2.1 n (Nat.le_refl _) hlt; simp only [Nat.zero_add] at this; exact this
    have R1 := rt_put (rt_put (rt_put (rt_put (rt_put hR (c := 2) (j := 0) (by omega) hlt (nI k)) (c := 3) (j := 1) (by omega) hlt (nI c)) (c := 4) (j := 2) (by omega) hlt 0) (c := 5) (j := 3) (by omega) hlt (-1000000005)) (c := 13) (j := 4) (by omega) hlt 0
    have same : mj_wr (mj_wr (mj_wr (mj_wr (mj_wr C 2 n (nI k)) 3 n (nI c)) 4 n 0) 5 n (-1000000005)) 13 n 0 = mj_wr (mj_wr (mj_wr C 2 n (nI k)) 3 n (nI c)) 5 n (-1000000005) := by
      funext i j
      unfold mj_wr
      by_cases q1 : i = 13 ∧ j = n
      · rw [if_pos q1, if_neg (by omega), if_neg (by omega), if_neg (by omega), q1.1, q1.2, s0]
      · rw [if_neg q1]
        by_cases q2 : i = 5 ∧ j = n
        · rw [if_pos q2, if_pos q2]
        · rw [if_neg q2, if_neg q2]
          by_cases q3 : i = 4 ∧ j = n
          · rw [if_pos q3, if_neg (by omega), if_neg (by omega), q3.1, q3.2, b0]
          · rw [if_neg q3]
    rw [same] at R1
    refine ⟨?_, ⟨n + 1, d, ?_⟩, hWD.frame (fun j h1 h2 => ?_) ?_ ?_ ?_, hT.frame ?_ ?_ ?_ ?_, ?_⟩
    · exact rt_sc R1 (k := 0) (by omega) (nI (n + 1))
    · unfold WTn at hW ⊢
      simp (disch := omega) only [Nat.zero_add, Nat.reduceAdd, wr_row, wr_same, wr_idx] at hW ⊢
      obtain ⟨w1, w2, w3, ⟨w4, w4', w4''⟩, w5, w6, ⟨w7, w7', w7''⟩, w8, w9, w10, ⟨q, w11, w12, w13⟩⟩ := hW
      refine ⟨⟨by omega, trivial, w1.2.2⟩, w2, fun a ha => ?_, ⟨fun a ha => ?_, fun a h1 h2 => ?_, ?_⟩, fun a ha => ⟨(w5 a ha).1, fun h => (w5 a ha).2 (by omega)⟩, fun a ha => ⟨(w6 a ha).1, fun h => (w6 a ha).2 (by omega)⟩, ⟨w7, fun i h1 h2 => w7' i (by omega) h2, w7''⟩, w8, w9, fun a k ha hk hs => ?_, ⟨q, w11, w12, fun i hi => ?_⟩⟩
      · by_cases hb : a = n
        · subst hb; rw [wr_same]; exact rg_of (by omega) (by omega) (by omega)
        · rw [wr_idx _ _ hb]; exact w3 a ha
      · by_cases hb : a = n
        · subst hb; rw [wr_same, nI_toInt (by omega)]; omega
        · rw [wr_idx _ _ hb]; exact w4 a ha
      · rw [wr_idx _ _ (by omega)]; exact w4' a (by omega) h2
      · have e : sm (fun a => (mj_wr (mj_wr C 2 n (nI k)) 3 n (nI c) 3 a).toInt) 12 = sm (fun i => if i = n then (c : Int) else (C 3 i).toInt) 12 := sm_congr 12 fun i hi => by
          by_cases hb : i = n
          · subst hb; rw [wr_same, if_pos rfl, nI_toInt (by omega)]
          · rw [wr_idx _ _ hb, if_neg hb, wr_cell _ _ (by omega)]
        rw [e, sm_upd, if_pos hlt, c0]
        have : (0 : Int32).toInt = 0 := rfl
        omega
      · by_cases hb : a = n
        · subst hb
          rw [s0] at hs
          have : (0 : Int32).toInt = 0 := rfl
          omega
        · have o := w10 a k (by omega) hk hs
          unfold okRule at o ⊢
          exact ⟨⟨o.1.1, o.1.2.1, fun q => ⟨(o.1.2.2.1 q).1, by have := (o.1.2.2.1 q).2; omega⟩, o.1.2.2.2⟩, o.2⟩
      · obtain ⟨x1, x2, x3⟩ := w13 i hi
        exact ⟨⟨x1.1, by have := x1.2; omega⟩, ⟨x2.1, by have := x2.2; omega⟩, x3⟩
    all_goals simp (disch := omega) only [wr_row, wr_cell, wr_idx]
    exact hO
