/-! PURE: give -/
theorem rel_pieces {C D : St} (hR : RT C D 0 89 0) {C' D' : St} (hC : ∀ j, j ≠ 8 → j ≠ 9 → C' j = C j) (hD9 : ∀ i, (i < 60 ∨ 660 ≤ i) → D' 89 i = D 89 i) (he : ∀ i, i < 600 → C' 8 i = D' 89 (60 + i)) : RT C' D' 0 89 0 := by
  unfold RT at hR ⊢
  simp only [Nat.zero_add] at hR ⊢
  rw [hC 1 (by omega) (by omega), hC 2 (by omega) (by omega), hC 3 (by omega) (by omega), hC 4 (by omega) (by omega), hC 5 (by omega) (by omega), hC 6 (by omega) (by omega), hC 11 (by omega) (by omega), hC 13 (by omega) (by omega), hC 14 (by omega) (by omega), hC 15 (by omega) (by omega), hC 16 (by omega) (by omega), hD9 2163 (by omega), hD9 2164 (by omega), hD9 2165 (by omega), hD9 2166 (by omega), hD9 2167 (by omega), hD9 2168 (by omega)]
  obtain ⟨r1, rA, rP, rR, rW, rL, rB⟩ := hR
  refine ⟨r1, fun a ha => ?_, he, fun i hi => ?_, fun i hi => ?_, fun i hi hq => ?_, fun i hi => ?_⟩
  · rw [hD9 _ (by omega), hD9 _ (by omega), hD9 _ (by omega), hD9 _ (by omega), hD9 _ (by omega)]; exact rA a ha
  · rw [hD9 _ (by omega)]; exact rR i hi
  · rw [hD9 _ (by omega)]; exact rW i hi
  · rw [hD9 _ (by omega)]; exact rL i hi hq
  · rw [hD9 _ (by omega)]; exact rB i hi
/-- what a town's pieces and sums keep, by themselves -/
def PS (C : St) (n B : Nat) : Prop := (∀ i, i < 600 → 0 ≤ (C 8 i).toInt) ∧ (∀ i, 50 * n ≤ i → i < 600 → C 8 i = 0) ∧ sm (fun i => (C 8 i).toInt) 600 ≤ B ∧ (∀ p, p < 60 → (C 9 p).toInt = sm (fun k => (C 8 (10 * p + k)).toInt) 10)
theorem WTn.ps {C : St} {t n d : Nat} (h : WTn C 0 t n d) : PS C n (999 * t + 71928 * d) := by
  have h7 := h.2.2.2.2.2.2.1
  have h8 := h.2.2.2.2.2.2.2.1
  simp only [Nat.zero_add] at h7 h8
  exact ⟨h7.1, h7.2.1, by have := h7.2.2; omega, h8⟩
theorem WTn.put_ps {C C' : St} {t n d t' d' : Nat} (h : WTn C 0 t n d) (hC : ∀ j, j ≠ 8 → j ≠ 9 → C' j = C j) (hd : d' = d) (hp : PS C' n (999 * t' + 71928 * d')) : WTn C' 0 t' n d' := by
  subst hd
  unfold WTn at h ⊢
  simp only [Nat.zero_add] at h ⊢
  rw [hC 1 (by omega) (by omega), hC 2 (by omega) (by omega), hC 3 (by omega) (by omega), hC 4 (by omega) (by omega), hC 11 (by omega) (by omega), hC 13 (by omega) (by omega), hC 14 (by omega) (by omega), hC 15 (by omega) (by omega), hC 16 (by omega) (by omega)]
  exact ⟨h.1, h.2.1, h.2.2.1, h.2.2.2.1, h.2.2.2.2.1, h.2.2.2.2.2.1, ⟨hp.1, hp.2.1, by have := hp.2.2.1; omega⟩, hp.2.2.2, h.2.2.2.2.2.2.2.2⟩
/-- a piece's number within a pile, and the pile's sum -/
theorem ps_le {C : St} {n B i : Nat} (h : PS C n B) (hi : i < 600) : (C 8 i).toInt ≤ B := by
  have := sm_le (f := fun i => (C 8 i).toInt) h.1 hi
  have := h.2.2.1
  omega
theorem ps_sum {C : St} {n B p : Nat} (h : PS C n B) (hp : p < 60) : 0 ≤ (C 9 p).toInt ∧ (C 9 p).toInt ≤ B := by
  have e3 : sm (fun i => (C 8 i).toInt) (10 * p + (10 + (590 - 10 * p))) ≤ B := by
    rw [show 10 * p + (10 + (590 - 10 * p)) = 600 by omega]
    exact h.2.2.1
  rw [sm_add, sm_add] at e3
  have q1 := sm_nonneg (f := fun i => (C 8 i).toInt) (10 * p) (fun i hi => h.1 i (by omega))
  have q2 := sm_nonneg (f := fun i => (C 8 (10 * p + (10 + i))).toInt) (590 - 10 * p) (fun i hi => h.1 _ (by omega))
  have q3 := sm_nonneg (f := fun i => (C 8 (10 * p + i)).toInt) 10 (fun i hi => h.1 _ (by omega))
  rw [h.2.2.2 p hp]
  exact ⟨q3, by omega⟩
/-- more pieces of AGE 0 -/
theorem ps_bring {C : St} {n B p x : Nat} (h : PS C n B) (hp : p < 5 * n) (hn : n ≤ 12) (hB : B + x < 2147483647) : PS (mj_wr (mj_wr C 8 (10 * p) (C 8 (10 * p) + nI x)) 9 p (C 9 p + nI x)) n (B + x) := by
  have hp60 : p < 60 := by omega
  have b1 := ps_le h (show 10 * p < 600 by omega)
  have b2 := ps_sum h hp60
  have b0 := h.1 (10 * p) (by omega)
  have v1 : (C 8 (10 * p) + nI x).toInt = (C 8 (10 * p)).toInt + x := by
    rw [add_toInt, nI_toInt (by omega)] <;> rw [nI_toInt (by omega)] <;> omega
  have v2 : (C 9 p + nI x).toInt = (C 9 p).toInt + x := by
    rw [add_toInt, nI_toInt (by omega)] <;> rw [nI_toInt (by omega)] <;> omega
  have r8 : ∀ i, mj_wr (mj_wr C 8 (10 * p) (C 8 (10 * p) + nI x)) 9 p (C 9 p + nI x) 8 i = if i = 10 * p then C 8 (10 * p) + nI x else C 8 i := by
    intro i
    rw [wr_cell _ _ (by omega)]
    by_cases hi : i = 10 * p
    · rw [hi, wr_same, if_pos rfl]
    · rw [wr_idx _ _ hi, if_neg hi]
  have r8t : ∀ i, (mj_wr (mj_wr C 8 (10 * p) (C 8 (10 * p) + nI x)) 9 p (C 9 p + nI x) 8 i).toInt = if i = 10 * p then (C 8 (10 * p)).toInt + x else (C 8 i).toInt := by
    intro i
    rw [r8]
    by_cases hi : i = 10 * p
    · rw [if_pos hi, if_pos hi, v1]
    · rw [if_neg hi, if_neg hi]
  refine ⟨fun i hi => ?_, fun i h1 h2 => ?_, ?_, fun q hq => ?_⟩
  · rw [r8t]
    by_cases hi2 : i = 10 * p
    · rw [if_pos hi2]; omega
    · rw [if_neg hi2]; exact h.1 i hi
  · rw [r8, if_neg (by omega)]; exact h.2.1 i h1 h2
  · rw [sm_congr (g := fun i => if i = 10 * p then (C 8 (10 * p)).toInt + x else (C 8 i).toInt) 600 (fun i _ => r8t i), sm_upd, if_pos (by omega)]
    have := h.2.2.1
    omega
  · rw [sm_congr (g := fun k => if 10 * q + k = 10 * p then (C 8 (10 * p)).toInt + x else (C 8 (10 * q + k)).toInt) 10 (fun k _ => r8t (10 * q + k))]
    by_cases hqp : q = p
    · subst hqp
      have e : sm (fun k => if 10 * q + k = 10 * q then (C 8 (10 * q)).toInt + x else (C 8 (10 * q + k)).toInt) 10 = sm (fun i => if i = 0 then (C 8 (10 * q)).toInt + x else (C 8 (10 * q + i)).toInt) 10 := sm_congr 10 fun i _ => by
        by_cases h0 : i = 0
        · rw [if_pos h0, if_pos (by omega)]
        · rw [if_neg h0, if_neg (by omega)]
      rw [wr_same, v2, h.2.2.2 q hq, e, sm_upd (f := fun i => (C 8 (10 * q + i)).toInt), if_pos (by omega)]
      show _ = _ + ((C 8 (10 * q)).toInt + x - (C 8 (10 * q)).toInt)
      omega
    · rw [wr_idx _ _ hqp, wr_cell _ _ (by omega), h.2.2.2 q hq]
      exact sm_congr 10 (fun k hk => by rw [if_neg (by omega)])
theorem sim_give_ok {t : Nat} {C D : St} (ht : t < 512) (h : Rel t C D) : sim_give Rel t C D := by
  intro a1 a2 a3
  obtain ⟨n, hn, hC, hD⟩ := rel_n h
  unfold f_Mk_give f_Md_give
  rcases agent_cases hn hC hD a1 with ⟨a, ha, rfl, e1, e2⟩ | ⟨e1, e2⟩
  rotate_left
  · rw [e1, e2]; exact ⟨_, _, _, rfl, rfl, h.mono⟩
  rcases good_cases a2 with ⟨g, hg, rfl, f1, f2⟩ | ⟨f1, f2⟩
  rotate_left
  · rw [e1, e2, f1, f2]; exact ⟨_, _, _, rfl, rfl, h.mono⟩
  rcases in_cases a3 1 999 1 999 rfl rfl (by omega) (by omega) with ⟨x, i1, i2, rfl, g1, g2⟩ | ⟨g1, g2⟩
  rotate_left
  · rw [e1, e2, f1, f2, g1, g2]; exact ⟨_, _, _, rfl, rfl, h.mono⟩
  obtain ⟨hR, ⟨n', d, hW⟩, hWD, hT, hO⟩ := id h
  have hn' : n' = n := by
    have h1 := hW.1.2.1
    simp only [Nat.zero_add] at h1
    rw [hC, nI_eq (by omega) (by have := hW.1.1; omega)] at h1
    exact h1.symm
  subst hn'
  have hd := hW.1.2.2.1
  have P1 := ps_bring (p := 5 * a + g) (x := x) hW.ps (by omega) hn (by omega)
  rw [e1, e2, f1, f2, g1, g2]
  simp only [bd1_s, if_neg i10]
  rw [v_bring (by omega) hg, bd1_s, v_all (by omega) hg, bd1_s, wr_same, show (0 : Int32) = nI 0 from rfl, m_ageAt, bd1_s, if_pos (inb_t (by omega) (by omega)), nI_clamp (by omega), Nat.add_zero, ← rt_p hR (show 10 * (5 * a + g) < 600 by omega)]
  have hCf : ∀ j, j ≠ 8 → j ≠ 9 → mj_wr (mj_wr C 8 (10 * (5 * a + g)) (C 8 (10 * (5 * a + g)) + nI x)) 9 (5 * a + g) (C 9 (5 * a + g) + nI x) j = C j := fun j h1 h2 => by rw [wr_row _ _ h2, wr_row _ _ h1]
  have R1 : RT (mj_wr (mj_wr C 8 (10 * (5 * a + g)) (C 8 (10 * (5 * a + g)) + nI x)) 9 (5 * a + g) (C 9 (5 * a + g) + nI x)) (mj_wr D 89 (60 + 10 * (5 * a + g)) (C 8 (10 * (5 * a + g)) + nI x)) 0 89 0 := by
    refine rel_pieces hR hCf (fun i hi => wr_idx D _ (by omega)) (fun i hi => ?_)
    rw [wr_cell _ _ (by omega)]
    by_cases h1 : i = 10 * (5 * a + g)
    · subst h1; rw [wr_same, wr_same]
    · rw [wr_idx _ _ h1, wr_idx _ _ (by omega)]; exact rt_p hR hi
  have W1 : WTn (mj_wr (mj_wr C 8 (10 * (5 * a + g)) (C 8 (10 * (5 * a + g)) + nI x)) 9 (5 * a + g) (C 9 (5 * a + g) + nI x)) 0 (t + 1) n' d := hW.put_ps hCf rfl ⟨P1.1, P1.2.1, by have := P1.2.2.1; omega, P1.2.2.2⟩
  rw [all_hasAll R1 W1 (by omega) (by omega) hg, bd1_s, wr_same]
  refine ⟨_, _, _, rfl, rfl, R1, ⟨n', d, W1⟩, hWD.mono.frame (fun j h1 h2 => hCf j (by omega) (by omega)) (hCf 18 (by omega) (by omega)) (wr_row _ _ (by omega)) (wr_row _ _ (by omega)), hT.frame (hCf 19 (by omega) (by omega)) (hCf 20 (by omega) (by omega)) (wr_row _ _ (by omega)) (wr_row _ _ (by omega)), by rw [wr_cell _ _ (by omega)]; exact hO⟩
