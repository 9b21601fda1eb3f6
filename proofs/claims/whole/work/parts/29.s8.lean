/-! PURE: save, load -/
theorem cp_row (f : St) {a b sp dp n i : Nat} (h : i ≠ b) : mj_cp f a b sp dp n i = f i := if_neg h
theorem cp_cell (f : St) {a b sp dp n i j : Nat} (h : i ≠ b) : mj_cp f a b sp dp n i j = f i j := by rw [cp_row f h]
theorem cp_at (f : St) {a b n i : Nat} (h : i < n) : mj_cp f a b 0 0 n b i = f a i := by
  unfold mj_cp
  rw [if_pos rfl]
  unfold va_cpy
  rw [if_pos ⟨Nat.zero_le _, by omega⟩, Nat.zero_add, Nat.sub_zero]
/-- the town at z, copied to w -/
abbrev CP0 (C C' : St) (z w : Nat) : Prop := (∀ i, i < 5 → C' (w + 1) i = C (z + 1) i) ∧ (∀ i, i < 12 → C' (w + 2) i = C (z + 2) i ∧ C' (w + 3) i = C (z + 3) i ∧ C' (w + 4) i = C (z + 4) i ∧ C' (w + 5) i = C (z + 5) i ∧ C' (w + 13) i = C (z + 13) i) ∧ (∀ i, i < 720 → C' (w + 6) i = C (z + 6) i) ∧ (∀ i, i < 600 → C' (w + 8) i = C (z + 8) i) ∧ (∀ i, i < 60 → C' (w + 9) i = C (z + 9) i) ∧ (∀ i, i < 55 → C' (w + 11) i = C (z + 11) i) ∧ (∀ i, i < 648 → C' (w + 14) i = C (z + 14) i) ∧ C' (w + 15) 0 = C (z + 15) 0 ∧ (∀ i, i < 80 → C' (w + 16) i = C (z + 16) i)
abbrev CPY (C C' : St) (z w : Nat) : Prop := (∀ c, ¬ (w + 1 ≤ c ∧ c ≤ w + 16) → C' c = C c) ∧ CP0 C C' z w
theorem cp0_rt {C C' D D' : St} {z w A u A' u' : Nat} (h : CP0 C C' z w) (hR : RT C D z A u) (hD : ∀ i, i < 2200 → D' A' (u' + i) = D A (u + i)) : RT C' D' w A' u' := by
  obtain ⟨c1, c2, c6, c8, c9, c11, c14, c15, c16⟩ := h
  obtain ⟨⟨r1, r2, r3, r4, r5, r6⟩, rA, rP, rR, rW, rL, rB⟩ := hR
  refine ⟨⟨?_, ?_, ?_, ?_, ?_, ?_⟩, fun a ha => ?_, fun i hi => ?_, fun i hi => ?_, fun i hi => ?_, fun i hi hq => ?_, fun i hi => ?_⟩
  · rw [c1 0 (by omega), hD _ (by omega)]; exact r1
  · rw [c1 1 (by omega), hD _ (by omega)]; exact r2
  · rw [c1 2 (by omega), hD _ (by omega)]; exact r3
  · rw [c1 3 (by omega), hD _ (by omega)]; exact r4
  · rw [c1 4 (by omega), hD _ (by omega)]; exact r5
  · rw [c15, hD _ (by omega)]; exact r6
  · obtain ⟨q1, q2, q3, q4, q5⟩ := c2 a ha
    simp only [Nat.add_assoc] at *
    rw [q1, q2, q3, q4, q5, hD _ (by omega), hD _ (by omega), hD _ (by omega), hD _ (by omega), hD _ (by omega)]; exact rA a ha
  · have := rP i hi
    rw [Nat.add_assoc] at this ⊢
    rw [c8 i hi, hD _ (by omega)]; exact this
  · have := rR i hi
    rw [Nat.add_assoc] at this ⊢
    rw [c14 i hi, hD _ (by omega)]; exact this
  · have := rW i hi
    rw [Nat.add_assoc] at this ⊢
    rw [c11 i hi, hD _ (by omega)]; exact this
  · rw [c15] at hq
    have := rL i hi hq
    rw [Nat.add_assoc] at this ⊢
    rw [c16 i hi, hD _ (by omega)]; exact this
  · have := rB i hi
    rw [Nat.add_assoc] at this ⊢
    rw [c6 i hi, hD _ (by omega)]; exact this
theorem cp0_wt {C C' : St} {z w t n d : Nat} (h : CP0 C C' z w) (hW : WTn C z t n d) : WTn C' w t n d := by
  obtain ⟨c1, c2, c6, c8, c9, c11, c14, c15, c16⟩ := h
  obtain ⟨w1, w2, w3, ⟨w4, w4', w4''⟩, w5, w6, ⟨w7, w7', w7''⟩, w8, w9, w10, ⟨q, w11, w12, w13⟩⟩ := hW
  refine ⟨?_, ?_, fun a ha => ?_, ⟨fun a ha => ?_, fun a h1 h2 => ?_, ?_⟩, fun a ha => ?_, fun a ha => ?_, ⟨fun i hi => ?_, fun i h1 h2 => ?_, ?_⟩, fun p hp => ?_, fun g hg => ?_, fun a k ha hk hs => ?_, ⟨q, w11, ?_, fun i hi => ?_⟩⟩
  · rw [c1 0 (by omega), c1 1 (by omega)]; exact w1
  · rw [c1 2 (by omega), c1 3 (by omega), c1 4 (by omega)]; exact w2
  · rw [(c2 a ha).1]; exact w3 a ha
  · rw [(c2 a ha).2.1]; exact w4 a ha
  · rw [(c2 a h2).2.1]; exact w4' a h1 h2
  · rw [sm_congr (g := fun a => (C (z + 3) a).toInt) 12 (fun a ha => by rw [(c2 a ha).2.1])]; exact w4''
  · rw [(c2 a ha).2.2.1]; exact w5 a ha
  · rw [(c2 a ha).2.2.2.2]; exact w6 a ha
  · rw [c8 i hi]; exact w7 i hi
  · rw [c8 i h2]; exact w7' i h1 h2
  · rw [sm_congr (g := fun i => (C (z + 8) i).toInt) 600 (fun i hi => by rw [c8 i hi])]; exact w7''
  · rw [c9 p hp, sm_congr (g := fun k => (C (z + 8) (10 * p + k)).toInt) 10 (fun k hk => by rw [c8 _ (by omega)])]; exact w8 p hp
  · rw [c11 _ (by omega), c11 _ (by omega), c11 _ (by omega), c11 _ (by omega), c11 _ (by omega), c11 _ (by omega), c11 _ (by omega)]; exact w9 g hg
  · have hn := w1.1
    rw [(c2 a (by omega)).2.2.2.2] at hs
    have := w10 a k ha hk hs
    unfold okRule at this ⊢
    rw [c14 _ (by omega), c14 _ (by omega), c14 _ (by omega), c14 _ (by omega), c14 _ (by omega), c14 _ (by omega), c14 _ (by omega), c14 _ (by omega)]
    exact this
  · rw [c15]; exact w12
  · rw [c16 _ (by omega), c16 _ (by omega), c16 _ (by omega)]; exact w13 i hi
set_option maxHeartbeats 4000000 in
theorem v_become (C : St) : ∃ C' : St, f_Tw_become C = some C' ∧ CPY C C' 0 39 := by
  unfold f_Tw_become f_Sk_become f_Wr_become f_Rl_become f_Ln_become
  simp only [bd1_s]
  refine ⟨_, rfl, fun c hc => ?_, fun i hi => ?_, fun i hi => ⟨?_, ?_, ?_, ?_, ?_⟩, fun i hi => ?_, fun i hi => ?_, fun i hi => ?_, fun i hi => ?_, fun i hi => ?_, ?_, fun i hi => ?_⟩
  · simp (disch := omega) only [cp_row, wr_row]
  · match i, hi with
    | 0, _ => simp (disch := omega) only [Nat.reduceAdd, cp_cell, wr_cell, wr_idx, wr_same]
    | 1, _ => simp (disch := omega) only [Nat.reduceAdd, cp_cell, wr_cell, wr_idx, wr_same]
    | 2, _ => simp (disch := omega) only [Nat.reduceAdd, cp_cell, wr_cell, wr_idx, wr_same]
    | 3, _ => simp (disch := omega) only [Nat.reduceAdd, cp_cell, wr_cell, wr_idx, wr_same]
    | 4, _ => simp (disch := omega) only [Nat.reduceAdd, cp_cell, wr_cell, wr_idx, wr_same]
    | i + 5, hi => exact absurd hi (by omega)
  all_goals simp (disch := omega) only [Nat.reduceAdd, cp_cell, cp_at, wr_cell, wr_idx, wr_same]
set_option maxHeartbeats 4000000 in
theorem v_become_1 (C : St) : ∃ C' : St, f_Tw_become_1 C = some C' ∧ CPY C C' 0 55 := by
  unfold f_Tw_become_1 f_Sk_become_1 f_Wr_become_1 f_Rl_become_1 f_Ln_become_1
  simp only [bd1_s]
  refine ⟨_, rfl, fun c hc => ?_, fun i hi => ?_, fun i hi => ⟨?_, ?_, ?_, ?_, ?_⟩, fun i hi => ?_, fun i hi => ?_, fun i hi => ?_, fun i hi => ?_, fun i hi => ?_, ?_, fun i hi => ?_⟩
  · simp (disch := omega) only [cp_row, wr_row]
  · match i, hi with
    | 0, _ => simp (disch := omega) only [Nat.reduceAdd, cp_cell, wr_cell, wr_idx, wr_same]
    | 1, _ => simp (disch := omega) only [Nat.reduceAdd, cp_cell, wr_cell, wr_idx, wr_same]
    | 2, _ => simp (disch := omega) only [Nat.reduceAdd, cp_cell, wr_cell, wr_idx, wr_same]
    | 3, _ => simp (disch := omega) only [Nat.reduceAdd, cp_cell, wr_cell, wr_idx, wr_same]
    | 4, _ => simp (disch := omega) only [Nat.reduceAdd, cp_cell, wr_cell, wr_idx, wr_same]
    | i + 5, hi => exact absurd hi (by omega)
  all_goals simp (disch := omega) only [Nat.reduceAdd, cp_cell, cp_at, wr_cell, wr_idx, wr_same]
set_option maxHeartbeats 4000000 in
theorem v_become_2 (C : St) : ∃ C' : St, f_Tw_become_2 C = some C' ∧ CPY C C' 0 71 := by
  unfold f_Tw_become_2 f_Sk_become_2 f_Wr_become_2 f_Rl_become_2 f_Ln_become_2
  simp only [bd1_s]
  refine ⟨_, rfl, fun c hc => ?_, fun i hi => ?_, fun i hi => ⟨?_, ?_, ?_, ?_, ?_⟩, fun i hi => ?_, fun i hi => ?_, fun i hi => ?_, fun i hi => ?_, fun i hi => ?_, ?_, fun i hi => ?_⟩
  · simp (disch := omega) only [cp_row, wr_row]
  · match i, hi with
    | 0, _ => simp (disch := omega) only [Nat.reduceAdd, cp_cell, wr_cell, wr_idx, wr_same]
    | 1, _ => simp (disch := omega) only [Nat.reduceAdd, cp_cell, wr_cell, wr_idx, wr_same]
    | 2, _ => simp (disch := omega) only [Nat.reduceAdd, cp_cell, wr_cell, wr_idx, wr_same]
    | 3, _ => simp (disch := omega) only [Nat.reduceAdd, cp_cell, wr_cell, wr_idx, wr_same]
    | 4, _ => simp (disch := omega) only [Nat.reduceAdd, cp_cell, wr_cell, wr_idx, wr_same]
    | i + 5, hi => exact absurd hi (by omega)
  all_goals simp (disch := omega) only [Nat.reduceAdd, cp_cell, cp_at, wr_cell, wr_idx, wr_same]
set_option maxHeartbeats 4000000 in
theorem v_become_3 (C : St) : ∃ C' : St, f_Tw_become_3 C = some C' ∧ CPY C C' 39 0 := by
  unfold f_Tw_become_3 f_Sk_become_3 f_Wr_become_3 f_Rl_become_3 f_Ln_become_3
  simp only [bd1_s]
  refine ⟨_, rfl, fun c hc => ?_, fun i hi => ?_, fun i hi => ⟨?_, ?_, ?_, ?_, ?_⟩, fun i hi => ?_, fun i hi => ?_, fun i hi => ?_, fun i hi => ?_, fun i hi => ?_, ?_, fun i hi => ?_⟩
  · simp (disch := omega) only [cp_row, wr_row]
  · match i, hi with
    | 0, _ => simp (disch := omega) only [Nat.reduceAdd, cp_cell, wr_cell, wr_idx, wr_same]
    | 1, _ => simp (disch := omega) only [Nat.reduceAdd, cp_cell, wr_cell, wr_idx, wr_same]
    | 2, _ => simp (disch := omega) only [Nat.reduceAdd, cp_cell, wr_cell, wr_idx, wr_same]
    | 3, _ => simp (disch := omega) only [Nat.reduceAdd, cp_cell, wr_cell, wr_idx, wr_same]
    | 4, _ => simp (disch := omega) only [Nat.reduceAdd, cp_cell, wr_cell, wr_idx, wr_same]
    | i + 5, hi => exact absurd hi (by omega)
  all_goals simp (disch := omega) only [Nat.reduceAdd, cp_cell, cp_at, wr_cell, wr_idx, wr_same]
set_option maxHeartbeats 4000000 in
theorem v_become_4 (C : St) : ∃ C' : St, f_Tw_become_4 C = some C' ∧ CPY C C' 55 0 := by
  unfold f_Tw_become_4 f_Sk_become_4 f_Wr_become_4 f_Rl_become_4 f_Ln_become_4
  simp only [bd1_s]
  refine ⟨_, rfl, fun c hc => ?_, fun i hi => ?_, fun i hi => ⟨?_, ?_, ?_, ?_, ?_⟩, fun i hi => ?_, fun i hi => ?_, fun i hi => ?_, fun i hi => ?_, fun i hi => ?_, ?_, fun i hi => ?_⟩
  · simp (disch := omega) only [cp_row, wr_row]
  · match i, hi with
    | 0, _ => simp (disch := omega) only [Nat.reduceAdd, cp_cell, wr_cell, wr_idx, wr_same]
    | 1, _ => simp (disch := omega) only [Nat.reduceAdd, cp_cell, wr_cell, wr_idx, wr_same]
    | 2, _ => simp (disch := omega) only [Nat.reduceAdd, cp_cell, wr_cell, wr_idx, wr_same]
    | 3, _ => simp (disch := omega) only [Nat.reduceAdd, cp_cell, wr_cell, wr_idx, wr_same]
    | 4, _ => simp (disch := omega) only [Nat.reduceAdd, cp_cell, wr_cell, wr_idx, wr_same]
    | i + 5, hi => exact absurd hi (by omega)
  all_goals simp (disch := omega) only [Nat.reduceAdd, cp_cell, cp_at, wr_cell, wr_idx, wr_same]
set_option maxHeartbeats 4000000 in
theorem v_become_5 (C : St) : ∃ C' : St, f_Tw_become_5 C = some C' ∧ CPY C C' 71 0 := by
  unfold f_Tw_become_5 f_Sk_become_5 f_Wr_become_5 f_Rl_become_5 f_Ln_become_5
  simp only [bd1_s]
  refine ⟨_, rfl, fun c hc => ?_, fun i hi => ?_, fun i hi => ⟨?_, ?_, ?_, ?_, ?_⟩, fun i hi => ?_, fun i hi => ?_, fun i hi => ?_, fun i hi => ?_, fun i hi => ?_, ?_, fun i hi => ?_⟩
  · simp (disch := omega) only [cp_row, wr_row]
  · match i, hi with
    | 0, _ => simp (disch := omega) only [Nat.reduceAdd, cp_cell, wr_cell, wr_idx, wr_same]
    | 1, _ => simp (disch := omega) only [Nat.reduceAdd, cp_cell, wr_cell, wr_idx, wr_same]
    | 2, _ => simp (disch := omega) only [Nat.reduceAdd, cp_cell, wr_cell, wr_idx, wr_same]
    | 3, _ => simp (disch := omega) only [Nat.reduceAdd, cp_cell, wr_cell, wr_idx, wr_same]
    | 4, _ => simp (disch := omega) only [Nat.reduceAdd, cp_cell, wr_cell, wr_idx, wr_same]
    | i + 5, hi => exact absurd hi (by omega)
  all_goals simp (disch := omega) only [Nat.reduceAdd, cp_cell, cp_at, wr_cell, wr_idx, wr_same]
