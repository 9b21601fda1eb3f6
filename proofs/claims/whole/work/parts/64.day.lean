/-! PURE: a day, on both sides -/
theorem WTn.nextday {C : St} {t n d : Nat} (h : WTn C 0 (t + 72) n d) (hd : d < 700) : WTn (mj_wr C 1 1 (nI (d + 1))) 0 t n (d + 1) := by
  have hC : ∀ j, j ≠ 1 → mj_wr C 1 1 (nI (d + 1)) j = C j := fun j hj => wr_row _ _ hj
  unfold WTn at h ⊢
  simp only [Nat.zero_add] at h ⊢
  rw [hC 2 (by omega), hC 3 (by omega), hC 4 (by omega), hC 8 (by omega), hC 9 (by omega), hC 11 (by omega), hC 13 (by omega), hC 14 (by omega), hC 15 (by omega), hC 16 (by omega), wr_same, wr_idx (j := 0) _ _ (by omega), wr_idx (j := 2) _ _ (by omega), wr_idx (j := 3) _ _ (by omega), wr_idx (j := 4) _ _ (by omega)]
  obtain ⟨⟨u1, u2, u3, u4⟩, v, w1, w2, w3, w4, ⟨x1, x2, x3⟩, y⟩ := h
  exact ⟨⟨u1, u2, by omega, rfl⟩, v, w1, w2, w3, w4, ⟨x1, x2, by omega⟩, y⟩
theorem day_ok {C D : St} {t n d : Nat} (hR : RT C D 0 89 0) (hW : WTn C 0 t n d) (ht : t < 512) (hd : d < 700) : ∃ C' D', f_Dy_pass C = some C' ∧ f_Md_liveDay D = some D' ∧ RT C' D' 0 89 0 ∧ WTn C' 0 t n (d + 1) ∧ (∀ j, j = 18 ∨ j = 19 ∨ j = 20 ∨ 40 ≤ j → C' j = C j) ∧ (∀ j, j = 90 ∨ j = 91 ∨ j = 92 → D' j = D j) ∧ D' 88 4 = D 88 4 ∧ D' 88 11 = 0 := by
  obtain ⟨C1, D1, a1, a2, a3, a4, a5, a6, a7⟩ := draw hR hW
  obtain ⟨C2, C3, D3, no, b1, b2, b3, b4, b5, b6, b7⟩ := acts_all a3 a4 a5 ht
  obtain ⟨C4, D4, c1, c2, c3, c4, c5⟩ := markets b4 (by omega)
  obtain ⟨C5, D5, e1, e2, e3, e4, e5, e6⟩ := loans_ok c3 c4
  obtain ⟨C6, D6, f1, f2, f3, f4, f5, f6⟩ := ages_ok e3 e4 (by omega)
  obtain ⟨-, -, -, g1⟩ := f4.n0
  have g2 : D6 89 2164 = nI d := by rw [← (rt_n f3).2.1]; exact g1
  have R7 := rt_sc f3 (show 1 < 5 by omega) (nI (d + 1))
  refine ⟨mj_wr C6 1 1 (nI (d + 1)), mj_wr (mj_wr D6 89 2164 (nI (d + 1))) 88 11 0, ?_, ?_, R7.frame (fun _ _ _ => rfl) (wr_row _ _ (by omega)), f4.nextday hd, fun j hj => ?_, fun j hj => ?_, ?_, wr_same _ _ _ _⟩
  · unfold f_Dy_pass
    rw [a1, bd1_s, b1, bd1_s, b2, bd1_s, c1, bd1_s, e1, bd1_s, f1, bd1_s, g1, l1, nI_add]
  · unfold f_Md_liveDay
    rw [a2, bd1_s, b3, bd1_s, c2, bd1_s, e2, bd1_s, f2, bd1_s, g2, l1, nI_add]
  · rw [wr_row _ _ (by omega), f5 j (by omega) (by omega) (by omega), e5 j (by omega) (by omega) (by omega) (by omega) (by omega), c5.1 j (by omega), b5 j (by omega), a6 j (by omega) (by omega) (by omega)]
  · rw [wr_row _ _ (by omega), wr_row _ _ (by omega), f6 j (by omega), e6 j (by omega) (by omega), c5.2.1 j (by omega), b6 j (by omega), a7 j (by omega) (by omega)]
  · rw [wr_idx _ _ (by omega), wr_cell _ _ (by omega), f6 88 (by omega), e6 88 (by omega) (by omega), c5.2.2 4 (by omega), b7 4 (by omega), a7 88 (by omega) (by omega)]
theorem days_ok {t n : Nat} (ht : t < 512) (y : Nat) (hy : y ≤ 30) : ∀ (m k q q' d : Nat) (C D : St), k + m = y → m < q → m < q' → d + m ≤ 700 → RT C D 0 89 0 → WTn C 0 t n d → D 88 11 = 0 → ∃ C' D', L_Mk_live_30 q (nI y) (nI k) C = some C' ∧ L_Md_live_31 q' (nI y) (nI k) D = some D' ∧ RT C' D' 0 89 0 ∧ WTn C' 0 t n (d + m) ∧ (∀ j, j = 18 ∨ j = 19 ∨ j = 20 ∨ 40 ≤ j → C' j = C j) ∧ (∀ j, j = 90 ∨ j = 91 ∨ j = 92 → D' j = D j) ∧ D' 88 4 = D 88 4 ∧ D' 88 11 = 0
  | 0, k, q + 1, q' + 1, d, C, D, hk, _, _, _, hR, hW, h11 => by
    refine ⟨C, D, ?_, ?_, hR, hW, fun _ _ => rfl, fun _ _ => rfl, rfl, h11⟩
    · rw [L_Mk_live_30, if_pos (by rw [nI_leI (by omega) (by omega)]; omega)]
    · rw [L_Md_live_31, if_pos (by rw [nI_leI (by omega) (by omega)]; omega)]
  | m + 1, k, q + 1, q' + 1, d, C, D, hk, hq, hq', hd, hR, hW, h11 => by
    obtain ⟨C1, D1, a1, a2, a3, a4, a5, a6, a7, a8⟩ := day_ok hR hW ht (by omega)
    obtain ⟨C', D', b1, b2, b3, b4, b5, b6, b7, b8⟩ := days_ok ht y hy m (k + 1) q q' (d + 1) C1 D1 (by omega) (by omega) (by omega) (by omega) a3 a4 a8
    refine ⟨C', D', ?_, ?_, b3, by rw [show d + (m + 1) = d + 1 + m by omega]; exact b4, fun j hj => by rw [b5 j hj, a5 j hj], fun j hj => by rw [b6 j hj, a6 j hj], by rw [b7, a7], b8⟩
    · rw [L_Mk_live_30, if_neg (by rw [nI_leI (by omega) (by omega)]; omega), a1, bd1_s, l1, nI_add]
      exact b1
    · rw [L_Md_live_31, if_neg (by rw [nI_leI (by omega) (by omega)]; omega), a2, bd1_s, l1, nI_add]
      exact b2
theorem sim_live_ok {t : Nat} {C D : St} (ht : t < 512) (h : Rel t C D) : sim_live Rel t C D := by
  intro x
  obtain ⟨hR, ⟨n, d, hW⟩, hWD, hTP, h11⟩ := h
  have hrel : Rel t C D := ⟨hR, ⟨n, d, hW⟩, hWD, hTP, h11⟩
  obtain ⟨-, -, hd, g1⟩ := hW.n0
  have g2 : D 89 2164 = nI d := by rw [← (rt_n hR).2.1]; exact g1
  unfold f_Mk_live f_Md_live
  rcases in_cases x 1 30 1 30 rfl rfl (by omega) (by omega) with ⟨k, k1, k2, rfl, e1, e2⟩ | ⟨e1, e2⟩
  · rw [e1, e2, bd1_s, bd1_s, if_neg i10, if_neg i10, g1, g2, nI_add, l700]
    by_cases hs : d + k ≤ 700
    · rw [if_pos (by rw [nI_leI (by omega) (by omega)]; exact hs), if_pos (by rw [nI_leI (by omega) (by omega)]; exact hs)]
      obtain ⟨C', D', b1, b2, b3, b4, b5, b6, b7, b8⟩ := days_ok ht k k2 k 0 3000 3000 d C D (by omega) (by omega) (by omega) hs hR hW h11
      rw [show L_Mk_live_30 3000 (nI k) 0 C = _ from b1, show L_Md_live_31 3000 (nI k) 0 D = _ from b2, bd1_s, bd1_s]
      refine ⟨C' 1 1, C', D', rfl, by rw [(rt_n b3).2.1], Rel.mono ⟨b3, ⟨n, d + k, b4⟩, hWD.frame (fun j h1 h2 => b5 j (by omega)) (b5 18 (by omega)) (b6 90 (by omega)) (b6 91 (by omega)), ?_, b8⟩⟩
      unfold TP at hTP ⊢
      rw [b5 19 (by omega), b5 20 (by omega), b6 92 (by omega), b7]
      exact hTP
    · rw [if_neg (by rw [nI_leI (by omega) (by omega)]; exact hs), if_neg (by rw [nI_leI (by omega) (by omega)]; exact hs)]
      exact ⟨_, C, D, rfl, rfl, hrel.mono⟩
  · rw [e1, e2, bd1_s, bd1_s, if_pos rfl, if_pos rfl]
    exact ⟨_, C, D, rfl, rfl, hrel.mono⟩
