/-! PURE: save, load: the relation -/
theorem cp0_refl (C : St) (z : Nat) : CP0 C C z z := ⟨fun _ _ => rfl, fun _ _ => ⟨rfl, rfl, rfl, rfl, rfl⟩, fun _ _ => rfl, fun _ _ => rfl, fun _ _ => rfl, fun _ _ => rfl, fun _ _ => rfl, rfl, fun _ _ => rfl⟩
theorem nar1 : vp_nar .boolean 1 = 1 := by decide
/-- the reference's copy, j places done -/
def mvS (D : St) (A u B v j : Nat) : St := fun c i => if c = A ∧ u ≤ i ∧ i < u + j then D B (v + (i - u)) else D c i
theorem mvS_0 (D : St) (A u B v : Nat) : mvS D A u B v 0 = D := by
  funext c i
  unfold mvS
  rw [if_neg (by omega)]
theorem mvS_s {D : St} {A u B v j : Nat} (hAB : B ≠ A) : mj_wr (mvS D A u B v j) A (u + j) (mvS D A u B v j B (v + j)) = mvS D A u B v (j + 1) := by
  funext c i
  unfold mj_wr
  have e : mvS D A u B v j B (v + j) = D B (v + j) := by
    unfold mvS
    rw [if_neg (by omega)]
  rw [e]
  by_cases h : c = A ∧ i = u + j
  · rw [if_pos h]
    unfold mvS
    rw [if_pos (by omega), h.2, show u + j - u = j by omega]
  · rw [if_neg h]
    unfold mvS
    by_cases h2 : c = A ∧ u ≤ i ∧ i < u + j
    · rw [if_pos h2, if_pos (by omega)]
    · rw [if_neg h2, if_neg (by omega)]
theorem m_idx {k j : Nat} : (2200 * nI k) + nI j = nI (2200 * k + j) := by
  rw [l2200]
  simp only [pk_mul, nI_add]
theorem m_save_loop {D : St} {k : Nat} (hk : k < 3) : ∀ (m j n : Nat), j + m = 2200 → m < n → L_Md_save_14 n (nI k) (nI j) (mvS D 90 (2200 * k) 89 0 j) = some (mvS D 90 (2200 * k) 89 0 2200)
  | 0, j, n + 1, hj, hn => by
    obtain rfl : j = 2200 := by omega
    unfold L_Md_save_14
    rw [if_pos (by decide)]
  | m + 1, j, n + 1, hj, hn => by
    unfold L_Md_save_14
    have ih := m_save_loop (D := D) hk m (j + 1) n (by omega) (by omega)
    have e := mvS_s (D := D) (A := 90) (u := 2200 * k) (B := 89) (v := 0) (j := j) (by omega)
    rw [Nat.zero_add] at e
    rw [if_neg (by rw [l2200]; exact nI_ge (by omega) (by omega)), if_pos (inb_t (by omega) (by omega)), m_idx, if_pos (inb_t (by omega) (by omega)), nI_clamp (by omega), nI_clamp (by omega), nI_1, e]
    exact ih
theorem m_load_loop {D : St} {k : Nat} (hk : k < 3) : ∀ (m j n : Nat), j + m = 2200 → m < n → L_Md_load_26 n (nI k) (nI j) (mvS D 89 0 90 (2200 * k) j) = some (mvS D 89 0 90 (2200 * k) 2200)
  | 0, j, n + 1, hj, hn => by
    obtain rfl : j = 2200 := by omega
    unfold L_Md_load_26
    rw [if_pos (by decide)]
  | m + 1, j, n + 1, hj, hn => by
    unfold L_Md_load_26
    have ih := m_load_loop (D := D) hk m (j + 1) n (by omega) (by omega)
    have e := mvS_s (D := D) (A := 89) (u := 0) (B := 90) (v := 2200 * k) (j := j) (by omega)
    rw [Nat.zero_add] at e
    rw [if_neg (by rw [l2200]; exact nI_ge (by omega) (by omega)), m_idx, if_pos (inb_t (by omega) (by omega)), if_pos (inb_t (by omega) (by omega)), nI_clamp (by omega), nI_clamp (by omega), nI_1, e]
    exact ih
/-- a world laid aside -/
theorem rel_save {t k : Nat} {C D C4 : St} (h : Rel t C D) (hk : k < 3) (hc : CPY C C4 0 (39 + 16 * k)) : Rel t (mj_wr C4 18 k 1) (mj_wr (mvS D 90 (2200 * k) 89 0 2200) 91 k 1) := by
  obtain ⟨hR, ⟨n, d, hW⟩, hWD, hT, hO⟩ := h
  have cC : ∀ c, ¬ (40 + 16 * k ≤ c ∧ c ≤ 55 + 16 * k) → c ≠ 18 → mj_wr C4 18 k 1 c = C c := fun c h1 h2 => by rw [wr_row _ _ h2]; exact hc.1 c (by omega)
  have cD : ∀ c, c ≠ 90 → c ≠ 91 → mj_wr (mvS D 90 (2200 * k) 89 0 2200) 91 k 1 c = D c := fun c h1 h2 => by
    rw [wr_row _ _ h2]
    funext i
    unfold mvS
    rw [if_neg (by omega)]
  have d90 : ∀ i, mj_wr (mvS D 90 (2200 * k) 89 0 2200) 91 k 1 90 i = if 2200 * k ≤ i ∧ i < 2200 * k + 2200 then D 89 (i - 2200 * k) else D 90 i := by
    intro i
    rw [wr_cell _ _ (by omega)]
    unfold mvS
    by_cases hi : 2200 * k ≤ i ∧ i < 2200 * k + 2200
    · rw [if_pos ⟨rfl, hi⟩, if_pos hi, Nat.zero_add]
    · rw [if_neg (fun q => hi q.2), if_neg hi]
  refine ⟨hR.frame (fun j h1 h2 => cC _ (by omega) (by omega)) (cD 89 (by omega) (by omega)), ⟨n, d, hW.frame (fun j h1 h2 => cC _ (by omega) (by omega))⟩, fun j hj => ?_, hT.frame (cC 19 (by omega) (by omega)) (cC 20 (by omega) (by omega)) (cD 88 (by omega) (by omega)) (cD 92 (by omega) (by omega)), by rw [cD 88 (by omega) (by omega)]; exact hO⟩
  by_cases hjk : j = k
  · subst hjk
    rw [wr_same, wr_same]
    have hc' : CP0 C (mj_wr C4 18 j 1) 0 (39 + 16 * j) := by
      obtain ⟨-, c1, c2, c6, c8, c9, c11, c14, c15, c16⟩ := hc
      refine ⟨fun i hi => ?_, fun i hi => ?_, fun i hi => ?_, fun i hi => ?_, fun i hi => ?_, fun i hi => ?_, fun i hi => ?_, ?_, fun i hi => ?_⟩
      · rw [wr_cell _ _ (by omega)]; exact c1 i hi
      · rw [wr_cell _ _ (by omega), wr_cell _ _ (by omega), wr_cell _ _ (by omega), wr_cell _ _ (by omega), wr_cell _ _ (by omega)]; exact c2 i hi
      · rw [wr_cell _ _ (by omega)]; exact c6 i hi
      · rw [wr_cell _ _ (by omega)]; exact c8 i hi
      · rw [wr_cell _ _ (by omega)]; exact c9 i hi
      · rw [wr_cell _ _ (by omega)]; exact c11 i hi
      · rw [wr_cell _ _ (by omega)]; exact c14 i hi
      · rw [wr_cell _ _ (by omega)]; exact c15
      · rw [wr_cell _ _ (by omega)]; exact c16 i hi
    refine ⟨rfl, Or.inr rfl, fun _ => ⟨cp0_rt hc' hR (fun i hi => ?_), n, d, cp0_wt hc' hW⟩⟩
    rw [d90, if_pos (by omega), Nat.zero_add, show 2200 * j + i - 2200 * j = i by omega]
  · have e18 : mj_wr C4 18 k 1 18 j = C 18 j := by rw [wr_idx _ _ hjk, hc.1 18 (by omega)]
    have e91 : mj_wr (mvS D 90 (2200 * k) 89 0 2200) 91 k 1 91 j = D 91 j := by
      rw [wr_idx _ _ hjk]
      unfold mvS
      rw [if_neg (by omega)]
    rw [e18, e91]
    refine ⟨(hWD j hj).1, (hWD j hj).2.1, fun e => ?_⟩
    obtain ⟨a1, n1, d1, a2⟩ := (hWD j hj).2.2 e
    have a1' : RT C (mj_wr (mvS D 90 (2200 * k) 89 0 2200) 91 k 1) (39 + 16 * j) 90 (2200 * j) := cp0_rt (cp0_refl C _) a1 (fun i hi => by rw [d90, if_neg (by omega)])
    exact ⟨a1'.frame (fun q h1 h2 => cC _ (by omega) (by omega)) rfl, n1, d1, a2.frame (fun q h1 h2 => cC _ (by omega) (by omega))⟩
theorem sim_save_ok {t : Nat} {C D : St} (h : Rel t C D) : sim_save Rel t C D := by
  intro a1
  unfold f_Mk_save f_Md_save
  rcases in_cases a1 0 2 0 2 rfl rfl (by omega) (by omega) with ⟨k, i1, i2, rfl, g1, g2⟩ | ⟨g1, g2⟩
  rotate_left
  · rw [g1, g2]; exact ⟨_, _, _, rfl, rfl, h.mono⟩
  have hl := m_save_loop (D := D) (show k < 3 by omega) 2200 0 3000 rfl (by omega)
  rw [mvS_0] at hl
  have dv : mj_wr (mvS D 90 (2200 * k) 89 0 2200) 91 k 1 89 2164 = C 1 1 := by
    rw [wr_cell _ _ (by omega)]
    unfold mvS
    rw [if_neg (by omega)]
    exact (rt_n h.1).2.1.symm
  rw [g1, g2, bd1_s, bd1_s, if_neg i10, if_neg i10, show L_Md_save_14 3000 (nI k) 0 D = _ from hl, bd1_s, if_pos (inb_t (show k < 3 by omega) (by omega)), nI_clamp (by omega), nar1, dv]
  rcases (show k = 0 ∨ k = 1 ∨ k = 2 by omega) with rfl | rfl | rfl
  · obtain ⟨C4, e, hc⟩ := v_become C
    rw [if_pos (by decide), e, bd1_s, if_pos (by decide)]
    exact ⟨_, _, _, by rw [wr_cell _ _ (by omega), hc.1 1 (by omega)], rfl, rel_save h.mono (by omega) hc⟩
  · obtain ⟨C4, e, hc⟩ := v_become_1 C
    rw [if_neg (by decide), if_pos (by decide), e, bd1_s, if_pos (by decide)]
    exact ⟨_, _, _, by rw [wr_cell _ _ (by omega), hc.1 1 (by omega)], rfl, rel_save h.mono (by omega) hc⟩
  · obtain ⟨C4, e, hc⟩ := v_become_2 C
    rw [if_neg (by decide), if_neg (by decide), if_pos (by decide), e, bd1_s, if_pos (by decide)]
    exact ⟨_, _, _, by rw [wr_cell _ _ (by omega), hc.1 1 (by omega)], rfl, rel_save h.mono (by omega) hc⟩
theorem rel_load {t k : Nat} {C D C4 : St} (h : Rel t C D) (hk : k < 3) (h1 : C 18 k = 1) (hc : CPY C C4 (39 + 16 * k) 0) : Rel t C4 (mvS D 89 0 90 (2200 * k) 2200) := by
  obtain ⟨hR, hW, hWD, hT, hO⟩ := h
  obtain ⟨a1, n, d, a2⟩ := (hWD k hk).2.2 h1
  have cC : ∀ c, 17 ≤ c → C4 c = C c := fun c h1 => hc.1 c (by omega)
  have cD : ∀ c, c ≠ 89 → mvS D 89 0 90 (2200 * k) 2200 c = D c := fun c h1 => by
    funext i
    unfold mvS
    rw [if_neg (by omega)]
  refine ⟨cp0_rt hc.2 a1 (fun i hi => ?_), ⟨n, d, cp0_wt hc.2 a2⟩, hWD.frame (fun j h1 h2 => cC j (by omega)) (cC 18 (by omega)) (cD 90 (by omega)) (cD 91 (by omega)), hT.frame (cC 19 (by omega)) (cC 20 (by omega)) (cD 88 (by omega)) (cD 92 (by omega)), by rw [cD 88 (by omega)]; exact hO⟩
  unfold mvS
  rw [if_pos (by omega), Nat.zero_add, Nat.sub_zero]
theorem sim_load_ok {t : Nat} {C D : St} (h : Rel t C D) : sim_load Rel t C D := by
  intro a1
  unfold f_Mk_load f_Md_load
  rcases in_cases a1 0 2 0 2 rfl rfl (by omega) (by omega) with ⟨k, i1, i2, rfl, g1, g2⟩ | ⟨g1, g2⟩
  rotate_left
  · rw [g1, g2]; exact ⟨_, _, _, rfl, rfl, h.mono⟩
  have hk3 : k < 3 := by omega
  obtain ⟨w1, w2, w3⟩ := h.2.2.1 k hk3
  have ib : inb (nI k) 3 := inb_t hk3 (by omega)
  have ec : (nI k).toNatClampNeg = k := nI_clamp (by omega)
  rw [g1, g2, bd1_s, bd1_s, if_neg i10, if_neg i10, if_pos ib, if_pos ib, ec, ← w1]
  rcases w2 with w2 | w2
  · rw [if_pos w2, if_pos w2]; exact ⟨_, _, _, rfl, rfl, h.mono⟩
  have hl := m_load_loop (D := D) hk3 2200 0 3000 rfl (by omega)
  rw [mvS_0] at hl
  have ne : ¬ C 18 k = 0 := by rw [w2]; decide
  rw [if_neg ne, if_neg ne, show L_Md_load_26 3000 (nI k) 0 D = _ from hl, bd1_s]
  have fin : ∀ C4 : St, CPY C C4 (39 + 16 * k) 0 → ∃ (v : Int32) (C' D' : St), some (C4 1 1, C4) = some (v, C') ∧ some (mvS D 89 0 90 (2200 * k) 2200 89 2164, mvS D 89 0 90 (2200 * k) 2200) = some (v, D') ∧ Rel (t + 1) C' D' := by
    intro C4 hc
    have r := rel_load h.mono hk3 w2 hc
    exact ⟨_, _, _, rfl, by rw [(rt_n r.1).2.1], r⟩
  rcases (show k = 0 ∨ k = 1 ∨ k = 2 by omega) with rfl | rfl | rfl
  · obtain ⟨C4, e, hc⟩ := v_become_3 C
    rw [if_pos (by decide), e, bd1_s]
    exact fin C4 hc
  · obtain ⟨C4, e, hc⟩ := v_become_4 C
    rw [if_neg (by decide), if_pos (by decide), e, bd1_s]
    exact fin C4 hc
  · obtain ⟨C4, e, hc⟩ := v_become_5 C
    rw [if_neg (by decide), if_neg (by decide), if_pos (by decide), e, bd1_s]
    exact fin C4 hc
