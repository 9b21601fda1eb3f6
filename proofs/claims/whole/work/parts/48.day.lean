/-! PURE: a day: offers made, and all the acts -/
theorem nar0 : vp_nar .boolean 0 = 0 := by decide
theorem v_append {C : St} {m : Nat} (hm : m < 72) (h : C 26 6 = nI m) (x1 x2 x3 x4 : Int32) : f_Of_append x1 x2 x3 x4 C = some (mj_wr (mj_wr (mj_wr (mj_wr (mj_wr C 27 m x1) 31 m x2) 29 m x3) 28 m x4) 26 6 (nI (m + 1))) := by
  have w27 : ∀ (C : St) k x, mj_wr C 27 k x 26 6 = C 26 6 := fun C k x => wr_cell _ _ (by omega)
  have w31 : ∀ (C : St) k x, mj_wr C 31 k x 26 6 = C 26 6 := fun C k x => wr_cell _ _ (by omega)
  have w29 : ∀ (C : St) k x, mj_wr C 29 k x 26 6 = C 26 6 := fun C k x => wr_cell _ _ (by omega)
  have w28 : ∀ (C : St) k x, mj_wr C 28 k x 26 6 = C 26 6 := fun C k x => wr_cell _ _ (by omega)
  unfold f_Of_append
  simp only [w27, w31, w29, w28, h]
  rw [if_pos (by rw [l72, nI_ltI (by omega) (by omega)]; exact hm), if_pos (inb_t hm (by omega)), if_pos (inb_t hm (by omega)), if_pos (inb_t hm (by omega)), if_pos (inb_t hm (by omega)), nI_clamp (by omega), l1, nI_add]
theorem v_append_1 {C : St} {m : Nat} (hm : m < 72) (h : C 32 6 = nI m) (x1 x2 x3 x4 : Int32) : f_Of_append_1 x1 x2 x3 x4 C = some (mj_wr (mj_wr (mj_wr (mj_wr (mj_wr C 33 m x1) 37 m x2) 35 m x3) 34 m x4) 32 6 (nI (m + 1))) := by
  have w27 : ∀ (C : St) k x, mj_wr C 33 k x 32 6 = C 32 6 := fun C k x => wr_cell _ _ (by omega)
  have w31 : ∀ (C : St) k x, mj_wr C 37 k x 32 6 = C 32 6 := fun C k x => wr_cell _ _ (by omega)
  have w29 : ∀ (C : St) k x, mj_wr C 35 k x 32 6 = C 32 6 := fun C k x => wr_cell _ _ (by omega)
  have w28 : ∀ (C : St) k x, mj_wr C 34 k x 32 6 = C 32 6 := fun C k x => wr_cell _ _ (by omega)
  unfold f_Of_append_1
  simp only [w27, w31, w29, w28, h]
  rw [if_pos (by rw [l72, nI_ltI (by omega) (by omega)]; exact hm), if_pos (inb_t hm (by omega)), if_pos (inb_t hm (by omega)), if_pos (inb_t hm (by omega)), if_pos (inb_t hm (by omega)), nI_clamp (by omega), l1, nI_add]
def adD (D : St) (no : Nat) (x1 x2 x3 x4 x5 : Int32) : St := mj_wr (mj_wr (mj_wr (mj_wr (mj_wr (mj_wr (mj_wr D 93 no x1) 94 no x2) 95 no x3) 98 no x3) 96 no x4) 97 no x5) 88 11 (nI (no + 1))
theorem m_offer {D : St} {no : Nat} (hm : no < 80) (h : D 88 11 = nI no) (x1 x2 x3 x4 x5 : Int32) (h3 : ¬ x3 = 0) (h5 : vp_nar .boolean x5 = x5) : f_Md_offer x1 x2 x3 x4 x5 D = some (adD D no x1 x2 x3 x4 x5) := by
  have w93 : ∀ (C : St) k x, mj_wr C 93 k x 88 11 = C 88 11 := fun C k x => wr_cell _ _ (by omega)
  have w94 : ∀ (C : St) k x, mj_wr C 94 k x 88 11 = C 88 11 := fun C k x => wr_cell _ _ (by omega)
  have w95 : ∀ (C : St) k x, mj_wr C 95 k x 88 11 = C 88 11 := fun C k x => wr_cell _ _ (by omega)
  have w96 : ∀ (C : St) k x, mj_wr C 96 k x 88 11 = C 88 11 := fun C k x => wr_cell _ _ (by omega)
  have w97 : ∀ (C : St) k x, mj_wr C 97 k x 88 11 = C 88 11 := fun C k x => wr_cell _ _ (by omega)
  have w98 : ∀ (C : St) k x, mj_wr C 98 k x 88 11 = C 88 11 := fun C k x => wr_cell _ _ (by omega)
  unfold f_Md_offer adD
  simp only [w93, w94, w95, w96, w97, w98, h]
  rw [if_neg h3, if_pos (inb_t hm (by omega)), if_pos (inb_t hm (by omega)), if_pos (inb_t hm (by omega)), if_pos (inb_t hm (by omega)), if_pos (inb_t hm (by omega)), if_pos (inb_t hm (by omega)), nI_clamp (by omega), l1, nI_add, h5]
theorem adD_at (D : St) (no : Nat) (x1 x2 x3 x4 x5 : Int32) : adD D no x1 x2 x3 x4 x5 93 = up (D 93) no x1 ∧ adD D no x1 x2 x3 x4 x5 94 = up (D 94) no x2 ∧ adD D no x1 x2 x3 x4 x5 95 = up (D 95) no x3 ∧ adD D no x1 x2 x3 x4 x5 98 = up (D 98) no x3 ∧ adD D no x1 x2 x3 x4 x5 96 = up (D 96) no x4 ∧ adD D no x1 x2 x3 x4 x5 97 = up (D 97) no x5 ∧ adD D no x1 x2 x3 x4 x5 88 11 = nI (no + 1) ∧ (∀ i, i ≠ 11 → adD D no x1 x2 x3 x4 x5 88 i = D 88 i) ∧ (∀ j, j ≠ 88 → (j < 93 ∨ 98 < j) → adD D no x1 x2 x3 x4 x5 j = D j) := by
  unfold adD
  refine ⟨?_, ?_, ?_, ?_, ?_, ?_, wr_same _ _ _ _, fun i hi => ?_, fun j h1 h2 => ?_⟩
  · rw [wr_row _ _ (by omega), wr_row _ _ (by omega), wr_row _ _ (by omega), wr_row _ _ (by omega), wr_row _ _ (by omega), wr_row _ _ (by omega), wr_up]
  · rw [wr_row _ _ (by omega), wr_row _ _ (by omega), wr_row _ _ (by omega), wr_row _ _ (by omega), wr_row _ _ (by omega), wr_up, wr_row _ _ (by omega)]
  · rw [wr_row _ _ (by omega), wr_row _ _ (by omega), wr_row _ _ (by omega), wr_row _ _ (by omega), wr_up, wr_row _ _ (by omega), wr_row _ _ (by omega)]
  · rw [wr_row _ _ (by omega), wr_row _ _ (by omega), wr_row _ _ (by omega), wr_up, wr_row _ _ (by omega), wr_row _ _ (by omega), wr_row _ _ (by omega)]
  · rw [wr_row _ _ (by omega), wr_row _ _ (by omega), wr_up, wr_row _ _ (by omega), wr_row _ _ (by omega), wr_row _ _ (by omega), wr_row _ _ (by omega)]
  · rw [wr_row _ _ (by omega), wr_up, wr_row _ _ (by omega), wr_row _ _ (by omega), wr_row _ _ (by omega), wr_row _ _ (by omega), wr_row _ _ (by omega)]
  · rw [wr_idx _ _ hi, wr_cell _ _ (by omega), wr_cell _ _ (by omega), wr_cell _ _ (by omega), wr_cell _ _ (by omega), wr_cell _ _ (by omega), wr_cell _ _ (by omega)]
  · rw [wr_row _ _ h1, wr_row _ _ (by omega), wr_row _ _ (by omega), wr_row _ _ (by omega), wr_row _ _ (by omega), wr_row _ _ (by omega), wr_row _ _ (by omega)]
theorem SD.add {C D C' D' : St} {c no : Nat} {x : Int32} (h : SD C D c x no) (hD : ∀ j k, 93 ≤ j → j ≤ 98 → k < no → D' j k = D j k) (h97 : D' 97 no = x) (h6 : C' c 6 = nI (cn (PX D x) no + 1)) (h1 : C' (c + 1) = up (C (c + 1)) (cn (PX D x) no) (D' 93 no)) (h2 : C' (c + 2) = up (C (c + 2)) (cn (PX D x) no) (D' 96 no)) (h3 : C' (c + 3) = up (C (c + 3)) (cn (PX D x) no) (D' 98 no)) (h5 : C' (c + 5) = up (C (c + 5)) (cn (PX D x) no) (D' 94 no)) : SD C' D' c x (no + 1) := by
  have hc : ∀ k, k ≤ no → cn (PX D' x) k = cn (PX D x) k := fun k hk => cn_congr k (fun i hi => by unfold PX; rw [hD 97 i (by omega) (by omega) (by omega)])
  refine ⟨?_, fun k hk hx => ?_⟩
  · rw [h6, cn_succ, hc no (by omega), if_pos (by unfold PX; exact decide_eq_true h97)]
  · rw [hc k (by omega), h1, h2, h3, h5]
    by_cases hkn : k = no
    · subst hkn
      rw [up_same, up_same, up_same, up_same]; exact ⟨rfl, rfl, rfl, rfl⟩
    · rw [hD 97 k (by omega) (by omega) (by omega)] at hx
      have hlt := cn_lt (P := PX D x) (a := k) no (by omega) (by unfold PX; exact decide_eq_true hx)
      rw [up_ne _ _ (by omega), up_ne _ _ (by omega), up_ne _ _ (by omega), up_ne _ _ (by omega), hD 93 k (by omega) (by omega) (by omega), hD 94 k (by omega) (by omega) (by omega), hD 96 k (by omega) (by omega) (by omega), hD 98 k (by omega) (by omega) (by omega)]
      exact h.2 k (by omega) hx
theorem SD.skip {C D C' D' : St} {c no : Nat} {x : Int32} (h : SD C D c x no) (hD : ∀ j k, 93 ≤ j → j ≤ 98 → k < no → D' j k = D j k) (h97 : D' 97 no ≠ x) (hC : ∀ j, c ≤ j → j ≤ c + 5 → C' j = C j) : SD C' D' c x (no + 1) := by
  have hc : ∀ k, k ≤ no → cn (PX D' x) k = cn (PX D x) k := fun k hk => cn_congr k (fun i hi => by unfold PX; rw [hD 97 i (by omega) (by omega) (by omega)])
  refine ⟨?_, fun k hk hx => ?_⟩
  · rw [hC c (by omega) (by omega), h.1, cn_succ, hc no (by omega), if_neg (by unfold PX; rw [decide_eq_false h97]; decide), Nat.add_zero]
  · by_cases hkn : k = no
    · subst hkn; exact absurd hx h97
    · rw [hD 97 k (by omega) (by omega) (by omega)] at hx
      rw [hc k (by omega), hC (c + 1) (by omega) (by omega), hC (c + 2) (by omega) (by omega), hC (c + 3) (by omega) (by omega), hC (c + 5) (by omega) (by omega), hD 93 k (by omega) (by omega) (by omega), hD 94 k (by omega) (by omega) (by omega), hD 96 k (by omega) (by omega) (by omega), hD 98 k (by omega) (by omega) (by omega)]
      exact h.2 k (by omega) hx
/-- ASK -/
theorem ask_ok {C D : St} {t n d no a g : Nat} {N P : Int32} (h : AS C D t n d no) (ht : t ≤ 600) (hno : no < 72) (ha : a < n) (hg : g < 5) (hN : rg N 1 999) (hP : rg P 1 999) : ∃ C' D' no', f_Mt_ask (nI a) (nI g) N P C = some C' ∧ (bd1 (f_Md_freeOf (nI a) (nI g) D) fun v24 => bd1 (f_Md_less N v24) fun v26 => bd1 (f_Md_offer (nI a) (nI g) v26 P 0 D) fun C28 => some C28) = some D' ∧ AS C' D' t n d no' ∧ no' ≤ no + 1 ∧ FRM C D C' D' := by
  have hn := h.2.1.1.1
  obtain ⟨f, f1, f2, f3, f4, f5⟩ := free_of h ht (show a < 12 by omega) hg
  have hm := amt_toInt N f
  have hN1 := hN.1
  have hN2 := hN.2
  have m0 : 0 ≤ (amt N f).toInt := by rw [hm]; split <;> omega
  have m1 : (amt N f).toInt ≤ f.toInt := by rw [hm]; split <;> omega
  have m2 : (amt N f).toInt ≤ 999 := by rw [hm]; split <;> omega
  unfold f_Mt_ask
  rw [f1, f2, bd1_s, bd1_s, m_less, bd1_s, show (if f < N then f else N : Int32) = amt N f from rfl]
  by_cases hz : amt N f = 0
  · rw [hz, if_pos (by decide)]
    exact ⟨C, D, no, rfl, by unfold f_Md_offer; rw [if_pos rfl, bd1_s], h, by omega, FRM.refl C D⟩
  · have hz' : ¬ amt N f ≤ 0 := fun hle => hz (Int32.toInt_inj.mp (by rw [Int32.le_iff_toInt_le, Int32.toInt_zero] at hle; rw [Int32.toInt_zero]; omega))
    have hz1 : 1 ≤ (amt N f).toInt := by
      rw [Int32.le_iff_toInt_le, Int32.toInt_zero] at hz'; omega
    obtain ⟨hR, hW, ⟨o1, o2, o3, o4, o5⟩, x1, x2, x3⟩ := h
    have hcn := cn_le (P := PX D 0) no
    obtain ⟨a1, a2, a3, a4, a5, a6, a7, a8, a9⟩ := adD_at D no (nI a) (nI g) (amt N f) P 0
    rw [if_neg hz', v_append (m := cn (PX D 0) no) (by omega) o3.1, bd1_s, ag_at, if_pos (inb_t (by omega) (by omega)), nI_clamp (by omega), m_offer (by omega) o1 _ _ _ _ 0 hz nar0, bd1_s, bd1_s]
    have hD : ∀ j k, 93 ≤ j → j ≤ 98 → k < no → adD D no (nI a) (nI g) (amt N f) P 0 j k = D j k := fun j k h1 h2 h3 => by
      rcases (show j = 93 ∨ j = 94 ∨ j = 95 ∨ j = 96 ∨ j = 97 ∨ j = 98 by omega) with rfl | rfl | rfl | rfl | rfl | rfl
      · rw [a1, up_ne _ _ (by omega)]
      · rw [a2, up_ne _ _ (by omega)]
      · rw [a3, up_ne _ _ (by omega)]
      · rw [a5, up_ne _ _ (by omega)]
      · rw [a6, up_ne _ _ (by omega)]
      · rw [a4, up_ne _ _ (by omega)]
    have b93 : adD D no (nI a) (nI g) (amt N f) P 0 93 no = nI a := by rw [a1, up_same]
    have b94 : adD D no (nI a) (nI g) (amt N f) P 0 94 no = nI g := by rw [a2, up_same]
    have b95 : adD D no (nI a) (nI g) (amt N f) P 0 95 no = amt N f := by rw [a3, up_same]
    have b96 : adD D no (nI a) (nI g) (amt N f) P 0 96 no = P := by rw [a5, up_same]
    have b97 : adD D no (nI a) (nI g) (amt N f) P 0 97 no = 0 := by rw [a6, up_same]
    have b98 : adD D no (nI a) (nI g) (amt N f) P 0 98 no = amt N f := by rw [a4, up_same]
    generalize adD D no (nI a) (nI g) (amt N f) P 0 = D' at *
    have hx := x2 a g (by omega) hg
    have hd9 := ps_sum hW.ps (show 5 * a + g < 60 by omega)
    have hdd := hW.1.2.2.1
    have c38 : mj_wr (mj_wr (mj_wr (mj_wr (mj_wr C 27 (cn (PX D 0) no) (nI a)) 31 (cn (PX D 0) no) (nI g)) 29 (cn (PX D 0) no) (amt N f)) 28 (cn (PX D 0) no) P) 26 6 (nI (cn (PX D 0) no + 1)) 38 (5 * a + g) = C 38 (5 * a + g) := by
      rw [wr_cell _ _ (by omega), wr_cell _ _ (by omega), wr_cell _ _ (by omega), wr_cell _ _ (by omega), wr_cell _ _ (by omega)]
    rw [c38]
    obtain ⟨C', hC'⟩ : ∃ C', C' = mj_wr (mj_wr (mj_wr (mj_wr (mj_wr (mj_wr C 27 (cn (PX D 0) no) (nI a)) 31 (cn (PX D 0) no) (nI g)) 29 (cn (PX D 0) no) (amt N f)) 28 (cn (PX D 0) no) P) 26 6 (nI (cn (PX D 0) no + 1))) 38 (5 * a + g) (C 38 (5 * a + g) + amt N f) := ⟨_, rfl⟩
    rw [← hC']
    have fC : ∀ j, (j < 26 ∨ j = 30 ∨ 32 ≤ j) → j ≠ 38 → C' j = C j := fun j h1 h2 => by
      rw [hC', wr_row _ _ h2, wr_row _ _ (by omega), wr_row _ _ (by omega), wr_row _ _ (by omega), wr_row _ _ (by omega), wr_row _ _ (by omega)]
    have g38 : C' 38 = up (C 38) (5 * a + g) (C 38 (5 * a + g) + amt N f) := by
      rw [hC', wr_up, wr_row _ _ (by omega), wr_row _ _ (by omega), wr_row _ _ (by omega), wr_row _ _ (by omega), wr_row _ _ (by omega)]
    refine ⟨C', D', no + 1, rfl, rfl, ⟨?_, ?_, ⟨a7, by omega, o3.add hD b97 ?_ ?_ ?_ ?_ ?_, o4.skip hD (by rw [b97]; decide) (fun j h1 h2 => fC j (by omega) (by omega)), fun k hk => ?_⟩, fun k hk => ?_, fun a' g' ha' hg' => ?_, fun a' ha' => ?_⟩, by omega, fun j hj => fC j (by omega) (by omega), fun j hj => a9 j (by omega) (by omega), a8⟩
    · exact hR.frame (fun j h1 h2 => fC _ (by omega) (by omega)) (a9 89 (by omega) (by omega))
    · exact hW.frame (fun j h1 h2 => fC _ (by omega) (by omega))
    · rw [hC', wr_cell _ _ (by omega), wr_same]
    · rw [b93, hC', wr_row _ _ (by omega), wr_row _ _ (by omega), wr_row _ _ (by omega), wr_row _ _ (by omega), wr_row _ _ (by omega), wr_up]
    · rw [b96, hC', wr_row _ _ (by omega), wr_row _ _ (by omega), wr_up, wr_row _ _ (by omega), wr_row _ _ (by omega), wr_row _ _ (by omega)]
    · rw [b98, hC', wr_row _ _ (by omega), wr_row _ _ (by omega), wr_row _ _ (by omega), wr_up, wr_row _ _ (by omega), wr_row _ _ (by omega)]
    · rw [b94, hC', wr_row _ _ (by omega), wr_row _ _ (by omega), wr_row _ _ (by omega), wr_row _ _ (by omega), wr_up, wr_row _ _ (by omega)]
    · by_cases hkn : k = no
      · subst hkn
        rw [b93, b94, b96, b97, b98]
        exact ⟨⟨a, ha, rfl⟩, ⟨g, hg, rfl⟩, hP, ⟨m0, m2⟩, Or.inl rfl⟩
      · rw [hD 93 k (by omega) (by omega) (by omega), hD 94 k (by omega) (by omega) (by omega), hD 96 k (by omega) (by omega) (by omega), hD 97 k (by omega) (by omega) (by omega), hD 98 k (by omega) (by omega) (by omega)]
        exact o5 k (by omega)
    · by_cases hkn : k = no
      · subst hkn; rw [b95, b98]; exact ⟨rfl, hz1⟩
      · rw [hD 95 k (by omega) (by omega) (by omega), hD 98 k (by omega) (by omega) (by omega)]; exact x1 k (by omega)
    · have hx' := x2 a' g' ha' hg'
      have es : si (askD D' a' g') no = si (askD D a' g') no := si_congr no (fun k hk => by
        unfold askD
        rw [hD 93 k (by omega) (by omega) (by omega), hD 94 k (by omega) (by omega) (by omega), hD 95 k (by omega) (by omega) (by omega), hD 97 k (by omega) (by omega) (by omega)])
      rw [show si (askD D' a' g') (no + 1) = si (askD D' a' g') no + askD D' a' g' no from rfl, es, ← hx'.1, fC 9 (by omega) (by omega), g38]
      by_cases hpp : 5 * a' + g' = 5 * a + g
      · obtain rfl : a' = a := by omega
        obtain rfl : g' = g := by omega
        have ea : askD D' a' g' no = amt N f := by unfold askD; rw [b97, b93, b94, b95, if_pos rfl, if_pos rfl, if_pos rfl]
        have et : (C 38 (5 * a' + g') + amt N f).toInt = (C 38 (5 * a' + g')).toInt + (amt N f).toInt := add_toInt (by omega) (by omega)
        rw [up_same, ea, et]
        exact ⟨rfl, by omega, by omega⟩
      · have ea : askD D' a' g' no = 0 := by
          unfold askD
          rw [b97, b93, b94, if_pos rfl]
          by_cases haa : a = a'
          · rw [if_pos (by rw [haa]), if_neg (fun e => hpp (by have := nI_inj (by omega) (by omega) e; omega))]
          · rw [if_neg (fun e => haa (nI_inj (by omega) (by omega) e))]
        rw [up_ne _ _ hpp, ea, Int32.add_zero]
        exact ⟨rfl, hx'.2⟩
    · have hx' := x3 a' ha'
      have es : si (bidD D' a') no = si (bidD D a') no := si_congr no (fun k hk => by
        unfold bidD
        rw [hD 93 k (by omega) (by omega) (by omega), hD 96 k (by omega) (by omega) (by omega), hD 95 k (by omega) (by omega) (by omega), hD 97 k (by omega) (by omega) (by omega)])
      have ea : bidD D' a' no = 0 := by unfold bidD; rw [b97, if_pos rfl]
      rw [show si (bidD D' a') (no + 1) = si (bidD D' a') no + bidD D' a' no from rfl, es, ← hx'.1, fC 39 (by omega) (by omega), fC 3 (by omega) (by omega), ea, Int32.add_zero]
      exact ⟨rfl, hx'.2⟩
/-- BID -/
theorem bid_ok {C D : St} {t n d no a g : Nat} {N P : Int32} (h : AS C D t n d no) (hno : no < 72) (ha : a < n) (hg : g < 5) (hN : rg N 1 999) (hP : rg P 1 999) : ∃ C' D' no', f_Mt_bid (nI a) (nI g) N P C = some C' ∧ (bd1 (f_Md_freeCash (nI a) D) fun v30 => if P = 0 then none else bd1 (f_Md_less N (v30 / P)) fun v33 => bd1 (f_Md_offer (nI a) (nI g) v33 P 1 D) fun C35 => some C35) = some D' ∧ AS C' D' t n d no' ∧ no' ≤ no + 1 ∧ FRM C D C' D' := by
  have hn := h.2.1.1.1
  obtain ⟨f, f1, f2, f3, f4, f5⟩ := free_cash h (show a < 12 by omega)
  obtain ⟨PP, P1, P2, rfl⟩ := rg_nI (x := P) (hi := 999) ⟨by have := hP.1; omega, hP.2⟩
  obtain ⟨FF, F1, F2, rfl⟩ := rg_nI (x := f) (hi := 1200000) ⟨f4, f5⟩
  obtain ⟨NN, N1, N2, rfl⟩ := rg_nI (x := N) (hi := 999) ⟨by have := hN.1; omega, hN.2⟩
  have hP0 : PP ≠ 0 := fun e => by have := hP.1; rw [e, nI_toInt (by omega)] at this; omega
  have hle : FF / PP ≤ FF := Nat.div_le_self _ _
  have hmul : min NN (FF / PP) * PP ≤ FF := Nat.le_trans (Nat.mul_le_mul_right PP (Nat.min_le_right _ _)) (Nat.div_mul_le_self FF PP)
  rw [nI_toInt F2] at f3
  unfold f_Mt_bid
  rw [f1, f2, bd1_s, bd1_s, if_neg (nI_gt0 P2 hP0).1, if_neg (nI_gt0 P2 hP0).2, if_neg (nI_gt0 P2 hP0).2, m_less, pk_div F2 (by omega) P2, bd1_s, bd1_s, show (if nI (FF / PP) < nI NN then nI (FF / PP) else nI NN : Int32) = amt (nI NN) (nI (FF / PP)) from rfl, amt_nI N2 (by omega)]
  have hM : min NN (FF / PP) ≤ 999 := by omega
  generalize min NN (FF / PP) = M at *
  by_cases hz : M = 0
  · subst hz
    rw [if_pos (by decide)]
    exact ⟨C, D, no, rfl, by unfold f_Md_offer; rw [if_pos (show nI 0 = (0 : Int32) from rfl), bd1_s], h, by omega, FRM.refl C D⟩
  · obtain ⟨hR, hW, ⟨o1, o2, o3, o4, o5⟩, x1, x2, x3⟩ := h
    have hcn := cn_le (P := PX D 1) no
    obtain ⟨a1, a2, a3, a4, a5, a6, a7, a8, a9⟩ := adD_at D no (nI a) (nI g) (nI M) (nI PP) 1
    rw [if_neg (nI_gt0 (by omega) hz).1, v_append_1 (m := cn (PX D 1) no) (by omega) o4.1, bd1_s, if_pos (inb_t (by omega) (by omega)), nI_clamp (by omega), m_offer (by omega) o1 _ _ _ _ 1 (nI_gt0 (by omega) hz).2 nar1, bd1_s, bd1_s]
    have hD : ∀ j k, 93 ≤ j → j ≤ 98 → k < no → adD D no (nI a) (nI g) (nI M) (nI PP) 1 j k = D j k := fun j k h1 h2 h3 => by
      rcases (show j = 93 ∨ j = 94 ∨ j = 95 ∨ j = 96 ∨ j = 97 ∨ j = 98 by omega) with rfl | rfl | rfl | rfl | rfl | rfl
      · rw [a1, up_ne _ _ (by omega)]
      · rw [a2, up_ne _ _ (by omega)]
      · rw [a3, up_ne _ _ (by omega)]
      · rw [a5, up_ne _ _ (by omega)]
      · rw [a6, up_ne _ _ (by omega)]
      · rw [a4, up_ne _ _ (by omega)]
    have b93 : adD D no (nI a) (nI g) (nI M) (nI PP) 1 93 no = nI a := by rw [a1, up_same]
    have b94 : adD D no (nI a) (nI g) (nI M) (nI PP) 1 94 no = nI g := by rw [a2, up_same]
    have b95 : adD D no (nI a) (nI g) (nI M) (nI PP) 1 95 no = nI M := by rw [a3, up_same]
    have b96 : adD D no (nI a) (nI g) (nI M) (nI PP) 1 96 no = nI PP := by rw [a5, up_same]
    have b97 : adD D no (nI a) (nI g) (nI M) (nI PP) 1 97 no = 1 := by rw [a6, up_same]
    have b98 : adD D no (nI a) (nI g) (nI M) (nI PP) 1 98 no = nI M := by rw [a4, up_same]
    generalize adD D no (nI a) (nI g) (nI M) (nI PP) 1 = D' at *
    have hx := x3 a (by omega)
    have hc3 := sm_le hW.cash.1 (show a < 12 by omega)
    have hc4 := hW.cash.2.2
    have c39 : mj_wr (mj_wr (mj_wr (mj_wr (mj_wr C 33 (cn (PX D 1) no) (nI a)) 37 (cn (PX D 1) no) (nI g)) 35 (cn (PX D 1) no) (nI M)) 34 (cn (PX D 1) no) (nI PP)) 32 6 (nI (cn (PX D 1) no + 1)) 39 a = C 39 a := by
      rw [wr_cell _ _ (by omega), wr_cell _ _ (by omega), wr_cell _ _ (by omega), wr_cell _ _ (by omega), wr_cell _ _ (by omega)]
    rw [c39, pk_mul]
    obtain ⟨C', hC'⟩ : ∃ C', C' = mj_wr (mj_wr (mj_wr (mj_wr (mj_wr (mj_wr C 33 (cn (PX D 1) no) (nI a)) 37 (cn (PX D 1) no) (nI g)) 35 (cn (PX D 1) no) (nI M)) 34 (cn (PX D 1) no) (nI PP)) 32 6 (nI (cn (PX D 1) no + 1))) 39 a (C 39 a + nI (M * PP)) := ⟨_, rfl⟩
    rw [← hC']
    have fC : ∀ j, (j < 32 ∨ j = 36 ∨ 38 ≤ j) → j ≠ 39 → C' j = C j := fun j h1 h2 => by
      rw [hC', wr_row _ _ h2, wr_row _ _ (by omega), wr_row _ _ (by omega), wr_row _ _ (by omega), wr_row _ _ (by omega), wr_row _ _ (by omega)]
    have g39 : C' 39 = up (C 39) a (C 39 a + nI (M * PP)) := by
      rw [hC', wr_up, wr_row _ _ (by omega), wr_row _ _ (by omega), wr_row _ _ (by omega), wr_row _ _ (by omega), wr_row _ _ (by omega)]
    refine ⟨C', D', no + 1, rfl, rfl, ⟨?_, ?_, ⟨a7, by omega, o3.skip hD (by rw [b97]; decide) (fun j h1 h2 => fC j (by omega) (by omega)), o4.add hD b97 ?_ ?_ ?_ ?_ ?_, fun k hk => ?_⟩, fun k hk => ?_, fun a' g' ha' hg' => ?_, fun a' ha' => ?_⟩, by omega, fun j hj => fC j (by omega) (by omega), fun j hj => a9 j (by omega) (by omega), a8⟩
    · exact hR.frame (fun j h1 h2 => fC _ (by omega) (by omega)) (a9 89 (by omega) (by omega))
    · exact hW.frame (fun j h1 h2 => fC _ (by omega) (by omega))
    · rw [hC', wr_cell _ _ (by omega), wr_same]
    · rw [b93, hC', wr_row _ _ (by omega), wr_row _ _ (by omega), wr_row _ _ (by omega), wr_row _ _ (by omega), wr_row _ _ (by omega), wr_up]
    · rw [b96, hC', wr_row _ _ (by omega), wr_row _ _ (by omega), wr_up, wr_row _ _ (by omega), wr_row _ _ (by omega), wr_row _ _ (by omega)]
    · rw [b98, hC', wr_row _ _ (by omega), wr_row _ _ (by omega), wr_row _ _ (by omega), wr_up, wr_row _ _ (by omega), wr_row _ _ (by omega)]
    · rw [b94, hC', wr_row _ _ (by omega), wr_row _ _ (by omega), wr_row _ _ (by omega), wr_row _ _ (by omega), wr_up, wr_row _ _ (by omega)]
    · by_cases hkn : k = no
      · subst hkn
        rw [b93, b94, b96, b97, b98]
        exact ⟨⟨a, ha, rfl⟩, ⟨g, hg, rfl⟩, hP, rg_of (by omega) (by omega) (by omega), Or.inr rfl⟩
      · rw [hD 93 k (by omega) (by omega) (by omega), hD 94 k (by omega) (by omega) (by omega), hD 96 k (by omega) (by omega) (by omega), hD 97 k (by omega) (by omega) (by omega), hD 98 k (by omega) (by omega) (by omega)]
        exact o5 k (by omega)
    · by_cases hkn : k = no
      · subst hkn; rw [b95, b98, nI_toInt (by omega)]; exact ⟨rfl, by omega⟩
      · rw [hD 95 k (by omega) (by omega) (by omega), hD 98 k (by omega) (by omega) (by omega)]; exact x1 k (by omega)
    · have hx' := x2 a' g' ha' hg'
      have es : si (askD D' a' g') no = si (askD D a' g') no := si_congr no (fun k hk => by
        unfold askD
        rw [hD 93 k (by omega) (by omega) (by omega), hD 94 k (by omega) (by omega) (by omega), hD 95 k (by omega) (by omega) (by omega), hD 97 k (by omega) (by omega) (by omega)])
      have ea : askD D' a' g' no = 0 := by unfold askD; rw [b97, if_neg i10]
      rw [show si (askD D' a' g') (no + 1) = si (askD D' a' g') no + askD D' a' g' no from rfl, es, ← hx'.1, fC 9 (by omega) (by omega), fC 38 (by omega) (by omega), ea, Int32.add_zero]
      exact ⟨rfl, hx'.2⟩
    · have hx' := x3 a' ha'
      have es : si (bidD D' a') no = si (bidD D a') no := si_congr no (fun k hk => by
        unfold bidD
        rw [hD 93 k (by omega) (by omega) (by omega), hD 96 k (by omega) (by omega) (by omega), hD 95 k (by omega) (by omega) (by omega), hD 97 k (by omega) (by omega) (by omega)])
      rw [show si (bidD D' a') (no + 1) = si (bidD D' a') no + bidD D' a' no from rfl, es, ← hx'.1, g39, fC 3 (by omega) (by omega)]
      by_cases haa : a' = a
      · subst haa
        have ea : bidD D' a' no = nI (M * PP) := by unfold bidD; rw [b97, b93, b95, b96, if_neg i10, if_pos rfl, pk_mul]
        have et : (C 39 a' + nI (M * PP)).toInt = (C 39 a').toInt + (M * PP : Nat) := by rw [add_toInt (by rw [nI_toInt (by omega)]; omega) (by rw [nI_toInt (by omega)]; omega), nI_toInt (by omega)]
        rw [up_same, ea, et]
        exact ⟨rfl, by omega, by omega⟩
      · have ea : bidD D' a' no = 0 := by
          unfold bidD
          rw [b97, b93, if_neg i10, if_neg (fun e => haa (nI_inj (by omega) (by omega) e.symm))]
        rw [up_ne _ _ haa, ea, Int32.add_zero]
        exact ⟨rfl, hx'.2⟩
