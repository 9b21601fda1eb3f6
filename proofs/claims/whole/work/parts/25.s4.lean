/-! PURE: good, recipe, unrule, agent, give -/
/-- writes to the goods' table alone -/
theorem rel_wares {t : Nat} {C D C' D' : St} (h : Rel t C D) (hC : ∀ j, j ≠ 11 → C' j = C j) (hD : ∀ j, j ≠ 89 → D' j = D j) (hD9 : ∀ i, (i < 1308 ∨ 1363 ≤ i) → D' 89 i = D 89 i) (he : ∀ i, i < 55 → C' 11 i = D' 89 (1308 + i))
    (hw : ∀ g, g < 5 → rg (C' 11 (11 * g)) 0 9 ∧ rg (C' 11 (11 * g + 1)) 0 2 ∧ rg (C' 11 (11 * g + 2)) 0 999 ∧ rg (C' 11 (11 * g + 7)) 0 4 ∧ rg (C' 11 (11 * g + 8)) (-1) 9 ∧ rg (C' 11 (11 * g + 9)) 0 4 ∧ rg (C' 11 (11 * g + 10)) 0 9) : Rel t C' D' := by
  obtain ⟨hR, ⟨n, d, hW⟩, hWD, hT, hO⟩ := h
  refine ⟨?_, ⟨n, d, ?_⟩, hWD.frame (fun j h1 h2 => hC j (by omega)) (hC 18 (by omega)) (hD 90 (by omega)) (hD 91 (by omega)), hT.frame (hC 19 (by omega)) (hC 20 (by omega)) (hD 88 (by omega)) (hD 92 (by omega)), by rw [hD 88 (by omega)]; exact hO⟩
  · unfold RT at hR ⊢
    simp only [Nat.zero_add] at hR ⊢
    rw [hC 1 (by omega), hC 2 (by omega), hC 3 (by omega), hC 4 (by omega), hC 5 (by omega), hC 6 (by omega), hC 8 (by omega), hC 13 (by omega), hC 14 (by omega), hC 15 (by omega), hC 16 (by omega), hD9 2163 (by omega), hD9 2164 (by omega), hD9 2165 (by omega), hD9 2166 (by omega), hD9 2167 (by omega), hD9 2168 (by omega)]
    obtain ⟨r1, rA, rP, rR, rW, rL, rB⟩ := hR
    refine ⟨r1, fun a ha => ?_, fun i hi => ?_, fun i hi => ?_, he, fun i hi hq => ?_, fun i hi => ?_⟩
    · rw [hD9 _ (by omega), hD9 _ (by omega), hD9 _ (by omega), hD9 _ (by omega), hD9 _ (by omega)]; exact rA a ha
    · rw [hD9 _ (by omega)]; exact rP i hi
    · rw [hD9 _ (by omega)]; exact rR i hi
    · rw [hD9 _ (by omega)]; exact rL i hi hq
    · rw [hD9 _ (by omega)]; exact rB i hi
  · unfold WTn at hW ⊢
    simp only [Nat.zero_add] at hW ⊢
    rw [hC 1 (by omega), hC 2 (by omega), hC 3 (by omega), hC 4 (by omega), hC 8 (by omega), hC 9 (by omega), hC 13 (by omega), hC 14 (by omega), hC 15 (by omega), hC 16 (by omega)]
    exact ⟨hW.1, hW.2.1, hW.2.2.1, hW.2.2.2.1, hW.2.2.2.2.1, hW.2.2.2.2.2.1, hW.2.2.2.2.2.2.1, hW.2.2.2.2.2.2.2.1, hw, hW.2.2.2.2.2.2.2.2.2⟩
theorem rel_wt {t : Nat} {C D : St} (h : Rel t C D) : ∀ g, g < 5 → rg (C 11 (11 * g)) 0 9 ∧ rg (C 11 (11 * g + 1)) 0 2 ∧ rg (C 11 (11 * g + 2)) 0 999 ∧ rg (C 11 (11 * g + 7)) 0 4 ∧ rg (C 11 (11 * g + 8)) (-1) 9 ∧ rg (C 11 (11 * g + 9)) 0 4 ∧ rg (C 11 (11 * g + 10)) 0 9 := by
  obtain ⟨n, d, hW⟩ := h.2.1
  have := hW.2.2.2.2.2.2.2.2.1
  simp only [Nat.zero_add] at this
  exact this
/-- one entry of the goods' table, on both sides -/
theorem rel_wput {t : Nat} {C D : St} (h : Rel t C D) {g k : Nat} (hg : g < 5) (hk : k < 11) (x : Int32) (hx : (k = 0 → rg x 0 9) ∧ (k = 1 → rg x 0 2) ∧ (k = 2 → rg x 0 999) ∧ (k = 7 → rg x 0 4) ∧ (k = 8 → rg x (-1) 9) ∧ (k = 9 → rg x 0 4) ∧ (k = 10 → rg x 0 9)) : Rel t (mj_wr C 11 (11 * g + k) x) (mj_wr D 89 (1308 + (11 * g + k)) x) := by
  have hw := rel_wt h
  refine rel_wares h (fun j hj => wr_row C x hj) (fun j hj => wr_row D x hj) (fun i hi => wr_idx D x (by omega)) (fun i hi => ?_) (fun q hq => ?_)
  · by_cases hi2 : i = 11 * g + k
    · subst hi2; rw [wr_same, wr_same]
    · rw [wr_idx C x hi2, wr_idx D x (by omega)]; exact rt_w h.1 hi
  · have hq1 := hw q hq
    have key : ∀ j lo hi, j < 11 → (q = g → j = k → rg x lo hi) → rg (C 11 (11 * q + j)) lo hi → rg (mj_wr C 11 (11 * g + k) x 11 (11 * q + j)) lo hi := by
      intro j lo hi hj h1 h2
      by_cases he : 11 * q + j = 11 * g + k
      · rw [he, wr_same]; exact h1 (by omega) (by omega)
      · rw [wr_idx C x he]; exact h2
    exact ⟨key 0 _ _ (by omega) (fun _ e => hx.1 e.symm) hq1.1, key 1 _ _ (by omega) (fun _ e => hx.2.1 e.symm) hq1.2.1, key 2 _ _ (by omega) (fun _ e => hx.2.2.1 e.symm) hq1.2.2.1, key 7 _ _ (by omega) (fun _ e => hx.2.2.2.1 e.symm) hq1.2.2.2.1, key 8 _ _ (by omega) (fun _ e => hx.2.2.2.2.1 e.symm) hq1.2.2.2.2.1, key 9 _ _ (by omega) (fun _ e => hx.2.2.2.2.2.1 e.symm) hq1.2.2.2.2.2.1, key 10 _ _ (by omega) (fun _ e => hx.2.2.2.2.2.2 e.symm) hq1.2.2.2.2.2.2⟩
theorem sim_good_ok {t : Nat} {C D : St} (h : Rel t C D) : sim_good Rel t C D := by
  intro a1 a2 a3
  rcases good_cases a1 with ⟨g, hg, rfl, f1, f2⟩ | ⟨f1, f2⟩
  · rcases in_cases a2 0 9 0 9 rfl rfl (by omega) (by omega) with ⟨k, i1, i2, rfl, g1, g2⟩ | ⟨g1, g2⟩
    · rcases in_cases a3 0 2 0 2 rfl rfl (by omega) (by omega) with ⟨m, j1, j2, rfl, e1, e2⟩ | ⟨e1, e2⟩
      · have q0 : 1308 + (11 * nI g) = nI (1308 + (11 * g + 0)) := by
          rw [l1308, l11]
          simp only [pk_mul, nI_add]
          exact congrArg nI (by omega)
        have q1 : nI (1308 + (11 * g + 0)) + 1 = nI (1308 + (11 * g + 1)) := nI_1 _
        refine ⟨0, mj_wr (mj_wr C 11 (11 * g + 0) (nI k)) 11 (11 * g + 1) (nI m), mj_wr (mj_wr D 89 (1308 + (11 * g + 0)) (nI k)) 89 (1308 + (11 * g + 1)) (nI m), ?_, ?_, ?_⟩
        · unfold f_Mk_good; rw [f1, bd1_s, if_neg i10, g1, bd1_s, if_neg i10, e1, bd1_s, if_neg i10, show (0 : Int32) = nI 0 from rfl, show (1 : Int32) = nI 1 from rfl, v_wput hg (by omega), bd1_s, v_wput hg (by omega), bd1_s]
        · unfold f_Md_good; rw [f2, bd1_s, if_neg i10, g2, bd1_s, if_neg i10, e2, bd1_s, if_neg i10, q0, q1, if_pos (inb_t (by omega) (by omega)), if_pos (inb_t (by omega) (by omega)), nI_clamp (by omega), nI_clamp (by omega)]
        · have r1 := rel_wput h.mono hg (show 0 < 11 by omega) (nI k) ⟨fun _ => rg_of (by omega) (by omega) (by omega), by omega, by omega, by omega, by omega, by omega, by omega⟩
          exact rel_wput r1 hg (show 1 < 11 by omega) (nI m) ⟨by omega, fun _ => rg_of (by omega) (by omega) (by omega), by omega, by omega, by omega, by omega, by omega⟩
      · refine ⟨-1000000001, C, D, ?_, ?_, h.mono⟩
        · unfold f_Mk_good; rw [f1, bd1_s, if_neg i10, g1, bd1_s, if_neg i10, e1, bd1_s, if_pos i01]
        · unfold f_Md_good; rw [f2, bd1_s, if_neg i10, g2, bd1_s, if_neg i10, e2, bd1_s, if_pos i01]
    · refine ⟨-1000000001, C, D, ?_, ?_, h.mono⟩
      · unfold f_Mk_good; rw [f1, bd1_s, if_neg i10, g1, bd1_s, if_pos i01]
      · unfold f_Md_good; rw [f2, bd1_s, if_neg i10, g2, bd1_s, if_pos i01]
  · refine ⟨-1000000001, C, D, ?_, ?_, h.mono⟩
    · unfold f_Mk_good; rw [f1, bd1_s, if_pos i01]
    · unfold f_Md_good; rw [f2, bd1_s, if_pos i01]
theorem sim_recipe_ok {t : Nat} {C D : St} (h : Rel t C D) : sim_recipe Rel t C D := by
  intro a1 a2 a3 a4 a5
  have bad : ∀ {X Y : Option (Int32 × St)}, X = some (-1000000001, C) → Y = some (-1000000001, D) → ∃ (v : Int32) (C' : St) (D' : St), X = some (v, C') ∧ Y = some (v, D') ∧ Rel (t + 1) C' D' := fun e1 e2 => ⟨_, _, _, e1, e2, h.mono⟩
  unfold f_Mk_recipe f_Md_recipe
  rcases good_cases a1 with ⟨g, hg, rfl, f1, f2⟩ | ⟨f1, f2⟩
  rotate_left
  · rw [f1, f2]; exact bad rfl rfl
  rw [f1, f2, bd1_s, bd1_s, if_neg i10, if_neg i10]
  rcases good_cases a2 with ⟨x, hx, rfl, f3, f4⟩ | ⟨f3, f4⟩
  rotate_left
  · rw [f3, f4]; exact bad rfl rfl
  rw [f3, f4, bd1_s, bd1_s, if_neg i10, if_neg i10]
  rcases good_cases a4 with ⟨y, hy, rfl, f5, f6⟩ | ⟨f5, f6⟩
  rotate_left
  · rw [f5, f6]; exact bad rfl rfl
  rw [f5, f6, bd1_s, bd1_s, if_neg i10, if_neg i10]
  have key : rg a3 (-1) 9 ∧ f_Mk_isWithin a3 (-1) 9 = some 1 ∧ f_Md_isIn a3 (-1) 9 = some 1 ∨ (f_Mk_isWithin a3 (-1) 9 = some 0 ∧ f_Md_isIn a3 (-1) 9 = some 0) := by
    rcases inm_cases a3 9 9 rfl (by omega) with ⟨rfl, g1, g2⟩ | ⟨k, hk, rfl, g1, g2⟩ | ⟨g1, g2⟩
    · exact Or.inl ⟨⟨by decide, by decide⟩, g1, g2⟩
    · exact Or.inl ⟨rg_of (by omega) (by omega) (by omega), g1, g2⟩
    · exact Or.inr ⟨g1, g2⟩
  rcases key with ⟨hr3, g1, g2⟩ | ⟨g1, g2⟩
  rotate_left
  · rw [g1, g2]; exact bad rfl rfl
  rw [g1, g2, bd1_s, bd1_s, if_neg i10, if_neg i10]
  rcases in_cases a5 0 9 0 9 rfl rfl (by omega) (by omega) with ⟨m, j1, j2, rfl, e1, e2⟩ | ⟨e1, e2⟩
  rotate_left
  · rw [e1, e2]; exact bad rfl rfl
  rw [e1, e2, bd1_s, bd1_s, if_neg i10, if_neg i10]
  have q0 : ∀ k, k < 100 → (1308 + (11 * nI g)) + nI k = nI (1308 + (11 * g + k)) := by
    intro k hk
    rw [l1308, l11]
    simp only [pk_mul, nI_add]
    exact congrArg nI (by omega)
  refine ⟨0, mj_wr (mj_wr (mj_wr (mj_wr C 11 (11 * g + 7) (nI x)) 11 (11 * g + 8) a3) 11 (11 * g + 9) (nI y)) 11 (11 * g + 10) (nI m), mj_wr (mj_wr (mj_wr (mj_wr D 89 (1308 + (11 * g + 7)) (nI x)) 89 (1308 + (11 * g + 8)) a3) 89 (1308 + (11 * g + 9)) (nI y)) 89 (1308 + (11 * g + 10)) (nI m), ?_, ?_, ?_⟩
  · rw [l7, l8, l9, l10, v_wput hg (by omega), bd1_s, v_wput hg (by omega), bd1_s, v_wput hg (by omega), bd1_s, v_wput hg (by omega), bd1_s]
  · rw [l7, l8, l9, l10, q0 7 (by omega), q0 8 (by omega), q0 9 (by omega), q0 10 (by omega), if_pos (inb_t (by omega) (by omega)), if_pos (inb_t (by omega) (by omega)), if_pos (inb_t (by omega) (by omega)), if_pos (inb_t (by omega) (by omega)), nI_clamp (by omega), nI_clamp (by omega), nI_clamp (by omega), nI_clamp (by omega)]
  · have r1 := rel_wput h.mono hg (show 7 < 11 by omega) (nI x) ⟨by omega, by omega, by omega, fun _ => rg_of (by omega) (by omega) (by omega), by omega, by omega, by omega⟩
    have r2 := rel_wput r1 hg (show 8 < 11 by omega) a3 ⟨by omega, by omega, by omega, by omega, fun _ => hr3, by omega, by omega⟩
    have r3 := rel_wput r2 hg (show 9 < 11 by omega) (nI y) ⟨by omega, by omega, by omega, by omega, by omega, fun _ => rg_of (by omega) (by omega) (by omega), by omega⟩
    exact rel_wput r3 hg (show 10 < 11 by omega) (nI m) ⟨by omega, by omega, by omega, by omega, by omega, by omega, fun _ => rg_of (by omega) (by omega) (by omega)⟩
