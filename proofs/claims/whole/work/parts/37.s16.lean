/-! PURE: the rule reader: acts, conditions -/
theorem wr_at (C : St) (b k : Nat) (x : Int32) (j : Nat) : mj_wr C b k x b j = if j = k then x else C b j := by
  unfold mj_wr
  by_cases h : j = k
  · rw [if_pos ⟨rfl, h⟩, if_pos h]
  · rw [if_neg (fun q => h q.2), if_neg h]
def okAct (R : Nat → Int32) (n a : Nat) : Prop :=
  rg (R 0) 0 5 ∧ (rg (R 0) 0 3 → rg (R 1) 0 4) ∧ (rg (R 0) 4 5 → rg (R 1) 0 (n - 1)) ∧ rg (R 2) 1 999 ∧ (rg (R 0) 2 3 → rg (R 3) 1 999) ∧ (R 0 = 5 → rg (R 3) 1 30) ∧ (4 ≤ (R 0).toInt → R 1 ≠ nI a)
section RA
variable {T : Nat → Int32} {L : Nat} {C0 D0 C D : St}
def AR (T : Nat → Int32) (L : Nat) (C0 D0 C D : St) (n a : Nat) : Prop := ∃ (b : Int32) (C' D' : St), f_Rr_readsAct (nI a) (nI n) C = some (b, C') ∧ f_Md_readAct (nI a) D = some D' ∧ ((b = 0 ∧ FA L C0 D0 C' D') ∨ (b = 1 ∧ (∃ e', JJ T L C0 D0 C' D' e') ∧ (∀ i, (i ≠ 0 → C 22 i = D 99 i) → C' 22 i = D' 99 i) ∧ (∀ i, 4 ≤ i → C' 22 i = C 22 i) ∧ okAct (C' 22) n a))
theorem ract0 (hc : TC T L C0) (hd : TD T L D0) (hT : ∀ i, i < L → rg (T i) 0 255) {s e n a : Nat} (h : AA L C0 D0 C D s e) (hn : n ≤ 12) (ha : a < n) (hN : D0 89 2163 = nI n) (ea : f_Rr_actOf C = some 0) (em : f_Md_actAtHand D = some 0) : AR T L C0 D0 C D n a := by
  have hL := hc.1
  obtain ⟨D5, n1, n2, n3⟩ := aJ hd (h.w99 0 0)
  have d0 : D5 99 0 = 0 := by rw [n3, wr_same]
  have hNN : D5 89 2163 = nI n := by rw [n2.2.2.2.2.2.2.1 89 (by omega) (by omega)]; exact hN
  obtain ⟨b1, C1, v1, D1, r1, m1, o1⟩ := rd hc hd hT (n2.w22 0 0) (col := 1) (l := 0) (u := 4) (by omega) (by omega) (by omega)
  have p1 : ¬ ((0 : Int32) = -1) := by decide
  have p2 : (if (0 : Int32) = 4 then 1 else (if (0 : Int32) = 5 then 1 else 0 : Int32) : Int32) = 0 := by decide
  have p3 : (0 : Int32) ≤ 0 := by decide
  have p4 : (if (0 : Int32) < 4 then 0 else 1 : Int32) = 0 := by decide
  unfold AR f_Rr_readsAct f_Md_readAct
  rw [ea, em, bd1_s, bd1_s, if_neg p1, p2, wr_same, if_pos p3, n1, bd1_s, d0, p4]
  rw [if_pos i01, show f_Rr_reads 1 0 4 (mj_wr C 22 0 0) = _ from r1, bd2_s, if_pos i01, if_pos i01, show f_Md_number 0 4 D5 = _ from m1, bd2_s, bd2_s]
  rcases o1 with ⟨rfl, fa⟩ | ⟨rfl, ⟨e1, j1⟩, ⟨k1, rfl, kl1, ku1⟩, c1, t1, s1, q1⟩
  · have g := (fa.w99 1 v1).ge hL
    rw [if_pos i01, if_pos g, bd1_s, if_pos g, bd1_s, if_pos g, bd1_s]
    exact ⟨_, _, _, rfl, rfl, Or.inl ⟨rfl, fa.w99 1 v1⟩⟩
  have j1' := j1.w99 1 (nI k1)
  have z1 : (mj_wr D1 99 1 (nI k1)) 88 16 = -1 := j1'.2.2.2.2.1
  have y1 : C1 22 1 = nI k1 := by rw [c1, wr_same]
  rw [if_neg i10, z1, if_neg (show ¬ ((0 : Int32) ≤ -1) by decide)]
  rw [if_pos i01, bd1_s, z1, if_neg (show ¬ ((0 : Int32) ≤ -1) by decide)]
  obtain ⟨b2, C2, v2, D2, r2, m2, o2⟩ := rd hc hd hT j1' (col := 2) (l := 1) (u := 999) (by omega) (by omega) (by omega)
  rw [show f_Rr_reads 2 1 999 C1 = _ from r2, bd2_s, show f_Md_number 1 999 (mj_wr D1 99 1 (nI k1)) = _ from m2, bd2_s, bd1_s]
  rcases o2 with ⟨rfl, fa⟩ | ⟨rfl, ⟨e2, j2⟩, ⟨k2, rfl, kl2, ku2⟩, c2, t2, -, -⟩
  · have g := (fa.w99 2 v2).ge hL
    rw [if_pos i01, if_pos g, bd1_s]
    exact ⟨_, _, _, rfl, rfl, Or.inl ⟨rfl, fa.w99 2 v2⟩⟩
  have j2' := j2.w99 2 (nI k2)
  have z2 : (mj_wr D2 99 2 (nI k2)) 88 16 = -1 := j2'.2.2.2.2.1
  have u2 : (mj_wr D2 99 2 (nI k2)) 99 0 = 0 := by rw [wr_idx _ _ (by omega), t2, wr_idx _ _ (by omega), t1, d0]
  rw [if_neg i10, z2, if_neg (show ¬ ((0 : Int32) ≤ -1) by decide), u2]
  rw [if_neg (show ¬ ((0 : Int32) = 2) by decide), if_neg (show ¬ ((0 : Int32) = 3) by decide), if_neg (show ¬ ((0 : Int32) = 4) by decide), if_neg (show ¬ ((0 : Int32) = 5) by decide)]
  rw [if_neg (show ¬ ((0 : Int32) = 2) by decide), if_neg (show ¬ ((0 : Int32) = 3) by decide), if_neg (show ¬ ((0 : Int32) = 5) by decide), bd1_s]
  have cc : ∀ i, C2 22 i = if i = 2 then nI k2 else if i = 1 then nI k1 else if i = 0 then 0 else C 22 i := fun i => by rw [c2, wr_at, c1, wr_at, wr_at]
  have dd : ∀ i, mj_wr D2 99 2 (nI k2) 99 i = if i = 2 then nI k2 else if i = 1 then nI k1 else if i = 0 then 0 else D 99 i := fun i => by rw [wr_at, t2, wr_at, t1, n3, wr_at]
  refine ⟨_, _, _, rfl, rfl, Or.inr ⟨rfl, ⟨e2, j2'⟩, fun i hi => ?_, fun i hi => ?_, ?_⟩⟩
  · rw [cc, dd]
    by_cases q2 : i = 2
    · rw [if_pos q2, if_pos q2]
    · rw [if_neg q2, if_neg q2]
      by_cases q1 : i = 1
      · rw [if_pos q1, if_pos q1]
      · rw [if_neg q1, if_neg q1]
        by_cases q0 : i = 0
        · rw [if_pos q0, if_pos q0]
        · rw [if_neg q0, if_neg q0]; exact hi q0
  · rw [cc, if_neg (by omega), if_neg (by omega), if_neg (by omega)]
  · have x0 : C2 22 0 = nI 0 := cc 0
    have x1 : C2 22 1 = nI k1 := cc 1
    have x2 : C2 22 2 = nI k2 := cc 2
    unfold okAct rg
    rw [x0, x1, x2, nI_toInt (show 0 < 2 ^ 31 by omega), nI_toInt (show k1 < 2 ^ 31 by omega), nI_toInt (show k2 < 2 ^ 31 by omega)]
    refine ⟨by omega, fun q => by omega, fun q => by omega, by omega, fun q => by omega, fun q => ?_, fun q => ?_⟩
    · exact absurd q (by decide)
    · omega
theorem ract1 (hc : TC T L C0) (hd : TD T L D0) (hT : ∀ i, i < L → rg (T i) 0 255) {s e n a : Nat} (h : AA L C0 D0 C D s e) (hn : n ≤ 12) (ha : a < n) (hN : D0 89 2163 = nI n) (ea : f_Rr_actOf C = some 1) (em : f_Md_actAtHand D = some 1) : AR T L C0 D0 C D n a := by
  have hL := hc.1
  obtain ⟨D5, n1, n2, n3⟩ := aJ hd (h.w99 0 1)
  have d0 : D5 99 0 = 1 := by rw [n3, wr_same]
  have hNN : D5 89 2163 = nI n := by rw [n2.2.2.2.2.2.2.1 89 (by omega) (by omega)]; exact hN
  obtain ⟨b1, C1, v1, D1, r1, m1, o1⟩ := rd hc hd hT (n2.w22 0 1) (col := 1) (l := 0) (u := 4) (by omega) (by omega) (by omega)
  have p1 : ¬ ((1 : Int32) = -1) := by decide
  have p2 : (if (1 : Int32) = 4 then 1 else (if (1 : Int32) = 5 then 1 else 0 : Int32) : Int32) = 0 := by decide
  have p3 : (0 : Int32) ≤ 1 := by decide
  have p4 : (if (1 : Int32) < 4 then 0 else 1 : Int32) = 0 := by decide
  unfold AR f_Rr_readsAct f_Md_readAct
  rw [ea, em, bd1_s, bd1_s, if_neg p1, p2, wr_same, if_pos p3, n1, bd1_s, d0, p4]
  rw [if_pos i01, show f_Rr_reads 1 0 4 (mj_wr C 22 0 1) = _ from r1, bd2_s, if_pos i01, if_pos i01, show f_Md_number 0 4 D5 = _ from m1, bd2_s, bd2_s]
  rcases o1 with ⟨rfl, fa⟩ | ⟨rfl, ⟨e1, j1⟩, ⟨k1, rfl, kl1, ku1⟩, c1, t1, s1, q1⟩
  · have g := (fa.w99 1 v1).ge hL
    rw [if_pos i01, if_pos g, bd1_s, if_pos g, bd1_s, if_pos g, bd1_s]
    exact ⟨_, _, _, rfl, rfl, Or.inl ⟨rfl, fa.w99 1 v1⟩⟩
  have j1' := j1.w99 1 (nI k1)
  have z1 : (mj_wr D1 99 1 (nI k1)) 88 16 = -1 := j1'.2.2.2.2.1
  have y1 : C1 22 1 = nI k1 := by rw [c1, wr_same]
  rw [if_neg i10, z1, if_neg (show ¬ ((0 : Int32) ≤ -1) by decide)]
  rw [if_pos i01, bd1_s, z1, if_neg (show ¬ ((0 : Int32) ≤ -1) by decide)]
  obtain ⟨b2, C2, v2, D2, r2, m2, o2⟩ := rd hc hd hT j1' (col := 2) (l := 1) (u := 999) (by omega) (by omega) (by omega)
  rw [show f_Rr_reads 2 1 999 C1 = _ from r2, bd2_s, show f_Md_number 1 999 (mj_wr D1 99 1 (nI k1)) = _ from m2, bd2_s, bd1_s]
  rcases o2 with ⟨rfl, fa⟩ | ⟨rfl, ⟨e2, j2⟩, ⟨k2, rfl, kl2, ku2⟩, c2, t2, -, -⟩
  · have g := (fa.w99 2 v2).ge hL
    rw [if_pos i01, if_pos g, bd1_s]
    exact ⟨_, _, _, rfl, rfl, Or.inl ⟨rfl, fa.w99 2 v2⟩⟩
  have j2' := j2.w99 2 (nI k2)
  have z2 : (mj_wr D2 99 2 (nI k2)) 88 16 = -1 := j2'.2.2.2.2.1
  have u2 : (mj_wr D2 99 2 (nI k2)) 99 0 = 1 := by rw [wr_idx _ _ (by omega), t2, wr_idx _ _ (by omega), t1, d0]
  rw [if_neg i10, z2, if_neg (show ¬ ((0 : Int32) ≤ -1) by decide), u2]
  rw [if_neg (show ¬ ((1 : Int32) = 2) by decide), if_neg (show ¬ ((1 : Int32) = 3) by decide), if_neg (show ¬ ((1 : Int32) = 4) by decide), if_neg (show ¬ ((1 : Int32) = 5) by decide)]
  rw [if_neg (show ¬ ((1 : Int32) = 2) by decide), if_neg (show ¬ ((1 : Int32) = 3) by decide), if_neg (show ¬ ((1 : Int32) = 5) by decide), bd1_s]
  have cc : ∀ i, C2 22 i = if i = 2 then nI k2 else if i = 1 then nI k1 else if i = 0 then 1 else C 22 i := fun i => by rw [c2, wr_at, c1, wr_at, wr_at]
  have dd : ∀ i, mj_wr D2 99 2 (nI k2) 99 i = if i = 2 then nI k2 else if i = 1 then nI k1 else if i = 0 then 1 else D 99 i := fun i => by rw [wr_at, t2, wr_at, t1, n3, wr_at]
  refine ⟨_, _, _, rfl, rfl, Or.inr ⟨rfl, ⟨e2, j2'⟩, fun i hi => ?_, fun i hi => ?_, ?_⟩⟩
  · rw [cc, dd]
    by_cases q2 : i = 2
    · rw [if_pos q2, if_pos q2]
    · rw [if_neg q2, if_neg q2]
      by_cases q1 : i = 1
      · rw [if_pos q1, if_pos q1]
      · rw [if_neg q1, if_neg q1]
        by_cases q0 : i = 0
        · rw [if_pos q0, if_pos q0]
        · rw [if_neg q0, if_neg q0]; exact hi q0
  · rw [cc, if_neg (by omega), if_neg (by omega), if_neg (by omega)]
  · have x0 : C2 22 0 = nI 1 := cc 0
    have x1 : C2 22 1 = nI k1 := cc 1
    have x2 : C2 22 2 = nI k2 := cc 2
    unfold okAct rg
    rw [x0, x1, x2, nI_toInt (show 1 < 2 ^ 31 by omega), nI_toInt (show k1 < 2 ^ 31 by omega), nI_toInt (show k2 < 2 ^ 31 by omega)]
    refine ⟨by omega, fun q => by omega, fun q => by omega, by omega, fun q => by omega, fun q => ?_, fun q => ?_⟩
    · exact absurd q (by decide)
    · omega
theorem ract2 (hc : TC T L C0) (hd : TD T L D0) (hT : ∀ i, i < L → rg (T i) 0 255) {s e n a : Nat} (h : AA L C0 D0 C D s e) (hn : n ≤ 12) (ha : a < n) (hN : D0 89 2163 = nI n) (ea : f_Rr_actOf C = some 2) (em : f_Md_actAtHand D = some 2) : AR T L C0 D0 C D n a := by
  have hL := hc.1
  obtain ⟨D5, n1, n2, n3⟩ := aJ hd (h.w99 0 2)
  have d0 : D5 99 0 = 2 := by rw [n3, wr_same]
  have hNN : D5 89 2163 = nI n := by rw [n2.2.2.2.2.2.2.1 89 (by omega) (by omega)]; exact hN
  obtain ⟨b1, C1, v1, D1, r1, m1, o1⟩ := rd hc hd hT (n2.w22 0 2) (col := 1) (l := 0) (u := 4) (by omega) (by omega) (by omega)
  have p1 : ¬ ((2 : Int32) = -1) := by decide
  have p2 : (if (2 : Int32) = 4 then 1 else (if (2 : Int32) = 5 then 1 else 0 : Int32) : Int32) = 0 := by decide
  have p3 : (0 : Int32) ≤ 2 := by decide
  have p4 : (if (2 : Int32) < 4 then 0 else 1 : Int32) = 0 := by decide
  unfold AR f_Rr_readsAct f_Md_readAct
  rw [ea, em, bd1_s, bd1_s, if_neg p1, p2, wr_same, if_pos p3, n1, bd1_s, d0, p4]
  rw [if_pos i01, show f_Rr_reads 1 0 4 (mj_wr C 22 0 2) = _ from r1, bd2_s, if_pos i01, if_pos i01, show f_Md_number 0 4 D5 = _ from m1, bd2_s, bd2_s]
  rcases o1 with ⟨rfl, fa⟩ | ⟨rfl, ⟨e1, j1⟩, ⟨k1, rfl, kl1, ku1⟩, c1, t1, s1, q1⟩
  · have g := (fa.w99 1 v1).ge hL
    rw [if_pos i01, if_pos g, bd1_s, if_pos g, bd1_s, if_pos g, bd1_s]
    exact ⟨_, _, _, rfl, rfl, Or.inl ⟨rfl, fa.w99 1 v1⟩⟩
  have j1' := j1.w99 1 (nI k1)
  have z1 : (mj_wr D1 99 1 (nI k1)) 88 16 = -1 := j1'.2.2.2.2.1
  have y1 : C1 22 1 = nI k1 := by rw [c1, wr_same]
  rw [if_neg i10, z1, if_neg (show ¬ ((0 : Int32) ≤ -1) by decide)]
  rw [if_pos i01, bd1_s, z1, if_neg (show ¬ ((0 : Int32) ≤ -1) by decide)]
  obtain ⟨b2, C2, v2, D2, r2, m2, o2⟩ := rd hc hd hT j1' (col := 2) (l := 1) (u := 999) (by omega) (by omega) (by omega)
  rw [show f_Rr_reads 2 1 999 C1 = _ from r2, bd2_s, show f_Md_number 1 999 (mj_wr D1 99 1 (nI k1)) = _ from m2, bd2_s, bd1_s]
  rcases o2 with ⟨rfl, fa⟩ | ⟨rfl, ⟨e2, j2⟩, ⟨k2, rfl, kl2, ku2⟩, c2, t2, -, -⟩
  · have g := (fa.w99 2 v2).ge hL
    rw [if_pos i01, if_pos g, bd1_s]
    exact ⟨_, _, _, rfl, rfl, Or.inl ⟨rfl, fa.w99 2 v2⟩⟩
  have j2' := j2.w99 2 (nI k2)
  have z2 : (mj_wr D2 99 2 (nI k2)) 88 16 = -1 := j2'.2.2.2.2.1
  have u2 : (mj_wr D2 99 2 (nI k2)) 99 0 = 2 := by rw [wr_idx _ _ (by omega), t2, wr_idx _ _ (by omega), t1, d0]
  rw [if_neg i10, z2, if_neg (show ¬ ((0 : Int32) ≤ -1) by decide), u2]
  obtain ⟨b3, C3, v3, D3, r3, m3, o3⟩ := rd hc hd hT j2' (col := 3) (l := 1) (u := 999) (by omega) (by omega) (by omega)
  rw [if_pos (show ((2 : Int32) = 2) by decide), show f_Rr_reads 3 1 999 C2 = _ from r3, bd2_s]
  have pt : (if (2 : Int32) = 5 then 30 else 999 : Int32) = 999 := by decide
  rw [if_pos (show ((2 : Int32) = 2) by decide), pt, show f_Md_number 1 999 (mj_wr D2 99 2 (nI k2)) = _ from m3, bd2_s, bd1_s]
  rcases o3 with ⟨rfl, fa⟩ | ⟨rfl, ⟨e3, j3⟩, ⟨k3, rfl, kl3, ku3⟩, c3, t3, -, -⟩
  · rw [if_pos (Or.inl rfl)]
    exact ⟨_, _, _, rfl, rfl, Or.inl ⟨rfl, fa.w99 3 v3⟩⟩
  rw [if_pos (Or.inr rfl)]
  have cc : ∀ i, C3 22 i = if i = 3 then nI k3 else if i = 2 then nI k2 else if i = 1 then nI k1 else if i = 0 then 2 else C 22 i := fun i => by rw [c3, wr_at, c2, wr_at, c1, wr_at, wr_at]
  have dd : ∀ i, mj_wr D3 99 3 (nI k3) 99 i = if i = 3 then nI k3 else if i = 2 then nI k2 else if i = 1 then nI k1 else if i = 0 then 2 else D 99 i := fun i => by rw [wr_at, t3, wr_at, t2, wr_at, t1, n3, wr_at]
  refine ⟨_, _, _, rfl, rfl, Or.inr ⟨rfl, ⟨e3, j3.w99 3 (nI k3)⟩, fun i hi => ?_, fun i hi => ?_, ?_⟩⟩
  · rw [cc, dd]
    by_cases q3 : i = 3
    · rw [if_pos q3, if_pos q3]
    · rw [if_neg q3, if_neg q3]
      by_cases q2 : i = 2
      · rw [if_pos q2, if_pos q2]
      · rw [if_neg q2, if_neg q2]
        by_cases q1 : i = 1
        · rw [if_pos q1, if_pos q1]
        · rw [if_neg q1, if_neg q1]
          by_cases q0 : i = 0
          · rw [if_pos q0, if_pos q0]
          · rw [if_neg q0, if_neg q0]; exact hi q0
  · rw [cc, if_neg (by omega), if_neg (by omega), if_neg (by omega), if_neg (by omega)]
  · have x0 : C3 22 0 = nI 2 := cc 0
    have x1 : C3 22 1 = nI k1 := cc 1
    have x2 : C3 22 2 = nI k2 := cc 2
    have x3 : C3 22 3 = nI k3 := cc 3
    unfold okAct rg
    rw [x0, x1, x2, x3, nI_toInt (show 2 < 2 ^ 31 by omega), nI_toInt (show k1 < 2 ^ 31 by omega), nI_toInt (show k2 < 2 ^ 31 by omega), nI_toInt (show k3 < 2 ^ 31 by omega)]
    refine ⟨by omega, fun q => by omega, fun q => by omega, by omega, fun q => by omega, fun q => ?_, fun q => ?_⟩
    · exact absurd q (by decide)
    · omega
theorem ract3 (hc : TC T L C0) (hd : TD T L D0) (hT : ∀ i, i < L → rg (T i) 0 255) {s e n a : Nat} (h : AA L C0 D0 C D s e) (hn : n ≤ 12) (ha : a < n) (hN : D0 89 2163 = nI n) (ea : f_Rr_actOf C = some 3) (em : f_Md_actAtHand D = some 3) : AR T L C0 D0 C D n a := by
  have hL := hc.1
  obtain ⟨D5, n1, n2, n3⟩ := aJ hd (h.w99 0 3)
  have d0 : D5 99 0 = 3 := by rw [n3, wr_same]
  have hNN : D5 89 2163 = nI n := by rw [n2.2.2.2.2.2.2.1 89 (by omega) (by omega)]; exact hN
  obtain ⟨b1, C1, v1, D1, r1, m1, o1⟩ := rd hc hd hT (n2.w22 0 3) (col := 1) (l := 0) (u := 4) (by omega) (by omega) (by omega)
  have p1 : ¬ ((3 : Int32) = -1) := by decide
  have p2 : (if (3 : Int32) = 4 then 1 else (if (3 : Int32) = 5 then 1 else 0 : Int32) : Int32) = 0 := by decide
  have p3 : (0 : Int32) ≤ 3 := by decide
  have p4 : (if (3 : Int32) < 4 then 0 else 1 : Int32) = 0 := by decide
  unfold AR f_Rr_readsAct f_Md_readAct
  rw [ea, em, bd1_s, bd1_s, if_neg p1, p2, wr_same, if_pos p3, n1, bd1_s, d0, p4]
  rw [if_pos i01, show f_Rr_reads 1 0 4 (mj_wr C 22 0 3) = _ from r1, bd2_s, if_pos i01, if_pos i01, show f_Md_number 0 4 D5 = _ from m1, bd2_s, bd2_s]
  rcases o1 with ⟨rfl, fa⟩ | ⟨rfl, ⟨e1, j1⟩, ⟨k1, rfl, kl1, ku1⟩, c1, t1, s1, q1⟩
  · have g := (fa.w99 1 v1).ge hL
    rw [if_pos i01, if_pos g, bd1_s, if_pos g, bd1_s, if_pos g, bd1_s]
    exact ⟨_, _, _, rfl, rfl, Or.inl ⟨rfl, fa.w99 1 v1⟩⟩
  have j1' := j1.w99 1 (nI k1)
  have z1 : (mj_wr D1 99 1 (nI k1)) 88 16 = -1 := j1'.2.2.2.2.1
  have y1 : C1 22 1 = nI k1 := by rw [c1, wr_same]
  rw [if_neg i10, z1, if_neg (show ¬ ((0 : Int32) ≤ -1) by decide)]
  rw [if_pos i01, bd1_s, z1, if_neg (show ¬ ((0 : Int32) ≤ -1) by decide)]
  obtain ⟨b2, C2, v2, D2, r2, m2, o2⟩ := rd hc hd hT j1' (col := 2) (l := 1) (u := 999) (by omega) (by omega) (by omega)
  rw [show f_Rr_reads 2 1 999 C1 = _ from r2, bd2_s, show f_Md_number 1 999 (mj_wr D1 99 1 (nI k1)) = _ from m2, bd2_s, bd1_s]
  rcases o2 with ⟨rfl, fa⟩ | ⟨rfl, ⟨e2, j2⟩, ⟨k2, rfl, kl2, ku2⟩, c2, t2, -, -⟩
  · have g := (fa.w99 2 v2).ge hL
    rw [if_pos i01, if_pos g, bd1_s]
    exact ⟨_, _, _, rfl, rfl, Or.inl ⟨rfl, fa.w99 2 v2⟩⟩
  have j2' := j2.w99 2 (nI k2)
  have z2 : (mj_wr D2 99 2 (nI k2)) 88 16 = -1 := j2'.2.2.2.2.1
  have u2 : (mj_wr D2 99 2 (nI k2)) 99 0 = 3 := by rw [wr_idx _ _ (by omega), t2, wr_idx _ _ (by omega), t1, d0]
  rw [if_neg i10, z2, if_neg (show ¬ ((0 : Int32) ≤ -1) by decide), u2]
  obtain ⟨b3, C3, v3, D3, r3, m3, o3⟩ := rd hc hd hT j2' (col := 3) (l := 1) (u := 999) (by omega) (by omega) (by omega)
  rw [if_neg (show ¬ ((3 : Int32) = 2) by decide), if_pos (show ((3 : Int32) = 3) by decide), show f_Rr_reads 3 1 999 C2 = _ from r3, bd2_s]
  have pt : (if (3 : Int32) = 5 then 30 else 999 : Int32) = 999 := by decide
  rw [if_neg (show ¬ ((3 : Int32) = 2) by decide), if_pos (show ((3 : Int32) = 3) by decide), pt, show f_Md_number 1 999 (mj_wr D2 99 2 (nI k2)) = _ from m3, bd2_s, bd1_s]
  rcases o3 with ⟨rfl, fa⟩ | ⟨rfl, ⟨e3, j3⟩, ⟨k3, rfl, kl3, ku3⟩, c3, t3, -, -⟩
  · rw [if_pos (Or.inl rfl)]
    exact ⟨_, _, _, rfl, rfl, Or.inl ⟨rfl, fa.w99 3 v3⟩⟩
  rw [if_pos (Or.inr rfl)]
  have cc : ∀ i, C3 22 i = if i = 3 then nI k3 else if i = 2 then nI k2 else if i = 1 then nI k1 else if i = 0 then 3 else C 22 i := fun i => by rw [c3, wr_at, c2, wr_at, c1, wr_at, wr_at]
  have dd : ∀ i, mj_wr D3 99 3 (nI k3) 99 i = if i = 3 then nI k3 else if i = 2 then nI k2 else if i = 1 then nI k1 else if i = 0 then 3 else D 99 i := fun i => by rw [wr_at, t3, wr_at, t2, wr_at, t1, n3, wr_at]
  refine ⟨_, _, _, rfl, rfl, Or.inr ⟨rfl, ⟨e3, j3.w99 3 (nI k3)⟩, fun i hi => ?_, fun i hi => ?_, ?_⟩⟩
  · rw [cc, dd]
    by_cases q3 : i = 3
    · rw [if_pos q3, if_pos q3]
    · rw [if_neg q3, if_neg q3]
      by_cases q2 : i = 2
      · rw [if_pos q2, if_pos q2]
      · rw [if_neg q2, if_neg q2]
        by_cases q1 : i = 1
        · rw [if_pos q1, if_pos q1]
        · rw [if_neg q1, if_neg q1]
          by_cases q0 : i = 0
          · rw [if_pos q0, if_pos q0]
          · rw [if_neg q0, if_neg q0]; exact hi q0
  · rw [cc, if_neg (by omega), if_neg (by omega), if_neg (by omega), if_neg (by omega)]
  · have x0 : C3 22 0 = nI 3 := cc 0
    have x1 : C3 22 1 = nI k1 := cc 1
    have x2 : C3 22 2 = nI k2 := cc 2
    have x3 : C3 22 3 = nI k3 := cc 3
    unfold okAct rg
    rw [x0, x1, x2, x3, nI_toInt (show 3 < 2 ^ 31 by omega), nI_toInt (show k1 < 2 ^ 31 by omega), nI_toInt (show k2 < 2 ^ 31 by omega), nI_toInt (show k3 < 2 ^ 31 by omega)]
    refine ⟨by omega, fun q => by omega, fun q => by omega, by omega, fun q => by omega, fun q => ?_, fun q => ?_⟩
    · exact absurd q (by decide)
    · omega
theorem ract4 (hc : TC T L C0) (hd : TD T L D0) (hT : ∀ i, i < L → rg (T i) 0 255) {s e n a : Nat} (h : AA L C0 D0 C D s e) (hn : n ≤ 12) (ha : a < n) (hN : D0 89 2163 = nI n) (ea : f_Rr_actOf C = some 4) (em : f_Md_actAtHand D = some 4) : AR T L C0 D0 C D n a := by
  have hL := hc.1
  obtain ⟨D5, n1, n2, n3⟩ := aJ hd (h.w99 0 4)
  have d0 : D5 99 0 = 4 := by rw [n3, wr_same]
  have hNN : D5 89 2163 = nI n := by rw [n2.2.2.2.2.2.2.1 89 (by omega) (by omega)]; exact hN
  obtain ⟨b1, C1, v1, D1, r1, m1, o1⟩ := rd hc hd hT (n2.w22 0 4) (col := 1) (l := 0) (u := (n - 1)) (by omega) (by omega) (by omega)
  have p1 : ¬ ((4 : Int32) = -1) := by decide
  have p2 : (if (4 : Int32) = 4 then 1 else (if (4 : Int32) = 5 then 1 else 0 : Int32) : Int32) = 1 := by decide
  have p3 : (0 : Int32) ≤ 4 := by decide
  have p4 : (if (4 : Int32) < 4 then 0 else 1 : Int32) = 1 := by decide
  unfold AR f_Rr_readsAct f_Md_readAct
  rw [ea, em, bd1_s, bd1_s, if_neg p1, p2, wr_same, if_pos p3, n1, bd1_s, d0, p4]
  rw [if_neg i10, nI_m1 (by omega), show f_Rr_reads 1 0 (nI (n - 1)) (mj_wr C 22 0 4) = _ from r1, bd2_s, if_neg i10, if_neg i10, hNN, nI_m1 (by omega), show f_Md_number 0 (nI (n - 1)) D5 = _ from m1, bd2_s, bd2_s]
  rcases o1 with ⟨rfl, fa⟩ | ⟨rfl, ⟨e1, j1⟩, ⟨k1, rfl, kl1, ku1⟩, c1, t1, s1, q1⟩
  · have g := (fa.w99 1 v1).ge hL
    rw [if_pos i01, if_pos g, bd1_s, if_pos g, bd1_s, if_pos g, bd1_s]
    exact ⟨_, _, _, rfl, rfl, Or.inl ⟨rfl, fa.w99 1 v1⟩⟩
  have j1' := j1.w99 1 (nI k1)
  have z1 : (mj_wr D1 99 1 (nI k1)) 88 16 = -1 := j1'.2.2.2.2.1
  have y1 : C1 22 1 = nI k1 := by rw [c1, wr_same]
  rw [if_neg i10, z1, if_neg (show ¬ ((0 : Int32) ≤ -1) by decide)]
  rw [if_neg i10, y1, wr_same]
  by_cases hs : nI k1 = nI a
  · rw [if_pos hs, if_pos hs, bd1_s]
    have fa : FA L C0 D0 C1 (mj_wr (mj_wr D1 99 1 (nI k1)) 88 16 (D5 88 14)) := ⟨wS T L e, (wS_le n2.1).2, s1, by rw [wr_same]; exact q1, j1.2.2.2.2.2.1, j1'.2.2.2.2.2.2.w88 (by omega) _⟩
    have g := fa.ge hL
    rw [if_pos g, bd1_s, if_pos g, bd1_s]
    exact ⟨_, _, _, rfl, rfl, Or.inl ⟨rfl, fa⟩⟩
  rw [if_neg hs, if_neg hs, bd1_s, z1, if_neg (show ¬ ((0 : Int32) ≤ -1) by decide)]
  obtain ⟨b2, C2, v2, D2, r2, m2, o2⟩ := rd hc hd hT j1' (col := 2) (l := 1) (u := 999) (by omega) (by omega) (by omega)
  rw [show f_Rr_reads 2 1 999 C1 = _ from r2, bd2_s, show f_Md_number 1 999 (mj_wr D1 99 1 (nI k1)) = _ from m2, bd2_s, bd1_s]
  rcases o2 with ⟨rfl, fa⟩ | ⟨rfl, ⟨e2, j2⟩, ⟨k2, rfl, kl2, ku2⟩, c2, t2, -, -⟩
  · have g := (fa.w99 2 v2).ge hL
    rw [if_pos i01, if_pos g, bd1_s]
    exact ⟨_, _, _, rfl, rfl, Or.inl ⟨rfl, fa.w99 2 v2⟩⟩
  have j2' := j2.w99 2 (nI k2)
  have z2 : (mj_wr D2 99 2 (nI k2)) 88 16 = -1 := j2'.2.2.2.2.1
  have u2 : (mj_wr D2 99 2 (nI k2)) 99 0 = 4 := by rw [wr_idx _ _ (by omega), t2, wr_idx _ _ (by omega), t1, d0]
  rw [if_neg i10, z2, if_neg (show ¬ ((0 : Int32) ≤ -1) by decide), u2]
  rw [if_neg (show ¬ ((4 : Int32) = 2) by decide), if_neg (show ¬ ((4 : Int32) = 3) by decide), if_pos (show ((4 : Int32) = 4) by decide)]
  rw [if_neg (show ¬ ((4 : Int32) = 2) by decide), if_neg (show ¬ ((4 : Int32) = 3) by decide), if_neg (show ¬ ((4 : Int32) = 5) by decide), bd1_s]
  have cc : ∀ i, C2 22 i = if i = 2 then nI k2 else if i = 1 then nI k1 else if i = 0 then 4 else C 22 i := fun i => by rw [c2, wr_at, c1, wr_at, wr_at]
  have dd : ∀ i, mj_wr D2 99 2 (nI k2) 99 i = if i = 2 then nI k2 else if i = 1 then nI k1 else if i = 0 then 4 else D 99 i := fun i => by rw [wr_at, t2, wr_at, t1, n3, wr_at]
  refine ⟨_, _, _, rfl, rfl, Or.inr ⟨rfl, ⟨e2, j2'⟩, fun i hi => ?_, fun i hi => ?_, ?_⟩⟩
  · rw [cc, dd]
    by_cases q2 : i = 2
    · rw [if_pos q2, if_pos q2]
    · rw [if_neg q2, if_neg q2]
      by_cases q1 : i = 1
      · rw [if_pos q1, if_pos q1]
      · rw [if_neg q1, if_neg q1]
        by_cases q0 : i = 0
        · rw [if_pos q0, if_pos q0]
        · rw [if_neg q0, if_neg q0]; exact hi q0
  · rw [cc, if_neg (by omega), if_neg (by omega), if_neg (by omega)]
  · have x0 : C2 22 0 = nI 4 := cc 0
    have x1 : C2 22 1 = nI k1 := cc 1
    have x2 : C2 22 2 = nI k2 := cc 2
    unfold okAct rg
    rw [x0, x1, x2, nI_toInt (show 4 < 2 ^ 31 by omega), nI_toInt (show k1 < 2 ^ 31 by omega), nI_toInt (show k2 < 2 ^ 31 by omega)]
    refine ⟨by omega, fun q => by omega, fun q => by omega, by omega, fun q => by omega, fun q => ?_, fun q => ?_⟩
    · exact absurd q (by decide)
    · exact hs
theorem ract5 (hc : TC T L C0) (hd : TD T L D0) (hT : ∀ i, i < L → rg (T i) 0 255) {s e n a : Nat} (h : AA L C0 D0 C D s e) (hn : n ≤ 12) (ha : a < n) (hN : D0 89 2163 = nI n) (ea : f_Rr_actOf C = some 5) (em : f_Md_actAtHand D = some 5) : AR T L C0 D0 C D n a := by
  have hL := hc.1
  obtain ⟨D5, n1, n2, n3⟩ := aJ hd (h.w99 0 5)
  have d0 : D5 99 0 = 5 := by rw [n3, wr_same]
  have hNN : D5 89 2163 = nI n := by rw [n2.2.2.2.2.2.2.1 89 (by omega) (by omega)]; exact hN
  obtain ⟨b1, C1, v1, D1, r1, m1, o1⟩ := rd hc hd hT (n2.w22 0 5) (col := 1) (l := 0) (u := (n - 1)) (by omega) (by omega) (by omega)
  have p1 : ¬ ((5 : Int32) = -1) := by decide
  have p2 : (if (5 : Int32) = 4 then 1 else (if (5 : Int32) = 5 then 1 else 0 : Int32) : Int32) = 1 := by decide
  have p3 : (0 : Int32) ≤ 5 := by decide
  have p4 : (if (5 : Int32) < 4 then 0 else 1 : Int32) = 1 := by decide
  unfold AR f_Rr_readsAct f_Md_readAct
  rw [ea, em, bd1_s, bd1_s, if_neg p1, p2, wr_same, if_pos p3, n1, bd1_s, d0, p4]
  rw [if_neg i10, nI_m1 (by omega), show f_Rr_reads 1 0 (nI (n - 1)) (mj_wr C 22 0 5) = _ from r1, bd2_s, if_neg i10, if_neg i10, hNN, nI_m1 (by omega), show f_Md_number 0 (nI (n - 1)) D5 = _ from m1, bd2_s, bd2_s]
  rcases o1 with ⟨rfl, fa⟩ | ⟨rfl, ⟨e1, j1⟩, ⟨k1, rfl, kl1, ku1⟩, c1, t1, s1, q1⟩
  · have g := (fa.w99 1 v1).ge hL
    rw [if_pos i01, if_pos g, bd1_s, if_pos g, bd1_s, if_pos g, bd1_s]
    exact ⟨_, _, _, rfl, rfl, Or.inl ⟨rfl, fa.w99 1 v1⟩⟩
  have j1' := j1.w99 1 (nI k1)
  have z1 : (mj_wr D1 99 1 (nI k1)) 88 16 = -1 := j1'.2.2.2.2.1
  have y1 : C1 22 1 = nI k1 := by rw [c1, wr_same]
  rw [if_neg i10, z1, if_neg (show ¬ ((0 : Int32) ≤ -1) by decide)]
  rw [if_neg i10, y1, wr_same]
  by_cases hs : nI k1 = nI a
  · rw [if_pos hs, if_pos hs, bd1_s]
    have fa : FA L C0 D0 C1 (mj_wr (mj_wr D1 99 1 (nI k1)) 88 16 (D5 88 14)) := ⟨wS T L e, (wS_le n2.1).2, s1, by rw [wr_same]; exact q1, j1.2.2.2.2.2.1, j1'.2.2.2.2.2.2.w88 (by omega) _⟩
    have g := fa.ge hL
    rw [if_pos g, bd1_s, if_pos g, bd1_s]
    exact ⟨_, _, _, rfl, rfl, Or.inl ⟨rfl, fa⟩⟩
  rw [if_neg hs, if_neg hs, bd1_s, z1, if_neg (show ¬ ((0 : Int32) ≤ -1) by decide)]
  obtain ⟨b2, C2, v2, D2, r2, m2, o2⟩ := rd hc hd hT j1' (col := 2) (l := 1) (u := 999) (by omega) (by omega) (by omega)
  rw [show f_Rr_reads 2 1 999 C1 = _ from r2, bd2_s, show f_Md_number 1 999 (mj_wr D1 99 1 (nI k1)) = _ from m2, bd2_s, bd1_s]
  rcases o2 with ⟨rfl, fa⟩ | ⟨rfl, ⟨e2, j2⟩, ⟨k2, rfl, kl2, ku2⟩, c2, t2, -, -⟩
  · have g := (fa.w99 2 v2).ge hL
    rw [if_pos i01, if_pos g, bd1_s]
    exact ⟨_, _, _, rfl, rfl, Or.inl ⟨rfl, fa.w99 2 v2⟩⟩
  have j2' := j2.w99 2 (nI k2)
  have z2 : (mj_wr D2 99 2 (nI k2)) 88 16 = -1 := j2'.2.2.2.2.1
  have u2 : (mj_wr D2 99 2 (nI k2)) 99 0 = 5 := by rw [wr_idx _ _ (by omega), t2, wr_idx _ _ (by omega), t1, d0]
  rw [if_neg i10, z2, if_neg (show ¬ ((0 : Int32) ≤ -1) by decide), u2]
  obtain ⟨b3, C3, v3, D3, r3, m3, o3⟩ := rd hc hd hT j2' (col := 3) (l := 1) (u := 30) (by omega) (by omega) (by omega)
  rw [if_neg (show ¬ ((5 : Int32) = 2) by decide), if_neg (show ¬ ((5 : Int32) = 3) by decide), if_neg (show ¬ ((5 : Int32) = 4) by decide), if_pos (show ((5 : Int32) = 5) by decide), show f_Rr_reads 3 1 30 C2 = _ from r3, bd2_s]
  have pt : (if (5 : Int32) = 5 then 30 else 999 : Int32) = 30 := by decide
  rw [if_neg (show ¬ ((5 : Int32) = 2) by decide), if_neg (show ¬ ((5 : Int32) = 3) by decide), if_pos (show ((5 : Int32) = 5) by decide), pt, show f_Md_number 1 30 (mj_wr D2 99 2 (nI k2)) = _ from m3, bd2_s, bd1_s]
  rcases o3 with ⟨rfl, fa⟩ | ⟨rfl, ⟨e3, j3⟩, ⟨k3, rfl, kl3, ku3⟩, c3, t3, -, -⟩
  · rw [if_pos (Or.inl rfl)]
    exact ⟨_, _, _, rfl, rfl, Or.inl ⟨rfl, fa.w99 3 v3⟩⟩
  rw [if_pos (Or.inr rfl)]
  have cc : ∀ i, C3 22 i = if i = 3 then nI k3 else if i = 2 then nI k2 else if i = 1 then nI k1 else if i = 0 then 5 else C 22 i := fun i => by rw [c3, wr_at, c2, wr_at, c1, wr_at, wr_at]
  have dd : ∀ i, mj_wr D3 99 3 (nI k3) 99 i = if i = 3 then nI k3 else if i = 2 then nI k2 else if i = 1 then nI k1 else if i = 0 then 5 else D 99 i := fun i => by rw [wr_at, t3, wr_at, t2, wr_at, t1, n3, wr_at]
  refine ⟨_, _, _, rfl, rfl, Or.inr ⟨rfl, ⟨e3, j3.w99 3 (nI k3)⟩, fun i hi => ?_, fun i hi => ?_, ?_⟩⟩
  · rw [cc, dd]
    by_cases q3 : i = 3
    · rw [if_pos q3, if_pos q3]
    · rw [if_neg q3, if_neg q3]
      by_cases q2 : i = 2
      · rw [if_pos q2, if_pos q2]
      · rw [if_neg q2, if_neg q2]
        by_cases q1 : i = 1
        · rw [if_pos q1, if_pos q1]
        · rw [if_neg q1, if_neg q1]
          by_cases q0 : i = 0
          · rw [if_pos q0, if_pos q0]
          · rw [if_neg q0, if_neg q0]; exact hi q0
  · rw [cc, if_neg (by omega), if_neg (by omega), if_neg (by omega), if_neg (by omega)]
  · have x0 : C3 22 0 = nI 5 := cc 0
    have x1 : C3 22 1 = nI k1 := cc 1
    have x2 : C3 22 2 = nI k2 := cc 2
    have x3 : C3 22 3 = nI k3 := cc 3
    unfold okAct rg
    rw [x0, x1, x2, x3, nI_toInt (show 5 < 2 ^ 31 by omega), nI_toInt (show k1 < 2 ^ 31 by omega), nI_toInt (show k2 < 2 ^ 31 by omega), nI_toInt (show k3 < 2 ^ 31 by omega)]
    refine ⟨by omega, fun q => by omega, fun q => by omega, by omega, fun q => by omega, fun q => ?_, fun q => ?_⟩
    · omega
    · exact hs
theorem ract (hc : TC T L C0) (hd : TD T L D0) (hT : ∀ i, i < L → rg (T i) 0 255) {s e n a : Nat} (h : AA L C0 D0 C D s e) (hn : n ≤ 12) (ha : a < n) (hN : D0 89 2163 = nI n) : AR T L C0 D0 C D n a ∧ (s = e → ∃ D', f_Md_readAct (nI a) D = some D' ∧ FA L C0 D0 C D') := by
  obtain ⟨v, ea, em, ho⟩ := acts hc hd h
  have key : v = -1 → (∃ D', f_Md_readAct (nI a) D = some D' ∧ FA L C0 D0 C D') := by
    intro hv
    subst hv
    obtain ⟨D1, f1, f2⟩ := aF (h.w99 0 (-1))
    refine ⟨D1, ?_, f2⟩
    unfold f_Md_readAct
    rw [em, bd1_s, wr_same, if_neg (show ¬ ((0 : Int32) ≤ -1) by decide), f1, bd1_s]
  rcases ho with hv | ⟨hlt, hv⟩
  · refine ⟨?_, fun _ => key hv⟩
    obtain ⟨D1, f1, f2⟩ := key hv
    subst hv
    refine ⟨0, C, D1, ?_, f1, Or.inl ⟨rfl, f2⟩⟩
    unfold f_Rr_readsAct
    rw [ea, bd1_s, if_pos rfl]
  · refine ⟨?_, fun q => by omega⟩
    rcases hv with rfl | rfl | rfl | rfl | rfl | rfl
    · exact ract0 hc hd hT h hn ha hN ea em
    · exact ract1 hc hd hT h hn ha hN ea em
    · exact ract2 hc hd hT h hn ha hN ea em
    · exact ract3 hc hd hT h hn ha hN ea em
    · exact ract4 hc hd hT h hn ha hN ea em
    · exact ract5 hc hd hT h hn ha hN ea em
end RA
