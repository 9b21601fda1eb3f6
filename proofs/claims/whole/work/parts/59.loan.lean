/-! PURE: a day: loans: a debtor breaks, on the reference's side -/
def lnM (D : St) (k : Nat) : Nat := (D 89 (1363 + (4 * k + 0))).toNatClampNeg
def owM (D : St) (k : Nat) : Nat := (D 89 (1363 + (4 * k + 2))).toNatClampNeg
def dM (D : St) (a k : Nat) : Bool := decide (D 89 (1363 + (4 * k + 1)) = nI a)
def MR (D : St) (a z : Nat) : Prop := ∀ k, k < z → D 89 (1363 + (4 * k + 0)) = nI (lnM D k) ∧ lnM D k < 12 ∧ (dM D a k = true → lnM D k ≠ a) ∧ D 89 (1363 + (4 * k + 2)) = nI (owM D k) ∧ owM D k ≤ 1998
def w1F (D : St) (a H A k : Nat) : Int32 := nI (if dM D a k = true then H * owM D k / A else 0)
theorem m_31 {D : St} {a z H A : Nat} (hz : z ≤ 20) (h8 : D 89 2168 = nI z) (hM : MR D a z) (hA : 0 < A) (hA2 : A < 2 ^ 31) (hH : H ≤ 1200000) : ∀ (m k f : Nat) (E : St), k + m = z → m < f → (∀ j, j ≠ 102 → E j = D j) → (∀ j, j < k → E 102 j = w1F D a H A j) → ∃ E', L_Md_breaks_31 f (nI a) (nI A) (nI H) (nI H - si (w1F D a H A) k) (nI k) E = some (nI H - si (w1F D a H A) z, E') ∧ (∀ j, j ≠ 102 → E' j = D j) ∧ ∀ j, j < z → E' 102 j = w1F D a H A j
  | 0, k, f + 1, E, hk, _, e, g => by
    obtain rfl : k = z := by omega
    exact ⟨E, by rw [L_Md_breaks_31, e 89 (by omega), h8, if_pos (by rw [nI_leI (by omega) (by omega)]; omega)], e, g⟩
  | m + 1, k, f + 1, E, hk, hf, e, g => by
    obtain ⟨r0, r1, r2, r3, r4⟩ := hM k (by omega)
    have e89 := e 89 (by omega)
    have key : ∀ K : Int32 → Option (Int32 × St), bd1 (if (if (E 89 ((1363 + (4 * nI k)) + 1).toNatClampNeg) = nI a then 1 else 0 : Int32) = 0 then some 0 else if inb ((1363 + (4 * nI k)) + 2) 2200 then if ((nI A).toInt64) = 0 then none else some (((((nI H).toInt64) * ((E 89 ((1363 + (4 * nI k)) + 2).toNatClampNeg).toInt64)) / ((nI A).toInt64)).toInt32) else none) K = K (w1F D a H A k) := fun K => by
      rw [l1, l2, m_at, m_at, nI_clamp (by omega), nI_clamp (by omega), if_pos (inb_t (by omega) (by omega)), e89]
      unfold w1F
      by_cases hd : D 89 (1363 + (4 * k + 1)) = nI a
      · have b1 : H * owM D k ≤ 1200000 * 1998 := Nat.mul_le_mul hH r4
        have nz : ¬ (lN A = 0) := by
          rw [show (0 : Int64) = lN 0 from rfl, pk_lEQ (by omega) (by omega)]
          omega
        rw [if_pos hd, if_neg (show ¬ (nI 1 = (0 : Int32)) by decide), r3, nI_l hA2, nI_l (by omega), nI_l (by omega), if_neg nz, bd1_s, lN_mul, pk_lDiv (by omega) hA (by omega), lN_i, if_pos (show dM D a k = true from decide_eq_true hd)]
      · rw [if_neg hd, if_pos rfl, bd1_s, if_neg (show ¬ (dM D a k = true) by unfold dM; rw [decide_eq_false hd]; decide)]
        rfl
    obtain ⟨E', e1, e2, e3⟩ := m_31 hz h8 hM hA hA2 hH m (k + 1) f (mj_wr E 102 k (w1F D a H A k)) (by omega) (by omega) (fun j hj => by rw [wr_row _ _ hj, e j hj]) (fun j hj => by
      by_cases h : j = k
      · rw [h, wr_same]
      · rw [wr_idx _ _ h]; exact g j (by omega))
    refine ⟨E', ?_, e2, e3⟩
    rw [L_Md_breaks_31, e89, h8, if_neg (by rw [nI_leI (by omega) (by omega)]; omega), if_pos (by rw [l1, m_at]; exact inb_t (by omega) (by omega)), ← e89, key, if_pos (inb_t (by omega) (by omega)), nI_clamp (by omega), wr_same, i_sub_sub, l1, nI_add]
    exact e1
def w2F (D : St) (a R k : Nat) : Int32 := nI (if dM D a k = true then eN R (cn (dM D a) k) else 0)
theorem cn_up {P : Nat → Bool} {i : Nat} : ∀ (n : Nat), i ≤ n → cn P i ≤ cn P n
  | 0, h => by obtain rfl : i = 0 := by omega
               exact Nat.le_refl _
  | n + 1, h => by
    by_cases e : i = n + 1
    · rw [e]; exact Nat.le_refl _
    · have := cn_up (P := P) (i := i) n (by omega)
      rw [cn_succ]
      omega
theorem m_135 {D : St} {a z R : Nat} {w : Nat → Int32} (hz : z ≤ 20) (h8 : D 89 2168 = nI z) (hR : R ≤ 1200000) : ∀ (m k f : Nat) (E : St), k + m = z → m < f → (∀ j, j ≠ 102 → E j = D j) → (∀ j, j < z → E 102 j = if j < k then w j + w2F D a R j else w j) → ∃ E', L_Md_breaks_135 f (nI a) (nI (R - min R (cn (dM D a) k))) (nI k) E = some (nI (R - min R (cn (dM D a) z)), E') ∧ (∀ j, j ≠ 102 → E' j = D j) ∧ ∀ j, j < z → E' 102 j = w j + w2F D a R j
  | 0, k, f + 1, E, hk, _, e, g => by
    obtain rfl : k = z := by omega
    exact ⟨E, by rw [L_Md_breaks_135, e 89 (by omega), h8, if_pos (by rw [nI_leI (by omega) (by omega)]; omega)], e, fun j hj => by rw [g j hj, if_pos hj]⟩
  | m + 1, k, f + 1, E, hk, hf, e, g => by
    have e89 := e 89 (by omega)
    rw [L_Md_breaks_135, e89, h8, if_neg (by rw [nI_leI (by omega) (by omega)]; omega)]
    by_cases hr : R ≤ cn (dM D a) k
    · have hup := cn_up (P := dM D a) (i := k) z (by omega)
      rw [show R - min R (cn (dM D a) k) = 0 by omega, show R - min R (cn (dM D a) z) = 0 by omega, if_pos (by decide)]
      refine ⟨E, rfl, e, fun j hj => ?_⟩
      rw [g j hj]
      by_cases hjk : j < k
      · rw [if_pos hjk]
      · have hu := cn_up (P := dM D a) (i := k) j (by omega)
        have : w2F D a R j = 0 := by
          unfold w2F eN
          rw [if_neg (show ¬ (cn (dM D a) j < R) by omega)]
          split <;> rfl
        rw [if_neg hjk, this, Int32.add_zero]
    · rw [if_neg (nI_gt0 (by omega) (show R - min R (cn (dM D a) k) ≠ 0 by omega)).1, l1, m_at, if_pos (inb_t (by omega) (by omega)), nI_clamp (by omega), nI_clamp (by omega)]
      by_cases hd : D 89 (1363 + (4 * k + 1)) = nI a
      · have hdM : dM D a k = true := decide_eq_true hd
        have hs : cn (dM D a) (k + 1) = cn (dM D a) k + 1 := by rw [cn_succ, if_pos hdM]
        have hw : w2F D a R k = nI 1 := by
          unfold w2F eN
          rw [if_pos hdM, if_pos (by omega)]
        have hk1 : E 102 k = w k := by rw [g k (by omega), if_neg (by omega)]
        obtain ⟨E', e1, e2, e3⟩ := m_135 (w := w) hz h8 hR m (k + 1) f (mj_wr E 102 k (w k + nI 1)) (by omega) (by omega) (fun j hj => by rw [wr_row _ _ hj, e j hj]) (fun j hj => by
          by_cases h : j = k
          · rw [h, wr_same, if_pos (by omega), hw]
          · rw [wr_idx _ _ h, g j hj]
            by_cases h2 : j < k
            · rw [if_pos h2, if_pos (by omega)]
            · rw [if_neg h2, if_neg (by omega)])
        refine ⟨E', ?_, e2, e3⟩
        rw [if_pos hd, if_pos (inb_t (by omega) (by omega)), bd2_s, hk1, show R - min R (cn (dM D a) k) = (R - min R (cn (dM D a) k) - 1) + 1 by omega, show nI (R - min R (cn (dM D a) k) - 1 + 1) + -nI 1 = nI (R - min R (cn (dM D a) k) - 1) from pk_m1 _, nI_add]
        rw [hs, show R - min R (cn (dM D a) k + 1) = R - min R (cn (dM D a) k) - 1 by omega] at e1
        exact e1
      · have hdM : dM D a k = false := decide_eq_false hd
        have hs : cn (dM D a) (k + 1) = cn (dM D a) k := by rw [cn_succ, hdM]; rfl
        have hw : w2F D a R k = 0 := by unfold w2F; rw [hdM]; rfl
        obtain ⟨E', e1, e2, e3⟩ := m_135 (w := w) hz h8 hR m (k + 1) f E (by omega) (by omega) e (fun j hj => by
          rw [g j hj]
          by_cases h : j = k
          · rw [h, if_neg (by omega), if_pos (by omega), hw, Int32.add_zero]
          · by_cases h2 : j < k
            · rw [if_pos h2, if_pos (by omega)]
            · rw [if_neg h2, if_neg (by omega)])
        refine ⟨E', ?_, e2, e3⟩
        rw [if_neg hd, bd2_s, nI_add]
        rw [hs] at e1
        exact e1
theorem m_127 {D : St} {a z R : Nat} {w : Nat → Int32} (hz : z ≤ 20) (h8 : D 89 2168 = nI z) (hR : R ≤ 1200000) (hc : R ≤ cn (dM D a) z) {E : St} (e : ∀ j, j ≠ 102 → E j = D j) (g : ∀ j, j < z → E 102 j = w j) : ∃ E', L_Md_breaks_127 3000 (nI a) (nI R) E = some E' ∧ (∀ j, j ≠ 102 → E' j = D j) ∧ ∀ j, j < z → E' 102 j = w j + w2F D a R j := by
  by_cases h0 : R = 0
  · subst h0
    refine ⟨E, if_pos (by decide), e, fun j hj => ?_⟩
    have : w2F D a 0 j = 0 := by
      unfold w2F eN
      rw [if_neg (Nat.not_lt_zero _)]
      split <;> rfl
    rw [g j hj, this, Int32.add_zero]
  · obtain ⟨E', e1, e2, e3⟩ := m_135 (w := w) (a := a) hz h8 hR z 0 3000 E (by omega) (by omega) e (fun j hj => by rw [if_neg (by omega)]; exact g j hj)
    refine ⟨E', ?_, e2, e3⟩
    rw [show R - min R (cn (dM D a) 0) = R from by show R - min R 0 = R; omega, show R - min R (cn (dM D a) z) = 0 by omega] at e1
    rw [show (3000 : Nat) = 2999 + 1 from rfl, L_Md_breaks_127, if_neg (nI_gt0 (by omega) h0).1, show L_Md_breaks_135 3000 (nI a) (nI R) 0 E = _ from e1, bd2_s]
    exact if_pos (by decide)
/-- the payments -/
theorem m_198 {D : St} {a z : Nat} {u : Nat → Int32} (hz : z ≤ 20) (ha : a < 12) (h8 : D 89 2168 = nI z) (hM : MR D a z) : ∀ (m k f : Nat) (E : St), k + m = z → m < f → (∀ j, j ≠ 89 → j ≠ 102 → E j = D j) → (∀ j, j < z → E 102 j = u j) → (∀ i, i < 60 → i % 5 ≠ 1 → E 89 i = D 89 i) → (∀ i, (60 ≤ i ∧ i < 1443) ∨ 2163 ≤ i → E 89 i = D 89 i) → PV (fun x => D 89 (5 * x + 1)) (fun i => D 89 (1443 + i)) (fun x => E 89 (5 * x + 1)) (fun i => E 89 (1443 + i)) a (fun j => if dM D a j = true then u j else 0) (lnM D) k → ∃ E', L_Md_breaks_198 f (nI a) (nI k) E = some E' ∧ (∀ j, j ≠ 89 → j ≠ 102 → E' j = D j) ∧ (∀ i, i < 60 → i % 5 ≠ 1 → E' 89 i = D 89 i) ∧ (∀ i, (60 ≤ i ∧ i < 1443) ∨ 2163 ≤ i → E' 89 i = D 89 i) ∧ PV (fun x => D 89 (5 * x + 1)) (fun i => D 89 (1443 + i)) (fun x => E' 89 (5 * x + 1)) (fun i => E' 89 (1443 + i)) a (fun j => if dM D a j = true then u j else 0) (lnM D) z
  | 0, k, f + 1, E, hk, _, e, g, g1, g2, p => by
    obtain rfl : k = z := by omega
    exact ⟨E, by rw [L_Md_breaks_198, g2 2168 (by omega), h8, if_pos (by rw [nI_leI (by omega) (by omega)]; omega)], e, g1, g2, p⟩
  | m + 1, k, f + 1, E, hk, hf, e, g, g1, g2, p => by
    obtain ⟨r0, r1, r2, r3, r4⟩ := hM k (by omega)
    rw [L_Md_breaks_198, g2 2168 (by omega), h8, if_neg (by rw [nI_leI (by omega) (by omega)]; omega), l1, m_at, if_pos (inb_t (by omega) (by omega)), nI_clamp (by omega), g2 (1363 + (4 * k + 1)) (by omega)]
    by_cases hd : D 89 (1363 + (4 * k + 1)) = nI a
    · have hdM : dM D a k = true := decide_eq_true hd
      obtain ⟨E1, f1, f2, f3, f4, f5, f6⟩ := m_pays (D := E) (a := a) (b := lnM D k) (r := 4) ha r1 (by omega) (u k)
      obtain ⟨E', s1, s2, s3, s4, s5⟩ := m_198 (u := u) hz ha h8 hM m (k + 1) f E1 (by omega) (by omega) (fun j h1 h2 => by rw [f6 j h1, e j h1 h2]) (fun j hj => by rw [f6 102 (by omega)]; exact g j hj) (fun i h1 h2 => by rw [f4 i h1 h2, g1 i h1 h2]) (fun i hi => by rw [f5 i hi, g2 i hi]) (p.step ha r1 (r2 hdM) (fun x hx => by
        rw [if_pos hdM, f2 x, if_pos (by omega)]) (fun i hi => by
        rw [if_pos hdM]
        exact f3 i hi))
      refine ⟨E', ?_, s2, s3, s4, s5⟩
      rw [if_pos hd, m_at0, if_pos (inb_t (by omega) (by omega)), if_pos (inb_t (by omega) (by omega)), nI_clamp (by omega), nI_clamp (by omega), g2 (1363 + (4 * k + 0)) (by omega), r0, g k (by omega), l4, f1, bd1_s, bd1_s, nI_add]
      exact s1
    · have hdM : dM D a k = false := decide_eq_false hd
      rw [if_neg hd, bd1_s, nI_add]
      exact m_198 (u := u) hz ha h8 hM m (k + 1) f E (by omega) (by omega) e g g1 g2 (p.skip (by rw [hdM]; rfl))
/-- the loans of the debtor, closed one by one -/
theorem m_274 {C : St} {a q : Nat} (hq : q ≤ 20) : ∀ (k1 f : Nat) (y : Int32) (D : St), k1 ≤ cn (opC C) q → k1 < f → (k1 = 0 → y = -1) → (∀ j, k1 = j + 1 → y = nI j) → TL (clo C (fun i => isA C a i && decide (k1 ≤ cn (opC C) i))) D q → ∃ D', L_Md_breaks_274 f (nI a) y D = some D' ∧ TL (clo C (isA C a)) D' q ∧ (∀ i, (i < 1363 ∨ 1443 ≤ i) → i ≠ 2168 → D' 89 i = D 89 i) ∧ ∀ j, j ≠ 89 → D' j = D j
  | 0, f + 1, y, D, _, _, h0, _, h => by
    rw [h0 rfl]
    refine ⟨D, if_pos (by decide), h.ext rfl (fun z _ => clo_eq (fun _ => ?_)), fun _ _ _ => rfl, fun _ _ => rfl⟩
    rw [decide_eq_true (Nat.zero_le _)]; simp
  | k + 1, f + 1, y, D, hk, hf, _, h1, h => by
    rw [h1 k rfl]
    have hle := cn_le (P := opC C) q
    obtain ⟨i, i1, i2, i3⟩ := cn_find (P := opC C) q (show k < cn (opC C) q by omega)
    have hop : opC (clo C (fun i => isA C a i && decide (k + 1 ≤ cn (opC C) i))) i = true := by
      rw [op_clo, i2, i3, decide_eq_false (show ¬ (k + 1 ≤ k) by omega)]; simp
    have hcn : cn (opC (clo C (fun i => isA C a i && decide (k + 1 ≤ cn (opC C) i)))) i = k := by
      refine (cn_congr i (fun j hj => ?_)).trans i3
      have := cn_up (P := opC C) (i := j) i (by omega)
      rw [op_clo, decide_eq_false (show ¬ (k + 1 ≤ cn (opC C) j) by omega)]; simp
    have hdeb := h.2.2.2 i i1 hop 1 (by omega)
    rw [hcn, clo_c (by omega) (by omega)] at hdeb
    have same : ∀ z, (z % 4 = 2 → z / 4 ≠ i ∨ isA C a i = false) → clo C (fun i => isA C a i && decide (k ≤ cn (opC C) i)) 16 z = clo C (fun i => isA C a i && decide (k + 1 ≤ cn (opC C) i)) 16 z := fun z hz => clo_eq (fun h2 => by
      by_cases hA : isA C a (z / 4) = true
      · have hne : z / 4 ≠ i := fun e => by
          rcases hz h2 with hh | hh
          · exact hh e
          · rw [e, hh] at hA; exact absurd hA (by decide)
        have hop2 : opC C (z / 4) = true := by
          unfold isA at hA
          rw [Bool.and_eq_true] at hA
          exact hA.2
        have hck : cn (opC C) (z / 4) ≠ k := fun e => hne (cn_inj (P := opC C) hop2 i2 (e.trans i3.symm))
        rw [hA]
        by_cases hkk : k ≤ cn (opC C) (z / 4)
        · rw [decide_eq_true hkk, decide_eq_true (show k + 1 ≤ cn (opC C) (z / 4) by omega)]
        · rw [decide_eq_false hkk, decide_eq_false (show ¬ (k + 1 ≤ cn (opC C) (z / 4)) by omega)]
      · have : isA C a (z / 4) = false := by simpa using hA
        rw [this]; rfl)
    rw [L_Md_breaks_274, if_neg (nI_nlt0 (by omega)), l1, m_at, if_pos (inb_t (by omega) (by omega)), nI_clamp (by omega), hdeb]
    have next : ∀ D1, TL (clo C (fun i => isA C a i && decide (k ≤ cn (opC C) i))) D1 q → ∃ D', L_Md_breaks_274 f (nI a) (nI k + (-1)) D1 = some D' ∧ TL (clo C (isA C a)) D' q ∧ (∀ i, (i < 1363 ∨ 1443 ≤ i) → i ≠ 2168 → D' 89 i = D1 89 i) ∧ ∀ j, j ≠ 89 → D' j = D1 j := fun D1 hT => m_274 hq k f (nI k + (-1)) D1 (by omega) (by omega) (fun e => by rw [e]; decide) (fun j e => by rw [e, pk_m1]) hT
    by_cases hd : C 16 (4 * i + 1) = nI a
    · have hA : isA C a i = true := by unfold isA dA; rw [decide_eq_true hd, i2]; rfl
      obtain ⟨D1, e1, e2, e3, e4⟩ := tl_close (C' := clo C (fun i => isA C a i && decide (k ≤ cn (opC C) i))) h i1 hop (by rw [clo_row (by omega), clo_row (by omega)]) (by rw [clo_o, if_pos]; rw [hA, i3, decide_eq_true (Nat.le_refl k)]; rfl) (fun z hz hne => same z (fun h2 => Or.inl (by omega)))
      rw [hcn] at e1
      obtain ⟨D', s1, s2, s3, s4⟩ := next D1 e2
      refine ⟨D', ?_, s2, fun j h5 h6 => by rw [s3 j h5 h6, e3 j h5 h6], fun j hj => by rw [s4 j hj, e4 j hj]⟩
      rw [if_pos hd, e1, bd1_s, bd1_s]
      exact s1
    · have hA : isA C a i = false := by unfold isA dA; rw [decide_eq_false hd]; rfl
      obtain ⟨D', s1, s2, s3, s4⟩ := next D (h.ext (by rw [clo_row (by omega), clo_row (by omega)]) (fun z hz => same z (fun _ => Or.inr hA)))
      refine ⟨D', ?_, s2, s3, s4⟩
      rw [if_neg hd, bd1_s]
      exact s1
