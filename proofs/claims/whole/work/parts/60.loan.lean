/-! PURE: a day: loans: all that fall due -/
def LSt (C D : St) (t n d q : Nat) : Prop := NLR C D ∧ NLW C t n d ∧ TL C D q ∧ LR C n q
theorem TL.extD {C D D' : St} {q : Nat} (h : TL C D q) (hD : ∀ i, (1363 ≤ i ∧ i < 1443) ∨ i = 2168 → D' 89 i = D 89 i) : TL C D' q := by
  obtain ⟨h1, h2, h3, h4⟩ := h
  have hle := cn_le (P := opC C) q
  refine ⟨h1, h2, by rw [hD 2168 (by omega)]; exact h3, fun i hi ho c hc => ?_⟩
  have := cn_lt (P := opC C) (a := i) q hi ho
  rw [hD _ (by omega)]
  exact h4 i hi ho c hc
theorem cn_comp {P Q P' : Nat → Bool} : ∀ (n : Nat), (∀ i, i < n → Q i = true → P' (cn Q i) = P i) → cn (fun i => P i && Q i) n = cn P' (cn Q n)
  | 0, _ => rfl
  | n + 1, h => by
    rw [cn_succ, cn_succ, cn_comp n (fun i hi => h i (by omega))]
    by_cases hq : Q n = true
    · rw [hq, if_pos (show true = true from rfl), cn_succ, h n (by omega) hq]
      simp
    · have hf : Q n = false := by simpa using hq
      rw [hf]
      simp
theorem NLR.a {C D : St} (h : NLR C D) {x : Nat} (hx : x < 12) : C 2 x = D 89 (5 * x) ∧ C 3 x = D 89 (5 * x + 1) ∧ C 4 x = D 89 (5 * x + 2) := by
  have := rt_a h hx
  rw [Zs_row (by omega) (by omega), Zs_row (by omega) (by omega), Zs_row (by omega) (by omega), Zd_i (by omega) (by omega), Zd_i (by omega) (by omega), Zd_i (by omega) (by omega)] at this
  exact ⟨this.1, this.2.1, this.2.2.1⟩
theorem NLR.b {C D : St} (h : NLR C D) {i : Nat} (hi : i < 720) : C 6 i = D 89 (1443 + i) := by
  have := rt_b h hi
  rw [Zs_row (by omega) (by omega), Zd_i (by omega) (by omega)] at this
  exact this
theorem NLR.day {C D : St} (h : NLR C D) : C 1 1 = D 89 2164 := by
  have := (rt_n h).2.1
  rw [Zs_row (by omega) (by omega), Zd_i (by omega) (by omega)] at this
  exact this
theorem NLW.n {C : St} {t n d : Nat} (h : NLW C t n d) : n ≤ 12 := h.1.1
/-- broke -/
theorem lst_broke {C D : St} {t n d q a : Nat} (h : LSt C D t n d q) (ha : a < n) : LSt (mj_wr C 4 a 1) (mj_wr D 89 (5 * a + 2) 1) t n d q := by
  obtain ⟨h1, h2, h3, h4⟩ := h
  have hn := h2.n
  have zc : Zs (mj_wr C 4 a 1) = mj_wr (Zs C) 4 a 1 := by
    funext j i
    unfold Zs
    by_cases e : j = 15 ∨ j = 16
    · rw [if_pos e, wr_cell _ _ (by omega), if_pos e]
    · rw [if_neg e]
      by_cases e4 : j = 4
      · subst e4
        rw [wr_at, wr_at, if_neg e]
      · rw [wr_cell _ _ e4, wr_cell _ _ e4, if_neg e]
  have zd : Zd (mj_wr D 89 (5 * a + 2) 1) = mj_wr (Zd D) 89 (5 * a + 2) 1 := by
    funext j i
    unfold Zd
    by_cases e : j = 89
    · subst e
      rw [wr_at, wr_at]
      by_cases e2 : (1363 ≤ i ∧ i < 1443) ∨ i = 2168
      · rw [if_pos ⟨rfl, e2⟩, if_neg (by omega), if_pos ⟨rfl, e2⟩]
      · have ne : ¬ ((89 : Nat) = 89 ∧ ((1363 ≤ i ∧ i < 1443) ∨ i = 2168)) := fun x => e2 x.2
        rw [if_neg ne, if_neg ne]
    · rw [wr_cell _ _ e, wr_cell _ _ e]
  refine ⟨?_, ?_, (h3.ext (by rw [wr_cell _ _ (by omega)]) (fun i _ => by rw [wr_cell _ _ (by omega)])).extD (fun i hi => wr_idx _ _ (by omega)), ?_⟩
  · unfold NLR
    rw [zc, zd]
    exact rt_put h1 (c := 4) (j := 2) (by omega) (by omega) 1
  · unfold NLW
    rw [zc]
    unfold NLW at h2
    have hC : ∀ j, j ≠ 4 → mj_wr (Zs C) 4 a 1 j = Zs C j := fun j hj => wr_row _ _ hj
    unfold WTn at h2 ⊢
    simp only [Nat.zero_add] at h2 ⊢
    rw [hC 1 (by omega), hC 2 (by omega), hC 3 (by omega), hC 8 (by omega), hC 9 (by omega), hC 11 (by omega), hC 13 (by omega), hC 14 (by omega), hC 15 (by omega), hC 16 (by omega)]
    obtain ⟨u1, u2, u3, u4, u5, u6⟩ := h2
    refine ⟨u1, u2, u3, u4, fun x hx => ?_, u6⟩
    rw [wr_at]
    by_cases e : x = a
    · rw [if_pos e]
      exact ⟨⟨by decide, by decide⟩, fun hh => by omega⟩
    · rw [if_neg e]; exact u5 x hx
  · unfold LR at h4 ⊢
    rw [wr_row _ _ (by omega)]
    exact h4
theorem break_ok {C D : St} {t n d q a i0 : Nat} (h : LSt C D t n d q) (ha : a < n) (hi0 : i0 < q) (ho0 : opC C i0 = true) (hd0 : C 16 (4 * i0 + 1) = nI a) : ∃ v6 C1 C2 E1 E2 E3 D' o19, f_Ln_owedWhere 1 (nI a) C = some v6 ∧ f_Ln_shareOut (nI a) ((C 3 a).toInt64) (v6.toInt64) C = some C1 ∧ f_Ln_handOutRest (nI a) C1 = some C2 ∧ f_Md_owes (nI a) D = some v6 ∧ f_Md_cash (nI a) D = some (C 3 a) ∧ L_Md_breaks_31 3000 (nI a) v6 (C 3 a) (C 3 a) 0 D = some (o19, E1) ∧ L_Md_breaks_127 3000 (nI a) o19 E1 = some E2 ∧ L_Md_breaks_198 3000 (nI a) 0 E2 = some E3 ∧ L_Md_breaks_274 3000 (nI a) ((E3 89 2168) - 1) E3 = some D' ∧ LSt C2 D' t n d q ∧ (∀ i, i < q → C2 16 (4 * i + 3) = C 16 (4 * i + 3) ∧ opC C2 i = (opC C i && !isA C a i)) ∧ (∀ j, j ≠ 3 → j ≠ 6 → j ≠ 16 → C2 j = C j) ∧ (∀ j, j ≠ 89 → j ≠ 102 → D' j = D j) ∧ D' 89 2164 = D 89 2164 := by
  obtain ⟨h1, h2, h3, h4⟩ := h
  have hn := h2.n
  have hq := h3.1
  have h15 := h3.2.1
  have h8 := h3.2.2.1
  have hle := cn_le (P := opC C) q
  have ck := h2.ck
  have cb := sm_le ck.1 (show a < 12 by omega)
  have cb2 := ck.2.2
  obtain ⟨H, H1, H2, hca⟩ := rg_nI (x := C 3 a) (hi := 1200000) ⟨ck.1 a (by omega), by omega⟩
  obtain ⟨A, hA⟩ : ∃ A, A = sn (fun k => if dA C a k = true then owd C k else 0) q := ⟨_, rfl⟩
  have hAb : A ≤ q * 1998 := by
    rw [hA]
    refine sn_bound q (fun k hk => ?_)
    have := (h4.at hn hk).2.2.2
    split <;> omega
  have hAc : q * 1998 ≤ 20 * 1998 := Nat.mul_le_mul_right _ hq
  have ow0 : ∀ i, i < q → (opC C i = true ↔ owd C i ≠ 0) := fun i hi => by
    have e := (h4.at hn hi).2.2.1
    have e2 := (h4.at hn hi).2.2.2
    unfold opC
    rw [e]
    constructor
    · intro hh hz
      rw [hz] at hh
      exact absurd (of_decide_eq_true hh) (fun x => x rfl)
    · intro hh
      exact decide_eq_true (nI_gt0 (by omega) hh).2
  have hA0 : 0 < A := by
    have := sn_le (f := fun k => if dA C a k = true then owd C k else 0) (i := i0) q hi0
    rw [if_pos (show dA C a i0 = true from decide_eq_true hd0)] at this
    have := (ow0 i0 hi0).mp ho0
    omega
  have hisA : ∀ i, i < q → isA C a i = (dA C a i && decide (owd C i ≠ 0)) := fun i hi => by
    unfold isA
    by_cases e : owd C i = 0
    · have : opC C i = false := by
        have := (ow0 i hi)
        cases hh : opC C i
        · rfl
        · exact absurd e (this.mp hh)
      rw [this, e]; simp
    · rw [(ow0 i hi).mpr e, decide_eq_true e]
  have hcA : cn (isA C a) q = cn (fun k => dA C a k && decide (owd C k ≠ 0)) q := cn_congr q hisA
  have hcp : 0 < cn (isA C a) q := by
    have := cn_lt (P := isA C a) (a := i0) q hi0 (by unfold isA dA; rw [decide_eq_true hd0, ho0]; rfl)
    omega
  obtain ⟨S1, S2⟩ := shares_rest (H := H) hA0 (dd := dA C a) (o := owd C) (q := q) hA.symm (by rw [← hcA]; exact hcp)
  rw [← hcA] at S2
  obtain ⟨R, hR⟩ : ∃ R, R = H - sn (fun k => if dA C a k = true then H * owd C k / A else 0) q := ⟨_, rfl⟩
  -- what is owed
  have eOw : si (fun i => if C 16 (4 * i + 1) = nI a then C 16 (4 * i + 2) else 0) q = nI A := by
    rw [hA]
    refine si_sn q (fun k hk => ?_)
    have e := (h4.at hn hk).2.2.1
    by_cases hd : C 16 (4 * k + 1) = nI a
    · rw [if_pos hd, if_pos (show dA C a k = true from decide_eq_true hd), e]
    · rw [if_neg hd, if_neg (show ¬ (dA C a k = true) by unfold dA; rw [decide_eq_false hd]; decide)]; rfl
  have vOw : f_Ln_owedWhere 1 (nI a) C = some (nI A) := by rw [l1, v_owed hq h15 (by omega), eOw]
  -- the model's table
  have mt : ∀ i, i < q → opC C i = true → D 89 (1363 + (4 * cn (opC C) i + 0)) = C 16 (4 * i) ∧ D 89 (1363 + (4 * cn (opC C) i + 1)) = C 16 (4 * i + 1) ∧ D 89 (1363 + (4 * cn (opC C) i + 2)) = C 16 (4 * i + 2) := fun i hi ho => ⟨h3.2.2.2 i hi ho 0 (by omega), h3.2.2.2 i hi ho 1 (by omega), h3.2.2.2 i hi ho 2 (by omega)⟩
  have ml : ∀ i, i < q → opC C i = true → lnM D (cn (opC C) i) = lnd C i ∧ owM D (cn (opC C) i) = owd C i ∧ dM D a (cn (opC C) i) = dA C a i := fun i hi ho => by
    obtain ⟨m0, m1, m2⟩ := mt i hi ho
    unfold lnM owM dM lnd owd dA
    rw [m0, m1, m2]
    exact ⟨rfl, rfl, rfl⟩
  have hMR : MR D a (cn (opC C) q) := fun k hk => by
    obtain ⟨i, i1, i2, i3⟩ := cn_find (P := opC C) q hk
    obtain ⟨m0, m1, m2⟩ := mt i i1 i2
    obtain ⟨n0, n1, n2⟩ := ml i i1 i2
    obtain ⟨r1, r2, r3, r4⟩ := h4.at hn i1
    rw [i3] at m0 m1 m2 n0 n1 n2
    rw [m0, m2, n0, n1, n2]
    refine ⟨r1, by omega, fun hd => h4.ne hn i1 ?_, r3, r4⟩
    unfold dA at hd
    exact of_decide_eq_true hd
  have mOw : f_Md_owes (nI a) D = some (nI A) := by
    rw [m_owes (q := cn (opC C) q) (by omega) h8, ← eOw]
    refine congrArg some (cn_si (P := opC C) (F := fun i => if D 89 (1363 + (4 * i + 1)) = nI a then D 89 (1363 + (4 * i + 2)) else 0) q (fun i hi ho => ?_) (fun i hi ho => ?_)).symm
    · obtain ⟨m0, m1, m2⟩ := mt i hi ho
      show (if D 89 (1363 + (4 * cn (opC C) i + 1)) = nI a then D 89 (1363 + (4 * cn (opC C) i + 2)) else 0) = _
      rw [m1, m2]
    · have : C 16 (4 * i + 2) = 0 := by
        unfold opC at ho
        have := of_decide_eq_false ho
        exact Classical.byContradiction (fun x => this x)
      rw [this]
      split <;> rfl
  have hcd : cn (isA C a) q = cn (dM D a) (cn (opC C) q) := cn_comp q (fun i hi ho => (ml i hi ho).2.2)
  have hcdi : ∀ i, i ≤ q → cn (isA C a) i = cn (dM D a) (cn (opC C) i) := fun i hi => cn_comp i (fun k hk ho => (ml k (by omega) ho).2.2)
  -- the class
  obtain ⟨C1, c1, c2, c3, c4⟩ := v_share_l hn ha hq h15 h4 hA0 (by omega) (show H ≤ 1200000 by omega) hca S1 q 0 3000 C (by omega) (by omega) ck (fun _ _ _ => rfl) (PV.zero _ _ _ _ _)
  have c1a : C1 3 a = nI R := by
    rw [c4.1 a (by omega), if_pos rfl, hca, si_sn (v := v1F C a H A) (f := fun k => if dA C a k = true then H * owd C k / A else 0) q (fun _ _ => rfl), pk_sub (by omega), hR]
  obtain ⟨C2, e1, e2, e3, e4, e5⟩ := v_rest_l (C1 := C1) hn ha hq h15 h4 (show R ≤ 1200000 by omega) c1a q 0 3000 C1 (by omega) (by omega) c2 (fun j h1 h2 h3 => c3 j h1 h2) (by
    rw [c3 16 (by omega) (by omega)]
    funext z
    unfold clo
    rw [if_neg]
    intro x
    have x2 := x.2.2
    simp at x2) (PV.zero _ _ _ _ _)
  -- the model
  obtain ⟨E1, f1, f2, f3⟩ := m_31 (D := D) (a := a) (z := cn (opC C) q) (H := H) (A := A) (by omega) h8 hMR hA0 (by omega) (by omega) (cn (opC C) q) 0 3000 D (by omega) (by omega) (fun _ _ => rfl) (fun j hj => by omega)
  have sw : si (w1F D a H A) (cn (opC C) q) = si (v1F C a H A) q := by
    refine (cn_si (P := opC C) (F := w1F D a H A) q (fun i hi ho => ?_) (fun i hi ho => ?_)).symm
    · obtain ⟨n0, n1, n2⟩ := ml i hi ho
      unfold w1F v1F
      rw [n1, n2]
    · unfold v1F
      have : owd C i = 0 := Classical.byContradiction (fun x => by have := (ow0 i hi).mpr x; rw [ho] at this; exact absurd this (by decide))
      rw [this, Nat.mul_zero, Nat.zero_div]
      split <;> rfl
  have ro : nI H - si (w1F D a H A) (cn (opC C) q) = nI R := by
    rw [sw, si_sn (v := v1F C a H A) (f := fun k => if dA C a k = true then H * owd C k / A else 0) q (fun _ _ => rfl), pk_sub (by omega), hR]
  rw [ro, show si (w1F D a H A) 0 = 0 from rfl, Int32.sub_zero] at f1
  obtain ⟨E2, g1, g2, g3⟩ := m_127 (D := D) (a := a) (z := cn (opC C) q) (R := R) (w := w1F D a H A) (by omega) h8 (by omega) (by rw [← hcd]; omega) f2 f3
  obtain ⟨E3, k1, k2, k3, k4, k5⟩ := m_198 (D := D) (a := a) (z := cn (opC C) q) (u := fun j => w1F D a H A j + w2F D a R j) (by omega) (by omega) h8 hMR (cn (opC C) q) 0 3000 E2 (by omega) (by omega) (fun j h1 h2 => g2 j h2) g3 (fun i _ _ => by rw [g2 89 (by omega)]) (fun i _ => by rw [g2 89 (by omega)]) (by rw [g2 89 (by omega)]; exact PV.zero _ _ _ _ _)
  have hT3 : TL (clo C (fun i => isA C a i && decide (cn (opC C) q ≤ cn (opC C) i))) E3 q := by
    refine (h3.extD (fun i hi => k4 i (by omega))).ext (by rw [clo_row (by omega)]) (fun z hz => ?_)
    unfold clo
    rw [if_neg]
    rintro ⟨-, hz2, hz3⟩
    rw [Bool.and_eq_true] at hz3
    have hop : opC C (z / 4) = true := by
      have := hz3.1
      unfold isA at this
      rw [Bool.and_eq_true] at this
      exact this.2
    have := cn_lt (P := opC C) (a := z / 4) q (by omega) hop
    have := of_decide_eq_true hz3.2
    omega
  obtain ⟨D', l1', l2', l3', l4'⟩ := m_274 (C := C) (a := a) hq (cn (opC C) q) 3000 ((E3 89 2168) - 1) E3 (Nat.le_refl _) (by omega) (fun e => by rw [k4 2168 (by omega), h8, e]; decide) (fun j e => by rw [k4 2168 (by omega), h8, e, nI_m1 (by omega)]; rfl) hT3
  -- all told
  have PC := PV.add (by omega) c4 e5
  have hu : ∀ i, i < q → opC C i = true → (if dM D a (cn (opC C) i) = true then w1F D a H A (cn (opC C) i) + w2F D a R (cn (opC C) i) else 0) = v1F C a H A i + v2F C a R i := fun i hi ho => by
    obtain ⟨n0, n1, n2⟩ := ml i hi ho
    unfold w1F w2F v1F v2F
    rw [n1, n2, ← hcdi i (by omega)]
    by_cases hd : dA C a i = true
    · have : isA C a i = true := by unfold isA; rw [hd, ho]; rfl
      rw [if_pos hd, if_pos hd, if_pos hd, if_pos this]
    · have : ¬ (isA C a i = true) := by unfold isA; rw [ho]; simpa using hd
      rw [if_neg hd, if_neg hd, if_neg this]
      rfl
  have hv0 : ∀ i, i < q → opC C i = false → v1F C a H A i + v2F C a R i = 0 := fun i hi ho => by
    have : owd C i = 0 := Classical.byContradiction (fun x => by have := (ow0 i hi).mpr x; rw [ho] at this; exact absurd this (by decide))
    have h2 : ¬ (isA C a i = true) := by unfold isA; rw [ho]; simp
    unfold v1F v2F
    rw [this, Nat.mul_zero, Nat.zero_div, if_neg h2]
    split <;> rfl
  obtain ⟨s3, s6⟩ := PV.same PC k5 (by omega) (fun x hx => (h1.a hx).2.1) (fun i hi => h1.b hi)
    (cn_si (P := opC C) (F := fun j => if dM D a j = true then w1F D a H A j + w2F D a R j else 0) q (fun i hi ho => hu i hi ho) hv0)
    (fun x hx => cn_si (P := opC C) (h := sel (fun i => v1F C a H A i + v2F C a R i) (lnd C) x) (F := sel (fun j => if dM D a j = true then w1F D a H A j + w2F D a R j else 0) (lnM D) x) q (fun i hi ho => by
      unfold sel
      dsimp only
      rw [(ml i hi ho).1, hu i hi ho]) (fun i hi ho => by
      unfold sel
      dsimp only
      rw [hv0 i hi ho]
      split <;> rfl))
  have c2j : ∀ j, j ≠ 3 → j ≠ 6 → j ≠ 16 → C2 j = C j := e3
  have T2 : TL C2 D' q := l2'.ext (by rw [e3 15 (by omega) (by omega) (by omega), clo_row (by omega)]) (fun z hz => by
    rw [e4]
    refine clo_eq (fun h2 => ?_)
    rw [decide_eq_true (show z / 4 < q by omega)]; simp)
  have op2 : ∀ i, i < q → opC C2 i = (opC C i && !isA C a i) := fun i hi => by
    have : opC C2 i = opC (clo C (fun k => isA C a k && decide (k < q))) i := by unfold opC; rw [e4]
    rw [this, op_clo, decide_eq_true hi]; simp
  refine ⟨nI A, C1, C2, E1, E2, E3, D', nI R, vOw, ?_, ?_, mOw, ?_, ?_, g1, k1, l1', ⟨?_, ?_, T2, fun i hi => ?_⟩, fun i hi => ⟨by rw [e4, clo_c (by omega) (by omega)], op2 i hi⟩, c2j, fun j hj1 hj2 => by rw [l4' j hj1, k2 j hj1 hj2], by rw [l3' 2164 (by omega) (by omega), k4 2164 (by omega)]⟩
  · unfold f_Ln_shareOut
    rw [hca, nI_l H2, nI_l (by omega), show L_Ln_shareOut_3 3000 (nI a) (lN H) (lN A) 0 C = _ from c1, bd1_s]
  · unfold f_Ln_handOutRest
    rw [show L_Ln_handOutRest_2 3000 (nI a) 0 C1 = _ from e1, bd1_s]
  · rw [m_cash (by omega), (h1.a (show a < 12 by omega)).2.1]
  · rw [hca]; exact f1
  · refine nlr_cash h1 (fun j h5 h6 h7 h8 => c2j j h5 h6 h8) (fun i hi hi2 => by rw [l3' i (by omega) (by omega), k3 i hi hi2]) (fun i hi hi2 => by rw [l3' i (by omega) hi2, k4 i (by omega)]) (fun x hx => by rw [l3' _ (by omega) (by omega)]; exact s3 x hx) (fun i hi => by rw [l3' _ (by omega) (by omega)]; exact s6 i hi)
  · exact nlw_cash h2 (fun j h5 h6 h7 h8 => c2j j h5 h6 h8) e2
  · obtain ⟨r1, r2, r3, r4⟩ := h4 i hi
    have z0 : clo C (fun k => isA C a k && decide (k < q)) 16 (4 * i) = C 16 (4 * i) := clo_c (i := i) (c := 0) (by omega) (by omega)
    have z1 : clo C (fun k => isA C a k && decide (k < q)) 16 (4 * i + 1) = C 16 (4 * i + 1) := clo_c (by omega) (by omega)
    rw [e4, z0, z1, clo_o]
    refine ⟨r1, r2, ?_, r4⟩
    split
    · exact ⟨by decide, by decide⟩
    · exact r3
