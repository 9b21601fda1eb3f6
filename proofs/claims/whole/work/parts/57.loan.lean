/-! PURE: a day: loans: payments of a debtor, the table of loans -/
theorem si_s {f : Nat → Int32} {n : Nat} : si f (n + 1) = si f n + f n := rfl
theorem si_plus {f g : Nat → Int32} : ∀ (n : Nat), si (fun i => f i + g i) n = si f n + si g n
  | 0 => by show (0 : Int32) = 0 + 0; rfl
  | n + 1 => by
    rw [si_s, si_s, si_s, si_plus n]
    rw [Int32.add_assoc, Int32.add_assoc]
    refine congrArg _ ?_
    rw [← Int32.add_assoc, Int32.add_comm (si g n) (f n), Int32.add_assoc]
theorem cn_si {P : Nat → Bool} {h F : Nat → Int32} : ∀ (no : Nat), (∀ k, k < no → P k = true → F (cn P k) = h k) → (∀ k, k < no → P k = false → h k = 0) → si h no = si F (cn P no)
  | 0, _, _ => rfl
  | no + 1, hh, hz => by
    rw [si_s, cn_succ, cn_si no (fun k hk => hh k (by omega)) (fun k hk => hz k (by omega))]
    by_cases hp : P no = true
    · rw [if_pos hp, si_s, hh no (by omega) hp]
    · rw [if_neg hp, hz no (by omega) (by simpa using hp), Int32.add_zero, Nat.add_zero]
/-- payments of a to the lenders -/
def sel (v : Nat → Int32) (l : Nat → Nat) (x i : Nat) : Int32 := if l i = x then v i else 0
def PV (cf bf cf' bf' : Nat → Int32) (a : Nat) (v : Nat → Int32) (l : Nat → Nat) (m : Nat) : Prop := (∀ x, x < 12 → cf' x = if x = a then cf a - si v m else cf x + si (sel v l x) m) ∧ (∀ y r, y < 144 → r < 5 → bf' (5 * y + r) = if r = 4 ∧ y / 12 = a then bf (5 * y + r) + si (sel v l (y % 12)) m else bf (5 * y + r))
theorem PV.zero (cf bf : Nat → Int32) (a : Nat) (v : Nat → Int32) (l : Nat → Nat) : PV cf bf cf bf a v l 0 := by
  refine ⟨fun x hx => ?_, fun y r hy hr => ?_⟩
  · show cf x = if x = a then cf a - 0 else cf x + 0
    by_cases h : x = a
    · rw [if_pos h, h, Int32.sub_zero]
    · rw [if_neg h, Int32.add_zero]
  · show bf (5 * y + r) = if r = 4 ∧ y / 12 = a then bf (5 * y + r) + 0 else bf (5 * y + r)
    rw [Int32.add_zero]
    split <;> rfl
theorem PV.skip {cf bf cf' bf' : Nat → Int32} {a m : Nat} {v : Nat → Int32} {l : Nat → Nat} (h : PV cf bf cf' bf' a v l m) (hv : v m = 0) : PV cf bf cf' bf' a v l (m + 1) := by
  have hs : ∀ x, sel v l x m = 0 := fun x => by unfold sel; rw [hv]; split <;> rfl
  refine ⟨fun x hx => ?_, fun y r hy hr => ?_⟩
  · rw [si_s, si_s, hv, hs, Int32.add_zero, Int32.add_zero]; exact h.1 x hx
  · rw [si_s, hs, Int32.add_zero]; exact h.2 y r hy hr
theorem PV.step {cf bf cf' bf' cf'' bf'' : Nat → Int32} {a m : Nat} {v : Nat → Int32} {l : Nat → Nat} (h : PV cf bf cf' bf' a v l m) (ha : a < 12) (hl : l m < 12) (hla : l m ≠ a) (hc : ∀ x, x < 12 → cf'' x = py cf' a (l m) (v m) x) (hb : ∀ i, i < 720 → bf'' i = up bf' (5 * (12 * a + l m) + 4) (bf' (5 * (12 * a + l m) + 4) + v m) i) : PV cf bf cf'' bf'' a v l (m + 1) := by
  refine ⟨fun x hx => ?_, fun y r hy hr => ?_⟩
  · rw [hc x hx, si_s, si_s]
    unfold py
    have hx' := h.1 x hx
    by_cases hxl : x = l m
    · have e : sel v l x m = v m := if_pos hxl.symm
      rw [← hxl, up_same, up_ne _ _ (by omega), if_neg (by omega), e, hx', if_neg (by omega), Int32.add_assoc]
    · have e : sel v l x m = 0 := if_neg (fun e => hxl e.symm)
      rw [up_ne _ _ hxl, e, Int32.add_zero]
      by_cases hxa : x = a
      · rw [← hxa, up_same, if_pos rfl, hx', if_pos hxa, ← hxa, i_sub_sub]
      · rw [up_ne _ _ hxa, if_neg hxa, hx', if_neg hxa]
  · rw [hb _ (by omega), si_s]
    have hy' := h.2 y r hy hr
    by_cases hc2 : r = 4 ∧ y / 12 = a
    · rw [if_pos hc2] at hy' ⊢
      by_cases hyl : l m = y % 12
      · have e : sel v l (y % 12) m = v m := if_pos hyl
        rw [show 5 * y + r = 5 * (12 * a + l m) + 4 by omega, up_same, e]
        rw [show 5 * y + r = 5 * (12 * a + l m) + 4 by omega] at hy'
        rw [hy', Int32.add_assoc]
      · have e : sel v l (y % 12) m = 0 := if_neg hyl
        rw [up_ne _ _ (by omega), e, Int32.add_zero, hy']
    · rw [if_neg hc2] at hy' ⊢
      rw [up_ne _ _ (by omega)]
      exact hy'
theorem PV.add {cf bf cf' bf' cf'' bf'' : Nat → Int32} {a m : Nat} {v w : Nat → Int32} {l : Nat → Nat} (ha : a < 12) (h : PV cf bf cf' bf' a v l m) (k : PV cf' bf' cf'' bf'' a w l m) : PV cf bf cf'' bf'' a (fun i => v i + w i) l m := by
  have es : ∀ x, si (sel (fun i => v i + w i) l x) m = si (sel v l x) m + si (sel w l x) m := fun x => by
    rw [← si_plus m]
    refine si_congr m (fun i _ => ?_)
    unfold sel
    split
    · rfl
    · rw [Int32.add_zero]
  refine ⟨fun x hx => ?_, fun y r hy hr => ?_⟩
  · rw [k.1 x hx, h.1 x hx, h.1 a ha, es, si_plus]
    by_cases hxa : x = a
    · rw [if_pos hxa, if_pos rfl, if_pos hxa, i_sub_sub]
    · rw [if_neg hxa, if_neg hxa, if_neg hxa, Int32.add_assoc]
  · rw [k.2 y r hy hr, h.2 y r hy hr, es]
    by_cases hc : r = 4 ∧ y / 12 = a
    · rw [if_pos hc, if_pos hc, if_pos hc, Int32.add_assoc]
    · rw [if_neg hc, if_neg hc, if_neg hc]
/-- the same payments, told by the class's table and by the reference's -/
theorem PV.same {cf bf cf' bf' df ef df' ef' : Nat → Int32} {a q q' : Nat} {v w : Nat → Int32} {l k : Nat → Nat} (h : PV cf bf cf' bf' a v l q) (g : PV df ef df' ef' a w k q') (ha : a < 12) (hc : ∀ x, x < 12 → cf x = df x) (hb : ∀ i, i < 720 → bf i = ef i) (hv : si v q = si w q') (hs : ∀ x, x < 12 → si (sel v l x) q = si (sel w k x) q') : (∀ x, x < 12 → cf' x = df' x) ∧ (∀ i, i < 720 → bf' i = ef' i) := by
  refine ⟨fun x hx => ?_, fun i hi => ?_⟩
  · rw [h.1 x hx, g.1 x hx, hv, hs x hx, hc x hx, hc a ha]
  · have e1 := h.2 (i / 5) (i % 5) (by omega) (by omega)
    have e2 := g.2 (i / 5) (i % 5) (by omega) (by omega)
    rw [show 5 * (i / 5) + i % 5 = i by omega] at e1 e2
    rw [e1, e2, hs _ (by omega), hb i hi]
/-- the TABLE of loans: the open ones of the class are those of the reference -/
def opC (C : St) (i : Nat) : Bool := decide (C 16 (4 * i + 2) ≠ 0)
def TL (C D : St) (q : Nat) : Prop := q ≤ 20 ∧ C 15 0 = nI q ∧ D 89 2168 = nI (cn (opC C) q) ∧ ∀ i, i < q → opC C i = true → ∀ c, c < 4 → D 89 (1363 + (4 * cn (opC C) i + c)) = C 16 (4 * i + c)
theorem m_close_l {D : St} {z : Nat} (hz : z ≤ 20) : ∀ (m k q : Nat) (E : St), k + m = 4 * (z - 1) → m < q → E 89 2168 = nI z → 1 ≤ z → ∃ E', L_Md_closeLoan_8 q (nI (1363 + k)) E = some E' ∧ (∀ i, E' 89 i = if 1363 + k ≤ i ∧ i < 1363 + 4 * (z - 1) then E 89 (i + 4) else E 89 i) ∧ ∀ j, j ≠ 89 → E' j = E j
  | 0, k, q + 1, E, hk, _, h8, h1 => by
    refine ⟨E, ?_, fun i => by rw [if_neg (by omega)], fun _ _ => rfl⟩
    rw [L_Md_closeLoan_8, h8, nI_m1 (by omega), l1363, l4, pk_mul, nI_add, if_pos (by rw [nI_leI (by omega) (by omega)]; omega)]
  | m + 1, k, q + 1, E, hk, hq, h8, h1 => by
    obtain ⟨E', e1, e2, e3⟩ := m_close_l (D := D) hz m (k + 1) q (mj_wr E 89 (1363 + k) (E 89 (1363 + k + 4))) (by omega) (by omega) (by rw [wr_idx _ _ (by omega)]; exact h8) h1
    refine ⟨E', ?_, fun i => ?_, fun j hj => by rw [e3 j hj, wr_row _ _ hj]⟩
    · rw [L_Md_closeLoan_8, h8, nI_m1 (by omega), l1363, l4, pk_mul, nI_add, if_neg (by rw [nI_leI (by omega) (by omega)]; omega), nI_add, if_pos (inb_t (by omega) (by omega)), if_pos (inb_t (by omega) (by omega)), nI_clamp (by omega), nI_clamp (by omega), l1, nI_add]
      exact e1
    · rw [e2]
      by_cases h : i = 1363 + k
      · subst h
        rw [if_neg (by omega), wr_same, if_pos (by omega)]
      · by_cases h2 : 1363 + (k + 1) ≤ i ∧ i < 1363 + 4 * (z - 1)
        · rw [if_pos h2, if_pos (by omega), wr_idx _ _ (by omega)]
        · rw [if_neg h2, if_neg (by omega), wr_idx _ _ h]
theorem m_close {D : St} {z k : Nat} (hz : z ≤ 20) (hk : k < z) (h8 : D 89 2168 = nI z) : ∃ D', f_Md_closeLoan (nI k) D = some D' ∧ D' 89 2168 = nI (z - 1) ∧ (∀ i, i ≠ 2168 → D' 89 i = if 1363 + 4 * k ≤ i ∧ i < 1363 + 4 * (z - 1) then D 89 (i + 4) else D 89 i) ∧ ∀ j, j ≠ 89 → D' j = D j := by
  obtain ⟨E', e1, e2, e3⟩ := m_close_l (D := D) hz (4 * (z - 1) - 4 * k) (4 * k) 3000 D (by omega) (by omega) h8 (by omega)
  refine ⟨mj_wr E' 89 2168 (nI (z - 1)), ?_, wr_same _ _ _ _, fun i hi => by rw [wr_idx _ _ hi]; exact e2 i, fun j hj => by rw [wr_row _ _ hj, e3 j hj]⟩
  unfold f_Md_closeLoan
  rw [l1363, l4, pk_mul, nI_add, e1, bd1_s, e2, if_neg (by omega), h8, nI_m1 (by omega)]
/-- a loan closed -/
def clo (C : St) (P : Nat → Bool) : St := fun j i => if j = 16 ∧ i % 4 = 2 ∧ P (i / 4) = true then 0 else C j i
theorem clo_o {C : St} {P : Nat → Bool} {i : Nat} : clo C P 16 (4 * i + 2) = if P i = true then 0 else C 16 (4 * i + 2) := by
  unfold clo
  rw [show (4 * i + 2) / 4 = i by omega, show (4 * i + 2) % 4 = 2 by omega]
  by_cases h : P i = true
  · rw [if_pos ⟨rfl, rfl, h⟩, if_pos h]
  · rw [if_neg (fun e => h e.2.2), if_neg h]
theorem clo_c {C : St} {P : Nat → Bool} {i c : Nat} (hc : c < 4) (h2 : c ≠ 2) : clo C P 16 (4 * i + c) = C 16 (4 * i + c) := if_neg (fun e => by omega)
theorem clo_row {C : St} {P : Nat → Bool} {j : Nat} (h : j ≠ 16) : clo C P j = C j := by funext i; exact if_neg (fun e => h e.1)
theorem op_clo {C : St} {P : Nat → Bool} {i : Nat} : opC (clo C P) i = (opC C i && !P i) := by
  unfold opC
  rw [clo_o]
  by_cases h : P i = true
  · rw [if_pos h, h]; simp
  · rw [if_neg h]
    have : P i = false := by simpa using h
    rw [this]; simp
theorem TL.ext {C C' D : St} {q : Nat} (h : TL C D q) (h15 : C' 15 0 = C 15 0) (h16 : ∀ i, i < 4 * q → C' 16 i = C 16 i) : TL C' D q := by
  obtain ⟨h1, h2, h3, h4⟩ := h
  have ho : ∀ i, i < q → opC C' i = opC C i := fun i hi => by unfold opC; rw [h16 _ (by omega)]
  have hc : ∀ i, i ≤ q → cn (opC C') i = cn (opC C) i := fun i hi => cn_congr i (fun k hk => ho k (by omega))
  refine ⟨h1, h15.trans h2, by rw [hc q (Nat.le_refl _)]; exact h3, fun i hi hop c hcc => ?_⟩
  rw [hc i (by omega), h16 _ (by omega)]
  exact h4 i hi (by rw [← ho i hi]; exact hop) c hcc
theorem cn_less {P Q : Nat → Bool} {i0 : Nat} (hi0 : P i0 = true) (hq : ∀ i, Q i = (P i && !decide (i = i0))) : ∀ (n : Nat), cn Q n + (if i0 < n then 1 else 0) = cn P n
  | 0 => by rw [if_neg (by omega)]; rfl
  | n + 1 => by
    have ih := cn_less hi0 hq n
    rw [cn_succ, cn_succ]
    by_cases h : n = i0
    · subst h
      have q0 : Q n = false := by rw [hq, decide_eq_true (rfl : n = n)]; simp
      rw [if_neg (Nat.lt_irrefl n)] at ih
      rw [q0, hi0, if_neg (show ¬ (false = true) by decide), if_pos (show true = true from rfl), if_pos (show n < n + 1 by omega)]
      omega
    · have q0 : Q n = P n := by rw [hq, decide_eq_false h]; simp
      rw [q0]
      by_cases h2 : i0 < n
      · rw [if_pos h2] at ih
        rw [if_pos (show i0 < n + 1 by omega)]
        omega
      · rw [if_neg h2] at ih
        rw [if_neg (show ¬ (i0 < n + 1) by omega)]
        omega
/-- a loan closed, on both sides -/
theorem tl_close {C C' D : St} {q i0 : Nat} (h : TL C D q) (hi : i0 < q) (ho : opC C i0 = true) (h15 : C' 15 0 = C 15 0) (hz : C' 16 (4 * i0 + 2) = 0) (hs : ∀ i, i < 4 * q → i ≠ 4 * i0 + 2 → C' 16 i = C 16 i) : ∃ D', f_Md_closeLoan (nI (cn (opC C) i0)) D = some D' ∧ TL C' D' q ∧ (∀ i, (i < 1363 ∨ 1443 ≤ i) → i ≠ 2168 → D' 89 i = D 89 i) ∧ ∀ j, j ≠ 89 → D' j = D j := by
  obtain ⟨h1, h2, h3, h4⟩ := h
  have hlt := cn_lt (P := opC C) (a := i0) q hi ho
  have hle := cn_le (P := opC C) q
  obtain ⟨D', e1, e2, e3, e4⟩ := m_close (D := D) (z := cn (opC C) q) (k := cn (opC C) i0) (by omega) hlt h3
  have hop : ∀ i, i < q → opC C' i = (opC C i && !decide (i = i0)) := fun i hi' => by
    by_cases e : i = i0
    · subst e
      rw [decide_eq_true (rfl : i = i)]
      unfold opC
      rw [hz]
      simp
    · rw [decide_eq_false e]
      unfold opC
      rw [hs _ (by omega) (by omega)]
      simp
  have hcn : ∀ n, n ≤ q → cn (opC C') n + (if i0 < n then 1 else 0) = cn (opC C) n := fun n hn => by
    rw [cn_congr (Q := fun i => (opC C i && !decide (i = i0))) n (fun i hi' => hop i (by omega))]
    exact cn_less ho (fun _ => rfl) n
  have hq1 := hcn q (Nat.le_refl _)
  rw [if_pos hi] at hq1
  refine ⟨D', e1, ⟨h1, h15.trans h2, by rw [e2]; exact congrArg nI (by omega), fun i hi' hop' c hc => ?_⟩, fun i h5 h6 => ?_, e4⟩
  · rw [hop i hi'] at hop'
    have hne : i ≠ i0 := fun e => by subst e; simp at hop'
    have hoi : opC C i = true := by
      rw [decide_eq_false hne] at hop'; simpa using hop'
    have hci := hcn i (by omega)
    have hli := cn_lt (P := opC C) (a := i) q hi' hoi
    have old := h4 i hi' hoi c hc
    rw [hs _ (by omega) (by omega), ← old]
    rw [e3 _ (by omega)]
    by_cases hii : i0 < i
    · rw [if_pos hii] at hci
      have hgt := cn_lt (P := opC C) (a := i0) i hii ho
      rw [if_pos (by omega)]
      exact congrArg (D 89) (by omega)
    · rw [if_neg hii] at hci
      have hgt := cn_lt (P := opC C) (a := i) i0 (by omega) hoi
      rw [if_neg (by omega)]
      exact congrArg (D 89) (by omega)
  · rw [e3 i h6, if_neg (by omega)]
/-- the first loan that is DUE -/
theorem due_at {k : Nat} : (1363 + (4 * nI k)) + 3 = nI (1363 + (4 * k + 3)) := by
  rw [l1363, l4, l3]
  simp only [pk_mul, nI_add]
  exact congrArg nI (by omega)
theorem m_due_l {D : St} {z : Nat} (hz : z ≤ 20) (h8 : D 89 2168 = nI z) : ∀ (m k q : Nat), k + m = z → m < q → (∀ j, j < k → D 89 (1363 + (4 * j + 3)) ≠ D 89 2164) → (L_Md_firstDue_2 q (nI k) D = some (.inr ()) ∧ ∀ j, j < z → D 89 (1363 + (4 * j + 3)) ≠ D 89 2164) ∨ ∃ e, e < z ∧ L_Md_firstDue_2 q (nI k) D = some (.inl (nI e)) ∧ D 89 (1363 + (4 * e + 3)) = D 89 2164 ∧ ∀ j, j < e → D 89 (1363 + (4 * j + 3)) ≠ D 89 2164
  | 0, k, q + 1, hk, _, hb => by
    obtain rfl : k = z := by omega
    exact Or.inl ⟨by rw [L_Md_firstDue_2, h8, if_pos (by rw [nI_leI (by omega) (by omega)]; omega)], hb⟩
  | m + 1, k, q + 1, hk, hq, hb => by
    rw [L_Md_firstDue_2, h8, if_neg (by rw [nI_leI (by omega) (by omega)]; omega), due_at, if_pos (inb_t (by omega) (by omega)), nI_clamp (by omega)]
    by_cases h : D 89 (1363 + (4 * k + 3)) = D 89 2164
    · rw [if_pos h]
      exact Or.inr ⟨k, by omega, rfl, h, hb⟩
    · rw [if_neg h, l1, nI_add]
      exact m_due_l hz h8 m (k + 1) q (by omega) (by omega) (fun j hj => by
        by_cases e : j = k
        · rw [e]; exact h
        · exact hb j (by omega))
theorem m_due {C D : St} {q : Nat} (h : TL C D q) : (f_Md_firstDue D = some (-1) ∧ ∀ i, i < q → opC C i = true → C 16 (4 * i + 3) ≠ D 89 2164) ∨ ∃ i, i < q ∧ opC C i = true ∧ f_Md_firstDue D = some (nI (cn (opC C) i)) ∧ C 16 (4 * i + 3) = D 89 2164 ∧ ∀ j, j < i → opC C j = true → C 16 (4 * j + 3) ≠ D 89 2164 := by
  obtain ⟨h1, h2, h3, h4⟩ := h
  have hle := cn_le (P := opC C) q
  unfold f_Md_firstDue
  rcases m_due_l (D := D) (z := cn (opC C) q) (by omega) h3 (cn (opC C) q) 0 3000 (by omega) (by omega) (fun j hj => by omega) with ⟨e1, e2⟩ | ⟨e, e1, e2, e3, e4⟩
  · refine Or.inl ⟨by rw [show L_Md_firstDue_2 3000 0 D = _ from e1, bdS_r], fun i hi ho => ?_⟩
    have := e2 (cn (opC C) i) (cn_lt (P := opC C) (a := i) q hi ho)
    rw [h4 i hi ho 3 (by omega)] at this
    exact this
  · obtain ⟨i, i1, i2, i3⟩ := cn_find (P := opC C) q e1
    refine Or.inr ⟨i, i1, i2, by rw [show L_Md_firstDue_2 3000 0 D = _ from e2, bdS_l, i3], ?_, fun j hj ho => ?_⟩
    · have := h4 i i1 i2 3 (by omega)
      rw [i3, e3] at this
      exact this.symm
    · have := e4 (cn (opC C) j) (by rw [← i3]; exact cn_lt (P := opC C) (a := j) i hj ho)
      rw [h4 j (by omega) ho 3 (by omega)] at this
      exact this
