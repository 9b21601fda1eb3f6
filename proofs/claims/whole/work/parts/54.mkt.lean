/-! PURE: a day: the called market's price -/
theorem sm_up {f : Nat → Int} {n i j : Nat} (h : ∀ k, k < n → 0 ≤ f k) (hij : i ≤ j) (hj : j ≤ n) : sm f i ≤ sm f j := by
  induction j with
  | zero => obtain rfl : i = 0 := by omega
            exact Int.le_refl _
  | succ j ih =>
    by_cases he : i = j + 1
    · rw [he]; exact Int.le_refl _
    · have := ih (by omega) (by omega)
      have := h j (by omega)
      show sm f i ≤ sm f j + f j
      omega
theorem sm_s {f : Nat → Int} {n : Nat} : sm f (n + 1) = sm f n + f n := rfl
theorem sv_asc {C D : St} {t n d no g ma mb a b i j : Nat} {ob : Int32} {pa pb : Nat → Nat} (h : SV C D t n d no g ob ma mb pa pb a b) (hij : i ≤ j) (hj : j < ma) : (C 28 (pa i)).toInt ≤ (C 28 (pa j)).toInt := by
  by_cases he : i = j
  · rw [he]; exact Int.le_refl _
  · have := h.2.1.2.2.2.1 i j (by omega) hj
    rw [ky1, ky1] at this
    omega
def ubM (C : St) (ma mb : Nat) (pa pb : Nat → Nat) (la lb : Nat → Int) (M : Int) : Prop := ∀ i j, i < ma → j < mb → (C 28 (pa i)).toInt ≤ (C 34 (pb j)).toInt → sm la (i + 1) ≤ M ∨ sm lb (j + 1) ≤ M
def atM (C : St) (ma mb : Nat) (pa pb : Nat → Nat) (la lb : Nat → Int) (P : Int32) (M : Int) : Prop := ∃ a0 b0, a0 < ma ∧ b0 < mb ∧ (C 28 (pa a0)).toInt ≤ (C 34 (pb b0)).toInt ∧ P = C 28 (pa a0) ∧ (M = sm la (a0 + 1) ∨ M = sm lb (b0 + 1)) ∧ M ≤ sm la (a0 + 1) ∧ M ≤ sm lb (b0 + 1) ∧ sm la a0 < M
theorem cp_l {C D : St} {t n d no g ma mb : Nat} {pa pb : Nat → Nat} {la lb : Nat → Int} (h : SV C D t n d no g (-1) ma mb pa pb 0 0) (ela : ∀ i, i < ma → (C 29 (pa i)).toInt = la i) (elb : ∀ j, j < mb → (C 35 (pb j)).toInt = lb j) (hla : ∀ i, i < ma → 0 < la i) (hlb : ∀ j, j < mb → 0 < lb j) (hSa : sm la ma ≤ 100000) (hSb : sm lb mb ≤ 100000) : ∀ (m q a b : Nat) (y1 y4 y5 : Int32) (M : Int), (ma - a) + (mb - b) = m → m < q → a ≤ ma → b ≤ mb → y4.toInt = sm la a → y5.toInt = sm lb b → (b < mb → sm la a < sm lb (b + 1)) → (a < ma → sm lb b ≤ sm la (a + 1)) → sm la a ≤ M → sm lb b ≤ M → (M = 0 ∨ atM C ma mb pa pb la lb y1 M) → ∃ P M', L_Mt_calledPrice_12 q y1 (nI a) (nI b) y4 y5 C = some P ∧ 0 ≤ M' ∧ ubM C ma mb pa pb la lb M' ∧ (M' = 0 ∨ atM C ma mb pa pb la lb P M') := by
  have na : ∀ k, k < ma → 0 ≤ la k := fun k hk => by have := hla k hk; omega
  have nb : ∀ k, k < mb → 0 ≤ lb k := fun k hk => by have := hlb k hk; omega
  have hno := h.1.2.2.1.2.1
  have hna := cn_le (P := PX D 0) no
  have hnb := cn_le (P := PX D 1) no
  have q1 := h.2.1.2.1
  have q2 := h.2.2.1.2.1
  intro m
  induction m with
  | zero =>
    intro q a b y1 y4 y5 M hm hq ha hb e4 e5 i1 i2 g1 g2 hh
    obtain ⟨q, rfl⟩ : ∃ z, q = z + 1 := ⟨q - 1, by omega⟩
    have s0 := sm_nonneg (f := la) a (fun k hk => na k (by omega))
    refine ⟨y1, M, by rw [L_Mt_calledPrice_12, h.2.1.1, if_pos (by rw [nI_leI (by omega) (by omega)]; omega)], by omega, fun i j hi hj hp => Or.inl ?_, hh⟩
    have := sm_up (f := la) (n := ma) (i := i + 1) (j := a) na (by omega) ha
    omega
  | succ m ih =>
    intro q a b y1 y4 y5 M hm hq ha hb e4 e5 i1 i2 g1 g2 hh
    obtain ⟨q, rfl⟩ : ∃ z, q = z + 1 := ⟨q - 1, by omega⟩
    have s0 := sm_nonneg (f := la) a (fun k hk => na k (by omega))
    have s0b := sm_nonneg (f := lb) b (fun k hk => nb k (by omega))
    by_cases ha' : a = ma
    · refine ⟨y1, M, by rw [L_Mt_calledPrice_12, h.2.1.1, if_pos (by rw [nI_leI (by omega) (by omega)]; omega)], by omega, fun i j hi hj hp => Or.inl ?_, hh⟩
      have := sm_up (f := la) (n := ma) (i := i + 1) (j := a) na (by omega) ha
      omega
    · by_cases hb' : b = mb
      · refine ⟨y1, M, by rw [L_Mt_calledPrice_12, h.2.1.1, if_neg (by rw [nI_leI (by omega) (by omega)]; omega), h.2.2.1.1, if_pos (by rw [nI_leI (by omega) (by omega)]; omega)], by omega, fun i j hi hj hp => Or.inr ?_, hh⟩
        have := sm_up (f := lb) (n := mb) (i := j + 1) (j := b) nb (by omega) hb
        omega
      · have hA : a < ma := by omega
        have hB : b < mb := by omega
        have p1 : C 30 a = nI (pa a) := (h.2.1.2.2.1 a hA).1
        have p1' := (h.2.1.2.2.1 a hA).2.1
        have p2 : C 36 b = nI (pb b) := (h.2.2.1.2.2.1 b hB).1
        have p2' := (h.2.2.1.2.2.1 b hB).2.1
        by_cases hc : C 34 (pb b) < C 28 (pa a)
        · refine ⟨y1, M, ?_, by omega, fun i j hi hj hp => ?_, hh⟩
          · rw [L_Mt_calledPrice_12, h.2.1.1, if_neg (by rw [nI_leI (by omega) (by omega)]; omega), h.2.2.1.1, if_neg (by rw [nI_leI (by omega) (by omega)]; omega), v_agree h.2.1 h.2.2.1 (by omega) (by omega) hA hB, bd1_s, if_pos hc, if_pos rfl]
          · rw [Int32.lt_iff_toInt_lt] at hc
            by_cases hia : i < a
            · refine Or.inl ?_
              have := sm_up (f := la) (n := ma) (i := i + 1) (j := a) na (by omega) ha
              omega
            · by_cases hjb : j < b
              · refine Or.inr ?_
                have := sm_up (f := lb) (n := mb) (i := j + 1) (j := b) nb (by omega) hb
                omega
              · have := sv_asc h (show a ≤ i by omega) hi
                have := sv_desc h (show b ≤ j by omega) hj
                omega
        · have hc' : (C 28 (pa a)).toInt ≤ (C 34 (pb b)).toInt := by rw [Int32.lt_iff_toInt_lt] at hc; omega
          have la1 : (C 29 (pa a)).toInt = la a := ela a hA
          have lb1 : (C 35 (pb b)).toInt = lb b := elb b hB
          have la2 := hla a hA
          have lb2 := hlb b hB
          have ua : sm la (a + 1) ≤ sm la ma := sm_up (f := la) (n := ma) na (by omega) (by omega)
          have ub : sm lb (b + 1) ≤ sm lb mb := sm_up (f := lb) (n := mb) nb (by omega) (by omega)
          have sa : sm la (a + 1) = sm la a + la a := rfl
          have sb : sm lb (b + 1) = sm lb b + lb b := rfl
          have f4 : (y4 + C 29 (pa a)).toInt = sm la (a + 1) := by rw [add_toInt (by omega) (by omega)]; omega
          have f5 : (y5 + C 35 (pb b)).toInt = sm lb (b + 1) := by rw [add_toInt (by omega) (by omega)]; omega
          have un : L_Mt_calledPrice_12 (q + 1) y1 (nI a) (nI b) y4 y5 C = L_Mt_calledPrice_12 q (C 28 (pa a)) (if (y5 + C 35 (pb b)) ≤ (y4 + C 29 (pa a)) then nI a else nI (a + 1) : Int32) (if (y5 + C 35 (pb b)) ≤ (y4 + C 29 (pa a)) then nI (b + 1) else nI b : Int32) (if (y5 + C 35 (pb b)) ≤ (y4 + C 29 (pa a)) then y4 else y4 + C 29 (pa a) : Int32) (if (y5 + C 35 (pb b)) ≤ (y4 + C 29 (pa a)) then y5 + C 35 (pb b) else y5 : Int32) C := by
            rw [L_Mt_calledPrice_12, h.2.1.1, if_neg (by rw [nI_leI (by omega) (by omega)]; omega), h.2.2.1.1, if_neg (by rw [nI_leI (by omega) (by omega)]; omega), v_agree h.2.1 h.2.2.1 (by omega) (by omega) hA hB, bd1_s, if_neg hc, if_neg i10, if_pos (inb_t (by omega) (by omega)), nI_clamp (by omega), p1, if_pos (inb_t (by omega) (by omega)), if_pos (inb_t (by omega) (by omega)), nI_clamp (by omega), p2, if_pos (inb_t (by omega) (by omega)), nI_clamp (by omega), nI_clamp (by omega), l1, nI_add, nI_add]
          rw [un]
          have j1 := i1 hB
          have j2 := i2 hA
          by_cases hle : (y5 + C 35 (pb b)) ≤ (y4 + C 29 (pa a))
          · rw [if_pos hle, if_pos hle, if_pos hle, if_pos hle]
            rw [Int32.le_iff_toInt_le, f4, f5] at hle
            exact ih q a (b + 1) _ _ _ (sm lb (b + 1)) (by omega) (by omega) ha (by omega) e4 f5 (fun hb2 => by have := hlb (b + 1) hb2; rw [sm_s (n := b + 1)]; omega) (fun _ => hle) (by omega) (by omega) (Or.inr ⟨a, b, hA, hB, hc', rfl, Or.inr rfl, hle, by omega, j1⟩)
          · rw [if_neg hle, if_neg hle, if_neg hle, if_neg hle]
            rw [Int32.le_iff_toInt_le, f4, f5] at hle
            exact ih q (a + 1) b _ _ _ (sm la (a + 1)) (by omega) (by omega) (by omega) hb f4 e5 (fun _ => by omega) (fun ha2 => by have := hla (a + 1) ha2; rw [sm_s (n := a + 1)]; omega) (by omega) (by omega) (Or.inr ⟨a, b, hA, hB, hc', rfl, Or.inl rfl, by omega, by omega, by omega⟩)
/-- sums over the offers of a side -/
theorem cn_sum {P : Nat → Bool} {h F : Nat → Int} : ∀ (no : Nat), (∀ k, k < no → P k = true → F (cn P k) = h k) → sm (fun k => if P k = true then h k else 0) no = sm F (cn P no)
  | 0, _ => rfl
  | no + 1, hh => by
    rw [sm_s, cn_succ, cn_sum no (fun k hk => hh k (by omega))]
    by_cases hp : P no = true
    · rw [if_pos hp, if_pos hp, sm_s, hh no (by omega) hp]
    · rw [if_neg hp, if_neg hp, Int.add_zero, Nat.add_zero]
theorem pre_asc {f p : Nat → Int} {x : Int} : ∀ (m : Nat), (∀ i j, i ≤ j → j < m → p i ≤ p j) → ∃ i, i ≤ m ∧ (∀ i', i' < i → p i' ≤ x) ∧ (∀ i', i ≤ i' → i' < m → x < p i') ∧ sm (fun k => if p k ≤ x then f k else 0) m = sm f i
  | 0, _ => ⟨0, by omega, fun _ h => by omega, fun _ _ h => by omega, rfl⟩
  | m + 1, hp => by
    obtain ⟨i, i1, i2, i3, i4⟩ := pre_asc (f := f) (p := p) (x := x) m (fun i j h1 h2 => hp i j h1 (by omega))
    rw [sm_s, i4]
    by_cases hx : p m ≤ x
    · have him : i = m := by
        apply Classical.byContradiction
        intro hne
        have := i3 i (Nat.le_refl _) (by omega)
        have := hp i m (by omega) (by omega)
        omega
      subst him
      refine ⟨i + 1, by omega, fun i' h => ?_, fun i' h1 h2 => by omega, ?_⟩
      · have := hp i' i (by omega) (by omega)
        omega
      · rw [if_pos hx, sm_s]
    · refine ⟨i, by omega, i2, fun i' h1 h2 => ?_, ?_⟩
      · by_cases e : i' = m
        · rw [e]; omega
        · exact i3 i' h1 (by omega)
      · rw [if_neg hx, Int.add_zero]
/-- what would move at a price -/
def mvB (D : St) (g : Nat) (x : Int32) (k : Nat) : Int32 := if D 97 k = 1 then (if D 94 k = nI g then (if D 98 k ≤ 0 then 0 else if D 96 k < x then 0 else D 98 k) else 0) else 0
def mvA (D : St) (g : Nat) (x : Int32) (k : Nat) : Int32 := if D 97 k = 0 then (if D 94 k = nI g then (if D 98 k ≤ 0 then 0 else if x < D 96 k then 0 else D 98 k) else 0) else 0
theorem m_moves_l {D : St} {g no : Nat} {x : Int32} (hno : no ≤ 72) (h11 : D 88 11 = nI no) : ∀ (m k q : Nat), k + m = no → m < q → L_Md_movesAt_8 q (nI g) x (si (mvB D g x) k) (si (mvA D g x) k) (nI k) D = some (si (mvB D g x) no, si (mvA D g x) no)
  | 0, k, q + 1, hk, _ => by
    obtain rfl : k = no := by omega
    rw [L_Md_movesAt_8, h11, if_pos (by rw [nI_leI (by omega) (by omega)]; omega)]
  | m + 1, k, q + 1, hk, hq => by
    have hb : ∀ K : Int32 → Option (Int32 × Int32), (bd1 (f_Md_isOpen (nI k) (nI g) 1 D) fun v2 => bd1 (if v2 = 0 then some 0 else if inb (nI k) 80 then if (D 96 k) < x then some 0 else some (D 98 k) else none) K) = K (mvB D g x k) := fun K => by
      unfold f_Md_isOpen mvB
      rw [if_pos (inb_t (by omega) (by omega)), nI_clamp (by omega), bd1_s, if_pos (inb_t (by omega) (by omega))]
      by_cases h1 : D 97 k = 1
      · rw [if_pos h1, if_pos h1]
        by_cases h2 : D 94 k = nI g
        · rw [if_pos h2, if_pos h2]
          by_cases h3 : D 98 k ≤ 0
          · rw [if_pos h3, if_pos h3, if_pos rfl]; rfl
          · rw [if_neg h3, if_neg h3, if_neg i10]
            by_cases h4 : D 96 k < x
            · rw [if_pos h4, if_pos h4]; rfl
            · rw [if_neg h4, if_neg h4]; rfl
        · rw [if_neg h2, if_neg h2, if_pos rfl]; rfl
      · rw [if_neg h1, if_neg h1, if_pos rfl]; rfl
    have ha : ∀ K : Int32 → Option (Int32 × Int32), (bd1 (f_Md_isOpen (nI k) (nI g) 0 D) fun v2 => bd1 (if v2 = 0 then some 0 else if inb (nI k) 80 then if x < (D 96 k) then some 0 else some (D 98 k) else none) K) = K (mvA D g x k) := fun K => by
      unfold f_Md_isOpen mvA
      rw [if_pos (inb_t (by omega) (by omega)), nI_clamp (by omega), bd1_s, if_pos (inb_t (by omega) (by omega))]
      by_cases h1 : D 97 k = 0
      · rw [if_pos h1, if_pos h1]
        by_cases h2 : D 94 k = nI g
        · rw [if_pos h2, if_pos h2]
          by_cases h3 : D 98 k ≤ 0
          · rw [if_pos h3, if_pos h3, if_pos rfl]; rfl
          · rw [if_neg h3, if_neg h3, if_neg i10]
            by_cases h4 : x < D 96 k
            · rw [if_pos h4, if_pos h4]; rfl
            · rw [if_neg h4, if_neg h4]; rfl
        · rw [if_neg h2, if_neg h2, if_pos rfl]; rfl
      · rw [if_neg h1, if_neg h1, if_pos rfl]; rfl
    rw [L_Md_movesAt_8, h11, if_neg (by rw [nI_leI (by omega) (by omega)]; omega), nI_clamp (by omega), hb, ha, l1, nI_add]
    exact m_moves_l hno h11 m (k + 1) q (by omega) (by omega)
def asum (C : St) (ma : Nat) (pa : Nat → Nat) (la : Nat → Int) (x : Int) : Int := sm (fun i => if (C 28 (pa i)).toInt ≤ x then la i else 0) ma
def bsum (C : St) (mb : Nat) (pb : Nat → Nat) (lb : Nat → Int) (x : Int) : Int := sm (fun j => if - (C 34 (pb j)).toInt ≤ - x then lb j else 0) mb
theorem sm_bound {f : Nat → Int} {B : Int} : ∀ (n : Nat), (∀ k, k < n → f k ≤ B) → sm f n ≤ n * B
  | 0, _ => by show (0 : Int) ≤ _; simp
  | n + 1, h => by
    have h1 := sm_bound (B := B) n (fun k hk => h k (by omega))
    have h2 := h n (by omega)
    rw [sm_s, Int.natCast_add, Int.add_mul]
    omega
theorem m_moves {C D : St} {t n d no g ma mb : Nat} {pa pb : Nat → Nat} {la lb : Nat → Int} (h : SV C D t n d no g (-1) ma mb pa pb 0 0) (ela : ∀ i, i < ma → (C 29 (pa i)).toInt = la i) (elb : ∀ j, j < mb → (C 35 (pb j)).toInt = lb j) (x : Int32) : ∃ v, f_Md_movesAt (nI g) x D = some v ∧ v.toInt = (if asum C ma pa la x.toInt < bsum C mb pb lb x.toInt then asum C ma pa la x.toInt else bsum C mb pb lb x.toInt) := by
  obtain ⟨⟨hR, hW, ⟨o1, o2, o3, o4, o5⟩, hV, hO⟩, hA, hB, -⟩ := h
  have ra : ∀ k, k < no → 0 ≤ (mvA D g x k).toInt ∧ (mvA D g x k).toInt ≤ 999 := fun k hk => by
    obtain ⟨-, -, -, q, -⟩ := o5 k hk
    unfold mvA
    split
    · split
      · split
        · decide
        · split
          · decide
          · exact q
      · decide
    · decide
  have rb : ∀ k, k < no → 0 ≤ (mvB D g x k).toInt ∧ (mvB D g x k).toInt ≤ 999 := fun k hk => by
    obtain ⟨-, -, -, q, -⟩ := o5 k hk
    unfold mvB
    split
    · split
      · split
        · decide
        · split
          · decide
          · exact q
      · decide
    · decide
  have ba := sm_bound (f := fun k => (mvA D g x k).toInt) (B := 999) no (fun k hk => (ra k hk).2)
  have bb := sm_bound (f := fun k => (mvB D g x k).toInt) (B := 999) no (fun k hk => (rb k hk).2)
  have sa := si_toInt (f := mvA D g x) no (fun k hk => (ra k hk).1) (by omega)
  have sb := si_toInt (f := mvB D g x) no (fun k hk => (rb k hk).1) (by omega)
  have ea : sm (fun k => (mvA D g x k).toInt) no = asum C ma pa la x.toInt := by
    have e1 : sm (fun k => (mvA D g x k).toInt) no = sm (fun k => if PX D 0 k = true then (if D 94 k = nI g then (if (D 96 k).toInt ≤ x.toInt then (D 98 k).toInt else 0) else 0) else 0) no := sm_congr no (fun k hk => by
      obtain ⟨-, -, -, q, -⟩ := o5 k hk
      unfold mvA PX
      by_cases h1 : D 97 k = 0
      · rw [if_pos h1, if_pos (decide_eq_true h1)]
        by_cases h2 : D 94 k = nI g
        · rw [if_pos h2, if_pos h2]
          by_cases h3 : D 98 k ≤ 0
          · rw [if_pos h3]
            rw [Int32.le_iff_toInt_le, Int32.toInt_zero] at h3
            have := q.1
            rw [Int32.toInt_zero]
            split <;> omega
          · rw [if_neg h3]
            by_cases h4 : x < D 96 k
            · rw [if_pos h4, if_neg (by rw [Int32.lt_iff_toInt_lt] at h4; omega)]; rfl
            · rw [if_neg h4, if_pos (by rw [Int32.lt_iff_toInt_lt] at h4; omega)]
        · rw [if_neg h2, if_neg h2]; rfl
      · rw [if_neg h1, if_neg (by rw [decide_eq_false h1]; decide)]; rfl)
    rw [e1, cn_sum (F := fun i => if C 31 i = nI g then (if (C 28 i).toInt ≤ x.toInt then (C 29 i).toInt else 0) else 0) no (fun k hk hp => by
      obtain ⟨s1, s2, s3, s4⟩ := o3.2 k hk (by unfold PX at hp; exact of_decide_eq_true hp)
      show (if C (26 + 5) (cn (PX D 0) k) = nI g then (if (C (26 + 2) (cn (PX D 0) k)).toInt ≤ x.toInt then (C (26 + 3) (cn (PX D 0) k)).toInt else 0) else 0) = _
      rw [s2, s3, s4])]
    have e2 := hA.2.2.2.2 (fun i => if (C 28 i).toInt ≤ x.toInt then (C 29 i).toInt else 0)
    refine e2.symm.trans (sm_congr ma (fun i hi => ?_))
    show (if (C 28 (pa i)).toInt ≤ x.toInt then (C 29 (pa i)).toInt else 0) = _
    rw [ela i hi]
  have eb : sm (fun k => (mvB D g x k).toInt) no = bsum C mb pb lb x.toInt := by
    have e1 : sm (fun k => (mvB D g x k).toInt) no = sm (fun k => if PX D 1 k = true then (if D 94 k = nI g then (if - (D 96 k).toInt ≤ - x.toInt then (D 98 k).toInt else 0) else 0) else 0) no := sm_congr no (fun k hk => by
      obtain ⟨-, -, -, q, -⟩ := o5 k hk
      unfold mvB PX
      by_cases h1 : D 97 k = 1
      · rw [if_pos h1, if_pos (decide_eq_true h1)]
        by_cases h2 : D 94 k = nI g
        · rw [if_pos h2, if_pos h2]
          by_cases h3 : D 98 k ≤ 0
          · rw [if_pos h3]
            rw [Int32.le_iff_toInt_le, Int32.toInt_zero] at h3
            have := q.1
            rw [Int32.toInt_zero]
            split <;> omega
          · rw [if_neg h3]
            by_cases h4 : D 96 k < x
            · rw [if_pos h4, if_neg (by rw [Int32.lt_iff_toInt_lt] at h4; omega)]; rfl
            · rw [if_neg h4, if_pos (by rw [Int32.lt_iff_toInt_lt] at h4; omega)]
        · rw [if_neg h2, if_neg h2]; rfl
      · rw [if_neg h1, if_neg (by rw [decide_eq_false h1]; decide)]; rfl)
    rw [e1, cn_sum (F := fun i => if C 37 i = nI g then (if - (C 34 i).toInt ≤ - x.toInt then (C 35 i).toInt else 0) else 0) no (fun k hk hp => by
      obtain ⟨s1, s2, s3, s4⟩ := o4.2 k hk (by unfold PX at hp; exact of_decide_eq_true hp)
      show (if C (32 + 5) (cn (PX D 1) k) = nI g then (if - (C (32 + 2) (cn (PX D 1) k)).toInt ≤ - x.toInt then (C (32 + 3) (cn (PX D 1) k)).toInt else 0) else 0) = _
      rw [s2, s3, s4])]
    have e2 := hB.2.2.2.2 (fun i => if - (C 34 i).toInt ≤ - x.toInt then (C 35 i).toInt else 0)
    refine e2.symm.trans (sm_congr mb (fun i hi => ?_))
    show (if - (C 34 (pb i)).toInt ≤ - x.toInt then (C 35 (pb i)).toInt else 0) = _
    rw [elb i hi]
  refine ⟨amt (si (mvB D g x) no) (si (mvA D g x) no), ?_, ?_⟩
  · unfold f_Md_movesAt
    rw [show L_Md_movesAt_8 3000 (nI g) x 0 0 0 D = _ from m_moves_l o2 o1 no 0 3000 (by omega) (by omega), bd2_s, m_less, bd1_s]
  · rw [amt_toInt, sa, sb, ea, eb]
