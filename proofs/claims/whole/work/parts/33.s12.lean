/-! PURE: median -/
/-- how many of the first n are so -/
def cn (P : Nat → Bool) : Nat → Nat
  | 0 => 0
  | n + 1 => cn P n + (if P n = true then 1 else 0)
theorem cn_succ {P : Nat → Bool} {n : Nat} : cn P (n + 1) = cn P n + (if P n = true then 1 else 0) := rfl
theorem cn_le {P : Nat → Bool} : ∀ (n : Nat), cn P n ≤ n
  | 0 => Nat.le_refl 0
  | n + 1 => by
    have := cn_le (P := P) n
    unfold cn
    by_cases h : P n = true
    · rw [if_pos h]; omega
    · rw [if_neg h]; omega
theorem cn_mono {P Q : Nat → Bool} : ∀ (n : Nat), (∀ i, i < n → P i = true → Q i = true) → cn P n ≤ cn Q n
  | 0, _ => Nat.le_refl 0
  | n + 1, h => by
    have h1 := cn_mono n (fun i hi => h i (by omega))
    unfold cn
    by_cases hP : P n = true
    · rw [if_pos hP, if_pos (h n (by omega) hP)]; omega
    · rw [if_neg hP]
      by_cases hQ : Q n = true
      · rw [if_pos hQ]; omega
      · rw [if_neg hQ]; omega
theorem cn_congr {P Q : Nat → Bool} (n : Nat) (h : ∀ i, i < n → P i = Q i) : cn P n = cn Q n := by
  induction n with
  | zero => rfl
  | succ n ih =>
    unfold cn
    rw [ih (fun i hi => h i (by omega)), h n (by omega)]
theorem cn_split {P Q R : Nat → Bool} (n : Nat) (h : ∀ i, i < n → (R i = true ↔ P i = true ∨ Q i = true) ∧ ¬ (P i = true ∧ Q i = true)) : cn R n = cn P n + cn Q n := by
  induction n with
  | zero => rfl
  | succ n ih =>
    unfold cn
    rw [ih (fun i hi => h i (by omega))]
    have h1 := h n (by omega)
    by_cases hP : P n = true
    · rw [if_pos hP, if_pos (h1.1.mpr (Or.inl hP)), if_neg (fun q => h1.2 ⟨hP, q⟩)]; omega
    · by_cases hQ : Q n = true
      · rw [if_neg hP, if_pos (h1.1.mpr (Or.inr hQ)), if_pos hQ]; omega
      · rw [if_neg hP, if_neg hQ, if_neg (fun q => (h1.1.mp q).elim hP hQ)]; omega
theorem cn_lt {P : Nat → Bool} {a : Nat} : ∀ (n : Nat), a < n → P a = true → cn P a < cn P n
  | 0, h, _ => by omega
  | n + 1, h, hP => by
    by_cases ha : a = n
    · subst ha
      show cn P a < cn P a + (if P a = true then 1 else 0)
      rw [if_pos hP]; omega
    · have := cn_lt n (by omega) hP
      show cn P a < cn P n + _
      omega
theorem cn_find {P : Nat → Bool} {j : Nat} : ∀ (n : Nat), j < cn P n → ∃ a, a < n ∧ P a = true ∧ cn P a = j
  | 0, h => by
    have : cn P 0 = 0 := rfl
    omega
  | n + 1, h => by
    by_cases h1 : j < cn P n
    · obtain ⟨a, h2, h3⟩ := cn_find n h1
      exact ⟨a, by omega, h3⟩
    · have h2 : j < cn P n + (if P n = true then 1 else 0) := h
      by_cases hP : P n = true
      · rw [if_pos hP] at h2
        exact ⟨n, by omega, hP, by omega⟩
      · rw [if_neg hP] at h2
        omega
theorem cn_and {P : Nat → Bool} {a : Nat} : ∀ (n : Nat), a ≤ n → cn (fun i => P i && decide (i < a)) n = cn P a
  | 0, h => by
    obtain rfl : a = 0 := by omega
    rfl
  | n + 1, h => by
    by_cases ha : a = n + 1
    · subst ha
      exact cn_congr (n + 1) fun i hi => by simp [hi]
    · show cn (fun i => P i && decide (i < a)) n + _ = _
      rw [cn_and n (by omega), if_neg (by simp; omega)]
      omega
/-- the first from k on, within m, that is so -/
def fs (P : Nat → Bool) (k : Nat) : Nat → Option Nat
  | 0 => none
  | m + 1 => if P k = true then some k else fs P (k + 1) m
theorem fs_some {P : Nat → Bool} {a : Nat} : ∀ (m k : Nat), fs P k m = some a → k ≤ a ∧ a < k + m ∧ P a = true
  | 0, k, h => by cases h
  | m + 1, k, h => by
    unfold fs at h
    by_cases hP : P k = true
    · rw [if_pos hP] at h
      cases h
      exact ⟨Nat.le_refl _, by omega, hP⟩
    · rw [if_neg hP] at h
      have := fs_some m (k + 1) h
      exact ⟨by omega, by omega, this.2.2⟩
theorem fs_none {P : Nat → Bool} : ∀ (m k : Nat), fs P k m = none → ∀ a, k ≤ a → a < k + m → P a = false
  | 0, k, h, a, h1, h2 => by omega
  | m + 1, k, h, a, h1, h2 => by
    unfold fs at h
    by_cases hP : P k = true
    · rw [if_pos hP] at h
      cases h
    · rw [if_neg hP] at h
      by_cases hk : a = k
      · subst hk
        exact Bool.eq_false_iff.mpr hP
      · exact fs_none m (k + 1) h a (by omega) (by omega)
/-- the two ways to the middle -/
theorem middle {B : Nat → Bool} {c : Nat → Int} {n M : Nat} (P Q : Nat → Bool)
    (hQ : ∀ a, a < n → (Q a = true ↔ B a = true ∧ cn (fun b => B b && decide (c b ≤ c a - 1)) n ≤ M ∧ M < cn (fun b => B b && decide (c b ≤ c a)) n))
    (hP : ∀ a, a < n → (P a = true ↔ B a = true ∧ cn (fun b => B b && (decide (c b < c a) || (decide (c b = c a) && decide (b < a)))) n = M)) :
    (fs Q 0 n = none ∧ fs P 0 n = none) ∨ ∃ a a', a < n ∧ a' < n ∧ fs Q 0 n = some a ∧ fs P 0 n = some a' ∧ c a = c a' := by
  have e1 : ∀ a, a < n → cn (fun b => B b && (decide (c b < c a) || (decide (c b = c a) && decide (b < a)))) n = cn (fun b => B b && decide (c b ≤ c a - 1)) n + cn (fun b => B b && decide (c b = c a)) a := by
    intro a ha
    rw [← cn_and (P := fun b => B b && decide (c b = c a)) n (by omega)]
    refine cn_split n fun i hi => ⟨?_, ?_⟩
    · simp only [Bool.and_eq_true, Bool.or_eq_true, decide_eq_true_eq]
      constructor
      · rintro ⟨x, y | ⟨y, z⟩⟩
        · exact Or.inl ⟨x, by omega⟩
        · exact Or.inr ⟨⟨x, y⟩, z⟩
      · rintro (⟨x, y⟩ | ⟨⟨x, y⟩, z⟩)
        · exact ⟨x, Or.inl (by omega)⟩
        · exact ⟨x, Or.inr ⟨y, z⟩⟩
    · simp only [Bool.and_eq_true, decide_eq_true_eq]
      rintro ⟨⟨-, x⟩, ⟨-, y⟩, -⟩
      omega
  have e2 : ∀ a, a < n → cn (fun b => B b && decide (c b ≤ c a)) n = cn (fun b => B b && decide (c b ≤ c a - 1)) n + cn (fun b => B b && decide (c b = c a)) n := by
    intro a ha
    refine cn_split n fun i hi => ⟨?_, ?_⟩
    · simp only [Bool.and_eq_true, decide_eq_true_eq]
      constructor
      · rintro ⟨x, y⟩
        by_cases z : c i = c a
        · exact Or.inr ⟨x, z⟩
        · exact Or.inl ⟨x, by omega⟩
      · rintro (⟨x, y⟩ | ⟨x, y⟩)
        · exact ⟨x, by omega⟩
        · exact ⟨x, by omega⟩
    · simp only [Bool.and_eq_true, decide_eq_true_eq]
      rintro ⟨⟨-, x⟩, -, y⟩
      omega
  have PQ : ∀ a, a < n → P a = true → Q a = true := by
    intro a ha h
    obtain ⟨hB, h1⟩ := (hP a ha).mp h
    refine (hQ a ha).mpr ⟨hB, ?_, ?_⟩
    · rw [e1 a ha] at h1
      omega
    · rw [e1 a ha] at h1
      rw [e2 a ha]
      have := cn_lt (P := fun b => B b && decide (c b = c a)) (a := a) n ha (by simp [hB])
      omega
  have QP : ∀ a, a < n → Q a = true → ∃ a', a' < n ∧ P a' = true := by
    intro a ha h
    obtain ⟨hB, h1, h2⟩ := (hQ a ha).mp h
    rw [e2 a ha] at h2
    obtain ⟨a', h3, h4, h5⟩ := cn_find (P := fun b => B b && decide (c b = c a)) (j := M - cn (fun b => B b && decide (c b ≤ c a - 1)) n) n (by omega)
    simp only [Bool.and_eq_true, decide_eq_true_eq] at h4
    refine ⟨a', h3, (hP a' h3).mpr ⟨h4.1, ?_⟩⟩
    rw [e1 a' h3, h4.2]
    omega
  cases hq : fs Q 0 n with
  | none =>
    refine Or.inl ⟨rfl, ?_⟩
    cases hp : fs P 0 n with
    | none => rfl
    | some a' =>
      have h1 := fs_some n 0 hp
      have h2 := fs_none n 0 hq a' (by omega) h1.2.1
      rw [PQ a' (by omega) h1.2.2] at h2
      cases h2
  | some a =>
    have h1 := fs_some n 0 hq
    cases hp : fs P 0 n with
    | none =>
      obtain ⟨a', h2, h3⟩ := QP a (by omega) h1.2.2
      have h4 := fs_none n 0 hp a' (by omega) (by omega)
      rw [h3] at h4
      cases h4
    | some a' =>
      have h2 := fs_some n 0 hp
      refine Or.inr ⟨a, a', by omega, by omega, rfl, rfl, ?_⟩
      have q1 := (hQ a (by omega)).mp h1.2.2
      have q2 := (hQ a' (by omega)).mp (PQ a' (by omega) h2.2.2)
      by_cases h3 : c a = c a'
      · exact h3
      · exfalso
        by_cases h4 : c a < c a'
        · have := cn_mono (P := fun b => B b && decide (c b ≤ c a)) (Q := fun b => B b && decide (c b ≤ c a' - 1)) n fun i hi h => by
            simp only [Bool.and_eq_true, decide_eq_true_eq] at h ⊢
            exact ⟨h.1, by omega⟩
          omega
        · have := cn_mono (P := fun b => B b && decide (c b ≤ c a')) (Q := fun b => B b && decide (c b ≤ c a - 1)) n fun i hi h => by
            simp only [Bool.and_eq_true, decide_eq_true_eq] at h ⊢
            exact ⟨h.1, by omega⟩
          omega
section MD
variable {C D : St} {q : Nat} {x : Int32}
/-- an agent of the class's town is an x -/
def bB (C : St) (x : Int32) (a : Nat) : Bool := decide (bl (C 2 a) x ≠ 0)
theorem v_cna_l (hq : q ≤ 12) (h1 : C 1 0 = nI q) (y : Int32) : ∀ (m k n : Nat), k + m = q → m < n → L_Tw_cashNotAbove_5 n x y (nI (cn (fun b => bB C x b && decide ((C 3 b).toInt ≤ y.toInt)) k)) (nI k) C = some (nI (cn (fun b => bB C x b && decide ((C 3 b).toInt ≤ y.toInt)) q))
  | 0, k, n + 1, hk, hn => by
    obtain rfl : k = q := by omega
    unfold L_Tw_cashNotAbove_5
    rw [h1, if_pos (Int32.le_refl _)]
  | m + 1, k, n + 1, hk, hn => by
    unfold L_Tw_cashNotAbove_5
    rw [h1, if_neg (nI_ge (by omega) (by omega)), v_belongs (by omega), bd1_s, if_pos (inb_t (by omega) (by omega)), nI_clamp (by omega), nI_1, nI_1]
    have ih := v_cna_l hq h1 y m (k + 1) n (by omega) (by omega)
    by_cases h2 : bl (C 2 k) x = 0
    · rw [if_pos h2, bd1_s]
      have e : cn (fun b => bB C x b && decide ((C 3 b).toInt ≤ y.toInt)) (k + 1) = cn (fun b => bB C x b && decide ((C 3 b).toInt ≤ y.toInt)) k := by
        show _ + _ = _
        rw [if_neg (by simp [bB, h2])]
        rfl
      rw [e] at ih
      exact ih
    · rw [if_neg h2]
      by_cases h3 : y < C 3 k
      · rw [if_pos h3, bd1_s]
        have e : cn (fun b => bB C x b && decide ((C 3 b).toInt ≤ y.toInt)) (k + 1) = cn (fun b => bB C x b && decide ((C 3 b).toInt ≤ y.toInt)) k := by
          show _ + _ = _
          rw [if_neg (by rw [Int32.lt_iff_toInt_lt] at h3; simp [h3])]
          rfl
        rw [e] at ih
        exact ih
      · rw [if_neg h3, bd1_s]
        have e : cn (fun b => bB C x b && decide ((C 3 b).toInt ≤ y.toInt)) (k + 1) = cn (fun b => bB C x b && decide ((C 3 b).toInt ≤ y.toInt)) k + 1 := by
          show _ + _ = _
          rw [if_pos (by rw [Int32.lt_iff_toInt_lt] at h3; simp [bB, h2]; omega)]
        rw [e] at ih
        exact ih
theorem v_cna (hq : q ≤ 12) (h1 : C 1 0 = nI q) (y : Int32) : f_Tw_cashNotAbove x y C = some (nI (cn (fun b => bB C x b && decide ((C 3 b).toInt ≤ y.toInt)) q)) := by
  unfold f_Tw_cashNotAbove
  rw [show L_Tw_cashNotAbove_5 3000 x y 0 0 C = _ from v_cna_l hq h1 y q 0 3000 (by omega) (by omega), bd1_s]
def mQ (C : St) (x : Int32) (q M a : Nat) : Bool := bB C x a && (decide (cn (fun b => bB C x b && decide ((C 3 b).toInt ≤ (C 3 a).toInt - 1)) q ≤ M) && decide (M < cn (fun b => bB C x b && decide ((C 3 b).toInt ≤ (C 3 a).toInt)) q))
theorem v_mid_l (hq : q ≤ 12) (h1 : C 1 0 = nI q) (hc : ∀ a, a < 12 → 0 ≤ (C 3 a).toInt) {M : Nat} (hM : M ≤ 12) : ∀ (m k n : Nat), k + m = q → m < n → L_Tw_middleCash_14 n x (nI M) (nI k) C = some (match fs (mQ C x q M) k m with | none => .inr () | some a => .inl (C 3 a))
  | 0, k, n + 1, hk, hn => by
    obtain rfl : k = q := by omega
    unfold L_Tw_middleCash_14 fs
    rw [h1, if_pos (Int32.le_refl _)]
  | m + 1, k, n + 1, hk, hn => by
    have b1 : (C 3 k - 1).toInt = (C 3 k).toInt - 1 := by
      have h0 := hc k (by omega)
      have h2 := Int32.toInt_lt (C 3 k)
      rw [sub_toInt (by rw [show (1 : Int32).toInt = 1 from rfl]; omega) (by rw [show (1 : Int32).toInt = 1 from rfl]; omega)]
      rfl
    have ih := v_mid_l hq h1 hc hM m (k + 1) n (by omega) (by omega)
    unfold L_Tw_middleCash_14 fs
    rw [h1, if_neg (nI_ge (by omega) (by omega)), v_belongs (by omega), bd1_s, if_pos (inb_t (by omega) (by omega)), nI_clamp (by omega), nI_1, v_cna hq h1, v_cna hq h1, bd1_s, bd1_s, b1]
    have k1 := cn_le (P := fun b => bB C x b && decide ((C 3 b).toInt ≤ (C 3 k).toInt - 1)) q
    have k2 := cn_le (P := fun b => bB C x b && decide ((C 3 b).toInt ≤ (C 3 k).toInt)) q
    by_cases h2 : bl (C 2 k) x = 0
    · rw [if_pos h2, if_neg (by simp [mQ, bB, h2]), ih]
    · rw [if_neg h2]
      by_cases h3 : M < cn (fun b => bB C x b && decide ((C 3 b).toInt ≤ (C 3 k).toInt - 1)) q
      · rw [if_pos (nI_lt h3 (by omega)), if_neg (by simp only [mQ, Bool.and_eq_true, decide_eq_true_eq]; omega), ih]
      · rw [if_neg (by rw [Int32.lt_iff_toInt_lt, nI_toInt (by omega), nI_toInt (by omega)]; omega)]
        by_cases h4 : M < cn (fun b => bB C x b && decide ((C 3 b).toInt ≤ (C 3 k).toInt)) q
        · rw [if_neg (nI_ge (by omega) (by omega)), if_pos (by simp only [mQ, Bool.and_eq_true, decide_eq_true_eq]; exact ⟨by simp [bB, h2], by omega, by omega⟩)]
        · rw [if_pos (nI_le (by omega) (by omega)), if_neg (by simp only [mQ, Bool.and_eq_true, decide_eq_true_eq]; omega), ih]
theorem m_n_l (hq : q ≤ 12) (h1 : D 89 2163 = nI q) (hk' : ∀ a, a < 12 → C 2 a = D 89 (5 * a)) : ∀ (m k n : Nat), k + m = q → m < n → L_Md_median_16 n x (nI (cn (bB C x) k)) (nI k) D = some (nI (cn (bB C x) q))
  | 0, k, n + 1, hk, hn => by
    obtain rfl : k = q := by omega
    unfold L_Md_median_16
    rw [h1, if_pos (Int32.le_refl _)]
  | m + 1, k, n + 1, hk, hn => by
    unfold L_Md_median_16
    rw [h1, if_neg (nI_ge (by omega) (by omega)), m_isKind (by omega), bd1_s, ← hk' k (by omega), nI_1]
    have ih := m_n_l hq h1 hk' m (k + 1) n (by omega) (by omega)
    have e : nI (cn (bB C x) k) + (if bl (C 2 k) x = 0 then 0 else 1 : Int32) = nI (cn (bB C x) (k + 1)) := by
      rw [cn_succ]
      by_cases h2 : bl (C 2 k) x = 0
      · rw [if_pos h2, if_neg (by simp [bB, h2])]
        exact Int32.add_zero _
      · rw [if_neg h2, if_pos (by simp [bB, h2]), nI_1]
    rw [e]
    exact ih
def aH (C : St) (x : Int32) (a b : Nat) : Bool := bB C x b && (decide ((C 3 b).toInt < (C 3 a).toInt) || (decide ((C 3 b).toInt = (C 3 a).toInt) && decide (b < a)))
theorem m_ah_l (hq : q ≤ 12) (h1 : D 89 2163 = nI q) (hk' : ∀ a, a < 12 → C 2 a = D 89 (5 * a) ∧ C 3 a = D 89 (5 * a + 1)) {a : Nat} (ha : a < q) (y : Int32) : ∀ (m k n : Nat), k + m = q → m < n → L_Md_median_71 n x y (nI a) (nI (cn (aH C x a) k)) (nI k) D = some (nI (cn (aH C x a) q))
  | 0, k, n + 1, hk, hn => by
    obtain rfl : k = q := by omega
    unfold L_Md_median_71
    rw [h1, if_pos (Int32.le_refl _)]
  | m + 1, k, n + 1, hk, hn => by
    unfold L_Md_median_71
    rw [h1, if_neg (nI_ge (by omega) (by omega)), m_isKind (by omega), m_cash (by omega), m_cash (by omega)]
    simp only [bd1_s]
    rw [← (hk' k (by omega)).1, ← (hk' k (by omega)).2, ← (hk' a (by omega)).2, nI_1]
    have ih := m_ah_l hq h1 hk' ha y m (k + 1) n (by omega) (by omega)
    have e : ∀ w : Int32, (w = if (aH C x a k || !bB C x k) = true then 1 else 0) ∨ bl (C 2 k) x = 0 → nI (cn (aH C x a) k) + (if bl (C 2 k) x = 0 then 0 else (if w = 0 then 0 else 1 : Int32) : Int32) = nI (cn (aH C x a) (k + 1)) := by
      intro w hw
      rw [cn_succ]
      by_cases h2 : bl (C 2 k) x = 0
      · rw [if_pos h2, if_neg (by simp [aH, bB, h2])]
        exact Int32.add_zero _
      · rcases hw with hw | hw
        · rw [if_neg h2, hw]
          have hb : bB C x k = true := by simp [bB, h2]
          rw [hb]
          simp only [Bool.not_true, Bool.or_false]
          by_cases h3 : aH C x a k = true
          · rw [if_pos h3, if_pos h3, if_neg i10, nI_1]
          · rw [if_neg h3, if_neg h3, if_pos i01]
            exact Int32.add_zero _
        · exact absurd hw h2
    have fin : ∀ w : Int32, ((w = if (aH C x a k || !bB C x k) = true then 1 else 0) ∨ bl (C 2 k) x = 0) → L_Md_median_71 n x y (nI a) (nI (cn (aH C x a) k) + (if bl (C 2 k) x = 0 then 0 else (if w = 0 then 0 else 1 : Int32) : Int32)) (nI (k + 1)) D = some (nI (cn (aH C x a) q)) := by
      intro w hw
      rw [e w hw]
      exact ih
    by_cases hz : bl (C 2 k) x = 0
    · by_cases c1 : C 3 k < C 3 a
      · rw [if_pos c1, bd1_s]; exact fin _ (Or.inr hz)
      · rw [if_neg c1]
        by_cases c2 : C 3 k = C 3 a
        · rw [if_pos c2]
          by_cases c3 : nI a ≤ nI k
          · rw [if_pos c3, bd1_s]; exact fin _ (Or.inr hz)
          · rw [if_neg c3, bd1_s]; exact fin _ (Or.inr hz)
        · rw [if_neg c2, bd1_s]; exact fin _ (Or.inr hz)
    · have hb : bB C x k = true := by simp [bB, hz]
      by_cases c1 : C 3 k < C 3 a
      · rw [if_pos c1, bd1_s]
        refine fin _ (Or.inl ?_)
        rw [Int32.lt_iff_toInt_lt] at c1
        rw [if_pos (by simp [aH, hb, c1])]
      · rw [if_neg c1]
        rw [Int32.lt_iff_toInt_lt] at c1
        by_cases c2 : C 3 k = C 3 a
        · rw [if_pos c2]
          by_cases c3 : nI a ≤ nI k
          · rw [if_pos c3, bd1_s]
            refine fin _ (Or.inl ?_)
            rw [Int32.le_iff_toInt_le, nI_toInt (by omega), nI_toInt (by omega)] at c3
            rw [if_neg (by simp [aH, hb, c2]; omega)]
          · rw [if_neg c3, bd1_s]
            refine fin _ (Or.inl ?_)
            rw [Int32.le_iff_toInt_le, nI_toInt (by omega), nI_toInt (by omega)] at c3
            rw [if_pos (by simp [aH, hb, c2]; omega)]
        · rw [if_neg c2, bd1_s]
          refine fin _ (Or.inl ?_)
          have c4 : (C 3 k).toInt ≠ (C 3 a).toInt := fun q => c2 (Int32.toInt_inj.mp q)
          rw [if_neg (by simp [aH, hb, c4]; omega)]
def mP (C : St) (x : Int32) (q M a : Nat) : Bool := bB C x a && decide (cn (aH C x a) q = M)
theorem m_mid_l (hq : q ≤ 12) (h1 : D 89 2163 = nI q) (hk' : ∀ a, a < 12 → C 2 a = D 89 (5 * a) ∧ C 3 a = D 89 (5 * a + 1)) {M : Nat} (hM : M ≤ 12) {y : Int32} (hy : (y - 1) / 2 = nI M) : ∀ (m k n : Nat), k + m = q → m < n → L_Md_median_53 n x y (nI k) D = some (match fs (mP C x q M) k m with | none => .inr () | some a => .inl (C 3 a))
  | 0, k, n + 1, hk, hn => by
    obtain rfl : k = q := by omega
    unfold L_Md_median_53 fs
    rw [h1, if_pos (Int32.le_refl _)]
  | m + 1, k, n + 1, hk, hn => by
    have ih := m_mid_l hq h1 hk' hM hy m (k + 1) n (by omega) (by omega)
    have k1 := cn_le (P := aH C x k) q
    unfold L_Md_median_53 fs
    rw [h1, if_neg (nI_ge (by omega) (by omega)), show L_Md_median_71 3000 x y (nI k) 0 0 D = _ from m_ah_l hq h1 hk' (by omega) y q 0 3000 (by omega) (by omega), bd1_s, m_isKind (by omega), bd1_s, ← (hk' k (by omega)).1, hy, m_cash (by omega), bd1_s, ← (hk' k (by omega)).2, nI_1]
    by_cases h2 : bl (C 2 k) x = 0
    · rw [if_pos h2, if_neg (by simp [mP, bB, h2]), ih]
    · rw [if_neg h2]
      by_cases h3 : cn (aH C x k) q = M
      · rw [if_pos (congrArg nI h3), if_pos (by simp [mP, bB, h2, h3])]
      · rw [if_neg (by rw [nI_eq (by omega) (by omega)]; exact h3), if_neg (by simp [mP, h3]), ih]
end MD
theorem sim_median_ok {t : Nat} {C D : St} (h : Rel t C D) : sim_median Rel t C D := by
  intro a1
  unfold f_Mk_median f_Md_median
  rcases kind_cases a1 with ⟨k, hk, rfl, f1, f2⟩ | ⟨f1, f2⟩
  rotate_left
  · rw [f1, f2]; exact ⟨_, rfl, rfl, h.mono⟩
  obtain ⟨q, hq, h1, h1'⟩ := rel_n h
  obtain ⟨hR, ⟨n, d, hW⟩, -⟩ := h.mono
  have hc : ∀ a, a < 12 → 0 ≤ (C 3 a).toInt := by
    have := hW.2.2.2.1.1
    simp only [Nat.zero_add] at this
    exact this
  have hk' : ∀ a, a < 12 → C 2 a = D 89 (5 * a) ∧ C 3 a = D 89 (5 * a + 1) := fun a ha => ⟨(rt_a hR ha).1, (rt_a hR ha).2.1⟩
  have k0 := cn_le (P := bB C (nI k)) q
  have hs : ∀ a, a < 12 → (C 3 a).toInt ≤ 1200000 := by
    intro a ha
    have s1 := hW.2.2.2.1.2.2
    have s2 := hW.1.1
    simp only [Nat.zero_add] at s1
    have s3 := sm_le (f := fun a => (C 3 a).toInt) (n := 12) hc ha
    have s4 : (C 3 a).toInt ≤ sm (fun a => (C 3 a).toInt) 12 := s3
    omega
  have eN : cn (fun b => bB C (nI k) b && decide ((C 3 b).toInt ≤ (1200000 : Int32).toInt)) q = cn (bB C (nI k)) q := cn_congr q fun i hi => by
    have := hs i (by omega)
    have e : (1200000 : Int32).toInt = 1200000 := rfl
    rw [e, decide_eq_true (by omega), Bool.and_true]
  have hy : ∃ M : Nat, M ≤ 12 ∧ (nI (cn (bB C (nI k)) q) - 1) / 2 = nI M := by
    generalize cn (bB C (nI k)) q = N at k0
    have : N ≤ 12 := by omega
    rcases (show N = 0 ∨ N = 1 ∨ N = 2 ∨ N = 3 ∨ N = 4 ∨ N = 5 ∨ N = 6 ∨ N = 7 ∨ N = 8 ∨ N = 9 ∨ N = 10 ∨ N = 11 ∨ N = 12 by omega) with rfl | rfl | rfl | rfl | rfl | rfl | rfl | rfl | rfl | rfl | rfl | rfl | rfl
    · exact ⟨0, by omega, by decide⟩
    · exact ⟨0, by omega, by decide⟩
    · exact ⟨0, by omega, by decide⟩
    · exact ⟨1, by omega, by decide⟩
    · exact ⟨1, by omega, by decide⟩
    · exact ⟨2, by omega, by decide⟩
    · exact ⟨2, by omega, by decide⟩
    · exact ⟨3, by omega, by decide⟩
    · exact ⟨3, by omega, by decide⟩
    · exact ⟨4, by omega, by decide⟩
    · exact ⟨4, by omega, by decide⟩
    · exact ⟨5, by omega, by decide⟩
    · exact ⟨5, by omega, by decide⟩
  obtain ⟨M, hM, hy⟩ := hy
  unfold f_Tw_middleCash
  rw [f1, f2, bd1_s, bd1_s, if_neg i10, if_neg i10, v_cna hq h1, bd1_s, eN, hy, show L_Tw_middleCash_14 3000 (nI k) (nI M) 0 C = _ from v_mid_l hq h1 hc hM q 0 3000 (by omega) (by omega), show L_Md_median_16 3000 (nI k) 0 0 D = _ from m_n_l (C := C) hq h1' (fun a ha => (hk' a ha).1) q 0 3000 (by omega) (by omega), bd1_s, show L_Md_median_53 3000 (nI k) (nI (cn (bB C (nI k)) q)) 0 D = _ from m_mid_l hq h1' hk' hM hy q 0 3000 (by omega) (by omega)]
  rcases middle (B := bB C (nI k)) (c := fun a => (C 3 a).toInt) (n := q) (M := M) (mP C (nI k) q M) (mQ C (nI k) q M) (fun a ha => by simp only [mQ, Bool.and_eq_true, decide_eq_true_eq]) (fun a ha => by simp only [mP, Bool.and_eq_true, decide_eq_true_eq]; rfl) with ⟨e1, e2⟩ | ⟨a, a', g1, g2, e1, e2, e3⟩
  · rw [e1, e2]
    exact ⟨_, rfl, rfl, h.mono⟩
  · rw [e1, e2]
    have e4 : C 3 a = C 3 a' := Int32.toInt_inj.mp e3
    refine ⟨C 3 a, rfl, ?_, h.mono⟩
    rw [e4]
    rfl
