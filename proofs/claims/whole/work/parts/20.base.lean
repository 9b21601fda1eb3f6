/-! PURE: numbers, sums, the relation -/
theorem i_toInt_lit (n : Nat) (h : n < 2 ^ 31) : (nI n).toInt = (n : Int) := nI_toInt h
theorem inb_t {n N : Nat} (h : n < N) (hN : N < 2 ^ 31) : inb (nI n) N := ⟨by rw [nI_toInt (by omega)]; omega, by rw [nI_toInt (by omega)]; omega⟩
theorem wr_same (C : St) (b k : Nat) (x : Int32) : mj_wr C b k x b k = x := by simp [mj_wr]
theorem wr_cell (C : St) {b k : Nat} (x : Int32) {i j : Nat} (h : i ≠ b) : mj_wr C b k x i j = C i j := by simp [mj_wr, h]
theorem wr_idx (C : St) {b k : Nat} (x : Int32) {j : Nat} (h : j ≠ k) : mj_wr C b k x b j = C b j := by simp [mj_wr, h]
theorem wr_row (C : St) {b k : Nat} (x : Int32) {i : Nat} (h : i ≠ b) : mj_wr C b k x i = C i := by funext j; exact wr_cell C x h
theorem bd1_s {α β : Type} (a : α) (f : α → Option β) : bd1 (some a) f = f a := rfl
theorem bd2_s {α₁ α₂ β : Type} (a : α₁) (b : α₂) (f : α₁ → α₂ → Option β) : bd2 (some (a, b)) f = f a b := rfl
theorem i10 : ¬ ((1 : Int32) = 0) := by decide
theorem i01 : ((0 : Int32) = 0) := rfl
/-- a number between two bounds, by the two range tests -/
theorem in_cases (x lo hi : Int32) (l h : Nat) (hl : lo = nI l) (hh : hi = nI h) (hlh : l ≤ h) (hb : h < 2 ^ 31) : (∃ k : Nat, l ≤ k ∧ k ≤ h ∧ x = nI k ∧ f_Mk_isWithin x lo hi = some 1 ∧ f_Md_isIn x lo hi = some 1) ∨ (f_Mk_isWithin x lo hi = some 0 ∧ f_Md_isIn x lo hi = some 0) := by
  subst hl; subst hh
  by_cases h1 : x < nI l
  · refine Or.inr ⟨?_, ?_⟩
    · unfold f_Mk_isWithin; rw [if_pos h1]
    · unfold f_Md_isIn; rw [if_pos h1]
  · by_cases h2 : nI h < x
    · refine Or.inr ⟨?_, ?_⟩
      · unfold f_Mk_isWithin; rw [if_neg h1, if_pos h2]
      · unfold f_Md_isIn; rw [if_neg h1, if_pos h2]
    · refine Or.inl ?_
      have e1 : f_Mk_isWithin x (nI l) (nI h) = some 1 := by unfold f_Mk_isWithin; rw [if_neg h1, if_neg h2]
      have e2 : f_Md_isIn x (nI l) (nI h) = some 1 := by unfold f_Md_isIn; rw [if_neg h1, if_neg h2]
      rw [Int32.lt_iff_toInt_lt, nI_toInt (by omega)] at h1
      rw [Int32.lt_iff_toInt_lt, nI_toInt hb] at h2
      obtain ⟨k, hk, rfl⟩ := nI_of (x := x) (by rw [Int32.lt_iff_toInt_lt, Int32.toInt_zero]; omega)
      rw [nI_toInt hk] at h1 h2
      exact ⟨k, by omega, by omega, rfl, e1, e2⟩
theorem inm_cases (x hi : Int32) (h : Nat) (hh : hi = nI h) (hb : h < 2 ^ 31) : (x = -1 ∧ f_Mk_isWithin x (-1) hi = some 1 ∧ f_Md_isIn x (-1) hi = some 1) ∨ (∃ k : Nat, k ≤ h ∧ x = nI k ∧ f_Mk_isWithin x (-1) hi = some 1 ∧ f_Md_isIn x (-1) hi = some 1) ∨ (f_Mk_isWithin x (-1) hi = some 0 ∧ f_Md_isIn x (-1) hi = some 0) := by
  subst hh
  have em : ((-1 : Int32)).toInt = -1 := by decide
  by_cases h1 : x < -1
  · refine Or.inr (Or.inr ⟨?_, ?_⟩)
    · unfold f_Mk_isWithin; rw [if_pos h1]
    · unfold f_Md_isIn; rw [if_pos h1]
  · by_cases h2 : nI h < x
    · refine Or.inr (Or.inr ⟨?_, ?_⟩)
      · unfold f_Mk_isWithin; rw [if_neg h1, if_pos h2]
      · unfold f_Md_isIn; rw [if_neg h1, if_pos h2]
    · have e1 : f_Mk_isWithin x (-1) (nI h) = some 1 := by unfold f_Mk_isWithin; rw [if_neg h1, if_neg h2]
      have e2 : f_Md_isIn x (-1) (nI h) = some 1 := by unfold f_Md_isIn; rw [if_neg h1, if_neg h2]
      rw [Int32.lt_iff_toInt_lt, em] at h1
      rw [Int32.lt_iff_toInt_lt, nI_toInt hb] at h2
      by_cases h3 : x = -1
      · exact Or.inl ⟨h3, e1, e2⟩
      · have h4 : x.toInt ≠ -1 := fun e => h3 (Int32.toInt_inj.mp (e.trans em.symm))
        obtain ⟨k, hk, rfl⟩ := nI_of (x := x) (by rw [Int32.lt_iff_toInt_lt, Int32.toInt_zero]; omega)
        rw [nI_toInt hk] at h1 h2
        exact Or.inr (Or.inl ⟨k, by omega, rfl, e1, e2⟩)
theorem good_cases (x : Int32) : (∃ g : Nat, g < 5 ∧ x = nI g ∧ f_Mk_isGood x = some 1 ∧ f_Md_isGood x = some 1) ∨ (f_Mk_isGood x = some 0 ∧ f_Md_isGood x = some 0) := by
  rcases in_cases x 0 4 0 4 rfl rfl (by omega) (by omega) with ⟨k, h1, h2, rfl, e1, e2⟩ | ⟨e1, e2⟩
  · refine Or.inl ⟨k, by omega, rfl, ?_, ?_⟩
    · unfold f_Mk_isGood; rw [e1, bd1_s, if_pos (Or.inr rfl)]
    · unfold f_Md_isGood; rw [e2, bd1_s, if_pos (Or.inr rfl)]
  · refine Or.inr ⟨?_, ?_⟩
    · unfold f_Mk_isGood; rw [e1, bd1_s, if_pos (Or.inl rfl)]
    · unfold f_Md_isGood; rw [e2, bd1_s, if_pos (Or.inl rfl)]
theorem nI_m1 {n : Nat} (h : 0 < n) : nI n - 1 = nI (n - 1) := by
  have h1 : (1 : Int32) = nI 1 := rfl
  rw [h1, pk_sub (by omega)]
theorem agent_cases {C D : St} {n : Nat} (hn : n ≤ 12) (hC : C 1 0 = nI n) (hD : D 89 2163 = nI n) (x : Int32) : (∃ a : Nat, a < n ∧ x = nI a ∧ f_Tw_isThere x C = some 1 ∧ f_Md_isAgent x D = some 1) ∨ (f_Tw_isThere x C = some 0 ∧ f_Md_isAgent x D = some 0) := by
  by_cases hz : n = 0
  · subst hz
    have e0 : (nI 0 - 1) = (-1 : Int32) := by decide
    have k1 : f_Mk_isWithin x 0 (-1) = some 0 ∧ f_Md_isIn x 0 (-1) = some 0 := by
      by_cases h1 : x < 0
      · exact ⟨by unfold f_Mk_isWithin; rw [if_pos h1], by unfold f_Md_isIn; rw [if_pos h1]⟩
      · have h2 : (-1 : Int32) < x := by
          rw [Int32.lt_iff_toInt_lt, Int32.toInt_zero] at h1
          rw [Int32.lt_iff_toInt_lt, show ((-1 : Int32)).toInt = -1 by decide]
          omega
        exact ⟨by unfold f_Mk_isWithin; rw [if_neg h1, if_pos h2], by unfold f_Md_isIn; rw [if_neg h1, if_pos h2]⟩
    refine Or.inr ⟨?_, ?_⟩
    · unfold f_Tw_isThere; rw [hC, e0, k1.1, bd1_s, if_pos (Or.inl rfl)]
    · unfold f_Md_isAgent; rw [hD, e0, k1.2, bd1_s, if_pos (Or.inl rfl)]
  · rcases in_cases x 0 (nI (n - 1)) 0 (n - 1) rfl rfl (by omega) (by omega) with ⟨k, h1, h2, rfl, e1, e2⟩ | ⟨e1, e2⟩
    · refine Or.inl ⟨k, by omega, rfl, ?_, ?_⟩
      · unfold f_Tw_isThere; rw [hC, nI_m1 (by omega), e1, bd1_s, if_pos (Or.inr rfl)]
      · unfold f_Md_isAgent; rw [hD, nI_m1 (by omega), e2, bd1_s, if_pos (Or.inr rfl)]
    · refine Or.inr ⟨?_, ?_⟩
      · unfold f_Tw_isThere; rw [hC, nI_m1 (by omega), e1, bd1_s, if_pos (Or.inl rfl)]
      · unfold f_Md_isAgent; rw [hD, nI_m1 (by omega), e2, bd1_s, if_pos (Or.inl rfl)]
/-- sums -/
def sm (f : Nat → Int) : Nat → Int
  | 0 => 0
  | n + 1 => sm f n + f n
theorem sm_congr {f g : Nat → Int} : ∀ (n : Nat), (∀ i, i < n → f i = g i) → sm f n = sm g n
  | 0, _ => rfl
  | n + 1, h => by
    show sm f n + f n = sm g n + g n
    rw [sm_congr n (fun i hi => h i (by omega)), h n (by omega)]
theorem sm_nonneg {f : Nat → Int} : ∀ (n : Nat), (∀ i, i < n → 0 ≤ f i) → 0 ≤ sm f n
  | 0, _ => Int.le_refl 0
  | n + 1, h => by
    show 0 ≤ sm f n + f n
    have h1 := sm_nonneg n (fun i hi => h i (by omega))
    have h2 := h n (by omega)
    omega
theorem sm_le {f : Nat → Int} {n i : Nat} (h : ∀ i, i < n → 0 ≤ f i) (hi : i < n) : f i ≤ sm f n := by
  induction n with
  | zero => omega
  | succ n ih =>
    show f i ≤ sm f n + f n
    by_cases he : i = n
    · subst he
      have := sm_nonneg i (fun j hj => h j (by omega))
      omega
    · have h1 := ih (fun j hj => h j (by omega)) (by omega)
      have h2 := h n (by omega)
      omega
theorem sm_upd {f : Nat → Int} {k : Nat} {v : Int} : ∀ (n : Nat), sm (fun i => if i = k then v else f i) n = sm f n + (if k < n then v - f k else 0)
  | 0 => by simp [sm]
  | n + 1 => by
    show sm (fun i => if i = k then v else f i) n + (if n = k then v else f n) = sm f n + f n + _
    rw [sm_upd n]
    by_cases h : n = k
    · subst h
      rw [if_neg (by omega), if_pos rfl, if_pos (by omega)]
      omega
    · rw [if_neg h]
      by_cases h2 : k < n
      · rw [if_pos h2, if_pos (by omega)]; omega
      · rw [if_neg h2, if_neg (by omega)]; omega
theorem sm_add {f : Nat → Int} (m : Nat) : ∀ (n : Nat), sm f (m + n) = sm f m + sm (fun i => f (m + i)) n
  | 0 => by simp [sm]
  | n + 1 => by
    show sm f (m + n) + f (m + n) = sm f m + (sm (fun i => f (m + i)) n + f (m + n))
    rw [sm_add m n]
    omega
/-- a range -/
def rg (x : Int32) (lo hi : Int) : Prop := lo ≤ x.toInt ∧ x.toInt ≤ hi
theorem rg_nI {x : Int32} {hi : Int} (h : rg x 0 hi) : ∃ k : Nat, (k : Int) ≤ hi ∧ k < 2 ^ 31 ∧ x = nI k := by
  obtain ⟨k, hk, rfl⟩ := nI_of (x := x) (by rw [Int32.lt_iff_toInt_lt, Int32.toInt_zero]; have := h.1; omega)
  refine ⟨k, ?_, hk, rfl⟩
  have := h.2
  rw [nI_toInt hk] at this
  exact this
theorem rg_of {k : Nat} {lo hi : Int} (h1 : lo ≤ k) (h2 : (k : Int) ≤ hi) (hk : k < 2 ^ 31) : rg (nI k) lo hi := ⟨by rw [nI_toInt hk]; exact h1, by rw [nI_toInt hk]; exact h2⟩
/-- a RULE's row, by agents n, at its place i of the table -/
def okRule (C : Nat → Int32) (n i : Nat) : Prop :=
  rg (C i) 0 5 ∧ (rg (C i) 0 3 → rg (C (i + 1)) 0 4) ∧ (rg (C i) 4 5 → rg (C (i + 1)) 0 (n - 1)) ∧ rg (C (i + 2)) 1 999 ∧ (rg (C i) 2 3 → rg (C (i + 3)) 1 999) ∧ (C i = 5 → rg (C (i + 3)) 1 30) ∧ rg (C (i + 4)) 1 99 ∧
  (C (i + 5) = -1000000005 ∨ (rg (C (i + 5)) 0 7 ∧ ((C (i + 5) = 1 ∨ C (i + 5) = 3 ∨ C (i + 5) = 5 ∨ C (i + 5) = 7) → rg (C (i + 6)) 0 4) ∧ rg (C (i + 7)) 0 9999))
/-- a town of the class, at z: what holds of its numbers, with n AGENTS, at DAY d, behind t calls -/
def WTn (C : St) (z t n d : Nat) : Prop :=
  (n ≤ 12 ∧ C (z + 1) 0 = nI n ∧ d ≤ 700 ∧ C (z + 1) 1 = nI d) ∧
  (rg (C (z + 1) 2) 0 2147483647 ∧ rg (C (z + 1) 3) 0 1000 ∧ rg (C (z + 1) 4) 0 100) ∧
  (∀ a, a < 12 → rg (C (z + 2) a) 0 5) ∧
  ((∀ a, a < 12 → 0 ≤ (C (z + 3) a).toInt) ∧ (∀ a, n ≤ a → a < 12 → C (z + 3) a = 0) ∧ sm (fun a => (C (z + 3) a).toInt) 12 ≤ 100000 * n) ∧
  (∀ a, a < 12 → rg (C (z + 4) a) 0 1 ∧ (n ≤ a → C (z + 4) a = 0)) ∧
  (∀ a, a < 12 → rg (C (z + 13) a) 0 6 ∧ (n ≤ a → C (z + 13) a = 0)) ∧
  ((∀ i, i < 600 → 0 ≤ (C (z + 8) i).toInt) ∧ (∀ i, 50 * n ≤ i → i < 600 → C (z + 8) i = 0) ∧ sm (fun i => (C (z + 8) i).toInt) 600 ≤ 999 * t + 71928 * d) ∧
  (∀ p, p < 60 → (C (z + 9) p).toInt = sm (fun k => (C (z + 8) (10 * p + k)).toInt) 10) ∧
  (∀ g, g < 5 → rg (C (z + 11) (11 * g)) 0 9 ∧ rg (C (z + 11) (11 * g + 1)) 0 2 ∧ rg (C (z + 11) (11 * g + 2)) 0 999 ∧ rg (C (z + 11) (11 * g + 7)) 0 4 ∧ rg (C (z + 11) (11 * g + 8)) (-1) 9 ∧ rg (C (z + 11) (11 * g + 9)) 0 4 ∧ rg (C (z + 11) (11 * g + 10)) 0 9) ∧
  (∀ a k : Nat, a < n → k < 6 → (k : Int) < (C (z + 13) a).toInt → okRule (C (z + 14)) n (9 * (6 * a + k)) ∧ (4 ≤ (C (z + 14) (9 * (6 * a + k))).toInt → C (z + 14) (9 * (6 * a + k) + 1) ≠ nI a)) ∧
  (∃ q : Nat, q ≤ 20 ∧ C (z + 15) 0 = nI q ∧ ∀ i : Nat, i < q → rg (C (z + 16) (4 * i)) 0 (n - 1) ∧ rg (C (z + 16) (4 * i + 1)) 0 (n - 1) ∧ rg (C (z + 16) (4 * i + 2)) 1 1998 ∧ C (z + 16) (4 * i) ≠ C (z + 16) (4 * i + 1))
def WT (C : St) (z t : Nat) : Prop := ∃ n d : Nat, WTn C z t n d
/-- a town of the class, at z, and one of the reference, in the array A from u on: the same numbers -/
def RT (C D : St) (z A u : Nat) : Prop :=
  (C (z + 1) 0 = D A (u + 2163) ∧ C (z + 1) 1 = D A (u + 2164) ∧ C (z + 1) 2 = D A (u + 2165) ∧ C (z + 1) 3 = D A (u + 2166) ∧ C (z + 1) 4 = D A (u + 2167) ∧ C (z + 15) 0 = D A (u + 2168)) ∧
  (∀ a, a < 12 → C (z + 2) a = D A (u + 5 * a) ∧ C (z + 3) a = D A (u + 5 * a + 1) ∧ C (z + 4) a = D A (u + 5 * a + 2) ∧ C (z + 5) a = D A (u + 5 * a + 3) ∧ C (z + 13) a = D A (u + 5 * a + 4)) ∧
  (∀ i, i < 600 → C (z + 8) i = D A (u + 60 + i)) ∧
  (∀ i, i < 648 → C (z + 14) i = D A (u + 660 + i)) ∧
  (∀ i, i < 55 → C (z + 11) i = D A (u + 1308 + i)) ∧
  (∀ i : Nat, i < 80 → (i : Int) < 4 * (C (z + 15) 0).toInt → C (z + 16) i = D A (u + 1363 + i)) ∧
  (∀ i, i < 720 → C (z + 6) i = D A (u + 1443 + i))
/-- the tape -/
def TP (C D : St) : Prop := ∃ n : Nat, n ≤ 60 ∧ C 19 0 = nI n ∧ D 88 4 = nI n ∧ (∀ i, i < n → C 20 i = D 92 i ∧ rg (C 20 i) 0 255)
def WD (C D : St) (t : Nat) : Prop := ∀ k, k < 3 → C 18 k = D 91 k ∧ (C 18 k = 0 ∨ C 18 k = 1) ∧ (C 18 k = 1 → RT C D (39 + 16 * k) 90 (2200 * k) ∧ WT C (39 + 16 * k) t)
/-- THE RELATION between the two halves, between two calls -/
def Rel (t : Nat) (C D : St) : Prop := RT C D 0 89 0 ∧ WT C 0 t ∧ WD C D t ∧ TP C D ∧ D 88 11 = 0
theorem WTn.mono {C : St} {z t n d : Nat} (h : WTn C z t n d) : WTn C z (t + 1) n d := by
  obtain ⟨h1, h2, h3, h4, h5, h6, ⟨h7, h7', h7''⟩, h8, h9, h10, h11⟩ := h
  exact ⟨h1, h2, h3, h4, h5, h6, ⟨h7, h7', by omega⟩, h8, h9, h10, h11⟩
theorem WT.mono {C : St} {z t : Nat} (h : WT C z t) : WT C z (t + 1) := by
  obtain ⟨n, d, h⟩ := h
  exact ⟨n, d, h.mono⟩
theorem WD.mono {C D : St} {t : Nat} (h : WD C D t) : WD C D (t + 1) := fun k hk => ⟨(h k hk).1, (h k hk).2.1, fun e => ⟨((h k hk).2.2 e).1, ((h k hk).2.2 e).2.mono⟩⟩
theorem Rel.mono {C D : St} {t : Nat} (h : Rel t C D) : Rel (t + 1) C D := ⟨h.1, h.2.1.mono, h.2.2.1.mono, h.2.2.2.1, h.2.2.2.2⟩
/-- frames -/
theorem RT.frame {C D C' D' : St} {z A u : Nat} (h : RT C D z A u) (hC : ∀ j, 1 ≤ j → j ≤ 16 → C' (z + j) = C (z + j)) (hD : D' A = D A) : RT C' D' z A u := by
  unfold RT
  rw [hD, hC 1 (by omega) (by omega), hC 2 (by omega) (by omega), hC 3 (by omega) (by omega), hC 4 (by omega) (by omega), hC 5 (by omega) (by omega), hC 6 (by omega) (by omega), hC 8 (by omega) (by omega), hC 11 (by omega) (by omega), hC 13 (by omega) (by omega), hC 14 (by omega) (by omega), hC 15 (by omega) (by omega), hC 16 (by omega) (by omega)]
  exact h
theorem WTn.frame {C C' : St} {z t n d : Nat} (h : WTn C z t n d) (hC : ∀ j, 1 ≤ j → j ≤ 16 → C' (z + j) = C (z + j)) : WTn C' z t n d := by
  unfold WTn
  rw [hC 1 (by omega) (by omega), hC 2 (by omega) (by omega), hC 3 (by omega) (by omega), hC 4 (by omega) (by omega), hC 8 (by omega) (by omega), hC 9 (by omega) (by omega), hC 11 (by omega) (by omega), hC 13 (by omega) (by omega), hC 14 (by omega) (by omega), hC 15 (by omega) (by omega), hC 16 (by omega) (by omega)]
  exact h
theorem WD.frame {C D C' D' : St} {t : Nat} (h : WD C D t) (hC : ∀ j, 40 ≤ j → j < 88 → C' j = C j) (h18 : C' 18 = C 18) (hD : D' 90 = D 90) (hD1 : D' 91 = D 91) : WD C' D' t := by
  intro k hk
  rw [h18, hD1]
  refine ⟨(h k hk).1, (h k hk).2.1, fun e => ?_⟩
  obtain ⟨a1, n, d, a2⟩ := (h k hk).2.2 e
  exact ⟨a1.frame (fun j h1 h2 => hC _ (by omega) (by omega)) hD, n, d, a2.frame (fun j h1 h2 => hC _ (by omega) (by omega))⟩
theorem TP.frame {C D C' D' : St} (h : TP C D) (h1 : C' 19 = C 19) (h2 : C' 20 = C 20) (h3 : D' 88 = D 88) (h4 : D' 92 = D 92) : TP C' D' := by
  unfold TP
  rw [h1, h2, h3, h4]
  exact h
