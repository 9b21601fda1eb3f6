/-! PURE: the rule reader: words and numbers -/
/-- the first place from p on, within m, that is blank (w = 1) or is not (w = 0) -/
def nx (T : Nat → Int32) (w : Int32) : Nat → Nat → Nat
  | 0, p => p
  | m + 1, p => if (if T p = 32 then 1 else 0 : Int32) = w then p else nx T w m (p + 1)
theorem nx_ge {T : Nat → Int32} {w : Int32} : ∀ (m p : Nat), p ≤ nx T w m p ∧ nx T w m p ≤ p + m
  | 0, p => ⟨Nat.le_refl _, Nat.le_refl _⟩
  | m + 1, p => by
    unfold nx
    by_cases h : (if T p = 32 then 1 else 0 : Int32) = w
    · rw [if_pos h]; omega
    · rw [if_neg h]
      have := nx_ge (T := T) (w := w) m (p + 1)
      omega
theorem nx_lt {T : Nat → Int32} {w : Int32} : ∀ (m p : Nat), nx T w m p < p + m → (if T (nx T w m p) = 32 then 1 else 0 : Int32) = w
  | 0, p, h => by
    have := (nx_ge (T := T) (w := w) 0 p).1
    omega
  | m + 1, p, h => by
    unfold nx at h ⊢
    by_cases hc : (if T p = 32 then 1 else 0 : Int32) = w
    · rw [if_pos hc]; exact hc
    · rw [if_neg hc] at h ⊢
      exact nx_lt m (p + 1) (by omega)
/-- the word behind p: where it starts, where it ends -/
def wS (T : Nat → Int32) (L p : Nat) : Nat := nx T 0 (L - p) p
def wE (T : Nat → Int32) (L p : Nat) : Nat := nx T 1 (L - p) p
theorem wS_le {T : Nat → Int32} {L p : Nat} (h : p ≤ L) : p ≤ wS T L p ∧ wS T L p ≤ L := by
  have := nx_ge (T := T) (w := 0) (L - p) p
  unfold wS
  omega
theorem wE_le {T : Nat → Int32} {L p : Nat} (h : p ≤ L) : p ≤ wE T L p ∧ wE T L p ≤ L := by
  have := nx_ge (T := T) (w := 1) (L - p) p
  unfold wE
  omega
theorem wE_lt {T : Nat → Int32} {L p : Nat} (h : p ≤ L) (hs : wS T L p < L) : wS T L p < wE T L (wS T L p) := by
  have h1 := nx_lt (T := T) (w := 0) (L - p) p (show wS T L p < _ by omega)
  have h1' : (if T (wS T L p) = 32 then 1 else 0 : Int32) = 0 := h1
  have h2 := wE_le (T := T) (L := L) (p := wS T L p) (by omega)
  by_cases h3 : wE T L (wS T L p) = wS T L p
  · have h4 := nx_lt (T := T) (w := 1) (L - wS T L p) (wS T L p) (show wE T L (wS T L p) < _ by omega)
    have h4' : (if T (wE T L (wS T L p)) = 32 then 1 else 0 : Int32) = 1 := h4
    rw [h3, h1'] at h4'
    exact absurd h4' (by decide)
  · omega
/-- tape and frames -/
def TC (T : Nat → Int32) (L : Nat) (C : St) : Prop := L ≤ 60 ∧ C 19 0 = nI L ∧ (∀ i, i < L → C 20 i = T i)
def TD (T : Nat → Int32) (L : Nat) (D : St) : Prop := L ≤ 60 ∧ D 88 12 = nI L ∧ (∀ i, i < L → D 92 i = T i)
section W
variable {T : Nat → Int32} {L : Nat} {C D : St}
theorem v_nx_l (h : TC T L C) (w : Int32) : ∀ (m p n : Nat), p + m = L → m < n → L_Tp_next_2 n w (nI p) C = some (nI (nx T w m p))
  | 0, p, n + 1, hp, hn => by
    obtain rfl : p = L := by omega
    unfold L_Tp_next_2 nx
    rw [h.2.1, if_pos (Int32.le_refl _)]
  | m + 1, p, n + 1, hp, hn => by
    have h0 := h.1
    unfold L_Tp_next_2 nx
    rw [h.2.1, if_neg (nI_ge (by omega) (by omega)), if_pos (inb_t (by omega) (by omega)), nI_clamp (by omega), h.2.2 p (by omega), nI_1]
    by_cases hc : (if T p = 32 then 1 else 0 : Int32) = w
    · rw [if_pos hc, if_pos hc]
    · rw [if_neg hc, if_neg hc]
      exact v_nx_l h w m (p + 1) n (by omega) (by omega)
theorem v_next (h : TC T L C) (w : Int32) {p : Nat} (hp : p ≤ L) : f_Tp_next (nI p) w C = some (nI (nx T w (L - p) p)) := by
  have h0 := h.1
  unfold f_Tp_next
  rw [v_nx_l h w (L - p) p 3000 (by omega) (by omega), bd1_s]
theorem v_nextWord (h : TC T L C) {p : Nat} (hp : p ≤ L) (he : C 21 2 = nI p) : f_Rr_nextWord C = some ((if wS T L p < wE T L (wS T L p) then 1 else 0 : Int32), mj_wr (mj_wr C 21 1 (nI (wS T L p))) 21 2 (nI (wE T L (wS T L p)))) := by
  have h0 := h.1
  have h1 := wS_le (T := T) hp
  have h2 := wE_le (T := T) (L := L) (p := wS T L p) h1.2
  have h' : TC T L (mj_wr C 21 1 (nI (wS T L p))) := ⟨h0, by rw [wr_cell _ _ (by omega)]; exact h.2.1, fun i hi => by rw [wr_cell _ _ (by omega)]; exact h.2.2 i hi⟩
  have e1 : f_Tp_next (nI p) 0 C = some (nI (wS T L p)) := v_next h 0 hp
  have e2 : f_Tp_next (nI (wS T L p)) 1 (mj_wr C 21 1 (nI (wS T L p))) = some (nI (wE T L (wS T L p))) := v_next h' 1 h1.2
  unfold f_Rr_nextWord
  rw [he, e1, bd1_s, wr_same, e2, bd1_s, wr_same, wr_idx _ _ (by omega), wr_same]
  by_cases hc : wS T L p < wE T L (wS T L p)
  · rw [if_pos hc, if_neg (nI_ge hc (by omega))]
  · rw [if_neg hc, if_pos (nI_le (by omega) (by omega))]
theorem TD.wr (h : TD T L D) {k : Nat} (hk : k ≠ 12) (x : Int32) : TD T L (mj_wr D 88 k x) := ⟨h.1, by rw [wr_idx _ _ (by omega)]; exact h.2.1, fun i hi => by rw [wr_cell _ _ (by omega)]; exact h.2.2 i hi⟩
theorem wr_wr (C : St) (b k : Nat) (x y : Int32) : mj_wr (mj_wr C b k x) b k y = mj_wr C b k y := by
  funext i j
  unfold mj_wr
  by_cases h : i = b ∧ j = k
  · rw [if_pos h, if_pos h]
  · rw [if_neg h, if_neg h, if_neg h]
theorem m_nx8_l : ∀ (m p n : Nat) (D : St), TD T L D → D 88 13 = nI p → p + m = L → m < n → L_Md_next_8 n D = some (mj_wr D 88 13 (nI (nx T 0 m p)))
  | 0, p, n + 1, D, h, h13, hp, hn => by
    obtain rfl : p = L := by omega
    unfold L_Md_next_8 nx
    rw [h.2.1, h13, if_pos (Int32.le_refl _), ← h13]
    congr 1
    funext i j
    unfold mj_wr
    by_cases hc : i = 88 ∧ j = 13
    · rw [if_pos hc, hc.1, hc.2]
    · rw [if_neg hc]
  | m + 1, p, n + 1, D, h, h13, hp, hn => by
    have h0 := h.1
    unfold L_Md_next_8 nx
    rw [h.2.1, h13, if_neg (nI_ge (by omega) (by omega)), if_pos (inb_t (by omega) (by omega)), nI_clamp (by omega), h.2.2 p (by omega), nI_1]
    by_cases hc : T p = 32
    · rw [if_pos hc, if_pos hc, if_neg (by decide), m_nx8_l m (p + 1) n (mj_wr D 88 13 (nI (p + 1))) (h.wr (by omega) _) (wr_same _ _ _ _) (by omega) (by omega), wr_wr]
    · rw [if_neg hc, if_neg hc, if_pos rfl, ← h13]
      congr 1
      funext i j
      unfold mj_wr
      by_cases hc : i = 88 ∧ j = 13
      · rw [if_pos hc, hc.1, hc.2]
      · rw [if_neg hc]
theorem m_nx62_l : ∀ (m p n : Nat) (D : St), TD T L D → D 88 15 = nI p → p + m = L → m < n → L_Md_next_62 n D = some (mj_wr D 88 15 (nI (nx T 1 m p)))
  | 0, p, n + 1, D, h, h13, hp, hn => by
    obtain rfl : p = L := by omega
    unfold L_Md_next_62 nx
    rw [h.2.1, h13, if_pos (Int32.le_refl _), ← h13]
    congr 1
    funext i j
    unfold mj_wr
    by_cases hc : i = 88 ∧ j = 15
    · rw [if_pos hc, hc.1, hc.2]
    · rw [if_neg hc]
  | m + 1, p, n + 1, D, h, h13, hp, hn => by
    have h0 := h.1
    unfold L_Md_next_62 nx
    rw [h.2.1, h13, if_neg (nI_ge (by omega) (by omega)), if_pos (inb_t (by omega) (by omega)), nI_clamp (by omega), h.2.2 p (by omega), nI_1]
    by_cases hc : T p = 32
    · rw [if_pos hc, if_pos hc, if_pos rfl, ← h13]
      congr 1
      funext i j
      unfold mj_wr
      by_cases hc : i = 88 ∧ j = 15
      · rw [if_pos hc, hc.1, hc.2]
      · rw [if_neg hc]
    · rw [if_neg hc, if_neg hc, if_neg (by decide), m_nx62_l m (p + 1) n (mj_wr D 88 15 (nI (p + 1))) (h.wr (by omega) _) (wr_same _ _ _ _) (by omega) (by omega), wr_wr]
/-- model's next: a word on -/
theorem m_next (h : TD T L D) {p : Nat} (hp : p ≤ L) (he : D 88 15 = nI p) : ∃ D', f_Md_next D = some D' ∧ D' 88 14 = nI (wS T L p) ∧ D' 88 15 = nI (wE T L (wS T L p)) ∧ (∀ j, j ≠ 88 → D' j = D j) ∧ (∀ i, i ≠ 13 → i ≠ 14 → i ≠ 15 → D' 88 i = D 88 i) := by
  have h0 := h.1
  have h1 := wS_le (T := T) hp
  have h2 := wE_le (T := T) (L := L) (p := wS T L p) h1.2
  have e1 := m_nx8_l (L - p) p 3000 (mj_wr D 88 13 (nI p)) (h.wr (by omega) _) (wr_same _ _ _ _) (by omega) (by omega)
  rw [wr_wr] at e1
  have e1' : L_Md_next_8 3000 (mj_wr D 88 13 (nI p)) = some (mj_wr D 88 13 (nI (wS T L p))) := e1
  have e2 := m_nx62_l (L - wS T L p) (wS T L p) 3000 (mj_wr (mj_wr (mj_wr D 88 13 (nI (wS T L p))) 88 14 (nI (wS T L p))) 88 15 (nI (wS T L p))) (((h.wr (by omega) _).wr (by omega) _).wr (by omega) _) (wr_same _ _ _ _) (by omega) (by omega)
  rw [wr_wr] at e2
  have e2' : L_Md_next_62 3000 (mj_wr (mj_wr (mj_wr D 88 13 (nI (wS T L p))) 88 14 (nI (wS T L p))) 88 15 (nI (wS T L p))) = some (mj_wr (mj_wr (mj_wr D 88 13 (nI (wS T L p))) 88 14 (nI (wS T L p))) 88 15 (nI (wE T L (wS T L p)))) := e2
  unfold f_Md_next
  rw [he, e1', bd1_s, wr_same, wr_idx _ _ (by omega), wr_same, e2', bd1_s, wr_same, wr_idx _ _ (by omega), wr_same]
  by_cases hc : wS T L p = wE T L (wS T L p)
  · have hL : wS T L p = L := by
      by_cases hs : wS T L p < L
      · have := wE_lt hp hs
        omega
      · omega
    rw [if_pos (congrArg nI hc), bd1_s, wr_idx _ _ (by omega), wr_idx _ _ (by omega), wr_idx _ _ (by omega), h.2.1]
    refine ⟨_, rfl, ?_, ?_, fun j hj => ?_, fun i a b c => ?_⟩
    · rw [wr_same, hL]
    · rw [wr_idx _ _ (by omega), wr_same]
    · rw [wr_row _ _ hj, wr_row _ _ hj, wr_row _ _ hj, wr_row _ _ hj]
    · rw [wr_idx _ _ b, wr_idx _ _ c, wr_idx _ _ b, wr_idx _ _ a]
  · rw [if_neg (by rw [nI_eq (by omega) (by omega)]; exact hc), bd1_s]
    refine ⟨_, rfl, ?_, ?_, fun j hj => ?_, fun i a b c => ?_⟩
    · rw [wr_idx _ _ (by omega), wr_same]
    · rw [wr_same]
    · rw [wr_row _ _ hj, wr_row _ _ hj, wr_row _ _ hj]
    · rw [wr_idx _ _ c, wr_idx _ _ b, wr_idx _ _ a]
/-- words -/
def mt (T : Nat → Int32) : Nat → List Int32 → Int32
  | _, [] => 1
  | s, x :: l => if T s = x then mt T (s + 1) l else 0
def isw (T : Nat → Int32) (s e : Nat) (w : List Int32) : Int32 := if e - s = w.length then mt T s w else 0
theorem mt_01 : ∀ (w : List Int32) (s : Nat), mt T s w = 0 ∨ mt T s w = 1
  | [], s => Or.inr rfl
  | x :: l, s => by
    unfold mt
    by_cases h : T s = x
    · rw [if_pos h]; exact mt_01 l (s + 1)
    · rw [if_neg h]; exact Or.inl rfl
theorem isw_01 (w : List Int32) (s e : Nat) : isw T s e w = 0 ∨ isw T s e w = 1 := by
  unfold isw
  by_cases h : e - s = w.length
  · rw [if_pos h]; exact mt_01 w s
  · rw [if_neg h]; exact Or.inl rfl
theorem j_len : ∀ j : Nat, j < 14 → f_Js_length j = some (nI (kSln.getD j 0)) ∧ kSln.getD j 0 = (kSby.getD j []).length ∧ kSln.getD j 0 ≤ 5 := by decide +kernel
theorem j_chr : ∀ j : Nat, j < 14 → ∀ i : Nat, i < 5 → i < kSln.getD j 0 → f_Js_charAt j (nI i) = some ((kSby.getD j []).getD i 0) := by decide +kernel
theorem v_byteAt (h : TC T L C) {p : Nat} (hp : p < L) : f_Tp_byteAt (nI p) C = some (T p) := by
  have h0 := h.1
  unfold f_Tp_byteAt
  rw [if_neg (nI_pos (by omega)), h.2.1, if_neg (nI_ge (by omega) (by omega)), if_pos (inb_t (by omega) (by omega)), nI_clamp (by omega), h.2.2 p hp, bd1_s]
theorem drop_cons (l : List Int32) (k : Nat) (h : k < l.length) : l.drop k = l.getD k 0 :: l.drop (k + 1) := by
  rw [List.drop_eq_getElem_cons h]
  congr 1
  simp [List.getD, h]
theorem v_isw_l (h : TC T L C) {j s e : Nat} (hj : j < 14) (hs : C 21 1 = nI s) (he : e ≤ L) (hse : s + kSln.getD j 0 = e) : ∀ (m k n : Nat), k + m = kSln.getD j 0 → m < n → L_Rr_isWord_20 n j (nI k) C = some (if mt T (s + k) ((kSby.getD j []).drop k) = 0 then .inl 0 else .inr ())
  | 0, k, n + 1, hk, hn => by
    have h0 := h.1
    obtain ⟨q1, q2, q3⟩ := j_len j hj
    unfold L_Rr_isWord_20
    rw [q1, bd1_s, if_pos (nI_le (by omega) (by omega)), List.drop_eq_nil_of_le (by omega)]
    unfold mt
    rw [if_neg i10]
  | m + 1, k, n + 1, hk, hn => by
    have h0 := h.1
    obtain ⟨q1, q2, q3⟩ := j_len j hj
    have ih := v_isw_l h hj hs he hse m (k + 1) n (by omega) (by omega)
    unfold L_Rr_isWord_20
    have hd : (kSby.getD j []).drop k = (kSby.getD j []).getD k 0 :: (kSby.getD j []).drop (k + 1) := drop_cons _ _ (by omega)
    rw [q1, bd1_s, if_neg (nI_ge (by omega) (by omega)), hs, nI_add, v_byteAt h (by omega), bd1_s, j_chr j hj k (by omega) (by omega), bd1_s, nI_1, hd]
    unfold mt
    by_cases hc : T (s + k) = (kSby.getD j []).getD k 0
    · rw [if_pos hc, if_pos hc, Nat.add_assoc]
      exact ih
    · rw [if_neg hc, if_neg hc, if_pos rfl]
theorem v_isWord (h : TC T L C) {j s e : Nat} (hj : j < 14) (hs : C 21 1 = nI s) (he' : C 21 2 = nI e) (hse : s ≤ e) (he : e ≤ L) : f_Rr_isWord j C = some (isw T s e (kSby.getD j [])) := by
  have h0 := h.1
  obtain ⟨q1, q2, q3⟩ := j_len j hj
  unfold f_Rr_isWord isw
  rw [q1, bd1_s, hs, he', pk_sub hse, ← q2]
  by_cases hc : e - s = kSln.getD j 0
  · rw [if_pos (congrArg nI hc), if_pos hc, show L_Rr_isWord_20 3000 j 0 C = _ from v_isw_l h hj hs he (by omega) (kSln.getD j 0) 0 3000 (by omega) (by omega)]
    rw [List.drop_zero, Nat.add_zero]
    rcases mt_01 (T := T) (kSby.getD j []) s with hm | hm
    · rw [hm, if_pos rfl, bdS_l]
    · rw [hm, if_neg i10, bdS_r]
  · rw [if_neg (by rw [nI_eq (by omega) (by omega)]; exact hc), if_neg hc]
end W
