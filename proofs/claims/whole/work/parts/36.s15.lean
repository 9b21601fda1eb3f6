/-! PURE: the rule reader: the two sides in step -/
def FC (C0 C : St) : Prop := ∀ j, j ≠ 21 → j ≠ 22 → C j = C0 j
def FD (D0 D : St) : Prop := (∀ j, j ≠ 88 → j ≠ 99 → D j = D0 j) ∧ ∀ i, i < 13 → D 88 i = D0 88 i
/-- the class's reader is behind e, the model's at the next word -/
def JJ (T : Nat → Int32) (L : Nat) (C0 D0 C D : St) (e : Nat) : Prop := e ≤ L ∧ C 21 2 = nI e ∧ D 88 14 = nI (wS T L e) ∧ D 88 15 = nI (wE T L (wS T L e)) ∧ D 88 16 = -1 ∧ FC C0 C ∧ FD D0 D
/-- both at a word -/
def AA (L : Nat) (C0 D0 C D : St) (s e : Nat) : Prop := s ≤ e ∧ e ≤ L ∧ (s = e → s = L) ∧ C 21 1 = nI s ∧ C 21 2 = nI e ∧ D 88 14 = nI s ∧ D 88 15 = nI e ∧ D 88 16 = -1 ∧ FC C0 C ∧ FD D0 D
/-- both found the same fault -/
def FA (L : Nat) (C0 D0 C D : St) : Prop := ∃ s, s ≤ L ∧ C 21 1 = nI s ∧ D 88 16 = nI s ∧ FC C0 C ∧ FD D0 D
section RD
variable {T : Nat → Int32} {L : Nat} {C0 D0 C D : St}
theorem FC.tc (f : FC C0 C) (h : TC T L C0) : TC T L C := ⟨h.1, by rw [f 19 (by omega) (by omega)]; exact h.2.1, fun i hi => by rw [f 20 (by omega) (by omega)]; exact h.2.2 i hi⟩
theorem FD.td (f : FD D0 D) (h : TD T L D0) : TD T L D := ⟨h.1, by rw [f.2 12 (by omega)]; exact h.2.1, fun i hi => by rw [f.1 92 (by omega) (by omega)]; exact h.2.2 i hi⟩
theorem FC.w21 (f : FC C0 C) (k : Nat) (x : Int32) : FC C0 (mj_wr C 21 k x) := fun j h1 h2 => by rw [wr_row _ _ h1]; exact f j h1 h2
theorem FC.w22 (f : FC C0 C) (k : Nat) (x : Int32) : FC C0 (mj_wr C 22 k x) := fun j h1 h2 => by rw [wr_row _ _ h2]; exact f j h1 h2
theorem FD.w99 (f : FD D0 D) (k : Nat) (x : Int32) : FD D0 (mj_wr D 99 k x) := ⟨fun j h1 h2 => by rw [wr_row _ _ h2]; exact f.1 j h1 h2, fun i hi => by rw [wr_cell _ _ (by omega)]; exact f.2 i hi⟩
theorem FD.w88 (f : FD D0 D) {k : Nat} (hk : 13 ≤ k) (x : Int32) : FD D0 (mj_wr D 88 k x) := ⟨fun j h1 h2 => by rw [wr_row _ _ h1]; exact f.1 j h1 h2, fun i hi => by rw [wr_idx _ _ (by omega)]; exact f.2 i hi⟩
theorem JJ.w99 {e : Nat} (h : JJ T L C0 D0 C D e) (k : Nat) (x : Int32) : JJ T L C0 D0 C (mj_wr D 99 k x) e := by
  obtain ⟨h1, h2, h3, h4, h5, h6, h7⟩ := h
  exact ⟨h1, h2, by rw [wr_cell _ _ (by omega)]; exact h3, by rw [wr_cell _ _ (by omega)]; exact h4, by rw [wr_cell _ _ (by omega)]; exact h5, h6, h7.w99 k x⟩
theorem JJ.w22 {e : Nat} (h : JJ T L C0 D0 C D e) (k : Nat) (x : Int32) : JJ T L C0 D0 (mj_wr C 22 k x) D e := by
  obtain ⟨h1, h2, h3, h4, h5, h6, h7⟩ := h
  exact ⟨h1, by rw [wr_cell _ _ (by omega)]; exact h2, h3, h4, h5, h6.w22 k x, h7⟩
theorem AA.w99 {s e : Nat} (h : AA L C0 D0 C D s e) (k : Nat) (x : Int32) : AA L C0 D0 C (mj_wr D 99 k x) s e := by
  obtain ⟨h0, h1, hz, h2, h3, h4, h5, h6, h7, h8⟩ := h
  exact ⟨h0, h1, hz, h2, h3, by rw [wr_cell _ _ (by omega)]; exact h4, by rw [wr_cell _ _ (by omega)]; exact h5, by rw [wr_cell _ _ (by omega)]; exact h6, h7, h8.w99 k x⟩
theorem FA.w99 (h : FA L C0 D0 C D) (k : Nat) (x : Int32) : FA L C0 D0 C (mj_wr D 99 k x) := by
  obtain ⟨s, h1, h2, h3, h4, h5⟩ := h
  exact ⟨s, h1, h2, by rw [wr_cell _ _ (by omega)]; exact h3, h4, h5.w99 k x⟩
theorem FA.ge (h : FA L C0 D0 C D) (hL : L ≤ 60) : 0 ≤ D 88 16 := by
  obtain ⟨s, h1, h2, h3, -⟩ := h
  rw [h3]
  exact nI_pos' (by omega)
/-- a word on, in the class -/
theorem jA (hc : TC T L C0) {e : Nat} (h : JJ T L C0 D0 C D e) : ∃ C', f_Rr_nextWord C = some ((if wS T L e < L then 1 else 0 : Int32), C') ∧ AA L C0 D0 C' D (wS T L e) (wE T L (wS T L e)) ∧ C' 22 = C 22 := by
  obtain ⟨h1, h2, h3, h4, h5, h6, h7⟩ := h
  have w1 := wS_le (T := T) h1
  have w2 := wE_le (T := T) (L := L) (p := wS T L e) w1.2
  have eb : (if wS T L e < wE T L (wS T L e) then 1 else 0 : Int32) = (if wS T L e < L then 1 else 0 : Int32) := by
    by_cases hh : wS T L e < L
    · rw [if_pos hh, if_pos (wE_lt h1 hh)]
    · rw [if_neg hh, if_neg (by omega)]
  refine ⟨mj_wr (mj_wr C 21 1 (nI (wS T L e))) 21 2 (nI (wE T L (wS T L e))), ?_, ⟨w2.1, w2.2, ?_, ?_, wr_same _ _ _ _, h3, h4, h5, (h6.w21 _ _).w21 _ _, h7⟩, ?_⟩
  · rw [v_nextWord (h6.tc hc) h1 h2, eb]
  · intro hq
    by_cases hh : wS T L e < L
    · have := wE_lt h1 hh
      omega
    · omega
  · rw [wr_idx _ _ (by omega), wr_same]
  · rw [wr_row _ _ (by omega), wr_row _ _ (by omega)]
/-- a word on, in the model -/
theorem aJ (hd : TD T L D0) {s e : Nat} (h : AA L C0 D0 C D s e) : ∃ D', f_Md_next D = some D' ∧ JJ T L C0 D0 C D' e ∧ D' 99 = D 99 := by
  obtain ⟨h0, h1, hz, h2, h3, h4, h5, h6, h7, h8⟩ := h
  obtain ⟨D', e1, e2, e3, e4, e5⟩ := m_next (h8.td hd) h1 h5
  exact ⟨D', e1, ⟨h1, h3, e2, e3, by rw [e5 16 (by omega) (by omega) (by omega)]; exact h6, h7, ⟨fun j a b => by rw [e4 j a]; exact h8.1 j a b, fun i hi => by rw [e5 i (by omega) (by omega) (by omega)]; exact h8.2 i hi⟩⟩, e4 99 (by omega)⟩
theorem m_fail (hq : D 88 16 = -1) : f_Md_fail D = some (mj_wr D 88 16 (D 88 14)) := by
  unfold f_Md_fail
  rw [hq, if_neg (by decide)]
theorem aF {s e : Nat} (h : AA L C0 D0 C D s e) : ∃ D', f_Md_fail D = some D' ∧ FA L C0 D0 C D' := by
  obtain ⟨h0, h1, hz, h2, h3, h4, h5, h6, h7, h8⟩ := h
  exact ⟨_, m_fail h6, s, by omega, h2, by rw [wr_same]; exact h4, h7, h8.w88 (by omega) _⟩
/-- a number, on both sides -/
theorem rd (hc : TC T L C0) (hd : TD T L D0) (hT : ∀ i, i < L → rg (T i) 0 255) {e : Nat} (h : JJ T L C0 D0 C D e) {col l u : Nat} (hcol : col < 9) (hlu : l ≤ u) (hu : u ≤ 9999) :
    ∃ (b : Int32) (C' : St) (v : Int32) (D' : St), f_Rr_reads (nI col) (nI l) (nI u) C = some (b, C') ∧ f_Md_number (nI l) (nI u) D = some (v, D') ∧
      ((b = 0 ∧ FA L C0 D0 C' D') ∨ (b = 1 ∧ (∃ e', JJ T L C0 D0 C' D' e') ∧ (∃ k : Nat, v = nI k ∧ l ≤ k ∧ k ≤ u) ∧ C' 22 = mj_wr C 22 col v 22 ∧ D' 99 = D 99 ∧ C' 21 1 = nI (wS T L e) ∧ D 88 14 = nI (wS T L e))) := by
  have hL := hc.1
  obtain ⟨C1, e1, hA, e2⟩ := jA hc h
  have hJ := h
  obtain ⟨g1, g2, g3, g4, g5, g6, g7⟩ := h
  obtain ⟨h0, h1, hz, h2, h3, h4, h5, h6, h7, h8⟩ := hA
  have w1 := wS_le (T := T) g1
  obtain ⟨D1, f1, f2⟩ := aF (⟨h0, h1, hz, h2, h3, h4, h5, h6, h7, h8⟩ : AA L C0 D0 C1 D _ _)
  unfold f_Rr_reads f_Md_number
  rw [e1, bd2_s, g3, g4]
  by_cases hh : wS T L e < L
  · have hlt := wE_lt g1 hh
    have nv := v_nm_l (h7.tc hc) hT h1 h3 (wE T L (wS T L e) - wS T L e) (wS T L e) 0 3000 (by omega) (by omega) (by omega)
    obtain ⟨r, g, mv, hm⟩ := m_nm_l (g7.td hd) hT h1 g4 (nI l) (nI u) (wE T L (wS T L e) - wS T L e) (wS T L e) 0 3000 (by omega) (by omega) (by omega)
    have ez : (if nI (wE T L (wS T L e)) ≤ nI (wS T L e) then 0 else 1 : Int32) = 1 := if_neg (nI_ge hlt (by omega))
    unfold f_Rr_number
    rw [if_pos hh, if_neg i10, h2, show L_Rr_number_7 3000 0 (nI (wS T L e)) C1 = _ from nv, ez, show L_Md_number_26 3000 (nI l) (nI u) 0 1 (nI (wS T L e)) D = _ from mv, bd2_s, f1, bd1_s]
    cases hn : nm T (wE T L (wS T L e) - wS T L e) (wS T L e) 0 with
    | none =>
      rw [hn] at hm
      have ew : f_Mk_isWithin (-1) (nI l) (nI u) = some 0 := by
        unfold f_Mk_isWithin
        rw [if_pos (by rw [Int32.lt_iff_toInt_lt, nI_toInt (by omega)]; rw [show ((-1 : Int32)).toInt = -1 by decide]; omega)]
      dsimp only
      rw [bdS_l, bd1_s, bd1_s, ew, bd1_s, if_pos i01]
      have fin : ∃ v, (if g = 0 then some ((0 : Int32), D1) else if r < nI l then bd1 (f_Md_fail D) fun C25 => some (0, C25) else if r ≤ nI u then bd1 (f_Md_next D) fun C28 => some (r, C28) else bd1 (f_Md_fail D) fun C30 => some (0, C30)) = some (v, D1) := by
        rcases hm with hm | hm
        · rw [if_pos hm]; exact ⟨_, rfl⟩
        · by_cases hg : g = 0
          · rw [if_pos hg]; exact ⟨_, rfl⟩
          · rw [if_neg hg, f1]
            by_cases hr : r < nI l
            · rw [if_pos hr]; exact ⟨_, rfl⟩
            · rw [if_neg hr, if_neg (by rw [Int32.lt_iff_toInt_lt, show (9999 : Int32).toInt = 9999 by decide] at hm; rw [Int32.le_iff_toInt_le, nI_toInt (by omega)]; omega)]
              exact ⟨_, rfl⟩
      obtain ⟨v, fin⟩ := fin
      refine ⟨_, _, v, D1, rfl, ?_, Or.inl ⟨rfl, f2⟩⟩
      simp only [f1, bd1_s] at fin
      exact fin
    | some w =>
      rw [hn] at hm
      obtain ⟨rfl, rfl⟩ := hm
      have hw := nm_le _ _ _ _ (by omega) hn
      dsimp only
      rw [bdS_r, bd1_s, bd1_s, if_neg i10]
      rcases in_cases (nI w) (nI l) (nI u) l u rfl rfl hlu (by omega) with ⟨k, k1, k2, k3, k4, k5⟩ | ⟨k4, k5⟩
      · obtain rfl : w = k := (nI_eq (by omega) (by omega)).mp k3
        obtain ⟨D2, d1, d2, d3⟩ := aJ hd (⟨h0, h1, hz, h2, h3, h4, h5, h6, h7, h8⟩ : AA L C0 D0 C1 D _ _)
        have b1 : ¬ (nI w < nI l) := by rw [Int32.lt_iff_toInt_lt, nI_toInt (by omega), nI_toInt (by omega)]; omega
        have b2 : nI w ≤ nI u := nI_le (by omega) (by omega)
        rw [k4, bd1_s, if_neg i10, if_pos (inb_t (by omega) (by omega)), nI_clamp (by omega), if_neg b1, if_pos b2, d1, bd1_s]
        refine ⟨_, _, _, _, rfl, rfl, Or.inr ⟨rfl, ⟨_, d2.w22 _ _⟩, ⟨w, rfl, k1, k2⟩, ?_, d3, ?_, rfl⟩⟩
        · funext i
          unfold mj_wr
          rw [e2]
        · rw [wr_cell _ _ (by omega)]; exact h2
      · rw [k4, bd1_s, if_pos i01]
        have fin : (if nI w < nI l then some ((0 : Int32), D1) else if nI w ≤ nI u then bd1 (f_Md_next D) fun C28 => some (nI w, C28) else bd1 (f_Md_fail D) fun C30 => some (0, C30)) = some (0, D1) := by
          by_cases b1 : nI w < nI l
          · rw [if_pos b1]
          · rw [if_neg b1]
            by_cases b2 : nI w ≤ nI u
            · exfalso
              unfold f_Md_isIn at k5
              rw [if_neg b1, if_neg (by rw [Int32.lt_iff_toInt_lt]; rw [Int32.le_iff_toInt_le] at b2; omega)] at k5
              exact absurd (Option.some.inj k5) (by decide)
            · rw [if_neg b2, f1, bd1_s]
        refine ⟨_, _, 0, D1, rfl, ?_, Or.inl ⟨rfl, f2⟩⟩
        simp only [f1, bd1_s] at fin ⊢
        exact fin
  · have hs : wS T L e = L := by omega
    have he : wE T L (wS T L e) = L := by omega
    have ew : f_Mk_isWithin (-1) (nI l) (nI u) = some 0 := by
      unfold f_Mk_isWithin
      rw [if_pos (by rw [Int32.lt_iff_toInt_lt, nI_toInt (by omega)]; rw [show ((-1 : Int32)).toInt = -1 by decide]; omega)]
    have ez : (if nI (wE T L (wS T L e)) ≤ nI (wS T L e) then 0 else 1 : Int32) = 0 := if_pos (nI_le (by omega) (by omega))
    rw [if_neg hh, if_pos i01, bd1_s, ew, bd1_s, if_pos i01, ez, m_nm0 (g7.td hd) h1 g4 (nI l) (nI u) 0 0 (wS T L e) 3000 (by omega) (by omega), bd2_s, if_pos i01, f1, bd1_s]
    exact ⟨_, _, _, _, rfl, rfl, Or.inl ⟨rfl, f2⟩⟩
theorem w0 (hc : TC T L C0) (hd : TD T L D0) {s e : Nat} (h : AA L C0 D0 C D s e) : f_Rr_isWord 0 C = some (isw T s e (kSby.getD 0 [])) ∧ f_Md_reads 101 118 101 114 121 D = some (isw T s e (kSby.getD 0 [])) := by
  obtain ⟨h0, h1, hz, h2, h3, h4, h5, h6, h7, h8⟩ := h
  exact ⟨v_isWord (h7.tc hc) (by omega) h2 h3 h0 h1, m_reads5 (h8.td hd) h4 h5 h0 h1 101 118 101 114 121 (by decide)⟩
theorem w1 (hc : TC T L C0) (hd : TD T L D0) {s e : Nat} (h : AA L C0 D0 C D s e) : f_Rr_isWord 1 C = some (isw T s e (kSby.getD 1 [])) ∧ f_Md_reads 105 102 0 0 0 D = some (isw T s e (kSby.getD 1 [])) := by
  obtain ⟨h0, h1, hz, h2, h3, h4, h5, h6, h7, h8⟩ := h
  exact ⟨v_isWord (h7.tc hc) (by omega) h2 h3 h0 h1, m_reads2 (h8.td hd) h4 h5 h0 h1 105 102 (by decide)⟩
theorem w2 (hc : TC T L C0) (hd : TD T L D0) {s e : Nat} (h : AA L C0 D0 C D s e) : f_Rr_isWord 2 C = some (isw T s e (kSby.getD 2 [])) ∧ f_Md_reads 99 97 115 104 0 D = some (isw T s e (kSby.getD 2 [])) := by
  obtain ⟨h0, h1, hz, h2, h3, h4, h5, h6, h7, h8⟩ := h
  exact ⟨v_isWord (h7.tc hc) (by omega) h2 h3 h0 h1, m_reads4 (h8.td hd) h4 h5 h0 h1 99 97 115 104 (by decide)⟩
theorem w3 (hc : TC T L C0) (hd : TD T L D0) {s e : Nat} (h : AA L C0 D0 C D s e) : f_Rr_isWord 3 C = some (isw T s e (kSby.getD 3 [])) ∧ f_Md_reads 104 97 118 101 0 D = some (isw T s e (kSby.getD 3 [])) := by
  obtain ⟨h0, h1, hz, h2, h3, h4, h5, h6, h7, h8⟩ := h
  exact ⟨v_isWord (h7.tc hc) (by omega) h2 h3 h0 h1, m_reads4 (h8.td hd) h4 h5 h0 h1 104 97 118 101 (by decide)⟩
theorem w4 (hc : TC T L C0) (hd : TD T L D0) {s e : Nat} (h : AA L C0 D0 C D s e) : f_Rr_isWord 4 C = some (isw T s e (kSby.getD 4 [])) ∧ f_Md_reads 100 97 121 0 0 D = some (isw T s e (kSby.getD 4 [])) := by
  obtain ⟨h0, h1, hz, h2, h3, h4, h5, h6, h7, h8⟩ := h
  exact ⟨v_isWord (h7.tc hc) (by omega) h2 h3 h0 h1, m_reads3 (h8.td hd) h4 h5 h0 h1 100 97 121 (by decide)⟩
theorem w5 (hc : TC T L C0) (hd : TD T L D0) {s e : Nat} (h : AA L C0 D0 C D s e) : f_Rr_isWord 5 C = some (isw T s e (kSby.getD 5 [])) ∧ f_Md_reads 112 114 105 99 101 D = some (isw T s e (kSby.getD 5 [])) := by
  obtain ⟨h0, h1, hz, h2, h3, h4, h5, h6, h7, h8⟩ := h
  exact ⟨v_isWord (h7.tc hc) (by omega) h2 h3 h0 h1, m_reads5 (h8.td hd) h4 h5 h0 h1 112 114 105 99 101 (by decide)⟩
theorem w6 (hc : TC T L C0) (hd : TD T L D0) {s e : Nat} (h : AA L C0 D0 C D s e) : f_Rr_isWord 6 C = some (isw T s e (kSby.getD 6 [])) ∧ f_Md_reads 62 0 0 0 0 D = some (isw T s e (kSby.getD 6 [])) := by
  obtain ⟨h0, h1, hz, h2, h3, h4, h5, h6, h7, h8⟩ := h
  exact ⟨v_isWord (h7.tc hc) (by omega) h2 h3 h0 h1, m_reads1 (h8.td hd) h4 h5 h0 h1 62⟩
theorem w7 (hc : TC T L C0) (hd : TD T L D0) {s e : Nat} (h : AA L C0 D0 C D s e) : f_Rr_isWord 7 C = some (isw T s e (kSby.getD 7 [])) ∧ f_Md_reads 60 0 0 0 0 D = some (isw T s e (kSby.getD 7 [])) := by
  obtain ⟨h0, h1, hz, h2, h3, h4, h5, h6, h7, h8⟩ := h
  exact ⟨v_isWord (h7.tc hc) (by omega) h2 h3 h0 h1, m_reads1 (h8.td hd) h4 h5 h0 h1 60⟩
theorem w8 (hc : TC T L C0) (hd : TD T L D0) {s e : Nat} (h : AA L C0 D0 C D s e) : f_Rr_isWord 8 C = some (isw T s e (kSby.getD 8 [])) ∧ f_Md_reads 109 97 107 101 0 D = some (isw T s e (kSby.getD 8 [])) := by
  obtain ⟨h0, h1, hz, h2, h3, h4, h5, h6, h7, h8⟩ := h
  exact ⟨v_isWord (h7.tc hc) (by omega) h2 h3 h0 h1, m_reads4 (h8.td hd) h4 h5 h0 h1 109 97 107 101 (by decide)⟩
theorem w9 (hc : TC T L C0) (hd : TD T L D0) {s e : Nat} (h : AA L C0 D0 C D s e) : f_Rr_isWord 9 C = some (isw T s e (kSby.getD 9 [])) ∧ f_Md_reads 101 97 116 0 0 D = some (isw T s e (kSby.getD 9 [])) := by
  obtain ⟨h0, h1, hz, h2, h3, h4, h5, h6, h7, h8⟩ := h
  exact ⟨v_isWord (h7.tc hc) (by omega) h2 h3 h0 h1, m_reads3 (h8.td hd) h4 h5 h0 h1 101 97 116 (by decide)⟩
theorem w10 (hc : TC T L C0) (hd : TD T L D0) {s e : Nat} (h : AA L C0 D0 C D s e) : f_Rr_isWord 10 C = some (isw T s e (kSby.getD 10 [])) ∧ f_Md_reads 97 115 107 0 0 D = some (isw T s e (kSby.getD 10 [])) := by
  obtain ⟨h0, h1, hz, h2, h3, h4, h5, h6, h7, h8⟩ := h
  exact ⟨v_isWord (h7.tc hc) (by omega) h2 h3 h0 h1, m_reads3 (h8.td hd) h4 h5 h0 h1 97 115 107 (by decide)⟩
theorem w11 (hc : TC T L C0) (hd : TD T L D0) {s e : Nat} (h : AA L C0 D0 C D s e) : f_Rr_isWord 11 C = some (isw T s e (kSby.getD 11 [])) ∧ f_Md_reads 98 105 100 0 0 D = some (isw T s e (kSby.getD 11 [])) := by
  obtain ⟨h0, h1, hz, h2, h3, h4, h5, h6, h7, h8⟩ := h
  exact ⟨v_isWord (h7.tc hc) (by omega) h2 h3 h0 h1, m_reads3 (h8.td hd) h4 h5 h0 h1 98 105 100 (by decide)⟩
theorem w12 (hc : TC T L C0) (hd : TD T L D0) {s e : Nat} (h : AA L C0 D0 C D s e) : f_Rr_isWord 12 C = some (isw T s e (kSby.getD 12 [])) ∧ f_Md_reads 112 97 121 0 0 D = some (isw T s e (kSby.getD 12 [])) := by
  obtain ⟨h0, h1, hz, h2, h3, h4, h5, h6, h7, h8⟩ := h
  exact ⟨v_isWord (h7.tc hc) (by omega) h2 h3 h0 h1, m_reads3 (h8.td hd) h4 h5 h0 h1 112 97 121 (by decide)⟩
theorem w13 (hc : TC T L C0) (hd : TD T L D0) {s e : Nat} (h : AA L C0 D0 C D s e) : f_Rr_isWord 13 C = some (isw T s e (kSby.getD 13 [])) ∧ f_Md_reads 108 101 110 100 0 D = some (isw T s e (kSby.getD 13 [])) := by
  obtain ⟨h0, h1, hz, h2, h3, h4, h5, h6, h7, h8⟩ := h
  exact ⟨v_isWord (h7.tc hc) (by omega) h2 h3 h0 h1, m_reads4 (h8.td hd) h4 h5 h0 h1 108 101 110 100 (by decide)⟩
theorem isw_e {s e : Nat} {w : List Int32} (h : s = e) (hw : 0 < w.length) : isw T s e w = 0 := by
  unfold isw
  rw [if_neg (by omega)]
theorem acts (hc : TC T L C0) (hd : TD T L D0) {s e : Nat} (h : AA L C0 D0 C D s e) : ∃ a : Int32, f_Rr_actOf C = some a ∧ f_Md_actAtHand D = some a ∧ ((a = -1) ∨ (s < e ∧ (a = 0 ∨ a = 1 ∨ a = 2 ∨ a = 3 ∨ a = 4 ∨ a = 5))) := by
  unfold f_Rr_actOf f_Md_actAtHand
  rw [(w8 hc hd h).1, (w8 hc hd h).2, bd1_s, bd1_s]
  have z8 : s = e → isw T s e (kSby.getD 8 []) = 0 := fun q => isw_e q (by decide)
  rcases isw_01 (T := T) (kSby.getD 8 []) s e with hw | hw
  rotate_left
  · rw [hw, if_neg i10, if_neg i10, bd1_s]
    have hq : s ≠ e := fun q => by rw [z8 q] at hw; exact absurd hw (by decide)
    have := h.1
    exact ⟨_, rfl, rfl, Or.inr ⟨by omega, by decide⟩⟩
  rw [hw, if_pos i01, if_pos i01]
  clear hw z8
  rw [(w9 hc hd h).1, (w9 hc hd h).2, bd1_s, bd1_s]
  have z9 : s = e → isw T s e (kSby.getD 9 []) = 0 := fun q => isw_e q (by decide)
  rcases isw_01 (T := T) (kSby.getD 9 []) s e with hw | hw
  rotate_left
  · rw [hw, if_neg i10, if_neg i10, bd1_s]
    have hq : s ≠ e := fun q => by rw [z9 q] at hw; exact absurd hw (by decide)
    have := h.1
    exact ⟨_, rfl, rfl, Or.inr ⟨by omega, by decide⟩⟩
  rw [hw, if_pos i01, if_pos i01]
  clear hw z9
  rw [(w10 hc hd h).1, (w10 hc hd h).2, bd1_s, bd1_s]
  have z10 : s = e → isw T s e (kSby.getD 10 []) = 0 := fun q => isw_e q (by decide)
  rcases isw_01 (T := T) (kSby.getD 10 []) s e with hw | hw
  rotate_left
  · rw [hw, if_neg i10, if_neg i10, bd1_s]
    have hq : s ≠ e := fun q => by rw [z10 q] at hw; exact absurd hw (by decide)
    have := h.1
    exact ⟨_, rfl, rfl, Or.inr ⟨by omega, by decide⟩⟩
  rw [hw, if_pos i01, if_pos i01]
  clear hw z10
  rw [(w11 hc hd h).1, (w11 hc hd h).2, bd1_s, bd1_s]
  have z11 : s = e → isw T s e (kSby.getD 11 []) = 0 := fun q => isw_e q (by decide)
  rcases isw_01 (T := T) (kSby.getD 11 []) s e with hw | hw
  rotate_left
  · rw [hw, if_neg i10, if_neg i10, bd1_s]
    have hq : s ≠ e := fun q => by rw [z11 q] at hw; exact absurd hw (by decide)
    have := h.1
    exact ⟨_, rfl, rfl, Or.inr ⟨by omega, by decide⟩⟩
  rw [hw, if_pos i01, if_pos i01]
  clear hw z11
  rw [(w12 hc hd h).1, (w12 hc hd h).2, bd1_s, bd1_s]
  have z12 : s = e → isw T s e (kSby.getD 12 []) = 0 := fun q => isw_e q (by decide)
  rcases isw_01 (T := T) (kSby.getD 12 []) s e with hw | hw
  rotate_left
  · rw [hw, if_neg i10, if_neg i10, bd1_s]
    have hq : s ≠ e := fun q => by rw [z12 q] at hw; exact absurd hw (by decide)
    have := h.1
    exact ⟨_, rfl, rfl, Or.inr ⟨by omega, by decide⟩⟩
  rw [hw, if_pos i01, if_pos i01]
  clear hw z12
  rw [(w13 hc hd h).1, (w13 hc hd h).2, bd1_s, bd1_s]
  have z13 : s = e → isw T s e (kSby.getD 13 []) = 0 := fun q => isw_e q (by decide)
  rcases isw_01 (T := T) (kSby.getD 13 []) s e with hw | hw
  rotate_left
  · rw [hw, if_neg i10, if_neg i10, bd1_s]
    have hq : s ≠ e := fun q => by rw [z13 q] at hw; exact absurd hw (by decide)
    have := h.1
    exact ⟨_, rfl, rfl, Or.inr ⟨by omega, by decide⟩⟩
  rw [hw, if_pos i01, if_pos i01, bd1_s]
  clear hw z13
  exact ⟨_, rfl, rfl, Or.inl rfl⟩
theorem conds (hc : TC T L C0) (hd : TD T L D0) {s e : Nat} (h : AA L C0 D0 C D s e) : ∃ a v1 v3 v5 v9 : Int32, f_Rr_condOf C = some a ∧ f_Md_reads 104 97 118 101 0 D = some v1 ∧ f_Md_reads 112 114 105 99 101 D = some v3 ∧ f_Md_reads 99 97 115 104 0 D = some v5 ∧ f_Md_reads 100 97 121 0 0 D = some v9 ∧
    ((a = -1 ∧ v1 = 0 ∧ v3 = 0 ∧ v5 = 0 ∧ v9 = 0) ∨ (a = 0 ∧ v1 = 0 ∧ v3 = 0 ∧ v5 = 1) ∨ (a = 1 ∧ v1 = 1 ∧ v5 = 0) ∨ (a = 2 ∧ v1 = 0 ∧ v3 = 0 ∧ v5 = 0 ∧ v9 = 1) ∨ (a = 3 ∧ v1 = 0 ∧ v3 = 1 ∧ v5 = 0 ∧ v9 = 0)) := by
  have ex : ∀ j j' : Nat, j < 6 → j' < 6 → 2 ≤ j → 2 ≤ j' → j ≠ j' → isw T s e (kSby.getD j []) = 1 → isw T s e (kSby.getD j' []) = 0 := by
    intro j j' hj hj' h2 h2' hne hw
    rcases isw_01 (T := T) (kSby.getD j' []) s e with hq | hq
    · exact hq
    · exfalso
      have f : ∀ w : List Int32, isw T s e w = 1 → e - s = w.length ∧ mt T s w = 1 := by
        intro w hw
        unfold isw at hw
        by_cases hl : e - s = w.length
        · rw [if_pos hl] at hw; exact ⟨hl, hw⟩
        · rw [if_neg hl] at hw; exact absurd hw (by decide)
      have g : ∀ (x : Int32) (w : List Int32), mt T s (x :: w) = 1 → T s = x := by
        intro x w hw
        unfold mt at hw
        by_cases hx : T s = x
        · exact hx
        · rw [if_neg hx] at hw; exact absurd hw (by decide)
      have a1 := f _ hw
      have a2 := f _ hq
      have L2 : kSby.getD 2 [] = [99, 97, 115, 104] := rfl
      have L3 : kSby.getD 3 [] = [104, 97, 118, 101] := rfl
      have L4 : kSby.getD 4 [] = [100, 97, 121] := rfl
      have L5 : kSby.getD 5 [] = [112, 114, 105, 99, 101] := rfl
      have hd : ∀ j, j < 6 → 2 ≤ j → mt T s (kSby.getD j []) = 1 → T s = (kSby.getD j []).getD 0 0 := by
        intro j h1 h2 h3
        rcases (show j = 2 ∨ j = 3 ∨ j = 4 ∨ j = 5 by omega) with rfl | rfl | rfl | rfl
        · exact g _ _ h3
        · exact g _ _ h3
        · exact g _ _ h3
        · exact g _ _ h3
      have b1 := hd j hj h2 a1.2
      have b2 := hd j' hj' h2' a2.2
      rw [b1] at b2
      rcases (show j = 2 ∨ j = 3 ∨ j = 4 ∨ j = 5 by omega) with rfl | rfl | rfl | rfl
      all_goals rcases (show j' = 2 ∨ j' = 3 ∨ j' = 4 ∨ j' = 5 by omega) with rfl | rfl | rfl | rfl
      all_goals first | exact hne rfl | exact absurd b2 (by decide)
  unfold f_Rr_condOf
  rw [(w2 hc hd h).1, (w3 hc hd h).1, (w4 hc hd h).1, (w5 hc hd h).1, (w2 hc hd h).2, (w3 hc hd h).2, (w4 hc hd h).2, (w5 hc hd h).2]
  simp only [bd1_s]
  rcases isw_01 (T := T) (kSby.getD 2 []) s e with k2 | k2
  rotate_left
  · have q3 := ex 2 3 (by omega) (by omega) (by omega) (by omega) (by omega) k2
    have q5 := ex 2 5 (by omega) (by omega) (by omega) (by omega) (by omega) k2
    refine ⟨_, _, _, _, _, ?_, rfl, rfl, rfl, rfl, Or.inr (Or.inl ⟨rfl, q3, q5, k2⟩)⟩
    rw [k2, if_neg i10]
  rw [k2, if_pos i01]
  rcases isw_01 (T := T) (kSby.getD 3 []) s e with k3 | k3
  rotate_left
  · refine ⟨_, _, _, _, _, ?_, rfl, rfl, rfl, rfl, Or.inr (Or.inr (Or.inl ⟨rfl, k3, rfl⟩))⟩
    rw [k3, if_neg i10]
  rw [k3, if_pos i01]
  rcases isw_01 (T := T) (kSby.getD 4 []) s e with k4 | k4
  rotate_left
  · have q5 := ex 4 5 (by omega) (by omega) (by omega) (by omega) (by omega) k4
    refine ⟨_, _, _, _, _, ?_, rfl, rfl, rfl, rfl, Or.inr (Or.inr (Or.inr (Or.inl ⟨rfl, rfl, q5, rfl, k4⟩)))⟩
    rw [k4, if_neg i10]
  rw [k4, if_pos i01]
  rcases isw_01 (T := T) (kSby.getD 5 []) s e with k5 | k5
  rotate_left
  · refine ⟨_, _, _, _, _, ?_, rfl, rfl, rfl, rfl, Or.inr (Or.inr (Or.inr (Or.inr ⟨rfl, rfl, k5, rfl, rfl⟩)))⟩
    rw [k5, if_neg i10]
  refine ⟨_, _, _, _, _, ?_, rfl, rfl, rfl, rfl, Or.inl ⟨rfl, rfl, k5, rfl, rfl⟩⟩
  rw [k5, if_pos i01]
end RD
