/-! PURE: a day: the offers of a good, picked -/
def kyA (C : St) (c : Nat) (o : Int32) (i : Nat) : Int := (o * C (c + 2) i).toInt
/-- the offers of the good g, picked out of na, in their order -/
def PK (C : St) (c : Nat) (o : Int32) (g na mp : Nat) (pk : Nat → Nat) : Prop := C c 4 = nI mp ∧ mp ≤ na ∧ (∀ i, i < mp → C (c + 4) i = nI (pk i) ∧ pk i < na ∧ C (c + 5) (pk i) = nI g) ∧ (∀ i j, i < j → j < mp → kyA C c o (pk i) < kyA C c o (pk j) ∨ (kyA C c o (pk i) = kyA C c o (pk j) ∧ pk i < pk j)) ∧ (∀ f : Nat → Int, sm (fun i => f (pk i)) mp = sm (fun i => if C (c + 5) i = nI g then f i else 0) na)
def insN (pk : Nat → Nat) (e x : Nat) (i : Nat) : Nat := if i < e then pk i else if i = e then x else pk (i - 1)
theorem sm_ins {h : Nat → Int} {pk : Nat → Nat} {e x : Nat} : ∀ (mp : Nat), e ≤ mp → sm (fun i => h (insN pk e x i)) (mp + 1) = sm (fun i => h (pk i)) mp + h x
  | 0, he => by
    obtain rfl : e = 0 := by omega
    show sm _ 0 + h (insN pk 0 x 0) = 0 + h x
    unfold insN
    rw [if_neg (by omega), if_pos rfl]
    rfl
  | mp + 1, he => by
    by_cases hee : e = mp + 1
    · subst hee
      show sm _ (mp + 1) + h (insN pk (mp + 1) x (mp + 1)) = _
      rw [sm_congr (g := fun i => h (pk i)) (mp + 1) (fun i hi => by unfold insN; rw [if_pos hi])]
      unfold insN
      rw [if_neg (by omega), if_pos rfl]
    · show sm _ (mp + 1) + h (insN pk e x (mp + 1)) = (sm _ mp + h (pk mp)) + h x
      rw [sm_ins mp (by omega)]
      unfold insN
      rw [if_neg (by omega), if_neg (by omega), show mp + 1 - 1 = mp from rfl]
      omega
theorem v_ins {x : Nat} {o : Int32} {pk : Nat → Nat} (hx : x < 72) : ∀ (w q : Nat) (C : St), w ≤ 71 → w < q → (∀ i, i < w → C 30 i = nI (pk i) ∧ pk i < 72) → ∃ e C', L_Of_insert_5 q (nI x) o (nI w) C = some (nI e, C') ∧ e ≤ w ∧ (∀ i, e ≤ i → i < w → kyA C 26 o x < kyA C 26 o (pk i)) ∧ (∀ i, e = i + 1 → kyA C 26 o (pk i) ≤ kyA C 26 o x) ∧ (∀ i, C' 30 i = if e < i ∧ i ≤ w then C 30 (i - 1) else C 30 i) ∧ ∀ j, j ≠ 30 → C' j = C j
  | 0, q + 1, C, _, _, _ => ⟨0, C, by rw [L_Of_insert_5, if_pos (by decide)], Nat.le_refl _, fun i h1 h2 => by omega, fun i h => by omega, fun i => by rw [if_neg (by omega)], fun _ _ => rfl⟩
  | w + 1, q + 1, C, hw, hq, hp => by
    obtain ⟨p1, p2⟩ := hp w (by omega)
    have h0 : ¬ (nI (w + 1) ≤ (0 : Int32)) := (nI_gt0 (by omega) (by omega)).1
    by_cases hc : o * C 28 (pk w) ≤ o * C 28 x
    · refine ⟨w + 1, C, ?_, Nat.le_refl _, fun i h1 h2 => by omega, fun i h => ?_, fun i => by rw [if_neg (by omega)], fun _ _ => rfl⟩
      · rw [L_Of_insert_5, if_neg h0, nI_m1 (by omega), show w + 1 - 1 = w from rfl, if_pos (inb_t (by omega) (by omega)), nI_clamp (by omega), p1, if_pos (inb_t p2 (by omega)), if_pos (inb_t hx (by omega)), nI_clamp (by omega), nI_clamp (by omega), if_pos hc]
      · obtain rfl : w = i := by omega
        rw [Int32.le_iff_toInt_le] at hc
        exact hc
    · obtain ⟨e, C', e1, e2, e3, e4, e5, e6⟩ := v_ins (x := x) (o := o) (pk := pk) hx w q (mj_wr C 30 (w + 1) (nI (pk w))) (by omega) (by omega) (fun i hi => by rw [wr_idx _ _ (by omega)]; exact hp i (by omega))
      have ek : ∀ i, kyA (mj_wr C 30 (w + 1) (nI (pk w))) 26 o i = kyA C 26 o i := fun i => by unfold kyA; rw [wr_cell _ _ (by omega)]
      simp only [ek] at e3 e4
      refine ⟨e, C', ?_, by omega, fun i h1 h2 => ?_, e4, fun i => ?_, fun j hj => by rw [e6 j hj, wr_row _ _ hj]⟩
      · rw [L_Of_insert_5, if_neg h0, nI_m1 (by omega), show w + 1 - 1 = w from rfl, if_pos (inb_t (by omega) (by omega)), nI_clamp (by omega), p1, if_pos (inb_t p2 (by omega)), if_pos (inb_t hx (by omega)), nI_clamp (by omega), nI_clamp (by omega), if_neg hc, if_pos (inb_t (by omega) (by omega)), pk_m1, nI_clamp (by omega)]
        exact e1
      · by_cases hi : i = w
        · subst hi
          rw [Int32.le_iff_toInt_le] at hc
          unfold kyA
          exact Int.not_le.mp hc
        · exact e3 i h1 (by omega)
      · by_cases hi : i = w + 1
        · subst hi
          rw [e5, if_neg (by omega), if_pos (by omega), wr_same, show w + 1 - 1 = w from rfl, p1]
        · rw [e5]
          by_cases hh : e < i ∧ i ≤ w
          · rw [if_pos hh, if_pos (by omega), wr_idx _ _ (by omega)]
          · rw [if_neg hh, if_neg (by omega), wr_idx _ _ hi]
theorem v_pick_l {g na : Nat} {o : Int32} (hna : na ≤ 72) : ∀ (m k q mp : Nat) (pk : Nat → Nat) (C : St), k + m = na → m < q → C 26 6 = nI na → PK C 26 o g k mp pk → ∃ C' mp' pk', L_Of_pick_7 q (nI g) o (nI k) C = some C' ∧ PK C' 26 o g na mp' pk' ∧ (∀ j, j ≠ 26 → j ≠ 30 → C' j = C j) ∧ (∀ i, i ≠ 4 → C' 26 i = C 26 i)
  | 0, k, q + 1, mp, pk, C, hk, _, h6, hp => by
    obtain rfl : k = na := by omega
    exact ⟨C, mp, pk, by rw [L_Of_pick_7, h6, if_pos (by rw [nI_leI (by omega) (by omega)]; omega)], hp, fun _ _ _ => rfl, fun _ _ => rfl⟩
  | m + 1, k, q + 1, mp, pk, C, hk, hq, h6, hp => by
    obtain ⟨p1, p2, p3, p4, p5⟩ := hp
    by_cases hg : C 31 k = nI g
    · obtain ⟨e, C1, e1, e2, e3, e4, e5, e6⟩ := v_ins (x := k) (o := o) (pk := pk) (by omega) mp 3000 C (by omega) (by omega) (fun i hi => ⟨(p3 i hi).1, by have := (p3 i hi).2.1; omega⟩)
      have hlt : ∀ i, i < mp → pk i < k := fun i hi => (p3 i hi).2.1
      have hle : ∀ i, i < e → kyA C 26 o (pk i) ≤ kyA C 26 o k := fun i hi => by
        have q1 := e4 (e - 1) (by omega)
        by_cases hie : i = e - 1
        · rw [hie]; exact q1
        · have := p4 i (e - 1) (by omega) (by omega)
          omega
      obtain ⟨C2, hC2⟩ : ∃ C2, C2 = mj_wr (mj_wr C1 30 e (nI k)) 26 4 (nI (mp + 1)) := ⟨_, rfl⟩
      have f2 : ∀ j, j ≠ 26 → j ≠ 30 → C2 j = C j := fun j h1 h2 => by rw [hC2, wr_row _ _ h1, wr_row _ _ h2, e6 j h2]
      have f4 : ∀ i, i ≠ 4 → C2 26 i = C 26 i := fun i hi => by rw [hC2, wr_idx _ _ hi, wr_cell _ _ (by omega), e6 26 (by omega)]
      have ky : ∀ i, kyA C2 26 o i = kyA C 26 o i := fun i => by unfold kyA; rw [f2 28 (by omega) (by omega)]
      have hP : PK C2 26 o g (k + 1) (mp + 1) (insN pk e k) := by
        refine ⟨by rw [hC2, wr_same], by omega, fun i hi => ?_, fun i j hij hj => ?_, fun f => ?_⟩
        · rw [f2 31 (by omega) (by omega)]
          have c30 : C2 30 i = if i = e then nI k else if e < i ∧ i ≤ mp then C 30 (i - 1) else C 30 i := by rw [hC2, wr_row _ _ (by omega), wr_at, e5]
          show C2 30 i = _ ∧ _
          rw [c30]
          unfold insN
          by_cases h1 : i < e
          · have := p3 i (by omega)
            rw [if_neg (by omega), if_neg (by omega), if_pos h1]
            exact ⟨this.1, by omega, this.2.2⟩
          · rw [if_neg h1]
            by_cases h2 : i = e
            · rw [if_pos h2, if_pos h2]
              exact ⟨rfl, by omega, hg⟩
            · have := p3 (i - 1) (by omega)
              rw [if_neg h2, if_neg h2, if_pos (by omega)]
              exact ⟨this.1, by omega, this.2.2⟩
        · rw [ky, ky]
          unfold insN
          by_cases h1 : j < e
          · rw [if_pos (by omega), if_pos h1]
            exact p4 i j hij (by omega)
          · rw [if_neg (c := j < e) h1]
            by_cases h2 : j = e
            · rw [if_pos (c := j = e) h2, if_pos (by omega)]
              have := hle i (by omega)
              have := hlt i (by omega)
              omega
            · rw [if_neg (c := j = e) h2]
              by_cases h3 : i < e
              · rw [if_pos h3]
                exact p4 i (j - 1) (by omega) (by omega)
              · rw [if_neg h3]
                by_cases h4 : i = e
                · rw [if_pos h4]
                  exact Or.inl (e3 (j - 1) (by omega) (by omega))
                · rw [if_neg h4]
                  exact p4 (i - 1) (j - 1) (by omega) (by omega)
        · rw [sm_ins mp e2, p5 f, f2 31 (by omega) (by omega)]
          show _ = sm _ k + (if C 31 k = nI g then f k else 0)
          rw [if_pos hg]
      obtain ⟨C', mp', pk', r1, r2, r3, r4⟩ := v_pick_l hna m (k + 1) q (mp + 1) (insN pk e k) C2 (by omega) (by omega) (by rw [f4 6 (by omega)]; exact h6) hP
      refine ⟨C', mp', pk', ?_, r2, fun j h1 h2 => by rw [r3 j h1 h2, f2 j h1 h2], fun i hi => by rw [r4 i hi, f4 i hi]⟩
      rw [L_Of_pick_7, h6, if_neg (by rw [nI_leI (by omega) (by omega)]; omega), if_pos (inb_t (by omega) (by omega)), nI_clamp (by omega), if_pos hg]
      unfold f_Of_insert
      rw [p1, e1, bd2_s, if_pos (inb_t (by omega) (by omega)), nI_clamp (by omega), wr_cell _ _ (by omega), e6 26 (by omega), p1, l1, nI_add, ← hC2, bd1_s, bd1_s, nI_add]
      exact r1
    · have hP : PK C 26 o g (k + 1) mp pk := by
        refine ⟨p1, by omega, fun i hi => ⟨(p3 i hi).1, by have := (p3 i hi).2.1; omega, (p3 i hi).2.2⟩, p4, fun f => ?_⟩
        rw [p5 f]
        show _ = sm _ k + (if C 31 k = nI g then f k else 0)
        rw [if_neg hg, Int.add_zero]
      obtain ⟨C', mp', pk', r1, r2, r3, r4⟩ := v_pick_l hna m (k + 1) q mp pk C (by omega) (by omega) h6 hP
      refine ⟨C', mp', pk', ?_, r2, r3, r4⟩
      rw [L_Of_pick_7, h6, if_neg (by rw [nI_leI (by omega) (by omega)]; omega), if_pos (inb_t (by omega) (by omega)), nI_clamp (by omega), if_neg hg, bd1_s, l1, nI_add]
      exact r1
theorem v_pick {C : St} {g na : Nat} {o : Int32} (hna : na ≤ 72) (h6 : C 26 6 = nI na) : ∃ C' mp pk, f_Of_pick (nI g) o C = some C' ∧ PK C' 26 o g na mp pk ∧ (∀ j, j ≠ 26 → j ≠ 30 → C' j = C j) ∧ (∀ i, i ≠ 4 → C' 26 i = C 26 i) := by
  obtain ⟨C', mp, pk, r1, r2, r3, r4⟩ := v_pick_l (g := g) (o := o) hna na 0 3000 0 (fun _ => 0) (mj_wr C 26 4 0) (by omega) (by omega) (by rw [wr_idx _ _ (by omega)]; exact h6) ⟨wr_same _ _ _ _, by omega, fun i hi => by omega, fun i j h1 h2 => by omega, fun f => rfl⟩
  refine ⟨C', mp, pk, ?_, r2, fun j h1 h2 => by rw [r3 j h1 h2, wr_row _ _ h1], fun i hi => by rw [r4 i hi, wr_idx _ _ hi]⟩
  unfold f_Of_pick
  rw [show L_Of_pick_7 3000 (nI g) o 0 (mj_wr C 26 4 0) = _ from r1, bd1_s]
theorem v_ins_1 {x : Nat} {o : Int32} {pk : Nat → Nat} (hx : x < 72) : ∀ (w q : Nat) (C : St), w ≤ 71 → w < q → (∀ i, i < w → C 36 i = nI (pk i) ∧ pk i < 72) → ∃ e C', L_Of_insert_1_5 q (nI x) o (nI w) C = some (nI e, C') ∧ e ≤ w ∧ (∀ i, e ≤ i → i < w → kyA C 32 o x < kyA C 32 o (pk i)) ∧ (∀ i, e = i + 1 → kyA C 32 o (pk i) ≤ kyA C 32 o x) ∧ (∀ i, C' 36 i = if e < i ∧ i ≤ w then C 36 (i - 1) else C 36 i) ∧ ∀ j, j ≠ 36 → C' j = C j
  | 0, q + 1, C, _, _, _ => ⟨0, C, by rw [L_Of_insert_1_5, if_pos (by decide)], Nat.le_refl _, fun i h1 h2 => by omega, fun i h => by omega, fun i => by rw [if_neg (by omega)], fun _ _ => rfl⟩
  | w + 1, q + 1, C, hw, hq, hp => by
    obtain ⟨p1, p2⟩ := hp w (by omega)
    have h0 : ¬ (nI (w + 1) ≤ (0 : Int32)) := (nI_gt0 (by omega) (by omega)).1
    by_cases hc : o * C 34 (pk w) ≤ o * C 34 x
    · refine ⟨w + 1, C, ?_, Nat.le_refl _, fun i h1 h2 => by omega, fun i h => ?_, fun i => by rw [if_neg (by omega)], fun _ _ => rfl⟩
      · rw [L_Of_insert_1_5, if_neg h0, nI_m1 (by omega), show w + 1 - 1 = w from rfl, if_pos (inb_t (by omega) (by omega)), nI_clamp (by omega), p1, if_pos (inb_t p2 (by omega)), if_pos (inb_t hx (by omega)), nI_clamp (by omega), nI_clamp (by omega), if_pos hc]
      · obtain rfl : w = i := by omega
        rw [Int32.le_iff_toInt_le] at hc
        exact hc
    · obtain ⟨e, C', e1, e2, e3, e4, e5, e6⟩ := v_ins_1 (x := x) (o := o) (pk := pk) hx w q (mj_wr C 36 (w + 1) (nI (pk w))) (by omega) (by omega) (fun i hi => by rw [wr_idx _ _ (by omega)]; exact hp i (by omega))
      have ek : ∀ i, kyA (mj_wr C 36 (w + 1) (nI (pk w))) 32 o i = kyA C 32 o i := fun i => by unfold kyA; rw [wr_cell _ _ (by omega)]
      simp only [ek] at e3 e4
      refine ⟨e, C', ?_, by omega, fun i h1 h2 => ?_, e4, fun i => ?_, fun j hj => by rw [e6 j hj, wr_row _ _ hj]⟩
      · rw [L_Of_insert_1_5, if_neg h0, nI_m1 (by omega), show w + 1 - 1 = w from rfl, if_pos (inb_t (by omega) (by omega)), nI_clamp (by omega), p1, if_pos (inb_t p2 (by omega)), if_pos (inb_t hx (by omega)), nI_clamp (by omega), nI_clamp (by omega), if_neg hc, if_pos (inb_t (by omega) (by omega)), pk_m1, nI_clamp (by omega)]
        exact e1
      · by_cases hi : i = w
        · subst hi
          rw [Int32.le_iff_toInt_le] at hc
          unfold kyA
          exact Int.not_le.mp hc
        · exact e3 i h1 (by omega)
      · by_cases hi : i = w + 1
        · subst hi
          rw [e5, if_neg (by omega), if_pos (by omega), wr_same, show w + 1 - 1 = w from rfl, p1]
        · rw [e5]
          by_cases hh : e < i ∧ i ≤ w
          · rw [if_pos hh, if_pos (by omega), wr_idx _ _ (by omega)]
          · rw [if_neg hh, if_neg (by omega), wr_idx _ _ hi]
theorem v_pick_l_1 {g na : Nat} {o : Int32} (hna : na ≤ 72) : ∀ (m k q mp : Nat) (pk : Nat → Nat) (C : St), k + m = na → m < q → C 32 6 = nI na → PK C 32 o g k mp pk → ∃ C' mp' pk', L_Of_pick_1_7 q (nI g) o (nI k) C = some C' ∧ PK C' 32 o g na mp' pk' ∧ (∀ j, j ≠ 32 → j ≠ 36 → C' j = C j) ∧ (∀ i, i ≠ 4 → C' 32 i = C 32 i)
  | 0, k, q + 1, mp, pk, C, hk, _, h6, hp => by
    obtain rfl : k = na := by omega
    exact ⟨C, mp, pk, by rw [L_Of_pick_1_7, h6, if_pos (by rw [nI_leI (by omega) (by omega)]; omega)], hp, fun _ _ _ => rfl, fun _ _ => rfl⟩
  | m + 1, k, q + 1, mp, pk, C, hk, hq, h6, hp => by
    obtain ⟨p1, p2, p3, p4, p5⟩ := hp
    by_cases hg : C 37 k = nI g
    · obtain ⟨e, C1, e1, e2, e3, e4, e5, e6⟩ := v_ins_1 (x := k) (o := o) (pk := pk) (by omega) mp 3000 C (by omega) (by omega) (fun i hi => ⟨(p3 i hi).1, by have := (p3 i hi).2.1; omega⟩)
      have hlt : ∀ i, i < mp → pk i < k := fun i hi => (p3 i hi).2.1
      have hle : ∀ i, i < e → kyA C 32 o (pk i) ≤ kyA C 32 o k := fun i hi => by
        have q1 := e4 (e - 1) (by omega)
        by_cases hie : i = e - 1
        · rw [hie]; exact q1
        · have := p4 i (e - 1) (by omega) (by omega)
          omega
      obtain ⟨C2, hC2⟩ : ∃ C2, C2 = mj_wr (mj_wr C1 36 e (nI k)) 32 4 (nI (mp + 1)) := ⟨_, rfl⟩
      have f2 : ∀ j, j ≠ 32 → j ≠ 36 → C2 j = C j := fun j h1 h2 => by rw [hC2, wr_row _ _ h1, wr_row _ _ h2, e6 j h2]
      have f4 : ∀ i, i ≠ 4 → C2 32 i = C 32 i := fun i hi => by rw [hC2, wr_idx _ _ hi, wr_cell _ _ (by omega), e6 32 (by omega)]
      have ky : ∀ i, kyA C2 32 o i = kyA C 32 o i := fun i => by unfold kyA; rw [f2 34 (by omega) (by omega)]
      have hP : PK C2 32 o g (k + 1) (mp + 1) (insN pk e k) := by
        refine ⟨by rw [hC2, wr_same], by omega, fun i hi => ?_, fun i j hij hj => ?_, fun f => ?_⟩
        · rw [f2 37 (by omega) (by omega)]
          have c30 : C2 36 i = if i = e then nI k else if e < i ∧ i ≤ mp then C 36 (i - 1) else C 36 i := by rw [hC2, wr_row _ _ (by omega), wr_at, e5]
          show C2 36 i = _ ∧ _
          rw [c30]
          unfold insN
          by_cases h1 : i < e
          · have := p3 i (by omega)
            rw [if_neg (by omega), if_neg (by omega), if_pos h1]
            exact ⟨this.1, by omega, this.2.2⟩
          · rw [if_neg h1]
            by_cases h2 : i = e
            · rw [if_pos h2, if_pos h2]
              exact ⟨rfl, by omega, hg⟩
            · have := p3 (i - 1) (by omega)
              rw [if_neg h2, if_neg h2, if_pos (by omega)]
              exact ⟨this.1, by omega, this.2.2⟩
        · rw [ky, ky]
          unfold insN
          by_cases h1 : j < e
          · rw [if_pos (by omega), if_pos h1]
            exact p4 i j hij (by omega)
          · rw [if_neg (c := j < e) h1]
            by_cases h2 : j = e
            · rw [if_pos (c := j = e) h2, if_pos (by omega)]
              have := hle i (by omega)
              have := hlt i (by omega)
              omega
            · rw [if_neg (c := j = e) h2]
              by_cases h3 : i < e
              · rw [if_pos h3]
                exact p4 i (j - 1) (by omega) (by omega)
              · rw [if_neg h3]
                by_cases h4 : i = e
                · rw [if_pos h4]
                  exact Or.inl (e3 (j - 1) (by omega) (by omega))
                · rw [if_neg h4]
                  exact p4 (i - 1) (j - 1) (by omega) (by omega)
        · rw [sm_ins mp e2, p5 f, f2 37 (by omega) (by omega)]
          show _ = sm _ k + (if C 37 k = nI g then f k else 0)
          rw [if_pos hg]
      obtain ⟨C', mp', pk', r1, r2, r3, r4⟩ := v_pick_l_1 hna m (k + 1) q (mp + 1) (insN pk e k) C2 (by omega) (by omega) (by rw [f4 6 (by omega)]; exact h6) hP
      refine ⟨C', mp', pk', ?_, r2, fun j h1 h2 => by rw [r3 j h1 h2, f2 j h1 h2], fun i hi => by rw [r4 i hi, f4 i hi]⟩
      rw [L_Of_pick_1_7, h6, if_neg (by rw [nI_leI (by omega) (by omega)]; omega), if_pos (inb_t (by omega) (by omega)), nI_clamp (by omega), if_pos hg]
      unfold f_Of_insert_1
      rw [p1, e1, bd2_s, if_pos (inb_t (by omega) (by omega)), nI_clamp (by omega), wr_cell _ _ (by omega), e6 32 (by omega), p1, l1, nI_add, ← hC2, bd1_s, bd1_s, nI_add]
      exact r1
    · have hP : PK C 32 o g (k + 1) mp pk := by
        refine ⟨p1, by omega, fun i hi => ⟨(p3 i hi).1, by have := (p3 i hi).2.1; omega, (p3 i hi).2.2⟩, p4, fun f => ?_⟩
        rw [p5 f]
        show _ = sm _ k + (if C 37 k = nI g then f k else 0)
        rw [if_neg hg, Int.add_zero]
      obtain ⟨C', mp', pk', r1, r2, r3, r4⟩ := v_pick_l_1 hna m (k + 1) q mp pk C (by omega) (by omega) h6 hP
      refine ⟨C', mp', pk', ?_, r2, r3, r4⟩
      rw [L_Of_pick_1_7, h6, if_neg (by rw [nI_leI (by omega) (by omega)]; omega), if_pos (inb_t (by omega) (by omega)), nI_clamp (by omega), if_neg hg, bd1_s, l1, nI_add]
      exact r1
theorem v_pick_1 {C : St} {g na : Nat} {o : Int32} (hna : na ≤ 72) (h6 : C 32 6 = nI na) : ∃ C' mp pk, f_Of_pick_1 (nI g) o C = some C' ∧ PK C' 32 o g na mp pk ∧ (∀ j, j ≠ 32 → j ≠ 36 → C' j = C j) ∧ (∀ i, i ≠ 4 → C' 32 i = C 32 i) := by
  obtain ⟨C', mp, pk, r1, r2, r3, r4⟩ := v_pick_l_1 (g := g) (o := o) hna na 0 3000 0 (fun _ => 0) (mj_wr C 32 4 0) (by omega) (by omega) (by rw [wr_idx _ _ (by omega)]; exact h6) ⟨wr_same _ _ _ _, by omega, fun i hi => by omega, fun i j h1 h2 => by omega, fun f => rfl⟩
  refine ⟨C', mp, pk, ?_, r2, fun j h1 h2 => by rw [r3 j h1 h2, wr_row _ _ h1], fun i hi => by rw [r4 i hi, wr_idx _ _ hi]⟩
  unfold f_Of_pick_1
  rw [show L_Of_pick_1_7 3000 (nI g) o 0 (mj_wr C 32 4 0) = _ from r1, bd1_s]
