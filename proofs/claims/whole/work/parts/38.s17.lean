/-! PURE: the rule reader: conditions, whole rules -/
def okCond (R : Nat → Int32) : Prop := rg (R 5) 0 7 ∧ ((R 5 = 1 ∨ R 5 = 3 ∨ R 5 = 5 ∨ R 5 = 7) → rg (R 6) 0 4) ∧ rg (R 7) 0 9999
def tlC (v4 : Int32) (C2 : St) : Option (Int32 × St) :=
  bd2 (f_Rr_nextWord C2) fun _v11 C12 =>
    bd1 (f_Rr_isWord 6 C12) fun v14 =>
    if v14 = 0 then
      bd1 (f_Rr_isWord 7 C12) fun v23 =>
      if v23 = 0 then
        some (0, C12)
      else
      bd2 (f_Rr_reads 7 0 9999 (mj_wr C12 22 5 (if v14 = 0 then v4 else v4 + 4 : Int32))) fun v28 C29 =>
      if v28 = 0 ∨ v28 = 1 then
      some (v28, C29)
      else none
    else
    bd2 (f_Rr_reads 7 0 9999 (mj_wr C12 22 5 (if v14 = 0 then v4 else v4 + 4 : Int32))) fun v19 C20 =>
    if v19 = 0 ∨ v19 = 1 then
    some (v19, C20)
    else none
def tlD (C18 : St) : Option St :=
  bd1 (f_Md_reads 62 0 0 0 0 C18) fun v49 =>
        bd1 (
          if v49 = 0 then
            bd1 (f_Md_reads 60 0 0 0 0 C18) fun v52 =>
            if v52 = 0 then
              bd1 (f_Md_fail C18) fun C55 =>
              some C55
            else
            bd1 (f_Md_next C18) fun C57 =>
            some C57
          else
          bd1 (f_Md_next (mj_wr C18 99 5 ((C18 99 5) + 4))) fun C60 =>
          some C60) fun (C62 : St) =>
        bd1 (
          if 0 ≤ (C62 88 16) then
            some C62
          else
          bd2 (f_Md_number 0 9999 C62) fun v66 C67 =>
          some (mj_wr C67 99 7 v66)) fun (C69 : St) =>
        some C69
section RB
variable {T : Nat → Int32} {L : Nat} {C0 D0 C D : St}
theorem tl (hc : TC T L C0) (hd : TD T L D0) (hT : ∀ i, i < L → rg (T i) 0 255) {e q : Nat} (h : JJ T L C0 D0 C D e) (hq : q < 4) (h5 : D 99 5 = nI q) :
    ∃ (b : Int32) (C' D' : St), tlC (nI q) C = some (b, C') ∧ tlD D = some D' ∧ ((b = 0 ∧ FA L C0 D0 C' D') ∨ (b = 1 ∧ (∃ e', JJ T L C0 D0 C' D' e') ∧ ∃ q' k7 : Nat, (q' = q ∨ q' = q + 4) ∧ k7 ≤ 9999 ∧ (∀ i, C' 22 i = if i = 7 then nI k7 else if i = 5 then nI q' else C 22 i) ∧ (∀ i, D' 99 i = if i = 7 then nI k7 else if i = 5 then nI q' else D 99 i))) := by
  have hL := hc.1
  obtain ⟨C1, n1, A1, r1⟩ := jA hc h
  unfold tlC tlD
  rw [n1, bd2_s, (w6 hc hd A1).1, (w6 hc hd A1).2, bd1_s, bd1_s]
  have nf : ¬ ((0 : Int32) ≤ -1) := by decide
  rcases isw_01 (T := T) (kSby.getD 6 []) (wS T L e) (wE T L (wS T L e)) with k6 | k6
  · rw [k6, if_pos i01, if_pos i01, (w7 hc hd A1).1, (w7 hc hd A1).2, bd1_s, bd1_s]
    rcases isw_01 (T := T) (kSby.getD 7 []) (wS T L e) (wE T L (wS T L e)) with k7 | k7
    · obtain ⟨D1, f1, f2⟩ := aF A1
      have g := f2.ge hL
      rw [k7, if_pos i01, if_pos i01, f1, bd1_s, if_pos i01, bd1_s, if_pos g, bd1_s]
      exact ⟨_, _, _, rfl, rfl, Or.inl ⟨rfl, f2⟩⟩
    · obtain ⟨D1, m1, j1, t1⟩ := aJ hd A1
      obtain ⟨b, C2, v, D2, p1, p2, o⟩ := rd hc hd hT (j1.w22 5 (nI q)) (col := 7) (l := 0) (u := 9999) (by omega) (by omega) (by omega)
      rw [k7, if_neg i10, if_neg i10, if_pos i01, show f_Rr_reads 7 0 9999 (mj_wr C1 22 5 (nI q)) = _ from p1, bd2_s, m1, bd1_s, bd1_s, j1.2.2.2.2.1, if_neg nf, show f_Md_number 0 9999 D1 = _ from p2, bd2_s, bd1_s]
      rcases o with ⟨rfl, fa⟩ | ⟨rfl, ⟨e1, j2⟩, ⟨k, rfl, kl, ku⟩, c1, t2, -, -⟩
      · rw [if_pos (Or.inl rfl)]
        exact ⟨_, _, _, rfl, rfl, Or.inl ⟨rfl, fa.w99 7 v⟩⟩
      · rw [if_pos (Or.inr rfl)]
        refine ⟨_, _, _, rfl, rfl, Or.inr ⟨rfl, ⟨e1, j2.w99 7 (nI k)⟩, q, k, Or.inl rfl, ku, fun i => ?_, fun i => ?_⟩⟩
        · rw [c1, wr_at, wr_at, r1]
        · rw [wr_at, t2, t1]
          by_cases g5 : i = 5
          · subst g5; rw [if_neg (by omega), if_neg (by omega), if_pos rfl, h5]
          · rw [if_neg g5]
  · rw [k6, if_neg i10, if_neg i10, h5]
    obtain ⟨D1, m1, j1, t1⟩ := aJ hd (A1.w99 5 (nI q + 4))
    have e4 : nI q + 4 = nI (q + 4) := by rw [l4, nI_add]
    obtain ⟨b, C2, v, D2, p1, p2, o⟩ := rd hc hd hT (j1.w22 5 (nI (q + 4))) (col := 7) (l := 0) (u := 9999) (by omega) (by omega) (by omega)
    rw [if_neg i10, e4, show f_Rr_reads 7 0 9999 (mj_wr C1 22 5 (nI (q + 4))) = _ from p1, bd2_s, ← e4, m1, bd1_s, bd1_s, j1.2.2.2.2.1, if_neg nf, show f_Md_number 0 9999 D1 = _ from p2, bd2_s, bd1_s]
    rcases o with ⟨rfl, fa⟩ | ⟨rfl, ⟨e1, j2⟩, ⟨k, rfl, kl, ku⟩, c1, t2, -, -⟩
    · rw [if_pos (Or.inl rfl)]
      exact ⟨_, _, _, rfl, rfl, Or.inl ⟨rfl, fa.w99 7 v⟩⟩
    · rw [if_pos (Or.inr rfl)]
      refine ⟨_, _, _, rfl, rfl, Or.inr ⟨rfl, ⟨e1, j2.w99 7 (nI k)⟩, q + 4, k, Or.inr rfl, ku, fun i => ?_, fun i => ?_⟩⟩
      · rw [c1, wr_at, wr_at, r1]
      · rw [wr_at, t2, t1, wr_at, e4]
def CR (T : Nat → Int32) (L : Nat) (C0 D0 C D : St) : Prop := ∃ (b : Int32) (C' D' : St), f_Rr_readsCond C = some (b, C') ∧ f_Md_readCond D = some D' ∧ ((b = 0 ∧ FA L C0 D0 C' D') ∨ (b = 1 ∧ (∃ e', JJ T L C0 D0 C' D' e') ∧ (∀ i, i < 5 ∨ i = 8 → C' 22 i = C 22 i ∧ D' 99 i = D 99 i) ∧ (∀ i, 5 ≤ i → i < 8 → (i = 6 → C 22 i = D 99 i) → C' 22 i = D' 99 i) ∧ okCond (C' 22)))
theorem rcond (hc : TC T L C0) (hd : TD T L D0) (hT : ∀ i, i < L → rg (T i) 0 255) {e : Nat} (h : JJ T L C0 D0 C D e) : CR T L C0 D0 C D := by
  have hL := hc.1
  obtain ⟨C2, n1, A1, r1⟩ := jA hc h
  obtain ⟨a, v1, v3, v5, v9, a0, a1, a3, a5, a9, ho⟩ := conds hc hd A1
  have nf : ¬ ((0 : Int32) ≤ -1) := by decide
  have mk : ∀ (q : Nat), q < 4 → ∃ D18, f_Md_next (mj_wr D 99 5 (nI q)) = some D18 ∧ JJ T L C0 D0 C2 D18 (wE T L (wS T L e)) ∧ D18 99 = mj_wr D 99 5 (nI q) 99 := fun q hq => aJ hd (A1.w99 5 (nI q))
  have plain : ∀ q : Nat, (q = 0 ∨ q = 2) → (∀ x : Option (Int32 × St), f_Rr_readsCond C = tlC (nI q) C2) → (∀ D18, f_Md_next (mj_wr D 99 5 (nI q)) = some D18 → f_Md_readCond D = tlD D18) → CR T L C0 D0 C D := by
    intro q hq hC hD
    obtain ⟨D18, m1, j1, t1⟩ := mk q (by omega)
    obtain ⟨b, C', D', g1, g2, g3⟩ := tl hc hd hT j1 (q := q) (by omega) (by rw [t1, wr_same])
    refine ⟨b, C', D', by rw [hC none]; exact g1, by rw [hD D18 m1]; exact g2, ?_⟩
    rcases g3 with g3 | ⟨gb, gj, q', k7, hq', hk7, cc, dd⟩
    · exact Or.inl g3
    · refine Or.inr ⟨gb, gj, fun i hi => ⟨?_, ?_⟩, fun i h5 h8 h6 => ?_, ?_⟩
      · rw [cc, if_neg (by omega), if_neg (by omega), r1]
      · rw [dd, if_neg (by omega), if_neg (by omega), t1, wr_idx _ _ (by omega)]
      · rw [cc, dd]
        by_cases q7 : i = 7
        · rw [if_pos q7, if_pos q7]
        · rw [if_neg q7, if_neg q7]
          by_cases q5 : i = 5
          · rw [if_pos q5, if_pos q5]
          · rw [if_neg q5, if_neg q5, r1, t1, wr_idx _ _ q5]; exact h6 (by omega)
      · have x5 : C' 22 5 = nI q' := cc 5
        have x7 : C' 22 7 = nI k7 := cc 7
        unfold okCond rg
        rw [x5, x7, nI_toInt (by omega), nI_toInt (by omega)]
        refine ⟨by omega, fun w => ?_, by omega⟩
        exfalso
        rw [l1, l3, l5, l7, nI_eq (by omega) (by omega), nI_eq (by omega) (by omega), nI_eq (by omega) (by omega), nI_eq (by omega) (by omega)] at w
        omega
  have good : ∀ q : Nat, (q = 1 ∨ q = 3) → (∀ C33 b, f_Rr_reads 6 0 4 C2 = some (b, C33) → f_Rr_readsCond C = if b = 0 then some (0, C33) else tlC (nI q) C33) → (∀ D18, f_Md_next (mj_wr D 99 5 (nI q)) = some D18 → ∀ v D22, f_Md_number 0 4 D18 = some (v, D22) → f_Md_readCond D = if (mj_wr D22 99 6 v 88 16) < 0 then tlD (mj_wr D22 99 6 v) else some (mj_wr D22 99 6 v)) → CR T L C0 D0 C D := by
    intro q hq hC hD
    obtain ⟨D18, m1, j1, t1⟩ := mk q (by omega)
    obtain ⟨b, C33, v, D22, p1, p2, o⟩ := rd hc hd hT j1 (col := 6) (l := 0) (u := 4) (by omega) (by omega) (by omega)
    have hC' := hC C33 b p1
    have hD' := hD D18 m1 v D22 p2
    unfold CR
    rw [hC', hD']
    rcases o with ⟨rfl, fa⟩ | ⟨rfl, ⟨e1, j2⟩, ⟨k, rfl, kl, ku⟩, c1, t2, -, -⟩
    · have g := (fa.w99 6 v).ge hL
      rw [if_pos i01, if_neg (by rw [Int32.le_iff_toInt_le] at g; rw [Int32.lt_iff_toInt_lt]; omega)]
      exact ⟨_, _, _, rfl, rfl, Or.inl ⟨rfl, fa.w99 6 v⟩⟩
    · have j2' := j2.w99 6 (nI k)
      obtain ⟨b, C', D', g1, g2, g3⟩ := tl hc hd hT j2' (q := q) (by omega) (by rw [wr_idx _ _ (by omega), t2, t1, wr_same])
      rw [if_neg i10, j2'.2.2.2.2.1, if_pos (by decide)]
      refine ⟨b, C', D', g1, g2, ?_⟩
      rcases g3 with g3 | ⟨gb, gj, q', k7, hq', hk7, cc, dd⟩
      · exact Or.inl g3
      · refine Or.inr ⟨gb, gj, fun i hi => ⟨?_, ?_⟩, fun i h5 h8 h6 => ?_, ?_⟩
        · rw [cc, if_neg (by omega), if_neg (by omega), c1, wr_at, if_neg (by omega), r1]
        · rw [dd, if_neg (by omega), if_neg (by omega), wr_idx _ _ (by omega), t2, t1, wr_idx _ _ (by omega)]
        · rw [cc, dd]
          by_cases q7 : i = 7
          · rw [if_pos q7, if_pos q7]
          · rw [if_neg q7, if_neg q7]
            by_cases q5 : i = 5
            · rw [if_pos q5, if_pos q5]
            · obtain rfl : i = 6 := by omega
              rw [if_neg q5, if_neg q5, c1, wr_same, wr_same]
        · have x5 : C' 22 5 = nI q' := cc 5
          have x7 : C' 22 7 = nI k7 := cc 7
          have x6 : C' 22 6 = nI k := by rw [cc 6, if_neg (by omega), if_neg (by omega), c1, wr_same]
          unfold okCond rg
          rw [x5, x7, x6, nI_toInt (by omega), nI_toInt (by omega), nI_toInt (by omega)]
          exact ⟨by omega, fun w => by omega, by omega⟩
  rcases ho with ⟨rfl, rfl, rfl, rfl, rfl⟩ | ⟨rfl, rfl, rfl, rfl⟩ | ⟨rfl, rfl, rfl⟩ | ⟨rfl, rfl, rfl, rfl, rfl⟩ | ⟨rfl, rfl, rfl, rfl, rfl⟩
  · obtain ⟨D1, f1, f2⟩ := aF (A1.w99 5 (-1))
    refine ⟨0, C2, D1, ?_, ?_, Or.inl ⟨rfl, f2⟩⟩
    · unfold f_Rr_readsCond
      rw [n1, bd2_s, a0, bd1_s, if_pos rfl]
    · unfold f_Md_readCond
      rw [a1, bd1_s, a3, bd1_s, a5, bd1_s, if_pos i01, if_pos i01, a9, bd1_s, if_pos i01, if_pos i01, bd1_s, wr_same, if_neg nf, f1, bd1_s]
  · refine plain 0 (by omega) (fun _ => ?_) (fun D18 m1 => ?_)
    · unfold f_Rr_readsCond
      rw [n1, bd2_s, a0, bd1_s, if_neg (by decide), if_pos (by decide)]
      rfl
    · unfold f_Md_readCond
      rw [a1, bd1_s, a3, bd1_s, a5, bd1_s, if_neg i10, bd1_s, wr_same, if_pos (by decide), show f_Md_next (mj_wr D 99 5 0) = _ from m1, bd1_s, if_pos i01, if_pos i01]
      rfl
  · refine good 1 (by omega) (fun C33 b p1 => ?_) (fun D18 m1 v D22 p2 => ?_)
    · unfold f_Rr_readsCond
      rw [n1, bd2_s, a0, bd1_s, if_neg (by decide), if_neg (by decide), p1, bd2_s]
      rfl
    · unfold f_Md_readCond
      rw [a1, bd1_s, a3, bd1_s, a5, bd1_s, if_pos i01, if_neg i10, bd1_s, wr_same, if_pos (by decide), show f_Md_next (mj_wr D 99 5 1) = _ from m1, bd1_s, if_neg i10, p2, bd2_s]
      rfl
  · refine plain 2 (by omega) (fun _ => ?_) (fun D18 m1 => ?_)
    · unfold f_Rr_readsCond
      rw [n1, bd2_s, a0, bd1_s, if_neg (by decide), if_pos (by decide)]
      rfl
    · unfold f_Md_readCond
      rw [a1, bd1_s, a3, bd1_s, a5, bd1_s, if_pos i01, if_pos i01, a9, bd1_s, if_neg i10, bd1_s, wr_same, if_pos (by decide), show f_Md_next (mj_wr D 99 5 2) = _ from m1, bd1_s, if_pos i01, if_pos i01]
      rfl
  · refine good 3 (by omega) (fun C33 b p1 => ?_) (fun D18 m1 v D22 p2 => ?_)
    · unfold f_Rr_readsCond
      rw [n1, bd2_s, a0, bd1_s, if_neg (by decide), if_neg (by decide), p1, bd2_s]
      rfl
    · unfold f_Md_readCond
      rw [a1, bd1_s, a3, bd1_s, a5, bd1_s, if_pos i01, if_pos i01, a9, bd1_s, if_pos i01, if_neg i10, bd1_s, wr_same, if_pos (by decide), show f_Md_next (mj_wr D 99 5 3) = _ from m1, bd1_s, if_pos i01, if_neg i10, p2, bd2_s]
      rfl
end RB
