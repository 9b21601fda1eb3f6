/-! PURE: the rule reader: whole rules; rule -/
def finC (x2 x3 : Int32) (C4 : St) : Option (Int32 × St) :=
  bd2 (f_Rr_readsAct x2 x3 C4) fun v12 C13 =>
      bd2 (
        if v12 = 0 then
          some (0, C13)
        else
        bd2 (f_Rr_nextWord C13) fun v16 C17 =>
        if v16 = 0 then
          some (1, C17)
        else
        some (0, C17)) fun (w20 : Int32) (C21 : St) =>
      if w20 = 0 ∨ w20 = 1 then
      some (w20, C21)
      else none
def finD (x1 : Int32) (C29 : St) : Option (Int32 × St) :=
  bd1 (
    if 0 ≤ (C29 88 16) then
      some C29
    else
    bd1 (f_Md_readAct x1 C29) fun C33 =>
    some C33) fun (C35 : St) =>
  bd1 (
    if 0 ≤ (C35 88 16) then
      some C35
    else
    if (C35 88 12) ≤ (C35 88 14) then
      some C35
    else
    bd1 (f_Md_fail C35) fun C40 =>
    some C40) fun (C42 : St) =>
  some (C42 88 16, C42)
def restC (x2 x3 : Int32) (C4 : St) : Option (Int32 × St) :=
  bd1 (f_Rr_isWord 1 C4) fun v9 =>
    if v9 = 0 then
      finC x2 x3 C4
    else
    bd2 (f_Rr_readsCond C4) fun v25 C26 =>
    if v25 = 0 then
      some (0, C26)
    else
    bd2 (f_Rr_nextWord C26) fun v29 C30 =>
    if v29 = 0 then
      some (0, C30)
    else
    finC x2 x3 C30
def restD (x1 : Int32) (C18 : St) : Option (Int32 × St) :=
  bd1 (
    if 0 ≤ (C18 88 16) then
      some C18
    else
    bd1 (f_Md_reads 105 102 0 0 0 C18) fun v22 =>
    if v22 = 0 then
      some C18
    else
    bd1 (f_Md_next C18) fun C25 =>
    bd1 (f_Md_readCond C25) fun C27 =>
    some C27) fun (C29 : St) => finD x1 C29
/-- what a row may be before its act is read, and behind it -/
def okPre (R : Nat → Int32) : Prop := rg (R 4) 1 99 ∧ (R 5 = -1000000005 ∨ okCond R) ∧ R 8 = 0
section RF
variable {T : Nat → Int32} {L : Nat} {C0 D0 C D : St}
def RR (L : Nat) (C0 D0 : St) (n a : Nat) (b : Int32) (C' : St) (f : Int32) (D' : St) : Prop := (b = 0 ∧ ∃ s, s ≤ L ∧ C' 21 1 = nI s ∧ f = nI s ∧ FC C0 C' ∧ FD D0 D') ∨ (b = 1 ∧ f = -1 ∧ FC C0 C' ∧ FD D0 D' ∧ (∀ i, i < 9 → C' 22 i = D' 99 i) ∧ okAct (C' 22) n a ∧ okPre (C' 22))
theorem finD_f {x1 : Int32} (h : 0 ≤ D 88 16) : finD x1 D = some (D 88 16, D) := by
  unfold finD
  rw [if_pos h, bd1_s, if_pos h, bd1_s]
theorem restD_f {x1 : Int32} (h : 0 ≤ D 88 16) : restD x1 D = some (D 88 16, D) := by
  unfold restD
  rw [if_pos h, bd1_s, finD_f h]
theorem FA.rr (h : FA L C0 D0 C D) {n a : Nat} : RR L C0 D0 n a 0 C (D 88 16) D := by
  obtain ⟨s, h1, h2, h3, h4, h5⟩ := h
  exact Or.inl ⟨rfl, s, h1, h2, h3, h4, h5⟩
theorem fin (hc : TC T L C0) (hd : TD T L D0) (hT : ∀ i, i < L → rg (T i) 0 255) {s e n a : Nat} (h : AA L C0 D0 C D s e) (hn : n ≤ 12) (ha : a < n) (hN : D0 89 2163 = nI n) (hr : ∀ i, i < 9 → i ≠ 0 → C 22 i = D 99 i) (hp : okPre (C 22)) : ∃ (b : Int32) (C' : St) (f : Int32) (D' : St), finC (nI a) (nI n) C = some (b, C') ∧ finD (nI a) D = some (f, D') ∧ RR L C0 D0 n a b C' f D' := by
  have hL := hc.1
  have nf : ¬ ((0 : Int32) ≤ -1) := by decide
  obtain ⟨⟨b, C1, D1, a1, a2, o⟩, -⟩ := ract hc hd hT h hn ha hN
  have h6 : D 88 16 = -1 := h.2.2.2.2.2.2.2.1
  unfold finC finD
  rw [a1, bd2_s, h6, if_neg nf, a2, bd1_s, bd1_s]
  rcases o with ⟨rfl, fa⟩ | ⟨rfl, ⟨e1, j1⟩, r1, r2, r3⟩
  · rw [if_pos i01, bd2_s, if_pos (Or.inl rfl), if_pos (fa.ge hL), bd1_s]
    exact ⟨_, _, _, _, rfl, rfl, fa.rr⟩
  · obtain ⟨C2, n1, A1, q1⟩ := jA hc j1
    have hj := j1
    obtain ⟨g1, g2, g3, g4, g5, g6, g7⟩ := j1
    have g12 : D1 88 12 = nI L := (g7.td hd).2.1
    have w1 := wS_le (T := T) g1
    rw [if_neg i10, n1, bd2_s, g5, if_neg nf, g12, g3]
    by_cases hh : wS T L e1 < L
    · obtain ⟨D2, f1, f2⟩ := aF A1
      rw [if_pos hh, if_neg i10, bd2_s, if_pos (Or.inl rfl), if_neg (nI_ge hh (by omega)), f1, bd1_s, bd1_s]
      exact ⟨_, _, _, _, rfl, rfl, f2.rr⟩
    · rw [if_neg hh, if_pos i01, bd2_s, if_pos (Or.inr rfl), if_pos (nI_le (by omega) (by omega)), bd1_s, g5]
      refine ⟨_, _, _, _, rfl, rfl, Or.inr ⟨rfl, rfl, A1.2.2.2.2.2.2.2.2.1, g7, fun i hi => ?_, ?_, ?_⟩⟩
      · rw [q1]; exact r1 i (hr i hi)
      · rw [q1]; exact r3
      · rw [q1]
        unfold okPre okCond at hp ⊢
        rw [r2 4 (by omega), r2 5 (by omega), r2 6 (by omega), r2 7 (by omega), r2 8 (by omega)]
        exact hp
/-- an empty word where an act is wanted -/
theorem fin_e (hc : TC T L C0) (hd : TD T L D0) (hT : ∀ i, i < L → rg (T i) 0 255) {s e n a : Nat} (h : AA L C0 D0 C D s e) (hn : n ≤ 12) (ha : a < n) (hN : D0 89 2163 = nI n) (hse : s = e) : ∃ (f : Int32) (D' : St), finD (nI a) D = some (f, D') ∧ RR L C0 D0 n a 0 C f D' := by
  have hL := hc.1
  have nf : ¬ ((0 : Int32) ≤ -1) := by decide
  obtain ⟨-, he⟩ := ract hc hd hT h hn ha hN
  obtain ⟨D1, f1, f2⟩ := he hse
  have h6 : D 88 16 = -1 := h.2.2.2.2.2.2.2.1
  unfold finD
  rw [h6, if_neg nf, f1, bd1_s, bd1_s, if_pos (f2.ge hL), bd1_s]
  exact ⟨_, _, rfl, f2.rr⟩
theorem rest (hc : TC T L C0) (hd : TD T L D0) (hT : ∀ i, i < L → rg (T i) 0 255) {s e n a : Nat} (h : AA L C0 D0 C D s e) (hn : n ≤ 12) (ha : a < n) (hN : D0 89 2163 = nI n) (hr : ∀ i, i < 9 → i ≠ 0 → C 22 i = D 99 i) (hp : okPre (C 22)) : ∃ (b : Int32) (C' : St) (f : Int32) (D' : St), restC (nI a) (nI n) C = some (b, C') ∧ restD (nI a) D = some (f, D') ∧ RR L C0 D0 n a b C' f D' := by
  have hL := hc.1
  have nf : ¬ ((0 : Int32) ≤ -1) := by decide
  have h6 : D 88 16 = -1 := h.2.2.2.2.2.2.2.1
  unfold restC restD
  rw [h6, if_neg nf, (w1 hc hd h).1, (w1 hc hd h).2, bd1_s, bd1_s]
  rcases isw_01 (T := T) (kSby.getD 1 []) s e with k1 | k1
  · rw [k1, if_pos i01, if_pos i01, bd1_s]
    exact fin hc hd hT h hn ha hN hr hp
  · obtain ⟨D25, m1, j1, t1⟩ := aJ hd h
    obtain ⟨b, C1, D1, c1, c2, o⟩ := rcond hc hd hT j1
    rw [k1, if_neg i10, if_neg i10, m1, bd1_s, c1, bd2_s, c2, bd1_s, bd1_s]
    rcases o with ⟨rfl, fa⟩ | ⟨rfl, ⟨e1, j2⟩, r1, r2, r3⟩
    · rw [if_pos i01, finD_f (fa.ge hL)]
      exact ⟨_, _, _, _, rfl, rfl, fa.rr⟩
    · obtain ⟨C2, n1, A1, q1⟩ := jA hc j2
      rw [if_neg i10, n1, bd2_s]
      have w1 := wS_le (T := T) j2.1
      by_cases hh : wS T L e1 < L
      · rw [if_pos hh, if_neg i10]
        refine fin hc hd hT A1 hn ha hN (fun i hi h0 => ?_) ?_
        · rw [q1]
          by_cases h5 : 5 ≤ i ∧ i < 8
          · exact r2 i h5.1 h5.2 (fun h6 => by rw [t1]; exact hr i hi h0)
          · rw [(r1 i (by omega)).1, (r1 i (by omega)).2, t1]; exact hr i hi h0
        · rw [q1]
          unfold okPre at hp ⊢
          rw [(r1 4 (by omega)).1, (r1 8 (by omega)).1]
          exact ⟨hp.1, Or.inr r3, hp.2.2⟩
      · have w2 := wE_le (T := T) (L := L) (p := wS T L e1) w1.2
        obtain ⟨f, D2, g1, g2⟩ := fin_e hc hd hT A1 hn ha hN (by omega)
        rw [if_neg hh, if_pos i01]
        exact ⟨_, _, _, _, rfl, g1, g2⟩
end RF
theorem v_clr_l : ∀ (m k n : Nat) (C : St), k + m = 9 → m < n → ∃ C', L_Rr_clearRow_2 n (nI k) C = some C' ∧ (∀ j, j ≠ 22 → C' j = C j) ∧ (∀ i, i < 9 → C' 22 i = if k ≤ i then -1000000005 else C 22 i)
  | 0, k, n + 1, C, hk, hn => by
    obtain rfl : k = 9 := by omega
    unfold L_Rr_clearRow_2
    rw [if_pos (by decide)]
    exact ⟨C, rfl, fun j _ => rfl, fun i hi => by rw [if_neg (by omega)]⟩
  | m + 1, k, n + 1, C, hk, hn => by
    unfold L_Rr_clearRow_2
    rw [if_neg (by rw [l9]; exact nI_ge (by omega) (by omega)), if_pos (inb_t (by omega) (by omega)), nI_clamp (by omega), nI_1]
    obtain ⟨C', e1, e2, e3⟩ := v_clr_l m (k + 1) n (mj_wr C 22 k (-1000000005)) (by omega) (by omega)
    refine ⟨C', e1, fun j hj => by rw [e2 j hj, wr_row _ _ hj], fun i hi => ?_⟩
    rw [e3 i hi, wr_at]
    by_cases h1 : k + 1 ≤ i
    · rw [if_pos h1, if_pos (by omega)]
    · rw [if_neg h1]
      by_cases h2 : i = k
      · rw [if_pos h2, if_pos (by omega)]
      · rw [if_neg h2, if_neg (by omega)]
theorem m_clr_l (x : Int32) : ∀ (m k n : Nat) (C : St), k + m = 9 → m < n → ∃ C', L_Md_read_12 n x (nI k) C = some C' ∧ (∀ j, j ≠ 99 → C' j = C j) ∧ (∀ i, i < 9 → C' 99 i = if k ≤ i then (if i = 0 then 0 else if i = 8 then 0 else -1000000005) else C 99 i)
  | 0, k, n + 1, C, hk, hn => by
    obtain rfl : k = 9 := by omega
    unfold L_Md_read_12
    rw [if_pos (by decide)]
    exact ⟨C, rfl, fun j _ => rfl, fun i hi => by rw [if_neg (by omega)]⟩
  | m + 1, k, n + 1, C, hk, hn => by
    have ev : (if nI k ≤ 0 then 0 else (if 8 ≤ nI k then 0 else (-1000000005) : Int32) : Int32) = (if k = 0 then 0 else if k = 8 then 0 else -1000000005 : Int32) := by
      rcases (show k = 0 ∨ k = 1 ∨ k = 2 ∨ k = 3 ∨ k = 4 ∨ k = 5 ∨ k = 6 ∨ k = 7 ∨ k = 8 by omega) with rfl | rfl | rfl | rfl | rfl | rfl | rfl | rfl | rfl <;> decide
    unfold L_Md_read_12
    rw [if_neg (by rw [l9]; exact nI_ge (by omega) (by omega)), if_pos (inb_t (by omega) (by omega)), nI_clamp (by omega), nI_1, ev]
    obtain ⟨C', e1, e2, e3⟩ := m_clr_l x m (k + 1) n (mj_wr C 99 k (if k = 0 then 0 else if k = 8 then 0 else -1000000005)) (by omega) (by omega)
    refine ⟨C', e1, fun j hj => by rw [e2 j hj, wr_row _ _ hj], fun i hi => ?_⟩
    rw [e3 i hi, wr_at]
    by_cases h1 : k + 1 ≤ i
    · rw [if_pos h1, if_pos (show k ≤ i by omega)]
    · rw [if_neg h1]
      by_cases h2 : i = k
      · subst h2; rw [if_pos rfl, if_pos (show i ≤ i by omega)]
      · rw [if_neg h2, if_neg (show ¬ k ≤ i by omega)]
/-- THE WHOLE READING -/
theorem reading {T : Nat → Int32} {L : Nat} {C D : St} (hc : TC T L C) (hd : TD T L D) (hT : ∀ i, i < L → rg (T i) 0 255) {n a : Nat} (hn : n ≤ 12) (ha : a < n) (hN : D 89 2163 = nI n) : ∃ (b : Int32) (C' : St) (f : Int32) (D' : St), f_Rr_understands (nI a) (nI n) C = some (b, C') ∧ f_Md_read (nI a) D = some (f, D') ∧ RR L C D n a b C' f D' := by
  have hL := hc.1
  have nf : ¬ ((0 : Int32) ≤ -1) := by decide
  obtain ⟨C1, e1, e2, e3⟩ := v_clr_l 9 0 3000 C rfl (by omega)
  have eC : f_Rr_clearRow C = some (mj_wr (mj_wr C1 22 4 1) 22 8 0) := by
    unfold f_Rr_clearRow
    rw [show L_Rr_clearRow_2 3000 0 C = _ from e1, bd1_s]
  have rC : ∀ i, i < 9 → mj_wr (mj_wr C1 22 4 1) 22 8 0 22 i = if i = 8 then 0 else if i = 4 then 1 else -1000000005 := fun i hi => by
    rw [wr_at, wr_at, e3 i hi, if_pos (Nat.zero_le _)]
  obtain ⟨D1, d1, d2, d3⟩ := m_clr_l (nI a) 9 0 3000 (mj_wr (mj_wr D 88 16 (-1)) 88 15 0) rfl (by omega)
  have rD : ∀ i, i < 9 → mj_wr D1 99 4 1 99 i = if i = 4 then 1 else if i = 0 then 0 else if i = 8 then 0 else -1000000005 := fun i hi => by
    rw [wr_at, d3 i hi, if_pos (Nat.zero_le _)]
  have f88 : ∀ i, (mj_wr D1 99 4 1) 88 i = if i = 15 then 0 else if i = 16 then -1 else D 88 i := fun i => by
    rw [wr_cell _ _ (by omega), d2 88 (by omega), wr_at, wr_at]
  have fD : FD D (mj_wr D1 99 4 1) := ⟨fun j h1 h2 => by rw [wr_row _ _ h2, d2 j h2, wr_row _ _ h1, wr_row _ _ h1], fun i hi => by rw [f88, if_neg (by omega), if_neg (by omega)]⟩
  have hd' : TD T L (mj_wr D1 99 4 1) := fD.td hd
  obtain ⟨D8, m1, m2, m3, m4, m5⟩ := m_next hd' (p := 0) (by omega) (by rw [f88, if_pos rfl]; rfl)
  have fC : FC C (mj_wr (mj_wr (mj_wr C1 22 4 1) 22 8 0) 21 2 0) := fun j h1 h2 => by rw [wr_row _ _ h1, wr_row _ _ h2, wr_row _ _ h2, e2 j h2]
  have J0 : JJ T L C D (mj_wr (mj_wr (mj_wr C1 22 4 1) 22 8 0) 21 2 0) D8 0 := by
    refine ⟨by omega, wr_same _ _ _ _, m2, m3, ?_, fC, ⟨fun j h1 h2 => by rw [m4 j h1]; exact fD.1 j h1 h2, fun i hi => by rw [m5 i (by omega) (by omega) (by omega)]; exact fD.2 i hi⟩⟩
    rw [m5 16 (by omega) (by omega) (by omega), f88, if_neg (by omega), if_pos rfl]
  obtain ⟨C4, n1, A1, q1⟩ := jA hc J0
  have rC4 : ∀ i, i < 9 → C4 22 i = if i = 8 then 0 else if i = 4 then 1 else -1000000005 := fun i hi => by
    rw [q1, wr_row _ _ (by omega)]; exact rC i hi
  have rD8 : ∀ i, i < 9 → D8 99 i = if i = 4 then 1 else if i = 0 then 0 else if i = 8 then 0 else -1000000005 := fun i hi => by
    rw [m4 99 (by omega)]; exact rD i hi
  have hr : ∀ i, i < 9 → i ≠ 0 → C4 22 i = D8 99 i := fun i hi h0 => by
    rw [rC4 i hi, rD8 i hi, if_neg h0]
    by_cases h4 : i = 4
    · subst h4; rw [if_neg (by omega), if_pos rfl, if_pos rfl]
    · rw [if_neg h4, if_neg h4]
  have hp : okPre (C4 22) := by
    unfold okPre
    rw [rC4 4 (by omega), rC4 5 (by omega), rC4 8 (by omega)]
    exact ⟨⟨by decide, by decide⟩, Or.inl rfl, rfl⟩
  have eU : f_Rr_understands (nI a) (nI n) C = bd1 (f_Rr_isWord 0 C4) fun v6 => if v6 = 0 then restC (nI a) (nI n) C4 else bd2 (f_Rr_reads 4 1 99 C4) fun v46 C47 => if v46 = 0 then some (0, C47) else bd2 (f_Rr_nextWord C47) fun v50 C51 => if v50 = 0 then some (0, C51) else restC (nI a) (nI n) C51 := by
    unfold f_Rr_understands
    rw [eC, bd1_s, n1, bd2_s]
    rfl
  have eR : f_Md_read (nI a) D = bd1 (f_Md_reads 101 118 101 114 121 D8) fun v10 => bd1 (if v10 = 0 then some D8 else bd1 (f_Md_next D8) fun C13 => bd2 (f_Md_number 1 99 C13) fun v15 C16 => some (mj_wr C16 99 4 v15)) fun (C18 : St) => restD (nI a) C18 := by
    unfold f_Md_read
    rw [show L_Md_read_12 3000 (nI a) 0 (mj_wr (mj_wr D 88 16 (-1)) 88 15 0) = _ from d1, bd1_s, m1, bd1_s]
    rfl
  rw [eU, eR, (w0 hc hd A1).1, (w0 hc hd A1).2, bd1_s, bd1_s]
  rcases isw_01 (T := T) (kSby.getD 0 []) (wS T L 0) (wE T L (wS T L 0)) with k0 | k0
  · rw [k0, if_pos i01, if_pos i01, bd1_s]
    exact rest hc hd hT A1 hn ha hN hr hp
  · obtain ⟨D13, p1, j1, t1⟩ := aJ hd A1
    obtain ⟨b, C47, v, D16, g1, g2, o⟩ := rd hc hd hT j1 (col := 4) (l := 1) (u := 99) (by omega) (by omega) (by omega)
    rw [k0, if_neg i10, if_neg i10, show f_Rr_reads 4 1 99 C4 = _ from g1, bd2_s, p1, bd1_s, show f_Md_number 1 99 D13 = _ from g2, bd2_s, bd1_s]
    rcases o with ⟨rfl, fa⟩ | ⟨rfl, ⟨e', j2⟩, ⟨k, rfl, kl, ku⟩, c1, t2, -, -⟩
    · rw [if_pos i01, restD_f ((fa.w99 4 v).ge hL)]
      exact ⟨_, _, _, _, rfl, rfl, (fa.w99 4 v).rr⟩
    · have j2' := j2.w99 4 (nI k)
      obtain ⟨C51, n2, A2, q2⟩ := jA hc j2'
      have rr : ∀ i, i < 9 → i ≠ 0 → C51 22 i = mj_wr D16 99 4 (nI k) 99 i := fun i hi h0 => by
        rw [q2, c1, wr_at, wr_at, t2, t1]
        by_cases h4 : i = 4
        · rw [if_pos h4, if_pos h4]
        · rw [if_neg h4, if_neg h4]; exact hr i hi h0
      have pp : okPre (C51 22) := by
        unfold okPre okCond at hp ⊢
        rw [q2, c1, wr_at, wr_at, wr_at, wr_at, wr_at, if_pos rfl, if_neg (by omega), if_neg (by omega), if_neg (by omega), if_neg (by omega)]
        exact ⟨rg_of (by omega) (by omega) (by omega), hp.2⟩
      have w1' := wS_le (T := T) j2.1
      rw [if_neg i10, n2, bd2_s]
      by_cases hh : wS T L e' < L
      · rw [if_pos hh, if_neg i10]
        exact rest hc hd hT A2 hn ha hN rr pp
      · have w2' := wE_le (T := T) (L := L) (p := wS T L e') w1'.2
        obtain ⟨f, D2, z1, z2⟩ := fin_e hc hd hT A2 hn ha hN (by omega)
        rw [if_neg hh, if_pos i01]
        refine ⟨_, _, _, _, rfl, ?_, z2⟩
        unfold restD
        rw [A2.2.2.2.2.2.2.2.1, if_neg nf, (w1 hc hd A2).2, bd1_s, isw_e (by omega) (by decide), if_pos i01, bd1_s]
        exact z1
/-- a RULE laid down -/
theorem rt_row {C D : St} (h : RT C D 0 89 0) {p : Nat} (hp : p + 9 ≤ 648) {C' D' : St} (hC : ∀ j, j ≠ 14 → C' j = C j) (hC14 : ∀ i, C' 14 i = if p ≤ i ∧ i < p + 9 then C 22 (i - p) else C 14 i) (hD : ∀ i, D' 89 i = if 660 + p ≤ i ∧ i < 660 + p + 9 then D 99 (i - (660 + p)) else D 89 i) (hr : ∀ i, i < 9 → C 22 i = D 99 i) : RT C' D' 0 89 0 := by
  have kd : ∀ i, (i < 660 ∨ 1308 ≤ i) → D' 89 i = D 89 i := fun i hi => by rw [hD, if_neg (by omega)]
  obtain ⟨r1, rA, rP, rR, rW, rL, rB⟩ := h
  simp only [Nat.zero_add] at r1 rA rP rR rW rL rB
  unfold RT
  simp only [Nat.zero_add]
  rw [hC 1 (by omega), hC 2 (by omega), hC 3 (by omega), hC 4 (by omega), hC 5 (by omega), hC 6 (by omega), hC 8 (by omega), hC 11 (by omega), hC 13 (by omega), hC 15 (by omega), hC 16 (by omega), kd 2163 (by omega), kd 2164 (by omega), kd 2165 (by omega), kd 2166 (by omega), kd 2167 (by omega), kd 2168 (by omega)]
  refine ⟨r1, fun b hb => ?_, fun i hi => ?_, fun i hi => ?_, fun i hi => ?_, fun i hi hq => ?_, fun i hi => ?_⟩
  · rw [kd (5 * b) (by omega), kd (5 * b + 1) (by omega), kd (5 * b + 2) (by omega), kd (5 * b + 3) (by omega), kd (5 * b + 4) (by omega)]; exact rA b hb
  · rw [kd _ (by omega)]; exact rP i hi
  · rw [hC14, hD]
    by_cases hh : p ≤ i ∧ i < p + 9
    · rw [if_pos hh, if_pos (by omega), hr _ (by omega)]
      exact congrArg (D 99) (by omega)
    · rw [if_neg hh, if_neg (by omega)]; exact rR i hi
  · rw [kd _ (by omega)]; exact rW i hi
  · rw [kd _ (by omega)]; exact rL i hi hq
  · rw [kd _ (by omega)]; exact rB i hi
theorem m_rule_l {a k : Nat} (ha : a < 12) (hk : k < 6) : ∀ (m i n : Nat) (D : St), i + m = 9 → m < n → ∃ D', L_Md_rule_57 n (nI a) (nI k) (nI i) D = some D' ∧ (∀ j, j ≠ 89 → D' j = D j) ∧ (∀ q, D' 89 q = if 660 + 9 * (6 * a + k) + i ≤ q ∧ q < 660 + 9 * (6 * a + k) + 9 then D 99 (q - (660 + 9 * (6 * a + k))) else D 89 q)
  | 0, i, n + 1, D, hi, hn => by
    obtain rfl : i = 9 := by omega
    unfold L_Md_rule_57
    rw [if_pos (by decide)]
    exact ⟨D, rfl, fun j _ => rfl, fun q => by rw [if_neg (by omega)]⟩
  | m + 1, i, n + 1, D, hi, hn => by
    have e1 : (660 + (9 * ((6 * nI a) + nI k))) + nI i = nI (660 + 9 * (6 * a + k) + i) := by
      rw [l6, l9, l660]
      simp only [pk_mul, nI_add]
    unfold L_Md_rule_57
    rw [if_neg (by rw [l9]; exact nI_ge (by omega) (by omega)), if_pos (inb_t (by omega) (by omega)), e1, if_pos (inb_t (by omega) (by omega)), nI_clamp (by omega), nI_clamp (by omega), nI_1]
    obtain ⟨D', q1, q2, q3⟩ := m_rule_l ha hk m (i + 1) n (mj_wr D 89 (660 + 9 * (6 * a + k) + i) (D 99 i)) (by omega) (by omega)
    refine ⟨D', q1, fun j hj => by rw [q2 j hj, wr_row _ _ hj], fun q => ?_⟩
    rw [q3 q, wr_at, wr_cell _ _ (by omega)]
    by_cases h1 : 660 + 9 * (6 * a + k) + (i + 1) ≤ q ∧ q < 660 + 9 * (6 * a + k) + 9
    · rw [if_pos h1, if_pos (show 660 + 9 * (6 * a + k) + i ≤ q ∧ q < 660 + 9 * (6 * a + k) + 9 by omega)]
    · rw [if_neg h1]
      by_cases h2 : q = 660 + 9 * (6 * a + k) + i
      · subst h2
        rw [if_pos rfl, if_pos (show _ ∧ _ by omega)]
        exact congrArg (D 99) (by omega)
      · rw [if_neg h2, if_neg (show ¬ (660 + 9 * (6 * a + k) + i ≤ q ∧ q < 660 + 9 * (6 * a + k) + 9) by omega)]
theorem okRule_of {R : Nat → Int32} {X : Nat → Int32} {n a p : Nat} (h : ∀ i, i < 9 → X (p + i) = R i) (h1 : okAct R n a) (h2 : okPre R) : okRule X n p ∧ (4 ≤ (X p).toInt → X (p + 1) ≠ nI a) := by
  have e0 : X p = R 0 := h 0 (by omega)
  obtain ⟨a1, a2, a3, a4, a5, a6, a7⟩ := h1
  obtain ⟨b1, b2, b3⟩ := h2
  unfold okRule
  rw [e0, h 1 (by omega), h 2 (by omega), h 3 (by omega), h 4 (by omega), h 5 (by omega), h 6 (by omega), h 7 (by omega)]
  exact ⟨⟨a1, a2, a3, a4, a5, a6, b1, b2⟩, a7⟩
theorem sim_rule_ok {t : Nat} {C D : St} (h : Rel t C D) : sim_rule Rel t C D := by
  intro x
  obtain ⟨n, hn, hC, hD⟩ := rel_n h
  obtain ⟨hR, ⟨n', d, hW⟩, hWD, ⟨L, hL, t1, t2, t3⟩, hO⟩ := h.mono
  obtain rfl : n' = n := by
    have := hW.1.2.1
    simp only [Nat.zero_add] at this
    rw [this] at hC
    exact (nI_eq (by have := hW.1.1; omega) (by omega)).mp hC
  unfold f_Mk_rule f_Mk_readRule f_Md_rule
  have e4 : D 88 4 = nI L := t2
  rw [e4]
  have g89 : mj_wr (mj_wr D 88 12 (nI L)) 88 4 0 89 = D 89 := by rw [wr_row _ _ (by omega), wr_row _ _ (by omega)]
  have hD1 : mj_wr (mj_wr D 88 12 (nI L)) 88 4 0 89 2163 = nI n' := by rw [g89]; exact hD
  rcases agent_cases hn hC hD1 x with ⟨a, ha, rfl, e1, e2⟩ | ⟨e1, e2⟩
  rotate_left
  · rw [e1, e2, bd1_s, bd1_s, if_pos i01, if_pos i01, bd2_s]
    refine ⟨_, _, _, rfl, rfl, hR.frame (fun j h1 h2 => by rw [wr_row _ _ (by omega)]) g89, ⟨n', d, hW.frame (fun j h1 h2 => by rw [wr_row _ _ (by omega)])⟩, hWD.frame (fun j h1 h2 => by rw [wr_row _ _ (by omega)]) (by rw [wr_row _ _ (by omega)]) (by rw [wr_row _ _ (by omega), wr_row _ _ (by omega)]) (by rw [wr_row _ _ (by omega), wr_row _ _ (by omega)]), ⟨0, by omega, wr_same _ _ _ _, wr_same _ _ _ _, fun i hi => by omega⟩, ?_⟩
    rw [wr_idx _ _ (by omega), wr_idx _ _ (by omega)]; exact hO
  have hc : TC (C 20) L C := ⟨hL, t1, fun i hi => rfl⟩
  have hd : TD (C 20) L (mj_wr (mj_wr D 88 12 (nI L)) 88 4 0) := ⟨hL, by rw [wr_idx _ _ (by omega), wr_same], fun i hi => by rw [wr_cell _ _ (by omega), wr_cell _ _ (by omega)]; exact (t3 i hi).1.symm⟩
  obtain ⟨b, C1, f, D1, r1, r2, o⟩ := reading hc hd (fun i hi => (t3 i hi).2) hn ha hD1
  rw [e1, e2, bd1_s, bd1_s, if_neg i10, if_neg i10, hC, r1, bd2_s, r2, bd2_s]
  -- the frames
  have back : FC C C1 → FD (mj_wr (mj_wr D 88 12 (nI L)) 88 4 0) D1 → Rel (t + 1) (mj_wr C1 19 0 0) D1 := by
    intro fC fD
    have k89 : D1 89 = D 89 := (fD.1 89 (by omega) (by omega)).trans g89
    have kk : ∀ j, j ≠ 88 → j ≠ 99 → D1 j = D j := fun j h1 h2 => by rw [fD.1 j h1 h2, wr_row _ _ h1, wr_row _ _ h1]
    have kc : ∀ j, j ≠ 19 → j ≠ 21 → j ≠ 22 → mj_wr C1 19 0 0 j = C j := fun j h0 h1 h2 => by rw [wr_row _ _ h0, fC j h1 h2]
    refine ⟨hR.frame (fun j h1 h2 => kc _ (by omega) (by omega) (by omega)) k89, ⟨n', d, hW.frame (fun j h1 h2 => kc _ (by omega) (by omega) (by omega))⟩, hWD.frame (fun j h1 h2 => kc _ (by omega) (by omega) (by omega)) (kc _ (by omega) (by omega) (by omega)) (kk 90 (by omega) (by omega)) (kk 91 (by omega) (by omega)), ⟨0, by omega, wr_same _ _ _ _, ?_, fun i hi => by omega⟩, ?_⟩
    · rw [fD.2 4 (by omega), wr_same]; rfl
    · rw [fD.2 11 (by omega), wr_idx _ _ (by omega), wr_idx _ _ (by omega)]; exact hO
  rcases o with ⟨rfl, s, s1, s2, rfl, fC, fD⟩ | ⟨rfl, rfl, fC, fD, rr, ok1, ok2⟩
  · rw [if_pos i01, s2, if_neg (nI_pos (by omega)), bd2_s]
    exact ⟨_, _, _, rfl, rfl, back fC fD⟩
  have R0 := back fC fD
  obtain ⟨q, hq, q1, q2⟩ := rel_size R0 (show a < 12 by omega)
  have q1' : C1 13 a = nI q := by rw [← q1, wr_cell _ _ (by omega)]
  rw [if_neg i10, if_pos (show (-1 : Int32) < 0 by decide), m_ruleMany (by omega), bd1_s, q2]
  unfold f_Rl_append f_Rl_start
  rw [if_pos (inb_t (by omega) (by omega)), nI_clamp (by omega), q1']
  by_cases h6 : q = 6
  · subst h6
    rw [if_neg (by decide), if_pos (by decide), bd2_s, bd2_s]
    exact ⟨_, _, _, rfl, rfl, R0⟩
  have es : ((nI a * 6) + nI q) * 9 = nI (9 * (6 * a + q)) := by
    rw [l6, l9]
    simp only [pk_mul, nI_add]
    exact congrArg nI (by omega)
  have e5 : (0 + (5 * nI a)) + 4 = nI (5 * a + 4) := by
    rw [l0, l5, l4]
    simp only [pk_mul, nI_add]
    exact congrArg nI (by omega)
  obtain ⟨D2, m1, m2, m3⟩ := m_rule_l (a := a) (k := q) (by omega) (by omega) 9 0 3000 D1 rfl (by omega)
  have cond : 0 ≤ Int32.toInt 0 ∧ 0 ≤ (nI (9 * (6 * a + q))).toInt ∧ 0 ≤ Int32.toInt 9 ∧ Int32.toInt 0 + Int32.toInt 9 ≤ 9 ∧ (nI (9 * (6 * a + q))).toInt + Int32.toInt 9 ≤ 648 := by
    rw [nI_toInt (by omega), show Int32.toInt 0 = 0 from rfl, show Int32.toInt 9 = 9 from rfl]
    omega
  rw [if_pos (by rw [l6]; exact nI_lt (by omega) (by omega)), bd1_s, es, if_pos cond, nI_clamp (by omega), bd2_s, bd2_s, if_neg (by rw [l6, nI_eq (by omega) (by omega)]; exact h6), show L_Md_rule_57 3000 (nI a) (nI q) 0 D1 = _ from m1, bd1_s, e5, if_pos (inb_t (by omega) (by omega)), nI_clamp (by omega)]
  have x13 : mj_cp C1 22 14 0 (9 * (6 * a + q)) 9 13 a = nI q := by
    unfold mj_cp
    rw [if_neg (by omega)]
    exact q1'
  have x89 : D2 89 (5 * a + 4) = nI q := by rw [m3, if_neg (by omega)]; exact q2
  rw [x13, x89, nI_1]
  refine ⟨_, _, _, rfl, rfl, ?_⟩
  -- the relation
  obtain ⟨uR, ⟨n2, d2, uW⟩, uWD, uT, uO⟩ := R0
  have c14 : ∀ i, mj_cp C1 22 14 0 (9 * (6 * a + q)) 9 14 i = if 9 * (6 * a + q) ≤ i ∧ i < 9 * (6 * a + q) + 9 then C1 22 (i - 9 * (6 * a + q)) else C1 14 i := by
    intro i
    unfold mj_cp va_cpy
    rw [if_pos rfl, Nat.zero_add]
  have cJ : ∀ j, j ≠ 14 → mj_cp C1 22 14 0 (9 * (6 * a + q)) 9 j = C1 j := by
    intro j hj
    funext i
    unfold mj_cp
    rw [if_neg hj]
  have swap : mj_wr (mj_wr (mj_cp C1 22 14 0 (9 * (6 * a + q)) 9) 13 a (nI (q + 1))) 19 0 0 = mj_wr (mj_wr (mj_cp C1 22 14 0 (9 * (6 * a + q)) 9) 19 0 0) 13 a (nI (q + 1)) := by
    funext i j
    unfold mj_wr
    by_cases z1 : i = 19 ∧ j = 0
    · rw [if_pos z1, if_neg (by omega), if_pos z1]
    · rw [if_neg z1, if_neg z1]
  rw [swap]
  have dJ : ∀ j, j ≠ 19 → j ≠ 14 → j ≠ 13 → mj_wr (mj_wr (mj_cp C1 22 14 0 (9 * (6 * a + q)) 9) 19 0 0) 13 a (nI (q + 1)) j = (mj_wr C1 19 0 0) j := fun j h0 h1 h2 => by rw [wr_row _ _ h2, wr_row _ _ h0, wr_row _ _ h0, cJ j h1]
  refine ⟨rt_put (rt_row uR (p := 9 * (6 * a + q)) (by omega) (C' := mj_wr (mj_cp C1 22 14 0 (9 * (6 * a + q)) 9) 19 0 0) (D' := D2) (fun j hj => ?_) (fun i => ?_) (fun i => ?_) (fun i hi => ?_)) (by omega) (by omega) _, ⟨n2, d2, ?_⟩, uWD.frame (fun j h1 h2 => dJ j (by omega) (by omega) (by omega)) (dJ 18 (by omega) (by omega) (by omega)) (by rw [wr_row _ _ (by omega), m2 90 (by omega)]) (by rw [wr_row _ _ (by omega), m2 91 (by omega)]), uT.frame ?_ (dJ 20 (by omega) (by omega) (by omega)) (by rw [wr_row _ _ (by omega), m2 88 (by omega)]) (by rw [wr_row _ _ (by omega), m2 92 (by omega)]), ?_⟩
  · funext i
    unfold mj_wr
    rw [cJ j hj]
  · rw [wr_cell _ _ (by omega), c14, wr_cell _ _ (by omega), wr_cell _ _ (by omega)]
  · rw [m3]; rfl
  · rw [wr_cell _ _ (by omega)]; exact rr i hi
  · -- numbers
    have hn2 : n2 = n' := by
      have z1 := uW.1.2.1
      simp only [Nat.zero_add] at z1
      rw [wr_cell _ _ (by omega), fC 1 (by omega) (by omega), hC] at z1
      exact ((nI_eq (by omega) (by have := uW.1.1; omega)).mp z1).symm
    unfold WTn at uW ⊢
    simp only [Nat.zero_add] at uW ⊢
    obtain ⟨u1, u2, u3, u4, u5, u6, u7, u8, u9, u10, u11⟩ := uW
    rw [dJ 1 (by omega) (by omega) (by omega), dJ 2 (by omega) (by omega) (by omega), dJ 3 (by omega) (by omega) (by omega), dJ 4 (by omega) (by omega) (by omega), dJ 8 (by omega) (by omega) (by omega), dJ 9 (by omega) (by omega) (by omega), dJ 11 (by omega) (by omega) (by omega), dJ 15 (by omega) (by omega) (by omega), dJ 16 (by omega) (by omega) (by omega)]
    have v13 : ∀ b, mj_wr (mj_wr (mj_cp C1 22 14 0 (9 * (6 * a + q)) 9) 19 0 0) 13 a (nI (q + 1)) 13 b = if b = a then nI (q + 1) else (mj_wr C1 19 0 0) 13 b := fun b => by
      rw [wr_at, wr_cell _ _ (by omega), wr_cell _ _ (by omega), cJ 13 (by omega)]
    have v14 : ∀ i, mj_wr (mj_wr (mj_cp C1 22 14 0 (9 * (6 * a + q)) 9) 19 0 0) 13 a (nI (q + 1)) 14 i = if 9 * (6 * a + q) ≤ i ∧ i < 9 * (6 * a + q) + 9 then C1 22 (i - 9 * (6 * a + q)) else (mj_wr C1 19 0 0) 14 i := fun i => by
      rw [wr_cell _ _ (by omega), wr_cell _ _ (by omega), c14, wr_cell _ _ (by omega)]
    refine ⟨u1, u2, u3, u4, u5, fun b hb => ?_, u7, u8, u9, fun b k hb hk hs => ?_, u11⟩
    · rw [v13]
      by_cases hba : b = a
      · rw [if_pos hba]
        exact ⟨rg_of (by omega) (by omega) (by omega), fun z => by omega⟩
      · rw [if_neg hba]; exact u6 b hb
    · by_cases hk' : b = a ∧ k = q
      · obtain ⟨rfl, rfl⟩ := hk'
        have hX : ∀ i, i < 9 → mj_wr (mj_wr (mj_cp C1 22 14 0 (9 * (6 * b + k)) 9) 19 0 0) 13 b (nI (k + 1)) 14 (9 * (6 * b + k) + i) = C1 22 i := fun i hi => by
          rw [v14, if_pos (by omega)]
          exact congrArg (C1 22) (by omega)
        rw [hn2]
        exact okRule_of hX ok1 ok2
      · have hX : ∀ i, i < 9 → mj_wr (mj_wr (mj_cp C1 22 14 0 (9 * (6 * a + q)) 9) 19 0 0) 13 a (nI (q + 1)) 14 (9 * (6 * b + k) + i) = (mj_wr C1 19 0 0) 14 (9 * (6 * b + k) + i) := fun i hi => by
          rw [v14, if_neg (by omega)]
        have hs' : (k : Int) < ((mj_wr C1 19 0 0) 13 b).toInt := by
          rw [v13] at hs
          by_cases hba : b = a
          · rw [if_pos hba, nI_toInt (by omega)] at hs
            rw [hba, q1, nI_toInt (by omega)]
            omega
          · rw [if_neg hba] at hs; exact hs
        have o := u10 b k hb hk hs'
        have h0 := hX 0 (by omega)
        simp only [Nat.add_zero] at h0
        unfold okRule at o ⊢
        rw [h0, hX 1 (by omega), hX 2 (by omega), hX 3 (by omega), hX 4 (by omega), hX 5 (by omega), hX 6 (by omega), hX 7 (by omega)]
        exact o
  · rw [wr_row _ _ (show 19 ≠ 13 by omega)]
    funext i
    unfold mj_wr
    rw [cJ 19 (by omega)]
  · rw [wr_cell _ _ (by omega), m2 88 (by omega)]; exact uO
