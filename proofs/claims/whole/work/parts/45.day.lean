/-! PURE: a day: the offers, what is free, which rules fire -/
theorem v_cl38 : ∀ (m k q : Nat) (C : St), k + m = 60 → m < q → ∃ C', L_Mt_clear_16 q (nI k) C = some C' ∧ (∀ i, k ≤ i → i < 60 → C' 38 i = 0) ∧ (∀ i, i < k → C' 38 i = C 38 i) ∧ ∀ j, j ≠ 38 → C' j = C j
  | 0, k, q + 1, C, hk, _ => by
    refine ⟨C, if_pos ?_, fun i h1 h2 => by omega, fun _ _ => rfl, fun _ _ => rfl⟩
    rw [l60, nI_leI (by omega) (by omega)]; omega
  | m + 1, k, q + 1, C, hk, hq => by
    obtain ⟨C', e1, e2, e3, e4⟩ := v_cl38 m (k + 1) q (mj_wr C 38 k 0) (by omega) (by omega)
    refine ⟨C', ?_, fun i h1 h2 => ?_, fun i h1 => ?_, fun j hj => by rw [e4 j hj, wr_row _ _ hj]⟩
    · rw [L_Mt_clear_16]
      rw [if_neg (by rw [l60, nI_leI (by omega) (by omega)]; omega), if_pos (inb_t (by omega) (by omega)), nI_clamp (by omega), l1, nI_add]
      exact e1
    · by_cases hi : i = k
      · subst hi; rw [e3 i (by omega), wr_same]
      · exact e2 i (by omega) h2
    · rw [e3 i (by omega), wr_idx _ _ (by omega)]
theorem v_cl39 : ∀ (m k q : Nat) (C : St), k + m = 12 → m < q → ∃ C', L_Mt_clear_40 q (nI k) C = some C' ∧ (∀ i, k ≤ i → i < 12 → C' 39 i = 0) ∧ (∀ i, i < k → C' 39 i = C 39 i) ∧ ∀ j, j ≠ 39 → C' j = C j
  | 0, k, q + 1, C, hk, _ => by
    refine ⟨C, if_pos ?_, fun i h1 h2 => by omega, fun _ _ => rfl, fun _ _ => rfl⟩
    rw [l12, nI_leI (by omega) (by omega)]; omega
  | m + 1, k, q + 1, C, hk, hq => by
    obtain ⟨C', e1, e2, e3, e4⟩ := v_cl39 m (k + 1) q (mj_wr C 39 k 0) (by omega) (by omega)
    refine ⟨C', ?_, fun i h1 h2 => ?_, fun i h1 => ?_, fun j hj => by rw [e4 j hj, wr_row _ _ hj]⟩
    · rw [L_Mt_clear_40]
      rw [if_neg (by rw [l12, nI_leI (by omega) (by omega)]; omega), if_pos (inb_t (by omega) (by omega)), nI_clamp (by omega), l1, nI_add]
      exact e1
    · by_cases hi : i = k
      · subst hi; rw [e3 i (by omega), wr_same]
      · exact e2 i (by omega) h2
    · rw [e3 i (by omega), wr_idx _ _ (by omega)]
theorem v_clear (C : St) : ∃ C', f_Mt_clear C = some C' ∧ C' 26 6 = 0 ∧ C' 32 6 = 0 ∧ (∀ i, i < 60 → C' 38 i = 0) ∧ (∀ i, i < 12 → C' 39 i = 0) ∧ ∀ j, j ≠ 26 → j ≠ 32 → j ≠ 38 → j ≠ 39 → C' j = C j := by
  obtain ⟨C1, a1, a2, a3, a4⟩ := v_cl38 60 0 3000 (mj_wr (mj_wr (mj_wr (mj_wr C 26 6 0) 26 4 0) 32 6 0) 32 4 0) (by omega) (by omega)
  obtain ⟨C2, b1, b2, b3, b4⟩ := v_cl39 12 0 3000 C1 (by omega) (by omega)
  refine ⟨C2, ?_, ?_, ?_, fun i hi => ?_, fun i hi => b2 i (by omega) hi, fun j h1 h2 h3 h4 => ?_⟩
  · unfold f_Mt_clear f_Of_clear f_Of_clear_1
    rw [bd1_s, bd1_s, show L_Mt_clear_16 3000 0 _ = _ from a1, bd1_s, show L_Mt_clear_40 3000 0 _ = _ from b1, bd1_s]
  · rw [b4 26 (by omega), a4 26 (by omega), wr_cell _ _ (by omega), wr_cell _ _ (by omega), wr_idx _ _ (by omega), wr_same]
  · rw [b4 32 (by omega), a4 32 (by omega), wr_idx _ _ (by omega), wr_same]
  · rw [b4 38 (by omega)]; exact a2 i (by omega) hi
  · rw [b4 j h4, a4 j h3, wr_row _ _ h2, wr_row _ _ h2, wr_row _ _ h1, wr_row _ _ h1]
/-- one SIDE of the offers: the class's list at c, the reference's offers with x -/
def PX (D : St) (x : Int32) (k : Nat) : Bool := decide (D 97 k = x)
def SD (C D : St) (c : Nat) (x : Int32) (no : Nat) : Prop := C c 6 = nI (cn (PX D x) no) ∧ ∀ k, k < no → D 97 k = x → C (c + 1) (cn (PX D x) k) = D 93 k ∧ C (c + 2) (cn (PX D x) k) = D 96 k ∧ C (c + 3) (cn (PX D x) k) = D 98 k ∧ C (c + 5) (cn (PX D x) k) = D 94 k
def OFR (D : St) (n no : Nat) : Prop := ∀ k, k < no → (∃ a : Nat, a < n ∧ D 93 k = nI a) ∧ (∃ g : Nat, g < 5 ∧ D 94 k = nI g) ∧ rg (D 96 k) 1 999 ∧ rg (D 98 k) 0 999 ∧ (D 97 k = 0 ∨ D 97 k = 1)
def OF (C D : St) (n no : Nat) : Prop := D 88 11 = nI no ∧ no ≤ 72 ∧ SD C D 26 0 no ∧ SD C D 32 1 no ∧ OFR D n no
def askD (D : St) (a g k : Nat) : Int32 := if D 97 k = 0 then (if D 93 k = nI a then (if D 94 k = nI g then D 95 k else 0) else 0) else 0
def bidD (D : St) (a k : Nat) : Int32 := if D 97 k = 0 then 0 else (if D 93 k = nI a then D 95 k * D 96 k else 0)
def AX (C D : St) (no : Nat) : Prop := (∀ k, k < no → D 95 k = D 98 k ∧ 1 ≤ (D 98 k).toInt) ∧ (∀ a g, a < 12 → g < 5 → C 38 (5 * a + g) = si (askD D a g) no ∧ 0 ≤ (C 38 (5 * a + g)).toInt ∧ (C 38 (5 * a + g)).toInt ≤ (C 9 (5 * a + g)).toInt) ∧ (∀ a, a < 12 → C 39 a = si (bidD D a) no ∧ 0 ≤ (C 39 a).toInt ∧ (C 39 a).toInt ≤ (C 3 a).toInt)
/-- what the acts leave alone -/
def FRM (C D C' D' : St) : Prop := (∀ j, j = 2 ∨ j = 4 ∨ j = 13 ∨ (17 ≤ j ∧ j ≤ 24) ∨ 40 ≤ j → C' j = C j) ∧ (∀ j, j = 90 ∨ j = 91 ∨ j = 92 ∨ j = 100 → D' j = D j) ∧ (∀ i, i ≠ 11 → D' 88 i = D 88 i)
theorem FRM.refl (C D : St) : FRM C D C D := ⟨fun _ _ => rfl, fun _ _ => rfl, fun _ _ => rfl⟩
theorem FRM.trans {C D C1 D1 C2 D2 : St} (h : FRM C D C1 D1) (k : FRM C1 D1 C2 D2) : FRM C D C2 D2 := ⟨fun j hj => (k.1 j hj).trans (h.1 j hj), fun j hj => (k.2.1 j hj).trans (h.2.1 j hj), fun j hj => (k.2.2 j hj).trans (h.2.2 j hj)⟩
/-- THE ACTS' STATE -/
def AS (C D : St) (t n d no : Nat) : Prop := RT C D 0 89 0 ∧ WTn C 0 t n d ∧ OF C D n no ∧ AX C D no
theorem SD.keep {C D C' D' : St} {c no : Nat} {x : Int32} (h : SD C D c x no) (hC : ∀ j, c ≤ j → j ≤ c + 5 → C' j = C j) (hD : ∀ j, 93 ≤ j → j ≤ 98 → D' j = D j) : SD C' D' c x no := by
  unfold SD PX at h ⊢
  rw [hC c (by omega) (by omega), hC (c + 1) (by omega) (by omega), hC (c + 2) (by omega) (by omega), hC (c + 3) (by omega) (by omega), hC (c + 5) (by omega) (by omega), hD 93 (by omega) (by omega), hD 94 (by omega) (by omega), hD 96 (by omega) (by omega), hD 97 (by omega) (by omega), hD 98 (by omega) (by omega)]
  exact h
theorem OF.keep {C D C' D' : St} {n no : Nat} (h : OF C D n no) (hC : ∀ j, 26 ≤ j → j ≤ 37 → C' j = C j) (hD : ∀ j, 93 ≤ j → j ≤ 98 → D' j = D j) (h11 : D' 88 11 = D 88 11) : OF C' D' n no := by
  obtain ⟨h1, h2, h3, h4, h5⟩ := h
  refine ⟨h11.trans h1, h2, h3.keep (fun j h1 h2 => hC j (by omega) (by omega)) hD, h4.keep (fun j h1 h2 => hC j (by omega) (by omega)) hD, ?_⟩
  unfold OFR at h5 ⊢
  rw [hD 93 (by omega) (by omega), hD 94 (by omega) (by omega), hD 96 (by omega) (by omega), hD 97 (by omega) (by omega), hD 98 (by omega) (by omega)]
  exact h5
theorem AS.step {C D C' D' : St} {t t' n d no : Nat} (h : AS C D t n d no) (hR : RT C' D' 0 89 0) (hW : WTn C' 0 t' n d) (hC : ∀ j, 17 ≤ j → C' j = C j) (hD : ∀ j, j ≠ 89 → j ≠ 101 → D' j = D j) (h9 : ∀ p, p < 60 → (C 38 p).toInt ≤ (C' 9 p).toInt) (h3 : ∀ a, a < 12 → (C 39 a).toInt ≤ (C' 3 a).toInt) : AS C' D' t' n d no := by
  obtain ⟨-, -, o, x1, x2, x3⟩ := h
  refine ⟨hR, hW, o.keep (fun j h1 h2 => hC j (by omega)) (fun j h1 h2 => hD j (by omega) (by omega)) (by rw [hD 88 (by omega) (by omega)]), ?_, fun a g ha hg => ?_, fun a ha => ?_⟩
  · rw [hD 95 (by omega) (by omega), hD 98 (by omega) (by omega)]; exact x1
  · obtain ⟨y1, y2, y3⟩ := x2 a g ha hg
    have e : askD D' a g = askD D a g := by
      funext k; unfold askD; rw [hD 93 (by omega) (by omega), hD 94 (by omega) (by omega), hD 95 (by omega) (by omega), hD 97 (by omega) (by omega)]
    rw [hC 38 (by omega), e]
    exact ⟨y1, y2, h9 _ (by omega)⟩
  · obtain ⟨y1, y2, y3⟩ := x3 a ha
    have e : bidD D' a = bidD D a := by
      funext k; unfold bidD; rw [hD 93 (by omega) (by omega), hD 96 (by omega) (by omega), hD 95 (by omega) (by omega), hD 97 (by omega) (by omega)]
    rw [hC 39 (by omega), e]
    exact ⟨y1, y2, h3 _ ha⟩
/-- what is FREE -/
theorem m_freeOf_l {D : St} {a g no : Nat} (hno : no ≤ 72) (h11 : D 88 11 = nI no) (v : Int32) : ∀ (m k q : Nat), k + m = no → m < q → L_Md_freeOf_10 q (nI a) (nI g) (v - si (askD D a g) k) (nI k) D = some (v - si (askD D a g) no)
  | 0, k, q + 1, hk, _ => by
    obtain rfl : k = no := by omega
    unfold L_Md_freeOf_10
    rw [h11, if_pos (by rw [nI_leI (by omega) (by omega)]; omega)]
  | m + 1, k, q + 1, hk, hq => by
    unfold L_Md_freeOf_10
    rw [h11, if_neg (by rw [nI_leI (by omega) (by omega)]; omega), if_pos (inb_t (by omega) (by omega)), nI_clamp (by omega), l1, nI_add, i_sub_sub]
    exact m_freeOf_l hno h11 v m (k + 1) q (by omega) (by omega)
theorem m_freeCash_l {D : St} {a no : Nat} (hno : no ≤ 72) (h11 : D 88 11 = nI no) (v : Int32) : ∀ (m k q : Nat), k + m = no → m < q → L_Md_freeCash_8 q (nI a) (v - si (bidD D a) k) (nI k) D = some (v - si (bidD D a) no)
  | 0, k, q + 1, hk, _ => by
    obtain rfl : k = no := by omega
    unfold L_Md_freeCash_8
    rw [h11, if_pos (by rw [nI_leI (by omega) (by omega)]; omega)]
  | m + 1, k, q + 1, hk, hq => by
    unfold L_Md_freeCash_8
    rw [h11, if_neg (by rw [nI_leI (by omega) (by omega)]; omega), if_pos (inb_t (by omega) (by omega)), nI_clamp (by omega), l1, nI_add, i_sub_sub]
    exact m_freeCash_l hno h11 v m (k + 1) q (by omega) (by omega)
theorem ag_at {a g : Nat} : (nI a * 5) + nI g = nI (5 * a + g) := by
  rw [l5]
  simp only [pk_mul, nI_add]
  exact congrArg nI (by omega)
theorem free_of {C D : St} {t n d no a g : Nat} (h : AS C D t n d no) (ht : t ≤ 600) (ha : a < 12) (hg : g < 5) : ∃ f : Int32, f_Mt_freeOf (nI a) (nI g) C = some f ∧ f_Md_freeOf (nI a) (nI g) D = some f ∧ f.toInt = (C 9 (5 * a + g)).toInt - (C 38 (5 * a + g)).toInt ∧ 0 ≤ f.toInt ∧ f.toInt ≤ 60000000 := by
  obtain ⟨hR, hW, ⟨o1, o2, -⟩, x1, x2, x3⟩ := h
  obtain ⟨y1, y2, y3⟩ := x2 a g ha hg
  have hd := hW.1.2.2.1
  obtain ⟨z1, z2⟩ := ps_sum hW.ps (show 5 * a + g < 60 by omega)
  have e : (C 9 (5 * a + g) - C 38 (5 * a + g)).toInt = (C 9 (5 * a + g)).toInt - (C 38 (5 * a + g)).toInt := sub_toInt (by omega) (by omega)
  refine ⟨C 9 (5 * a + g) - C 38 (5 * a + g), ?_, ?_, e, by omega, by omega⟩
  · unfold f_Mt_freeOf
    rw [v_all ha hg, bd1_s, ag_at, if_pos (inb_t (by omega) (by omega)), nI_clamp (by omega)]
  · unfold f_Md_freeOf
    have := m_freeOf_l (a := a) (g := g) o2 o1 (C 9 (5 * a + g)) no 0 3000 (by omega) (by omega)
    rw [show C 9 (5 * a + g) - si (askD D a g) 0 = C 9 (5 * a + g) from Int32.sub_zero _] at this
    rw [all_hasAll hR hW ht ha hg, bd1_s, show L_Md_freeOf_10 3000 (nI a) (nI g) (C 9 (5 * a + g)) 0 D = _ from this, bd1_s, y1]
theorem free_cash {C D : St} {t n d no a : Nat} (h : AS C D t n d no) (ha : a < 12) : ∃ f : Int32, f_Mt_freeCash (nI a) C = some f ∧ f_Md_freeCash (nI a) D = some f ∧ f.toInt = (C 3 a).toInt - (C 39 a).toInt ∧ 0 ≤ f.toInt ∧ f.toInt ≤ 1200000 := by
  obtain ⟨hR, hW, ⟨o1, o2, -⟩, x1, x2, x3⟩ := h
  obtain ⟨y1, y2, y3⟩ := x3 a ha
  have hn := hW.1.1
  obtain ⟨k1, k2, k3⟩ := hW.cash
  have z1 := sm_le k1 ha
  have e : (C 3 a - C 39 a).toInt = (C 3 a).toInt - (C 39 a).toInt := sub_toInt (by omega) (by omega)
  refine ⟨C 3 a - C 39 a, ?_, ?_, e, by omega, by omega⟩
  · unfold f_Mt_freeCash
    rw [if_pos (inb_t (by omega) (by omega)), nI_clamp (by omega)]
  · unfold f_Md_freeCash
    have := m_freeCash_l (a := a) o2 o1 (C 3 a) no 0 3000 (by omega) (by omega)
    rw [show C 3 a - si (bidD D a) 0 = C 3 a from Int32.sub_zero _] at this
    rw [m_cash ha, bd1_s, ← (rt_a hR ha).2.1, show L_Md_freeCash_8 3000 (nI a) (C 3 a) 0 D = _ from this, bd1_s, y1]
/-- which rules FIRE -/
def mayC (K x : Int32) : Int32 := if x = 0 then bl K 2 else if x = 1 then bl K 1 else if x = 5 then (if bl K 4 = 0 then (if bl K 5 = 0 then 0 else 1) else 1) else 1
theorem may_ok {C D : St} {a : Nat} {x : Int32} (ha : a < 12) (hk : C 2 a = D 89 (5 * a)) (hK : rg (C 2 a) 0 5) (hx : rg x 0 5) : f_Dy_mayAct (nI a) x C = some (mayC (C 2 a) x) ∧ f_Md_mayDo (nI a) x D = some (mayC (C 2 a) x) := by
  unfold f_Dy_mayAct f_Md_mayDo
  rw [v_belongs ha, v_belongs ha, v_belongs ha, v_belongs ha, m_isKind ha, m_kind ha, ← hk]
  obtain ⟨kk, k1, k2, e1⟩ := rg_nI hK
  obtain ⟨aa, a1, a2, e2⟩ := rg_nI hx
  rw [e1, e2]
  have key : ∀ kk : Fin 6, ∀ aa : Fin 6, (
      (if nI aa.1 = 0 then bd1 (some (bl (nI kk.1) 2)) fun v4 => if v4 = 0 ∨ v4 = 1 then some v4 else none
      else if nI aa.1 = 1 then bd1 (some (bl (nI kk.1) 1)) fun v7 => if v7 = 0 ∨ v7 = 1 then some v7 else none
      else if nI aa.1 = 5 then bd1 (some (bl (nI kk.1) 4)) fun v10 => bd1 (if v10 = 0 then bd1 (some (bl (nI kk.1) 5)) fun v13 => if v13 = 0 then some 0 else some 1 else some 1) fun (w16 : Int32) => if w16 = 0 ∨ w16 = 1 then some w16 else none
      else some 1) = some (mayC (nI kk.1) (nI aa.1)) ∧
      bd1 (if nI aa.1 = 0 then bd1 (some (bl (nI kk.1) 2)) fun v13 => some v13
        else if nI aa.1 = 1 then bd1 (some (nI kk.1)) fun v10 => if v10 = 1 then some 1 else some 0
        else if nI aa.1 = 5 then bd1 (some (nI kk.1)) fun v4 => if v4 = 4 then some 1 else bd1 (some (nI kk.1)) fun v7 => if v7 = 5 then some 1 else some 0
        else some 1) (fun (w15 : Int32) => if w15 = 0 ∨ w15 = 1 then some w15 else none) = some (mayC (nI kk.1) (nI aa.1))) := by decide +kernel
  exact key ⟨kk, by omega⟩ ⟨aa, by omega⟩
theorem mayC_01 {K x : Int32} : mayC K x = 0 ∨ mayC K x = 1 := by
  have b : ∀ y, bl K y = 0 ∨ bl K y = 1 := fun y => by
    unfold bl
    repeat' split
    all_goals first | exact Or.inl rfl | exact Or.inr rfl
  unfold mayC
  repeat' split
  all_goals first | exact b _ | exact Or.inl rfl | exact Or.inr rfl
theorem WTn.rule {C : St} {t n d a k : Nat} (h : WTn C 0 t n d) (ha : a < n) (hk : k < 6) (hs : (k : Int) < (C 13 a).toInt) : okRule (C 14) n (9 * (6 * a + k)) ∧ (4 ≤ (C 14 (9 * (6 * a + k))).toInt → C 14 (9 * (6 * a + k) + 1) ≠ nI a) := by
  have := h.2.2.2.2.2.2.2.2.2.1 a k ha hk
  simp only [Nat.zero_add] at this
  exact this hs
theorem WTn.kinds {C : St} {t n d a : Nat} (h : WTn C 0 t n d) (ha : a < 12) : rg (C 2 a) 0 5 := by
  have := h.2.2.1 a ha
  simp only [Nat.zero_add] at this
  exact this
theorem WTn.sizes {C : St} {t n d a : Nat} (h : WTn C 0 t n d) (ha : a < 12) : rg (C 13 a) 0 6 := by
  have := (h.2.2.2.2.2.1 a ha).1
  simp only [Nat.zero_add] at this
  exact this
theorem WTn.brokes {C : St} {t n d a : Nat} (h : WTn C 0 t n d) (ha : a < 12) : rg (C 4 a) 0 1 := by
  have := (h.2.2.2.2.1 a ha).1
  simp only [Nat.zero_add] at this
  exact this
theorem subj_ok {C D : St} {t n d a : Nat} (hR : RT C D 0 89 0) (hW : WTn C 0 t n d) (ht : t ≤ 600) (ha : a < 12) {s : Nat} (hs : s < 4) {v : Int32} (hv : s = 1 ∨ s = 3 → rg v 0 4) : ∃ w : Int32, f_Dy_subjectOf (nI a) (nI s) v C = some w ∧ (if nI s = 0 then bd1 (f_Md_cash (nI a) D) fun v24 => some v24 else if nI s = 1 then bd1 (f_Md_hasAll (nI a) v D) fun v22 => some v22 else if nI s = 2 then some (D 89 2164) else bd1 (f_Md_goodIs v 2 D) fun v19 => some v19) = some w := by
  unfold f_Dy_subjectOf
  rcases (show s = 0 ∨ s = 1 ∨ s = 2 ∨ s = 3 by omega) with rfl | rfl | rfl | rfl
  · refine ⟨C 3 a, ?_, ?_⟩
    · rw [if_pos (show nI 0 = (0 : Int32) from rfl), if_pos (inb_t (by omega) (by omega)), nI_clamp (by omega)]
    · rw [if_pos (show nI 0 = (0 : Int32) from rfl), m_cash ha, bd1_s, (rt_a hR ha).2.1]
  · obtain ⟨g, g1, g2, rfl⟩ := rg_nI (hv (by omega))
    refine ⟨C 9 (5 * a + g), ?_, ?_⟩
    · rw [if_neg (by decide), if_pos (show nI 1 = (1 : Int32) from rfl), v_all ha (by omega), bd1_s]
    · rw [if_neg (by decide), if_pos (show nI 1 = (1 : Int32) from rfl), all_hasAll hR hW ht ha (by omega), bd1_s]
  · refine ⟨C 1 1, ?_, ?_⟩
    · rw [if_neg (by decide), if_neg (by decide), if_pos (show nI 2 = (2 : Int32) from rfl)]
    · rw [if_neg (by decide), if_neg (by decide), if_pos (show nI 2 = (2 : Int32) from rfl), (rt_n hR).2.1]
  · obtain ⟨g, g1, g2, rfl⟩ := rg_nI (hv (by omega))
    refine ⟨C 11 (11 * g + 2), ?_, ?_⟩
    · rw [if_neg (by decide), if_neg (by decide), if_neg (by decide), l2, v_wget (by omega) (by omega), bd1_s]
    · rw [if_neg (by decide), if_neg (by decide), if_neg (by decide), show (2 : Int32) = nI 2 from rfl, m_goodIs (by omega) (by omega), bd1_s, rt_w hR (by omega)]
theorem fires_ok {C D : St} {t n d a k : Nat} (hR : RT C D 0 89 0) (hW : WTn C 0 t n d) (ht : t ≤ 600) (ha : a < n) (hk : k < 6) (hs : (k : Int) < (C 13 a).toInt) : ∃ v : Int32, f_Dy_fires (nI a) (nI k) C = some v ∧ f_Md_fires (nI a) (nI k) D = some v ∧ (v = 0 ∨ v = 1) := by
  have hn := hW.1.1
  have ha' : a < 12 := by omega
  obtain ⟨⟨o0, o1, o2, o3, o4, o5, o6, o7⟩, -⟩ := hW.rule ha hk hs
  obtain ⟨y1, y2⟩ := may_ok (x := C 14 (9 * (6 * a + k))) ha' (rt_a hR ha').1 (hW.kinds ha') o0
  have er : ∀ i, i < 9 → f_Md_ruleIs (nI a) (nI k) (nI i) D = some (C 14 (9 * (6 * a + k) + i)) := fun i hi => by
    rw [m_ruleIs ha' hk hi, ← rt_r hR (show 9 * (6 * a + k) + i < 648 by omega)]
  have ec : ∀ i, i < 9 → f_Rl_get (nI a) (nI k) (nI i) C = some (C 14 (9 * (6 * a + k) + i)) := fun i hi => v_rget ha' hk hi
  have ed : D 89 2164 = C 1 1 := (rt_n hR).2.1.symm
  unfold f_Dy_fires f_Md_fires f_Dy_condHolds
  rw [l4, l0, l5, l6, l7, ec 4 (by omega), ec 0 (by omega), ec 5 (by omega), ec 6 (by omega), ec 7 (by omega), er 4 (by omega), er 0 (by omega), er 5 (by omega), er 6 (by omega), er 7 (by omega)]
  simp only [bd1_s]
  rw [show C 14 (9 * (6 * a + k) + 0) = C 14 (9 * (6 * a + k)) from rfl, y1, y2]
  simp only [bd1_s]
  generalize hE : C 14 (9 * (6 * a + k) + 4) = ev at o6
  have e1 : ¬ ev ≤ nI 0 := by
    rw [Int32.le_iff_toInt_le, nI_toInt (by omega)]
    have := o6.1
    omega
  have e2 : ¬ ev = nI 0 := fun h => by
    have := o6.1
    rw [h, nI_toInt (by omega)] at this
    omega
  rw [ed]
  have x01 : ∀ v : Int32, v = 0 ∨ v = 1 → (if v = nI 0 ∨ v = 1 then some v else none) = some v := fun v hv => if_pos hv
  rcases mayC_01 (K := C 2 a) (x := C 14 (9 * (6 * a + k))) with m0 | m1
  · rw [m0]
    exact ⟨0, by rw [if_pos (show (0 : Int32) = nI 0 from rfl), bd1_s]; exact x01 0 (Or.inl rfl), by rw [if_pos (show (0 : Int32) = nI 0 from rfl)]; rfl, Or.inl rfl⟩
  · have hne : ¬ ((1 : Int32) = nI 0) := by decide
    rw [m1, if_neg hne, if_neg e1, if_neg e2, if_neg hne, if_neg e2]
    by_cases e3 : C 1 1 - C 1 1 / ev * ev = nI 0
    · rw [if_pos e3, if_pos e3]
      rcases o7 with o7 | ⟨o7, o8, o9⟩
      · rw [if_pos o7, if_pos o7, bd1_s]
        exact ⟨1, by rw [if_neg (by decide), bd1_s]; exact x01 1 (Or.inr rfl), rfl, Or.inr rfl⟩
      · obtain ⟨cc, c1, c2, c3⟩ := rg_nI o7
        have hc : ¬ (C 14 (9 * (6 * a + k) + 5) = (-1000000005 : Int32)) := fun h => by
          have := o7.1
          rw [h] at this
          exact absurd this (by decide)
        rw [if_neg hc, if_neg hc]
        have hcc : cc < 8 := by omega
        have g1 : (if (if C 14 (9 * (6 * a + k) + 5) < nI 4 then nI 0 else 1 : Int32) = nI 0 then C 14 (9 * (6 * a + k) + 5) else C 14 (9 * (6 * a + k) + 5) - nI 4 : Int32) = nI (cc % 4) := by
          rw [c3]
          exact (show ∀ cc : Fin 8, (if (if nI cc.1 < nI 4 then nI 0 else 1 : Int32) = nI 0 then nI cc.1 else nI cc.1 - nI 4 : Int32) = nI (cc.1 % 4) by decide +kernel) ⟨cc, hcc⟩
        have g2 : C 14 (9 * (6 * a + k) + 5) - C 14 (9 * (6 * a + k) + 5) / nI 4 * nI 4 = nI (cc % 4) := by
          rw [c3]
          exact pk_rem (by omega) (by omega) (by omega)
        have g3 : (if C 14 (9 * (6 * a + k) + 5) < nI 4 then nI 0 else 1 : Int32) = (if cc < 4 then nI 0 else 1 : Int32) := by
          rw [c3]
          by_cases h4 : cc < 4
          · rw [if_pos h4, if_pos (by rw [nI_ltI (by omega) (by omega)]; exact h4)]
          · rw [if_neg h4, if_neg (by rw [nI_ltI (by omega) (by omega)]; exact h4)]
        obtain ⟨w, w1, w2⟩ := subj_ok (v := C 14 (9 * (6 * a + k) + 6)) hR hW ht ha' (show cc % 4 < 4 by omega) (fun hq => o8 (by
          rw [c3, l1, l3, l5, l7]
          rcases (show cc = 1 ∨ cc = 3 ∨ cc = 5 ∨ cc = 7 by omega) with rfl | rfl | rfl | rfl
          · exact Or.inl rfl
          · exact Or.inr (Or.inl rfl)
          · exact Or.inr (Or.inr (Or.inl rfl))
          · exact Or.inr (Or.inr (Or.inr rfl))))
        rw [g1, w1, g2]
        rw [show (bd1 (if nI (cc % 4) = nI 0 then bd1 (f_Md_cash (nI a) D) fun v24 => some v24 else if nI (cc % 4) = 1 then bd1 (f_Md_hasAll (nI a) (C 14 (9 * (6 * a + k) + 6)) D) fun v22 => some v22 else if nI (cc % 4) = 2 then some (C 1 1) else bd1 (f_Md_goodIs (C 14 (9 * (6 * a + k) + 6)) 2 D) fun v19 => some v19)) = bd1 (some w) from congrArg bd1 (by rw [← w2, ed]; rfl)]
        simp only [bd1_s]
        rw [g3]
        by_cases h4 : cc < 4
        · have h4' : ¬ (nI 4 ≤ C 14 (9 * (6 * a + k) + 5)) := by rw [c3, nI_leI (by omega) (by omega)]; omega
          rw [if_pos h4, if_pos rfl, if_neg h4']
          by_cases h5 : C 14 (9 * (6 * a + k) + 7) ≤ w
          · rw [if_pos h5, if_pos h5]
            exact ⟨0, by rw [if_pos rfl, bd1_s]; exact x01 0 (Or.inl rfl), rfl, Or.inl rfl⟩
          · rw [if_neg h5, if_neg h5]
            exact ⟨1, by rw [if_neg (by decide), bd1_s]; exact x01 1 (Or.inr rfl), rfl, Or.inr rfl⟩
        · have h4' : nI 4 ≤ C 14 (9 * (6 * a + k) + 5) := by rw [c3, nI_leI (by omega) (by omega)]; omega
          rw [if_neg h4, if_neg hne, if_pos h4']
          by_cases h5 : w ≤ C 14 (9 * (6 * a + k) + 7)
          · rw [if_pos h5, if_pos h5]
            exact ⟨0, by rw [if_pos rfl, bd1_s]; exact x01 0 (Or.inl rfl), rfl, Or.inl rfl⟩
          · rw [if_neg h5, if_neg h5]
            exact ⟨1, by rw [if_neg (by decide), bd1_s]; exact x01 1 (Or.inr rfl), rfl, Or.inr rfl⟩
    · rw [if_neg e3, if_neg e3]
      exact ⟨0, by rw [bd1_s]; exact x01 0 (Or.inl rfl), rfl, Or.inl rfl⟩
