/-! PURE: a day: the best offers, and a step of the market -/
def opn (D : St) (g : Nat) (x : Int32) (k : Nat) : Prop := D 97 k = x ∧ D 94 k = nI g ∧ 0 < (D 98 k).toInt
theorem m_isOpen {D : St} {k g : Nat} {x : Int32} (hk : k < 80) : (opn D g x k ∧ f_Md_isOpen (nI k) (nI g) x D = some 1) ∨ (¬ opn D g x k ∧ f_Md_isOpen (nI k) (nI g) x D = some 0) := by
  unfold f_Md_isOpen opn
  rw [if_pos (inb_t hk (by omega)), nI_clamp (by omega)]
  by_cases h1 : D 97 k = x
  · rw [if_pos h1]
    by_cases h2 : D 94 k = nI g
    · rw [if_pos h2]
      by_cases h3 : D 98 k ≤ 0
      · rw [if_pos h3]
        rw [Int32.le_iff_toInt_le, Int32.toInt_zero] at h3
        exact Or.inr ⟨fun h => by omega, rfl⟩
      · rw [if_neg h3]
        rw [Int32.le_iff_toInt_le, Int32.toInt_zero] at h3
        exact Or.inl ⟨⟨h1, h2, by omega⟩, rfl⟩
    · rw [if_neg h2]
      exact Or.inr ⟨fun h => h2 h.2.1, rfl⟩
  · rw [if_neg h1]
    exact Or.inr ⟨fun h => h1 h.1, rfl⟩
def bst (D : St) (g : Nat) (x : Int32) (κ : Nat → Int) (no : Nat) (y : Int32) : Prop := (y = -1 ∧ ∀ i, i < no → ¬ opn D g x i) ∨ ∃ b, b < no ∧ y = nI b ∧ opn D g x b ∧ ∀ i, i < no → opn D g x i → κ b < κ i ∨ (κ b = κ i ∧ b ≤ i)
theorem bst_skip {D : St} {g k : Nat} {x y : Int32} {κ : Nat → Int} (h : bst D g x κ k y) (hk : ¬ opn D g x k) : bst D g x κ (k + 1) y := by
  rcases h with ⟨h1, h2⟩ | ⟨b, h1, h2, h3, h4⟩
  · refine Or.inl ⟨h1, fun i hi => ?_⟩
    by_cases hik : i = k
    · rw [hik]; exact hk
    · exact h2 i (by omega)
  · refine Or.inr ⟨b, by omega, h2, h3, fun i hi ho => ?_⟩
    by_cases hik : i = k
    · rw [hik] at ho; exact absurd ho hk
    · exact h4 i (by omega) ho
theorem bst_keep {D : St} {g k b : Nat} {x : Int32} {κ : Nat → Int} (h : bst D g x κ k (nI b)) (hb : b < k) (hk9 : k < 80) (hle : κ b ≤ κ k) : bst D g x κ (k + 1) (nI b) := by
  rcases h with ⟨h1, h2⟩ | ⟨c, h1, h2, h3, h4⟩
  · have := congrArg Int32.toInt h1
    rw [nI_toInt (by omega), show ((-1 : Int32)).toInt = -1 by decide] at this
    omega
  · obtain rfl : b = c := nI_inj (by omega) (by omega) h2
    refine Or.inr ⟨b, by omega, rfl, h3, fun i hi ho => ?_⟩
    by_cases hik : i = k
    · subst hik; omega
    · exact h4 i (by omega) ho
theorem bst_new {D : St} {g k : Nat} {x y : Int32} {κ : Nat → Int} (h : bst D g x κ k y) (hk9 : k < 80) (ho : opn D g x k) (hlt : ∀ b, b < k → y = nI b → κ k < κ b) : bst D g x κ (k + 1) (nI k) := by
  refine Or.inr ⟨k, by omega, rfl, ho, fun i hi hoi => ?_⟩
  by_cases hik : i = k
  · subst hik; omega
  · rcases h with ⟨h1, h2⟩ | ⟨c, h1, h2, h3, h4⟩
    · exact absurd hoi (h2 i (by omega))
    · have := hlt c h1 h2
      have := h4 i (by omega) hoi
      omega
theorem m_low_l {D : St} {g no : Nat} (hno : no ≤ 72) (h11 : D 88 11 = nI no) : ∀ (m k q : Nat) (y : Int32), k + m = no → m < q → bst D g 0 (fun i => (D 96 i).toInt) k y → ∃ y', L_Md_lowestAsk_4 q (nI g) y (nI k) D = some y' ∧ bst D g 0 (fun i => (D 96 i).toInt) no y'
  | 0, k, q + 1, y, hk, _, hb => by
    obtain rfl : k = no := by omega
    exact ⟨y, by rw [L_Md_lowestAsk_4, h11, if_pos (by rw [nI_leI (by omega) (by omega)]; omega)], hb⟩
  | m + 1, k, q + 1, y, hk, hq, hb => by
    rw [L_Md_lowestAsk_4, h11, if_neg (by rw [nI_leI (by omega) (by omega)]; omega)]
    rcases m_isOpen (D := D) (k := k) (g := g) (x := 0) (by omega) with ⟨ho, e⟩ | ⟨ho, e⟩
    · rw [e, bd1_s, if_neg i10]
      rcases id hb with ⟨rfl, h2⟩ | ⟨b, h1, rfl, h3, h4⟩
      · rw [if_pos (by decide), bd1_s, l1, nI_add]
        exact m_low_l hno h11 m (k + 1) q (nI k) (by omega) (by omega) (bst_new hb (by omega) ho (fun b hb' e => by
          have := congrArg Int32.toInt e
          rw [nI_toInt (by omega), show ((-1 : Int32)).toInt = -1 by decide] at this
          omega))
      · rw [if_neg (by rw [l0, nI_ltI (by omega) (by omega)]; omega), if_pos (inb_t (by omega) (by omega)), if_pos (inb_t (by omega) (by omega)), nI_clamp (by omega), nI_clamp (by omega), l1, nI_add]
        by_cases hc : D 96 b ≤ D 96 k
        · rw [if_pos hc, bd1_s]
          exact m_low_l hno h11 m (k + 1) q (nI b) (by omega) (by omega) (bst_keep hb h1 (by omega) (by rw [Int32.le_iff_toInt_le] at hc; exact hc))
        · rw [if_neg hc, bd1_s]
          exact m_low_l hno h11 m (k + 1) q (nI k) (by omega) (by omega) (bst_new hb (by omega) ho (fun c hc' e => by
            obtain rfl : b = c := nI_inj (by omega) (by omega) e
            rw [Int32.le_iff_toInt_le] at hc
            exact Int.not_le.mp hc))
    · rw [e, bd1_s, if_pos rfl, bd1_s, l1, nI_add]
      exact m_low_l hno h11 m (k + 1) q y (by omega) (by omega) (bst_skip hb ho)
theorem m_high_l {D : St} {g no : Nat} (hno : no ≤ 72) (h11 : D 88 11 = nI no) : ∀ (m k q : Nat) (y : Int32), k + m = no → m < q → bst D g 1 (fun i => - (D 96 i).toInt) k y → ∃ y', L_Md_highestBid_4 q (nI g) y (nI k) D = some y' ∧ bst D g 1 (fun i => - (D 96 i).toInt) no y'
  | 0, k, q + 1, y, hk, _, hb => by
    obtain rfl : k = no := by omega
    exact ⟨y, by rw [L_Md_highestBid_4, h11, if_pos (by rw [nI_leI (by omega) (by omega)]; omega)], hb⟩
  | m + 1, k, q + 1, y, hk, hq, hb => by
    rw [L_Md_highestBid_4, h11, if_neg (by rw [nI_leI (by omega) (by omega)]; omega)]
    rcases m_isOpen (D := D) (k := k) (g := g) (x := 1) (by omega) with ⟨ho, e⟩ | ⟨ho, e⟩
    · rw [e, bd1_s, if_neg i10]
      rcases id hb with ⟨rfl, h2⟩ | ⟨b, h1, rfl, h3, h4⟩
      · rw [if_pos (by decide), bd1_s, l1, nI_add]
        exact m_high_l hno h11 m (k + 1) q (nI k) (by omega) (by omega) (bst_new hb (by omega) ho (fun b hb' e => by
          have := congrArg Int32.toInt e
          rw [nI_toInt (by omega), show ((-1 : Int32)).toInt = -1 by decide] at this
          omega))
      · rw [if_neg (by rw [l0, nI_ltI (by omega) (by omega)]; omega), if_pos (inb_t (by omega) (by omega)), if_pos (inb_t (by omega) (by omega)), nI_clamp (by omega), nI_clamp (by omega), l1, nI_add]
        by_cases hc : D 96 k ≤ D 96 b
        · rw [if_pos hc, bd1_s]
          exact m_high_l hno h11 m (k + 1) q (nI b) (by omega) (by omega) (bst_keep hb h1 (by omega) (by rw [Int32.le_iff_toInt_le] at hc; exact Int.neg_le_neg hc))
        · rw [if_neg hc, bd1_s]
          exact m_high_l hno h11 m (k + 1) q (nI k) (by omega) (by omega) (bst_new hb (by omega) ho (fun c hc' e => by
            obtain rfl : b = c := nI_inj (by omega) (by omega) e
            rw [Int32.le_iff_toInt_le] at hc
            have := Int.not_le.mp hc
            show - _ < - _
            omega))
    · rw [e, bd1_s, if_pos rfl, bd1_s, l1, nI_add]
      exact m_high_l hno h11 m (k + 1) q y (by omega) (by omega) (bst_skip hb ho)
theorem m_low {D : St} {g no : Nat} (hno : no ≤ 72) (h11 : D 88 11 = nI no) : ∃ y, f_Md_lowestAsk (nI g) D = some y ∧ bst D g 0 (fun i => (D 96 i).toInt) no y := by
  obtain ⟨y, e, h⟩ := m_low_l (g := g) hno h11 no 0 3000 (-1) (by omega) (by omega) (Or.inl ⟨rfl, fun i hi => by omega⟩)
  exact ⟨y, by unfold f_Md_lowestAsk; rw [show L_Md_lowestAsk_4 3000 (nI g) (-1) 0 D = _ from e, bd1_s], h⟩
theorem m_high {D : St} {g no : Nat} (hno : no ≤ 72) (h11 : D 88 11 = nI no) : ∃ y, f_Md_highestBid (nI g) D = some y ∧ bst D g 1 (fun i => - (D 96 i).toInt) no y := by
  obtain ⟨y, e, h⟩ := m_high_l (g := g) hno h11 no 0 3000 (-1) (by omega) (by omega) (Or.inl ⟨rfl, fun i hi => by omega⟩)
  exact ⟨y, by unfold f_Md_highestBid; rw [show L_Md_highestBid_4 3000 (nI g) (-1) 0 D = _ from e, bd1_s], h⟩
/-- a picked offer, and the reference's -/
theorem pick_at {C D : St} {c no g mp i : Nat} {x o : Int32} {pk : Nat → Nat} (hS : SD C D c x no) (hP : PK C c o g (cn (PX D x) no) mp pk) (hi : i < mp) : ∃ k, k < no ∧ D 97 k = x ∧ D 94 k = nI g ∧ cn (PX D x) k = pk i ∧ C (c + 2) (pk i) = D 96 k ∧ C (c + 3) (pk i) = D 98 k := by
  obtain ⟨p1, p2, p3, p4, p5⟩ := hP
  obtain ⟨e1, e2, e3⟩ := p3 i hi
  obtain ⟨k, k1, k2, k3⟩ := cn_find (P := PX D x) no e2
  have hx : D 97 k = x := by unfold PX at k2; exact of_decide_eq_true k2
  obtain ⟨s1, s2, s3, s4⟩ := hS.2 k k1 hx
  rw [k3] at s2 s3 s4
  exact ⟨k, k1, hx, by rw [← s4, e3], k3, s2, s3⟩
theorem pick_mem {C D : St} {c no g mp k : Nat} {x o : Int32} {pk : Nat → Nat} (hS : SD C D c x no) (hP : PK C c o g (cn (PX D x) no) mp pk) (hk : k < no) (hx : D 97 k = x) (hg : D 94 k = nI g) : ∃ w, w < mp ∧ pk w = cn (PX D x) k := by
  obtain ⟨p1, p2, p3, p4, p5⟩ := hP
  have hlt := cn_lt (P := PX D x) (a := k) no hk (by unfold PX; exact decide_eq_true hx)
  have hw : C (c + 5) (cn (PX D x) k) = nI g := by rw [(hS.2 k hk hx).2.2.2, hg]
  have := p5 (fun z => if z = cn (PX D x) k then 1 else 0)
  apply Classical.byContradiction
  intro hne
  have l0 : sm (fun i => if pk i = cn (PX D x) k then (1 : Int) else 0) mp = 0 := by
    rw [sm_congr (g := fun _ => (0 : Int)) mp (fun i hi => if_neg (fun e => hne ⟨i, hi, e⟩))]
    clear this hne p1 p2 p3 p4 p5
    induction mp with
    | zero => rfl
    | succ m ih => show sm _ m + 0 = 0; rw [ih]; rfl
  have r1 := sm_le (f := fun i => if C (c + 5) i = nI g then (if i = cn (PX D x) k then (1 : Int) else 0) else 0) (n := cn (PX D x) no) (i := cn (PX D x) k) (fun i hi => by
    show 0 ≤ (if C (c + 5) i = nI g then (if i = cn (PX D x) k then (1 : Int) else 0) else 0)
    split
    · split <;> omega
    · omega) hlt
  rw [if_pos hw, if_pos rfl] at r1
  omega
theorem pick_first {C D : St} {c no g mp a : Nat} {x o y : Int32} {pk : Nat → Nat} {κ : Nat → Int} (hno : no ≤ 72) (hS : SD C D c x no) (hP : PK C c o g (cn (PX D x) no) mp pk) (hκ : ∀ k, k < no → D 97 k = x → kyA C c o (cn (PX D x) k) = κ k) (hb : bst D g x κ no y) (ha : a ≤ mp) (hz : ∀ i, i < a → (C (c + 3) (pk i)).toInt ≤ 0) (hp : a < mp → 0 < (C (c + 3) (pk a)).toInt) : (a = mp ∧ y = -1) ∨ (a < mp ∧ ∃ k, k < no ∧ D 97 k = x ∧ D 94 k = nI g ∧ cn (PX D x) k = pk a ∧ y = nI k) := by
  have cur : a < mp → ∃ k, k < no ∧ opn D g x k ∧ cn (PX D x) k = pk a := fun h => by
    obtain ⟨k, k1, k2, k3, k4, k5, k6⟩ := pick_at hS hP h
    have := hp h
    rw [k6] at this
    exact ⟨k, k1, ⟨k2, k3, this⟩, k4⟩
  rcases hb with ⟨h1, h2⟩ | ⟨b, h1, h2, h3, h4⟩
  · refine Or.inl ⟨?_, h1⟩
    apply Classical.byContradiction
    intro hne
    obtain ⟨k, k1, k2, -⟩ := cur (by omega)
    exact h2 k k1 k2
  · obtain ⟨w, w1, w2⟩ := pick_mem hS hP h1 h3.1 h3.2.1
    have wl : C (c + 3) (pk w) = D 98 b := by rw [w2]; exact (hS.2 b h1 h3.1).2.2.1
    have hwa : a ≤ w := by
      apply Classical.byContradiction
      intro hlt
      have := hz w (by omega)
      have := h3.2.2
      rw [wl] at *
      omega
    refine Or.inr ⟨by omega, b, h1, h3.1, h3.2.1, ?_, h2⟩
    by_cases hwe : w = a
    · rw [← w2, hwe]
    · exfalso
      obtain ⟨k, k1, k2, k3⟩ := cur (by omega)
      have q1 := hP.2.2.2.1 a w (by omega) w1
      rw [← k3, w2, hκ k k1 k2.1, hκ b h1 h3.1] at q1
      have q2 := h4 k k1 k2
      have q3 : b ≤ k → cn (PX D x) b ≤ cn (PX D x) k := fun hbk => by
        by_cases e : b = k
        · rw [e]; exact Nat.le_refl _
        · have := cn_lt (P := PX D x) (a := b) k (by omega) (by unfold PX; exact decide_eq_true h3.1)
          omega
      have q4 : b ≤ k ∨ k < b := by omega
      omega
theorem ky1 {C : St} {i : Nat} : kyA C 26 1 i = (C 28 i).toInt := by
  unfold kyA
  rw [Int32.one_mul]
theorem kym {C : St} {i : Nat} (h : rg (C 34 i) 0 999) : kyA C 32 (-1) i = - (C 34 i).toInt := by
  unfold kyA
  rw [mul_toInt]
  · rw [show ((-1 : Int32)).toInt = -1 by decide, Int.neg_one_mul]
  · rw [show ((-1 : Int32)).toInt = -1 by decide, Int.neg_one_mul]; have := h.2; show _ ≤ - (C 34 i).toInt; omega
  · rw [show ((-1 : Int32)).toInt = -1 by decide, Int.neg_one_mul]; have := h.1; show - (C 34 i).toInt ≤ _; omega
theorem ky0 {C : St} {i : Nat} : kyA C 32 0 i = 0 := by
  unfold kyA
  rw [Int32.zero_mul]
  rfl
theorem PK.frame {C C' : St} {c g na mp : Nat} {o : Int32} {pk : Nat → Nat} (h : PK C c o g na mp pk) (h4 : C' c 4 = C c 4) (hC : ∀ j, j = c + 2 ∨ j = c + 4 ∨ j = c + 5 → C' j = C j) : PK C' c o g na mp pk := by
  unfold PK kyA at h ⊢
  rw [h4, hC (c + 2) (by omega), hC (c + 4) (by omega), hC (c + 5) (by omega)]
  exact h
theorem pk_ne {C : St} {c g na mp i j : Nat} {o : Int32} {pk : Nat → Nat} (h : PK C c o g na mp pk) (hi : i < mp) (hj : j < mp) (hne : i ≠ j) : pk i ≠ pk j := fun e => by
  rcases Nat.lt_or_gt_of_ne hne with h1 | h1
  · have := h.2.2.2.1 i j h1 hj
    rw [e] at this
    omega
  · have := h.2.2.2.1 j i h1 hi
    rw [e] at this
    omega
/-- what a market leaves alone -/
def MF (C D C' D' : St) (g no : Nat) : Prop := FRM C D C' D' ∧ (∀ k, k < no → D 94 k ≠ nI g → D' 98 k = D 98 k) ∧ (∀ j, 93 ≤ j → j ≤ 97 → D' j = D j)
theorem MF.refl (C D : St) (g no : Nat) : MF C D C D g no := ⟨FRM.refl C D, fun _ _ _ => rfl, fun _ _ _ => rfl⟩
theorem MF.trans {C D C1 D1 C2 D2 : St} {g no : Nat} (h : MF C D C1 D1 g no) (k : MF C1 D1 C2 D2 g no) : MF C D C2 D2 g no := ⟨h.1.trans k.1, fun i hi hg => (k.2.1 i hi (by rw [h.2.2 94 (by omega) (by omega)]; exact hg)).trans (h.2.1 i hi hg), fun j h1 h2 => (k.2.2 j h1 h2).trans (h.2.2 j h1 h2)⟩
/-- THE MARKET's state, at the a-th ask and the b-th bid -/
def SV (C D : St) (t n d no g : Nat) (ob : Int32) (ma mb : Nat) (pa pb : Nat → Nat) (a b : Nat) : Prop :=
  MS C D t n d no ∧ PK C 26 1 g (cn (PX D 0) no) ma pa ∧ PK C 32 ob g (cn (PX D 1) no) mb pb ∧ a ≤ ma ∧ b ≤ mb ∧ (∀ i, i < a → (C 29 (pa i)).toInt ≤ 0) ∧ (∀ i, a ≤ i → i < ma → 0 < (C 29 (pa i)).toInt) ∧ (∀ j, b < j → j < mb → 0 < (C 35 (pb j)).toInt)
theorem sv_low {C D : St} {t n d no g ma mb a b : Nat} {ob : Int32} {pa pb : Nat → Nat} (h : SV C D t n d no g ob ma mb pa pb a b) : (a = ma ∧ f_Md_lowestAsk (nI g) D = some (-1)) ∨ (a < ma ∧ ∃ k, k < no ∧ D 97 k = 0 ∧ D 94 k = nI g ∧ cn (PX D 0) k = pa a ∧ C 28 (pa a) = D 96 k ∧ C 29 (pa a) = D 98 k ∧ f_Md_lowestAsk (nI g) D = some (nI k)) := by
  obtain ⟨⟨hR, hW, ⟨o1, o2, o3, o4, o5⟩, hV, hO⟩, ha, hb, h1, h2, h3, h4, h5⟩ := h
  obtain ⟨y, y1, y2⟩ := m_low (g := g) o2 o1
  rcases pick_first o2 o3 ha (fun k hk hx => by rw [ky1]; exact congrArg Int32.toInt (o3.2 k hk hx).2.1) y2 h1 h3 (fun h => h4 a (Nat.le_refl _) h) with ⟨e1, e2⟩ | ⟨e1, k, k1, k2, k3, k4, k5⟩
  · exact Or.inl ⟨e1, by rw [y1, e2]⟩
  · obtain ⟨s1, s2, s3, s4⟩ := o3.2 k k1 k2
    rw [k4] at s2 s3
    exact Or.inr ⟨e1, k, k1, k2, k3, k4, s2, s3, by rw [y1, k5]⟩
theorem sv_high {C D : St} {t n d no g ma mb a b : Nat} {pa pb : Nat → Nat} (h : SV C D t n d no g (-1) ma mb pa pb a b) (hz : ∀ j, j < b → (C 35 (pb j)).toInt ≤ 0) (hb0 : b < mb → 0 < (C 35 (pb b)).toInt) : (b = mb ∧ f_Md_highestBid (nI g) D = some (-1)) ∨ (b < mb ∧ ∃ k, k < no ∧ D 97 k = 1 ∧ D 94 k = nI g ∧ cn (PX D 1) k = pb b ∧ C 34 (pb b) = D 96 k ∧ C 35 (pb b) = D 98 k ∧ f_Md_highestBid (nI g) D = some (nI k)) := by
  obtain ⟨⟨hR, hW, ⟨o1, o2, o3, o4, o5⟩, hV, hO⟩, ha, hb, h1, h2, h3, h4, h5⟩ := h
  obtain ⟨y, y1, y2⟩ := m_high (g := g) o2 o1
  have hk : ∀ k, k < no → D 97 k = 1 → kyA C 32 (-1) (cn (PX D 1) k) = - (D 96 k).toInt := fun k hk hx => by
    have e : C 34 (cn (PX D 1) k) = D 96 k := (o4.2 k hk hx).2.1
    rw [kym (by rw [e]; have := (o5 k hk).2.2.1; exact ⟨by have := this.1; omega, this.2⟩), e]
  rcases pick_first o2 o4 hb hk y2 h2 hz hb0 with ⟨e1, e2⟩ | ⟨e1, k, k1, k2, k3, k4, k5⟩
  · exact Or.inl ⟨e1, by rw [y1, e2]⟩
  · obtain ⟨s1, s2, s3, s4⟩ := o4.2 k k1 k2
    rw [k4] at s2 s3
    exact Or.inr ⟨e1, k, k1, k2, k3, k4, s2, s3, by rw [y1, k5]⟩
/-- A STEP with a trade, on both sides -/
theorem sv_trade {C D : St} {t n d no g ma mb a b : Nat} {ob : Int32} {pa pb : Nat → Nat} (h : SV C D t n d no g ob ma mb pa pb a b) (ht : t ≤ 600) (hg : g < 5) (ha : a < ma) (hb : b < mb) {ka kb : Nat} (hka : ka < no) (hkb : kb < no) (a97 : D 97 ka = 0) (b97 : D 97 kb = 1) (a94 : D 94 ka = nI g) (b94 : D 94 kb = nI g) (ea : cn (PX D 0) ka = pa a) (eb : cn (PX D 1) kb = pb b) (lb0 : 0 < (D 98 kb).toInt) {p : Int32} (hp : rg p 0 999) (hpq : p.toInt ≤ (D 96 kb).toInt) :
    ∃ C' D', f_Mt_trade (nI g) (nI (pa a)) (nI (pb b)) p C = some C' ∧ f_Md_sell (nI kb) (nI ka) (amt (D 98 ka) (D 98 kb)) p D = some D' ∧ MF C D C' D' g no ∧ ((C' 29 (pa a) = 0 ∧ SV C' D' t n d no g ob ma mb pa pb (a + 1) b) ∨ (¬ C' 29 (pa a) = 0 ∧ SV C' D' t n d no g ob ma mb pa pb a (b + 1) ∧ (C' 35 (pb b)).toInt ≤ 0)) ∧ (∀ i, i < ma → i ≠ a → C' 29 (pa i) = C 29 (pa i)) ∧ (∀ i, i < mb → i ≠ b → C' 35 (pb i) = C 35 (pb i)) ∧ (C' 29 (pa a)).toInt = (C 29 (pa a)).toInt - (amt (D 98 ka) (D 98 kb)).toInt ∧ (C' 35 (pb b)).toInt = (C 35 (pb b)).toInt - (amt (D 98 ka) (D 98 kb)).toInt ∧ D' 98 kb = D 98 kb - amt (D 98 ka) (D 98 kb) ∧ 0 < (amt (D 98 ka) (D 98 kb)).toInt ∧ C' 28 = C 28 ∧ C' 34 = C 34 := by
  obtain ⟨hM, hA, hB, h1, h2, h3, h4, h5⟩ := h
  have o5 := hM.2.2.1.2.2.2.2
  have o3 := hM.2.2.1.2.2.1
  have o4 := hM.2.2.1.2.2.2.1
  obtain ⟨-, -, a96, a98, -⟩ := o5 ka hka
  obtain ⟨-, -, b96, b98, -⟩ := o5 kb hkb
  have hne : ka ≠ kb := fun e => by rw [e, b97] at a97; exact absurd a97 (by decide)
  have la : C 29 (pa a) = D 98 ka := by rw [← ea]; exact (o3.2 ka hka a97).2.2.1
  have lb : C 35 (pb b) = D 98 kb := by rw [← eb]; exact (o4.2 kb hkb b97).2.2.1
  have la0 := h4 a (Nat.le_refl _) ha
  rw [la] at la0
  have hmm := amt_toInt (D 98 ka) (D 98 kb)
  have hm0 : 0 < (amt (D 98 ka) (D 98 kb)).toInt := by rw [hmm]; split <;> omega
  obtain ⟨C', D', e1, e2, e3, e4, e5, e6, e7⟩ := trade_ok hM ht hka hkb a97 b97 a94 b94 hg hp hpq hm0
  rw [ea, eb] at e1
  have px : ∀ x, PX D' x = PX D x := fun x => by funext k; unfold PX; rw [e6 97 (by omega) (by omega) (by omega)]
  have s3' := e3.2.2.1.2.2.1
  have s4' := e3.2.2.1.2.2.2.1
  have sa := (s3'.2 ka hka (by rw [e6 97 (by omega) (by omega) (by omega)]; exact a97)).2.2.1
  have sb := (s4'.2 kb hkb (by rw [e6 97 (by omega) (by omega) (by omega)]; exact b97)).2.2.1
  rw [px, ea, e4, up_same] at sa
  rw [px, eb, e4, up_ne _ _ (Ne.symm hne), up_same] at sb
  have sa' : C' 29 (pa a) = D 98 ka - amt (D 98 ka) (D 98 kb) := sa
  have sb' : C' 35 (pb b) = D 98 kb - amt (D 98 ka) (D 98 kb) := sb
  have ta : (C' 29 (pa a)).toInt = (C 29 (pa a)).toInt - (amt (D 98 ka) (D 98 kb)).toInt := by
    rw [sa', la]; exact sub_toInt (by have := a98.1; have := a98.2; rw [hmm]; split <;> omega) (by have := a98.2; omega)
  have tb : (C' 35 (pb b)).toInt = (C 35 (pb b)).toInt - (amt (D 98 ka) (D 98 kb)).toInt := by
    rw [sb', lb]; exact sub_toInt (by have := b98.1; have := b98.2; rw [hmm]; split <;> omega) (by have := b98.2; omega)
  -- the other offers
  have oa : ∀ i, i < ma → i ≠ a → C' 29 (pa i) = C 29 (pa i) := fun i hi hia => by
    obtain ⟨k, k1, k2, k3, k4, -, k6⟩ := pick_at o3 hA hi
    have q := (s3'.2 k k1 (by rw [e6 97 (by omega) (by omega) (by omega)]; exact k2)).2.2.1
    have hkk : k ≠ ka := fun e => pk_ne hA hi ha hia (by rw [← k4, e, ea])
    have hkk2 : k ≠ kb := fun e => by rw [e, b97] at k2; exact absurd k2 (by decide)
    rw [px, k4, e4, up_ne _ _ hkk, up_ne _ _ hkk2] at q
    exact q.trans k6.symm
  have ob' : ∀ i, i < mb → i ≠ b → C' 35 (pb i) = C 35 (pb i) := fun i hi hia => by
    obtain ⟨k, k1, k2, k3, k4, -, k6⟩ := pick_at o4 hB hi
    have q := (s4'.2 k k1 (by rw [e6 97 (by omega) (by omega) (by omega)]; exact k2)).2.2.1
    have hkk : k ≠ kb := fun e => pk_ne hB hi hb hia (by rw [← k4, e, eb])
    have hkk2 : k ≠ ka := fun e => by rw [e, a97] at k2; exact absurd k2 (by decide)
    rw [px, k4, e4, up_ne _ _ hkk2, up_ne _ _ hkk] at q
    exact q.trans k6.symm
  have hA' : PK C' 26 1 g (cn (PX D' 0) no) ma pa := by
    rw [px]; exact hA.frame (by rw [e5 26 (by omega) (by omega) (by omega) (by omega) (by omega) (by omega) (by omega)]) (fun j hj => e5 j (by omega) (by omega) (by omega) (by omega) (by omega) (by omega) (by omega))
  have hB' : PK C' 32 ob g (cn (PX D' 1) no) mb pb := by
    rw [px]; exact hB.frame (by rw [e5 32 (by omega) (by omega) (by omega) (by omega) (by omega) (by omega) (by omega)]) (fun j hj => e5 j (by omega) (by omega) (by omega) (by omega) (by omega) (by omega) (by omega))
  have hMF : MF C D C' D' g no := by
    refine ⟨⟨fun j hj => e5 j (by omega) (by omega) (by omega) (by omega) (by omega) (by omega) (by omega), fun j hj => e6 j (by omega) (by omega) (by omega), fun i _ => by rw [e6 88 (by omega) (by omega) (by omega)]⟩, fun k hk hkg => ?_, fun j h1 h2 => e6 j (by omega) (by omega) (by omega)⟩
    rw [e4, up_ne _ _ (fun e => hkg (by rw [e, a94])), up_ne _ _ (fun e => hkg (by rw [e, b94]))]
  have a0 : 0 ≤ (C' 29 (pa a)).toInt := by rw [ta, la, hmm]; split <;> omega
  refine ⟨C', D', e1, e2, hMF, ?_, oa, ob', ta, tb, by rw [e4, up_ne _ _ (Ne.symm hne), up_same], hm0, e5 28 (by omega) (by omega) (by omega) (by omega) (by omega) (by omega) (by omega), e5 34 (by omega) (by omega) (by omega) (by omega) (by omega) (by omega) (by omega)⟩
  by_cases hz : C' 29 (pa a) = 0
  · refine Or.inl ⟨hz, e3, hA', hB', by omega, h2, fun i hi => ?_, fun i h6 h7 => ?_, fun j h6 h7 => ?_⟩
    · by_cases hia : i = a
      · subst hia; rw [hz]; decide
      · rw [oa i (by omega) hia]; exact h3 i (by omega)
    · rw [oa i h7 (by omega)]; exact h4 i (by omega) h7
    · rw [ob' j h7 (by omega)]; exact h5 j h6 h7
  · have hz' : (C' 29 (pa a)).toInt ≠ 0 := fun e => hz (Int32.toInt_inj.mp (e.trans Int32.toInt_zero.symm))
    have b0 : (C' 35 (pb b)).toInt ≤ 0 := by
      rw [tb, lb, hmm]
      rw [ta, la, hmm] at hz' a0
      split at hz' <;> omega
    refine Or.inr ⟨hz, ⟨e3, hA', hB', h1, by omega, fun i hi => ?_, fun i h6 h7 => ?_, fun j h6 h7 => ?_⟩, b0⟩
    · rw [oa i (by omega) (by omega)]; exact h3 i hi
    · by_cases hia : i = a
      · subst hia; omega
      · rw [oa i h7 hia]; exact h4 i h6 h7
    · rw [ob' j h7 (by omega)]; exact h5 j (by omega) h7
/-- the class's steps -/
theorem v_agree {C : St} {ma mb a b g na nb : Nat} {oa ob : Int32} {pa pb : Nat → Nat} (hA : PK C 26 oa g na ma pa) (hB : PK C 32 ob g nb mb pb) (hna : na ≤ 72) (hnb : nb ≤ 72) (ha : a < ma) (hb : b < mb) : f_Mt_agree (nI a) (nI b) C = some (if C 34 (pb b) < C 28 (pa a) then 0 else 1 : Int32) := by
  have q1 := hA.2.1
  have q2 := hB.2.1
  have p1 : C 30 a = nI (pa a) := (hA.2.2.1 a ha).1
  have p1' := (hA.2.2.1 a ha).2.1
  have p2 : C 36 b = nI (pb b) := (hB.2.2.1 b hb).1
  have p2' := (hB.2.2.1 b hb).2.1
  unfold f_Mt_agree
  rw [if_pos (inb_t (by omega) (by omega)), nI_clamp (by omega), p1, if_pos (inb_t (by omega) (by omega)), if_pos (inb_t (by omega) (by omega)), nI_clamp (by omega), p2, if_pos (inb_t (by omega) (by omega)), nI_clamp (by omega), nI_clamp (by omega)]
theorem serve_no {C D : St} {t n d no g ma mb a b q : Nat} {ob kd cl : Int32} {pa pb : Nat → Nat} (h : SV C D t n d no g ob ma mb pa pb a b) (ha : a < ma) (hb : b < mb) (hc : C 34 (pb b) < C 28 (pa a) ∨ (C 35 (pb b)).toInt ≤ 0) : L_Mt_serve_6 (q + 1) (nI g) kd cl (nI a) (nI b) C = L_Mt_serve_6 q (nI g) kd cl (nI a) (nI (b + 1)) C := by
  obtain ⟨hM, hA, hB, h1, h2, h3, h4, h5⟩ := h
  have hno := hM.2.2.1.2.1
  have hna := cn_le (P := PX D 0) no
  have hnb := cn_le (P := PX D 1) no
  have q1 := hA.2.1
  have q2 := hB.2.1
  have p1 : C 30 a = nI (pa a) := (hA.2.2.1 a ha).1
  have p1' := (hA.2.2.1 a ha).2.1
  have p2 : C 36 b = nI (pb b) := (hB.2.2.1 b hb).1
  have p2' := (hB.2.2.1 b hb).2.1
  have la := h4 a (Nat.le_refl _) ha
  have lz : ¬ (C 29 (pa a) = 0) := fun e => by rw [e, Int32.toInt_zero] at la; omega
  rw [L_Mt_serve_6, hA.1, if_neg (by rw [nI_leI (by omega) (by omega)]; omega), hB.1, if_neg (by rw [nI_leI (by omega) (by omega)]; omega), if_pos (inb_t (by omega) (by omega)), if_pos (inb_t (by omega) (by omega)), v_agree hA hB (by omega) (by omega) ha hb, bd1_s, nI_clamp (by omega), nI_clamp (by omega), p1, p2, nI_clamp (by omega)]
  have tr : ∀ v8, f_Mt_trade (nI g) (nI (pa a)) (nI (pb b)) v8 C = some C ∨ C 34 (pb b) < C 28 (pa a) := fun v8 => by
    rcases hc with hc | hc
    · exact Or.inr hc
    · refine Or.inl ?_
      unfold f_Mt_trade
      rw [if_pos (inb_t (by omega) (by omega)), if_pos (inb_t (by omega) (by omega)), nI_clamp (by omega), nI_clamp (by omega), if_neg]
      rw [Int32.lt_iff_toInt_lt, Int32.toInt_zero, show (if C 35 (pb b) < C 29 (pa a) then C 35 (pb b) else C 29 (pa a) : Int32) = amt (C 29 (pa a)) (C 35 (pb b)) from rfl, amt_toInt]
      split <;> omega
  have pr : ∃ v8, f_Mt_priceOf kd (nI (pa a)) (nI (pb b)) cl C = some v8 := by
    unfold f_Mt_priceOf
    rw [if_pos (inb_t (by omega) (by omega)), if_pos (inb_t (by omega) (by omega)), if_pos (inb_t (by omega) (by omega))]
    split
    · exact ⟨_, rfl⟩
    · split <;> exact ⟨_, rfl⟩
  obtain ⟨v8, hv8⟩ := pr
  by_cases hg : C 34 (pb b) < C 28 (pa a)
  · rw [if_pos hg, if_pos rfl, bd1_s, if_pos (inb_t (by omega) (by omega)), if_neg lz, if_neg lz, l1, nI_add]
  · rw [if_neg hg, if_neg i10, hv8, bd1_s]
    rcases tr v8 with e | e
    · rw [e, bd1_s, bd1_s, if_pos (inb_t (by omega) (by omega)), if_neg lz, if_neg lz, l1, nI_add]
    · exact absurd e hg
theorem serve_tr {C C' D : St} {t n d no g ma mb a b q : Nat} {ob kd cl p : Int32} {pa pb : Nat → Nat} (h : SV C D t n d no g ob ma mb pa pb a b) (ha : a < ma) (hb : b < mb) (hc : ¬ C 34 (pb b) < C 28 (pa a)) (hp : f_Mt_priceOf kd (nI (pa a)) (nI (pb b)) cl C = some p) (ht : f_Mt_trade (nI g) (nI (pa a)) (nI (pb b)) p C = some C') : L_Mt_serve_6 (q + 1) (nI g) kd cl (nI a) (nI b) C = if C' 29 (pa a) = 0 then L_Mt_serve_6 q (nI g) kd cl (nI (a + 1)) (nI b) C' else L_Mt_serve_6 q (nI g) kd cl (nI a) (nI (b + 1)) C' := by
  obtain ⟨hM, hA, hB, h1, h2, h3, h4, h5⟩ := h
  have hno := hM.2.2.1.2.1
  have hna := cn_le (P := PX D 0) no
  have hnb := cn_le (P := PX D 1) no
  have q1 := hA.2.1
  have q2 := hB.2.1
  have p1 : C 30 a = nI (pa a) := (hA.2.2.1 a ha).1
  have p1' := (hA.2.2.1 a ha).2.1
  have p2 : C 36 b = nI (pb b) := (hB.2.2.1 b hb).1
  have p2' := (hB.2.2.1 b hb).2.1
  rw [L_Mt_serve_6, hA.1, if_neg (by rw [nI_leI (by omega) (by omega)]; omega), hB.1, if_neg (by rw [nI_leI (by omega) (by omega)]; omega), if_pos (inb_t (by omega) (by omega)), if_pos (inb_t (by omega) (by omega)), v_agree hA hB (by omega) (by omega) ha hb, bd1_s, nI_clamp (by omega), nI_clamp (by omega), p1, p2, nI_clamp (by omega), if_neg hc, if_neg i10, hp, bd1_s, ht, bd1_s, bd1_s, if_pos (inb_t (by omega) (by omega)), l1, nI_add, nI_add]
  by_cases hz : C' 29 (pa a) = 0
  · rw [if_pos hz, if_pos hz, if_pos hz]
  · rw [if_neg hz, if_neg hz, if_neg hz]
theorem serve_end {C D : St} {t n d no g ma mb a b q : Nat} {ob kd cl : Int32} {pa pb : Nat → Nat} (h : SV C D t n d no g ob ma mb pa pb a b) (he : a = ma ∨ b = mb) : L_Mt_serve_6 (q + 1) (nI g) kd cl (nI a) (nI b) C = some C := by
  obtain ⟨hM, hA, hB, h1, h2, h3, h4, h5⟩ := h
  have hno := hM.2.2.1.2.1
  have hna := cn_le (P := PX D 0) no
  have hnb := cn_le (P := PX D 1) no
  have q1 := hA.2.1
  have q2 := hB.2.1
  rw [L_Mt_serve_6, hA.1, hB.1]
  by_cases ha : a = ma
  · rw [if_pos (by rw [nI_leI (by omega) (by omega)]; omega)]
  · rw [if_neg (by rw [nI_leI (by omega) (by omega)]; omega), if_pos (by rw [nI_leI (by omega) (by omega)]; omega)]
