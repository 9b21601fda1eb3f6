/-! PURE: a day: a trade -/
theorem amt_comm (x y : Int32) : amt x y = amt y x := by
  refine Int32.toInt_inj.mp ?_
  rw [amt_toInt, amt_toInt]
  split <;> split <;> omega
theorem cn_inj {P : Nat → Bool} {i j : Nat} (hi : P i = true) (hj : P j = true) (h : cn P i = cn P j) : i = j := by
  rcases Nat.lt_trichotomy i j with h1 | h1 | h1
  · have := cn_lt (P := P) (a := i) j h1 hi
    omega
  · exact h1
  · have := cn_lt (P := P) (a := j) i h1 hj
    omega
/-- who collects the TAX -/
def CO (C : St) (n : Nat) : Prop := (C 25 4 = (-1000000005) ∧ ∀ a, a < n → C 2 a ≠ 5) ∨ ∃ c, c < n ∧ C 25 4 = nI c ∧ C 2 c = 5 ∧ ∀ a, a < c → C 2 a ≠ 5
theorem v_council {C : St} {n : Nat} (hn : n ≤ 12) (h1 : C 1 0 = nI n) : ∀ (m k q : Nat), k + m = n → m < q → (∀ a, a < k → C 2 a ≠ 5) → (L_Tw_firstCouncil_2 q (nI k) C = some (.inr ()) ∧ ∀ a, a < n → C 2 a ≠ 5) ∨ ∃ c, c < n ∧ L_Tw_firstCouncil_2 q (nI k) C = some (.inl (nI c)) ∧ C 2 c = 5 ∧ ∀ a, a < c → C 2 a ≠ 5
  | 0, k, q + 1, hk, _, hb => by
    refine Or.inl ⟨?_, fun a ha => hb a (by omega)⟩
    rw [L_Tw_firstCouncil_2, h1, if_pos (by rw [nI_leI (by omega) (by omega)]; omega)]
  | m + 1, k, q + 1, hk, hq, hb => by
    rw [L_Tw_firstCouncil_2, h1, if_neg (by rw [nI_leI (by omega) (by omega)]; omega), if_pos (inb_t (by omega) (by omega)), nI_clamp (by omega)]
    by_cases h5 : C 2 k = 5
    · rw [if_pos h5]
      exact Or.inr ⟨k, by omega, rfl, h5, hb⟩
    · rw [if_neg h5, l1, nI_add]
      exact v_council hn h1 m (k + 1) q (by omega) (by omega) (fun a ha => by
        by_cases hak : a = k
        · rw [hak]; exact h5
        · exact hb a (by omega))
theorem m_council_l {D : St} {C : St} {n : Nat} (hn : n ≤ 12) (h1 : D 89 2163 = nI n) (hk : ∀ a, a < 12 → C 2 a = D 89 (5 * a)) {e : Nat} (he : e ≤ n) (hb : ∀ a, a < e → C 2 a ≠ 5) (h5 : e < n → C 2 e = 5) : ∀ (m k q : Nat), k + m = e → m < q → L_Md_council_2 q (nI k) D = some (if e < n then .inl (nI e) else .inr ())
  | 0, k, q + 1, hk', _ => by
    obtain rfl : k = e := by omega
    rw [L_Md_council_2, h1]
    by_cases hen : k < n
    · rw [if_neg (by rw [nI_leI (by omega) (by omega)]; omega), m_kind (by omega), bd1_s, ← hk k (by omega), if_pos (h5 hen), if_pos hen]
    · rw [if_pos (by rw [nI_leI (by omega) (by omega)]; omega), if_neg hen]
  | m + 1, k, q + 1, hk', hq => by
    rw [L_Md_council_2, h1, if_neg (by rw [nI_leI (by omega) (by omega)]; omega), m_kind (by omega), bd1_s, ← hk k (by omega), if_neg (hb k (by omega)), l1, nI_add]
    exact m_council_l hn h1 hk he hb h5 m (k + 1) q (by omega) (by omega)
theorem m_council {C D : St} {t n d : Nat} (hR : RT C D 0 89 0) (hW : WTn C 0 t n d) (hc : CO C n) : (C 25 4 = (-1000000005) ∧ f_Md_council D = some (-1)) ∨ ∃ c, c < n ∧ C 25 4 = nI c ∧ f_Md_council D = some (nI c) := by
  obtain ⟨hn, h1, -, -⟩ := hW.n0
  have hd : D 89 2163 = nI n := by rw [← h1]; exact (rt_n hR).1.symm
  unfold f_Md_council
  rcases hc with ⟨c1, c2⟩ | ⟨c, c1, c2, c3, c4⟩
  · refine Or.inl ⟨c1, ?_⟩
    rw [show L_Md_council_2 3000 0 D = _ from m_council_l (C := C) (e := n) hn hd (fun a ha => (rt_a hR ha).1) (by omega) c2 (fun h => by omega) n 0 3000 (by omega) (by omega), if_neg (by omega), bdS_r]
  · refine Or.inr ⟨c, c1, c2, ?_⟩
    rw [show L_Md_council_2 3000 0 D = _ from m_council_l (C := C) (e := c) hn hd (fun a ha => (rt_a hR ha).1) (by omega) c4 (fun _ => c3) c 0 3000 (by omega) (by omega), if_pos c1, bdS_l]
/-- each BID is covered -/
def cvT (D : St) (x k : Nat) : Int := if D 97 k = 1 ∧ D 93 k = nI x then (D 98 k).toInt * (D 96 k).toInt else 0
def CV (C D : St) (no : Nat) : Prop := ∀ x, x < 12 → sm (cvT D x) no ≤ (C 3 x).toInt
def MS (C D : St) (t n d no : Nat) : Prop := RT C D 0 89 0 ∧ WTn C 0 t n d ∧ OF C D n no ∧ CV C D no ∧ CO C n
theorem carry_hand {C K1 K2 : St} {a b g x y r : Nat} {m v : Int32} (ha : a < 12) (hb : b < 12) (hg : g < 5) (hx : x < 12) (hy : y < 12) (hr : r < 5) (hm : 0 ≤ m.toInt) (hf : ∀ i, i < 10 → 0 ≤ (C 8 (10 * (5 * a + g) + i)).toInt) (h1 : f_Sk_carry (nI a) (nI b) (nI g) m C = some K1) (h2 : f_Tw_hand (nI x) (nI y) (nI r) v K1 = some K2) : ∃ C2, f_Tw_hand (nI x) (nI y) (nI r) v C = some C2 ∧ f_Sk_carry (nI a) (nI b) (nI g) m C2 = some K2 := by
  obtain ⟨K1', e1, e2, e3, e4⟩ := v_carry (C := C) ha hb hg hm hf
  obtain rfl : K1' = K1 := Option.some.inj (e1.symm.trans h1)
  obtain ⟨K2', f1, f2, f3, f4⟩ := v_hand (C := K1') hx hy hr v
  obtain rfl : K2' = K2 := Option.some.inj (f1.symm.trans h2)
  obtain ⟨C2, g1, g2, g3, g4⟩ := v_hand (C := C) hx hy hr v
  have c8 : C2 8 = C 8 := g4 8 (by omega) (by omega)
  have c9 : C2 9 = C 9 := g4 9 (by omega) (by omega)
  obtain ⟨X, u1, u2, u3, u4⟩ := v_carry (C := C2) ha hb hg hm (by rw [c8]; exact hf)
  refine ⟨C2, g1, ?_⟩
  rw [u1]
  refine congrArg some ?_
  funext j
  by_cases h3 : j = 3
  · subst h3; rw [u4 3 (by omega) (by omega), g2, f2, e4 3 (by omega) (by omega)]
  · by_cases h6 : j = 6
    · subst h6; rw [u4 6 (by omega) (by omega), g3, f3, e4 6 (by omega) (by omega)]
    · rw [f4 j h3 h6]
      by_cases h8 : j = 8
      · subst h8; funext i; rw [u2, e2, c8]
      · by_cases h9 : j = 9
        · subst h9; rw [u3, e3, c8, c9]
        · rw [u4 j h8 h9, e4 j h8 h9, g4 j h3 h6]
theorem rt_off {C D C' D' : St} (h : RT C D 0 89 0) (hC : ∀ j, j ≤ 16 → C' j = C j) (hD : D' 89 = D 89) : RT C' D' 0 89 0 := h.frame (fun j _ h2 => hC _ (by omega)) hD
theorem trade_ok {C D : St} {t n d no : Nat} (h : MS C D t n d no) (ht : t ≤ 600) {ka kb g : Nat} (hka : ka < no) (hkb : kb < no) (a97 : D 97 ka = 0) (b97 : D 97 kb = 1) (a94 : D 94 ka = nI g) (b94 : D 94 kb = nI g) (hg : g < 5) {p : Int32} (hp : rg p 0 999) (hpq : p.toInt ≤ (D 96 kb).toInt) (hm0 : 0 < (amt (D 98 ka) (D 98 kb)).toInt) :
    ∃ C' D', f_Mt_trade (nI g) (nI (cn (PX D 0) ka)) (nI (cn (PX D 1) kb)) p C = some C' ∧ f_Md_sell (nI kb) (nI ka) (amt (D 98 ka) (D 98 kb)) p D = some D' ∧ MS C' D' t n d no ∧ D' 98 = up (up (D 98) kb (D 98 kb - amt (D 98 ka) (D 98 kb))) ka (D 98 ka - amt (D 98 ka) (D 98 kb)) ∧ (∀ j, j ≠ 3 → j ≠ 6 → j ≠ 8 → j ≠ 9 → j ≠ 11 → j ≠ 29 → j ≠ 35 → C' j = C j) ∧ (∀ j, j ≠ 89 → j ≠ 98 → j ≠ 101 → D' j = D j) ∧ (∀ i, 11 * g + 2 ≠ i → 11 * g + 3 ≠ i → C' 11 i = C 11 i) := by
  obtain ⟨hR, hW, ⟨o1, o2, o3, o4, o5⟩, hV, hO⟩ := h
  have hn := hW.1.1
  obtain ⟨⟨a, ha, a93⟩, -, a96, a98, -⟩ := o5 ka hka
  obtain ⟨⟨b, hb, b93⟩, -, b96, b98, -⟩ := o5 kb hkb
  obtain ⟨s1, s2, s3, s4⟩ := o3.2 ka hka a97
  obtain ⟨r1, r2, r3, r4⟩ := o4.2 kb hkb b97
  have hne : ka ≠ kb := fun e => by rw [e, b97] at a97; exact absurd a97 (by decide)
  have hia : cn (PX D 0) ka < 72 := Nat.lt_of_le_of_lt (cn_le ka) (by omega)
  have hib : cn (PX D 1) kb < 72 := Nat.lt_of_le_of_lt (cn_le kb) (by omega)
  have hmm := amt_toInt (D 98 ka) (D 98 kb)
  have hma : (amt (D 98 ka) (D 98 kb)).toInt ≤ (D 98 ka).toInt := by rw [hmm]; split <;> omega
  have hmb : (amt (D 98 ka) (D 98 kb)).toInt ≤ (D 98 kb).toInt := by rw [hmm]; split <;> omega
  have hm9 : (amt (D 98 ka) (D 98 kb)).toInt ≤ 999 := by have := a98.2; omega
  have f_a : C (26 + 1) (cn (PX D 0) ka) = nI a := by rw [s1, a93]
  have f_b : C (32 + 1) (cn (PX D 1) kb) = nI b := by rw [r1, b93]
  have f_la : C 29 (cn (PX D 0) ka) = D 98 ka := s3
  have f_lb : C 35 (cn (PX D 1) kb) = D 98 kb := r3
  generalize hM : amt (D 98 ka) (D 98 kb) = m at *
  generalize hIA : cn (PX D 0) ka = ia at *
  generalize hIB : cn (PX D 1) kb = ib at *
  obtain ⟨MM, M1, M2, M3⟩ := rg_nI (x := m) (hi := 999) ⟨by omega, hm9⟩
  obtain ⟨PP, P1, P2, P3⟩ := rg_nI hp
  obtain ⟨TT, T1, T2, T3⟩ := rg_nI hW.sc.2.1
  have pm : PP * MM ≤ 999 * 999 := Nat.mul_le_mul (by omega) (by omega)
  have pmt : PP * MM * TT ≤ 999 * 999 * 1000 := Nat.mul_le_mul pm (by omega)
  have ptx : PP * MM * TT / 1000 ≤ PP * MM := by
    have : PP * MM * TT ≤ PP * MM * 1000 := Nat.mul_le_mul (Nat.le_refl _) (by omega)
    omega
  have es : p * m = nI (PP * MM) := by rw [P3, M3, pk_mul]
  have et1 : ((((p * m).toInt64) * ((C 1 3).toInt64)) / 1000).toInt32 = nI (PP * MM * TT / 1000) := by
    rw [es, T3, nI_l (by omega), nI_l T2, lN_mul, show (1000 : Int64) = lN 1000 from rfl, pk_lDiv (by omega) (by omega) (by omega), lN_i]
  have et2 : ((((p.toInt64) * (m.toInt64)) * ((C 1 3).toInt64)) / 1000).toInt32 = nI (PP * MM * TT / 1000) := by
    rw [P3, M3, T3, nI_l P2, nI_l M2, nI_l T2, lN_mul, lN_mul, show (1000 : Int64) = lN 1000 from rfl, pk_lDiv (by omega) (by omega) (by omega), lN_i]
  have mI : m.toInt = MM := by rw [M3, nI_toInt M2]
  have pI : p.toInt = PP := by rw [P3, nI_toInt P2]
  -- the offers' change
  obtain ⟨C1, hC1⟩ : ∃ C1, C1 = mj_wr (mj_wr C 29 ia (D 98 ka - m)) 35 ib (D 98 kb - m) := ⟨_, rfl⟩
  obtain ⟨D1, hD1⟩ : ∃ D1, D1 = mj_wr (mj_wr D 98 kb (D 98 kb - m)) 98 ka (D 98 ka - m) := ⟨_, rfl⟩
  have c1 : ∀ j, j ≠ 29 → j ≠ 35 → C1 j = C j := fun j h1 h2 => by rw [hC1, wr_row _ _ h2, wr_row _ _ h1]
  have d1 : ∀ j, j ≠ 98 → D1 j = D j := fun j h1 => by rw [hD1, wr_row _ _ h1, wr_row _ _ h1]
  have R1 : RT C1 D1 0 89 0 := rt_off hR (fun j hj => c1 j (by omega) (by omega)) (d1 89 (by omega))
  have W1 : WTn C1 0 t n d := hW.frame (fun j h1 h2 => c1 _ (by omega) (by omega))
  obtain ⟨K1, D2, e1, e2, e3, e4, e5, e6, e7⟩ := carry R1 W1 ht ha hb hg (m := m) (by omega)
  have k13 : K1 3 = C 3 := by rw [e5 3 (by omega) (by omega), c1 3 (by omega) (by omega)]
  -- what the buyer has
  have hbx : (b : Nat) < 12 := by omega
  have sI : (nI (PP * MM)).toInt = ((PP * MM : Nat) : Int) := nI_toInt (by omega)
  have xI : (nI (PP * MM * TT / 1000)).toInt = ((PP * MM * TT / 1000 : Nat) : Int) := nI_toInt (by omega)
  have cvn : ∀ x k, k < no → 0 ≤ cvT D x k := fun x k hk => by
    unfold cvT
    split
    · obtain ⟨-, -, q6, q8, -⟩ := o5 k hk
      exact Int.mul_nonneg (by have := q8.1; omega) (by have := q6.1; omega)
    · omega
  have tb : cvT D b kb = (D 98 kb).toInt * (D 96 kb).toInt := if_pos ⟨b97, b93⟩
  have mul1 : ((PP * MM : Nat) : Int) ≤ m.toInt * (D 96 kb).toInt := by
    rw [mI, Int.natCast_mul, Int.mul_comm]
    exact Int.mul_le_mul_of_nonneg_left (by omega) (by omega)
  have mul2 : m.toInt * (D 96 kb).toInt ≤ (D 98 kb).toInt * (D 96 kb).toInt := Int.mul_le_mul_of_nonneg_right hmb (by have := b96.1; omega)
  have has : ((PP * MM : Nat) : Int) ≤ (C 3 b).toInt := by
    have q1 := sm_le (f := cvT D b) (fun k hk => cvn b k hk) hkb
    have q2 := hV b hbx
    rw [tb] at q1
    omega
  obtain ⟨K2, D3, f1, f2, f3, f4, f5, f6, f7, f8, f9⟩ := pay e3 e4 hb ha (show 0 < 5 by omega) (v := nI (PP * MM)) (by omega) (by rw [k13]; omega)
  obtain ⟨k1, k2, k3⟩ := hW.cash
  obtain ⟨p1, p2, p3, p4, p5, p6, p7⟩ := py_int (f := C 3) (N := 12) (a := b) (b := a) (v := nI (PP * MM)) k1 (by omega) (by omega) (by omega) (by omega) (by omega)
  have f5' : K2 3 = py (C 3) b a (nI (PP * MM)) := by rw [f5, k13]
  have O2 : CO K2 n := by
    unfold CO
    rw [f6 25 (by omega) (by omega), e5 25 (by omega) (by omega), c1 25 (by omega) (by omega), f6 2 (by omega) (by omega), e5 2 (by omega) (by omega), c1 2 (by omega) (by omega)]
    exact hO
  have t13 : K2 1 = C 1 := by rw [f6 1 (by omega) (by omega), e5 1 (by omega) (by omega), c1 1 (by omega) (by omega)]
  have t13d : D3 89 2166 = C 1 3 := by rw [← (rt_n f3).2.2.2.1, t13]
  have taxle : ((PP * MM * TT / 1000 : Nat) : Int) ≤ (K2 3 a).toInt := by
    rw [f5']
    by_cases hab : b = a
    · rw [p6 hab a, ← hab]; omega
    · rw [(p5 hab).2, sI]
      have := k1 a (by omega)
      omega
  -- the tax
  have S : ∃ K3 D4, (if (K2 25 4) = (-1000000005) then some K2 else bd1 (f_Tw_hand (nI a) (K2 25 4) 1 (nI (PP * MM * TT / 1000)) K2) fun C11 => some C11) = some K3 ∧ (bd1 (f_Md_council D3) fun v10 => bd1 (if v10 < 0 then some D3 else bd1 (f_Md_pays (nI a) v10 (nI (PP * MM * TT / 1000)) 1 D3) fun C14 => some C14) fun (C16 : St) => if inb ((1308 + (11 * nI g)) + 2) 2200 then bd1 (f_Md_addGood (nI g) 3 m (mj_wr C16 89 (((1308 + (11 * nI g)) + 2).toNatClampNeg) p)) fun C20 => some C20 else none) = f_Md_addGood (nI g) (nI 3) m (mj_wr D4 89 (1308 + (11 * g + 2)) p) ∧ RT K3 D4 0 89 0 ∧ WTn K3 0 t n d ∧ (∀ j, j ≠ 3 → j ≠ 6 → K3 j = K2 j) ∧ (∀ j, j ≠ 89 → D4 j = D3 j) ∧ (∀ x, x < 12 → (C 3 x).toInt - (if x = b then ((PP * MM : Nat) : Int) else 0) ≤ (K3 3 x).toInt) ∧ (∃ C2 C3, f_Tw_hand (nI b) (nI a) (nI 0) (nI (PP * MM)) C1 = some C2 ∧ C2 25 4 = K2 25 4 ∧ C2 1 3 = C 1 3 ∧ (if (C2 25 4) = (-1000000005) then some C2 else bd1 (f_Tw_hand (nI a) (C2 25 4) 1 (nI (PP * MM * TT / 1000)) C2) fun C11 => some C11) = some C3 ∧ f_Sk_carry (nI a) (nI b) (nI g) m C3 = some K3 ∧ C3 33 = C 33) := by
    have eidx : ((1308 + (11 * nI g)) + 2) = nI (1308 + (11 * g + 2)) := by
      rw [l1308, l11, l2]
      simp only [pk_mul, nI_add]
      exact congrArg nI (by omega)
    have fin : ∀ D4 : St, (if inb ((1308 + (11 * nI g)) + 2) 2200 then bd1 (f_Md_addGood (nI g) 3 m (mj_wr D4 89 (((1308 + (11 * nI g)) + 2).toNatClampNeg) p)) fun C20 => some C20 else none) = f_Md_addGood (nI g) (nI 3) m (mj_wr D4 89 (1308 + (11 * g + 2)) p) := fun D4 => by
      rw [eidx, if_pos (inb_t (by omega) (by omega)), nI_clamp (by omega), show (3 : Int32) = nI 3 from rfl]
      generalize f_Md_addGood (nI g) (nI 3) m (mj_wr D4 89 (1308 + (11 * g + 2)) p) = z
      cases z <;> rfl
    have pcs : ∀ i, i < 10 → 0 ≤ (C1 8 (10 * (5 * a + g) + i)).toInt := fun i hi => W1.ps.1 _ (by omega)
    obtain ⟨C2, q1, q2⟩ := carry_hand (by omega) (by omega) hg (by omega) (by omega) (by omega) (by omega) pcs e1 f1
    obtain ⟨C2', y1, y2, y3, y4⟩ := v_hand (C := C1) (a := b) (b := a) (r := 0) (by omega) (by omega) (by omega) (nI (PP * MM))
    obtain rfl : C2' = C2 := Option.some.inj (y1.symm.trans q1)
    have g25 : C2' 25 = K2 25 := by rw [y4 25 (by omega) (by omega), f6 25 (by omega) (by omega), e5 25 (by omega) (by omega)]
    have g13 : C2' 1 3 = C 1 3 := by rw [y4 1 (by omega) (by omega), c1 1 (by omega) (by omega)]
    have g33 : C2' 33 = C 33 := by rw [y4 33 (by omega) (by omega), c1 33 (by omega) (by omega)]
    rcases m_council f3 f4 O2 with ⟨w1, w2⟩ | ⟨c, w0, w1, w2⟩
    · refine ⟨K2, D3, by rw [if_pos w1], ?_, f3, f4, fun _ _ _ => rfl, fun _ _ => rfl, fun x hx => ?_, C2', C2', q1, by rw [g25], g13, by rw [g25, if_pos w1], q2, g33⟩
      · rw [w2, bd1_s, if_pos (by decide), bd1_s, fin]
      · rw [f5']
        have := p7 x hx
        rw [sI] at this
        exact this
    · have hcn : ¬ (nI c = (-1000000005 : Int32)) := fun e => by
        have := congrArg Int32.toInt e
        rw [nI_toInt (by omega), show ((-1000000005 : Int32)).toInt = -1000000005 by decide] at this
        omega
      have hc0 : ¬ (nI c < (0 : Int32)) := by rw [l0, nI_ltI (by omega) (by omega)]; omega
      obtain ⟨K3, D4, u1, u2, u3, u4, u5, u6, u7, u8, u9⟩ := pay f3 f4 ha w0 (show 1 < 5 by omega) (v := nI (PP * MM * TT / 1000)) (by omega) (by omega)
      obtain ⟨kk1, kk2, kk3⟩ := f4.cash
      obtain ⟨-, -, -, -, -, -, pp7⟩ := py_int (f := K2 3) (N := 12) (a := a) (b := c) (v := nI (PP * MM * TT / 1000)) kk1 (by omega) (by omega) (by omega) (by omega) (by omega)
      have pcs2 : ∀ i, i < 10 → 0 ≤ (C2' 8 (10 * (5 * a + g) + i)).toInt := fun i hi => by rw [y4 8 (by omega) (by omega)]; exact pcs i hi
      obtain ⟨C3, z1, z2⟩ := carry_hand (by omega) (by omega) hg (by omega) (by omega) (by omega) (by omega) pcs2 q2 u1
      obtain ⟨C3', x1, -, -, x4⟩ := v_hand (C := C2') (a := a) (b := c) (r := 1) (by omega) (by omega) (by omega) (nI (PP * MM * TT / 1000))
      obtain rfl : C3' = C3 := Option.some.inj (x1.symm.trans z1)
      refine ⟨K3, D4, ?_, ?_, u3, u4, u6, u9, fun x hx => ?_, C2', C3', q1, by rw [g25], g13, ?_, z2, by rw [x4 33 (by omega) (by omega)]; exact g33⟩
      · rw [w1, if_neg hcn, l1, u1, bd1_s]
      · rw [w2, bd1_s, if_neg hc0, show (1 : Int32) = nI 1 from rfl, u2, bd1_s, bd1_s, fin]
      · rw [u5]
        have q3 := pp7 x hx
        have q4 := p7 x hx
        rw [f5', xI] at q3
        rw [sI] at q4
        rw [f5']
        by_cases hxa : x = a
        · subst hxa
          rw [if_pos rfl] at q3
          by_cases hxb : b = x
          · rw [if_pos hxb.symm]
            rw [p6 hxb x] at q3
            omega
          · rw [(p5 hxb).2, sI] at q3
            rw [if_neg (fun e => hxb e.symm)]
            omega
        · rw [if_neg hxa] at q3
          omega
      · rw [g25, w1, if_neg hcn, l1, z1, bd1_s]
  obtain ⟨K3, D4, v1, v2, v3, v4, v5, v6, v7, C2, C3, v8, v9, v10, v11, v12, v13⟩ := S
  have R5 := rt_w1 v3 (show 11 * g + 2 < 55 by omega) p
  have W5 := v4.put_w (c := 2) hg (by omega) (by omega) (x := p) (fun _ => hp)
  obtain ⟨i1, i2, i3, i4⟩ := inc R5 W5 hg (show 3 ≤ 3 by omega) (by omega) m
  have fC : ∀ j, j ≠ 3 → j ≠ 6 → j ≠ 8 → j ≠ 9 → j ≠ 11 → j ≠ 29 → j ≠ 35 → mj_wr (mj_wr K3 11 (11 * g + 2) p) 11 (11 * g + 3) (mj_wr K3 11 (11 * g + 2) p 11 (11 * g + 3) + m) j = C j := fun j h1 h2 h3 h4 h5 h6 h7 => by
    rw [wr_row _ _ h5, wr_row _ _ h5, v5 j h1 h2, f6 j h1 h2, e5 j h3 h4, c1 j h6 h7]
  have fL : ∀ j, j = 29 ∨ j = 35 → mj_wr (mj_wr K3 11 (11 * g + 2) p) 11 (11 * g + 3) (mj_wr K3 11 (11 * g + 2) p 11 (11 * g + 3) + m) j = C1 j := fun j hj => by
    rw [wr_row _ _ (by omega), wr_row _ _ (by omega), v5 j (by omega) (by omega), f6 j (by omega) (by omega), e5 j (by omega) (by omega)]
  have fD : ∀ j, j ≠ 89 → j ≠ 101 → mj_wr (mj_wr D4 89 (1308 + (11 * g + 2)) p) 89 (1308 + (11 * g + 3)) (mj_wr K3 11 (11 * g + 2) p 11 (11 * g + 3) + m) j = D1 j := fun j h1 h2 => by
    rw [wr_row _ _ h1, wr_row _ _ h1, v6 j h1, f9 j h1, e6 j h1 h2]
  have f3' : mj_wr (mj_wr K3 11 (11 * g + 2) p) 11 (11 * g + 3) (mj_wr K3 11 (11 * g + 2) p 11 (11 * g + 3) + m) 3 = K3 3 := by rw [wr_row _ _ (by omega), wr_row _ _ (by omega)]
  have f11 : ∀ i, 11 * g + 2 ≠ i → 11 * g + 3 ≠ i → mj_wr (mj_wr K3 11 (11 * g + 2) p) 11 (11 * g + 3) (mj_wr K3 11 (11 * g + 2) p 11 (11 * g + 3) + m) 11 i = C 11 i := fun i h1 h2 => by
    rw [wr_idx _ _ (Ne.symm h2), wr_idx _ _ (Ne.symm h1), v5 11 (by omega) (by omega), f6 11 (by omega) (by omega), e5 11 (by omega) (by omega), c1 11 (by omega) (by omega)]
  refine ⟨_, _, ?_, ?_, ⟨i3, i4, ?_, ?_, ?_⟩, ?_, fC, fun j h1 h2 h3 => (fD j h1 h3).trans (d1 j h2), f11⟩
  · -- the class
    unfold f_Mt_trade
    rw [if_pos (inb_t hia (by omega)), if_pos (inb_t hib (by omega)), nI_clamp (by omega), nI_clamp (by omega), f_la, f_lb, show (if D 98 kb < D 98 ka then D 98 kb else D 98 ka : Int32) = m from hM, if_pos (by rw [Int32.lt_iff_toInt_lt, Int32.toInt_zero]; exact hm0), wr_cell (i := 35) _ _ (by omega), f_lb, ← hC1, c1 33 (by omega) (by omega), c1 27 (by omega) (by omega), show C 33 ib = nI b from f_b, show C 27 ia = nI a from f_a, es, l0, v8, bd1_s, v10, ← es, et1, v11, bd1_s, v13, show C 33 ib = nI b from f_b, v12, bd1_s, l2, v_wput hg (by omega), bd1_s, l3, i1, bd1_s]
  · unfold f_Md_sell
    rw [if_pos (inb_t (by omega) (by omega)), if_pos (inb_t (by omega) (by omega)), nI_clamp (by omega), nI_clamp (by omega), a93, a94, b93, wr_idx _ _ hne, ← hD1, e2, bd1_s, es, l0, f2, bd1_s, t13d, et2, ← l0, v2, i2]
  · -- the offers
    have e98 : mj_wr (mj_wr D4 89 (1308 + (11 * g + 2)) p) 89 (1308 + (11 * g + 3)) (mj_wr K3 11 (11 * g + 2) p 11 (11 * g + 3) + m) 98 = up (up (D 98) kb (D 98 kb - m)) ka (D 98 ka - m) := by rw [fD 98 (by omega) (by omega), hD1, wr_up, wr_up]
    have eo : ∀ j, 93 ≤ j → j ≤ 97 → mj_wr (mj_wr D4 89 (1308 + (11 * g + 2)) p) 89 (1308 + (11 * g + 3)) (mj_wr K3 11 (11 * g + 2) p 11 (11 * g + 3) + m) j = D j := fun j h1 h2 => by rw [fD j (by omega) (by omega), d1 j (by omega)]
    generalize mj_wr (mj_wr D4 89 (1308 + (11 * g + 2)) p) 89 (1308 + (11 * g + 3)) (mj_wr K3 11 (11 * g + 2) p 11 (11 * g + 3) + m) = D' at *
    have e88 : D' 88 11 = D 88 11 := by rw [fD 88 (by omega) (by omega), d1 88 (by omega)]
    have hpx : ∀ x, PX D' x = PX D x := fun x => by funext k; unfold PX; rw [eo 97 (by omega) (by omega)]
    refine ⟨e88.trans o1, o2, ⟨?_, fun k hk hx => ?_⟩, ⟨?_, fun k hk hx => ?_⟩, fun k hk => ?_⟩
    · rw [hpx, fC 26 (by omega) (by omega) (by omega) (by omega) (by omega) (by omega) (by omega)]; exact o3.1
    · rw [eo 97 (by omega) (by omega)] at hx
      rw [hpx, fC 27 (by omega) (by omega) (by omega) (by omega) (by omega) (by omega) (by omega), fC 28 (by omega) (by omega) (by omega) (by omega) (by omega) (by omega) (by omega), fC 31 (by omega) (by omega) (by omega) (by omega) (by omega) (by omega) (by omega), fL 29 (by omega), eo 93 (by omega) (by omega), eo 94 (by omega) (by omega), eo 96 (by omega) (by omega), e98]
      obtain ⟨z1, z2, z3, z4⟩ := o3.2 k hk hx
      refine ⟨z1, z2, ?_, z4⟩
      rw [hC1, wr_row _ _ (by omega), wr_up]
      by_cases hkk : k = ka
      · subst hkk; rw [hIA, up_same, up_same]
      · have hnn : cn (PX D 0) k ≠ ia := fun e => hkk (cn_inj (P := PX D 0) (by unfold PX; exact decide_eq_true hx) (by unfold PX; exact decide_eq_true a97) (e.trans hIA.symm))
        have hkb' : k ≠ kb := fun e => by rw [e, b97] at hx; exact absurd hx (by decide)
        rw [up_ne _ _ hnn, up_ne _ _ hkk, up_ne _ _ hkb']
        exact z3
    · rw [hpx, fC 32 (by omega) (by omega) (by omega) (by omega) (by omega) (by omega) (by omega)]; exact o4.1
    · rw [eo 97 (by omega) (by omega)] at hx
      rw [hpx, fC 33 (by omega) (by omega) (by omega) (by omega) (by omega) (by omega) (by omega), fC 34 (by omega) (by omega) (by omega) (by omega) (by omega) (by omega) (by omega), fC 37 (by omega) (by omega) (by omega) (by omega) (by omega) (by omega) (by omega), fL 35 (by omega), eo 93 (by omega) (by omega), eo 94 (by omega) (by omega), eo 96 (by omega) (by omega), e98]
      obtain ⟨z1, z2, z3, z4⟩ := o4.2 k hk hx
      refine ⟨z1, z2, ?_, z4⟩
      rw [hC1, wr_up, wr_row _ _ (by omega)]
      have hka' : k ≠ ka := fun e => by rw [e, a97] at hx; exact absurd hx (by decide)
      by_cases hkk : k = kb
      · subst hkk; rw [hIB, up_same, up_ne _ _ hka', up_same]
      · have hnn : cn (PX D 1) k ≠ ib := fun e => hkk (cn_inj (P := PX D 1) (by unfold PX; exact decide_eq_true hx) (by unfold PX; exact decide_eq_true b97) (e.trans hIB.symm))
        rw [up_ne _ _ hnn, up_ne _ _ hka', up_ne _ _ hkk]
        exact z3
    · rw [eo 93 (by omega) (by omega), eo 94 (by omega) (by omega), eo 96 (by omega) (by omega), eo 97 (by omega) (by omega), e98]
      obtain ⟨z1, z2, z3, z4, z5⟩ := o5 k hk
      refine ⟨z1, z2, z3, ?_, z5⟩
      by_cases hkk : k = ka
      · subst hkk
        rw [up_same]
        have := sub_toInt (x := D 98 k) (y := m) (by have := a98.1; omega) (by have := a98.2; omega)
        exact ⟨by omega, by have := a98.2; omega⟩
      · rw [up_ne _ _ hkk]
        by_cases hkk2 : k = kb
        · subst hkk2
          rw [up_same]
          have := sub_toInt (x := D 98 k) (y := m) (by have := b98.1; omega) (by have := b98.2; omega)
          exact ⟨by omega, by have := b98.2; omega⟩
        · rw [up_ne _ _ hkk2]; exact z4
  · -- the cover
    intro x hx
    rw [f3']
    have q1 := v7 x hx
    have q2 := hV x hx
    have e98 : mj_wr (mj_wr D4 89 (1308 + (11 * g + 2)) p) 89 (1308 + (11 * g + 3)) (mj_wr K3 11 (11 * g + 2) p 11 (11 * g + 3) + m) 98 = up (up (D 98) kb (D 98 kb - m)) ka (D 98 ka - m) := by rw [fD 98 (by omega) (by omega), hD1, wr_up, wr_up]
    have eo : ∀ j, 93 ≤ j → j ≤ 97 → mj_wr (mj_wr D4 89 (1308 + (11 * g + 2)) p) 89 (1308 + (11 * g + 3)) (mj_wr K3 11 (11 * g + 2) p 11 (11 * g + 3) + m) j = D j := fun j h1 h2 => by rw [fD j (by omega) (by omega), d1 j (by omega)]
    generalize mj_wr (mj_wr D4 89 (1308 + (11 * g + 2)) p) 89 (1308 + (11 * g + 3)) (mj_wr K3 11 (11 * g + 2) p 11 (11 * g + 3) + m) = D' at *
    have lb : (D 98 kb - m).toInt = (D 98 kb).toInt - m.toInt := sub_toInt (by have := b98.1; omega) (by have := b98.2; omega)
    have ec : sm (cvT D' x) no = sm (fun k => if k = kb then (if x = b then ((D 98 kb).toInt - m.toInt) * (D 96 kb).toInt else 0) else cvT D x k) no := sm_congr no (fun k hk => by
      unfold cvT
      rw [eo 97 (by omega) (by omega), eo 93 (by omega) (by omega), eo 96 (by omega) (by omega), e98]
      by_cases hkk : k = kb
      · subst hkk
        rw [if_pos rfl, up_ne _ _ (Ne.symm hne), up_same, b93, lb]
        by_cases hxb : x = b
        · rw [if_pos ⟨b97, by rw [hxb]⟩, if_pos hxb]
        · rw [if_neg (fun e => hxb (nI_inj (by omega) (by omega) e.2).symm), if_neg hxb]
      · rw [if_neg hkk]
        by_cases hka' : k = ka
        · subst hka'
          rw [if_neg (fun e => by rw [a97] at e; exact absurd e.1 (by decide)), if_neg (fun e => by rw [a97] at e; exact absurd e.1 (by decide))]
        · rw [up_ne _ _ hka', up_ne _ _ hkk])
    rw [ec, sm_upd, if_pos hkb]
    by_cases hxb : x = b
    · subst hxb
      rw [if_pos rfl] at q1
      rw [if_pos rfl, tb, Int.sub_mul]
      omega
    · rw [if_neg hxb] at q1
      rw [if_neg hxb]
      have : 0 ≤ cvT D x kb := cvn x kb hkb
      omega
  · unfold CO
    rw [fC 25 (by omega) (by omega) (by omega) (by omega) (by omega) (by omega) (by omega), fC 2 (by omega) (by omega) (by omega) (by omega) (by omega) (by omega) (by omega)]
    exact hO
  · rw [fD 98 (by omega) (by omega), hD1, wr_up, wr_up]
