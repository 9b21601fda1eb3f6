/-! PURE: a day: making, asking, bidding -/
def aln (N k F : Nat) : Nat := if k = 0 then N else min N (F / k)
theorem aln_le (N k F : Nat) : aln N k F ≤ N := by unfold aln; split <;> omega
theorem aln_mul {N k F W : Nat} (h : W ≤ aln N k F) : W * k ≤ F := by
  unfold aln at h
  by_cases hk : k = 0
  · subst hk; omega
  · rw [if_neg hk] at h
    exact Nat.le_trans (Nat.mul_le_mul_right k (show W ≤ F / k by omega)) (Nat.div_mul_le_self F k)
theorem amt_nI {a b : Nat} (ha : a < 2 ^ 31) (hb : b < 2 ^ 31) : amt (nI a) (nI b) = nI (min a b) := by
  refine Int32.toInt_inj.mp ?_
  rw [amt_toInt, nI_toInt ha, nI_toInt hb, nI_toInt (by omega)]
  split <;> omega
theorem nI_inj {a b : Nat} (ha : a < 2 ^ 31) (hb : b < 2 ^ 31) (h : nI a = nI b) : a = b := by
  have := congrArg Int32.toInt h
  rw [nI_toInt ha, nI_toInt hb] at this
  omega
theorem nI_gt0 {k : Nat} (hk : k < 2 ^ 31) (h : k ≠ 0) : ¬ (nI k ≤ (0 : Int32)) ∧ ¬ (nI k = (0 : Int32)) := ⟨by rw [l0, nI_leI hk (by omega)]; omega, fun e => h (nI_inj hk (by omega) e)⟩
theorem v_allowed {N k F : Nat} (hN : N < 2 ^ 31) (hk : k < 2 ^ 31) (hF : F < 2 ^ 31) : f_Dy_allowed (nI N) (nI k) (nI F) = some (nI (aln N k F)) := by
  unfold f_Dy_allowed aln
  by_cases h : k = 0
  · subst h; rw [if_pos (by decide), bd1_s, if_pos rfl]
  · have hle : F / k ≤ F := Nat.div_le_self F k
    rw [if_neg (nI_gt0 hk h).1, if_neg (nI_gt0 hk h).2, if_neg h, pk_div hF (by omega) hk, bd1_s]
    exact congrArg some (amt_nI hN (by omega))
/-- the pieces that a recipe uses -/
theorem uses {C D : St} {t n d a x y A B W : Nat} (hR : RT C D 0 89 0) (hW : WTn C 0 t n d) (ht : t ≤ 600) (ha : a < 12) (hx : x < 5) (hy : y < 5) (hA : A ≤ 9) (hB : B ≤ 9) (hWW : W ≤ 999) (b1 : x = y → (W * (A + B) : Int) ≤ (C 9 (5 * a + x)).toInt - (C 38 (5 * a + x)).toInt) (b2 : x ≠ y → (W * A : Int) ≤ (C 9 (5 * a + x)).toInt - (C 38 (5 * a + x)).toInt ∧ (W * B : Int) ≤ (C 9 (5 * a + y)).toInt - (C 38 (5 * a + y)).toInt) (h38 : ∀ p, p < 60 → 0 ≤ (C 38 p).toInt ∧ (C 38 p).toInt ≤ (C 9 p).toInt) :
    ∃ C1 C2 D1 D2, f_Sk_use (nI a) (nI x) (nI W * (if nI x = nI y then nI A + nI B else nI A : Int32)) C = some C1 ∧ f_Sk_use (nI a) (nI y) (nI W * (if nI x = nI y then 0 else nI B : Int32)) C1 = some C2 ∧ f_Md_go (nI a) (nI x) (nI W * nI A) (-1) D = some D1 ∧ f_Md_go (nI a) (nI y) (nI W * nI B) (-1) D1 = some D2 ∧ RT C2 D2 0 89 0 ∧ WTn C2 0 t n d ∧ (∀ j, j ≠ 8 → j ≠ 9 → C2 j = C j) ∧ (∀ j, j ≠ 89 → j ≠ 101 → D2 j = D j) ∧ (∀ p, p < 60 → (C 38 p).toInt ≤ (C2 9 p).toInt) := by
  have hd := hW.1.2.2.1
  have kA : W * A ≤ 999 * 9 := Nat.mul_le_mul hWW hA
  have kB : W * B ≤ 999 * 9 := Nat.mul_le_mul hWW hB
  by_cases hxy : x = y
  · subst hxy
    have kS : W * (A + B) = W * A + W * B := Nat.mul_add W A B
    have b1' := b1 rfl
    rw [← Int.natCast_add, ← Int.natCast_mul] at b1'
    have hp : 5 * a + x < 60 := by omega
    have h38p := h38 _ hp
    have s0 : 0 ≤ (nI (W * (A + B))).toInt := by rw [nI_toInt (by omega)]; omega
    obtain ⟨C1, E1, e1, e2, e3, e4, e5, e6, e7, e8, e9, -, -⟩ := use hR hW ht ha hx s0
    obtain ⟨C2, E2, g1, g2, g3, g4, g5, g6, g7, g8, g9, -, -⟩ := use e3 e4 ht ha hx (m := nI 0) (by decide)
    obtain ⟨D1, u1, u2, u3⟩ := m_go0 (D := D) ha hx (nI (W * A))
    obtain ⟨D2, w1, w2, w3⟩ := m_go0 (D := D1) ha hx (nI (W * B))
    obtain ⟨E1', q1, q2, -⟩ := m_go0 (D := D) ha hx (nI (W * (A + B)))
    obtain ⟨E2', r1, r2, -⟩ := m_go0 (D := E1) ha hx (nI 0)
    obtain rfl : E1' = E1 := Option.some.inj (q1.symm.trans e2)
    obtain rfl : E2' = E2 := Option.some.inj (r1.symm.trans g2)
    have f0 : ∀ i, i < 10 → 0 ≤ (D 89 (60 + 10 * (5 * a + x) + i)).toInt := fun i hi => by
      rw [Nat.add_assoc, ← rt_p hR (show 10 * (5 * a + x) + i < 600 by omega)]
      exact hW.ps.1 _ (by omega)
    have f1 : ∀ i, i < 10 → 0 ≤ (E1' 89 (60 + 10 * (5 * a + x) + i)).toInt := fun i hi => by
      rw [Nat.add_assoc, ← rt_p e3 (show 10 * (5 * a + x) + i < 600 by omega)]
      exact e4.ps.1 _ (by omega)
    have e89 : D2 89 = E2' 89 := by
      funext i
      rw [w2, r2]
      by_cases s : 60 + 10 * (5 * a + x) ≤ i ∧ i < 60 + 10 * (5 * a + x) + 10
      · rw [if_pos s, if_pos s, show aw (fun i => E1' 89 (60 + 10 * (5 * a + x) + i)) 10 (nI 0) (i - (60 + 10 * (5 * a + x))) = 0 from aw_0 10 f1 _, Int32.sub_zero, q2, if_pos s, u2, if_pos s]
        have := aw_two (f := fun i => D 89 (60 + 10 * (5 * a + x) + i)) 10 (nI (W * A)) (nI (W * B)) (nI (W * (A + B))) (by rw [nI_toInt (by omega)]; omega) (by rw [nI_toInt (by omega)]; omega) (by rw [nI_toInt (by omega), nI_toInt (by omega), nI_toInt (by omega)]; omega) f0 (i - (60 + 10 * (5 * a + x))) (by omega)
        rw [show 60 + 10 * (5 * a + x) + (i - (60 + 10 * (5 * a + x))) = i by omega] at this
        rw [← this]
        refine congrArg _ (aw_congr 10 _ (fun k hk => ?_) _)
        rw [u2, if_pos (by omega), show 60 + 10 * (5 * a + x) + k - (60 + 10 * (5 * a + x)) = k by omega]
      · rw [if_neg s, if_neg s, u2, q2, if_neg s, if_neg s]
    refine ⟨C1, C2, D1, D2, ?_, ?_, ?_, ?_, g3.frame (fun j _ _ => rfl) e89, g4, fun j h1 h2 => by rw [g5 j h1 h2, e5 j h1 h2], fun j h1 h2 => by rw [w3 j h1 h2, u3 j h1 h2], fun p hp => ?_⟩
    · rw [if_pos rfl, nI_add, pk_mul]; exact e1
    · rw [if_pos rfl, l0, pk_mul, Nat.mul_zero]; exact g1
    · rw [pk_mul]; exact u1
    · rw [pk_mul]; exact w1
    · by_cases hpp : p = 5 * a + x
      · subst hpp
        have c1 : (C1 9 (5 * a + x)).toInt = (C 9 (5 * a + x)).toInt - (nI (W * (A + B))).toInt := e9 (by rw [nI_toInt (by omega)]; omega)
        rw [nI_toInt (by omega)] at c1
        rw [g9 (by rw [nI_toInt (by omega)]; omega), c1, nI_toInt (by omega)]
        omega
      · rw [g8 p hpp, e8 p hpp]; exact (h38 p hp).2
  · obtain ⟨c1, c2⟩ := b2 hxy
    rw [← Int.natCast_mul] at c1 c2
    have hxx : ¬ (nI x = nI y) := fun e => hxy (nI_inj (by omega) (by omega) e)
    have h38x := h38 (5 * a + x) (by omega)
    have h38y := h38 (5 * a + y) (by omega)
    obtain ⟨C1, D1, e1, e2, e3, e4, e5, e6, e7, e8, e9, -, -⟩ := use hR hW ht ha hx (m := nI (W * A)) (by rw [nI_toInt (by omega)]; omega)
    obtain ⟨C2, D2, g1, g2, g3, g4, g5, g6, g7, g8, g9, -, -⟩ := use e3 e4 ht ha hy (m := nI (W * B)) (by rw [nI_toInt (by omega)]; omega)
    refine ⟨C1, C2, D1, D2, ?_, ?_, ?_, ?_, g3, g4, fun j h1 h2 => by rw [g5 j h1 h2, e5 j h1 h2], fun j h1 h2 => by rw [g6 j h1 h2, e6 j h1 h2], fun p hp => ?_⟩
    · rw [if_neg hxx, pk_mul]; exact e1
    · rw [if_neg hxx, pk_mul]; exact g1
    · rw [pk_mul]; exact e2
    · rw [pk_mul]; exact g2
    · have h38p := h38 p hp
      by_cases hpx : p = 5 * a + x
      · rw [g8 p (by omega), hpx, e9 (by rw [nI_toInt (by omega)]; omega), nI_toInt (by omega)]
        omega
      · by_cases hpy : p = 5 * a + y
        · have cy : C1 9 (5 * a + y) = C 9 (5 * a + y) := e8 _ (by omega)
          rw [hpy, g9 (by rw [nI_toInt (by omega), cy]; omega), nI_toInt (by omega), cy]
          omega
        · rw [g8 p hpy, e8 p hpx]; exact h38p.2
theorem make_ok {C D : St} {t n d no a g : Nat} {N : Int32} (h : AS C D t n d no) (ht : t < 600) (ha : a < n) (hg : g < 5) (hN : rg N 1 999) : ∃ C' D', f_Dy_make (nI a) (nI g) N C = some C' ∧ f_Md_make (nI a) (nI g) N D = some D' ∧ AS C' D' (t + 1) n d no ∧ FRM C D C' D' := by
  have hn := h.2.1.1.1
  have ha' : a < 12 := by omega
  obtain ⟨NN, n1, n2, rfl⟩ := rg_nI (x := N) (hi := 999) ⟨by have := hN.1; omega, hN.2⟩
  obtain ⟨-, -, -, w7, w8, w9, w10⟩ := h.2.1.wares hg
  obtain ⟨x, x1, x2, ex⟩ := rg_nI w7
  obtain ⟨y, y1, y2, ey⟩ := rg_nI w9
  obtain ⟨B, b1, b2, eB⟩ := rg_nI w10
  have dd : ∀ k, k < 11 → D 89 (1308 + (11 * g + k)) = C 11 (11 * g + k) := fun k hk => (rt_w h.1 (show 11 * g + k < 55 by omega)).symm
  unfold f_Dy_make f_Md_make
  rw [l7, l9, l8, l10, v_wget hg (by omega), v_wget hg (by omega), v_wget hg (by omega), v_wget hg (by omega), m_goodIs hg (by omega), m_goodIs hg (by omega), m_goodIs hg (by omega), m_goodIs hg (by omega), dd 7 (by omega), dd 8 (by omega), dd 9 (by omega), dd 10 (by omega), ex, ey, eB]
  simp only [bd1_s]
  by_cases hm : C 11 (11 * g + 8) = (-1 : Int32)
  · rw [hm, if_pos rfl, if_neg (show ¬ ((0 : Int32) ≤ -1) by decide)]
    exact ⟨C, D, rfl, rfl, ⟨h.1, h.2.1.mono, h.2.2⟩, FRM.refl C D⟩
  · have w8' : rg (C 11 (11 * g + 8)) 0 9 := ⟨by
      have := w8.1
      have h2 : (C 11 (11 * g + 8)).toInt ≠ -1 := fun e => hm (Int32.toInt_inj.mp (e.trans (by decide)))
      omega, w8.2⟩
    obtain ⟨A, a1, a2, eA⟩ := rg_nI w8'
    rw [if_neg hm, eA, if_pos (show (0 : Int32) ≤ nI A by rw [l0, nI_leI (by omega) (by omega)]; omega)]
    obtain ⟨fx, f1, f2, f3, f4, f5⟩ := free_of h (by omega) ha' (show x < 5 by omega)
    obtain ⟨fy, g1, g2, g3, g4, g5⟩ := free_of h (by omega) ha' (show y < 5 by omega)
    obtain ⟨FX, u1, u2, rfl⟩ := rg_nI (x := fx) (hi := 60000000) ⟨f4, f5⟩
    obtain ⟨FY, u3, u4, rfl⟩ := rg_nI (x := fy) (hi := 60000000) ⟨g4, g5⟩
    rw [nI_toInt u2] at f3
    rw [nI_toInt u4] at g3
    rw [f1, f2, g1, g2]
    simp only [bd1_s]
    have hfy : x = y → FX = FY := fun e => by subst e; omega
    -- how many
    have hW : ∃ W : Nat, W ≤ NN ∧ (x = y → W * (A + B) ≤ FX) ∧ (x ≠ y → W * A ≤ FX ∧ W * B ≤ FY) ∧
        (∀ K : Int32 → Option St, (bd1 (f_Dy_allowed (nI NN) (if nI x = nI y then nI A + nI B else nI A : Int32) (nI FX)) fun v14 => bd1 (f_Dy_allowed (nI NN) (if nI x = nI y then 0 else nI B : Int32) (nI FY)) fun v18 => K (if v18 < v14 then v18 else v14 : Int32)) = K (nI W)) ∧
        (∀ K : Int32 → Option St, bd1 (if nI x = nI y then bd1 (if (nI A + nI B) ≤ 0 then some (nI NN) else if (nI A + nI B) = 0 then none else bd1 (f_Md_less (nI NN) (nI FX / (nI A + nI B))) fun v33 => some v33) fun (w35 : Int32) => some w35 else bd1 (if nI A ≤ 0 then some (nI NN) else if nI A = 0 then none else bd1 (f_Md_less (nI NN) (nI FX / nI A)) fun v15 => some v15) fun (w17 : Int32) => bd1 (if nI B ≤ 0 then some w17 else if nI B = 0 then none else bd1 (f_Md_less w17 (nI FY / nI B)) fun v24 => some v24) fun (w26 : Int32) => some w26) K = K (nI W)) := by
      by_cases hxy : x = y
      · have hxx : nI x = nI y := by rw [hxy]
        have hl := aln_le NN (A + B) FX
        refine ⟨aln NN (A + B) FX, hl, fun _ => aln_mul (Nat.le_refl _), fun hne => absurd hxy hne, fun K => ?_, fun K => ?_⟩
        · rw [if_pos hxx, if_pos hxx, nI_add, v_allowed n2 (by omega) u2, bd1_s, l0, v_allowed n2 (by omega) u4, bd1_s]
          refine congrArg K ((amt_nI (a := aln NN (A + B) FX) (b := aln NN 0 FY) (by omega) (by have := aln_le NN 0 FY; omega)).trans (congrArg nI ?_))
          rw [show aln NN 0 FY = NN from if_pos rfl]; omega
        · rw [if_pos hxx, nI_add]
          unfold aln
          by_cases hz : A + B = 0
          · rw [if_pos (by rw [hz]; decide), if_pos hz]; rfl
          · have hle : FX / (A + B) ≤ FX := Nat.div_le_self _ _
            rw [if_neg (nI_gt0 (by omega) hz).1, if_neg (nI_gt0 (by omega) hz).2, if_neg hz, m_less, pk_div u2 (by omega) (by omega), amt_nI n2 (by omega)]
            rfl
      · have hxx : ¬ (nI x = nI y) := fun e => hxy (nI_inj (by omega) (by omega) e)
        have hl := aln_le NN A FX
        have hl2 := aln_le NN B FY
        refine ⟨min (aln NN A FX) (aln NN B FY), by omega, fun e => absurd e hxy, fun _ => ⟨aln_mul (Nat.min_le_left _ _), aln_mul (Nat.min_le_right _ _)⟩, fun K => ?_, fun K => ?_⟩
        · rw [if_neg hxx, if_neg hxx, v_allowed n2 a2 u2, bd1_s, v_allowed n2 b2 u4, bd1_s]
          exact congrArg K (amt_nI (by omega) (by omega))
        · have e1 : (if nI A ≤ 0 then some (nI NN) else if nI A = 0 then none else bd1 (f_Md_less (nI NN) (nI FX / nI A)) fun v15 => some v15) = some (nI (aln NN A FX)) := by
            unfold aln
            by_cases hz : A = 0
            · rw [if_pos (by rw [hz]; decide), if_pos hz]
            · have hle : FX / A ≤ FX := Nat.div_le_self _ _
              rw [if_neg (nI_gt0 (by omega) hz).1, if_neg (nI_gt0 (by omega) hz).2, if_neg hz, m_less, pk_div u2 (by omega) (by omega), amt_nI n2 (by omega)]
              rfl
          have e2 : (if nI B ≤ 0 then some (nI (aln NN A FX)) else if nI B = 0 then none else bd1 (f_Md_less (nI (aln NN A FX)) (nI FY / nI B)) fun v24 => some v24) = some (nI (min (aln NN A FX) (aln NN B FY))) := by
            by_cases hz : B = 0
            · rw [if_pos (by rw [hz]; decide), show aln NN B FY = NN from if_pos hz]
              exact congrArg (fun z => some (nI z)) (by omega)
            · have hle : FY / B ≤ FY := Nat.div_le_self _ _
              rw [if_neg (nI_gt0 (by omega) hz).1, if_neg (nI_gt0 (by omega) hz).2, show aln NN B FY = min NN (FY / B) from if_neg hz, m_less, pk_div u4 (by omega) (by omega), amt_nI (by omega) (by omega)]
              exact congrArg (fun z => some (nI z)) (by omega)
          rw [if_neg hxx, e1, bd1_s, e2]
          rfl
    obtain ⟨W, W1, W2, W3, W4, W5⟩ := hW
    obtain ⟨C1, C2, D1, D2, r1, r2, r3, r4, r5, r6, r7, r8, r9⟩ := uses h.1 h.2.1 (by omega) ha' (show x < 5 by omega) (show y < 5 by omega) (show A ≤ 9 by omega) (show B ≤ 9 by omega) (show W ≤ 999 by omega) (fun e => by have := W2 e; rw [← Int.natCast_add, ← Int.natCast_mul]; omega) (fun e => by have := W3 e; rw [← Int.natCast_mul, ← Int.natCast_mul]; omega) (fun p hp => h.le9 hp)
    obtain ⟨C3, s1, s2, s3, s4, s5⟩ := bring r5 r6 ht ha hg (show W ≤ 999 by omega)
    obtain ⟨i1, i2, i3, i4⟩ := inc s2 s3 hg (show 3 ≤ 5 by omega) (by omega) (nI W)
    refine ⟨_, _, ?_, ?_, h.step i3 i4 (fun j hj => by rw [wr_row _ _ (by omega), s4 j (by omega) (by omega), r7 j (by omega) (by omega)]) (fun j h1 h2 => by rw [wr_row _ _ (by omega), wr_row _ _ (by omega), r8 j h1 h2]) (fun p hp => ?_) (fun z hz => ?_), FRM.of (fun j hj => by rw [wr_row _ _ (by omega), s4 j (by omega) (by omega), r7 j (by omega) (by omega)]) (fun j h1 h2 => by rw [wr_row _ _ (by omega), wr_row _ _ (by omega), r8 j h1 h2])⟩
    · rw [W4 (fun w => bd1 (f_Sk_use (nI a) (nI x) (w * (if nI x = nI y then nI A + nI B else nI A : Int32)) C) fun C20 => bd1 (f_Sk_use (nI a) (nI y) (w * (if nI x = nI y then 0 else nI B : Int32)) C20) fun C22 => bd1 (f_Sk_bring (nI a) (nI g) w C22) fun C24 => bd1 (f_Wr_increase (nI g) 5 w C24) fun C26 => some C26)]
      rw [r1, bd1_s, r2, bd1_s, s1, bd1_s, l5, i1, bd1_s]
    · rw [W5, r3, bd1_s, r4, bd1_s, l0, m_ageAt, bd1_s, if_pos (inb_t (by omega) (by omega)), nI_clamp (by omega), show 60 + (10 * (5 * a + g) + 0) = 60 + 10 * (5 * a + g) from rfl, l5, i2, bd1_s]
    · rw [wr_row _ _ (by omega)]
      have := r9 p hp
      have := s5 p hp
      omega
    · rw [wr_row _ _ (by omega), s4 3 (by omega) (by omega), r7 3 (by omega) (by omega)]; exact (h.le3 hz).2
