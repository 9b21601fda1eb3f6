/-! PURE: a day: all markets -/
theorem MS.keep {C C' D : St} {t n d no : Nat} (h : MS C D t n d no) (hC : ∀ j, j ≠ 26 → j ≠ 30 → j ≠ 32 → j ≠ 36 → C' j = C j) (h26 : C' 26 6 = C 26 6) (h32 : C' 32 6 = C 32 6) : MS C' D t n d no := by
  obtain ⟨hR, hW, ⟨o1, o2, o3, o4, o5⟩, hV, hO⟩ := h
  refine ⟨hR.frame (fun j h1 h2 => hC _ (by omega) (by omega) (by omega) (by omega)) rfl, hW.frame (fun j h1 h2 => hC _ (by omega) (by omega) (by omega) (by omega)), ⟨o1, o2, ?_, ?_, o5⟩, ?_, ?_⟩
  · unfold SD at o3 ⊢
    rw [h26, hC 27 (by omega) (by omega) (by omega) (by omega), hC 28 (by omega) (by omega) (by omega) (by omega), hC 29 (by omega) (by omega) (by omega) (by omega), hC 31 (by omega) (by omega) (by omega) (by omega)]
    exact o3
  · unfold SD at o4 ⊢
    rw [h32, hC 33 (by omega) (by omega) (by omega) (by omega), hC 34 (by omega) (by omega) (by omega) (by omega), hC 35 (by omega) (by omega) (by omega) (by omega), hC 37 (by omega) (by omega) (by omega) (by omega)]
    exact o4
  · unfold CV at hV ⊢
    rw [hC 3 (by omega) (by omega) (by omega) (by omega)]
    exact hV
  · unfold CO at hO ⊢
    rw [hC 25 (by omega) (by omega) (by omega) (by omega), hC 2 (by omega) (by omega) (by omega) (by omega)]
    exact hO
theorem market_ok {C D : St} {t n d no g : Nat} (h : MS C D t n d no) (ht : t ≤ 600) (hg : g < 5) (ho : ∀ k, k < no → D 94 k = nI g → 0 < (D 98 k).toInt) (q q' : Nat) : ∃ C' D', L_Mt_open_10 (q + 1) (nI g) C = L_Mt_open_10 q (nI (g + 1)) C' ∧ L_Md_liveDay_10 (q' + 1) (nI g) D = L_Md_liveDay_10 q' (nI (g + 1)) D' ∧ MS C' D' t n d no ∧ MF C D C' D' g no := by
  obtain ⟨z, z1, z2, z3⟩ := rg_nI (h.2.1.wares hg).2.1
  have hno := h.2.2.1.2.1
  have hna := cn_le (P := PX D 0) no
  have hnb := cn_le (P := PX D 1) no
  have g1 : f_Wr_get (nI g) 1 C = some (nI z) := by rw [l1, v_wget hg (by omega), z3]
  have g2 : f_Md_goodIs (nI g) 1 D = some (nI z) := by rw [l1, m_goodIs hg (by omega), ← rt_w h.1 (show 11 * g + 1 < 55 by omega), z3]
  obtain ⟨C6, ma, pa, a1, a2, a3, a4⟩ := v_pick (C := C) (g := g) (o := 1) (na := cn (PX D 0) no) (by omega) h.2.2.1.2.2.1.1
  obtain ⟨ob, hob⟩ : ∃ ob, ob = (if nI z = 0 then 0 else (-1) : Int32) := ⟨_, rfl⟩
  obtain ⟨C10, mb, pb, b1, b2, b3, b4⟩ := v_pick_1 (C := C6) (g := g) (o := ob) (na := cn (PX D 1) no) (by omega) (by rw [a3 32 (by omega) (by omega)]; exact h.2.2.1.2.2.2.1.1)
  have fC : ∀ j, j ≠ 26 → j ≠ 30 → j ≠ 32 → j ≠ 36 → C10 j = C j := fun j h1 h2 h3 h4 => by rw [b3 j h3 h4, a3 j h1 h2]
  have hM : MS C10 D t n d no := h.keep fC (by rw [b3 26 (by omega) (by omega), a4 6 (by omega)]) (by rw [b4 6 (by omega), a3 32 (by omega) (by omega)])
  have hA : PK C10 26 1 g (cn (PX D 0) no) ma pa := a2.frame (by rw [b3 26 (by omega) (by omega)]) (fun j hj => b3 j (by omega) (by omega))
  have pA : ∀ i, i < ma → 0 < (C10 29 (pa i)).toInt := fun i hi => by
    obtain ⟨k, k1, k2, k3, k4, k5, k6⟩ := pick_at hM.2.2.1.2.2.1 hA hi
    have k6' : C10 29 (pa i) = D 98 k := k6
    rw [k6']; exact ho k k1 k3
  have pB : ∀ j, j < mb → 0 < (C10 35 (pb j)).toInt := fun i hi => by
    obtain ⟨k, k1, k2, k3, k4, k5, k6⟩ := pick_at hM.2.2.1.2.2.2.1 b2 hi
    have k6' : C10 35 (pb i) = D 98 k := k6
    rw [k6']; exact ho k k1 k3
  have hS : SV C10 D t n d no g ob ma mb pa pb 0 0 := ⟨hM, hA, b2, by omega, by omega, fun i hi => by omega, fun i _ hi => pA i hi, fun j _ hj => pB j hj⟩
  have F : MF C D C10 D g no := ⟨⟨fun j hj => fC j (by omega) (by omega) (by omega) (by omega), fun _ _ => rfl, fun _ _ => rfl⟩, fun _ _ _ => rfl, fun _ _ _ => rfl⟩
  have hma := hA.2.1
  have hmb := b2.2.1
  -- the heads
  have head : ∀ w C', (if nI z = 1 then bd1 (f_Mt_calledPrice C10) fun v13 => some v13 else some 0) = some w → L_Mt_serve_6 3000 (nI g) (nI z) w 0 0 C10 = some C' → L_Mt_open_10 (q + 1) (nI g) C = L_Mt_open_10 q (nI (g + 1)) C' := fun w C' e1 e2 => by
    rw [L_Mt_open_10, if_neg (by rw [l5, nI_leI (by omega) (by omega)]; omega), g1, bd1_s, a1, bd1_s, ← hob, b1, bd1_s, e1, bd1_s]
    unfold f_Mt_serve
    rw [e2, bd1_s, bd1_s, l1, nI_add]
  rcases (show z = 0 ∨ z = 1 ∨ z = 2 by omega) with rfl | rfl | rfl
  · obtain rfl : ob = 0 := hob
    obtain ⟨C', D', r1, r2, r3, r4⟩ := (post_l (cl := 0) ht hg (ma + mb)).2 no 3000 3000 0 0 0 C10 D (by omega) (by omega) (by omega) (by omega) hS (fun i w _ _ _ _ => by omega)
    refine ⟨C', D', head 0 C' (if_neg (by decide)) r1, ?_, r3, F.trans r4⟩
    rw [L_Md_liveDay_10, if_neg (by rw [l5, nI_leI (by omega) (by omega)]; omega), g2, bd1_s, if_pos (show nI 0 = (0 : Int32) from rfl)]
    unfold f_Md_posted
    rw [show L_Md_posted_2 3000 (nI g) 0 D = _ from r2, bd1_s, bd1_s, bd1_s, l1, nI_add]
  · obtain rfl : ob = -1 := hob
    obtain ⟨la, hla⟩ : ∃ la : Nat → Int, la = fun i => (C10 29 (pa i)).toInt := ⟨_, rfl⟩
    obtain ⟨lb, hlb⟩ : ∃ lb : Nat → Int, lb = fun i => (C10 35 (pb i)).toInt := ⟨_, rfl⟩
    have ela : ∀ i, i < ma → (C10 29 (pa i)).toInt = la i := fun i _ => by rw [hla]
    have elb : ∀ i, i < mb → (C10 35 (pb i)).toInt = lb i := fun i _ => by rw [hlb]
    have la0 : ∀ i, i < ma → 0 < la i := fun i hi => by rw [← ela i hi]; exact pA i hi
    have lb0 : ∀ i, i < mb → 0 < lb i := fun i hi => by rw [← elb i hi]; exact pB i hi
    have sa := sm_bound (f := la) (B := 999) ma (fun i hi => by
      obtain ⟨k, k1, k2, k3, k4, k5, k6⟩ := pick_at hM.2.2.1.2.2.1 hA hi
      have k6' : C10 29 (pa i) = D 98 k := k6
      rw [← ela i hi, k6']
      exact (hM.2.2.1.2.2.2.2 k k1).2.2.2.1.2)
    have sb := sm_bound (f := lb) (B := 999) mb (fun i hi => by
      obtain ⟨k, k1, k2, k3, k4, k5, k6⟩ := pick_at hM.2.2.1.2.2.2.1 b2 hi
      have k6' : C10 35 (pb i) = D 98 k := k6
      rw [← elb i hi, k6']
      exact (hM.2.2.1.2.2.2.2 k k1).2.2.2.1.2)
    have z0 : sm la 0 = 0 := rfl
    have z0b : sm lb 0 = 0 := rfl
    obtain ⟨P, M, m1, m2, m3, m4⟩ := cp_l hS ela elb la0 lb0 (by omega) (by omega) (ma + mb) 3000 0 0 0 0 0 0 (by omega) (by omega) (by omega) (by omega) rfl rfl (fun hb => by have := lb0 0 hb; rw [sm_s (n := 0)]; omega) (fun ha => by have := la0 0 ha; rw [sm_s (n := 0)]; omega) (by omega) (by omega) (Or.inl rfl)
    have na : ∀ i, i < ma → 0 ≤ la i := fun i hi => by have := la0 i hi; omega
    have nb : ∀ i, i < mb → 0 ≤ lb i := fun i hi => by have := lb0 i hi; omega
    obtain ⟨bs, ms, c1, c2⟩ := cd_l hS ela elb no 0 3000 0 0 (by omega) (by omega) ⟨by decide, fun i hi => by omega, Or.inl rfl⟩
    obtain ⟨d1, d2⟩ := cd_eq hS na nb m2 m3 m4 c2
    have hPr : M = 0 ∨ rg P 0 999 := by
      rcases m4 with m4 | ⟨a0, b0, p1, p2, p3, p4, -⟩
      · exact Or.inl m4
      · obtain ⟨k, k1, k2, k3, k4, k5, k6⟩ := pick_at hM.2.2.1.2.2.1 hA p1
        have k5' : C10 28 (pa a0) = D 96 k := k5
        have := (hM.2.2.1.2.2.2.2 k k1).2.2.1
        rw [p4, k5']
        exact Or.inr ⟨by have := this.1; omega, this.2⟩
    obtain ⟨C', D', r1, r2, r3, r4⟩ := called_l (C0 := C10) ht hg na nb m3 m4 hPr (ma + mb) 3000 3000 0 0 C10 D 0 ms (by omega) (by omega) (by omega) hS (fun j hj => by omega) rfl rfl (by omega) m2 (by omega) (by omega) (fun ha => by rw [ela 0 ha, sm_s (n := 0)]; omega) (fun i _ hi => ela i hi) (fun hb => by rw [elb 0 hb, sm_s (n := 0)]; omega) (fun i _ hi => elb i hi) (by omega)
    refine ⟨C', D', head P C' ?_ r1, ?_, r3, F.trans r4⟩
    · rw [if_pos (show nI 1 = (1 : Int32) from rfl)]
      unfold f_Mt_calledPrice
      rw [show L_Mt_calledPrice_12 3000 0 0 0 0 0 C10 = _ from m1, bd1_s, bd1_s]
    · have e86 : L_Md_called_86 3000 (nI g) bs ms D = some D' := by
        rcases d2 with d2 | d2
        · have hms : ms ≤ 0 := by rw [Int32.le_iff_toInt_le, Int32.toInt_zero]; omega
          have : L_Md_called_86 3000 (nI g) P ms D = some D := if_pos hms
          rw [← r2, this]
          exact if_pos hms
        · rw [d2]; exact r2
      rw [L_Md_liveDay_10, if_neg (by rw [l5, nI_leI (by omega) (by omega)]; omega), g2, bd1_s, if_neg (show ¬ (nI 1 = (0 : Int32)) by decide), if_pos (show nI 1 = (1 : Int32) from rfl)]
      unfold f_Md_called
      rw [show L_Md_called_7 3000 (nI g) 0 0 0 D = _ from c1, bd2_s, e86, bd1_s, bd1_s, bd1_s, l1, nI_add]
  · obtain rfl : ob = -1 := hob
    obtain ⟨C', D', r1, r2, r3, r4⟩ := hag_l (cl := 0) ht hg (ma + mb) 3000 3000 0 0 C10 D (by omega) (by omega) (by omega) hS (fun j hj => by omega)
    refine ⟨C', D', head 0 C' (if_neg (by decide)) r1, ?_, r3, F.trans r4⟩
    rw [L_Md_liveDay_10, if_neg (by rw [l5, nI_leI (by omega) (by omega)]; omega), g2, bd1_s, if_neg (show ¬ (nI 2 = (0 : Int32)) by decide), if_neg (show ¬ (nI 2 = (1 : Int32)) by decide)]
    unfold f_Md_haggled
    rw [r2, bd1_s, bd1_s, bd1_s, l1, nI_add]
theorem markets_l {t n d no : Nat} (ht : t ≤ 600) : ∀ (m g q q' : Nat) (C D : St), g + m = 5 → m < q → m < q' → MS C D t n d no → (∀ k g', k < no → g ≤ g' → g' < 5 → D 94 k = nI g' → 0 < (D 98 k).toInt) → ∃ C' D', L_Mt_open_10 q (nI g) C = some C' ∧ L_Md_liveDay_10 q' (nI g) D = some D' ∧ MS C' D' t n d no ∧ FRM C D C' D'
  | 0, g, q + 1, q' + 1, C, D, hm, _, _, h, _ => by
    obtain rfl : g = 5 := by omega
    exact ⟨C, D, if_pos (by decide), if_pos (by decide), h, FRM.refl C D⟩
  | m + 1, g, q + 1, q' + 1, C, D, hm, hq, hq', h, ho => by
    obtain ⟨C1, D1, e1, e2, e3, e4⟩ := market_ok h ht (show g < 5 by omega) (fun k hk hg => ho k g hk (Nat.le_refl _) (by omega) hg) q q'
    obtain ⟨C', D', r1, r2, r3, r4⟩ := markets_l ht m (g + 1) q q' C1 D1 (by omega) (by omega) (by omega) e3 (fun k g' hk h1 h2 hg => by
      rw [e4.2.2 94 (by omega) (by omega)] at hg
      rw [e4.2.1 k hk (fun e => by rw [hg] at e; have := nI_inj (by omega) (by omega) e; omega)]
      exact ho k g' hk (by omega) h2 hg)
    exact ⟨C', D', e1.trans r1, e2.trans r2, r3, e4.1.trans r4⟩
/-- ALL MARKETS of a day, on both sides -/
theorem markets {C D : St} {t n d no : Nat} (h : AS C D t n d no) (ht : t ≤ 600) : ∃ C' D', f_Mt_open C = some C' ∧ L_Md_liveDay_10 3000 0 D = some D' ∧ RT C' D' 0 89 0 ∧ WTn C' 0 t n d ∧ FRM C D C' D' := by
  obtain ⟨hR, hW, hOF, x1, x2, x3⟩ := h
  obtain ⟨hn, hn1, -, -⟩ := hW.n0
  have hv : ∃ v, f_Tw_firstCouncil C = some v ∧ CO (mj_wr C 25 4 v) n := by
    unfold f_Tw_firstCouncil
    rcases v_council hn hn1 n 0 3000 (by omega) (by omega) (fun a ha => by omega) with ⟨e, h1⟩ | ⟨c, c1, e, c2, c3⟩
    · rw [show L_Tw_firstCouncil_2 3000 0 C = _ from e, bdS_r]
      exact ⟨_, rfl, Or.inl ⟨wr_same _ _ _ _, fun a ha => by rw [wr_cell _ _ (by omega)]; exact h1 a ha⟩⟩
    · rw [show L_Tw_firstCouncil_2 3000 0 C = _ from e, bdS_l]
      exact ⟨_, rfl, Or.inr ⟨c, c1, wr_same _ _ _ _, by rw [wr_cell _ _ (by omega)]; exact c2, fun a ha => by rw [wr_cell _ _ (by omega)]; exact c3 a ha⟩⟩
  obtain ⟨v, v1, v2⟩ := hv
  have hM : MS (mj_wr C 25 4 v) D t n d no := by
    refine ⟨hR.frame (fun j h1 h2 => wr_row _ _ (by omega)) rfl, hW.frame (fun j h1 h2 => wr_row _ _ (by omega)), hOF.keep (fun j h1 h2 => wr_row _ _ (by omega)) (fun _ _ _ => rfl) rfl, fun x hx => ?_, v2⟩
    rw [wr_cell _ _ (by omega)]
    obtain ⟨y1, y2, y3⟩ := x3 x hx
    have pr : ∀ k, k < no → (bidD D x k).toInt = cvT D x k ∧ 0 ≤ cvT D x k ∧ cvT D x k ≤ 998001 := fun k hk => by
      obtain ⟨-, -, p6, p8, p7⟩ := hOF.2.2.2.2 k hk
      obtain ⟨X, X1, X2, X3⟩ := rg_nI p8
      obtain ⟨Y, Y1, Y2, Y3⟩ := rg_nI (x := D 96 k) (hi := 999) ⟨by have := p6.1; omega, p6.2⟩
      have hXY : X * Y ≤ 999 * 999 := Nat.mul_le_mul (by omega) (by omega)
      unfold bidD cvT
      rw [(x1 k hk).1, X3, Y3, pk_mul, nI_toInt X2, nI_toInt Y2, ← Int.natCast_mul]
      rcases p7 with p7 | p7
      · rw [if_pos p7, if_neg (fun e => by rw [p7] at e; exact absurd e.1 (by decide))]
        exact ⟨rfl, by omega, by omega⟩
      · rw [if_neg (by rw [p7]; decide)]
        by_cases hw : D 93 k = nI x
        · rw [if_pos hw, if_pos ⟨p7, hw⟩, nI_toInt (by omega)]
          exact ⟨rfl, by omega, by omega⟩
        · rw [if_neg hw, if_neg (fun e => hw e.2)]
          exact ⟨rfl, by omega, by omega⟩
    have bd := sm_bound (f := cvT D x) (B := 998001) no (fun k hk => (pr k hk).2.2)
    have e := sm_congr (f := fun k => (bidD D x k).toInt) (g := cvT D x) no (fun k hk => (pr k hk).1)
    have hno := hOF.2.1
    have s := si_toInt (f := bidD D x) no (fun k hk => by rw [(pr k hk).1]; exact (pr k hk).2.1) (by omega)
    rw [← y1] at s
    omega
  obtain ⟨C', D', r1, r2, r3, r4⟩ := markets_l ht 5 0 3000 3000 (mj_wr C 25 4 v) D (by omega) (by omega) (by omega) hM (fun k g' hk _ _ _ => by have := (x1 k hk).2; omega)
  refine ⟨C', D', ?_, r2, r3.1, r3.2.1, FRM.trans ⟨fun j hj => wr_row _ _ (by omega), fun _ _ => rfl, fun _ _ => rfl⟩ r4⟩
  unfold f_Mt_open
  rw [v1, bd1_s, show L_Mt_open_10 3000 0 (mj_wr C 25 4 v) = _ from r1, bd1_s]
