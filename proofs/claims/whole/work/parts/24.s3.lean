/-! PURE: goods, paid; calls that write a little -/
theorem v_inTown_loop {g : Nat} {C : St} (hg : g < 5) : ∀ (m k n : Nat), k + m = 12 → m < n → L_Sk_inTown_4 n (nI g) (si (fun a => C 9 (5 * a + g)) k) (nI k) C = some (si (fun a => C 9 (5 * a + g)) 12)
  | 0, k, n + 1, hk, hn => by
    obtain rfl : k = 12 := by omega
    unfold L_Sk_inTown_4
    rw [if_pos (by decide)]
  | m + 1, k, n + 1, hk, hn => by
    unfold L_Sk_inTown_4
    rw [if_neg (by rw [l12]; exact nI_ge (by omega) (by omega)), v_all (by omega) hg, bd1_s, nI_1]
    exact v_inTown_loop hg m (k + 1) n (by omega) (by omega)
theorem v_inTown {g : Nat} {C : St} (hg : g < 5) : f_Sk_inTown (nI g) C = some (si (fun a => C 9 (5 * a + g)) 12) := by
  unfold f_Sk_inTown
  rw [show L_Sk_inTown_4 3000 (nI g) 0 0 C = _ from v_inTown_loop hg 12 0 3000 rfl (by omega), bd1_s]
theorem m_goods_loop {C D : St} {t n d g : Nat} (hR : RT C D 0 89 0) (hW : WTn C 0 t n d) (ht : t ≤ 600) (hD : D 89 2163 = nI n) (hg : g < 5) : ∀ (m k q : Nat), k + m = n → m < q → L_Md_goods_38 q (nI g) (si (fun a => C 9 (5 * a + g)) k) (nI k) D = some (si (fun a => C 9 (5 * a + g)) n)
  | 0, k, q + 1, hk, hq => by
    obtain rfl : k = n := by omega
    unfold L_Md_goods_38
    rw [hD, if_pos (Int32.le_refl _)]
  | m + 1, k, q + 1, hk, hq => by
    have hn := hW.1.1
    unfold L_Md_goods_38
    rw [hD, if_neg (nI_ge (by omega) (by omega)), all_hasAll hR hW ht (by omega) hg, bd1_s, nI_1]
    exact m_goods_loop hR hW ht hD hg m (k + 1) q (by omega) (by omega)
theorem sums_zero {C : St} {t n d p : Nat} (hW : WTn C 0 t n d) (hp : p < 60) (hn : 5 * n ≤ p) : C 9 p = 0 := by
  obtain ⟨hS, h2, h3, h4, h5, h6, ⟨h7, h7', h7''⟩, h8, h9⟩ := hW
  have hq := h8 p hp
  simp only [Nat.zero_add] at hq h7'
  apply Int32.toInt_inj.mp
  rw [hq, sm_congr (g := fun _ => 0) 10 (fun i hi => by rw [h7' _ (by omega) (by omega)]; rfl)]
  rfl
theorem si_more {f : Nat → Int32} {n : Nat} : ∀ (m : Nat), (∀ i, n ≤ i → i < n + m → f i = 0) → si f (n + m) = si f n
  | 0, _ => rfl
  | m + 1, h => by
    show si f (n + m) + f (n + m) = si f n
    rw [si_more m (fun i h1 h2 => h i h1 (by omega)), h (n + m) (by omega) (by omega), Int32.add_zero]
theorem sim_goods_ok {t : Nat} {C D : St} (ht : t < 512) (h : Rel t C D) : sim_goods Rel t C D := by
  intro a1 a2
  rcases good_cases a1 with ⟨g, hg, rfl, f1, f2⟩ | ⟨f1, f2⟩
  · rcases in_cases a2 0 7 0 7 rfl rfl (by omega) (by omega) with ⟨k, i1, i2, rfl, g1, g2⟩ | ⟨g1, g2⟩
    · by_cases hk : k = 7
      · subst hk
        obtain ⟨hR, ⟨n, d, hW⟩, -⟩ := id h
        have hC := hW.1.2.1
        simp only [Nat.zero_add] at hC
        have hD : D 89 2163 = nI n := (rt_n hR).1 ▸ hC
        have hn := hW.1.1
        have es : si (fun a => C 9 (5 * a + g)) 12 = si (fun a => C 9 (5 * a + g)) n := by
          rw [show 12 = n + (12 - n) by omega]
          exact si_more (12 - n) (fun i h1 h2 => sums_zero hW (by omega) (by omega))
        refine ⟨si (fun a => C 9 (5 * a + g)) n, ?_, ?_, h.mono⟩
        · unfold f_Mk_goods; rw [f1, bd1_s, if_neg i10, g1, bd1_s, if_neg i10, if_pos (by decide), v_inTown hg, bd1_s, bd1_s, es]
        · unfold f_Md_goods; rw [f2, bd1_s, if_neg i10, g2, bd1_s, if_neg i10, if_pos (by decide), show L_Md_goods_38 3000 (nI g) 0 0 D = _ from m_goods_loop hR hW (by omega) hD hg n 0 3000 (by omega) (by omega), bd1_s]
      · refine ⟨C 11 (11 * g + k), ?_, ?_, h.mono⟩
        · unfold f_Mk_goods; rw [f1, bd1_s, if_neg i10, g1, bd1_s, if_neg i10, if_neg (by rw [l6]; exact nI_nlt (by omega) (by omega)), v_wget hg (by omega), bd1_s, bd1_s]
        · unfold f_Md_goods; rw [f2, bd1_s, if_neg i10, g2, bd1_s, if_neg i10, if_neg (by rw [l7]; exact nI_ge (by omega) (by omega)), m_goodIs hg (by omega), bd1_s, rt_w h.1 (show 11 * g + k < 55 by omega)]
    · refine ⟨-1000000001, ?_, ?_, h.mono⟩
      · unfold f_Mk_goods; rw [f1, bd1_s, if_neg i10, g1, bd1_s, if_pos i01]
      · unfold f_Md_goods; rw [f2, bd1_s, if_neg i10, g2, bd1_s, if_pos i01]
  · refine ⟨-1000000001, ?_, ?_, h.mono⟩
    · unfold f_Mk_goods; rw [f1, bd1_s, if_pos i01]
    · unfold f_Md_goods; rw [f2, bd1_s, if_pos i01]
theorem v_paid_loop {a b : Nat} {C : St} (ha : a < 12) (hb : b < 12) : ∀ (m k n : Nat), k + m = 5 → m < n → L_Tw_paidInAll_5 n (nI a) (nI b) (si (fun r => C 6 (5 * (12 * a + b) + r)) k) (nI k) C = some (si (fun r => C 6 (5 * (12 * a + b) + r)) 5)
  | 0, k, n + 1, hk, hn => by
    obtain rfl : k = 5 := by omega
    unfold L_Tw_paidInAll_5
    rw [if_pos (by decide)]
  | m + 1, k, n + 1, hk, hn => by
    unfold L_Tw_paidInAll_5
    rw [if_neg (by rw [l5]; exact nI_ge (by omega) (by omega)), v_entry, bd1_s, if_pos (inb_t (by omega) (by omega)), nI_clamp (by omega), nI_1]
    exact v_paid_loop ha hb m (k + 1) n (by omega) (by omega)
theorem m_paid_loop {p : Nat} {D : St} (hp : p + 5 ≤ 2200) : ∀ (m k n : Nat), k + m = 5 → m < n → L_Md_paid_62 n (nI p) (si (fun r => D 89 (p + r)) k) (nI k) D = some (si (fun r => D 89 (p + r)) 5)
  | 0, k, n + 1, hk, hn => by
    obtain rfl : k = 5 := by omega
    unfold L_Md_paid_62
    rw [if_pos (by decide)]
  | m + 1, k, n + 1, hk, hn => by
    unfold L_Md_paid_62
    rw [if_neg (by rw [l5]; exact nI_ge (by omega) (by omega)), nI_add, if_pos (inb_t (by omega) (by omega)), nI_clamp (by omega), nI_1]
    exact m_paid_loop hp m (k + 1) n (by omega) (by omega)
theorem sim_paid_ok {t : Nat} {C D : St} (h : Rel t C D) : sim_paid Rel t C D := by
  intro a1 a2 a3
  obtain ⟨n, hn, hC, hD⟩ := rel_n h
  rcases agent_cases hn hC hD a1 with ⟨a, ha, rfl, e1, e2⟩ | ⟨e1, e2⟩
  · rcases agent_cases hn hC hD a2 with ⟨b, hb, rfl, f1, f2⟩ | ⟨f1, f2⟩
    · have e : 1443 + (5 * ((12 * nI a) + nI b)) = nI (1443 + 5 * (12 * a + b)) := by
        rw [l1443, l5, l12]
        simp only [pk_mul, nI_add]
      rcases inm_cases a3 4 4 rfl (by omega) with ⟨rfl, g1, g2⟩ | ⟨k, hk, rfl, g1, g2⟩ | ⟨g1, g2⟩
      · refine ⟨si (fun r => C 6 (5 * (12 * a + b) + r)) 5, ?_, ?_, h.mono⟩
        · unfold f_Mk_paid f_Tw_paidInAll; rw [e1, bd1_s, if_neg i10, f1, bd1_s, if_neg i10, g1, bd1_s, if_neg i10, if_neg (by decide), show L_Tw_paidInAll_5 3000 (nI a) (nI b) 0 0 C = _ from v_paid_loop (by omega) (by omega) 5 0 3000 rfl (by omega)]; rfl
        · unfold f_Md_paid; rw [e2, bd1_s, if_neg i10, f2, bd1_s, if_neg i10, g2, bd1_s, if_neg i10, if_pos (by decide), e, show L_Md_paid_62 3000 (nI (1443 + 5 * (12 * a + b))) 0 0 D = _ from m_paid_loop (by omega) 5 0 3000 rfl (by omega), bd1_s]
          exact congrArg some (si_congr 5 fun i hi => by rw [rt_b h.1 (show 5 * (12 * a + b) + i < 720 by omega), Nat.add_assoc])
      · refine ⟨C 6 (5 * (12 * a + b) + k), ?_, ?_, h.mono⟩
        · unfold f_Mk_paid; rw [e1, bd1_s, if_neg i10, f1, bd1_s, if_neg i10, g1, bd1_s, if_neg i10, if_pos (nI_pos' (by omega)), v_entry, bd1_s, if_pos (inb_t (by omega) (by omega)), nI_clamp (by omega), bd1_s]
        · unfold f_Md_paid; rw [e2, bd1_s, if_neg i10, f2, bd1_s, if_neg i10, g2, bd1_s, if_neg i10, if_neg (nI_pos (by omega)), e, nI_add, if_pos (inb_t (by omega) (by omega)), nI_clamp (by omega), rt_b h.1 (show 5 * (12 * a + b) + k < 720 by omega), Nat.add_assoc]
      · refine ⟨-1000000001, ?_, ?_, h.mono⟩
        · unfold f_Mk_paid; rw [e1, bd1_s, if_neg i10, f1, bd1_s, if_neg i10, g1, bd1_s, if_pos i01]
        · unfold f_Md_paid; rw [e2, bd1_s, if_neg i10, f2, bd1_s, if_neg i10, g2, bd1_s, if_pos i01]
    · refine ⟨-1000000001, ?_, ?_, h.mono⟩
      · unfold f_Mk_paid; rw [e1, bd1_s, if_neg i10, f1, bd1_s, if_pos i01]
      · unfold f_Md_paid; rw [e2, bd1_s, if_neg i10, f2, bd1_s, if_pos i01]
  · refine ⟨-1000000001, ?_, ?_, h.mono⟩
    · unfold f_Mk_paid; rw [e1, bd1_s, if_pos i01]
    · unfold f_Md_paid; rw [e2, bd1_s, if_pos i01]
theorem sim_lots_ok {t : Nat} {C D : St} (h : Rel t C D) : sim_lots Rel t C D := by
  intro a1
  by_cases h0 : 0 ≤ a1
  · refine ⟨0, mj_wr C 1 2 a1, mj_wr D 89 2165 a1, ?_, ?_, ?_⟩
    · unfold f_Mk_lots; rw [if_pos h0]
    · unfold f_Md_lots; rw [if_pos h0]
    · obtain ⟨hR, ⟨n, d, hW⟩, hWD, hT, hO⟩ := h.mono
      refine ⟨?_, ⟨n, d, ?_⟩, hWD.frame (fun j h1 h2 => ?_) ?_ ?_ ?_, hT.frame ?_ ?_ ?_ ?_, ?_⟩
      · obtain ⟨⟨r1, r2, r3, r4, r5, r6⟩, rA, rP, rR, rW, rL, rB⟩ := hR
        refine ⟨⟨?_, ?_, ?_, ?_, ?_, ?_⟩, fun a ha => ?_, fun i hi => ?_, fun i hi => ?_, fun i hi => ?_, fun i hi hq => ?_, fun i hi => ?_⟩
        all_goals simp (disch := omega) only [Nat.zero_add, Nat.reduceAdd, wr_same, wr_cell, wr_idx] at *
        all_goals first | assumption | exact rA a ha | exact rP i hi | exact rR i hi | exact rW i hi | exact rL i hi hq | exact rB i hi
      · unfold WTn at hW ⊢
        simp (disch := omega) only [Nat.zero_add, Nat.reduceAdd, wr_same, wr_cell, wr_idx, wr_row] at hW ⊢
        rw [Int32.le_iff_toInt_le, Int32.toInt_zero] at h0
        exact ⟨hW.1, ⟨⟨h0, by have := Int32.toInt_lt a1; omega⟩, hW.2.1.2⟩, hW.2.2⟩
      all_goals simp (disch := omega) only [wr_row, wr_cell, wr_idx]
      exact hO
  · refine ⟨-1000000001, C, D, ?_, ?_, h.mono⟩
    · unfold f_Mk_lots; rw [if_neg h0]
    · unfold f_Md_lots; rw [if_neg h0]
theorem sim_trim_ok {t : Nat} {C D : St} (h : Rel t C D) : sim_trim Rel t C D := by
  intro a1
  obtain ⟨hR, ⟨n, d, hW⟩, hWD, ⟨q, hq, q1, q2, q3⟩, hO⟩ := h.mono
  rcases in_cases a1 0 (nI q) 0 q rfl rfl (by omega) (by omega) with ⟨k, h1, h2, rfl, e1, e2⟩ | ⟨e1, e2⟩
  · refine ⟨nI k, mj_wr C 19 0 (nI k), mj_wr D 88 4 (nI k), ?_, ?_, hR.frame (fun j h1 h2 => ?_) ?_, ⟨n, d, hW.frame (fun j h1 h2 => ?_)⟩, hWD.frame (fun j h1 h2 => ?_) ?_ ?_ ?_, ⟨k, by omega, ?_, ?_, fun i hi => ?_⟩, ?_⟩
    · unfold f_Mk_trim; rw [q1, e1, bd1_s, if_neg i10]
    · unfold f_Md_trim; rw [q2, e2, bd1_s, if_neg i10]
    all_goals simp (disch := omega) only [wr_row, wr_cell, wr_idx, wr_same]
    · exact q3 i (by omega)
    · exact hO
  · refine ⟨-1000000001, C, D, ?_, ?_, h.mono⟩
    · unfold f_Mk_trim; rw [q1, e1, bd1_s, if_pos i01]
    · unfold f_Md_trim; rw [q2, e2, bd1_s, if_pos i01]
