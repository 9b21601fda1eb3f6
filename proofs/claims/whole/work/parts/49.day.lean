/-! PURE: a day: all rules followed -/
theorem rt_r1 {C D : St} (h : RT C D 0 89 0) {k : Nat} (hk : k < 648) (x : Int32) : RT (mj_wr C 14 k x) (mj_wr D 89 (660 + k) x) 0 89 0 := by
  have kd : ∀ i : Nat, (i < 660 ∨ 1308 ≤ i) → mj_wr D 89 (660 + k) x 89 i = D 89 i := fun i hi => wr_idx D x (by omega)
  have hC : ∀ j, j ≠ 14 → mj_wr C 14 k x j = C j := fun j hj => wr_row _ _ hj
  unfold RT at h ⊢
  simp only [Nat.zero_add] at h ⊢
  rw [hC 1 (by omega), hC 2 (by omega), hC 3 (by omega), hC 4 (by omega), hC 5 (by omega), hC 6 (by omega), hC 8 (by omega), hC 13 (by omega), hC 11 (by omega), hC 15 (by omega), hC 16 (by omega), kd 2163 (by omega), kd 2164 (by omega), kd 2165 (by omega), kd 2166 (by omega), kd 2167 (by omega), kd 2168 (by omega)]
  obtain ⟨r1, rA, rP, rR, rW, rL, rB⟩ := h
  refine ⟨r1, fun a ha => ?_, fun i hi => ?_, fun i hi => ?_, fun i hi => ?_, fun i hi hq => ?_, fun i hi => ?_⟩
  · rw [kd _ (by omega), kd _ (by omega), kd _ (by omega), kd _ (by omega), kd _ (by omega)]; exact rA a ha
  · rw [kd _ (by omega)]; exact rP i hi
  · by_cases h1 : i = k
    · subst h1; rw [wr_same, wr_same]
    · rw [wr_idx _ _ h1, wr_idx _ _ (by omega)]; exact rR i hi
  · rw [kd _ (by omega)]; exact rW i hi
  · rw [kd _ (by omega)]; exact rL i hi hq
  · rw [kd _ (by omega)]; exact rB i hi
theorem WTn.fire {C : St} {t n d : Nat} (h : WTn C 0 t n d) {z : Nat} (x : Int32) : WTn (mj_wr C 14 (9 * z + 8) x) 0 t n d := by
  have hC : ∀ j, j ≠ 14 → mj_wr C 14 (9 * z + 8) x j = C j := fun j hj => wr_row _ _ hj
  unfold WTn at h ⊢
  simp only [Nat.zero_add] at h ⊢
  rw [hC 1 (by omega), hC 2 (by omega), hC 3 (by omega), hC 4 (by omega), hC 8 (by omega), hC 9 (by omega), hC 13 (by omega), hC 11 (by omega), hC 15 (by omega), hC 16 (by omega)]
  obtain ⟨u1, u2, u3, u4, u5, u6, u7, u8, u9, u10, u11⟩ := h
  refine ⟨u1, u2, u3, u4, u5, u6, u7, u8, u9, fun a k ha hk hs => ?_, u11⟩
  have := u10 a k ha hk hs
  unfold okRule at this ⊢
  rw [wr_idx (j := 9 * (6 * a + k)) _ _ (by omega), wr_idx (j := 9 * (6 * a + k) + 1) _ _ (by omega), wr_idx (j := 9 * (6 * a + k) + 2) _ _ (by omega), wr_idx (j := 9 * (6 * a + k) + 3) _ _ (by omega), wr_idx (j := 9 * (6 * a + k) + 4) _ _ (by omega), wr_idx (j := 9 * (6 * a + k) + 5) _ _ (by omega), wr_idx (j := 9 * (6 * a + k) + 6) _ _ (by omega), wr_idx (j := 9 * (6 * a + k) + 7) _ _ (by omega)]
  exact this
theorem AS.mono {C D : St} {t n d no : Nat} (h : AS C D t n d no) : AS C D (t + 1) n d no := ⟨h.1, h.2.1.mono, h.2.2⟩
theorem act_ok {C D : St} {t n d no a k : Nat} (h : AS C D t n d no) (ht : t < 600) (hno : no < 72) (ha : a < n) (hk : k < 6) (hs : (k : Int) < (C 13 a).toInt) : ∃ C' D' no', f_Dy_act (nI a) (nI k) C = some C' ∧ f_Md_act (nI a) (nI k) D = some D' ∧ AS C' D' (t + 1) n d no' ∧ no' ≤ no + 1 ∧ FRM C D C' D' := by
  have hn := h.2.1.1.1
  have ha' : a < 12 := by omega
  obtain ⟨⟨o0, o1, o2, o3, o4, o5, o6, o7⟩, on⟩ := h.2.1.rule ha hk hs
  have er : ∀ i, i < 9 → f_Md_ruleIs (nI a) (nI k) (nI i) D = some (C 14 (9 * (6 * a + k) + i)) := fun i hi => by
    rw [m_ruleIs ha' hk hi, ← rt_r h.1 (show 9 * (6 * a + k) + i < 648 by omega)]
  have ec : ∀ i, i < 9 → f_Rl_get (nI a) (nI k) (nI i) C = some (C 14 (9 * (6 * a + k) + i)) := fun i hi => v_rget ha' hk hi
  have c0 : f_Rl_get (nI a) (nI k) 0 C = some (C 14 (9 * (6 * a + k))) := ec 0 (by omega)
  have c1 : f_Rl_get (nI a) (nI k) 1 C = some (C 14 (9 * (6 * a + k) + 1)) := ec 1 (by omega)
  have c2 : f_Rl_get (nI a) (nI k) 2 C = some (C 14 (9 * (6 * a + k) + 2)) := ec 2 (by omega)
  have c3 : f_Rl_get (nI a) (nI k) 3 C = some (C 14 (9 * (6 * a + k) + 3)) := ec 3 (by omega)
  have d0 : f_Md_ruleIs (nI a) (nI k) 0 D = some (C 14 (9 * (6 * a + k))) := er 0 (by omega)
  have d1 : f_Md_ruleIs (nI a) (nI k) 1 D = some (C 14 (9 * (6 * a + k) + 1)) := er 1 (by omega)
  have d2 : f_Md_ruleIs (nI a) (nI k) 2 D = some (C 14 (9 * (6 * a + k) + 2)) := er 2 (by omega)
  have d3 : f_Md_ruleIs (nI a) (nI k) 3 D = some (C 14 (9 * (6 * a + k) + 3)) := er 3 (by omega)
  unfold f_Dy_act f_Md_act
  rw [c0, c1, c2, c3, d0, d1, d2, d3]
  simp only [bd1_s]
  obtain ⟨ac, ac1, ac2, ac3⟩ := rg_nI o0
  have hr : ∀ lo hi : Nat, lo ≤ ac → ac ≤ hi → rg (C 14 (9 * (6 * a + k))) lo hi := fun lo hi h1 h2 => by rw [ac3]; exact rg_of (by omega) (by omega) ac2
  rw [ac3]
  rcases (show ac = 0 ∨ ac = 1 ∨ ac = 2 ∨ ac = 3 ∨ ac = 4 ∨ ac = 5 by omega) with rfl | rfl | rfl | rfl | rfl | rfl
  · obtain ⟨g, g1, g2, g3⟩ := rg_nI (o1 (hr 0 3 (by omega) (by omega)))
    obtain ⟨C', D', e1, e2, e3, e4⟩ := make_ok h ht ha (show g < 5 by omega) o3
    rw [g3, if_pos (show nI 0 = (0 : Int32) from rfl), if_pos (show nI 0 = (0 : Int32) from rfl), e1, e2]
    exact ⟨C', D', no, rfl, rfl, e3, by omega, e4⟩
  · obtain ⟨g, g1, g2, g3⟩ := rg_nI (o1 (hr 0 3 (by omega) (by omega)))
    obtain ⟨C', D', e1, e2, e3, e4⟩ := eat_ok h (by omega) ha (show g < 5 by omega) o3
    rw [g3, if_neg (show ¬ (nI 1 = (0 : Int32)) by decide), if_neg (show ¬ (nI 1 = (0 : Int32)) by decide), if_pos (show nI 1 = (1 : Int32) from rfl), if_pos (show nI 1 = (1 : Int32) from rfl), e1]
    exact ⟨C', D', no, rfl, e2, e3.mono, by omega, e4⟩
  · obtain ⟨g, g1, g2, g3⟩ := rg_nI (o1 (hr 0 3 (by omega) (by omega)))
    obtain ⟨C', D', no', e1, e2, e3, e4, e5⟩ := ask_ok h (by omega) hno ha (show g < 5 by omega) o3 (o4 (hr 2 3 (by omega) (by omega)))
    rw [g3, if_neg (show ¬ (nI 2 = (0 : Int32)) by decide), if_neg (show ¬ (nI 2 = (0 : Int32)) by decide), if_neg (show ¬ (nI 2 = (1 : Int32)) by decide), if_neg (show ¬ (nI 2 = (1 : Int32)) by decide), if_pos (show nI 2 = (2 : Int32) from rfl), if_pos (show nI 2 = (2 : Int32) from rfl), e1]
    exact ⟨C', D', no', rfl, e2, e3.mono, e4, e5⟩
  · obtain ⟨g, g1, g2, g3⟩ := rg_nI (o1 (hr 0 3 (by omega) (by omega)))
    obtain ⟨C', D', no', e1, e2, e3, e4, e5⟩ := bid_ok h hno ha (show g < 5 by omega) o3 (o4 (hr 2 3 (by omega) (by omega)))
    rw [g3, if_neg (show ¬ (nI 3 = (0 : Int32)) by decide), if_neg (show ¬ (nI 3 = (0 : Int32)) by decide), if_neg (show ¬ (nI 3 = (1 : Int32)) by decide), if_neg (show ¬ (nI 3 = (1 : Int32)) by decide), if_neg (show ¬ (nI 3 = (2 : Int32)) by decide), if_neg (show ¬ (nI 3 = (2 : Int32)) by decide), if_pos (show nI 3 = (3 : Int32) from rfl), if_pos (show nI 3 = (3 : Int32) from rfl), e1]
    exact ⟨C', D', no', rfl, e2, e3.mono, e4, e5⟩
  · obtain ⟨b, b1, b2, b3⟩ := rg_nI (o2 (hr 4 5 (by omega) (by omega)))
    obtain ⟨C', D', e1, e2, e3, e4⟩ := pay_ok h ha (show b < n by omega) o3
    rw [b3, if_neg (show ¬ (nI 4 = (0 : Int32)) by decide), if_neg (show ¬ (nI 4 = (0 : Int32)) by decide), if_neg (show ¬ (nI 4 = (1 : Int32)) by decide), if_neg (show ¬ (nI 4 = (1 : Int32)) by decide), if_neg (show ¬ (nI 4 = (2 : Int32)) by decide), if_neg (show ¬ (nI 4 = (2 : Int32)) by decide), if_neg (show ¬ (nI 4 = (3 : Int32)) by decide), if_neg (show ¬ (nI 4 = (3 : Int32)) by decide), if_pos (show nI 4 = (4 : Int32) from rfl), if_pos (show nI 4 = (4 : Int32) from rfl), e1]
    exact ⟨C', D', no, rfl, e2, e3.mono, by omega, e4⟩
  · obtain ⟨b, b1, b2, b3⟩ := rg_nI (o2 (hr 4 5 (by omega) (by omega)))
    have hab : a ≠ b := fun e => on (by rw [ac3]; decide) (by rw [b3, e])
    obtain ⟨C', D', e1, e2, e3, e4⟩ := lend_ok (T := C 14 (9 * (6 * a + k) + 3)) h ha (show b < n by omega) hab o3
    rw [b3, if_neg (show ¬ (nI 5 = (0 : Int32)) by decide), if_neg (show ¬ (nI 5 = (0 : Int32)) by decide), if_neg (show ¬ (nI 5 = (1 : Int32)) by decide), if_neg (show ¬ (nI 5 = (1 : Int32)) by decide), if_neg (show ¬ (nI 5 = (2 : Int32)) by decide), if_neg (show ¬ (nI 5 = (2 : Int32)) by decide), if_neg (show ¬ (nI 5 = (3 : Int32)) by decide), if_neg (show ¬ (nI 5 = (3 : Int32)) by decide), if_neg (show ¬ (nI 5 = (4 : Int32)) by decide), if_neg (show ¬ (nI 5 = (4 : Int32)) by decide), e1, e2]
    exact ⟨C', D', no, rfl, rfl, e3.mono, by omega, e4⟩
theorem r8_at {a k : Nat} : (660 + (9 * ((6 * nI a) + nI k))) + 8 = nI (660 + (9 * (6 * a + k) + 8)) := by
  rw [l660, l9, l6, l8]
  simp only [pk_mul, nI_add]
  exact congrArg nI (by omega)
theorem v_start {a k : Nat} : f_Rl_start (nI a) (nI k) = some (nI (9 * (6 * a + k))) := by
  unfold f_Rl_start
  rw [l9, l6]
  simp only [pk_mul, nI_add]
  exact congrArg (fun z => some (nI z)) (by omega)
theorem follow {a : Nat} (y1 : Int32) : ∀ (m k q q' t no : Nat) (C D : St) (n d : Nat), a < n → C 13 a = nI (k + m) → k + m ≤ 6 → m < q → m < q' → AS C D t n d no → C 4 a = 0 → t + m ≤ 600 → no + m ≤ 72 → ∃ C' D' no', L_Dy_followRules_2 q (nI a) (nI k) C = some C' ∧ L_Md_actAll_28 q' y1 (nI a) (nI k) D = some D' ∧ AS C' D' (t + m) n d no' ∧ no' ≤ no + m ∧ FRM C D C' D'
  | 0, k, q + 1, q' + 1, t, no, C, D, n, d, ha, h13, hk6, _, _, h, h4, _, _ => by
    have hn := h.2.1.1.1
    refine ⟨C, D, no, ?_, ?_, h, by omega, FRM.refl C D⟩
    · rw [L_Dy_followRules_2, if_pos (inb_t (by omega) (by omega)), nI_clamp (by omega), h13, if_pos (by rw [nI_leI (by omega) (by omega)]; omega)]
    · rw [L_Md_actAll_28, m_ruleMany (by omega), bd1_s, ← (rt_a h.1 (show a < 12 by omega)).2.2.2.2, h13, if_pos (by rw [nI_leI (by omega) (by omega)]; omega)]
  | m + 1, k, q + 1, q' + 1, t, no, C, D, n, d, ha, h13, hk6, hq, hq', h, h4, ht, hno => by
    have hn := h.2.1.1.1
    have ha' : a < 12 := by omega
    have hsz : (k : Int) < (C 13 a).toInt := by rw [h13, nI_toInt (by omega)]; omega
    obtain ⟨v, f1, f2, f3⟩ := fires_ok h.1 h.2.1 (show t ≤ 600 by omega) ha (show k < 6 by omega) hsz
    have S : ∃ C1 D1 no1, (bd1 (if v = 0 then some C else bd1 (f_Rl_countFire (nI a) (nI k) C) fun C6 => bd1 (f_Dy_act (nI a) (nI k) C6) fun C8 => some C8) fun (C10 : St) => L_Dy_followRules_2 q (nI a) (nI k + 1) C10) = L_Dy_followRules_2 q (nI a) (nI (k + 1)) C1 ∧
        (bd1 (if v = 0 then some D else if inb ((660 + (9 * ((6 * nI a) + nI k))) + 8) 2200 then bd1 (f_Md_act (nI a) (nI k) (mj_wr D 89 (((660 + (9 * ((6 * nI a) + nI k))) + 8).toNatClampNeg) ((D 89 ((660 + (9 * ((6 * nI a) + nI k))) + 8).toNatClampNeg) + 1))) fun C14 => some C14 else none) fun (C16 : St) => L_Md_actAll_28 q' y1 (nI a) (nI k + 1) C16) = L_Md_actAll_28 q' y1 (nI a) (nI (k + 1)) D1 ∧ AS C1 D1 (t + 1) n d no1 ∧ no1 ≤ no + 1 ∧ FRM C D C1 D1 := by
      rw [l1, nI_add]
      rcases f3 with rfl | rfl
      · rw [if_pos rfl, if_pos rfl]
        exact ⟨C, D, no, rfl, rfl, h.mono, by omega, FRM.refl C D⟩
      · rw [if_neg i10, if_neg i10, r8_at, if_pos (inb_t (by omega) (by omega)), nI_clamp (by omega), ← rt_r h.1 (show 9 * (6 * a + k) + 8 < 648 by omega)]
        have ec : f_Rl_countFire (nI a) (nI k) C = some (mj_wr C 14 (9 * (6 * a + k) + 8) (C 14 (9 * (6 * a + k) + 8) + nI 1)) := by
          unfold f_Rl_countFire
          rw [v_start, bd1_s, l8, nI_add, if_pos (inb_t (by omega) (by omega)), nI_clamp (by omega), l1]
        rw [ec, bd1_s]
        have h1 : AS (mj_wr C 14 (9 * (6 * a + k) + 8) (C 14 (9 * (6 * a + k) + 8) + nI 1)) (mj_wr D 89 (660 + (9 * (6 * a + k) + 8)) (C 14 (9 * (6 * a + k) + 8) + nI 1)) t n d no := h.step (rt_r1 h.1 (by omega) _) (h.2.1.fire _) (fun j hj => wr_row _ _ (by omega)) (fun j h1 h2 => wr_row _ _ h1) (fun p hp => by rw [wr_row _ _ (by omega)]; exact (h.le9 hp).2) (fun x hx => by rw [wr_row _ _ (by omega)]; exact (h.le3 hx).2)
        obtain ⟨C', D', no', e1, e2, e3, e4, e5⟩ := act_ok (k := k) h1 (by omega) (by omega) ha (by omega) (by rw [wr_row _ _ (by omega)]; exact hsz)
        rw [e1, e2]
        refine ⟨C', D', no', rfl, rfl, e3, e4, FRM.trans (FRM.of (fun j hj => wr_row _ _ (by omega)) (fun j h1 h2 => wr_row _ _ h1)) e5⟩
    obtain ⟨C1, D1, no1, s1, s2, s3, s4, s5⟩ := S
    obtain ⟨C2, D2, no2, u1, u2, u3, u4, u5⟩ := follow y1 m (k + 1) q q' (t + 1) no1 C1 D1 n d ha (by rw [s5.1 13 (by omega), h13]; exact congrArg nI (by omega)) (by omega) (by omega) (by omega) s3 (by rw [s5.1 4 (by omega)]; exact h4) (by omega) (by omega)
    refine ⟨C2, D2, no2, ?_, ?_, by rw [show t + (m + 1) = t + 1 + m by omega]; exact u3, by omega, s5.trans u5⟩
    · rw [L_Dy_followRules_2, if_pos (inb_t (by omega) (by omega)), nI_clamp (by omega), h13, if_neg (by rw [nI_leI (by omega) (by omega)]; omega), f1, bd1_s, s1]
      exact u1
    · rw [L_Md_actAll_28, m_ruleMany ha', bd1_s, ← (rt_a h.1 ha').2.2.2.2, h13, if_neg (by rw [nI_leI (by omega) (by omega)]; omega), m_isBroke ha', bd1_s, ← (rt_a h.1 ha').2.2.1, h4, if_neg (show ¬ ((0 : Int32) = 1) by decide), if_pos rfl, f2, bd1_s, s2]
      exact u2
theorem OR.keep {C D C' D' : St} {n : Nat} (h : OR C D n) (f : FRM C D C' D') : OR C' D' n := fun i hi => by rw [f.1 24 (by omega), f.2.1 100 (by omega)]; exact h i hi
theorem agents_act : ∀ (m k q q' t no : Nat) (C D : St) (n d : Nat), k + m = n → m < q → m < q' → AS C D t n d no → OR C D n → t + 6 * m ≤ 600 → no + 6 * m ≤ 72 → ∃ C' D' no', L_Dy_pass_14 q (nI k) C = some C' ∧ L_Md_actAll_7 q' (nI k) D = some D' ∧ AS C' D' (t + 6 * m) n d no' ∧ no' ≤ no + 6 * m ∧ FRM C D C' D'
  | 0, k, q + 1, q' + 1, t, no, C, D, n, d, hk, _, _, h, hO, _, _ => by
    obtain ⟨hn, h1, -, -⟩ := h.2.1.n0
    refine ⟨C, D, no, ?_, ?_, h, by omega, FRM.refl C D⟩
    · rw [L_Dy_pass_14, h1, if_pos (by rw [nI_leI (by omega) (by omega)]; omega)]
    · rw [L_Md_actAll_7, ← (rt_n h.1).1, h1, if_pos (by rw [nI_leI (by omega) (by omega)]; omega)]
  | m + 1, k, q + 1, q' + 1, t, no, C, D, n, d, hk, hq, hq', h, hO, ht, hno => by
    obtain ⟨hn, h1, -, -⟩ := h.2.1.n0
    obtain ⟨a, ha, ea, eb⟩ := hO k (by omega)
    have ha' : a < 12 := by omega
    have mono6 : ∀ j : Nat, ∀ {C D : St} {t no : Nat}, AS C D t n d no → AS C D (t + j) n d no := fun j => by
      induction j with
      | zero => intro C D t no h; exact h
      | succ j ih => intro C D t no h; exact (ih h).mono
    have S : ∃ C1 D1 no1, (bd1 (if (C 4 a) = 0 then bd1 (f_Dy_followRules (nI a) C) fun C10 => some C10 else some C) fun (C12 : St) => L_Dy_pass_14 q (nI k + 1) C12) = L_Dy_pass_14 q (nI (k + 1)) C1 ∧ L_Md_actAll_28 3000 (nI k) (nI a) 0 D = some D1 ∧ AS C1 D1 (t + 6) n d no1 ∧ no1 ≤ no + 6 ∧ FRM C D C1 D1 := by
      rw [l1, nI_add]
      obtain ⟨sz, z1, z2, z3⟩ := rg_nI (h.2.1.sizes ha')
      have hsz : D 89 (5 * a + 4) = nI sz := by rw [← (rt_a h.1 ha').2.2.2.2]; exact z3
      by_cases h4 : C 4 a = 0
      · obtain ⟨C1, D1, no1, u1, u2, u3, u4, u5⟩ := follow (a := a) (nI k) sz 0 3000 3000 t no C D n d ha (by rw [z3]; exact congrArg nI (by omega)) (by omega) (by omega) (by omega) h h4 (by omega) (by omega)
        refine ⟨C1, D1, no1, ?_, u2, ?_, by omega, u5⟩
        · unfold f_Dy_followRules
          rw [if_pos h4, show L_Dy_followRules_2 3000 (nI a) 0 C = _ from u1]
          rfl
        · have := mono6 (6 - sz) u3
          rw [show t + sz + (6 - sz) = t + 6 by omega] at this
          exact this
      · refine ⟨C, D, no, by rw [if_neg h4]; rfl, ?_, mono6 6 h, by omega, FRM.refl C D⟩
        have h41 : D 89 (5 * a + 2) = 1 := by
          rw [← (rt_a h.1 ha').2.2.1]
          obtain ⟨z, q1, q2, q3⟩ := rg_nI (h.2.1.brokes ha')
          rw [q3] at h4 ⊢
          rcases (show z = 0 ∨ z = 1 by omega) with rfl | rfl
          · exact absurd rfl h4
          · rfl
        rw [show (3000 : Nat) = 2999 + 1 from rfl, L_Md_actAll_28, m_ruleMany ha', bd1_s, hsz]
        by_cases hz : nI sz ≤ 0
        · rw [if_pos hz]
        · rw [if_neg hz, m_isBroke ha', bd1_s, h41, if_pos rfl, if_neg i10]
    obtain ⟨C1, D1, no1, s1, s2, s3, s4, s5⟩ := S
    obtain ⟨C2, D2, no2, u1, u2, u3, u4, u5⟩ := agents_act m (k + 1) q q' (t + 6) no1 C1 D1 n d (by omega) (by omega) (by omega) s3 (hO.keep s5) (by omega) (by omega)
    refine ⟨C2, D2, no2, ?_, ?_, by rw [show t + 6 * (m + 1) = t + 6 + 6 * m by omega]; exact u3, by omega, s5.trans u5⟩
    · rw [L_Dy_pass_14, h1, if_neg (by rw [nI_leI (by omega) (by omega)]; omega), if_pos (inb_t (by omega) (by omega)), nI_clamp (by omega), ea, if_pos (inb_t (by omega) (by omega)), nI_clamp (by omega), s1]
      exact u1
    · rw [L_Md_actAll_7, ← (rt_n h.1).1, h1, if_neg (by rw [nI_leI (by omega) (by omega)]; omega), if_pos (inb_t (by omega) (by omega)), nI_clamp (by omega), eb, s2, bd1_s, l1, nI_add]
      exact u2
/-- ALL ACTS of a day, on both sides -/
theorem acts_all {C D : St} {t n d : Nat} (hR : RT C D 0 89 0) (hW : WTn C 0 t n d) (hO : OR C D n) (ht : t < 512) : ∃ C1 C' D' no, f_Mt_clear C = some C1 ∧ L_Dy_pass_14 3000 0 C1 = some C' ∧ f_Md_actAll D = some D' ∧ AS C' D' (t + 72) n d no ∧ (∀ j, j = 2 ∨ j = 4 ∨ j = 13 ∨ (17 ≤ j ∧ j ≤ 24) ∨ 40 ≤ j → C' j = C j) ∧ (∀ j, j = 90 ∨ j = 91 ∨ j = 92 → D' j = D j) ∧ (∀ i, i ≠ 11 → D' 88 i = D 88 i) := by
  have hn := hW.1.1
  obtain ⟨C1, c1, c2, c3, c4, c5, c6⟩ := v_clear C
  have h0 : AS C1 (mj_wr D 88 11 0) t n d 0 := by
    refine ⟨hR.frame (fun j h1 h2 => c6 _ (by omega) (by omega) (by omega) (by omega)) (wr_row _ _ (by omega)), hW.frame (fun j h1 h2 => c6 _ (by omega) (by omega) (by omega) (by omega)), ⟨wr_same _ _ _ _, by omega, ⟨c2, fun k hk => by omega⟩, ⟨c3, fun k hk => by omega⟩, fun k hk => by omega⟩, fun k hk => by omega, fun a g ha hg => ?_, fun a ha => ?_⟩
    · rw [c4 _ (by omega), c6 9 (by omega) (by omega) (by omega) (by omega)]
      exact ⟨rfl, by decide, (ps_sum hW.ps (by omega)).1⟩
    · rw [c5 _ ha, c6 3 (by omega) (by omega) (by omega) (by omega)]
      exact ⟨rfl, by decide, hW.cash.1 a ha⟩
  have hO1 : OR C1 (mj_wr D 88 11 0) n := fun i hi => by rw [c6 24 (by omega) (by omega) (by omega) (by omega), wr_row _ _ (by omega)]; exact hO i hi
  obtain ⟨C2, D2, no, u1, u2, u3, u4, u5⟩ := agents_act n 0 3000 3000 t 0 C1 (mj_wr D 88 11 0) n d (by omega) (by omega) (by omega) h0 hO1 (by omega) (by omega)
  have mono6 : ∀ j : Nat, ∀ {C D : St} {t no : Nat}, AS C D t n d no → AS C D (t + j) n d no := fun j => by
    induction j with
    | zero => intro C D t no h; exact h
    | succ j ih => intro C D t no h; exact (ih h).mono
  refine ⟨C1, C2, D2, no, c1, u1, ?_, ?_, fun j hj => ?_, fun j hj => ?_, fun i hi => ?_⟩
  · unfold f_Md_actAll
    rw [show L_Md_actAll_7 3000 0 (mj_wr D 88 11 0) = _ from u2, bd1_s]
  · have := mono6 (72 - 6 * n) u3
    rw [show t + 6 * n + (72 - 6 * n) = t + 72 by omega] at this
    exact this
  · rw [u5.1 j hj, c6 j (by omega) (by omega) (by omega) (by omega)]
  · rw [u5.2.1 j (by omega), wr_row _ _ (by omega)]
  · rw [u5.2.2 i hi, wr_idx _ _ hi]
