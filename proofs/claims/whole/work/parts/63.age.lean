/-! PURE: a day: goods grow older, on both sides -/
theorem ag_congr {f f' : Nat → Int32} {L k : Nat} (h : ∀ k, k < 10 → f k = f' k) (hk : k < 10) : agF L f k = agF L f' k ∧ goF L f k = goF L f' k := by
  have e : shF f k = shF f' k := by
    unfold shF
    rw [h 9 (by omega), h 8 (by omega), h (k - 1) (by omega)]
  unfold agF goF
  rw [e]
  exact ⟨rfl, rfl⟩
theorem go_congr {f f' : Nat → Int32} {L : Nat} (h : ∀ k, k < 10 → f k = f' k) : si (goF L f) 10 = si (goF L f') 10 := si_congr 10 (fun k hk => (ag_congr h hk).2)
def lif (C : St) (g : Nat) : Nat := (C 11 (11 * g)).toNatClampNeg
def tot (C : St) (g : Nat) : Int32 := si (fun a => si (goF (lif C g) (pil C (5 * a + g))) 10) 12
def fa8 (C : St) (gg i : Nat) : Int32 := if (i / 10) % 5 < gg ∧ i < 600 then agF (lif C ((i / 10) % 5)) (pil C (i / 10)) (i % 10) else C 8 i
def fa11 (C : St) (gg x : Nat) : Int32 := if x % 11 = 6 ∧ x / 11 < gg then C 11 x + tot C (x / 11) else C 11 x
theorem WTn.life {C : St} {t n d g : Nat} (h : WTn C 0 t n d) (hg : g < 5) : C 11 (11 * g) = nI (lif C g) ∧ lif C g ≤ 9 := by
  obtain ⟨k, k1, k2, k3⟩ := rg_nI (h.wares hg).1
  unfold lif
  rw [k3, nI_clamp k2]
  exact ⟨rfl, by omega⟩
theorem v_age_l {C0 : St} {t n d : Nat} (ht : t ≤ 600) (hW0 : WTn C0 0 t n d) : ∀ (m gg f : Nat) (C : St), gg + m = 5 → m < f → WTn C 0 t n d → (∀ i, C 8 i = fa8 C0 gg i) → (∀ x, C 11 x = fa11 C0 gg x) → (∀ j, j ≠ 8 → j ≠ 9 → j ≠ 11 → C j = C0 j) → ∃ C', L_Dy_pass_71 f (nI gg) C = some C' ∧ WTn C' 0 t n d ∧ (∀ i, C' 8 i = fa8 C0 5 i) ∧ (∀ x, C' 11 x = fa11 C0 5 x) ∧ (∀ j, j ≠ 8 → j ≠ 9 → j ≠ 11 → C' j = C0 j)
  | 0, gg, f + 1, C, hg, _, hW, e8, e11, e => by
    obtain rfl : gg = 5 := by omega
    exact ⟨C, by rw [L_Dy_pass_71, if_pos (by decide)], hW, e8, e11, e⟩
  | m + 1, gg, f + 1, C, hg, hf, hW, e8, e11, e => by
    have hd := hW.1.2.2.1
    have hn := hW.1.1
    obtain ⟨l1', l2'⟩ := hW0.life (show gg < 5 by omega)
    have cl : C 11 (11 * gg + 0) = nI (lif C0 gg) := by
      rw [e11]
      unfold fa11
      rw [if_neg (by omega)]
      exact l1'
    obtain ⟨C1, s1, s2, s3, s4⟩ := v_gr hW.ps (show gg < 5 by omega) l2'
    have pe : ∀ p k, p % 5 = gg → k < 10 → pil C p k = pil C0 p k := fun p k hp hk => by
      unfold pil
      rw [e8]
      unfold fa8
      rw [if_neg (by omega)]
    have et : si (fun a => si (goF (lif C0 gg) (pil C (5 * a + gg))) 10) 12 = tot C0 gg := by
      unfold tot
      exact si_congr 12 (fun a _ => go_congr (fun k hk => pe _ k (by omega) hk))
    rw [et] at s1
    have W1 : WTn C1 0 t n d := hW.put_ps s4 rfl (ps_gr hW.ps hn (by omega) s2 s3)
    have W2 := W1.put_w (c := 6) (show gg < 5 by omega) (by omega) (by omega) (x := C1 11 (11 * gg + 6) + tot C0 gg) (fun h => by omega)
    have key := v_age_l ht hW0 m (gg + 1) f (mj_wr C1 11 (11 * gg + 6) (C1 11 (11 * gg + 6) + tot C0 gg)) (by omega) (by omega) W2 (fun i => by
      rw [wr_cell _ _ (by omega), s2]
      unfold gr8
      by_cases h1 : (i / 10) % 5 = gg ∧ i / 50 < 12
      · rw [if_pos h1]
        unfold fa8
        rw [if_pos (by omega), h1.1]
        exact (ag_congr (fun k hk => pe _ k h1.1 hk) (by omega)).1
      · rw [if_neg h1, e8]
        unfold fa8
        by_cases h2 : (i / 10) % 5 < gg ∧ i < 600
        · rw [if_pos h2, if_pos (by omega)]
        · rw [if_neg h2, if_neg (by omega)]) (fun x => by
      rw [wr_at, s4 11 (by omega) (by omega), e11, e11]
      unfold fa11
      by_cases h1 : x = 11 * gg + 6
      · rw [if_pos h1, if_neg (by omega), if_pos (by omega), h1, show (11 * gg + 6) / 11 = gg by omega]
      · rw [if_neg h1]
        by_cases h2 : x % 11 = 6 ∧ x / 11 < gg
        · rw [if_pos h2, if_pos (by omega)]
        · rw [if_neg h2, if_neg (by omega)]) (fun j h8 h9 h11 => by rw [wr_row _ _ h11, s4 j h8 h9, e j h8 h9 h11])
    obtain ⟨C', r1, r2⟩ := key
    refine ⟨C', ?_, r2⟩
    rw [L_Dy_pass_71, if_neg (by rw [l5, nI_leI (by omega) (by omega)]; omega), l0, v_wget (by omega) (by omega), bd1_s, cl, s1, bd2_s, l6, v_winc (by omega) (by omega), bd1_s, l1, nI_add]
    exact r1
/-- the reference's side -/
theorem m_sh_l {a g p : Nat} (hp : p = 5 * a + g) (ha : a < 12) (hg : g < 5) : ∀ (k f : Nat) (D : St), k ≤ 8 → k < f → ∃ D', L_Md_age_30 f (nI a) (nI g) (nI k) D = some D' ∧ (∀ i, D' 89 i = if 60 + 10 * p + 1 ≤ i ∧ i ≤ 60 + 10 * p + k then D 89 (i - 1) else D 89 i) ∧ ∀ j, j ≠ 89 → D' j = D j
  | 0, f + 1, D, _, _ => ⟨D, by rw [L_Md_age_30, if_pos (by decide)], fun i => by rw [if_neg (by omega)], fun _ _ => rfl⟩
  | k + 1, f + 1, D, hk, hf => by
    obtain ⟨D', e1, e2, e3⟩ := m_sh_l hp ha hg k f (mj_wr D 89 (60 + (10 * p + (k + 1))) (D 89 (60 + (10 * p + k)))) (by omega) (by omega)
    refine ⟨D', ?_, fun i => ?_, fun j hj => by rw [e3 j hj, wr_row _ _ hj]⟩
    · rw [L_Md_age_30, if_neg (nI_gt0 (by omega) (by omega)).1, nI_m1 (by omega), m_ageAt, m_ageAt, bd1_s, bd1_s, show k + 1 - 1 = k by omega, if_pos (inb_t (by omega) (by omega)), if_pos (inb_t (by omega) (by omega)), nI_clamp (by omega), nI_clamp (by omega), pk_m1, ← hp]
      exact e1
    · rw [e2]
      by_cases h : i = 60 + (10 * p + (k + 1))
      · subst h
        rw [if_neg (by omega), wr_same, if_pos (by omega)]
        exact congrArg (D 89) (by omega)
      · by_cases h2 : 60 + 10 * p + 1 ≤ i ∧ i ≤ 60 + 10 * p + k
        · rw [if_pos h2, if_pos (by omega), wr_idx _ _ (by omega)]
        · rw [if_neg h2, if_neg (by omega), wr_idx _ _ h]
theorem m_tk_l {a g p L : Nat} {D4 : St} (hp : p = 5 * a + g) (ha : a < 12) (hg : g < 5) (hL : L ≤ 9) (hL0 : 0 < L) : ∀ (m k f : Nat) (D : St), k + m = 10 → m < f → L ≤ k → (∀ i, D 89 i = if 60 + 10 * p + L ≤ i ∧ i < 60 + 10 * p + k then 0 else if i = 1308 + (11 * g + 6) then D4 89 i + si (fun j => if L ≤ j then D4 89 (60 + 10 * p + j) else 0) k else D4 89 i) → (∀ j, j ≠ 89 → D j = D4 j) → ∃ D', L_Md_age_86 f (nI a) (nI g) (nI L) (nI k) D = some D' ∧ (∀ i, D' 89 i = if 60 + 10 * p + L ≤ i ∧ i < 60 + 10 * p + 10 then 0 else if i = 1308 + (11 * g + 6) then D4 89 i + si (fun j => if L ≤ j then D4 89 (60 + 10 * p + j) else 0) 10 else D4 89 i) ∧ ∀ j, j ≠ 89 → D' j = D4 j
  | 0, k, f + 1, D, hk, _, _, e, g' => by
    obtain rfl : k = 10 := by omega
    exact ⟨D, by rw [L_Md_age_86, if_pos (by decide)], e, g'⟩
  | m + 1, k, f + 1, D, hk, hf, hLk, e, g' => by
    have c : D 89 (60 + (10 * p + k)) = D4 89 (60 + 10 * p + k) := by rw [e, if_neg (by omega), if_neg (by omega)]; exact congrArg (D4 89) (by omega)
    have c6 : D 89 (1308 + (11 * g + 6)) = D4 89 (1308 + (11 * g + 6)) + si (fun j => if L ≤ j then D4 89 (60 + 10 * p + j) else 0) k := by rw [e, if_neg (by omega), if_pos rfl]
    obtain ⟨D', r1, r2⟩ := m_tk_l (D4 := D4) hp ha hg hL hL0 m (k + 1) f (mj_wr (mj_wr D 89 (1308 + (11 * g + 6)) (D 89 (1308 + (11 * g + 6)) + D 89 (60 + (10 * p + k)))) 89 (60 + (10 * p + k)) 0) (by omega) (by omega) (by omega) (fun i => by
      rw [wr_at, wr_at, c6, c]
      by_cases h : i = 60 + (10 * p + k)
      · rw [if_pos h, if_pos (by omega)]
      · rw [if_neg h]
        by_cases h6 : i = 1308 + (11 * g + 6)
        · rw [if_pos h6, if_neg (by omega), if_pos h6, si_s, if_pos hLk, Int32.add_assoc, h6]
        · rw [if_neg h6, e, if_neg h6, if_neg h6]
          by_cases h2 : 60 + 10 * p + L ≤ i ∧ i < 60 + 10 * p + k
          · rw [if_pos h2, if_pos (by omega)]
          · rw [if_neg h2, if_neg (by omega)]) (fun j hj => by rw [wr_row _ _ hj, wr_row _ _ hj, g' j hj])
    refine ⟨D', ?_, r2⟩
    rw [L_Md_age_86, if_neg (by rw [l10, nI_leI (by omega) (by omega)]; omega), if_neg (nI_gt0 (by omega) (by omega)).1, m_ageAt, bd1_s, if_pos (inb_t (by omega) (by omega)), nI_clamp (by omega), l6, m_addGood hg (by omega), bd1_s, bd1_s, if_pos (inb_t (by omega) (by omega)), nI_clamp (by omega), l1, nI_add, ← hp]
    exact r1
theorem m_age {D : St} {a g L : Nat} (ha : a < 12) (hg : g < 5) (hL : L ≤ 9) (hl : D 89 (1308 + (11 * g + 0)) = nI L) : ∃ D', f_Md_age (nI a) (nI g) D = some D' ∧ (∀ i, D' 89 i = if 60 + 10 * (5 * a + g) ≤ i ∧ i < 60 + 10 * (5 * a + g) + 10 then agF L (fun k => D 89 (60 + 10 * (5 * a + g) + k)) (i - (60 + 10 * (5 * a + g))) else if i = 1308 + (11 * g + 6) then D 89 i + si (goF L (fun k => D 89 (60 + 10 * (5 * a + g) + k))) 10 else D 89 i) ∧ ∀ j, j ≠ 89 → D' j = D j := by
  obtain ⟨p, hp⟩ : ∃ p, p = 5 * a + g := ⟨_, rfl⟩
  obtain ⟨D1, e1, e2, e3⟩ := m_sh_l hp ha hg 8 3000 (mj_wr D 89 (60 + (10 * p + 9)) (D 89 (60 + (10 * p + 9)) + D 89 (60 + (10 * p + 8)))) (by omega) (by omega)
  obtain ⟨D4, hD4⟩ : ∃ D4, D4 = mj_wr D1 89 (60 + (10 * p + 0)) 0 := ⟨_, rfl⟩
  have s2 : ∀ i, D4 89 i = if 60 + 10 * p ≤ i ∧ i < 60 + 10 * p + 10 then shF (fun k => D 89 (60 + 10 * p + k)) (i - (60 + 10 * p)) else D 89 i := fun i => by
    rw [hD4, wr_at, e2]
    unfold shF
    by_cases h0 : i = 60 + (10 * p + 0)
    · subst h0
      rw [if_pos rfl, if_pos (by omega), if_neg (by omega), if_pos (by omega)]
    · rw [if_neg h0]
      by_cases h1 : 60 + 10 * p + 1 ≤ i ∧ i ≤ 60 + 10 * p + 8
      · rw [if_pos h1, if_pos (by omega), if_neg (by omega), if_neg (by omega), wr_idx _ _ (by omega)]
        exact congrArg (D 89) (by omega)
      · rw [if_neg h1]
        by_cases h9 : i = 60 + (10 * p + 9)
        · subst h9
          rw [wr_same, if_pos (by omega), if_pos (by omega)]
          rw [show 60 + (10 * p + 9) = 60 + 10 * p + 9 by omega, show 60 + (10 * p + 8) = 60 + 10 * p + 8 by omega]
        · rw [wr_idx _ _ h9, if_neg (by omega)]
  have s3 : ∀ j, j ≠ 89 → D4 j = D j := fun j hj => by rw [hD4, wr_row _ _ hj, e3 j hj, wr_row _ _ hj]
  have d4l : D4 89 (1308 + (11 * g + 0)) = nI L := by rw [s2, if_neg (by omega)]; exact hl
  have T : ∃ D', L_Md_age_86 3000 (nI a) (nI g) (nI L) (nI L) D4 = some D' ∧ (∀ i, D' 89 i = if 60 + 10 * p ≤ i ∧ i < 60 + 10 * p + 10 then agF L (fun k => D 89 (60 + 10 * p + k)) (i - (60 + 10 * p)) else if i = 1308 + (11 * g + 6) then D 89 i + si (goF L (fun k => D 89 (60 + 10 * p + k))) 10 else D 89 i) ∧ ∀ j, j ≠ 89 → D' j = D j := by
    by_cases hL0 : L = 0
    · subst hL0
      refine ⟨D4, ?_, fun i => ?_, s3⟩
      · rw [show (3000 : Nat) = 2999 + 1 from rfl, L_Md_age_86, if_neg (by decide), if_pos (by decide)]
      · rw [s2]
        have zz : si (goF 0 (fun k => D 89 (60 + 10 * p + k))) 10 = 0 := si_zero 10 (fun k _ => if_neg (by omega))
        rw [zz, Int32.add_zero]
        by_cases h1 : 60 + 10 * p ≤ i ∧ i < 60 + 10 * p + 10
        · rw [if_pos h1, if_pos h1]
          unfold agF
          rw [if_neg (show ¬ (0 < 0 ∧ 0 ≤ i - (60 + 10 * p)) by omega)]
        · rw [if_neg h1, if_neg h1]
          split <;> rfl
    · have z0 : si (fun j => if L ≤ j then D4 89 (60 + 10 * p + j) else 0) L = 0 := si_zero L (fun j hj => if_neg (by omega))
      have zg : si (fun j => if L ≤ j then D4 89 (60 + 10 * p + j) else 0) 10 = si (goF L (fun k => D 89 (60 + 10 * p + k))) 10 := si_congr 10 (fun k hk => by
        unfold goF
        by_cases hk2 : L ≤ k
        · rw [if_pos hk2, if_pos (by omega), s2, if_pos (by omega)]
          exact congrArg _ (by omega)
        · rw [if_neg hk2, if_neg (by omega)])
      obtain ⟨D', t1, t2, t3⟩ := m_tk_l (D4 := D4) hp ha hg hL (by omega) (10 - L) L 3000 D4 (by omega) (by omega) (Nat.le_refl _) (fun i => by
        rw [if_neg (by omega), z0, Int32.add_zero]
        split <;> rfl) (fun _ _ => rfl)
      refine ⟨D', t1, fun i => ?_, fun j hj => by rw [t3 j hj, s3 j hj]⟩
      rw [t2, zg]
      by_cases h1 : 60 + 10 * p + L ≤ i ∧ i < 60 + 10 * p + 10
      · rw [if_pos h1, if_pos (by omega)]
        unfold agF
        rw [if_pos (by omega)]
      · rw [if_neg h1, s2]
        by_cases h2 : 60 + 10 * p ≤ i ∧ i < 60 + 10 * p + 10
        · rw [if_pos h2, if_neg (by omega), if_pos h2]
          unfold agF
          rw [if_neg (by omega)]
        · rw [if_neg h2, if_neg h2]
  obtain ⟨D', t1, t2, t3⟩ := T
  rw [← hp]
  refine ⟨D', ?_, t2, t3⟩
  unfold f_Md_age
  rw [l9, l8, l0, m_ageAt, m_ageAt, m_ageAt, bd1_s, bd1_s, ← hp, if_pos (inb_t (by omega) (by omega)), if_pos (inb_t (by omega) (by omega)), nI_clamp (by omega), nI_clamp (by omega), e1, bd1_s, bd1_s, if_pos (inb_t (by omega) (by omega)), nI_clamp (by omega), ← l0, ← hD4, l0, m_goodIs hg (by omega), bd1_s, d4l, t1, bd1_s]
/-- all piles, one after the other -/
def pilD (D : St) (p : Nat) : Nat → Int32 := fun k => D 89 (60 + 10 * p + k)
def lifD (D : St) (g : Nat) : Nat := (D 89 (1308 + (11 * g + 0))).toNatClampNeg
def goP (D : St) (g p : Nat) : Int32 := if p % 5 = g then si (goF (lifD D g) (pilD D p)) 10 else 0
def fD (D : St) (P i : Nat) : Int32 := if 60 ≤ i ∧ i < 60 + 10 * P then agF (lifD D ((i - 60) / 10 % 5)) (pilD D ((i - 60) / 10)) ((i - 60) % 10) else if 1308 ≤ i ∧ i < 1363 ∧ (i - 1308) % 11 = 6 then D 89 i + si (goP D ((i - 1308) / 11)) P else D 89 i
theorem m_step {D0 D : St} {a g : Nat} (ha : a < 12) (hg : g < 5) (hl : ∀ g, g < 5 → D0 89 (1308 + (11 * g + 0)) = nI (lifD D0 g) ∧ lifD D0 g ≤ 9) (e : ∀ i, D 89 i = fD D0 (5 * a + g) i) (e' : ∀ j, j ≠ 89 → D j = D0 j) : ∃ D', f_Md_age (nI a) (nI g) D = some D' ∧ (∀ i, D' 89 i = fD D0 (5 * a + g + 1) i) ∧ ∀ j, j ≠ 89 → D' j = D0 j := by
  obtain ⟨h1, h2⟩ := hl g hg
  have dl : D 89 (1308 + (11 * g + 0)) = nI (lifD D0 g) := by
    rw [e]
    unfold fD
    rw [if_neg (by omega), if_neg (by omega)]
    exact h1
  obtain ⟨D', s1, s2, s3⟩ := m_age ha hg h2 dl
  have pe : ∀ k, k < 10 → D 89 (60 + 10 * (5 * a + g) + k) = pilD D0 (5 * a + g) k := fun k hk => by
    rw [e]
    unfold fD
    rw [if_neg (by omega), if_neg (by omega)]
    rfl
  refine ⟨D', s1, fun i => ?_, fun j hj => by rw [s3 j hj, e' j hj]⟩
  rw [s2]
  by_cases c1 : 60 + 10 * (5 * a + g) ≤ i ∧ i < 60 + 10 * (5 * a + g) + 10
  · rw [if_pos c1]
    unfold fD
    rw [if_pos (by omega), show (i - 60) / 10 = 5 * a + g by omega, show (5 * a + g) % 5 = g by omega, show i - (60 + 10 * (5 * a + g)) = (i - 60) % 10 by omega]
    exact (ag_congr (f := fun k => D 89 (60 + 10 * (5 * a + g) + k)) (f' := pilD D0 (5 * a + g)) pe (by omega)).1
  · rw [if_neg c1]
    by_cases c2 : i = 1308 + (11 * g + 6)
    · rw [if_pos c2, go_congr (f := fun k => D 89 (60 + 10 * (5 * a + g) + k)) (f' := pilD D0 (5 * a + g)) pe, e]
      unfold fD
      rw [if_neg (by omega), if_pos (by omega), if_neg (by omega), if_pos (by omega), show si (goP D0 ((i - 1308) / 11)) (5 * a + g + 1) = si (goP D0 ((i - 1308) / 11)) (5 * a + g) + goP D0 ((i - 1308) / 11) (5 * a + g) from rfl, show (i - 1308) / 11 = g by omega, Int32.add_assoc]
      have : goP D0 g (5 * a + g) = si (goF (lifD D0 g) (pilD D0 (5 * a + g))) 10 := if_pos (by omega)
      rw [this]
    · rw [if_neg c2, e]
      unfold fD
      by_cases c3 : 60 ≤ i ∧ i < 60 + 10 * (5 * a + g)
      · rw [if_pos c3, if_pos (by omega)]
      · rw [if_neg c3, if_neg (show ¬ (60 ≤ i ∧ i < 60 + 10 * (5 * a + g + 1)) by omega)]
        by_cases c4 : 1308 ≤ i ∧ i < 1363 ∧ (i - 1308) % 11 = 6
        · have : goP D0 ((i - 1308) / 11) (5 * a + g) = 0 := if_neg (by omega)
          rw [if_pos c4, if_pos c4, show si (goP D0 ((i - 1308) / 11)) (5 * a + g + 1) = si (goP D0 ((i - 1308) / 11)) (5 * a + g) + goP D0 ((i - 1308) / 11) (5 * a + g) from rfl, this, Int32.add_zero]
        · rw [if_neg c4, if_neg c4]
theorem m_in_l {D0 : St} {a : Nat} (ha : a < 12) (hl : ∀ g, g < 5 → D0 89 (1308 + (11 * g + 0)) = nI (lifD D0 g) ∧ lifD D0 g ≤ 9) : ∀ (m g f : Nat) (D : St), g + m = 5 → m < f → (∀ i, D 89 i = fD D0 (5 * a + g) i) → (∀ j, j ≠ 89 → D j = D0 j) → ∃ D', L_Md_liveDay_78 f (nI a) (nI g) D = some D' ∧ (∀ i, D' 89 i = fD D0 (5 * (a + 1)) i) ∧ ∀ j, j ≠ 89 → D' j = D0 j
  | 0, g, f + 1, D, hg, _, e, e' => by
    obtain rfl : g = 5 := by omega
    exact ⟨D, by rw [L_Md_liveDay_78, if_pos (by decide)], e, e'⟩
  | m + 1, g, f + 1, D, hg, hf, e, e' => by
    obtain ⟨D1, s1, s2, s3⟩ := m_step ha (show g < 5 by omega) hl e e'
    obtain ⟨D', r1, r2⟩ := m_in_l ha hl m (g + 1) f D1 (by omega) (by omega) s2 s3
    refine ⟨D', ?_, r2⟩
    rw [L_Md_liveDay_78, if_neg (by rw [l5, nI_leI (by omega) (by omega)]; omega), s1, bd1_s, l1, nI_add]
    exact r1
theorem m_out_l {D0 : St} {n : Nat} (hn : n ≤ 12) (h1 : D0 89 2163 = nI n) (hl : ∀ g, g < 5 → D0 89 (1308 + (11 * g + 0)) = nI (lifD D0 g) ∧ lifD D0 g ≤ 9) : ∀ (m a f : Nat) (D : St), a + m = n → m < f → (∀ i, D 89 i = fD D0 (5 * a) i) → (∀ j, j ≠ 89 → D j = D0 j) → ∃ D', L_Md_liveDay_64 f (nI a) D = some D' ∧ (∀ i, D' 89 i = fD D0 (5 * n) i) ∧ ∀ j, j ≠ 89 → D' j = D0 j
  | 0, a, f + 1, D, ha, _, e, e' => by
    obtain rfl : a = n := by omega
    have : D 89 2163 = nI a := by rw [e]; unfold fD; rw [if_neg (by omega), if_neg (by omega)]; exact h1
    exact ⟨D, by rw [L_Md_liveDay_64, this, if_pos (by rw [nI_leI (by omega) (by omega)]; omega)], e, e'⟩
  | m + 1, a, f + 1, D, ha, hf, e, e' => by
    have hh : D 89 2163 = nI n := by rw [e]; unfold fD; rw [if_neg (by omega), if_neg (by omega)]; exact h1
    obtain ⟨D1, s1, s2, s3⟩ := m_in_l (D0 := D0) (a := a) (by omega) hl 5 0 3000 D (by omega) (by omega) e e'
    obtain ⟨D', r1, r2⟩ := m_out_l hn h1 hl m (a + 1) f D1 (by omega) (by omega) s2 s3
    refine ⟨D', ?_, r2⟩
    rw [L_Md_liveDay_64, hh, if_neg (by rw [nI_leI (by omega) (by omega)]; omega), show L_Md_liveDay_78 3000 (nI a) 0 D = _ from s1, bd1_s, l1, nI_add]
    exact r1
theorem si5 {h : Nat → Int32} {g : Nat} (hg : g < 5) : ∀ (m : Nat), si (fun p => if p % 5 = g then h p else 0) (5 * m) = si (fun a => h (5 * a + g)) m
  | 0 => rfl
  | m + 1 => by
    rw [si_s, ← si5 hg m]
    show si _ (5 * m) + (if (5 * m) % 5 = g then h (5 * m) else 0) + (if (5 * m + 1) % 5 = g then h (5 * m + 1) else 0) + (if (5 * m + 2) % 5 = g then h (5 * m + 2) else 0) + (if (5 * m + 3) % 5 = g then h (5 * m + 3) else 0) + (if (5 * m + 4) % 5 = g then h (5 * m + 4) else 0) = _
    rcases (show g = 0 ∨ g = 1 ∨ g = 2 ∨ g = 3 ∨ g = 4 by omega) with rfl | rfl | rfl | rfl | rfl
    · rw [if_pos (show (5 * m) % 5 = 0 by omega), if_neg (show ¬ ((5 * m + 1) % 5 = 0) by omega), if_neg (show ¬ ((5 * m + 2) % 5 = 0) by omega), if_neg (show ¬ ((5 * m + 3) % 5 = 0) by omega), if_neg (show ¬ ((5 * m + 4) % 5 = 0) by omega)]
      simp only [Int32.add_zero]
      rfl
    · rw [if_neg (show ¬ ((5 * m) % 5 = 1) by omega), if_pos (show (5 * m + 1) % 5 = 1 by omega), if_neg (show ¬ ((5 * m + 2) % 5 = 1) by omega), if_neg (show ¬ ((5 * m + 3) % 5 = 1) by omega), if_neg (show ¬ ((5 * m + 4) % 5 = 1) by omega)]
      simp only [Int32.add_zero]
    · rw [if_neg (show ¬ ((5 * m) % 5 = 2) by omega), if_neg (show ¬ ((5 * m + 1) % 5 = 2) by omega), if_pos (show (5 * m + 2) % 5 = 2 by omega), if_neg (show ¬ ((5 * m + 3) % 5 = 2) by omega), if_neg (show ¬ ((5 * m + 4) % 5 = 2) by omega)]
      simp only [Int32.add_zero]
    · rw [if_neg (show ¬ ((5 * m) % 5 = 3) by omega), if_neg (show ¬ ((5 * m + 1) % 5 = 3) by omega), if_neg (show ¬ ((5 * m + 2) % 5 = 3) by omega), if_pos (show (5 * m + 3) % 5 = 3 by omega), if_neg (show ¬ ((5 * m + 4) % 5 = 3) by omega)]
      simp only [Int32.add_zero]
    · rw [if_neg (show ¬ ((5 * m) % 5 = 4) by omega), if_neg (show ¬ ((5 * m + 1) % 5 = 4) by omega), if_neg (show ¬ ((5 * m + 2) % 5 = 4) by omega), if_neg (show ¬ ((5 * m + 3) % 5 = 4) by omega), if_pos (show (5 * m + 4) % 5 = 4 by omega)]
      simp only [Int32.add_zero]
/-- ALL GOODS grow older, on both sides -/
theorem ages_ok {C D : St} {t n d : Nat} (hR : RT C D 0 89 0) (hW : WTn C 0 t n d) (ht : t ≤ 600) : ∃ C' D', L_Dy_pass_71 3000 0 C = some C' ∧ L_Md_liveDay_64 3000 0 D = some D' ∧ RT C' D' 0 89 0 ∧ WTn C' 0 t n d ∧ (∀ j, j ≠ 8 → j ≠ 9 → j ≠ 11 → C' j = C j) ∧ (∀ j, j ≠ 89 → D' j = D j) := by
  obtain ⟨hn, h1, -, -⟩ := hW.n0
  have hd1 : D 89 2163 = nI n := by rw [← h1]; exact (rt_n hR).1.symm
  have lw : ∀ g, g < 5 → D 89 (1308 + (11 * g + 0)) = C 11 (11 * g) := fun g hg => (rt_w hR (show 11 * g + 0 < 55 by omega)).symm
  have le : ∀ g, g < 5 → lifD D g = lif C g := fun g hg => by unfold lifD lif; rw [lw g hg]
  have hl : ∀ g, g < 5 → D 89 (1308 + (11 * g + 0)) = nI (lifD D g) ∧ lifD D g ≤ 9 := fun g hg => by
    rw [le g hg, lw g hg]; exact hW.life hg
  have pe : ∀ p, p < 60 → ∀ k, k < 10 → pil C p k = pilD D p k := fun p hp k hk => by
    unfold pil pilD
    rw [Nat.add_assoc, ← rt_p hR (show 10 * p + k < 600 by omega)]
  obtain ⟨C', c1, c2, c3, c4, c5⟩ := v_age_l ht hW 5 0 3000 C (by omega) (by omega) hW (fun i => by unfold fa8; rw [if_neg (by omega)]) (fun x => by unfold fa11; rw [if_neg (by omega)]) (fun _ _ _ _ => rfl)
  obtain ⟨D', d1, d2, d3⟩ := m_out_l hn hd1 hl n 0 3000 D (by omega) (by omega) (fun i => by
    unfold fD
    rw [if_neg (by omega)]
    split
    · rw [show si (goP D ((i - 1308) / 11)) (5 * 0) = 0 from rfl, Int32.add_zero]
    · rfl) (fun _ _ => rfl)
  refine ⟨C', D', c1, d1, ?_, c2, c5, d3⟩
  have kd : ∀ i, (i < 60 ∨ (660 ≤ i ∧ i < 1308) ∨ 1363 ≤ i) → D' 89 i = D 89 i := fun i hi => by
    rw [d2]
    unfold fD
    rw [if_neg (by omega), if_neg (by omega)]
  have z0 : ∀ p, 5 * n ≤ p → p < 60 → ∀ k, k < 10 → pil C p k = 0 := fun p h1 h2 k hk => hW.ps.2.1 _ (by omega) (by omega)
  unfold RT at hR ⊢
  simp only [Nat.zero_add] at hR ⊢
  rw [c5 1 (by omega) (by omega) (by omega), c5 2 (by omega) (by omega) (by omega), c5 3 (by omega) (by omega) (by omega), c5 4 (by omega) (by omega) (by omega), c5 5 (by omega) (by omega) (by omega), c5 6 (by omega) (by omega) (by omega), c5 13 (by omega) (by omega) (by omega), c5 14 (by omega) (by omega) (by omega), c5 15 (by omega) (by omega) (by omega), c5 16 (by omega) (by omega) (by omega), kd 2163 (by omega), kd 2164 (by omega), kd 2165 (by omega), kd 2166 (by omega), kd 2167 (by omega), kd 2168 (by omega)]
  obtain ⟨r1, rA, rP, rR, rW, rL, rB⟩ := hR
  refine ⟨r1, fun a ha => ?_, fun i hi => ?_, fun i hi => ?_, fun i hi => ?_, fun i hi hq => ?_, fun i hi => ?_⟩
  · rw [kd _ (by omega), kd _ (by omega), kd _ (by omega), kd _ (by omega), kd _ (by omega)]; exact rA a ha
  · rw [c3, d2]
    unfold fa8 fD
    rw [if_pos (by omega)]
    by_cases hin : i < 10 * (5 * n)
    · rw [if_pos (by omega), show 60 + i - 60 = i by omega, le _ (by omega)]
      exact (ag_congr (pe (i / 10) (by omega)) (by omega)).1
    · rw [if_neg (by omega), if_neg (by omega), ← rP i hi]
      have z := z0 (i / 10) (by omega) (by omega)
      have : C 8 i = 0 := by
        have := z (i % 10) (by omega)
        unfold pil at this
        rw [show 10 * (i / 10) + i % 10 = i by omega] at this
        exact this
      rw [this]
      unfold agF shF
      split
      · rfl
      · split
        · rw [z 9 (by omega), z 8 (by omega)]; rfl
        · split
          · rfl
          · exact z _ (by omega)
  · rw [kd _ (by omega)]; exact rR i hi
  · rw [c4, d2]
    unfold fa11 fD
    rw [if_neg (show ¬ (60 ≤ 1308 + i ∧ 1308 + i < 60 + 10 * (5 * n)) by omega), show 1308 + i - 1308 = i by omega]
    by_cases h6 : i % 11 = 6
    · rw [if_pos (by omega), if_pos (by omega), rW i hi]
      refine congrArg _ ?_
      have hg : i / 11 < 5 := by omega
      have e1 := si5 (h := fun p => si (goF (lifD D (i / 11)) (pilD D p)) 10) hg n
      have e2 : si (goP D (i / 11)) (5 * n) = si (fun p => if p % 5 = i / 11 then si (goF (lifD D (i / 11)) (pilD D p)) 10 else 0) (5 * n) := rfl
      rw [e2, e1]
      unfold tot
      have e3 := si_more (f := fun a => si (goF (lif C (i / 11)) (pil C (5 * a + i / 11))) 10) (n := n) (12 - n) (fun a h1 h2 => si_zero 10 (fun k hk => by
        have z := z0 (5 * a + i / 11) (by omega) (by omega)
        unfold goF shF
        split
        · split
          · rw [z 9 (by omega), z 8 (by omega)]; rfl
          · split
            · rfl
            · exact z _ (by omega)
        · rfl))
      rw [show n + (12 - n) = 12 by omega] at e3
      rw [e3]
      refine si_congr n (fun a ha => ?_)
      rw [le _ hg]
      exact go_congr (pe _ (by omega))
    · rw [if_neg (by omega), if_neg (by omega)]; exact rW i hi
  · rw [kd _ (by omega)]; exact rL i hi hq
  · rw [kd _ (by omega)]; exact rB i hi
