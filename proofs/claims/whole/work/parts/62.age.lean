/-! PURE: a day: goods grow older -/
def shF (f : Nat → Int32) (k : Nat) : Int32 := if k = 9 then f 9 + f 8 else if k = 0 then 0 else f (k - 1)
def agF (L : Nat) (f : Nat → Int32) (k : Nat) : Int32 := if 0 < L ∧ L ≤ k then 0 else shF f k
def goF (L : Nat) (f : Nat → Int32) (k : Nat) : Int32 := if 0 < L ∧ L ≤ k then shF f k else 0
theorem v_sh_l {p : Nat} (hp : p < 60) : ∀ (k f : Nat) (C : St), k ≤ 8 → k < f → ∃ C', L_Sk_shiftAges_28 f (nI (10 * p)) (nI (10 * p + k)) C = some C' ∧ (∀ i, C' 8 i = if 10 * p + 1 ≤ i ∧ i ≤ 10 * p + k then C 8 (i - 1) else C 8 i) ∧ ∀ j, j ≠ 8 → C' j = C j
  | 0, f + 1, C, _, _ => by
    refine ⟨C, ?_, fun i => by rw [if_neg (by omega)], fun _ _ => rfl⟩
    rw [L_Sk_shiftAges_28, if_pos (by rw [nI_leI (by omega) (by omega)]; omega)]
  | k + 1, f + 1, C, hk, hf => by
    obtain ⟨C', e1, e2, e3⟩ := v_sh_l hp k f (mj_wr C 8 (10 * p + (k + 1)) (C 8 (10 * p + k))) (by omega) (by omega)
    refine ⟨C', ?_, fun i => ?_, fun j hj => by rw [e3 j hj, wr_row _ _ hj]⟩
    · rw [L_Sk_shiftAges_28, if_neg (by rw [nI_leI (by omega) (by omega)]; omega), nI_m1 (by omega), if_pos (inb_t (by omega) (by omega)), if_pos (inb_t (by omega) (by omega)), nI_clamp (by omega), nI_clamp (by omega), show 10 * p + (k + 1) = (10 * p + k) + 1 by omega, pk_m1, show 10 * p + k + 1 - 1 = 10 * p + k by omega]
      exact e1
    · rw [e2]
      by_cases h : i = 10 * p + (k + 1)
      · subst h
        rw [if_neg (by omega), wr_same, if_pos (by omega)]
        exact congrArg (C 8) (by omega)
      · by_cases h2 : 10 * p + 1 ≤ i ∧ i ≤ 10 * p + k
        · rw [if_pos h2, if_pos (by omega), wr_idx _ _ (by omega)]
        · rw [if_neg h2, if_neg (by omega), wr_idx _ _ h]
theorem v_sh {C : St} {p : Nat} (hp : p < 60) : ∃ C', f_Sk_shiftAges (nI (10 * p)) C = some C' ∧ (∀ i, C' 8 i = if 10 * p ≤ i ∧ i < 10 * p + 10 then shF (fun k => C 8 (10 * p + k)) (i - 10 * p) else C 8 i) ∧ ∀ j, j ≠ 8 → C' j = C j := by
  obtain ⟨C1, e1, e2, e3⟩ := v_sh_l hp 8 3000 (mj_wr C 8 (10 * p + 9) (C 8 (10 * p + 9) + C 8 (10 * p + 8))) (by omega) (by omega)
  refine ⟨mj_wr C1 8 (10 * p) 0, ?_, fun i => ?_, fun j hj => by rw [wr_row _ _ hj, e3 j hj, wr_row _ _ hj]⟩
  · unfold f_Sk_shiftAges
    rw [l10, nI_add, nI_m1 (by omega), nI_m1 (by omega), show 10 * p + 10 - 1 = 10 * p + 9 by omega, show 10 * p + 9 - 1 = 10 * p + 8 by omega, if_pos (inb_t (by omega) (by omega)), if_pos (inb_t (by omega) (by omega)), nI_clamp (by omega), nI_clamp (by omega), e1, bd1_s, if_pos (inb_t (by omega) (by omega)), nI_clamp (by omega)]
  · rw [wr_at, e2]
    unfold shF
    by_cases h0 : i = 10 * p
    · subst h0
      rw [if_pos rfl, if_pos (by omega), if_neg (by omega), if_pos (by omega)]
    · rw [if_neg h0]
      by_cases h1 : 10 * p + 1 ≤ i ∧ i ≤ 10 * p + 8
      · rw [if_pos h1, if_pos (by omega), if_neg (by omega), if_neg (by omega), wr_idx _ _ (by omega)]
        exact congrArg (C 8) (by omega)
      · rw [if_neg h1]
        by_cases h9 : i = 10 * p + 9
        · subst h9
          rw [wr_same, if_pos (by omega), if_pos (by omega)]
        · rw [wr_idx _ _ h9, if_neg (by omega)]
theorem v_tk_l {p L : Nat} {C4 : St} (hp : p < 60) (hL : L ≤ 9) : ∀ (m k f : Nat) (C : St), k + m = 10 → m < f → L ≤ k → (∀ i, C 8 i = if 10 * p + L ≤ i ∧ i < 10 * p + k then 0 else C4 8 i) → (∀ j, j ≠ 8 → C j = C4 j) → ∃ C', L_Sk_takeFromAge_5 f (nI (10 * p)) (si (fun j => if L ≤ j then C4 8 (10 * p + j) else 0) k) (nI k) C = some (si (fun j => if L ≤ j then C4 8 (10 * p + j) else 0) 10, C') ∧ (∀ i, C' 8 i = if 10 * p + L ≤ i ∧ i < 10 * p + 10 then 0 else C4 8 i) ∧ ∀ j, j ≠ 8 → C' j = C4 j
  | 0, k, f + 1, C, hk, _, _, e, g => by
    obtain rfl : k = 10 := by omega
    exact ⟨C, by rw [L_Sk_takeFromAge_5, if_pos (by decide)], e, g⟩
  | m + 1, k, f + 1, C, hk, hf, hLk, e, g => by
    have c : C 8 (10 * p + k) = C4 8 (10 * p + k) := by rw [e, if_neg (by omega)]
    rw [L_Sk_takeFromAge_5, if_neg (by rw [l10, nI_leI (by omega) (by omega)]; omega), nI_add, if_pos (inb_t (by omega) (by omega)), nI_clamp (by omega), c, l1, nI_add]
    have := v_tk_l (C4 := C4) hp hL m (k + 1) f (mj_wr C 8 (10 * p + k) 0) (by omega) (by omega) (by omega) (fun i => by
      rw [wr_at, e]
      by_cases h : i = 10 * p + k
      · rw [if_pos h, if_pos (by omega)]
      · rw [if_neg h]
        by_cases h2 : 10 * p + L ≤ i ∧ i < 10 * p + k
        · rw [if_pos h2, if_pos (by omega)]
        · rw [if_neg h2, if_neg (by omega)]) (fun j hj => by rw [wr_row _ _ hj, g j hj])
    rw [si_s, if_pos hLk] at this
    exact this
theorem si_zero {f : Nat → Int32} : ∀ (n : Nat), (∀ i, i < n → f i = 0) → si f n = 0
  | 0, _ => rfl
  | n + 1, h => by rw [si_s, si_zero n (fun i hi => h i (by omega)), h n (by omega)]; rfl
theorem i_zadd (x : Int32) : x - 0 = x := Int32.sub_zero x
/-- one pile -/
theorem v_gr1 {C : St} {g L a : Nat} (hg : g < 5) (hL : L ≤ 9) (ha : a < 12) (h9 : (C 9 (5 * a + g)).toInt = sm (fun k => (C 8 (10 * (5 * a + g) + k)).toInt) 10) (h8 : ∀ k, k < 10 → 0 ≤ (C 8 (10 * (5 * a + g) + k)).toInt) (y3 : Int32) (f : Nat) : ∃ C', L_Sk_grow_5 (f + 1) (nI g) (nI L) y3 (nI a) C = L_Sk_grow_5 f (nI g) (nI L) (y3 + si (goF L (fun k => C 8 (10 * (5 * a + g) + k))) 10) (nI (a + 1)) C' ∧ (∀ i, C' 8 i = if 10 * (5 * a + g) ≤ i ∧ i < 10 * (5 * a + g) + 10 then agF L (fun k => C 8 (10 * (5 * a + g) + k)) (i - 10 * (5 * a + g)) else C 8 i) ∧ C' 9 = up (C 9) (5 * a + g) (C 9 (5 * a + g) - si (goF L (fun k => C 8 (10 * (5 * a + g) + k))) 10) ∧ ∀ j, j ≠ 8 → j ≠ 9 → C' j = C j := by
  have e5 : (nI a * 5) + nI g = nI (5 * a + g) := ag_at
  have head : L_Sk_grow_5 (f + 1) (nI g) (nI L) y3 (nI a) C = bd2 (if (C 9 (5 * a + g)) ≤ 0 then some (y3, C) else bd1 (f_Sk_shiftAges (nI (10 * (5 * a + g))) C) fun C4 => bd2 (if nI L ≤ 0 then some (0, C4) else bd2 (f_Sk_takeFromAge (nI (10 * (5 * a + g))) (nI L) C4) fun v7 C8 => some (v7, C8)) fun (w10 : Int32) (C11 : St) => some (y3 + w10, mj_wr C11 9 (5 * a + g) ((C11 9 (5 * a + g)) - w10))) fun (w15 : Int32) (C16 : St) => L_Sk_grow_5 f (nI g) (nI L) w15 (nI (a + 1)) C16 := by
    rw [L_Sk_grow_5, if_neg (by rw [l12, nI_leI (by omega) (by omega)]; omega), e5, if_pos (inb_t (by omega) (by omega)), nI_clamp (by omega), show nI (5 * a + g) * 10 = nI (10 * (5 * a + g)) by rw [l10, pk_mul]; exact congrArg nI (by omega), l1, nI_add]
  rw [head]
  by_cases hz : C 9 (5 * a + g) ≤ 0
  · rw [Int32.le_iff_toInt_le, Int32.toInt_zero, h9] at hz
    have z : ∀ k, k < 10 → C 8 (10 * (5 * a + g) + k) = 0 := fun k hk => by
      have q := sm_le (f := fun k => (C 8 (10 * (5 * a + g) + k)).toInt) h8 hk
      have q2 := h8 k hk
      exact Int32.toInt_inj.mp (by rw [Int32.toInt_zero]; omega)
    have zs : ∀ k, k < 10 → shF (fun k => C 8 (10 * (5 * a + g) + k)) k = 0 := fun k hk => by
      unfold shF
      split
      · dsimp only
        rw [z 9 (by omega), z 8 (by omega)]; rfl
      · split
        · rfl
        · exact z _ (by omega)
    have zg : si (goF L (fun k => C 8 (10 * (5 * a + g) + k))) 10 = 0 := si_zero 10 (fun k hk => by
      unfold goF
      rw [zs k hk]
      split <;> rfl)
    refine ⟨C, ?_, fun i => ?_, ?_, fun _ _ _ => rfl⟩
    · rw [if_pos (by rw [Int32.le_iff_toInt_le, Int32.toInt_zero, h9]; exact hz), bd2_s, zg, Int32.add_zero]
    · by_cases hi : 10 * (5 * a + g) ≤ i ∧ i < 10 * (5 * a + g) + 10
      · rw [if_pos hi]
        have zi := z (i - 10 * (5 * a + g)) (by omega)
        rw [show 10 * (5 * a + g) + (i - 10 * (5 * a + g)) = i by omega] at zi
        unfold agF
        rw [zs _ (by omega), zi]
        split <;> rfl
      · rw [if_neg hi]
    · rw [zg, Int32.sub_zero]
      funext x
      unfold up
      by_cases hx : x = 5 * a + g
      · rw [if_pos hx, hx]
      · rw [if_neg hx]
  · rw [if_neg hz]
    obtain ⟨C4, s1, s2, s3⟩ := v_sh (C := C) (p := 5 * a + g) (by omega)
    rw [s1, bd1_s]
    have c48 : ∀ k, k < 10 → C4 8 (10 * (5 * a + g) + k) = shF (fun k => C 8 (10 * (5 * a + g) + k)) k := fun k hk => by
      rw [s2, if_pos (by omega)]
      exact congrArg _ (by omega)
    have T : ∃ C11, (if nI L ≤ 0 then some (0, C4) else bd2 (f_Sk_takeFromAge (nI (10 * (5 * a + g))) (nI L) C4) fun v7 C8 => some (v7, C8)) = some (si (goF L (fun k => C 8 (10 * (5 * a + g) + k))) 10, C11) ∧ (∀ i, C11 8 i = if 10 * (5 * a + g) ≤ i ∧ i < 10 * (5 * a + g) + 10 then agF L (fun k => C 8 (10 * (5 * a + g) + k)) (i - 10 * (5 * a + g)) else C 8 i) ∧ ∀ j, j ≠ 8 → C11 j = C j := by
      by_cases hL0 : L = 0
      · subst hL0
        refine ⟨C4, ?_, fun i => ?_, s3⟩
        · rw [if_pos (by decide), show si (goF 0 (fun k => C 8 (10 * (5 * a + g) + k))) 10 = 0 from si_zero 10 (fun k _ => if_neg (by omega))]
        · rw [s2]
          unfold agF
          rw [if_neg (show ¬ (0 < 0 ∧ 0 ≤ i - 10 * (5 * a + g)) by omega)]
      · obtain ⟨C11, t1, t2, t3⟩ := v_tk_l (C4 := C4) (p := 5 * a + g) (by omega) hL (10 - L) L 3000 C4 (by omega) (by omega) (Nat.le_refl _) (fun i => by rw [if_neg (by omega)]) (fun _ _ => rfl)
        have z0 : si (fun j => if L ≤ j then C4 8 (10 * (5 * a + g) + j) else 0) L = 0 := si_zero L (fun j hj => if_neg (by omega))
        have zg : si (fun j => if L ≤ j then C4 8 (10 * (5 * a + g) + j) else 0) 10 = si (goF L (fun k => C 8 (10 * (5 * a + g) + k))) 10 := si_congr 10 (fun k hk => by
          unfold goF
          by_cases hk2 : L ≤ k
          · rw [if_pos hk2, if_pos (by omega), c48 k hk]
          · rw [if_neg hk2, if_neg (by omega)])
        rw [z0, zg] at t1
        refine ⟨C11, ?_, fun i => ?_, fun j hj => by rw [t3 j hj, s3 j hj]⟩
        · rw [if_neg (nI_gt0 (by omega) hL0).1]
          unfold f_Sk_takeFromAge
          rw [t1, bd2_s, bd2_s]
        · rw [t2]
          by_cases h1 : 10 * (5 * a + g) + L ≤ i ∧ i < 10 * (5 * a + g) + 10
          · rw [if_pos h1, if_pos (by omega)]
            unfold agF
            rw [if_pos (by omega)]
          · rw [if_neg h1, s2]
            by_cases h2 : 10 * (5 * a + g) ≤ i ∧ i < 10 * (5 * a + g) + 10
            · rw [if_pos h2, if_pos h2]
              unfold agF
              rw [if_neg (by omega)]
            · rw [if_neg h2, if_neg h2]
    obtain ⟨C11, t1, t2, t3⟩ := T
    rw [t1, bd2_s, bd2_s]
    refine ⟨_, rfl, fun i => by rw [wr_cell _ _ (by omega)]; exact t2 i, by rw [wr_up, t3 9 (by omega)], fun j h1 h2 => by rw [wr_row _ _ h2, t3 j h1]⟩
/-- a good's piles -/
def pil (C : St) (p : Nat) : Nat → Int32 := fun k => C 8 (10 * p + k)
def gr8 (C : St) (g L a i : Nat) : Int32 := if (i / 10) % 5 = g ∧ i / 50 < a then agF L (pil C (i / 10)) (i % 10) else C 8 i
def gr9 (C : St) (g L a p : Nat) : Int32 := if p % 5 = g ∧ p / 5 < a then C 9 p - si (goF L (pil C p)) 10 else C 9 p
theorem v_gr_l {C0 : St} {n B g L : Nat} (hP : PS C0 n B) (hg : g < 5) (hL : L ≤ 9) : ∀ (m a f : Nat) (C : St), a + m = 12 → m < f → (∀ i, C 8 i = gr8 C0 g L a i) → (∀ p, C 9 p = gr9 C0 g L a p) → (∀ j, j ≠ 8 → j ≠ 9 → C j = C0 j) → ∃ C', L_Sk_grow_5 f (nI g) (nI L) (si (fun a => si (goF L (pil C0 (5 * a + g))) 10) a) (nI a) C = some (si (fun a => si (goF L (pil C0 (5 * a + g))) 10) 12, C') ∧ (∀ i, C' 8 i = gr8 C0 g L 12 i) ∧ (∀ p, C' 9 p = gr9 C0 g L 12 p) ∧ (∀ j, j ≠ 8 → j ≠ 9 → C' j = C0 j)
  | 0, a, f + 1, C, ha, _, e8, e9, e => by
    obtain rfl : a = 12 := by omega
    exact ⟨C, by rw [L_Sk_grow_5, if_pos (by decide)], e8, e9, e⟩
  | m + 1, a, f + 1, C, ha, hf, e8, e9, e => by
    have hp : 5 * a + g < 60 := by omega
    have q8 : ∀ k, k < 10 → C 8 (10 * (5 * a + g) + k) = C0 8 (10 * (5 * a + g) + k) := fun k hk => by
      rw [e8]
      unfold gr8
      rw [if_neg (by omega)]
    have q9 : C 9 (5 * a + g) = C0 9 (5 * a + g) := by
      rw [e9]
      unfold gr9
      rw [if_neg (by omega)]
    obtain ⟨C1, s1, s2, s3, s4⟩ := v_gr1 (C := C) hg hL (show a < 12 by omega) (by
      rw [q9, hP.2.2.2 _ hp]
      exact sm_congr 10 (fun k hk => by rw [q8 k hk])) (fun k hk => by rw [q8 k hk]; exact hP.1 _ (by omega)) (si (fun a => si (goF L (pil C0 (5 * a + g))) 10) a) f
    have sg : ∀ k, k < 10 → shF (fun k => C 8 (10 * (5 * a + g) + k)) k = shF (pil C0 (5 * a + g)) k := fun k hk => by
      unfold shF pil
      split
      · dsimp only
        rw [q8 9 (by omega), q8 8 (by omega)]
      · split
        · rfl
        · exact q8 _ (by omega)
    have gg : si (goF L (fun k => C 8 (10 * (5 * a + g) + k))) 10 = si (goF L (pil C0 (5 * a + g))) 10 := si_congr 10 (fun k hk => by
      unfold goF
      rw [sg k hk])
    rw [gg] at s1 s3
    rw [s1]
    refine v_gr_l hP hg hL m (a + 1) f C1 (by omega) (by omega) (fun i => ?_) (fun p => ?_) (fun j h1 h2 => by rw [s4 j h1 h2, e j h1 h2])
    · rw [s2]
      by_cases h : 10 * (5 * a + g) ≤ i ∧ i < 10 * (5 * a + g) + 10
      · rw [if_pos h]
        unfold gr8
        rw [if_pos (by omega), show i / 10 = 5 * a + g by omega, show i - 10 * (5 * a + g) = i % 10 by omega]
        unfold agF
        rw [sg _ (by omega)]
      · rw [if_neg h, e8]
        unfold gr8
        by_cases h2 : (i / 10) % 5 = g ∧ i / 50 < a
        · rw [if_pos h2, if_pos (by omega)]
        · rw [if_neg h2, if_neg (by omega)]
    · rw [s3]
      unfold up
      by_cases h : p = 5 * a + g
      · rw [if_pos h, q9]
        unfold gr9
        rw [if_pos (by omega), h]
      · rw [if_neg h, e9]
        unfold gr9
        by_cases h2 : p % 5 = g ∧ p / 5 < a
        · rw [if_pos h2, if_pos (by omega)]
        · rw [if_neg h2, if_neg (by omega)]
theorem v_gr {C0 : St} {n B g L : Nat} (hP : PS C0 n B) (hg : g < 5) (hL : L ≤ 9) : ∃ C', f_Sk_grow (nI g) (nI L) C0 = some (si (fun a => si (goF L (pil C0 (5 * a + g))) 10) 12, C') ∧ (∀ i, C' 8 i = gr8 C0 g L 12 i) ∧ (∀ p, C' 9 p = gr9 C0 g L 12 p) ∧ (∀ j, j ≠ 8 → j ≠ 9 → C' j = C0 j) := by
  obtain ⟨C', s1, s2⟩ := v_gr_l hP hg hL 12 0 3000 C0 (by omega) (by omega) (fun i => by unfold gr8; rw [if_neg (by omega)]) (fun p => by unfold gr9; rw [if_neg (by omega)]) (fun _ _ _ => rfl)
  refine ⟨C', ?_, s2⟩
  unfold f_Sk_grow
  rw [show L_Sk_grow_5 3000 (nI g) (nI L) 0 0 C0 = _ from s1, bd2_s]
/-- ageing keeps what the table says -/
theorem sh_int {f : Nat → Int32} (h : ∀ k, k < 10 → 0 ≤ (f k).toInt) (hs : sm (fun k => (f k).toInt) 10 ≤ 2147483647) : (∀ k, k < 10 → 0 ≤ (shF f k).toInt) ∧ sm (fun k => (shF f k).toInt) 10 = sm (fun k => (f k).toInt) 10 := by
  have e : (f 9 + f 8).toInt = (f 9).toInt + (f 8).toInt := by
    have q8 := h 8 (by omega)
    have q9 := h 9 (by omega)
    have h7 := sm_nonneg (f := fun k => (f k).toInt) 8 (fun k hk => h k (by omega))
    have hs' : sm (fun k => (f k).toInt) 8 + (f 8).toInt + (f 9).toInt ≤ 2147483647 := hs
    exact add_toInt (by omega) (by omega)
  refine ⟨fun k hk => ?_, ?_⟩
  · unfold shF
    split
    · rw [e]; have := h 8 (by omega); have := h 9 (by omega); omega
    · split
      · decide
      · exact h _ (by omega)
  · show 0 + (shF f 0).toInt + (shF f 1).toInt + (shF f 2).toInt + (shF f 3).toInt + (shF f 4).toInt + (shF f 5).toInt + (shF f 6).toInt + (shF f 7).toInt + (shF f 8).toInt + (shF f 9).toInt = 0 + (f 0).toInt + (f 1).toInt + (f 2).toInt + (f 3).toInt + (f 4).toInt + (f 5).toInt + (f 6).toInt + (f 7).toInt + (f 8).toInt + (f 9).toInt
    rw [show shF f 0 = 0 from rfl, show shF f 1 = f 0 from rfl, show shF f 2 = f 1 from rfl, show shF f 3 = f 2 from rfl, show shF f 4 = f 3 from rfl, show shF f 5 = f 4 from rfl, show shF f 6 = f 5 from rfl, show shF f 7 = f 6 from rfl, show shF f 8 = f 7 from rfl, show shF f 9 = f 9 + f 8 from rfl, e, Int32.toInt_zero]
    omega
theorem ag_int {f : Nat → Int32} {L : Nat} (h : ∀ k, k < 10 → 0 ≤ (f k).toInt) (hs : sm (fun k => (f k).toInt) 10 ≤ 2147483647) : (∀ k, k < 10 → 0 ≤ (agF L f k).toInt) ∧ 0 ≤ (si (goF L f) 10).toInt ∧ (si (goF L f) 10).toInt ≤ sm (fun k => (f k).toInt) 10 ∧ sm (fun k => (agF L f k).toInt) 10 = sm (fun k => (f k).toInt) 10 - (si (goF L f) 10).toInt := by
  obtain ⟨s1, s2⟩ := sh_int h hs
  have g0 : ∀ k, k < 10 → 0 ≤ (goF L f k).toInt := fun k hk => by
    unfold goF
    split
    · exact s1 k hk
    · decide
  have a0 : ∀ k, k < 10 → 0 ≤ (agF L f k).toInt := fun k hk => by
    unfold agF
    split
    · decide
    · exact s1 k hk
  have sum : sm (fun k => (agF L f k).toInt + (goF L f k).toInt) 10 = sm (fun k => (shF f k).toInt) 10 := sm_congr 10 (fun k hk => by
    unfold agF goF
    by_cases c : 0 < L ∧ L ≤ k
    · rw [if_pos c, if_pos c, Int32.toInt_zero]; omega
    · rw [if_neg c, if_neg c, Int32.toInt_zero]; omega)
  rw [sm_plus, s2] at sum
  have n1 := sm_nonneg (f := fun k => (agF L f k).toInt) 10 a0
  have n2 := sm_nonneg (f := fun k => (goF L f k).toInt) 10 g0
  have t := si_toInt (f := goF L f) 10 g0 (by omega)
  exact ⟨a0, by omega, by omega, by omega⟩
theorem ps_gr {C C' : St} {n B g L : Nat} (hP : PS C n B) (hn : n ≤ 12) (hB : B < 2147483647) (e8 : ∀ i, C' 8 i = gr8 C g L 12 i) (e9 : ∀ p, C' 9 p = gr9 C g L 12 p) : PS C' n B := by
  have pb : ∀ p, p < 60 → (∀ k, k < 10 → 0 ≤ (pil C p k).toInt) ∧ sm (fun k => (pil C p k).toInt) 10 = (C 9 p).toInt ∧ (C 9 p).toInt ≤ B := fun p hp => ⟨fun k hk => hP.1 _ (by omega), (hP.2.2.2 p hp).symm, (ps_sum hP hp).2⟩
  refine PS.of (fun i hi => ?_) (fun i h1 h2 => ?_) ?_ (fun p hp => ?_)
  · rw [e8]
    unfold gr8
    obtain ⟨q1, q2, q3⟩ := pb (i / 10) (by omega)
    split
    · exact (ag_int q1 (by omega)).1 _ (by omega)
    · exact hP.1 i hi
  · rw [e8]
    unfold gr8
    split
    · have z : ∀ k, k < 10 → pil C (i / 10) k = 0 := fun k hk => hP.2.1 _ (by omega) (by omega)
      unfold agF shF
      split
      · rfl
      · split
        · rw [z 9 (by omega), z 8 (by omega)]; rfl
        · split
          · rfl
          · exact z _ (by omega)
    · exact hP.2.1 i h1 h2
  · refine Int.le_trans (sm_mono 60 (fun p hp => ?_)) hP.tot
    rw [e9]
    unfold gr9
    obtain ⟨q1, q2, q3⟩ := pb p hp
    obtain ⟨a1, a2, a3, a4⟩ := ag_int (L := L) q1 (by omega)
    split
    · rw [sub_toInt (by omega) (by omega)]; omega
    · exact Int.le_refl _
  · obtain ⟨q1, q2, q3⟩ := pb p hp
    obtain ⟨a1, a2, a3, a4⟩ := ag_int (L := L) q1 (by omega)
    rw [e9]
    unfold gr9
    by_cases c : p % 5 = g ∧ p / 5 < 12
    · rw [if_pos c, sub_toInt (by omega) (by omega), sm_congr (g := fun k => (agF L (pil C p) k).toInt) 10 (fun k hk => by
        rw [e8]
        unfold gr8
        rw [if_pos (by omega), show (10 * p + k) / 10 = p by omega, show (10 * p + k) % 10 = k by omega])]
      omega
    · rw [if_neg c, hP.2.2.2 p hp]
      exact sm_congr 10 (fun k hk => by
        rw [e8]
        unfold gr8
        rw [if_neg (by omega)])
