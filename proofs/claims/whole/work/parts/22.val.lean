theorem l0 : (0 : Int32) = nI 0 := rfl
theorem l1 : (1 : Int32) = nI 1 := rfl
theorem l2 : (2 : Int32) = nI 2 := rfl
theorem l3 : (3 : Int32) = nI 3 := rfl
theorem l4 : (4 : Int32) = nI 4 := rfl
theorem l5 : (5 : Int32) = nI 5 := rfl
theorem l6 : (6 : Int32) = nI 6 := rfl
theorem l7 : (7 : Int32) = nI 7 := rfl
theorem l8 : (8 : Int32) = nI 8 := rfl
theorem l9 : (9 : Int32) = nI 9 := rfl
theorem l10 : (10 : Int32) = nI 10 := rfl
theorem l11 : (11 : Int32) = nI 11 := rfl
theorem l12 : (12 : Int32) = nI 12 := rfl
theorem l13 : (13 : Int32) = nI 13 := rfl
theorem l14 : (14 : Int32) = nI 14 := rfl
theorem l15 : (15 : Int32) = nI 15 := rfl
theorem l16 : (16 : Int32) = nI 16 := rfl
theorem l17 : (17 : Int32) = nI 17 := rfl
theorem l18 : (18 : Int32) = nI 18 := rfl
theorem l19 : (19 : Int32) = nI 19 := rfl
theorem l20 : (20 : Int32) = nI 20 := rfl
theorem l21 : (21 : Int32) = nI 21 := rfl
theorem l22 : (22 : Int32) = nI 22 := rfl
theorem l23 : (23 : Int32) = nI 23 := rfl
theorem l24 : (24 : Int32) = nI 24 := rfl
theorem l25 : (25 : Int32) = nI 25 := rfl
theorem l26 : (26 : Int32) = nI 26 := rfl
theorem l27 : (27 : Int32) = nI 27 := rfl
theorem l28 : (28 : Int32) = nI 28 := rfl
theorem l29 : (29 : Int32) = nI 29 := rfl
theorem l30 : (30 : Int32) = nI 30 := rfl
theorem l31 : (31 : Int32) = nI 31 := rfl
theorem l32 : (32 : Int32) = nI 32 := rfl
theorem l33 : (33 : Int32) = nI 33 := rfl
theorem l34 : (34 : Int32) = nI 34 := rfl
theorem l35 : (35 : Int32) = nI 35 := rfl
theorem l36 : (36 : Int32) = nI 36 := rfl
theorem l37 : (37 : Int32) = nI 37 := rfl
theorem l38 : (38 : Int32) = nI 38 := rfl
theorem l39 : (39 : Int32) = nI 39 := rfl
theorem l40 : (40 : Int32) = nI 40 := rfl
theorem l41 : (41 : Int32) = nI 41 := rfl
theorem l42 : (42 : Int32) = nI 42 := rfl
theorem l43 : (43 : Int32) = nI 43 := rfl
theorem l44 : (44 : Int32) = nI 44 := rfl
theorem l45 : (45 : Int32) = nI 45 := rfl
theorem l46 : (46 : Int32) = nI 46 := rfl
theorem l47 : (47 : Int32) = nI 47 := rfl
theorem l48 : (48 : Int32) = nI 48 := rfl
theorem l49 : (49 : Int32) = nI 49 := rfl
theorem l50 : (50 : Int32) = nI 50 := rfl
theorem l51 : (51 : Int32) = nI 51 := rfl
theorem l52 : (52 : Int32) = nI 52 := rfl
theorem l53 : (53 : Int32) = nI 53 := rfl
theorem l54 : (54 : Int32) = nI 54 := rfl
theorem l55 : (55 : Int32) = nI 55 := rfl
theorem l56 : (56 : Int32) = nI 56 := rfl
theorem l57 : (57 : Int32) = nI 57 := rfl
theorem l58 : (58 : Int32) = nI 58 := rfl
theorem l59 : (59 : Int32) = nI 59 := rfl
theorem l60 : (60 : Int32) = nI 60 := rfl
theorem l72 : (72 : Int32) = nI 72 := rfl
theorem l75 : (75 : Int32) = nI 75 := rfl
theorem l80 : (80 : Int32) = nI 80 := rfl
theorem l90 : (90 : Int32) = nI 90 := rfl
theorem l99 : (99 : Int32) = nI 99 := rfl
theorem l100 : (100 : Int32) = nI 100 := rfl
theorem l255 : (255 : Int32) = nI 255 := rfl
theorem l600 : (600 : Int32) = nI 600 := rfl
theorem l648 : (648 : Int32) = nI 648 := rfl
theorem l660 : (660 : Int32) = nI 660 := rfl
theorem l700 : (700 : Int32) = nI 700 := rfl
theorem l720 : (720 : Int32) = nI 720 := rfl
theorem l999 : (999 : Int32) = nI 999 := rfl
theorem l1000 : (1000 : Int32) = nI 1000 := rfl
theorem l1308 : (1308 : Int32) = nI 1308 := rfl
theorem l1363 : (1363 : Int32) = nI 1363 := rfl
theorem l1443 : (1443 : Int32) = nI 1443 := rfl
theorem l2163 : (2163 : Int32) = nI 2163 := rfl
theorem l2164 : (2164 : Int32) = nI 2164 := rfl
theorem l2165 : (2165 : Int32) = nI 2165 := rfl
theorem l2166 : (2166 : Int32) = nI 2166 := rfl
theorem l2167 : (2167 : Int32) = nI 2167 := rfl
theorem l2168 : (2168 : Int32) = nI 2168 := rfl
theorem l2200 : (2200 : Int32) = nI 2200 := rfl
theorem l6600 : (6600 : Int32) = nI 6600 := rfl
theorem l9999 : (9999 : Int32) = nI 9999 := rfl
theorem l65536 : (65536 : Int32) = nI 65536 := rfl
theorem v_all {a g : Nat} {C : St} (ha : a < 12) (hg : g < 5) : f_Sk_all (nI a) (nI g) C = some (C 9 (5 * a + g)) := by
  have e : (nI a * 5) + nI g = nI (5 * a + g) := by
    rw [l5]
    simp only [pk_mul, nI_add]
    exact congrArg nI (by omega)
  unfold f_Sk_all
  rw [e, if_pos (inb_t (by omega) (by omega)), nI_clamp (by omega)]
theorem v_ofAge {a g k : Nat} {C : St} (ha : a < 12) (hg : g < 5) (hk : k < 10) : f_Sk_ofAge (nI a) (nI g) (nI k) C = some (C 8 (10 * (5 * a + g) + k)) := by
  have e : (((nI a * 5) + nI g) * 10) + nI k = nI (10 * (5 * a + g) + k) := by
    rw [l5, l10]
    simp only [pk_mul, nI_add]
    exact congrArg nI (by omega)
  unfold f_Sk_ofAge
  rw [e, if_pos (inb_t (by omega) (by omega)), nI_clamp (by omega)]
theorem v_wget {g k : Nat} {C : St} (hg : g < 5) (hk : k < 11) : f_Wr_get (nI g) (nI k) C = some (C 11 (11 * g + k)) := by
  have e : (nI g * 11) + nI k = nI (11 * g + k) := by
    rw [l11]
    simp only [pk_mul, nI_add]
    exact congrArg nI (by omega)
  unfold f_Wr_get
  rw [e, if_pos (inb_t (by omega) (by omega)), nI_clamp (by omega)]
theorem v_wput {g k : Nat} {C : St} (hg : g < 5) (hk : k < 11) (x : Int32) : f_Wr_put (nI g) (nI k) x C = some (mj_wr C 11 (11 * g + k) x) := by
  have e : (nI g * 11) + nI k = nI (11 * g + k) := by
    rw [l11]
    simp only [pk_mul, nI_add]
    exact congrArg nI (by omega)
  unfold f_Wr_put
  rw [e, if_pos (inb_t (by omega) (by omega)), nI_clamp (by omega)]
theorem v_winc {g k : Nat} {C : St} (hg : g < 5) (hk : k < 11) (x : Int32) : f_Wr_increase (nI g) (nI k) x C = some (mj_wr C 11 (11 * g + k) (C 11 (11 * g + k) + x)) := by
  have e : (nI g * 11) + nI k = nI (11 * g + k) := by
    rw [l11]
    simp only [pk_mul, nI_add]
    exact congrArg nI (by omega)
  unfold f_Wr_increase
  rw [e, if_pos (inb_t (by omega) (by omega)), nI_clamp (by omega)]
theorem v_lget {i k : Nat} {C : St} (hi : i < 20) (hk : k < 4) : f_Ln_get (nI i) (nI k) C = some (C 16 (4 * i + k)) := by
  have e : (nI i * 4) + nI k = nI (4 * i + k) := by
    rw [l4]
    simp only [pk_mul, nI_add]
    exact congrArg nI (by omega)
  unfold f_Ln_get
  rw [e, if_pos (inb_t (by omega) (by omega)), nI_clamp (by omega)]
theorem m_kind {a : Nat} {D : St} (ha : a < 12) : f_Md_kind (nI a) D = some (D 89 (5 * a)) := by
  have e : 0 + (5 * nI a) = nI (5 * a) := by
    rw [l0, l5]
    simp only [pk_mul, nI_add]
    exact congrArg nI (by omega)
  unfold f_Md_kind
  rw [e, if_pos (inb_t (by omega) (by omega)), nI_clamp (by omega)]
theorem m_cash {a : Nat} {D : St} (ha : a < 12) : f_Md_cash (nI a) D = some (D 89 (5 * a + 1)) := by
  have e : (0 + (5 * nI a)) + 1 = nI (5 * a + 1) := by
    rw [l0, l1, l5]
    simp only [pk_mul, nI_add]
    exact congrArg nI (by omega)
  unfold f_Md_cash
  rw [e, if_pos (inb_t (by omega) (by omega)), nI_clamp (by omega)]
theorem m_ruleMany {a : Nat} {D : St} (ha : a < 12) : f_Md_ruleMany (nI a) D = some (D 89 (5 * a + 4)) := by
  have e : (0 + (5 * nI a)) + 4 = nI (5 * a + 4) := by
    rw [l0, l4, l5]
    simp only [pk_mul, nI_add]
    exact congrArg nI (by omega)
  unfold f_Md_ruleMany
  rw [e, if_pos (inb_t (by omega) (by omega)), nI_clamp (by omega)]
theorem m_isBroke {a : Nat} {D : St} (ha : a < 12) : f_Md_isBroke (nI a) D = some (if D 89 (5 * a + 2) = 1 then 1 else 0) := by
  have e : (0 + (5 * nI a)) + 2 = nI (5 * a + 2) := by
    rw [l0, l2, l5]
    simp only [pk_mul, nI_add]
    exact congrArg nI (by omega)
  unfold f_Md_isBroke
  rw [e, if_pos (inb_t (by omega) (by omega)), nI_clamp (by omega)]
theorem m_goodIs {g k : Nat} {D : St} (hg : g < 5) (hk : k < 11) : f_Md_goodIs (nI g) (nI k) D = some (D 89 (1308 + (11 * g + k))) := by
  have e : (1308 + (11 * nI g)) + nI k = nI (1308 + (11 * g + k)) := by
    rw [l11, l1308]
    simp only [pk_mul, nI_add]
    exact congrArg nI (by omega)
  unfold f_Md_goodIs
  rw [e, if_pos (inb_t (by omega) (by omega)), nI_clamp (by omega)]
theorem m_addGood {g k : Nat} {D : St} (hg : g < 5) (hk : k < 11) (x : Int32) : f_Md_addGood (nI g) (nI k) x D = some (mj_wr D 89 (1308 + (11 * g + k)) (D 89 (1308 + (11 * g + k)) + x)) := by
  have e : (1308 + (11 * nI g)) + nI k = nI (1308 + (11 * g + k)) := by
    rw [l11, l1308]
    simp only [pk_mul, nI_add]
    exact congrArg nI (by omega)
  unfold f_Md_addGood
  rw [e, if_pos (inb_t (by omega) (by omega)), nI_clamp (by omega)]
theorem m_ruleIs {a k i : Nat} {D : St} (ha : a < 12) (hk : k < 6) (hi : i < 9) : f_Md_ruleIs (nI a) (nI k) (nI i) D = some (D 89 (660 + (9 * (6 * a + k) + i))) := by
  have e : (660 + (9 * ((6 * nI a) + nI k))) + nI i = nI (660 + (9 * (6 * a + k) + i)) := by
    rw [l6, l9, l660]
    simp only [pk_mul, nI_add]
    exact congrArg nI (by omega)
  unfold f_Md_ruleIs
  rw [e, if_pos (inb_t (by omega) (by omega)), nI_clamp (by omega)]
theorem v_rget {a k i : Nat} {C : St} (ha : a < 12) (hk : k < 6) (hi : i < 9) : f_Rl_get (nI a) (nI k) (nI i) C = some (C 14 (9 * (6 * a + k) + i)) := by
  have e : (((nI a * 6) + nI k) * 9) + nI i = nI (9 * (6 * a + k) + i) := by
    rw [l6, l9]
    simp only [pk_mul, nI_add]
    exact congrArg nI (by omega)
  unfold f_Rl_get f_Rl_start
  rw [bd1_s, e, if_pos (inb_t (by omega) (by omega)), nI_clamp (by omega)]
theorem v_entry {a b r : Nat} : f_Tw_entry (nI a) (nI b) (nI r) = some (nI (5 * (12 * a + b) + r)) := by
  unfold f_Tw_entry
  rw [l12, l5]
  simp only [pk_mul, nI_add]
  exact congrArg some (congrArg nI (by omega))
theorem m_ageAt {a g k : Nat} : f_Md_ageAt (nI a) (nI g) (nI k) = some (nI (60 + (10 * (5 * a + g) + k))) := by
  unfold f_Md_ageAt
  rw [l60, l10, l5]
  simp only [pk_mul, nI_add]
  exact congrArg some (congrArg nI (by omega))
theorem v_bring {a g : Nat} {C : St} (ha : a < 12) (hg : g < 5) (x : Int32) : f_Sk_bring (nI a) (nI g) x C = some (mj_wr (mj_wr C 8 (10 * (5 * a + g)) (C 8 (10 * (5 * a + g)) + x)) 9 (5 * a + g) (C 9 (5 * a + g) + x)) := by
  have e : (nI a * 5) + nI g = nI (5 * a + g) := by
    rw [l5]
    simp only [pk_mul, nI_add]
    exact congrArg nI (by omega)
  have e2 : nI (5 * a + g) * 10 = nI (10 * (5 * a + g)) := by
    rw [l10, pk_mul]
    exact congrArg nI (by omega)
  unfold f_Sk_bring
  rw [e, e2, if_pos (inb_t (by omega) (by omega)), if_pos (inb_t (by omega) (by omega)), nI_clamp (by omega), nI_clamp (by omega), wr_cell C _ (by omega)]
/-- sums of machine numbers -/
def si (f : Nat → Int32) : Nat → Int32
  | 0 => 0
  | n + 1 => si f n + f n
theorem si_congr {f g : Nat → Int32} : ∀ (n : Nat), (∀ i, i < n → f i = g i) → si f n = si g n
  | 0, _ => rfl
  | n + 1, h => by
    show si f n + f n = si g n + g n
    rw [si_congr n (fun i hi => h i (by omega)), h n (by omega)]
theorem add_toInt {x y : Int32} (h1 : -2147483648 ≤ x.toInt + y.toInt) (h2 : x.toInt + y.toInt ≤ 2147483647) : (x + y).toInt = x.toInt + y.toInt := by
  rw [Int32.toInt_add]
  exact Int.bmod_eq_of_le (by omega) (by omega)
theorem sub_toInt {x y : Int32} (h1 : -2147483648 ≤ x.toInt - y.toInt) (h2 : x.toInt - y.toInt ≤ 2147483647) : (x - y).toInt = x.toInt - y.toInt := by
  rw [Int32.toInt_sub]
  exact Int.bmod_eq_of_le (by omega) (by omega)
theorem mul_toInt {x y : Int32} (h1 : -2147483648 ≤ x.toInt * y.toInt) (h2 : x.toInt * y.toInt ≤ 2147483647) : (x * y).toInt = x.toInt * y.toInt := by
  rw [Int32.toInt_mul]
  exact Int.bmod_eq_of_le (by omega) (by omega)
theorem si_toInt {f : Nat → Int32} : ∀ (n : Nat), (∀ i, i < n → 0 ≤ (f i).toInt) → sm (fun i => (f i).toInt) n ≤ 2147483647 → (si f n).toInt = sm (fun i => (f i).toInt) n
  | 0, _, _ => by
    show (0 : Int32).toInt = 0
    rfl
  | n + 1, h, hb => by
    have hb' : sm (fun i => (f i).toInt) n + (f n).toInt ≤ 2147483647 := hb
    have h0 := h n (by omega)
    have h1 := sm_nonneg (f := fun i => (f i).toInt) n (fun i hi => h i (by omega))
    have ih := si_toInt n (fun i hi => h i (by omega)) (by omega)
    show (si f n + f n).toInt = sm (fun i => (f i).toInt) n + (f n).toInt
    rw [add_toInt (by omega) (by omega), ih]
theorem m_hasAll_loop {a g : Nat} {D : St} (ha : a < 12) (hg : g < 5) : ∀ (m k n : Nat), k + m = 10 → m < n → L_Md_hasAll_5 n (nI a) (nI g) (si (fun j => D 89 (60 + (10 * (5 * a + g) + j))) k) (nI k) D = some (si (fun j => D 89 (60 + (10 * (5 * a + g) + j))) 10)
  | 0, k, n + 1, hk, hn => by
    obtain rfl : k = 10 := by omega
    unfold L_Md_hasAll_5
    rw [if_pos (by decide)]
  | m + 1, k, n + 1, hk, hn => by
    unfold L_Md_hasAll_5
    rw [if_neg (by rw [l10]; exact nI_ge (by omega) (by omega)), m_ageAt, bd1_s, if_pos (inb_t (by omega) (by omega)), nI_clamp (by omega), nI_1]
    exact m_hasAll_loop ha hg m (k + 1) n (by omega) (by omega)
theorem m_hasAll {a g : Nat} {D : St} (ha : a < 12) (hg : g < 5) : f_Md_hasAll (nI a) (nI g) D = some (si (fun j => D 89 (60 + (10 * (5 * a + g) + j))) 10) := by
  unfold f_Md_hasAll
  have h := m_hasAll_loop (D := D) ha hg 10 0 3000 rfl (by omega)
  have e : (0 : Int32) = nI 0 := rfl
  rw [show L_Md_hasAll_5 3000 (nI a) (nI g) 0 0 D = _ from h, bd1_s]
/-- the sum at hand is the sum -/
theorem all_hasAll {C D : St} {t n d a g : Nat} (hR : RT C D 0 89 0) (hW : WTn C 0 t n d) (ht : t ≤ 600) (ha : a < 12) (hg : g < 5) : f_Md_hasAll (nI a) (nI g) D = some (C 9 (5 * a + g)) := by
  obtain ⟨hS, h2, h3, h4, h5, h6, ⟨h7, h7', h7''⟩, h8, h9⟩ := hW
  rw [m_hasAll ha hg]
  have e1 : si (fun j => D 89 (60 + (10 * (5 * a + g) + j))) 10 = si (fun j => C 8 (10 * (5 * a + g) + j)) 10 := si_congr 10 fun i hi => by
    have := hR.2.2.1 (10 * (5 * a + g) + i) (by omega)
    simp only [Nat.zero_add] at this
    exact this.symm
  have hp := h8 (5 * a + g) (by omega)
  simp only [Nat.zero_add] at hp h7 h7''
  have e3 : sm (fun i => (C 8 i).toInt) (10 * (5 * a + g) + (10 + (590 - 10 * (5 * a + g)))) ≤ 999 * t + 71928 * d := by
    rw [show 10 * (5 * a + g) + (10 + (590 - 10 * (5 * a + g))) = 600 by omega]
    exact h7''
  rw [sm_add, sm_add] at e3
  have q1 := sm_nonneg (f := fun i => (C 8 i).toInt) (10 * (5 * a + g)) (fun i hi => h7 i (by omega))
  have q2 := sm_nonneg (f := fun i => (C 8 (10 * (5 * a + g) + (10 + i))).toInt) (590 - 10 * (5 * a + g)) (fun i hi => h7 _ (by omega))
  have hd : d ≤ 700 := hS.2.2.1
  rw [e1]
  refine congrArg some (Int32.toInt_inj.mp ?_)
  rw [hp, si_toInt 10 (fun i hi => h7 _ (by omega)) (by omega)]
