/-! PURE: a day: loans: a debtor breaks, on the class's side -/
def sn (f : Nat → Nat) : Nat → Nat
  | 0 => 0
  | n + 1 => sn f n + f n
theorem sn_s {f : Nat → Nat} {n : Nat} : sn f (n + 1) = sn f n + f n := rfl
theorem sn_le {f : Nat → Nat} {i : Nat} : ∀ (n : Nat), i < n → f i ≤ sn f n
  | 0, h => by omega
  | n + 1, h => by
    rw [sn_s]
    by_cases e : i = n
    · subst e; omega
    · have := sn_le (f := f) (i := i) n (by omega)
      omega
theorem sn_up {f : Nat → Nat} {i : Nat} : ∀ (n : Nat), i ≤ n → sn f i ≤ sn f n
  | 0, h => by obtain rfl : i = 0 := by omega
               exact Nat.le_refl _
  | n + 1, h => by
    by_cases e : i = n + 1
    · rw [e]; exact Nat.le_refl _
    · have := sn_up (f := f) (i := i) n (by omega)
      rw [sn_s]
      omega
theorem sn_bound {f : Nat → Nat} {B : Nat} : ∀ (n : Nat), (∀ k, k < n → f k ≤ B) → sn f n ≤ n * B
  | 0, _ => by show 0 ≤ _; omega
  | n + 1, h => by
    have h1 := sn_bound (B := B) n (fun k hk => h k (by omega))
    have h2 := h n (by omega)
    rw [sn_s, Nat.add_mul]
    omega
theorem si_sn {v : Nat → Int32} {f : Nat → Nat} : ∀ (n : Nat), (∀ k, k < n → v k = nI (f k)) → si v n = nI (sn f n)
  | 0, _ => rfl
  | n + 1, h => by
    rw [si_s, sn_s, si_sn n (fun k hk => h k (by omega)), h n (by omega), nI_add]
theorem shares {H A : Nat} (hA : 0 < A) (dd : Nat → Bool) (o : Nat → Nat) : ∀ (m : Nat), A * sn (fun k => if dd k = true then H * o k / A else 0) m ≤ H * sn (fun k => if dd k = true then o k else 0) m ∧ H * sn (fun k => if dd k = true then o k else 0) m ≤ A * sn (fun k => if dd k = true then H * o k / A else 0) m + (A - 1) * cn (fun k => dd k && decide (o k ≠ 0)) m
  | 0 => ⟨Nat.le_refl _, by show H * 0 ≤ A * 0 + (A - 1) * 0; simp⟩
  | m + 1 => by
    obtain ⟨i1, i2⟩ := shares (H := H) hA dd o m
    rw [sn_s, sn_s, cn_succ, Nat.mul_add, Nat.mul_add, Nat.mul_add]
    by_cases hd : dd m = true
    · rw [if_pos hd, if_pos hd, hd]
      have e1 := Nat.div_add_mod (H * o m) A
      have e2 := Nat.mod_lt (H * o m) hA
      by_cases ho : o m = 0
      · have hz : ¬ ((true && decide (o m ≠ 0)) = true) := by rw [ho]; decide
        rw [if_neg hz, ho, Nat.mul_zero, Nat.zero_div, Nat.mul_zero]
        omega
      · have hz : (true && decide (o m ≠ 0)) = true := by rw [decide_eq_true ho]; rfl
        rw [if_pos hz, Nat.mul_one]
        omega
    · have hf : dd m = false := by simpa using hd
      have hz : ¬ ((dd m && decide (o m ≠ 0)) = true) := by rw [hf]; simp
      rw [if_neg hd, if_neg hd, if_neg hz]
      omega
theorem shares_rest {H A : Nat} (hA : 0 < A) {dd : Nat → Bool} {o : Nat → Nat} {q : Nat} (he : sn (fun k => if dd k = true then o k else 0) q = A) (hc : 0 < cn (fun k => dd k && decide (o k ≠ 0)) q) : sn (fun k => if dd k = true then H * o k / A else 0) q ≤ H ∧ H < sn (fun k => if dd k = true then H * o k / A else 0) q + cn (fun k => dd k && decide (o k ≠ 0)) q := by
  obtain ⟨i1, i2⟩ := shares (H := H) hA dd o q
  rw [he] at i1 i2
  generalize sn (fun k => if dd k = true then H * o k / A else 0) q = S at *
  generalize cn (fun k => dd k && decide (o k ≠ 0)) q = c at *
  have l1 : S ≤ H := Nat.le_of_mul_le_mul_left (by rw [Nat.mul_comm A H]; exact i1) hA
  refine ⟨l1, ?_⟩
  apply Classical.byContradiction
  intro hne
  have l2 : A * (S + c) ≤ A * H := Nat.mul_le_mul_left A (by omega)
  rw [Nat.mul_add, Nat.mul_comm A H] at l2
  obtain ⟨B, rfl⟩ : ∃ B, A = B + 1 := ⟨A - 1, by omega⟩
  rw [show B + 1 - 1 = B from rfl] at i2
  rw [Nat.add_mul B 1 c] at l2
  omega
/-- the state without its loans -/
def Zs (C : St) : St := fun j i => if j = 15 ∨ j = 16 then 0 else C j i
def Zd (D : St) : St := fun j i => if j = 89 ∧ ((1363 ≤ i ∧ i < 1443) ∨ i = 2168) then 0 else D j i
theorem Zs_row {C : St} {j : Nat} (h : j ≠ 15) (h2 : j ≠ 16) : Zs C j = C j := by funext i; exact if_neg (by omega)
theorem Zs_z {C : St} {j : Nat} (h : j = 15 ∨ j = 16) : Zs C j = fun _ => 0 := by funext i; exact if_pos h
theorem Zd_i {D : St} {i : Nat} (h : i < 1363 ∨ 1443 ≤ i) (h2 : i ≠ 2168) : Zd D 89 i = D 89 i := if_neg (by omega)
def NLR (C D : St) : Prop := RT (Zs C) (Zd D) 0 89 0
def NLW (C : St) (t n d : Nat) : Prop := WTn (Zs C) 0 t n d
theorem Zs_same {C C' : St} (h : ∀ j, j ≠ 15 → j ≠ 16 → C' j = C j) : Zs C' = Zs C := by
  funext j i
  unfold Zs
  by_cases e : j = 15 ∨ j = 16
  · rw [if_pos e, if_pos e]
  · rw [if_neg e, if_neg e, h j (by omega) (by omega)]
theorem nlr_cash {C D C' D' : St} (h : NLR C D) (hC : ∀ j, j ≠ 3 → j ≠ 6 → j ≠ 15 → j ≠ 16 → C' j = C j) (hD1 : ∀ i, i < 60 → i % 5 ≠ 1 → D' 89 i = D 89 i) (hD2 : ∀ i, (60 ≤ i ∧ i < 1363) ∨ 2163 ≤ i → i ≠ 2168 → D' 89 i = D 89 i) (h3 : ∀ a, a < 12 → C' 3 a = D' 89 (5 * a + 1)) (h6 : ∀ i, i < 720 → C' 6 i = D' 89 (1443 + i)) : NLR C' D' := by
  refine rt_cash h (fun j h1 h2 => ?_) (fun i h1 h2 => ?_) (fun i hi => ?_) (fun a ha => ?_) (fun i hi => ?_)
  · by_cases e : j = 15 ∨ j = 16
    · rw [Zs_z e, Zs_z e]
    · rw [Zs_row (by omega) (by omega), Zs_row (by omega) (by omega), hC j h1 h2 (by omega) (by omega)]
  · rw [Zd_i (by omega) (by omega), Zd_i (by omega) (by omega), hD1 i h1 h2]
  · by_cases e : (1363 ≤ i ∧ i < 1443) ∨ i = 2168
    · unfold Zd; rw [if_pos ⟨rfl, e⟩, if_pos ⟨rfl, e⟩]
    · rw [Zd_i (by omega) (by omega), Zd_i (by omega) (by omega), hD2 i (by omega) (by omega)]
  · rw [Zs_row (by omega) (by omega), Zd_i (by omega) (by omega)]; exact h3 a ha
  · rw [Zs_row (by omega) (by omega), Zd_i (by omega) (by omega)]; exact h6 i hi
def CK (C : St) (n : Nat) : Prop := (∀ a, a < 12 → 0 ≤ (C 3 a).toInt) ∧ (∀ a, n ≤ a → a < 12 → C 3 a = 0) ∧ sm (fun a => (C 3 a).toInt) 12 ≤ 100000 * n
theorem NLW.ck {C : St} {t n d : Nat} (h : NLW C t n d) : CK C n := by
  have := WTn.cash h
  rw [Zs_row (by omega) (by omega)] at this
  exact this
theorem nlw_cash {C C' : St} {t n d : Nat} (h : NLW C t n d) (hC : ∀ j, j ≠ 3 → j ≠ 6 → j ≠ 15 → j ≠ 16 → C' j = C j) (k : CK C' n) : NLW C' t n d := by
  refine WTn.put_cash h (fun j h1 h2 => ?_) ?_ ?_ ?_
  · by_cases e : j = 15 ∨ j = 16
    · rw [Zs_z e, Zs_z e]
    · rw [Zs_row (by omega) (by omega), Zs_row (by omega) (by omega), hC j h1 h2 (by omega) (by omega)]
  · rw [Zs_row (by omega) (by omega)]; exact k.1
  · rw [Zs_row (by omega) (by omega)]; exact k.2.1
  · rw [Zs_row (by omega) (by omega)]; exact k.2.2
/-- a payment on the class's side -/
theorem hand_ck {C : St} {n a b : Nat} {v : Int32} (hn : n ≤ 12) (k : CK C n) (ha : a < n) (hb : b < n) (h0 : 0 ≤ v.toInt) (h1 : v.toInt ≤ (C 3 a).toInt) : ∃ C', f_Tw_hand (nI a) (nI b) 4 v C = some C' ∧ CK C' n ∧ C' 3 = py (C 3) a b v ∧ C' 6 = up (C 6) (5 * (12 * a + b) + 4) (C 6 (5 * (12 * a + b) + 4) + v) ∧ ∀ j, j ≠ 3 → j ≠ 6 → C' j = C j := by
  obtain ⟨C', e1, e2, e3, e4⟩ := v_hand (C := C) (a := a) (b := b) (r := 4) (by omega) (by omega) (by omega) v
  obtain ⟨k1, k2, k3⟩ := k
  obtain ⟨p1, p2, p3, -⟩ := py_int (f := C 3) (N := 12) (a := a) (b := b) (v := v) k1 (by omega) (by omega) (by omega) h0 h1
  refine ⟨C', e1, ⟨?_, fun x h1 h2 => ?_, ?_⟩, e2, e3, e4⟩
  · rw [e2]; exact p1
  · rw [e2, p3 x (by omega) (by omega)]; exact k2 x h1 h2
  · rw [e2, p2]; exact k3
/-- the rows of the table -/
def LR (C : St) (n q : Nat) : Prop := ∀ i, i < q → rg (C 16 (4 * i)) 0 (n - 1) ∧ rg (C 16 (4 * i + 1)) 0 (n - 1) ∧ rg (C 16 (4 * i + 2)) 0 1998 ∧ C 16 (4 * i) ≠ C 16 (4 * i + 1)
def lnd (C : St) (i : Nat) : Nat := (C 16 (4 * i)).toNatClampNeg
def owd (C : St) (i : Nat) : Nat := (C 16 (4 * i + 2)).toNatClampNeg
def dA (C : St) (a i : Nat) : Bool := decide (C 16 (4 * i + 1) = nI a)
theorem LR.at {C : St} {n q i : Nat} (h : LR C n q) (hn : n ≤ 12) (hi : i < q) : C 16 (4 * i) = nI (lnd C i) ∧ lnd C i < n ∧ C 16 (4 * i + 2) = nI (owd C i) ∧ owd C i ≤ 1998 := by
  obtain ⟨h1, h2, h3, h4⟩ := h i hi
  obtain ⟨x, x1, x2, x3⟩ := rg_nI h1
  obtain ⟨y, y1, y2, y3⟩ := rg_nI h3
  unfold lnd owd
  rw [x3, y3, nI_clamp (by omega), nI_clamp (by omega)]
  exact ⟨rfl, by omega, rfl, by omega⟩
theorem LR.ne {C : St} {n q i a : Nat} (h : LR C n q) (hn : n ≤ 12) (hi : i < q) (hd : C 16 (4 * i + 1) = nI a) : lnd C i ≠ a := fun e => by
  have := (h i hi).2.2.2
  rw [(h.at hn hi).1, e, hd] at this
  exact this rfl
def v1F (C : St) (a H A i : Nat) : Int32 := nI (if dA C a i = true then H * owd C i / A else 0)
theorem v_share_l {C : St} {n q a H A : Nat} (hn : n ≤ 12) (ha : a < n) (hq : q ≤ 20) (h15 : C 15 0 = nI q) (hL : LR C n q) (hA : 0 < A) (hA2 : A < 2 ^ 31) (hH : H ≤ 1200000) (hca : C 3 a = nI H) (hS : sn (fun k => if dA C a k = true then H * owd C k / A else 0) q ≤ H) : ∀ (m i f : Nat) (C' : St), i + m = q → m < f → CK C' n → (∀ j, j ≠ 3 → j ≠ 6 → C' j = C j) → PV (C 3) (C 6) (C' 3) (C' 6) a (v1F C a H A) (lnd C) i → ∃ C'', L_Ln_shareOut_3 f (nI a) (lN H) (lN A) (nI i) C' = some C'' ∧ CK C'' n ∧ (∀ j, j ≠ 3 → j ≠ 6 → C'' j = C j) ∧ PV (C 3) (C 6) (C'' 3) (C'' 6) a (v1F C a H A) (lnd C) q
  | 0, i, f + 1, C', hi, _, k, e, p => by
    obtain rfl : i = q := by omega
    exact ⟨C', by rw [L_Ln_shareOut_3, e 15 (by omega) (by omega), h15, if_pos (by rw [nI_leI (by omega) (by omega)]; omega)], k, e, p⟩
  | m + 1, i, f + 1, C', hi, hf, k, e, p => by
    have e16 := e 16 (by omega) (by omega)
    have g0 : f_Ln_get (nI i) 0 C' = some (C 16 (4 * i)) := by rw [l0, v_lget (by omega) (by omega), e16]; rfl
    have g1 : f_Ln_get (nI i) 1 C' = some (C 16 (4 * i + 1)) := by rw [l1, v_lget (by omega) (by omega), e16]
    have g2 : f_Ln_get (nI i) 2 C' = some (C 16 (4 * i + 2)) := by rw [l2, v_lget (by omega) (by omega), e16]
    rw [L_Ln_shareOut_3, e 15 (by omega) (by omega), h15, if_neg (by rw [nI_leI (by omega) (by omega)]; omega), g1, bd1_s]
    by_cases hd : C 16 (4 * i + 1) = nI a
    · obtain ⟨r1, r2, r3, r4⟩ := hL.at hn (show i < q by omega)
      have hdA : dA C a i = true := decide_eq_true hd
      have b1 : H * owd C i ≤ 1200000 * 1998 := Nat.mul_le_mul hH r4
      have b2 : H * owd C i / A ≤ sn (fun k => if dA C a k = true then H * owd C k / A else 0) q := by
        have := sn_le (f := fun k => if dA C a k = true then H * owd C k / A else 0) (i := i) q (by omega)
        rw [if_pos hdA] at this
        exact this
      have ev : ((lN H * (C 16 (4 * i + 2)).toInt64) / lN A).toInt32 = v1F C a H A i := by
        unfold v1F
        rw [r3, nI_l (by omega), lN_mul, pk_lDiv (by omega) hA (by omega), lN_i, if_pos hdA]
      have vi : (v1F C a H A i).toInt = (H * owd C i / A : Nat) := by
        unfold v1F
        rw [if_pos hdA, nI_toInt (by omega)]
      have cash : C' 3 a = nI (H - sn (fun k => if dA C a k = true then H * owd C k / A else 0) i) := by
        have u := sn_up (f := fun k => if dA C a k = true then H * owd C k / A else 0) (i := i) q (by omega)
        rw [p.1 a (by omega), if_pos rfl, hca, si_sn (v := v1F C a H A) (f := fun k => if dA C a k = true then H * owd C k / A else 0) i (fun k hk => rfl), pk_sub (by omega)]
      have u := sn_up (f := fun k => if dA C a k = true then H * owd C k / A else 0) (i := i + 1) q (by omega)
      rw [sn_s, if_pos hdA] at u
      obtain ⟨C1, c1, c2, c3, c4, c5⟩ := hand_ck (C := C') (v := v1F C a H A i) hn k ha r2 (by rw [vi]; exact Int.natCast_nonneg _) (by rw [vi, cash, nI_toInt (by omega)]; exact Int.ofNat_le.mpr (by omega))
      have nle : ¬ (lg_cmp (lN A) 0 ≤ 0) := by
        rw [lg_cmp_le, show (0 : Int64) = lN 0 from rfl, pk_lLE (by omega) (by omega)]
        omega
      have nz : ¬ (lN A = 0) := by
        rw [show (0 : Int64) = lN 0 from rfl, pk_lEQ (by omega) (by omega)]
        omega
      rw [if_pos hd, if_neg nle, g2, bd1_s, if_neg nz, g0, bd1_s, ev, r1, c1, bd1_s, bd1_s, l1, nI_add]
      exact v_share_l hn ha hq h15 hL hA hA2 hH hca hS m (i + 1) f C1 (by omega) (by omega) c2 (fun j h1 h2 => by rw [c5 j h1 h2, e j h1 h2]) (p.step (by omega) (by omega) (hL.ne hn (by omega) hd) (fun x _ => by rw [c3]) (fun z _ => by rw [c4]))
    · rw [if_neg hd, bd1_s, l1, nI_add]
      have hdA : dA C a i = false := decide_eq_false hd
      exact v_share_l hn ha hq h15 hL hA hA2 hH hca hS m (i + 1) f C' (by omega) (by omega) k e (p.skip (by unfold v1F; rw [hdA]; rfl))
/-- the rest -/
def isA (C : St) (a i : Nat) : Bool := dA C a i && opC C i
def eN (R c : Nat) : Nat := if c < R then 1 else 0
def v2F (C : St) (a R i : Nat) : Int32 := nI (if isA C a i = true then eN R (cn (isA C a) i) else 0)
theorem sn_e {P : Nat → Bool} {R : Nat} : ∀ (n : Nat), sn (fun i => if P i = true then eN R (cn P i) else 0) n = min R (cn P n)
  | 0 => by show 0 = min R 0; omega
  | n + 1 => by
    rw [sn_s, sn_e n, cn_succ]
    by_cases h : P n = true
    · rw [if_pos h, if_pos h]
      unfold eN
      split <;> omega
    · rw [if_neg h, if_neg h]
      omega
theorem clo_eq {C : St} {P Q : Nat → Bool} {z : Nat} (h : z % 4 = 2 → P (z / 4) = Q (z / 4)) : clo C P 16 z = clo C Q 16 z := by
  unfold clo
  by_cases h2 : z % 4 = 2
  · by_cases hp : P (z / 4) = true
    · rw [if_pos ⟨rfl, h2, hp⟩, if_pos ⟨rfl, h2, by rw [← h h2]; exact hp⟩]
    · rw [if_neg (fun e => hp e.2.2), if_neg (fun e => hp (by rw [h h2]; exact e.2.2))]
  · rw [if_neg (fun e => h2 e.2.1), if_neg (fun e => h2 e.2.1)]
theorem v_rest_l {C C1 : St} {n q a R : Nat} (hn : n ≤ 12) (ha : a < n) (hq : q ≤ 20) (h15 : C 15 0 = nI q) (hL : LR C n q) (hR : R ≤ 1200000) (hca : C1 3 a = nI R) : ∀ (m i f : Nat) (C' : St), i + m = q → m < f → CK C' n → (∀ j, j ≠ 3 → j ≠ 6 → j ≠ 16 → C' j = C j) → C' 16 = clo C (fun k => isA C a k && decide (k < i)) 16 → PV (C1 3) (C1 6) (C' 3) (C' 6) a (v2F C a R) (lnd C) i → ∃ C'', L_Ln_handOutRest_2 f (nI a) (nI i) C' = some C'' ∧ CK C'' n ∧ (∀ j, j ≠ 3 → j ≠ 6 → j ≠ 16 → C'' j = C j) ∧ C'' 16 = clo C (fun k => isA C a k && decide (k < q)) 16 ∧ PV (C1 3) (C1 6) (C'' 3) (C'' 6) a (v2F C a R) (lnd C) q
  | 0, i, f + 1, C', hi, _, k, e, e16, p => by
    obtain rfl : i = q := by omega
    exact ⟨C', by rw [L_Ln_handOutRest_2, e 15 (by omega) (by omega) (by omega), h15, if_pos (by rw [nI_leI (by omega) (by omega)]; omega)], k, e, e16, p⟩
  | m + 1, i, f + 1, C', hi, hf, k, e, e16, p => by
    have g0 : f_Ln_get (nI i) 0 C' = some (C 16 (4 * i)) := by rw [l0, v_lget (by omega) (by omega), e16, clo_c (by omega) (by omega)]; rfl
    have g1 : f_Ln_get (nI i) 1 C' = some (C 16 (4 * i + 1)) := by rw [l1, v_lget (by omega) (by omega), e16, clo_c (by omega) (by omega)]
    have g2 : f_Ln_get (nI i) 2 C' = some (C 16 (4 * i + 2)) := by
      rw [l2, v_lget (by omega) (by omega), e16, clo_o, if_neg]
      rw [decide_eq_false (Nat.lt_irrefl i)]; simp
    have skip : isA C a i = false → clo C (fun k => isA C a k && decide (k < i)) 16 = clo C (fun k => isA C a k && decide (k < i + 1)) 16 := fun hz => by
      have : (fun k => isA C a k && decide (k < i)) = (fun k => isA C a k && decide (k < i + 1)) := by
        funext k
        by_cases hk : k = i
        · rw [hk, hz]; rfl
        · by_cases hk2 : k < i
          · rw [decide_eq_true hk2, decide_eq_true (show k < i + 1 by omega)]
          · rw [decide_eq_false hk2, decide_eq_false (show ¬ (k < i + 1) by omega)]
      rw [this]
    rw [L_Ln_handOutRest_2, e 15 (by omega) (by omega) (by omega), h15, if_neg (by rw [nI_leI (by omega) (by omega)]; omega), g1, bd1_s]
    by_cases hd : C 16 (4 * i + 1) = nI a
    · obtain ⟨r1, r2, r3, r4⟩ := hL.at hn (show i < q by omega)
      rw [if_pos hd, g2, bd1_s]
      by_cases ho : C 16 (4 * i + 2) = 0
      · have hz : isA C a i = false := by unfold isA opC; rw [ho]; simp
        rw [if_pos ho, bd1_s, l1, nI_add]
        exact v_rest_l (C1 := C1) hn ha hq h15 hL hR hca m (i + 1) f C' (by omega) (by omega) k e (by rw [e16]; exact skip hz) (p.skip (by unfold v2F; rw [hz]; rfl))
      · have hz : isA C a i = true := by unfold isA opC dA; rw [decide_eq_true hd, decide_eq_true ho]; rfl
        have cash : C' 3 a = nI (R - min R (cn (isA C a) i)) := by
          rw [p.1 a (by omega), if_pos rfl, hca, si_sn (v := v2F C a R) (f := fun i => if isA C a i = true then eN R (cn (isA C a) i) else 0) i (fun k hk => rfl), sn_e, pk_sub (by omega)]
        have ev : (if C' 3 a < 1 then C' 3 a else 1 : Int32) = v2F C a R i := by
          unfold v2F eN
          rw [if_pos hz, cash, l1]
          by_cases hc : cn (isA C a) i < R
          · rw [if_pos hc, if_neg (by rw [nI_ltI (by omega) (by omega)]; omega)]
          · rw [if_neg hc, if_pos (by rw [nI_ltI (by omega) (by omega)]; omega)]
            exact congrArg nI (by omega)
        have vi : (v2F C a R i).toInt = (eN R (cn (isA C a) i) : Nat) := by
          unfold v2F
          rw [if_pos hz, nI_toInt]
          unfold eN
          split <;> omega
        obtain ⟨C2, c1, c2, c3, c4, c5⟩ := hand_ck (C := C') (v := v2F C a R i) hn k ha r2 (by rw [vi]; exact Int.natCast_nonneg _) (by
          rw [vi, cash, nI_toInt (by omega)]
          unfold eN
          split <;> omega)
        have ec : f_Ln_close (nI i) C2 = some (mj_wr C2 16 (4 * i + 2) 0) := by
          unfold f_Ln_close
          rw [show (2 : Int32) = nI 2 from rfl, q_at, if_pos (inb_t (by omega) (by omega)), nI_clamp (by omega)]
        rw [if_neg ho, g0, bd1_s, if_pos (inb_t (by omega) (by omega)), nI_clamp (by omega), ev, r1, c1, bd1_s, ec, bd1_s, bd1_s, l1, nI_add]
        refine v_rest_l (C1 := C1) hn ha hq h15 hL hR hca m (i + 1) f (mj_wr C2 16 (4 * i + 2) 0) (by omega) (by omega) ?_ (fun j h1 h2 h3 => by rw [wr_row _ _ h3, c5 j h1 h2, e j h1 h2 h3]) ?_ (p.step (by omega) (by omega) (hL.ne hn (by omega) hd) (fun x _ => by rw [wr_row _ _ (by omega), c3]) (fun z _ => by rw [wr_row _ _ (by omega), c4]))
        · unfold CK at c2 ⊢
          rw [wr_row _ _ (by omega)]
          exact c2
        · funext z
          rw [wr_at, c5 16 (by omega) (by omega), e16]
          by_cases h1 : z = 4 * i + 2
          · rw [if_pos h1, h1, clo_o, if_pos]
            rw [hz, decide_eq_true (show i < i + 1 by omega)]; rfl
          · rw [if_neg h1]
            refine clo_eq (fun h2 => ?_)
            by_cases hk2 : z / 4 < i
            · rw [decide_eq_true hk2, decide_eq_true (show z / 4 < i + 1 by omega)]
            · rw [decide_eq_false hk2, decide_eq_false (show ¬ (z / 4 < i + 1) by omega)]
    · have hz : isA C a i = false := by unfold isA dA; rw [decide_eq_false hd]; rfl
      rw [if_neg hd, bd1_s, l1, nI_add]
      exact v_rest_l (C1 := C1) hn ha hq h15 hL hR hca m (i + 1) f C' (by omega) (by omega) k e (by rw [e16]; exact skip hz) (p.skip (by unfold v2F; rw [hz]; rfl))
