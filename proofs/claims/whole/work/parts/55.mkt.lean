/-! PURE: a day: the called market, and all markets -/
def mvI (C : St) (ma mb : Nat) (pa pb : Nat → Nat) (la lb : Nat → Int) (x : Int) : Int := if asum C ma pa la x < bsum C mb pb lb x then asum C ma pa la x else bsum C mb pb lb x
theorem mv_facts {C D : St} {t n d no g ma mb : Nat} {pa pb : Nat → Nat} {la lb : Nat → Int} (h : SV C D t n d no g (-1) ma mb pa pb 0 0) (na : ∀ i, i < ma → 0 ≤ la i) (nb : ∀ j, j < mb → 0 ≤ lb j) (x : Int) : ∃ i j, i ≤ ma ∧ j ≤ mb ∧ asum C ma pa la x = sm la i ∧ bsum C mb pb lb x = sm lb j ∧ (∀ i', i' < i → (C 28 (pa i')).toInt ≤ x) ∧ (∀ i', i ≤ i' → i' < ma → x < (C 28 (pa i')).toInt) ∧ (∀ j', j' < j → x ≤ (C 34 (pb j')).toInt) ∧ (∀ j', j ≤ j' → j' < mb → (C 34 (pb j')).toInt < x) := by
  obtain ⟨i, i1, i2, i3, i4⟩ := pre_asc (f := la) (p := fun i => (C 28 (pa i)).toInt) (x := x) ma (fun i j h1 h2 => sv_asc h h1 h2)
  obtain ⟨j, j1, j2, j3, j4⟩ := pre_asc (f := lb) (p := fun j => - (C 34 (pb j)).toInt) (x := - x) mb (fun i j h1 h2 => Int.neg_le_neg (sv_desc h h1 h2))
  refine ⟨i, j, i1, j1, i4, j4, i2, i3, fun j' h => ?_, fun j' h1 h2 => ?_⟩
  · have : - (C 34 (pb j')).toInt ≤ - x := j2 j' h
    omega
  · have : - x < - (C 34 (pb j')).toInt := j3 j' h1 h2
    omega
def CI (C D : St) (g ma mb : Nat) (pa pb : Nat → Nat) (la lb : Nat → Int) (k : Nat) (bs ms : Int32) : Prop := 0 ≤ ms.toInt ∧ (∀ i, i < k → D 94 i = nI g → mvI C ma mb pa pb la lb (D 96 i).toInt ≤ ms.toInt) ∧ (ms.toInt = 0 ∨ ((∃ i, i < k ∧ D 94 i = nI g ∧ mvI C ma mb pa pb la lb (D 96 i).toInt = ms.toInt ∧ bs = D 96 i) ∧ ∀ i, i < k → D 94 i = nI g → mvI C ma mb pa pb la lb (D 96 i).toInt = ms.toInt → bs.toInt ≤ (D 96 i).toInt))
theorem CI.skip {C D : St} {g ma mb k : Nat} {pa pb : Nat → Nat} {la lb : Nat → Int} {bs ms : Int32} (h : CI C D g ma mb pa pb la lb k bs ms) (hk : D 94 k = nI g → mvI C ma mb pa pb la lb (D 96 k).toInt < ms.toInt ∨ (mvI C ma mb pa pb la lb (D 96 k).toInt = ms.toInt ∧ (ms.toInt = 0 ∨ bs.toInt ≤ (D 96 k).toInt))) : CI C D g ma mb pa pb la lb (k + 1) bs ms := by
  obtain ⟨h1, h2, h3⟩ := h
  refine ⟨h1, fun i hi hg => ?_, ?_⟩
  · by_cases e : i = k
    · subst e
      have := hk hg
      omega
    · exact h2 i (by omega) hg
  · rcases h3 with h3 | ⟨⟨i, i1, i2⟩, h4⟩
    · exact Or.inl h3
    · by_cases hz : ms.toInt = 0
      · exact Or.inl hz
      · refine Or.inr ⟨⟨i, by omega, i2⟩, fun i hi hg he => ?_⟩
        by_cases e : i = k
        · subst e
          have := hk hg
          omega
        · exact h4 i (by omega) hg he
theorem CI.new {C D : St} {g ma mb k : Nat} {pa pb : Nat → Nat} {la lb : Nat → Int} {bs ms v : Int32} (h : CI C D g ma mb pa pb la lb k bs ms) (hg : D 94 k = nI g) (hv : v.toInt = mvI C ma mb pa pb la lb (D 96 k).toInt) (hk : ms.toInt < v.toInt ∨ (v.toInt = ms.toInt ∧ 0 < v.toInt ∧ (D 96 k).toInt ≤ bs.toInt)) : CI C D g ma mb pa pb la lb (k + 1) (D 96 k) v := by
  obtain ⟨h1, h2, h3⟩ := h
  refine ⟨by omega, fun i hi hg' => ?_, Or.inr ⟨⟨k, by omega, hg, hv.symm, rfl⟩, fun i hi hg' he => ?_⟩⟩
  · by_cases e : i = k
    · subst e; omega
    · have := h2 i (by omega) hg'
      omega
  · by_cases e : i = k
    · subst e; exact Int.le_refl _
    · have q := h2 i (by omega) hg'
      rcases h3 with h3 | ⟨⟨i0, i1, i2, i3, i4⟩, h4⟩
      · omega
      · have := h4 i (by omega) hg' (by omega)
        omega
theorem cd_l {C D : St} {t n d no g ma mb : Nat} {pa pb : Nat → Nat} {la lb : Nat → Int} (h : SV C D t n d no g (-1) ma mb pa pb 0 0) (ela : ∀ i, i < ma → (C 29 (pa i)).toInt = la i) (elb : ∀ j, j < mb → (C 35 (pb j)).toInt = lb j) : ∀ (m k q : Nat) (bs ms : Int32), k + m = no → m < q → CI C D g ma mb pa pb la lb k bs ms → ∃ bs' ms', L_Md_called_7 q (nI g) bs ms (nI k) D = some (bs', ms') ∧ CI C D g ma mb pa pb la lb no bs' ms'
  | 0, k, q + 1, bs, ms, hk, _, hc => by
    obtain rfl : k = no := by omega
    have hno := h.1.2.2.1.2.1
    exact ⟨bs, ms, by rw [L_Md_called_7, h.1.2.2.1.1, if_pos (by rw [nI_leI (by omega) (by omega)]; omega)], hc⟩
  | m + 1, k, q + 1, bs, ms, hk, hq, hc => by
    have hno := h.1.2.2.1.2.1
    rw [L_Md_called_7, h.1.2.2.1.1, if_neg (by rw [nI_leI (by omega) (by omega)]; omega), if_pos (inb_t (by omega) (by omega)), nI_clamp (by omega), l1, nI_add]
    by_cases hg : D 94 k = nI g
    · obtain ⟨v, v1, v2⟩ := m_moves h ela elb (D 96 k)
      have v3 : v.toInt = mvI C ma mb pa pb la lb (D 96 k).toInt := v2
      rw [if_pos hg, v1, bd1_s]
      by_cases c1 : ms < v
      · rw [if_pos c1, bd2_s]
        exact cd_l h ela elb m (k + 1) q _ _ (by omega) (by omega) (hc.new hg v3 (Or.inl (by rw [Int32.lt_iff_toInt_lt] at c1; exact c1)))
      · rw [if_neg c1]
        rw [Int32.lt_iff_toInt_lt] at c1
        by_cases c2 : v = ms
        · subst c2
          rw [if_pos rfl]
          by_cases c3 : v ≤ 0
          · rw [if_pos c3, bd2_s]
            rw [Int32.le_iff_toInt_le, Int32.toInt_zero] at c3
            have := hc.1
            exact cd_l h ela elb m (k + 1) q _ _ (by omega) (by omega) (hc.skip (fun _ => Or.inr ⟨v3.symm, Or.inl (by omega)⟩))
          · rw [if_neg c3]
            rw [Int32.le_iff_toInt_le, Int32.toInt_zero] at c3
            by_cases c4 : bs ≤ D 96 k
            · rw [if_pos c4, bd2_s]
              rw [Int32.le_iff_toInt_le] at c4
              exact cd_l h ela elb m (k + 1) q _ _ (by omega) (by omega) (hc.skip (fun _ => Or.inr ⟨v3.symm, Or.inr c4⟩))
            · rw [if_neg c4, bd2_s]
              rw [Int32.le_iff_toInt_le] at c4
              exact cd_l h ela elb m (k + 1) q _ _ (by omega) (by omega) (hc.new hg v3 (Or.inr ⟨rfl, by omega, by omega⟩))
        · rw [if_neg c2, bd2_s]
          have : v.toInt ≠ ms.toInt := fun e => c2 (Int32.toInt_inj.mp e)
          exact cd_l h ela elb m (k + 1) q _ _ (by omega) (by omega) (hc.skip (fun _ => Or.inl (by omega)))
    · rw [if_neg hg, bd2_s]
      exact cd_l h ela elb m (k + 1) q _ _ (by omega) (by omega) (hc.skip (fun e => absurd e hg))
/-- the two prices are one -/
theorem cd_eq {C D : St} {t n d no g ma mb : Nat} {pa pb : Nat → Nat} {la lb : Nat → Int} {P bs ms : Int32} {M : Int} (h : SV C D t n d no g (-1) ma mb pa pb 0 0) (na : ∀ i, i < ma → 0 ≤ la i) (nb : ∀ j, j < mb → 0 ≤ lb j) (hM : 0 ≤ M) (hU : ubM C ma mb pa pb la lb M) (hP : M = 0 ∨ atM C ma mb pa pb la lb P M) (hc : CI C D g ma mb pa pb la lb no bs ms) : ms.toInt = M ∧ (M = 0 ∨ bs = P) := by
  have up : ∀ x, mvI C ma mb pa pb la lb x ≤ M := fun x => by
    obtain ⟨i, j, i1, j1, e1, e2, g1, g2, g3, g4⟩ := mv_facts h na nb x
    unfold mvI
    rw [e1, e2]
    by_cases hi : i = 0
    · subst hi
      have : sm la 0 = 0 := rfl
      split <;> omega
    · by_cases hj : j = 0
      · subst hj
        have : sm lb 0 = 0 := rfl
        split <;> omega
      · have q1 := g1 (i - 1) (by omega)
        have q2 := g3 (j - 1) (by omega)
        have := hU (i - 1) (j - 1) (by omega) (by omega) (by omega)
        rw [show i - 1 + 1 = i by omega, show j - 1 + 1 = j by omega] at this
        split <;> omega
  obtain ⟨c1, c2, c3⟩ := hc
  have c4 : ms.toInt ≤ M := by
    rcases c3 with c3 | ⟨⟨i, i1, i2, i3, i4⟩, -⟩
    · omega
    · have := up (D 96 i).toInt
      omega
  rcases hP with hP | ⟨a0, b0, p1, p2, p3, p4, p5, p6, p7, p8⟩
  · exact ⟨by omega, Or.inl hP⟩
  · obtain ⟨k, k1, k2, k3, k4, k5, k6⟩ := pick_at h.1.2.2.1.2.2.1 h.2.1 p1
    have k5' : C 28 (pa a0) = D 96 k := k5
    have s0 := sm_nonneg (f := la) a0 (fun i hi => na i (by omega))
    have ge : M ≤ mvI C ma mb pa pb la lb (D 96 k).toInt := by
      obtain ⟨i, j, i1, j1, e1, e2, g1, g2, g3, g4⟩ := mv_facts h na nb (D 96 k).toInt
      unfold mvI
      rw [e1, e2]
      have hi : a0 < i := by
        apply Classical.byContradiction
        intro hne
        have := g2 a0 (by omega) p1
        rw [k5'] at this
        omega
      have hj : b0 < j := by
        apply Classical.byContradiction
        intro hne
        have := g4 b0 (by omega) p2
        rw [k5'] at p3
        omega
      have := sm_up (f := la) (n := ma) (i := a0 + 1) (j := i) na (by omega) i1
      have := sm_up (f := lb) (n := mb) (i := b0 + 1) (j := j) nb (by omega) j1
      split <;> omega
    have c5 := c2 k k1 k3
    have c6 : ms.toInt = M := by omega
    refine ⟨c6, Or.inr ?_⟩
    rcases c3 with c3 | ⟨⟨i, i1, i2, i3, i4⟩, c7⟩
    · omega
    · have c8 := c7 k k1 k3 (by omega)
      have c9 : (D 96 k).toInt ≤ bs.toInt := by
        apply Classical.byContradiction
        intro hne
        obtain ⟨i', j', i1', j1', e1, e2, g1, g2, g3, g4⟩ := mv_facts h na nb (D 96 i).toInt
        have hle : i' ≤ a0 := by
          apply Classical.byContradiction
          intro hlt
          have := g1 a0 (by omega)
          rw [k5', ← i4] at this
          omega
        have := sm_up (f := la) (n := ma) (i := i') (j := a0) na hle (by omega)
        unfold mvI at i3
        rw [e1, e2] at i3
        split at i3 <;> omega
      rw [p4, k5']
      exact Int32.toInt_inj.mp (by omega)
theorem called_l {C0 : St} {t n d no g ma mb : Nat} {P : Int32} {M : Int} {pa pb : Nat → Nat} {la lb : Nat → Int} (ht : t ≤ 600) (hg : g < 5) (na : ∀ i, i < ma → 0 ≤ la i) (nb : ∀ j, j < mb → 0 ≤ lb j) (hU : ubM C0 ma mb pa pb la lb M) (hP : M = 0 ∨ atM C0 ma mb pa pb la lb P M) (hPr : M = 0 ∨ rg P 0 999) : ∀ (m q q' a b : Nat) (C D : St) (V : Int) (y3 : Int32), (ma - a) + (mb - b) = m → m < q → m < q' → SV C D t n d no g (-1) ma mb pa pb a b → (∀ j, j < b → (C 35 (pb j)).toInt ≤ 0) → C 28 = C0 28 → C 34 = C0 34 → 0 ≤ V → V ≤ M → sm la a ≤ V → sm lb b ≤ V → (a < ma → (C 29 (pa a)).toInt = sm la (a + 1) - V) → (∀ i, a < i → i < ma → (C 29 (pa i)).toInt = la i) → (b < mb → (C 35 (pb b)).toInt = sm lb (b + 1) - V) → (∀ j, b < j → j < mb → (C 35 (pb j)).toInt = lb j) → y3.toInt = M - V → ∃ C' D', L_Mt_serve_6 q (nI g) 1 P (nI a) (nI b) C = some C' ∧ L_Md_called_86 q' (nI g) P y3 D = some D' ∧ MS C' D' t n d no ∧ MF C D C' D' g no := by
  have fin : ∀ (q' : Nat) (D : St) (y3 : Int32), y3.toInt ≤ 0 → L_Md_called_86 (q' + 1) (nI g) P y3 D = some D := fun q' D y3 hy => by
    rw [L_Md_called_86, if_pos (by rw [Int32.le_iff_toInt_le, Int32.toInt_zero]; exact hy)]
  intro m
  induction m with
  | zero =>
    intro q q' a b C D V y3 hm hq hq' h hz e28 e34 v0 v1 v2 v3 w1 w2 w3 w4 hy
    obtain ⟨q, rfl⟩ : ∃ z, q = z + 1 := ⟨q - 1, by omega⟩
    obtain ⟨q', rfl⟩ : ∃ z, q' = z + 1 := ⟨q' - 1, by omega⟩
    have h1 := h.2.2.2.1
    refine ⟨C, D, serve_end h (by omega), fin q' D y3 ?_, h.1, MF.refl C D g no⟩
    rcases hP with hP | ⟨a0, b0, p1, p2, p3, p4, p5, p6, p7, p8⟩
    · omega
    · have := sm_up (f := la) (n := ma) (i := a0 + 1) (j := a) na (by omega) h1
      omega
  | succ m ih =>
    intro q q' a b C D V y3 hm hq hq' h hz e28 e34 v0 v1 v2 v3 w1 w2 w3 w4 hy
    obtain ⟨q, rfl⟩ : ∃ z, q = z + 1 := ⟨q - 1, by omega⟩
    obtain ⟨q', rfl⟩ : ∃ z, q' = z + 1 := ⟨q' - 1, by omega⟩
    have hno := h.1.2.2.1.2.1
    have h1 := h.2.2.2.1
    have h2 := h.2.2.2.2.1
    rcases sv_low h with ⟨ha, el⟩ | ⟨ha, ka, ka1, ka2, ka3, ka4, ka5, ka6, el⟩
    · refine ⟨C, D, serve_end h (Or.inl ha), fin q' D y3 ?_, h.1, MF.refl C D g no⟩
      rcases hP with hP | ⟨a0, b0, p1, p2, p3, p4, p5, p6, p7, p8⟩
      · omega
      · have := sm_up (f := la) (n := ma) (i := a0 + 1) (j := a) na (by omega) h1
        omega
    · by_cases hb : b = mb
      · refine ⟨C, D, serve_end h (Or.inr hb), fin q' D y3 ?_, h.1, MF.refl C D g no⟩
        rcases hP with hP | ⟨a0, b0, p1, p2, p3, p4, p5, p6, p7, p8⟩
        · omega
        · have := sm_up (f := lb) (n := mb) (i := b0 + 1) (j := b) nb (by omega) h2
          omega
      · have hb' : b < mb := by omega
        have w1' := w1 ha
        have w3' := w3 hb'
        by_cases hl : (C 35 (pb b)).toInt ≤ 0
        · have hV : V = sm lb (b + 1) := by
            have hr : 0 ≤ (C 35 (pb b)).toInt := by
              obtain ⟨k, k1, k2, k3, k4, k5, k6⟩ := pick_at h.1.2.2.1.2.2.2.1 h.2.2.1 hb'
              have k6' : C 35 (pb b) = D 98 k := k6
              rw [k6']
              exact (h.1.2.2.1.2.2.2.2 k k1).2.2.2.1.1
            omega
          obtain ⟨C', D', r1, r2, r3, r4⟩ := ih q (q' + 1) a (b + 1) C D V y3 (by omega) (by omega) (by omega) (h.next hb') (fun j hj => by
            by_cases hjb : j = b
            · rw [hjb]; exact hl
            · exact hz j (by omega)) e28 e34 v0 v1 v2 (by omega) w1 w2 (fun hb2 => by rw [w4 (b + 1) (by omega) hb2, sm_s (n := b + 1)]; omega) (fun j h6 h7 => w4 j (by omega) h7) hy
          exact ⟨C', D', by rw [serve_no h ha hb' (Or.inr hl)]; exact r1, r2, r3, r4⟩
        · rcases sv_high h hz (fun _ => by omega) with ⟨e, -⟩ | ⟨-, kb, kb1, kb2, kb3, kb4, kb5, kb6, eh⟩
          · omega
          · have lpos := h.2.2.2.2.2.2.1 a (Nat.le_refl _) ha
            by_cases hc : C 34 (pb b) < C 28 (pa a)
            · have hci : (C 34 (pb b)).toInt < (C 28 (pa a)).toInt := by rw [Int32.lt_iff_toInt_lt] at hc; exact hc
              refine ⟨C, D, serve_never ha (mb - b) b (q + 1) (by omega) (by omega) h (fun _ => hci), fin q' D y3 ?_, h.1, MF.refl C D g no⟩
              rcases hP with hP | ⟨a0, b0, p1, p2, p3, p4, p5, p6, p7, p8⟩
              · omega
              · rw [← e28, ← e34] at p3
                by_cases haa : a0 < a
                · have := sm_up (f := la) (n := ma) (i := a0 + 1) (j := a) na (by omega) h1
                  omega
                · by_cases hbb : b0 < b
                  · have := sm_up (f := lb) (n := mb) (i := b0 + 1) (j := b) nb (by omega) h2
                    omega
                  · have := sv_asc h (show a ≤ a0 by omega) p1
                    have := sv_desc h (show b ≤ b0 by omega) p2
                    omega
            · have hci : (C 28 (pa a)).toInt ≤ (C 34 (pb b)).toInt := by rw [Int32.lt_iff_toInt_lt] at hc; omega
              have hu := hU a b ha hb' (by rw [← e28, ← e34]; exact hci)
              have hMV : V < M := by omega
              have hPP : rg P 0 999 := by
                rcases hPr with hPr | hPr
                · omega
                · exact hPr
              have hpq : P.toInt ≤ (D 96 kb).toInt := by
                rcases hP with hP | ⟨a0, b0, p1, p2, p3, p4, p5, p6, p7, p8⟩
                · omega
                · have hbb : b ≤ b0 := by
                    apply Classical.byContradiction
                    intro hlt
                    have := sm_up (f := lb) (n := mb) (i := b0 + 1) (j := b) nb (by omega) h2
                    omega
                  have := sv_desc h hbb p2
                  rw [p4, ← kb5]
                  rw [← e34, ← e28] at p3
                  rw [← e28]
                  omega
              obtain ⟨C', D', e1, e2, e3, e4, e5, e6, e7, e8, e9, e10, e11, e12⟩ := sv_trade h ht hg ha hb' ka1 kb1 ka2 kb2 ka3 kb3 ka4 kb4 (by rw [← kb6]; omega) hPP hpq
              have cls := serve_tr (q := q) (cl := P) (kd := 1) h ha hb' hc (p := P) (by unfold f_Mt_priceOf; rw [if_pos rfl]) e1
              have hmm := amt_toInt (D 98 ka) (D 98 kb)
              rw [← ka6, ← kb6] at hmm
              have hmle : (amt (D 98 ka) (D 98 kb)).toInt ≤ M - V := by rw [← ka6, ← kb6, hmm]; split <;> omega
              have hmin : amt y3 (amt (D 98 ka) (D 98 kb)) = amt (D 98 ka) (D 98 kb) := Int32.toInt_inj.mp (by rw [amt_toInt]; split <;> omega)
              have mdl : L_Md_called_86 (q' + 1) (nI g) P y3 D = L_Md_called_86 q' (nI g) P (y3 - amt (D 98 ka) (D 98 kb)) D' := by
                rw [L_Md_called_86, if_neg (by rw [Int32.le_iff_toInt_le, Int32.toInt_zero]; omega), eh, bd1_s, el, bd1_s, if_pos (inb_t (by omega) (by omega)), if_pos (inb_t (by omega) (by omega)), nI_clamp (by omega), nI_clamp (by omega), m_less, bd1_s, m_less, bd1_s, amt_comm (D 98 kb), hmin, e2, bd1_s]
              have hMb := Int32.toInt_lt y3
              have hy' : (y3 - amt (D 98 ka) (D 98 kb)).toInt = M - (V + (amt (D 98 ka) (D 98 kb)).toInt) := by
                rw [sub_toInt (by omega) (by omega)]; omega
              have hz' : ∀ j, j < b → (C' 35 (pb j)).toInt ≤ 0 := fun j hj => by rw [e6 j (by omega) (by omega)]; exact hz j hj
              have amtv := hmm
              rw [ka6, kb6] at amtv
              rcases e4 with ⟨z1, z2⟩ | ⟨z1, z2, z3⟩
              · have za : (C' 29 (pa a)).toInt = 0 := by rw [z1]; rfl
                obtain ⟨C2, D2, r1, r2, r3, r4⟩ := ih q q' (a + 1) b C' D' (V + (amt (D 98 ka) (D 98 kb)).toInt) _ (by omega) (by omega) (by omega) z2 hz' (e11.trans e28) (e12.trans e34) (by omega) (by omega) (by omega) (by omega) (fun ha2 => by rw [e5 (a + 1) ha2 (by omega), w2 (a + 1) (by omega) ha2, sm_s (n := a + 1)]; omega) (fun i h6 h7 => by rw [e5 i h7 (by omega)]; exact w2 i (by omega) h7) (fun _ => by rw [e8]; omega) (fun j h6 h7 => by rw [e6 j h7 (by omega)]; exact w4 j h6 h7) hy'
                exact ⟨C2, D2, by rw [cls, if_pos z1]; exact r1, by rw [mdl]; exact r2, r3, e3.trans r4⟩
              · have hq5 : (amt (D 98 ka) (D 98 kb)).toInt ≤ (C 35 (pb b)).toInt := by rw [kb6, amtv]; split <;> omega
                have zb : (C' 35 (pb b)).toInt = 0 := by omega
                obtain ⟨C2, D2, r1, r2, r3, r4⟩ := ih q q' a (b + 1) C' D' (V + (amt (D 98 ka) (D 98 kb)).toInt) _ (by omega) (by omega) (by omega) z2 (fun j hj => by
                  by_cases hjb : j = b
                  · rw [hjb]; exact z3
                  · exact hz' j (by omega)) (e11.trans e28) (e12.trans e34) (by omega) (by omega) (by omega) (by omega) (fun _ => by rw [e7]; omega) (fun i h6 h7 => by rw [e5 i h7 (by omega)]; exact w2 i h6 h7) (fun hb2 => by rw [e6 (b + 1) hb2 (by omega), w4 (b + 1) (by omega) hb2, sm_s (n := b + 1)]; omega) (fun j h6 h7 => by rw [e6 j h7 (by omega)]; exact w4 j (by omega) h7) hy'
                exact ⟨C2, D2, by rw [cls, if_neg z1]; exact r1, by rw [mdl]; exact r2, r3, e3.trans r4⟩
