/-! PURE: a day: the haggled and the posted market -/
theorem SV.next {C D : St} {t n d no g ma mb a b : Nat} {ob : Int32} {pa pb : Nat → Nat} (h : SV C D t n d no g ob ma mb pa pb a b) (hb : b < mb) : SV C D t n d no g ob ma mb pa pb a (b + 1) := by
  obtain ⟨hM, hA, hB, h1, h2, h3, h4, h5⟩ := h
  exact ⟨hM, hA, hB, h1, by omega, h3, h4, fun j h6 h7 => h5 j (by omega) h7⟩
theorem sv_desc {C D : St} {t n d no g ma mb a b i j : Nat} {pa pb : Nat → Nat} (h : SV C D t n d no g (-1) ma mb pa pb a b) (hij : i ≤ j) (hj : j < mb) : (C 34 (pb j)).toInt ≤ (C 34 (pb i)).toInt := by
  obtain ⟨⟨hR, hW, ⟨o1, o2, o3, o4, o5⟩, hV, hO⟩, ha, hb, -⟩ := h
  have rr : ∀ w, w < mb → rg (C 34 (pb w)) 0 999 := fun w hw => by
    obtain ⟨k, k1, k2, k3, k4, k5, k6⟩ := pick_at o4 hb hw
    have e : C 34 (pb w) = D 96 k := k5
    rw [e]
    have := (o5 k k1).2.2.1
    exact ⟨by have := this.1; omega, this.2⟩
  by_cases he : i = j
  · rw [he]; exact Int.le_refl _
  · have := hb.2.2.2.1 i j (by omega) hj
    rw [kym (rr i (by omega)), kym (rr j hj)] at this
    omega
theorem serve_never {C D : St} {t n d no g ma mb a : Nat} {kd cl : Int32} {pa pb : Nat → Nat} (ha : a < ma) : ∀ (m b q : Nat), b + m = mb → m < q → SV C D t n d no g (-1) ma mb pa pb a b → (b < mb → (C 34 (pb b)).toInt < (C 28 (pa a)).toInt) → L_Mt_serve_6 q (nI g) kd cl (nI a) (nI b) C = some C
  | 0, b, q + 1, hm, _, h, _ => serve_end h (by omega)
  | m + 1, b, q + 1, hm, hq, h, hc => by
    have hb : b < mb := by omega
    have q1 := hc hb
    rw [serve_no h ha hb (Or.inl (by rw [Int32.lt_iff_toInt_lt]; exact q1))]
    exact serve_never ha m (b + 1) q (by omega) (by omega) (h.next hb) (fun hb' => by
      have := sv_desc h (show b ≤ b + 1 by omega) hb'
      omega)
theorem i_m1_lt : (-1 : Int32) < 0 := by decide
theorem nI_nlt0 {k : Nat} (hk : k < 2 ^ 31) : ¬ (nI k < (0 : Int32)) := by rw [l0, nI_ltI hk (by omega)]; omega
theorem hag_l {t n d no g ma mb : Nat} {cl : Int32} {pa pb : Nat → Nat} (ht : t ≤ 600) (hg : g < 5) : ∀ (m q q' a b : Nat) (C D : St), (ma - a) + (mb - b) = m → m < q → m + 1 < q' → SV C D t n d no g (-1) ma mb pa pb a b → (∀ j, j < b → (C 35 (pb j)).toInt ≤ 0) → ∃ C' D', L_Mt_serve_6 q (nI g) 2 cl (nI a) (nI b) C = some C' ∧ L_Md_haggled_2 q' (nI g) 1 D = some D' ∧ MS C' D' t n d no ∧ MF C D C' D' g no := by
  intro m
  induction m with
  | zero =>
    intro q q' a b C D hm hq hq' h hz
    obtain ⟨q, rfl⟩ : ∃ z, q = z + 1 := ⟨q - 1, by omega⟩
    obtain ⟨q', rfl⟩ : ∃ z, q' = z + 2 := ⟨q' - 2, by omega⟩
    have h1 := h.2.2.2.1
    have h2 := h.2.2.2.2.1
    refine ⟨C, D, serve_end h (by omega), ?_, h.1, MF.refl C D g no⟩
    rcases sv_high h hz (fun e => by omega) with ⟨-, e⟩ | ⟨e, -⟩
    · obtain ⟨y, y1, -⟩ := m_low (g := g) h.1.2.2.1.2.1 h.1.2.2.1.1
      rw [show q' + 2 = (q' + 1) + 1 from rfl, L_Md_haggled_2, if_neg i10, e, bd1_s, y1, bd1_s, if_pos i_m1_lt, bd1_s, if_pos rfl, bd1_s, L_Md_haggled_2, if_pos rfl]
    · omega
  | succ m ih =>
    intro q q' a b C D hm hq hq' h hz
    obtain ⟨q, rfl⟩ : ∃ z, q = z + 1 := ⟨q - 1, by omega⟩
    obtain ⟨q', rfl⟩ : ∃ z, q' = z + 2 := ⟨q' - 2, by omega⟩
    have hno := h.1.2.2.1.2.1
    have h1 := h.2.2.2.1
    have h2 := h.2.2.2.2.1
    have stop : ∀ (v2 v4 : Int32), f_Md_highestBid (nI g) D = some v2 → f_Md_lowestAsk (nI g) D = some v4 → (v2 = -1 ∨ v4 = -1 ∨ ∃ ka kb, ka < no ∧ kb < no ∧ v2 = nI kb ∧ v4 = nI ka ∧ D 96 kb < D 96 ka) → (v2 = -1 ∨ ∃ kb, kb < no ∧ v2 = nI kb) → L_Md_haggled_2 (q' + 2) (nI g) 1 D = some D := fun v2 v4 e2 e4 hc hk => by
      have w : (if v2 < 0 then some 0 else if v4 < 0 then some 0 else if inb v2 80 then if inb v4 80 then if (D 96 v2.toNatClampNeg) < (D 96 v4.toNatClampNeg) then some 0 else some 1 else none else none : Option Int32) = some 0 := by
        rcases hc with e | e | ⟨ka, kb, k1, k2, k3, k4, k5⟩
        · rw [e, if_pos i_m1_lt]
        · rcases hk with e' | ⟨kb, k1, k2⟩
          · rw [e', if_pos i_m1_lt]
          · rw [k2, if_neg (nI_nlt0 (by omega)), e, if_pos i_m1_lt]
        · rw [k3, k4, if_neg (nI_nlt0 (by omega)), if_neg (nI_nlt0 (by omega)), if_pos (inb_t (by omega) (by omega)), if_pos (inb_t (by omega) (by omega)), nI_clamp (by omega), nI_clamp (by omega), if_pos k5]
      rw [show q' + 2 = (q' + 1) + 1 from rfl, L_Md_haggled_2, if_neg i10, e2, bd1_s, e4, bd1_s, w, bd1_s, if_pos rfl, bd1_s, L_Md_haggled_2, if_pos rfl]
    obtain ⟨v2, hv2, bv2⟩ := m_high (g := g) hno h.1.2.2.1.1
    have kv2 : v2 = -1 ∨ ∃ kb, kb < no ∧ v2 = nI kb := by
      rcases bv2 with ⟨e, -⟩ | ⟨b, b1, b2, -⟩
      · exact Or.inl e
      · exact Or.inr ⟨b, b1, b2⟩
    rcases sv_low h with ⟨ha, el⟩ | ⟨ha, ka, ka1, ka2, ka3, ka4, ka5, ka6, el⟩
    · exact ⟨C, D, serve_end h (Or.inl ha), stop v2 (-1) hv2 el (Or.inr (Or.inl rfl)) kv2, h.1, MF.refl C D g no⟩
    · by_cases hb : b = mb
      · rcases sv_high h hz (fun e => by omega) with ⟨-, e⟩ | ⟨e, -⟩
        · exact ⟨C, D, serve_end h (Or.inr hb), stop (-1) (nI ka) e el (Or.inl rfl) (Or.inl rfl), h.1, MF.refl C D g no⟩
        · omega
      · have hb' : b < mb := by omega
        by_cases hl : (C 35 (pb b)).toInt ≤ 0
        · obtain ⟨C', D', r1, r2, r3, r4⟩ := ih q (q' + 2) a (b + 1) C D (by omega) (by omega) (by omega) (h.next hb') (fun j hj => by
            by_cases hjb : j = b
            · rw [hjb]; exact hl
            · exact hz j (by omega))
          exact ⟨C', D', by rw [serve_no h ha hb' (Or.inr hl)]; exact r1, r2, r3, r4⟩
        · rcases sv_high h hz (fun _ => by omega) with ⟨e, -⟩ | ⟨-, kb, kb1, kb2, kb3, kb4, kb5, kb6, eh⟩
          · omega
          · by_cases hc : C 34 (pb b) < C 28 (pa a)
            · refine ⟨C, D, serve_never ha (mb - b) b (q + 1) (by omega) (by omega) h (fun _ => by rw [Int32.lt_iff_toInt_lt] at hc; exact hc), stop (nI kb) (nI ka) eh el (Or.inr (Or.inr ⟨ka, kb, ka1, kb1, rfl, rfl, by rw [← ka5, ← kb5]; exact hc⟩)) (Or.inr ⟨kb, kb1, rfl⟩), h.1, MF.refl C D g no⟩
            · have o5 := h.1.2.2.1.2.2.2.2
              obtain ⟨x1, x2, x3, x4⟩ := rg_nI (x := D 96 ka) (hi := 999) ⟨by have := (o5 ka ka1).2.2.1.1; omega, (o5 ka ka1).2.2.1.2⟩
              obtain ⟨y1, y2, y3, y4⟩ := rg_nI (x := D 96 kb) (hi := 999) ⟨by have := (o5 kb kb1).2.2.1.1; omega, (o5 kb kb1).2.2.1.2⟩
              have hle : x1 ≤ y1 := by
                rw [kb5, ka5, x4, y4, nI_ltI y3 x3] at hc
                omega
              have ep : (D 96 kb + D 96 ka) / 2 = nI ((y1 + x1) / 2) := by rw [x4, y4, nI_add, l2, pk_div (by omega) (by omega) (by omega)]
              obtain ⟨C', D', e1, e2, e3, e4, e5, e6, e7, e8, e9, e10⟩ := sv_trade h ht hg ha hb' ka1 kb1 ka2 kb2 ka3 kb3 ka4 kb4 (by rw [← kb6]; omega) (p := nI ((y1 + x1) / 2)) (rg_of (by omega) (by omega) (by omega)) (by rw [y4, nI_toInt (by omega), nI_toInt y3]; omega)
              have cls := serve_tr (q := q) (cl := cl) (kd := 2) h ha hb' hc (p := nI ((y1 + x1) / 2)) (by
                have q1 := (h.2.1.2.2.1 a ha).2.1
                have q2 := (h.2.2.1.2.2.1 b hb').2.1
                have q3 := cn_le (P := PX D 0) no
                have q4 := cn_le (P := PX D 1) no
                unfold f_Mt_priceOf
                rw [if_neg (by decide), if_pos rfl, if_pos (inb_t (by omega) (by omega)), if_pos (inb_t (by omega) (by omega)), nI_clamp (by omega), nI_clamp (by omega), kb5, ka5, ep]) e1
              have mdl : L_Md_haggled_2 (q' + 2) (nI g) 1 D = L_Md_haggled_2 (q' + 1) (nI g) 1 D' := by
                rw [show q' + 2 = (q' + 1) + 1 from rfl, L_Md_haggled_2, if_neg i10, eh, bd1_s, el, bd1_s, if_neg (nI_nlt0 (by omega)), if_neg (nI_nlt0 (by omega)), if_pos (inb_t (by omega) (by omega)), if_pos (inb_t (by omega) (by omega)), nI_clamp (by omega), nI_clamp (by omega), if_neg (by rw [← ka5, ← kb5]; exact hc), bd1_s, if_neg i10, if_pos (inb_t (by omega) (by omega)), if_pos (inb_t (by omega) (by omega)), m_less, bd1_s, amt_comm, ep, e2, bd1_s, bd1_s]
              have hz' : ∀ j, j < b → (C' 35 (pb j)).toInt ≤ 0 := fun j hj => by rw [e6 j (by omega) (by omega)]; exact hz j hj
              rcases e4 with ⟨z1, z2⟩ | ⟨z1, z2, z3⟩
              · obtain ⟨C2, D2, r1, r2, r3, r4⟩ := ih q (q' + 1) (a + 1) b C' D' (by omega) (by omega) (by omega) z2 hz'
                exact ⟨C2, D2, by rw [cls, if_pos z1]; exact r1, by rw [mdl]; exact r2, r3, e3.trans r4⟩
              · obtain ⟨C2, D2, r1, r2, r3, r4⟩ := ih q (q' + 1) a (b + 1) C' D' (by omega) (by omega) (by omega) z2 (fun j hj => by
                  by_cases hjb : j = b
                  · rw [hjb]; exact z3
                  · exact hz' j (by omega))
                exact ⟨C2, D2, by rw [cls, if_neg z1]; exact r1, by rw [mdl]; exact r2, r3, e3.trans r4⟩
/-- the POSTED market -/
def POS (D : St) (no mb : Nat) (pb : Nat → Nat) (k b : Nat) : Prop := ∀ i w, i < no → w < mb → D 97 i = 1 → cn (PX D 1) i = pb w → (i < k ↔ w < b)
theorem POS.keep {D D' : St} {no mb k b : Nat} {pb : Nat → Nat} (h : POS D no mb pb k b) (e : D' 97 = D 97) : POS D' no mb pb k b := by
  have px : PX D' 1 = PX D 1 := by funext k; unfold PX; rw [e]
  unfold POS at h ⊢
  rw [px, e]
  exact h
theorem POS.both {D : St} {no mb k b : Nat} {pb : Nat → Nat} (h : POS D no mb pb k b) (hk : D 97 k = 1) (he : cn (PX D 1) k = pb b) (inj : ∀ w, w < mb → w ≠ b → pb w ≠ pb b) : POS D no mb pb (k + 1) (b + 1) := by
  intro i w hi hw h97 hc
  have hh := h i w hi hw h97 hc
  by_cases hwb : w = b
  · subst hwb
    have : i = k := cn_inj (P := PX D 1) (by unfold PX; exact decide_eq_true h97) (by unfold PX; exact decide_eq_true hk) (hc.trans he.symm)
    omega
  · have : i ≠ k := fun e => inj w hw hwb (by rw [← hc, e, he])
    omega
theorem sv_inc {C D : St} {t n d no g ma mb a b i j : Nat} {pa pb : Nat → Nat} (h : SV C D t n d no g 0 ma mb pa pb a b) (hij : i < j) (hj : j < mb) : pb i < pb j := by
  have := h.2.2.1.2.2.2.1 i j hij hj
  rw [ky0, ky0] at this
  omega
theorem post_l {t n d no g ma mb : Nat} {cl : Int32} {pa pb : Nat → Nat} (ht : t ≤ 600) (hg : g < 5) : ∀ (m : Nat),
    (∀ (q q1 q' a b kb : Nat) (v : Int32) (C D : St), (ma - a) + (mb - b) ≤ m → m < q → m + 1 < q1 → no < q' + (kb + 1) → SV C D t n d no g 0 ma mb pa pb a b → b < mb → kb < no → D 97 kb = 1 → D 94 kb = nI g → cn (PX D 1) kb = pb b → POS D no mb pb kb b → v = (if D 98 kb ≤ 0 then 0 else 1 : Int32) → ∃ C' D', L_Mt_serve_6 q (nI g) 0 cl (nI a) (nI b) C = some C' ∧ (bd1 (L_Md_posted_18 q1 (nI g) (nI kb) v D) fun C29 => L_Md_posted_2 q' (nI g) (nI (kb + 1)) C29) = some D' ∧ MS C' D' t n d no ∧ MF C D C' D' g no) ∧
    (∀ (e q q' a b k : Nat) (C D : St), (ma - a) + (mb - b) ≤ m → m < q → k + e = no → no < q' + k → SV C D t n d no g 0 ma mb pa pb a b → POS D no mb pb k b → ∃ C' D', L_Mt_serve_6 q (nI g) 0 cl (nI a) (nI b) C = some C' ∧ L_Md_posted_2 q' (nI g) (nI k) D = some D' ∧ MS C' D' t n d no ∧ MF C D C' D' g no) := by
  intro m
  induction m with
  | zero =>
    have Q : ∀ (q q1 q' a b kb : Nat) (v : Int32) (C D : St), (ma - a) + (mb - b) ≤ 0 → 0 < q → 0 + 1 < q1 → no < q' + (kb + 1) → SV C D t n d no g 0 ma mb pa pb a b → b < mb → kb < no → D 97 kb = 1 → D 94 kb = nI g → cn (PX D 1) kb = pb b → POS D no mb pb kb b → v = (if D 98 kb ≤ 0 then 0 else 1 : Int32) → ∃ C' D', L_Mt_serve_6 q (nI g) 0 cl (nI a) (nI b) C = some C' ∧ (bd1 (L_Md_posted_18 q1 (nI g) (nI kb) v D) fun C29 => L_Md_posted_2 q' (nI g) (nI (kb + 1)) C29) = some D' ∧ MS C' D' t n d no ∧ MF C D C' D' g no := by
      intro q q1 q' a b kb v C D hm hq hq1 hq' h hb
      omega
    refine ⟨Q, ?_⟩
    intro e
    induction e with
    | zero =>
      intro q q' a b k C D hm hq hk hq' h hpos
      obtain ⟨q, rfl⟩ : ∃ z, q = z + 1 := ⟨q - 1, by omega⟩
      obtain ⟨q', rfl⟩ : ∃ z, q' = z + 1 := ⟨q' - 1, by omega⟩
      have h2 := h.2.2.2.2.1
      have hno := h.1.2.2.1.2.1
      refine ⟨C, D, serve_end h (by omega), ?_, h.1, MF.refl C D g no⟩
      rw [L_Md_posted_2, h.1.2.2.1.1, if_pos (by rw [nI_leI (by omega) (by omega)]; omega)]
    | succ e ihe =>
      intro q q' a b k C D hm hq hk hq' h hpos
      obtain ⟨q', rfl⟩ : ∃ z, q' = z + 1 := ⟨q' - 1, by omega⟩
      have h2 := h.2.2.2.2.1
      have hno := h.1.2.2.1.2.1
      have nb : ¬ (D 97 k = 1 ∧ D 94 k = nI g) := fun hh => by
        obtain ⟨w, w1, w2⟩ := pick_mem h.1.2.2.1.2.2.2.1 h.2.2.1 (show k < no by omega) hh.1 hh.2
        have := hpos k w (by omega) w1 hh.1 w2.symm
        omega
      obtain ⟨C', D', r1, r2, r3, r4⟩ := ihe q q' a b (k + 1) C D hm hq (by omega) (by omega) h (fun i w hi hw h97 hc => by
        have := hpos i w hi hw h97 hc
        have hne : i ≠ k := fun e => nb ⟨by rw [← e]; exact h97, by
          have s := (h.1.2.2.1.2.2.2.1.2 i hi h97).2.2.2
          rw [hc, (h.2.2.1.2.2.1 w hw).2.2] at s
          rw [← e]; exact s.symm⟩
        omega)
      refine ⟨C', D', r1, ?_, r3, r4⟩
      rw [L_Md_posted_2, h.1.2.2.1.1, if_neg (by rw [nI_leI (by omega) (by omega)]; omega)]
      rcases m_isOpen (D := D) (k := k) (g := g) (x := 1) (by omega) with ⟨ho, _⟩ | ⟨-, eo⟩
      · exact absurd ⟨ho.1, ho.2.1⟩ nb
      · rw [eo, bd1_s, show L_Md_posted_18 3000 (nI g) (nI k) 0 D = some D from if_pos rfl, bd1_s, l1, nI_add]
        exact r2
  | succ m ih =>
    obtain ⟨ihQ, ihP⟩ := ih
    have Q : ∀ (q q1 q' a b kb : Nat) (v : Int32) (C D : St), (ma - a) + (mb - b) ≤ m + 1 → m + 1 < q → m + 1 + 1 < q1 → no < q' + (kb + 1) → SV C D t n d no g 0 ma mb pa pb a b → b < mb → kb < no → D 97 kb = 1 → D 94 kb = nI g → cn (PX D 1) kb = pb b → POS D no mb pb kb b → v = (if D 98 kb ≤ 0 then 0 else 1 : Int32) → ∃ C' D', L_Mt_serve_6 q (nI g) 0 cl (nI a) (nI b) C = some C' ∧ (bd1 (L_Md_posted_18 q1 (nI g) (nI kb) v D) fun C29 => L_Md_posted_2 q' (nI g) (nI (kb + 1)) C29) = some D' ∧ MS C' D' t n d no ∧ MF C D C' D' g no := by
      intro q q1 q' a b kb v C D hm hq hq1 hq' h hb hkb b97 b94 eb hpos hv
      obtain ⟨q, rfl⟩ : ∃ z, q = z + 1 := ⟨q - 1, by omega⟩
      obtain ⟨q1, rfl⟩ : ∃ z, q1 = z + 2 := ⟨q1 - 2, by omega⟩
      have hno := h.1.2.2.1.2.1
      have h1 := h.2.2.2.1
      obtain ⟨-, l34, l35, -⟩ := h.1.2.2.1.2.2.2.1.2 kb hkb b97
      rw [eb] at l34 l35
      have l34' : C 34 (pb b) = D 96 kb := l34
      have l35' : C 35 (pb b) = D 98 kb := l35
      have inj : ∀ w, w < mb → w ≠ b → pb w ≠ pb b := fun w hw hwb => pk_ne h.2.2.1 hw hb hwb
      -- the model passes on
      have pass : (¬ (a < ma) ∨ (a < ma ∧ (C 34 (pb b) < C 28 (pa a) ∨ (C 35 (pb b)).toInt ≤ 0))) → L_Md_posted_18 (q1 + 2) (nI g) (nI kb) v D = some D → ∃ C' D', L_Mt_serve_6 (q + 1) (nI g) 0 cl (nI a) (nI b) C = some C' ∧ (bd1 (L_Md_posted_18 (q1 + 2) (nI g) (nI kb) v D) fun C29 => L_Md_posted_2 q' (nI g) (nI (kb + 1)) C29) = some D' ∧ MS C' D' t n d no ∧ MF C D C' D' g no := fun hc he => by
        obtain ⟨C', D', r1, r2, r3, r4⟩ := ihP (no - (kb + 1)) q q' a (b + 1) (kb + 1) C D (by omega) (by omega) (by omega) (by omega) (h.next hb) (hpos.both b97 eb inj)
        refine ⟨C', D', ?_, by rw [he, bd1_s]; exact r2, r3, r4⟩
        rcases hc with hc | ⟨hc, hd⟩
        · rw [serve_end h (by omega)]
          rw [← r1]
          obtain ⟨q, rfl⟩ : ∃ z, q = z + 1 := ⟨q - 1, by omega⟩
          rw [serve_end (h.next hb) (by omega)]
        · rw [serve_no h hc hb hd]; exact r1
      by_cases hl : D 98 kb ≤ 0
      · rw [if_pos hl] at hv
        subst hv
        rw [Int32.le_iff_toInt_le, Int32.toInt_zero] at hl
        refine pass ?_ (if_pos rfl)
        by_cases ha : a < ma
        · exact Or.inr ⟨ha, Or.inr (by rw [l35']; exact hl)⟩
        · exact Or.inl ha
      · rw [if_neg hl] at hv
        subst hv
        have hl' : 0 < (D 98 kb).toInt := by rw [Int32.le_iff_toInt_le, Int32.toInt_zero] at hl; omega
        rcases sv_low h with ⟨ha, el⟩ | ⟨ha, ka, ka1, ka2, ka3, ka4, ka5, ka6, el⟩
        · refine pass (Or.inl (by omega)) ?_
          rw [show q1 + 2 = (q1 + 1) + 1 from rfl, L_Md_posted_18, if_neg i10, el, bd1_s, if_pos i_m1_lt, bd1_s, if_pos rfl, bd2_s, L_Md_posted_18, if_pos rfl]
        · by_cases hc : C 34 (pb b) < C 28 (pa a)
          · refine pass (Or.inr ⟨ha, Or.inl hc⟩) ?_
            rw [show q1 + 2 = (q1 + 1) + 1 from rfl, L_Md_posted_18, if_neg i10, el, bd1_s, if_neg (nI_nlt0 (by omega)), if_pos (inb_t (by omega) (by omega)), if_pos (inb_t (by omega) (by omega)), nI_clamp (by omega), nI_clamp (by omega), if_pos (by rw [← ka5, ← l34']; exact hc), bd1_s, if_pos rfl, bd2_s, L_Md_posted_18, if_pos rfl]
          · have o5 := h.1.2.2.1.2.2.2.2
            have hle : (D 96 ka).toInt ≤ (D 96 kb).toInt := by
              rw [l34', ka5, Int32.lt_iff_toInt_lt] at hc
              omega
            obtain ⟨C', D', e1, e2, e3, e4, e5, e6, e7, e8, e9, e10⟩ := sv_trade h ht hg ha hb ka1 hkb ka2 b97 ka3 b94 ka4 eb hl' (p := D 96 ka) ⟨by have := (o5 ka ka1).2.2.1.1; omega, (o5 ka ka1).2.2.1.2⟩ hle
            have cls := serve_tr (q := q) (cl := cl) (kd := 0) h ha hb hc (p := D 96 ka) (by
              have q1 := (h.2.1.2.2.1 a ha).2.1
              have q3 := cn_le (P := PX D 0) no
              unfold f_Mt_priceOf
              rw [if_neg (by decide), if_neg (by decide), if_pos (inb_t (by omega) (by omega)), nI_clamp (by omega), ka5]) e1
            have mdl : L_Md_posted_18 (q1 + 2) (nI g) (nI kb) 1 D = L_Md_posted_18 (q1 + 1) (nI g) (nI kb) (if D' 98 kb ≤ 0 then 0 else 1 : Int32) D' := by
              rw [show q1 + 2 = (q1 + 1) + 1 from rfl, L_Md_posted_18, if_neg i10, el, bd1_s, if_neg (nI_nlt0 (by omega)), if_pos (inb_t (by omega) (by omega)), if_pos (inb_t (by omega) (by omega)), nI_clamp (by omega), nI_clamp (by omega), if_neg (by rw [← ka5, ← l34']; exact hc), bd1_s, if_neg i10, if_pos (inb_t (by omega) (by omega)), if_pos (inb_t (by omega) (by omega)), m_less, bd1_s, amt_comm, e2, bd1_s, bd2_s]
            have d97 : D' 97 = D 97 := e3.2.2 97 (by omega) (by omega)
            have d94 : D' 94 = D 94 := e3.2.2 94 (by omega) (by omega)
            have px : PX D' 1 = PX D 1 := by funext k; unfold PX; rw [d97]
            rcases e4 with ⟨z1, z2⟩ | ⟨z1, z2, z3⟩
            · obtain ⟨C2, D2, r1, r2, r3, r4⟩ := ihQ q (q1 + 1) q' (a + 1) b kb _ C' D' (by omega) (by omega) (by omega) hq' z2 hb hkb (by rw [d97]; exact b97) (by rw [d94]; exact b94) (by rw [px]; exact eb) (hpos.keep d97) rfl
              exact ⟨C2, D2, by rw [cls, if_pos z1]; exact r1, by rw [mdl]; exact r2, r3, e3.trans r4⟩
            · obtain ⟨C2, D2, r1, r2, r3, r4⟩ := ihP (no - (kb + 1)) q q' a (b + 1) (kb + 1) C' D' (by omega) (by omega) (by omega) (by omega) z2 ((hpos.keep d97).both (by rw [d97]; exact b97) (by rw [px]; exact eb) inj)
              have hz0 : D' 98 kb ≤ 0 := by
                have := (z2.1.2.2.1.2.2.2.1.2 kb hkb (by rw [d97]; exact b97)).2.2.1
                rw [px, eb] at this
                rw [Int32.le_iff_toInt_le, Int32.toInt_zero, ← this]
                exact z3
              refine ⟨C2, D2, by rw [cls, if_neg z1]; exact r1, ?_, r3, e3.trans r4⟩
              rw [mdl, if_pos hz0, show L_Md_posted_18 (q1 + 1) (nI g) (nI kb) 0 D' = some D' from if_pos rfl, bd1_s]
              exact r2
    refine ⟨Q, ?_⟩
    intro e
    induction e with
    | zero =>
      intro q q' a b k C D hm hq hk hq' h hpos
      obtain ⟨q, rfl⟩ : ∃ z, q = z + 1 := ⟨q - 1, by omega⟩
      obtain ⟨q', rfl⟩ : ∃ z, q' = z + 1 := ⟨q' - 1, by omega⟩
      have h2 := h.2.2.2.2.1
      have hno := h.1.2.2.1.2.1
      have hbm : b = mb := by
        apply Classical.byContradiction
        intro hne
        obtain ⟨i, i1, i2, i3, i4, -⟩ := pick_at h.1.2.2.1.2.2.2.1 h.2.2.1 (show b < mb by omega)
        have := hpos i b i1 (by omega) i2 i4
        omega
      refine ⟨C, D, serve_end h (Or.inr hbm), ?_, h.1, MF.refl C D g no⟩
      rw [L_Md_posted_2, h.1.2.2.1.1, if_pos (by rw [nI_leI (by omega) (by omega)]; omega)]
    | succ e ihe =>
      intro q q' a b k C D hm hq hk hq' h hpos
      obtain ⟨q', rfl⟩ : ∃ z, q' = z + 1 := ⟨q' - 1, by omega⟩
      have h2 := h.2.2.2.2.1
      have hno := h.1.2.2.1.2.1
      by_cases hh : D 97 k = 1 ∧ D 94 k = nI g
      · obtain ⟨w, w1, w2⟩ := pick_mem h.1.2.2.1.2.2.2.1 h.2.2.1 (show k < no by omega) hh.1 hh.2
        have p1 := hpos k w (by omega) w1 hh.1 w2.symm
        have hbm : b < mb := by omega
        obtain ⟨i, i1, i2, i3, i4, -⟩ := pick_at h.1.2.2.1.2.2.2.1 h.2.2.1 hbm
        have p2 := hpos i b i1 hbm i2 i4
        have hwb : w = b := by
          apply Classical.byContradiction
          intro hne
          have := sv_inc h (show b < w by omega) w1
          have hle : cn (PX D 1) k ≤ cn (PX D 1) i := by
            by_cases hik : k = i
            · rw [hik]; exact Nat.le_refl _
            · exact Nat.le_of_lt (cn_lt (P := PX D 1) (a := k) i (by omega) (by unfold PX; exact decide_eq_true hh.1))
          omega
        have hv : ∃ v, f_Md_isOpen (nI k) (nI g) 1 D = some v ∧ v = (if D 98 k ≤ 0 then 0 else 1 : Int32) := by
          unfold f_Md_isOpen
          rw [if_pos (inb_t (by omega) (by omega)), nI_clamp (by omega), if_pos hh.1, if_pos hh.2]
          exact ⟨_, rfl, rfl⟩
        obtain ⟨v, v1, v2⟩ := hv
        have hm2 : m + 1 + 1 < 3000 ∨ 3000 ≤ m + 1 + 1 := by omega
        rcases hm2 with hm2 | hm2
        · obtain ⟨C', D', r1, r2, r3, r4⟩ := Q q 3000 q' a b k v C D hm hq hm2 (by omega) h hbm (by omega) hh.1 hh.2 (by rw [← hwb]; exact w2.symm) hpos v2
          refine ⟨C', D', r1, ?_, r3, r4⟩
          rw [L_Md_posted_2, h.1.2.2.1.1, if_neg (by rw [nI_leI (by omega) (by omega)]; omega), v1, bd1_s, l1, nI_add]
          exact r2
        · have q1 := h.2.1.2.1
          have q2 := h.2.2.1.2.1
          have q3 := cn_le (P := PX D 0) no
          have q4 := cn_le (P := PX D 1) no
          obtain ⟨C', D', r1, r2, r3, r4⟩ := ihP (e + 1) q (q' + 1) a b k C D (by omega) (by omega) hk hq' h hpos
          exact ⟨C', D', r1, r2, r3, r4⟩
      · obtain ⟨C', D', r1, r2, r3, r4⟩ := ihe q q' a b (k + 1) C D hm hq (by omega) (by omega) h (fun i w hi hw h97 hc => by
          have := hpos i w hi hw h97 hc
          have hne : i ≠ k := fun e => hh ⟨by rw [← e]; exact h97, by
            have s := (h.1.2.2.1.2.2.2.1.2 i hi h97).2.2.2
            rw [hc, (h.2.2.1.2.2.1 w hw).2.2] at s
            rw [← e]; exact s.symm⟩
          omega)
        refine ⟨C', D', r1, ?_, r3, r4⟩
        rw [L_Md_posted_2, h.1.2.2.1.1, if_neg (by rw [nI_leI (by omega) (by omega)]; omega)]
        rcases m_isOpen (D := D) (k := k) (g := g) (x := 1) (by omega) with ⟨ho, _⟩ | ⟨-, eo⟩
        · exact absurd ⟨ho.1, ho.2.1⟩ hh
        · rw [eo, bd1_s, show L_Md_posted_18 3000 (nI g) (nI k) 0 D = some D from if_pos rfl, bd1_s, l1, nI_add]
          exact r2
