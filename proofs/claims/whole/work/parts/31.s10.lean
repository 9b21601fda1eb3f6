/-! PURE: feed -/
theorem toNat_toInt (x : Int32) : (x.toBitVec.toNat : Int) = x.toInt % 4294967296 := by
  have h : x.toInt = x.toBitVec.toInt := rfl
  rw [h, BitVec.toInt_eq_toNat_cond]
  have := x.toBitVec.isLt
  split <;> omega
theorem shr_same (x s1 s2 : Int32) (k : Nat) (h1 : ((s1.toUInt32 &&& Int32.toUInt32 31).toBitVec % 32).toNat = k) (h2 : (s2.toBitVec.smod 32).toNat = k) (hk : k = 0 ∨ k = 8 ∨ k = 16 ∨ k = 24) : (x.toUInt32 >>> (s1.toUInt32 &&& Int32.toUInt32 31)).toInt32 &&& 255 = (x >>> s2) &&& 255 := by
  have e1 := pk_ushr x s1 k h1
  have e2 := pk_shr x s2 k h2
  rw [pk_and _ (m := 255) 8 (by decide), pk_and _ (m := 255) 8 (by decide), e1]
  refine congrArg nI ?_
  have a1 := toNat_toInt (x >>> s2)
  have a2 := toNat_toInt x
  have a3 := x.toBitVec.isLt
  have a4 : x.toInt < 2147483648 := by have := Int32.toInt_lt x; omega
  have a5 : -2147483648 ≤ x.toInt := by have := Int32.le_toInt x; omega
  rw [e2, Int.shiftRight_eq_div_pow] at a1
  rcases hk with rfl | rfl | rfl | rfl
  · omega
  · omega
  · omega
  · omega
/-- the tape's state at length m -/
def TM (C D : St) (m : Nat) : Prop := C 19 0 = nI m ∧ D 88 4 = nI m ∧ ∀ i, i < m → C 20 i = D 92 i ∧ rg (C 20 i) 0 255
theorem TM.put {C D : St} {m : Nat} (h : TM C D m) (x : Int32) (hx : rg x 0 255) : TM (mj_wr (mj_wr C 20 m x) 19 0 (nI (m + 1))) (mj_wr (mj_wr D 92 m x) 88 4 (nI (m + 1))) (m + 1) := by
  refine ⟨wr_same _ _ _ _, wr_same _ _ _ _, fun i hi => ?_⟩
  rw [show mj_wr (mj_wr C 20 m x) 19 0 (nI (m + 1)) 20 i = mj_wr C 20 m x 20 i from wr_cell _ _ (by omega), show mj_wr (mj_wr D 92 m x) 88 4 (nI (m + 1)) 92 i = mj_wr D 92 m x 92 i from wr_cell _ _ (by omega)]
  by_cases hm : i = m
  · subst hm
    rw [wr_same, wr_same]
    exact ⟨rfl, hx⟩
  · rw [wr_idx _ _ hm, wr_idx _ _ hm]
    exact h.2.2 i (by omega)
theorem and255 (x : Int32) : rg (x &&& 255) 0 255 := by
  rw [pk_and x (m := 255) 8 (by decide)]
  exact rg_of (by omega) (by omega) (by omega)
/-- one byte on both sides -/
theorem feed_byte {C D : St} {m n n' : Nat} (h : TM C D m) (hm : m < 60) (x y : Int32) (hy : ¬ y < 0) (e : (x.toUInt32 >>> (Int32.toUInt32 (8 * y) &&& Int32.toUInt32 31)).toInt32 &&& 255 = (x >>> ((8 * y) &&& 31)) &&& 255) : ∃ v : Int32, rg v 0 255 ∧ L_Tp_append_2 (n + 1) x y C = L_Tp_append_2 n x (y + (-1)) (mj_wr (mj_wr C 20 m v) 19 0 (nI (m + 1))) ∧ L_Md_lay_2 (n' + 1) x y D = L_Md_lay_2 n' x (y + (-1)) (mj_wr (mj_wr D 92 m v) 88 4 (nI (m + 1))) := by
  refine ⟨(x >>> ((8 * y) &&& 31)) &&& 255, and255 _, ?_, ?_⟩
  · rw [L_Tp_append_2, if_neg hy, h.1, if_neg (by rw [l60]; exact nI_ge hm (by omega)), if_pos (inb_t hm (by omega)), nI_clamp (by omega), wr_cell _ _ (by omega), h.1, nI_1, e]
  · rw [L_Md_lay_2, if_neg hy, h.2.1, if_pos (inb_t hm (by omega)), nI_clamp (by omega), wr_cell _ _ (by omega), h.2.1, nI_1]
def FR (C D C' D' : St) : Prop := (∀ c, c ≠ 19 → c ≠ 20 → C' c = C c) ∧ (∀ c, c ≠ 88 → c ≠ 92 → D' c = D c) ∧ ∀ i, i ≠ 4 → D' 88 i = D 88 i
theorem FR.put {C D C' D' : St} (h : FR C D C' D') (m : Nat) (v : Int32) : FR C D (mj_wr (mj_wr C' 20 m v) 19 0 (nI (m + 1))) (mj_wr (mj_wr D' 92 m v) 88 4 (nI (m + 1))) := by
  refine ⟨fun c h1 h2 => ?_, fun c h1 h2 => ?_, fun i hi => ?_⟩
  · rw [wr_row _ _ h1, wr_row _ _ h2]; exact h.1 c h1 h2
  · rw [wr_row _ _ h1, wr_row _ _ h2]; exact h.2.1 c h1 h2
  · rw [wr_idx _ _ hi, wr_cell _ _ (by omega)]; exact h.2.2 i hi
/-- four bytes on both sides -/
theorem feed_word {C0 D0 C D : St} {m : Nat} (hf : FR C0 D0 C D) (h : TM C D m) (hm : m + 4 ≤ 60) (x : Int32) : ∃ C' D' : St, f_Tp_append x C = some C' ∧ f_Md_lay x D = some D' ∧ TM C' D' (m + 4) ∧ FR C0 D0 C' D' := by
  obtain ⟨v1, r1, a1, b1⟩ := feed_byte (n := 2999) (n' := 2999) h (by omega) x 3 (by decide) (shr_same x (8 * 3) ((8 * 3) &&& 31) 24 (by decide) (by decide) (by omega))
  have h1 := h.put v1 r1
  have f1 := hf.put m v1
  obtain ⟨v2, r2, a2, b2⟩ := feed_byte (n := 2998) (n' := 2998) h1 (by omega) x 2 (by decide) (shr_same x (8 * 2) ((8 * 2) &&& 31) 16 (by decide) (by decide) (by omega))
  have h2 := h1.put v2 r2
  have f2 := f1.put (m + 1) v2
  obtain ⟨v3, r3, a3, b3⟩ := feed_byte (n := 2997) (n' := 2997) h2 (by omega) x 1 (by decide) (shr_same x (8 * 1) ((8 * 1) &&& 31) 8 (by decide) (by decide) (by omega))
  have h3 := h2.put v3 r3
  have f3 := f2.put (m + 1 + 1) v3
  obtain ⟨v4, r4, a4, b4⟩ := feed_byte (n := 2996) (n' := 2996) h3 (by omega) x 0 (by decide) (shr_same x (8 * 0) ((8 * 0) &&& 31) 0 (by decide) (by decide) (by omega))
  have h4 := h3.put v4 r4
  have f4 := f3.put (m + 1 + 1 + 1) v4
  have e3 : (3 : Int32) + (-1) = 2 := by decide
  have e2 : (2 : Int32) + (-1) = 1 := by decide
  have e1 : (1 : Int32) + (-1) = 0 := by decide
  have e0 : ((0 : Int32) + (-1)) < 0 := by decide
  refine ⟨_, _, ?_, ?_, h4, f4⟩
  · unfold f_Tp_append
    rw [show L_Tp_append_2 3000 x 3 C = _ from a1, e3, show L_Tp_append_2 2999 x 2 _ = _ from a2, e2, show L_Tp_append_2 2998 x 1 _ = _ from a3, e1, show L_Tp_append_2 2997 x 0 _ = _ from a4]
    rw [show L_Tp_append_2 2996 x (0 + (-1)) _ = some _ from by rw [L_Tp_append_2, if_pos e0]]
    rfl
  · unfold f_Md_lay
    rw [show L_Md_lay_2 3000 x 3 D = _ from b1, e3, show L_Md_lay_2 2999 x 2 _ = _ from b2, e2, show L_Md_lay_2 2998 x 1 _ = _ from b3, e1, show L_Md_lay_2 2997 x 0 _ = _ from b4]
    rw [show L_Md_lay_2 2996 x (0 + (-1)) _ = some _ from by rw [L_Md_lay_2, if_pos e0]]
    rfl
theorem sim_feed_ok {t : Nat} {C D : St} (h : Rel t C D) : sim_feed Rel t C D := by
  intro a1 a2 a3 a4 a5
  obtain ⟨hR, ⟨n, d, hW⟩, hWD, ⟨m, hm, m1, m2, m3⟩, hO⟩ := h.mono
  have e20 : nI m + 20 = nI (m + 20) := by rw [l20, nI_add]
  unfold f_Mk_feed f_Md_feed f_Tp_hasRoom
  rw [m1, m2, e20]
  by_cases hroom : m + 20 ≤ 60
  · rw [if_neg (by rw [l60]; exact nI_nlt hroom (by omega)), bd1_s, if_neg i10, if_pos (by rw [l60]; exact nI_le hroom (by omega))]
    have f0 : FR C D C D := ⟨fun _ _ _ => rfl, fun _ _ _ => rfl, fun _ _ => rfl⟩
    obtain ⟨C1, D1, p1, q1, t1, f1⟩ := feed_word f0 ⟨m1, m2, m3⟩ (by omega) a1
    obtain ⟨C2, D2, p2, q2, t2, f2⟩ := feed_word f1 t1 (by omega) a2
    obtain ⟨C3, D3, p3, q3, t3, f3⟩ := feed_word f2 t2 (by omega) a3
    obtain ⟨C4, D4, p4, q4, t4, f4⟩ := feed_word f3 t3 (by omega) a4
    obtain ⟨C5, D5, p5, q5, t5, f5⟩ := feed_word f4 t4 (by omega) a5
    rw [p1, bd1_s, p2, bd1_s, p3, bd1_s, p4, bd1_s, p5, bd1_s, q1, bd1_s, q2, bd1_s, q3, bd1_s, q4, bd1_s, q5, bd1_s]
    refine ⟨_, _, _, rfl, by rw [t5.1, t5.2.1], hR.frame (fun j h1 h2 => f5.1 _ (by omega) (by omega)) (f5.2.1 89 (by omega) (by omega)), ⟨n, d, hW.frame (fun j h1 h2 => f5.1 _ (by omega) (by omega))⟩, hWD.frame (fun j h1 h2 => f5.1 j (by omega) (by omega)) (f5.1 18 (by omega) (by omega)) (f5.2.1 90 (by omega) (by omega)) (f5.2.1 91 (by omega) (by omega)), ⟨_, by omega, t5⟩, by rw [f5.2.2 11 (by omega)]; exact hO⟩
  · rw [if_pos (by rw [l60]; exact nI_lt (by omega) (by omega)), bd1_s, if_pos i01, if_neg (by rw [l60]; exact nI_ge (by omega) (by omega))]
    exact ⟨_, _, _, rfl, rfl, h.mono⟩
