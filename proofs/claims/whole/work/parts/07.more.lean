section MJN
variable {M : mj_M} {pc : Nat} {lv : List (Option Value)} {st : List Value} {mem mem' : mj_Mem} {r : Option Value}
/-- the address of a new cell, by the room's own count -/
theorem mj_newq {E : mj_E} {q : Nat} {e : va_E} {H1 : Heap} (hP : va_P E.1 kCls (mj_wl E mem ++ [(q, e)]) H1) (hD : va_D (mj_A E) (mj_wl E mem ++ [(q, e)])) (hz : H1.size ≤ E.2.2.1 + mem.1.length + 1) : q = E.2.2.1 + mem.1.length := by
  have hl : (mj_wl E mem).length = mem.1.length := by unfold mj_wl; exact List.length_mapIdx
  have hq : (mj_wl E mem ++ [(q, e)])[mem.1.length]? = some (q, e) := by
    rw [List.getElem?_append_right (by omega), hl, Nat.sub_self]
    rfl
  have h1 : q < H1.size := (hP _ _ hq).lt
  have h2 : E.2.2.1 ≤ q := hD.2 _ _ hq
  by_cases hx : q = E.2.2.1 + mem.1.length
  · exact hx
  · have hi : q - E.2.2.1 < mem.1.length := by omega
    have hg : mem.1[q - E.2.2.1]? = some mem.1[q - E.2.2.1] := List.getElem?_eq_getElem hi
    have h3 : (mj_wl E mem ++ [(q, e)])[q - E.2.2.1]? = some (E.2.2.1 + (q - E.2.2.1), mj_cell E mem.1[q - E.2.2.1] (mem.2 (q - E.2.2.1))) := by
      rw [List.getElem?_append_left (by omega)]
      exact mj_wl_get hg
    have h4 := hD.1 _ _ _ _ h3 hq (by show E.2.2.1 + (q - E.2.2.1) = q; omega)
    omega
theorem mj_sz_push (c : Nat × Nat × (Nat → Option Nat)) : mj_sz (mem.1 ++ [c], mem.2) = mj_sz mem + c.2.1 := by
  unfold mj_sz
  simp
theorem mj_push_le {c : Nat × Nat × (Nat → Option Nat)} (h : (mem.1 ++ [c], mem.2).1.length ≤ mem'.1.length ∧ mj_sz (mem.1 ++ [c], mem.2) ≤ mj_sz mem') : mem.1.length + 1 ≤ mem'.1.length ∧ mj_sz mem + c.2.1 ≤ mj_sz mem' := by
  rw [mj_sz_push] at h
  refine ⟨?_, h.2⟩
  have := h.1
  simpa using this
/-- behind the making of a cell -/
theorem mj_born {c0 : Nat × Nat × (Nat → Option Nat)} {N k : Nat} (hN : c0.2.1 = N) (hlen : mem.1.length < 1000000) (kk : mj_R M k lv (.ref mem.1.length :: st) (mem.1 ++ [c0], mem.2) r mem')
    {E : mj_E} {l : Launch} {p : Program} {e : Env} {s : State} {m : MethodId} {args : Array Value} {below : List Frame} {meth : Method} {c : Code} {L0 S0 : Nat} (C : mj_Cx E M p s m args meth c L0) (h1 : L0 ≤ mem.1.length) (h2 : S0 ≤ mj_sz mem) {H1 : Heap} {locs : List Loc} {ls : Array Slot} {q : Nat} (hP : va_P E.1 kCls (mj_wl E mem ++ [(q, mj_cell E c0 (mem.2 mem.1.length))]) H1) (hD : va_D (mj_A E) (mj_wl E mem ++ [(q, mj_cell E c0 (mem.2 mem.1.length))])) (hS : va_S (mj_A E) s.heap H1 locs) (hL : mj_L E ls M.2.2.1 lv) :
    W p l e { frames := M.2.2.2.2.1, cells := mem'.1.length - L0, slots := mj_sz mem' - S0, locals := M.2.2.2.2.2 } s m args below meth c H1 locs (mem.1.length - L0 + 1) (mj_sz mem - S0 + N) (MQ below (mj_Q E r mem') args s (mem'.1.length - L0) (mj_sz mem' - S0) (mj_A E)) (F0 m k ls (.ref q :: st.map (mj_cv E))) := by
  intro T hT X
  have hz : T.heap.size ≤ s.heap.size + (mem.1.length - L0 + 1) := X.same.2.2.1
  have hs := C.2.2.2.2.2.2.2.2.2
  rw [hT] at hz
  have hq : q = E.2.2.1 + mem.1.length := mj_newq hP hD (by omega)
  subst hq
  have hl : (mem.1 ++ [c0], mem.2).1.length = mem.1.length + 1 := by simp
  have k1 := kk.2 E l p e s m args below meth c L0 S0 C (by rw [hl]; omega) (by rw [mj_sz_push]; omega) H1 locs ls (by unfold mj_H; rw [mj_wl_push]; exact hP) hS hL
  rw [mj_sz_push, hl, hN, List.map_cons, mj_adw hlen, show mem.1.length + 1 - L0 = mem.1.length - L0 + 1 by omega, show mj_sz mem + N - S0 = mj_sz mem - S0 + N by omega] at k1
  exact k1 T hT X
theorem mj_hA {E : mj_E} {s : State} {L0 : Nat} (hs : s.heap.size = E.2.2.1 + L0) : ∀ q, s.heap.size ≤ q → mj_A E q := fun q h => by
  show E.2.2.1 ≤ q
  omega
theorem mj_dflt (t : FieldType) (i : Nat) (f : Nat → Int32) (h0 : f i = 0) (h : kFty t = true ∨ t = .int) : defaultValue t = (if kFty t then va_rf ((none : Option Nat).map (fun j => i + j)) else .int (f i)) := by
  rcases h with h | rfl
  · rw [h]
    cases t <;> first | rfl | cases h
  · rw [h0]; rfl
theorem mj_new {ci N idx : Nat} {Cn : String} {T : u_T} (hd : decode M.2.1 pc = .ok (.new idx, 3)) (hc : kCls[ci]? = some (Cn, T, N)) (hw : Cond.classLink M.1.cls idx Cn ∈ TB ∧ Cond.instantiable Cn N ∈ TB ∧ Cond.initialized Cn ∈ TB) (hty : ∀ k, k < N → kFty (kTy ci k) = true ∨ kTy ci k = .int) (hlen : mem.1.length < 1000000) (h0 : ∀ j, mem.2 mem.1.length j = 0)
    (kk : mj_R M (pc + 3) lv (.ref mem.1.length :: st) (mem.1 ++ [(ci + 3, N, fun _ => none)], mem.2) r mem') : mj_R M pc lv st mem r mem' := by
  have hle := mj_push_le kk.1
  dsimp only at hle
  refine ⟨⟨by omega, by omega⟩, fun E l p e s m args below meth c L0 S0 C h1 h2 H locs ls hH hS hL => ?_⟩
  obtain ⟨w1, w2, w3, w4⟩ := kOk hc
  refine va_new (fs := (List.range N).map (fun j => if kRf ci j then va_rf ((none : Option Nat).map (fun i => E.2.2.1 + i)) else Value.int (mem.2 mem.1.length j))) C.1 C.2.1 C.2.2.2.2.1 w1 (kTy ci) w3 C.2.2.2.1 (C.2.2.2.2.1 _ hw.1) (C.2.2.2.2.1 _ hw.2.1) (C.2.2.2.2.1 _ hw.2.2) C.2.2.2.2.2.2.2.2.1.1 hH (mj_D E mem) hS (mj_hA C.2.2.2.2.2.2.2.2.2) hc (fun j hj => ?_) (by show _ ≤ mem'.1.length - L0; omega) (by show _ ≤ mj_sz mem' - S0; omega) hd fun q H1 a1 a2 a3 => ?_
  · show _ = ((List.range N).map (fun j => if kRf ci j then va_rf ((none : Option Nat).map (fun i => E.2.2.1 + i)) else Value.int (mem.2 mem.1.length j))).getD j .null
    rw [List.getD_eq_getElem?_getD, mj_fs (rs := fun _ => none) hj]
    show _ = (if kRf ci j then va_rf none else Value.int (mem.2 mem.1.length j))
    rcases hty j hj with h | h
    · unfold kRf
      rw [h]
      generalize kTy ci j = t at h ⊢
      cases t <;> first | rfl | cases h
    · unfold kRf
      rw [h, h0]
      rfl
  · exact mj_born (c0 := (ci + 3, N, fun _ => none)) rfl hlen kk C h1 h2 a1 a2 a3 hL
theorem mj_newa {n : Int32} {N : Nat} (hd : decode M.2.1 pc = .ok (.newarray .int, 2)) (hw : Cond.arrayClass .int ∈ TB) (hn : ¬ n < 0) (hN : n.toNatClampNeg = N) (hby : N ≤ 100000) (hlen : mem.1.length < 1000000) (h0 : ∀ j, mem.2 mem.1.length j = 0)
    (kk : mj_R M (pc + 2) lv (.ref mem.1.length :: st) (mem.1 ++ [(0, N, fun _ => none)], mem.2) r mem') : mj_R M pc lv (.int n :: st) mem r mem' := by
  have hle := mj_push_le kk.1
  dsimp only at hle
  refine ⟨⟨by omega, by omega⟩, fun E l p e s m args below meth c L0 S0 C h1 h2 H locs ls hH hS hL => ?_⟩
  have hcb : componentBytes FieldType.int = 4 := by decide +kernel
  refine va_newa (atype := .int) (ty := .int) (a0 := (N, .inl (fun _ => 0))) C.1 C.2.1 (C.2.2.2.2.1 _ hw) rfl C.2.2.2.2.2.2.2.2.1.1 hH (mj_D E mem) hS (mj_hA C.2.2.2.2.2.2.2.2.2) (fun _ => rfl) hn hN (by rw [hcb]; omega) (by show _ ≤ mem'.1.length - L0; omega) (by show _ ≤ mj_sz mem' - S0; omega) hd fun q cA H1 a0 a1 a2 a3 => ?_
  have g1 : va_RA s (E.2.1 0) .int := (a0.2 0 _ rfl).2
  have g2 : va_RA s cA .int := (a0.2 3 _ rfl).2
  have g3 : E.2.1 0 = cA := Option.some.inj (Eq.trans (Eq.symm g1) g2)
  subst g3
  have h0' : mem.2 mem.1.length = fun _ => 0 := funext h0
  have e1 : (.inl (E.2.1 0, N, .inl (fun _ => 0)) : va_E) = mj_cell E (0, N, fun _ => none) (mem.2 mem.1.length) := by rw [h0']; rfl
  rw [e1] at a1 a2
  exact mj_born (c0 := (0, N, fun _ => none)) rfl hlen kk C h1 h2 a1 a2 a3 hL
theorem mj_newz {n : Int32} {N : Nat} (hd : decode M.2.1 pc = .ok (.newarray .boolean, 2)) (hw : Cond.arrayClass .boolean ∈ TB) (hn : ¬ n < 0) (hN : n.toNatClampNeg = N) (hby : N ≤ 100000) (hlen : mem.1.length < 1000000) (h0 : ∀ j, mem.2 mem.1.length j = 0)
    (kk : mj_R M (pc + 2) lv (.ref mem.1.length :: st) (mem.1 ++ [(1, N, fun _ => none)], mem.2) r mem') : mj_R M pc lv (.int n :: st) mem r mem' := by
  have hle := mj_push_le kk.1
  dsimp only at hle
  refine ⟨⟨by omega, by omega⟩, fun E l p e s m args below meth c L0 S0 C h1 h2 H locs ls hH hS hL => ?_⟩
  have hcb : componentBytes FieldType.boolean = 1 := by decide +kernel
  refine va_newa (atype := .boolean) (ty := .boolean) (a0 := (N, .inl (fun _ => 0))) C.1 C.2.1 (C.2.2.2.2.1 _ hw) rfl C.2.2.2.2.2.2.2.2.1.1 hH (mj_D E mem) hS (mj_hA C.2.2.2.2.2.2.2.2.2) (fun _ => rfl) hn hN (by rw [hcb]; omega) (by show _ ≤ mem'.1.length - L0; omega) (by show _ ≤ mj_sz mem' - S0; omega) hd fun q cA H1 a0 a1 a2 a3 => ?_
  have g1 : va_RA s (E.2.1 1) .boolean := (a0.2 1 _ rfl).2
  have g2 : va_RA s cA .boolean := (a0.2 3 _ rfl).2
  have g3 : E.2.1 1 = cA := Option.some.inj (Eq.trans (Eq.symm g1) g2)
  subst g3
  have h0' : mem.2 mem.1.length = fun _ => 0 := funext h0
  have e1 : (.inl (E.2.1 1, N, .inl (fun _ => 0)) : va_E) = mj_cell E (1, N, fun _ => none) (mem.2 mem.1.length) := by rw [h0']; rfl
  rw [e1] at a1 a2
  exact mj_born (c0 := (1, N, fun _ => none)) rfl hlen kk C h1 h2 a1 a2 a3 hL
theorem mj_newr {n : Int32} {N idx : Nat} (hd : decode M.2.1 pc = .ok (.anewarray idx, 3)) (hw : Cond.classLink M.1.cls idx "MarketTown$Town" ∈ TB) (hn : ¬ n < 0) (hN : n.toNatClampNeg = N) (hby : N ≤ 100000) (hlen : mem.1.length < 1000000)
    (kk : mj_R M (pc + 3) lv (.ref mem.1.length :: st) (mem.1 ++ [(2, N, fun _ => none)], mem.2) r mem') : mj_R M pc lv (.int n :: st) mem r mem' := by
  have hle := mj_push_le kk.1
  dsimp only at hle
  refine ⟨⟨by omega, by omega⟩, fun E l p e s m args below meth c L0 S0 C h1 h2 H locs ls hH hS hL => ?_⟩
  have hG := C.2.2.2.2.2.2.2.2.1
  refine va_newq C.1 C.2.1 C.2.2.2.1 (C.2.2.2.2.1 _ hw) hG.2.2.2.2.2.2.2 hG.1 hH (mj_D E mem) hS (mj_hA C.2.2.2.2.2.2.2.2.2) hn hN (by omega) (by show _ ≤ mem'.1.length - L0; omega) (by show _ ≤ mj_sz mem' - S0; omega) hd fun q cA H1 a0 a1 a2 a3 => ?_
  have g1 : va_RA s (E.2.1 2) (.object "MarketTown$Town") := (a0.2 2 _ rfl).2
  have g2 : va_RA s cA (.object "MarketTown$Town") := (a0.2 3 _ rfl).2
  have g3 : E.2.1 2 = cA := by
    obtain ⟨_, _, _, _, _, x1⟩ := g1
    obtain ⟨_, _, _, _, _, x2⟩ := g2
    exact Option.some.inj (x1.symm.trans x2)
  subst g3
  exact mj_born (c0 := (2, N, fun _ => none)) rfl hlen kk C h1 h2 a1 a2 a3 hL
theorem mj_obj {idx b : Nat} (hd : decode M.2.1 pc = .ok (.invokespecial idx, 3)) (hw : Cond.methodLink M.1.cls idx Lib.objectInit ∈ TB ∧ Cond.instanceMethod Lib.objectInit ∈ TB ∧ Cond.code Lib.objectInit ⟨#[0xb1]⟩ 1 none ∈ TB) (hb : b < 1000000) (hf : 1 ≤ M.2.2.2.2.1) (hr : (st.map fun v => v.category).sum + 12 ≤ M.2.2.2.2.2)
    (kk : mj_R M (pc + 3) lv st mem r mem') : mj_R M pc lv (.ref b :: st) mem r mem' :=
  ⟨kk.1, fun E l p e s m args below meth c L0 S0 C h1 h2 H locs ls hH hS hL => by
    rw [List.map_cons, mj_adw hb]
    refine W.objInit C.1 C.2.1 C.2.2.2.1 (C.2.2.2.2.1 _ hw.1) (C.2.2.2.2.1 _ hw.2.1) (C.2.2.2.2.1 _ hw.2.2) rfl (hL.1.trans C.2.2.1.symm) rfl hd hf ?_ (kk.2 E l p e s m args below meth c L0 S0 C h1 h2 H locs ls hH hS hL)
    show 2 * (F0 m pc ls _).monitorRoom + ((st.map (mj_cv E)).map fun v => v.category).sum + 12 ≤ M.2.2.2.2.2
    rw [mj_cats C.2.2.2.2.2.2.2.2.1.2.2.2.2.2.2.1]
    have hm : (F0 m pc ls (.ref (E.2.2.1 + b) :: st.map (mj_cv E))).monitorRoom = 0 := rfl
    rw [hm]
    omega⟩
/-- arrays copied -/
def mj_cp (f : Nat → Nat → Int32) (a b : Nat) (sp dp n : Nat) : Nat → Nat → Int32 := fun i => if i = b then va_cpy (f a) (f b) sp dp n else f i
theorem mj_copy {idx a b n0 n1 : Nat} {rs0 rs1 : Nat → Option Nat} {sp dp n : Int32} (hd : decode M.2.1 pc = .ok (.invokestatic idx, 3)) (hw : Cond.methodLink M.1.cls idx arraycopyName ∈ TB ∧ Cond.native arraycopyName ∈ TB ∧ Cond.static arraycopyName ∈ TB ∧ Cond.initialized "java/lang/System" ∈ TB) (hc0 : mem.1[a]? = some (0, n0, rs0)) (hc1 : mem.1[b]? = some (0, n1, rs1)) (ha : a < 1000000) (hb : b < 1000000)
    (h3 : ¬ sp < 0) (h4 : ¬ dp < 0) (h5 : ¬ n < 0) (h6 : sp.toNatClampNeg + n.toNatClampNeg ≤ n0) (h7 : dp.toNatClampNeg + n.toNatClampNeg ≤ n1) (hf : 1 ≤ M.2.2.2.2.1) (hr : (st.map fun v => v.category).sum + (nativeFrameWords "java/lang/System" "arraycopy" 5 + 11) ≤ M.2.2.2.2.2)
    (kk : mj_R M (pc + 3) lv st (mem.1, mj_cp mem.2 a b sp.toNatClampNeg dp.toNatClampNeg n.toNatClampNeg) r mem') : mj_R M pc lv (.int n :: .int dp :: .ref b :: .int sp :: .ref a :: st) mem r mem' :=
  ⟨kk.1, fun E l p e s m args below meth c L0 S0 C h1 h2 H locs ls hH hS hL => by
    rw [List.map_cons, List.map_cons, List.map_cons, List.map_cons, List.map_cons, mj_adw ha, mj_adw hb]
    refine va_copyi C.1 C.2.1 (C.2.2.1.trans hL.1.symm) C.2.2.2.1 (C.2.2.2.2.1 _ hw.1) (C.2.2.2.2.1 _ hw.2.1) (C.2.2.2.2.1 _ hw.2.2.1) (C.2.2.2.2.1 _ hw.2.2.2) C.2.2.2.2.2.2.2.2.1.1 hH (mj_D E mem) hS a b 0 0 (mj_wl_get hc0) (mj_wl_get hc1) rfl rfl rfl h3 h4 h5 h6 h7 (fun i hi => rfl) hf (by rw [mj_cats C.2.2.2.2.2.2.2.2.1.2.2.2.2.2.2.1]; exact hr) hd fun H1 locs1 a1 a2 a3 => ?_
    refine kk.2 E l p e s m args below meth c L0 S0 C h1 h2 H1 locs1 ls ?_ a3 hL
    unfold mj_H
    rw [← mj_wl_set (E := E) (g := mj_cp mem.2 a b sp.toNatClampNeg dp.toNatClampNeg n.toNatClampNeg) hc1 (fun i hi => if_neg hi)]
    have e1 : mj_cp mem.2 a b sp.toNatClampNeg dp.toNatClampNeg n.toNatClampNeg b = va_cpy (mem.2 a) (mem.2 b) sp.toNatClampNeg dp.toNatClampNeg n.toNatClampNeg := if_pos rfl
    rw [e1]
    exact a1⟩
/-- Strings -/
theorem mj_adK {E : mj_E} {j : Nat} (hj : j < 14) : mj_cv E (.ref (1000000 + j)) = .ref (E.2.2.2.1 j) := by
  show mj_ad E (1000000 + j) = _
  unfold mj_ad
  rw [if_neg (by omega), if_pos (by omega), Nat.add_sub_cancel_left]
theorem mj_adV {E : mj_E} {j : Nat} (hj : j < 14) : mj_cv E (.ref (2000000 + j)) = .ref (E.2.2.2.2.1 j) := by
  show mj_ad E (2000000 + j) = _
  unfold mj_ad
  rw [if_neg (by omega), if_neg (by omega), if_pos (by omega), Nat.add_sub_cancel_left]
theorem mj_ldcS {idx j : Nat} (hd : decode M.2.1 pc = .ok (.ldc idx, 2)) (ho : M.1.cls = "MarketTown$RuleReader") (hj : j < 14) (hi : kSix.getD j 0 = idx)
    (kk : mj_R M (pc + 2) lv (.ref (1000000 + j) :: st) mem r mem') : mj_R M pc lv st mem r mem' :=
  ⟨kk.1, fun E l p e s m args below meth c L0 S0 C h1 h2 H locs ls hH hS hL => by
    have k1 := kk.2 E l p e s m args below meth c L0 S0 C h1 h2 H locs ls hH hS hL
    rw [List.map_cons, mj_adK hj] at k1
    subst hi
    exact va_ldcS C.1 C.2.1 (ho ▸ C.2.2.2.1) (C.2.2.2.2.2.2.2.2.1.2.2.1 j hj) hd k1⟩
theorem mj_sval {idx j : Nat} (hd : decode M.2.1 pc = .ok (.getfield idx, 3)) (hj : j < 14) (hl : Cond.fieldLink M.1.cls idx "java/lang/String" "value" "[B" ∈ TB)
    (kk : mj_R M (pc + 3) lv (.ref (2000000 + j) :: st) mem r mem') : mj_R M pc lv (.ref (1000000 + j) :: st) mem r mem' :=
  ⟨kk.1, fun E l p e s m args below meth c L0 S0 C h1 h2 H locs ls hH hS hL => by
    have k1 := kk.2 E l p e s m args below meth c L0 S0 C h1 h2 H locs ls hH hS hL
    rw [List.map_cons, mj_adV hj] at k1
    rw [List.map_cons, mj_adK hj]
    exact vk_getf C.1 C.2.1 (C.2.2.2.2.2.2.2.2.1.2.2.2.1.1 j hj).2.2.1 hS C.2.2.2.1 (C.2.2.2.2.1 _ hl) (fun x h => h) hd k1⟩
theorem mj_scod {idx j : Nat} (hd : decode M.2.1 pc = .ok (.getfield idx, 3)) (hj : j < 14) (hl : Cond.fieldLink M.1.cls idx "java/lang/String" "coder" "B" ∈ TB)
    (kk : mj_R M (pc + 3) lv (.int 0 :: st) mem r mem') : mj_R M pc lv (.ref (1000000 + j) :: st) mem r mem' :=
  ⟨kk.1, fun E l p e s m args below meth c L0 S0 C h1 h2 H locs ls hH hS hL => by
    have k1 := kk.2 E l p e s m args below meth c L0 S0 C h1 h2 H locs ls hH hS hL
    rw [List.map_cons, mj_adK hj]
    exact vk_getf C.1 C.2.1 (C.2.2.2.2.2.2.2.2.1.2.2.2.1.1 j hj).2.1 hS C.2.2.2.1 (C.2.2.2.2.1 _ hl) (fun x h => h) hd k1⟩
theorem mj_scst {idx : Nat} (hd : decode M.2.1 pc = .ok (.getstatic idx, 3)) (hl : Cond.fieldLink M.1.cls idx "java/lang/String" "COMPACT_STRINGS" "Z" ∈ TB)
    (kk : mj_R M (pc + 3) lv (.int 1 :: st) mem r mem') : mj_R M pc lv st mem r mem' :=
  ⟨kk.1, fun E l p e s m args below meth c L0 S0 C h1 h2 H locs ls hH hS hL =>
    va_gets C.1 C.2.1 C.2.2.2.2.2.2.2.2.1.2.2.2.2.1 hS C.2.2.2.1 (C.2.2.2.2.1 _ hl) (fun x h => h) hd (kk.2 E l p e s m args below meth c L0 S0 C h1 h2 H locs ls hH hS hL)⟩
theorem mj_sfmt {idx : Nat} (hd : decode M.2.1 pc = .ok (.getstatic idx, 3)) (hl : Cond.fieldLink M.1.cls idx "jdk/internal/util/Preconditions" "SIOOBE_FORMATTER" "Ljava/util/function/BiFunction;" ∈ TB)
    (kk : mj_R M (pc + 3) lv (.ref 3000000 :: st) mem r mem') : mj_R M pc lv st mem r mem' :=
  ⟨kk.1, fun E l p e s m args below meth c L0 S0 C h1 h2 H locs ls hH hS hL => by
    have k1 := kk.2 E l p e s m args below meth c L0 S0 C h1 h2 H locs ls hH hS hL
    have e1 : mj_cv E (.ref 3000000) = E.2.2.2.2.2 := by
      show mj_ad E 3000000 = _
      unfold mj_ad
      rw [if_neg (by omega), if_neg (by omega), if_neg (by omega)]
    rw [List.map_cons, e1] at k1
    exact va_gets C.1 C.2.1 C.2.2.2.2.2.2.2.2.1.2.2.2.2.2.1 hS C.2.2.2.1 (C.2.2.2.2.1 _ hl) (fun x h => h) hd k1⟩
theorem mj_slen {j : Nat} (hd : decode M.2.1 pc = .ok (.arraylength, 1)) (hj : j < 14)
    (kk : mj_R M (pc + 1) lv (.int (Int32.ofNat (kSln.getD j 0)) :: st) mem r mem') : mj_R M pc lv (.ref (2000000 + j) :: st) mem r mem' :=
  ⟨kk.1, fun E l p e s m args below meth c L0 S0 C h1 h2 H locs ls hH hS hL => by
    rw [List.map_cons, mj_adV hj]
    exact va_tlen C.1 C.2.1 (C.2.2.2.2.2.2.2.2.1.2.2.2.1.1 j hj).2.2.2 hS rfl hd (kk.2 E l p e s m args below meth c L0 S0 C h1 h2 H locs ls hH hS hL)⟩
theorem mj_sbyt {j : Nat} {i : Int32} (hd : decode M.2.1 pc = .ok (.baload, 1)) (hj : j < 14) (hi : vp_in i (kSln.getD j 0))
    (kk : mj_R M (pc + 1) lv (.int ((kSby.getD j []).getD i.toNatClampNeg 0) :: st) mem r mem') : mj_R M pc lv (.int i :: .ref (2000000 + j) :: st) mem r mem' :=
  ⟨kk.1, fun E l p e s m args below meth c L0 S0 C h1 h2 H locs ls hH hS hL => by
    rw [List.map_cons, List.map_cons, mj_adV hj]
    exact va_tb C.1 C.2.1 (C.2.2.2.2.2.2.2.2.1.2.2.2.1.1 j hj).2.2.2 hS hi rfl hd (kk.2 E l p e s m args below meth c L0 S0 C h1 h2 H locs ls hH hS hL)⟩
end MJN
