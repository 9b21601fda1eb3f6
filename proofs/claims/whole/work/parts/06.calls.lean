section MJC
variable {M : mj_M} {pc : Nat} {lv : List (Option Value)} {st : List Value} {mem mem' : mj_Mem} {r : Option Value}
/-- the locals at a method's entry -/
def mj_ent : List Value → List (Option Value)
  | [] => []
  | v :: vs => if v.category = 2 then some v :: none :: mj_ent vs else some v :: mj_ent vs
theorem mj_ent_at (E : mj_E) (hE : E.2.2.2.2.2.category = 1) (vs : List Value) : ∀ (i j : Nat) (v : Value), (mj_ent vs)[j]? = some (some v) → (i + j, mj_cv E v) ∈ lv_args i (vs.map (mj_cv E)) := by
  induction vs with
  | nil => intro i j v h; simp [mj_ent] at h
  | cons a vs ih =>
    intro i j v h
    unfold mj_ent at h
    show _ ∈ (i, mj_cv E a) :: lv_args (if (mj_cv E a).category = 2 then i + 2 else i + 1) (vs.map (mj_cv E))
    rw [mj_cat hE]
    by_cases hc : a.category = 2
    · rw [if_pos hc] at h ⊢
      match j, h with
      | 0, h => simp at h; subst h; exact List.mem_cons_self
      | 1, h => simp at h
      | j + 2, h =>
        have h' : (mj_ent vs)[j]? = some (some v) := by simpa using h
        have := ih (i + 2) j v h'
        rw [show i + (j + 2) = i + 2 + j by omega]
        exact List.mem_cons_of_mem _ this
    · rw [if_neg hc] at h ⊢
      match j, h with
      | 0, h => simp at h; subst h; exact List.mem_cons_self
      | j + 1, h =>
        have h' : (mj_ent vs)[j]? = some (some v) := by simpa using h
        have := ih (i + 1) j v h'
        rw [show i + (j + 1) = i + 1 + j by omega]
        exact List.mem_cons_of_mem _ this
theorem mj_sl_len (E : mj_E) (hE : E.2.2.2.2.2.category = 1) (vs : List Value) : (lg_sl (vs.map (mj_cv E))).length = (mj_ent vs).length := by
  induction vs with
  | nil => rfl
  | cons a vs ih =>
    have e1 : (lg_sl ((a :: vs).map (mj_cv E))).length = (if (mj_cv E a).category = 2 then [Slot.val (mj_cv E a), Slot.second] else [Slot.val (mj_cv E a)]).length + (lg_sl (vs.map (mj_cv E))).length := by
      simp [lg_sl]
    rw [e1, ih, mj_cat hE]
    show _ = (if a.category = 2 then some a :: none :: mj_ent vs else some a :: mj_ent vs).length
    by_cases hc : a.category = 2
    · rw [if_pos hc, if_pos hc]; simp; omega
    · rw [if_neg hc, if_neg hc]; simp; omega
def mj_lv (n : Nat) (vs : List Value) : List (Option Value) := mj_ent vs ++ List.replicate (n - (mj_ent vs).length) none
def mj_ws (M : mj_M) : List Cond := Cond.code M.1 M.2.1 M.2.2.1 M.2.2.2.1 :: TB
def mj_P (E : mj_E) (vs : List Value) (mem : mj_Mem) : Array Value → State → Prop := fun a U => a = (vs.map (mj_cv E)).toArray ∧ mj_H E mem U.heap ∧ U.heap.size = E.2.2.1 + mem.1.length ∧ mj_G E U
theorem mj_blind (E : mj_E) (vs : List Value) (mem : mj_Mem) : FrameBlind (mj_P E vs mem) := fun a U g mk h => ⟨h.1, h.2.1, h.2.2.1, h.2.2.2.same rfl rfl⟩
/-- a judgement at a method's entry is a contract -/
theorem mj_met {vs : List Value} (hR : mj_R M 0 (mj_lv M.2.2.1 vs) [] mem r mem') (hn : plainName M.1.cls = true) (hl : (mj_ent vs).length ≤ M.2.2.1) (E : mj_E) (l : Launch) :
    Met l M.1 (mj_ws M) { frames := M.2.2.2.2.1, cells := mem'.1.length - mem.1.length, slots := mj_sz mem' - mj_sz mem, locals := M.2.2.2.2.2 } (mj_P E vs mem) (mj_Q E r mem') (mem'.1.length - mem.1.length) (mj_sz mem' - mj_sz mem) (mj_A E) := by
  refine Met.ofW (cc := M.2.1) (maxL := M.2.2.1) (ret := M.2.2.2.1) hn rfl ?_
  intro p e s m args below meth c s₁ B hml hv
  obtain ⟨ha, hH, hsz, hG⟩ := hv
  have hE : E.2.2.2.2.2.category = 1 := hG.2.2.2.2.2.2.1
  have hts := atoms_spec (ws := mj_ws M) B.pre
  have hown : s.vm.findClass M.1.cls = some m.cls := findClass_of_methodNamed B.named
  have hin : meth.name = M.1.name := (name_of_methodNamed B.named B.method).1
  have C : mj_Cx E M p s m args meth c mem.1.length := ⟨B.exec, B.bytes, hml, hown, fun w hw => hts w (List.mem_cons_of_mem _ hw), B.returns, B.notSynchronized, hin, hG, hsz⟩
  rw [ha, lg_entry_eq]
  have hls := lv_entry (vs.map (mj_cv E)) (n := M.2.2.1) (by rw [mj_sl_len E hE]; exact hl)
  have k1 := hR.2 E l p e s m args below meth c mem.1.length (mj_sz mem) C (Nat.le_refl _) (Nat.le_refl _) s.heap [] _ hH va_S.rf ⟨hls.1, hls.2.1, fun i v hi => ?_⟩
  · rw [Nat.sub_self, Nat.sub_self, ha] at k1
    exact k1
  · refine hls.2.2 (i, mj_cv E v) ?_
    unfold mj_lv at hi
    by_cases hlt : i < (mj_ent vs).length
    · rw [List.getElem?_append_left hlt] at hi
      have := mj_ent_at E hE vs 0 i v hi
      rw [Nat.zero_add] at this
      exact this
    · rw [List.getElem?_append_right (by omega), List.getElem?_replicate] at hi
      split at hi <;> cases hi
/-- behind a call -/
theorem mj_go {E : mj_E} {p : Program} {l : Launch} {e : Env} {R : Room} {s : State} {m : MethodId} {args : Array Value} {below : List Frame} {meth : Method} {c : Code} {H : Heap} {locs : List Loc} {cells slots mc ms : Nat} {Q : State → Prop} {ls : Array Slot} {st0 rest : List Value} {a : Array Value} {r1 : Option Value} {mem1 : mj_Mem}
    (hr : va_Run p l e R s m args below meth c H locs cells slots mc ms (F0 m pc ls st0) rest (mj_Q E r1 mem1 a) (mj_A E)) (hS : va_S (mj_A E) s.heap H locs)
    (kk : ∀ (H1 : Heap) (locs1 : List Loc), mj_H E mem1 H1 → va_S (mj_A E) s.heap H1 locs1 → W p l e R s m args below meth c H1 locs1 (cells + mc) (slots + ms) Q (F0 m (pc + 3) ls ((r1.map (mj_cv E)).toList ++ rest))) : W p l e R s m args below meth c H locs cells slots Q (F0 m pc ls st0) := by
  intro T hT X
  obtain ⟨v, st₀, t, T', L, h0, X', hL, e1, e2, ⟨hv, hm, hz, hk⟩, st⟩ := hr T hT X
  cases hv
  rw [h0] at hz hk
  obtain ⟨t2, a1, b1⟩ := kk T'.heap (locs ++ L) (by rw [e1]; exact hm) ⟨Nat.le_trans hS.1 (by rw [e1]; exact hz), fun q h1 h2 => by rw [e1, hk q (Nat.lt_of_lt_of_le h1 hS.1) h2]; exact hS.2.1 q h1 h2, fun q hq => by
      rcases List.mem_append.mp hq with h | h
      · exact hS.2.2 q h
      · exact hL q h⟩ T' rfl X'
  exact ⟨t2, st t2 a1, b1⟩
/-- what the tables say of a call from class own to method M2: by a link of its own class, or of a nest mate -/
def mj_B (M M2 : mj_M) (n : Nat) : Prop := (Cond.code M2.1 M2.2.1 M2.2.2.1 M2.2.2.2.1 ∈ TB) ∧ Cond.initialized M2.1.cls ∈ TB ∧ (M2.1.cls ≠ "java/lang/invoke/MethodHandle" ∧ M2.1.cls ≠ "java/lang/invoke/VarHandle") ∧ (parseMethodDescriptor M2.1.desc).map (fun d => d.parameters.length) = some n ∧ plainName M2.1.cls = true ∧ M2.2.2.2.2.1 + 1 ≤ M.2.2.2.2.1 ∧ 8 + (M2.2.2.1 + 11) + M2.2.2.2.2.2 ≤ M.2.2.2.2.2
def mj_lk (own : String) (idx : Nat) (y : MethodName) : Prop := Cond.methodLink own idx y ∈ TB ∨ ∃ h : String, (own, idx, y, h) ∈ kNest
theorem mj_good {M2 : mj_M} (h : Cond.code M2.1 M2.2.1 M2.2.2.1 M2.2.2.2.1 ∈ TB) : GoodIn TB (mj_ws M2) := by
  intro w hw
  have hm : w ∈ TB := by
    rcases List.mem_cons.mp hw with rfl | h1
    · exact h
    · exact h1
  exact ⟨hm, good_of_word (List.mem_filter.mp hm).2⟩
section call
variable {M2 : mj_M} {n idx : Nat} {vs : List Value} {r1 : Option Value} {mem1 : mj_Mem}
theorem mj_callS (hd : decode M.2.1 pc = .ok (.invokestatic idx, 3)) (hB : mj_B M M2 n) (hl : mj_lk M.1.cls idx M2.1) (hst : Cond.static M2.1 ∈ TB) (hvs : vs.length = n) (hen : (mj_ent vs).length ≤ M2.2.2.1) (hw : (st.map fun v => v.category).sum ≤ 8)
    (hR : mj_R M2 0 (mj_lv M2.2.2.1 vs) [] mem r1 mem1) (kk : mj_R M (pc + 3) lv (r1.toList ++ st) mem1 r mem') : mj_R M pc lv (vs.reverse ++ st) mem r mem' := by
  refine ⟨⟨Nat.le_trans hR.1.1 kk.1.1, Nat.le_trans hR.1.2 kk.1.2⟩, fun E l p e s m args below meth c L0 S0 C h1 h2 H locs ls hH hS hL => ?_⟩
  obtain ⟨b1, b2, b3, b4, b5, b6, b7⟩ := hB
  have hE : E.2.2.2.2.2.category = 1 := C.2.2.2.2.2.2.2.2.1.2.2.2.2.2.2.1
  have hM := mj_met hR b5 hen E l
  refine mj_size hH C.2.2.2.2.2.2.2.2.2 h1 fun hsz => ?_
  have hf : mem.1.length - L0 + (mem1.1.length - mem.1.length) ≤ mem'.1.length - L0 ∧ mj_sz mem - S0 + (mj_sz mem1 - mj_sz mem) ≤ mj_sz mem' - S0 := by
    have a1 := hR.1.1; have a2 := hR.1.2; have a3 := kk.1.1; have a4 := kk.1.2
    omega
  have hpre : PreS s H (mj_P E vs mem) (vs.map (mj_cv E)) := ⟨mj_blind E vs mem, fun U hU hW => ⟨rfl, by rw [hU]; exact hH, by rw [hU]; exact hsz, C.2.2.2.2.2.2.2.2.1.moved hW hU hS⟩⟩
  have fix : CallFix p m c M.2.1 M.2.2.1 s args TB M.1.cls := ⟨C.1, C.2.1, C.2.2.1, C.2.2.2.1, C.2.2.2.2.1⟩
  have hst0 : (vs.reverse ++ st).map (mj_cv E) = (vs.map (mj_cv E)).reverse ++ st.map (mj_cv E) := by rw [List.map_append, List.map_reverse]
  have hroom : 2 * (F0 m pc ls ((vs.reverse ++ st).map (mj_cv E))).monitorRoom + ((st.map (mj_cv E)).map fun v => v.category).sum ≤ 8 := lv_room (by rw [mj_cats hE]; exact hw)
  have run : va_Run p l e { frames := M.2.2.2.2.1, cells := mem'.1.length - L0, slots := mj_sz mem' - S0, locals := M.2.2.2.2.2 } s m args below meth c H locs (mem.1.length - L0) (mj_sz mem - S0) (mem1.1.length - mem.1.length) (mj_sz mem1 - mj_sz mem) (F0 m pc ls ((vs.reverse ++ st).map (mj_cv E))) (st.map (mj_cv E)) (mj_Q E r1 mem1 (vs.map (mj_cv E)).toArray) (mj_A E) := by
    rcases hl with hl | ⟨h, hl⟩
    · exact va_runS (n := n) fix hM ⟨callB_of n C.2.2.2.2.1 (mj_good b1) rfl rfl rfl (C.2.2.2.2.1 _ b2) (C.2.2.2.2.1 _ hl) ⟨b3.1, b3.2, b4⟩ ⟨b6, b7⟩, C.2.2.2.2.1 _ hst⟩ hpre rfl (by rw [List.length_map]; exact hvs) hL.1 hst0 hroom hd hf
    · exact va_runSN (n := n) (host := h) fix hM ⟨va_cnB n C.2.2.2.2.1 (mj_good b1) rfl rfl rfl (C.2.2.2.2.2.2.2.2.1.2.1 _ hl) (C.2.2.2.2.1 _ b2) ⟨b3.1, b3.2, b4⟩ ⟨b6, b7⟩, C.2.2.2.2.1 _ hst, trivial⟩ hpre rfl (by rw [List.length_map]; exact hvs) hL.1 hst0 hroom hd hf
  refine mj_go run hS fun H1 locs1 hH1 hS1 => ?_
  have k1 := kk.2 E l p e s m args below meth c L0 S0 C (Nat.le_trans h1 hR.1.1) (Nat.le_trans h2 hR.1.2) H1 locs1 ls hH1 hS1 hL
  have e1 : mem.1.length - L0 + (mem1.1.length - mem.1.length) = mem1.1.length - L0 := by have a1 := hR.1.1; omega
  have e2 : mj_sz mem - S0 + (mj_sz mem1 - mj_sz mem) = mj_sz mem1 - S0 := by have a1 := hR.1.2; omega
  have e3 : (r1.map (mj_cv E)).toList ++ st.map (mj_cv E) = (r1.toList ++ st).map (mj_cv E) := by cases r1 <;> rfl
  rw [e1, e2, e3]
  exact k1
/-- a receiver: an object of our own, or a String -/
def mj_rc (mem : mj_Mem) (b : Nat) (C : String) : Prop := (b < 1000000 ∧ ∃ (ci n : Nat) (rs : Nat → Option Nat) (T : u_T) (N : Nat), mem.1[b]? = some (ci + 3, n, rs) ∧ kCls[ci]? = some (C, T, N)) ∨ ∃ j : Nat, j < 14 ∧ b = 1000000 + j ∧ C = "java/lang/String"
theorem mj_recv {E : mj_E} {s : State} {H : Heap} {locs : List Loc} {b : Nat} {C : String} (h : mj_rc mem b C) (hG : mj_G E s) (hH : mj_H E mem H) (hS : va_S (mj_A E) s.heap H locs) : ∃ a : Nat, mj_cv E (.ref b) = .ref a ∧ ∃ cell : Cell, H[a]? = some cell ∧ cell.vm.isStatics = false ∧ s.vm.findClass C = some cell.cls := by
  rcases h with ⟨hb, ci, n, rs, T, N, h1, h2⟩ | ⟨j, hj, rfl, rfl⟩
  · exact ⟨_, mj_adw hb, va_recv hG.1 hH h2 (mj_wl_get h1)⟩
  · refine ⟨E.2.2.2.1 j, ?_, vk_recv hG.2.2.2.1 hj hS⟩
    show mj_ad E (1000000 + j) = _
    unfold mj_ad
    rw [if_neg (by omega), if_pos (by omega), Nat.add_sub_cancel_left]
theorem mj_callV {b : Nat} (hd : decode M.2.1 pc = .ok (.invokevirtual idx, 3)) (hB : mj_B M M2 n) (hl : mj_lk M.1.cls idx M2.1) (hst : Cond.instanceMethod M2.1 ∈ TB ∧ Cond.selects M2.1.cls M2.1 M2.1 ∈ TB) (hrc : mj_rc mem b M2.1.cls) (hvs : vs.length = n) (hen : (mj_ent (.ref b :: vs)).length ≤ M2.2.2.1) (hw : (st.map fun v => v.category).sum ≤ 8)
    (hR : mj_R M2 0 (mj_lv M2.2.2.1 (.ref b :: vs)) [] mem r1 mem1) (kk : mj_R M (pc + 3) lv (r1.toList ++ st) mem1 r mem') : mj_R M pc lv (vs.reverse ++ .ref b :: st) mem r mem' := by
  refine ⟨⟨Nat.le_trans hR.1.1 kk.1.1, Nat.le_trans hR.1.2 kk.1.2⟩, fun E l p e s m args below meth c L0 S0 C h1 h2 H locs ls hH hS hL => ?_⟩
  obtain ⟨b1, b2, b3, b4, b5, b6, b7⟩ := hB
  have hE : E.2.2.2.2.2.category = 1 := C.2.2.2.2.2.2.2.2.1.2.2.2.2.2.2.1
  have hM := mj_met hR b5 hen E l
  obtain ⟨a, ha, hcell⟩ := mj_recv hrc C.2.2.2.2.2.2.2.2.1 hH hS
  refine mj_size hH C.2.2.2.2.2.2.2.2.2 h1 fun hsz => ?_
  have hf : mem.1.length - L0 + (mem1.1.length - mem.1.length) ≤ mem'.1.length - L0 ∧ mj_sz mem - S0 + (mj_sz mem1 - mj_sz mem) ≤ mj_sz mem' - S0 := by
    have a1 := hR.1.1; have a2 := hR.1.2; have a3 := kk.1.1; have a4 := kk.1.2
    omega
  have hargs : (.ref b :: vs).map (mj_cv E) = .ref a :: vs.map (mj_cv E) := by rw [List.map_cons, ha]
  have hpre : PreV s H M2.1.cls a (mj_P E (.ref b :: vs) mem) (vs.map (mj_cv E)) := ⟨mj_blind E _ mem, hcell, fun U hU hW => ⟨by rw [hargs], by rw [hU]; exact hH, by rw [hU]; exact hsz, C.2.2.2.2.2.2.2.2.1.moved hW hU hS⟩⟩
  have fix : CallFix p m c M.2.1 M.2.2.1 s args TB M.1.cls := ⟨C.1, C.2.1, C.2.2.1, C.2.2.2.1, C.2.2.2.2.1⟩
  have hst0 : (vs.reverse ++ .ref b :: st).map (mj_cv E) = (vs.map (mj_cv E)).reverse ++ .ref a :: st.map (mj_cv E) := by rw [List.map_append, List.map_reverse, List.map_cons, ha]
  have hroom : 2 * (F0 m pc ls ((vs.reverse ++ .ref b :: st).map (mj_cv E))).monitorRoom + ((st.map (mj_cv E)).map fun v => v.category).sum ≤ 8 := lv_room (by rw [mj_cats hE]; exact hw)
  have run : va_Run p l e { frames := M.2.2.2.2.1, cells := mem'.1.length - L0, slots := mj_sz mem' - S0, locals := M.2.2.2.2.2 } s m args below meth c H locs (mem.1.length - L0) (mj_sz mem - S0) (mem1.1.length - mem.1.length) (mj_sz mem1 - mj_sz mem) (F0 m pc ls ((vs.reverse ++ .ref b :: st).map (mj_cv E))) (st.map (mj_cv E)) (mj_Q E r1 mem1 (Value.ref a :: vs.map (mj_cv E)).toArray) (mj_A E) := by
    rcases hl with hl | ⟨h, hl⟩
    · exact va_runV (n := n) fix hM ⟨callB_of n C.2.2.2.2.1 (mj_good b1) rfl rfl rfl (C.2.2.2.2.1 _ b2) (C.2.2.2.2.1 _ hl) ⟨b3.1, b3.2, b4⟩ ⟨b6, b7⟩, C.2.2.2.2.1 _ hst.1, C.2.2.2.2.1 _ hst.2⟩ hpre rfl (by rw [List.length_map]; exact hvs) hL.1 hst0 hroom hd hf
    · exact va_runVN (n := n) (host := h) fix hM ⟨va_cnB n C.2.2.2.2.1 (mj_good b1) rfl rfl rfl (C.2.2.2.2.2.2.2.2.1.2.1 _ hl) (C.2.2.2.2.1 _ b2) ⟨b3.1, b3.2, b4⟩ ⟨b6, b7⟩, C.2.2.2.2.1 _ hst.1, C.2.2.2.2.1 _ hst.2⟩ hpre rfl (by rw [List.length_map]; exact hvs) hL.1 hst0 hroom hd hf
  refine mj_go run hS fun H1 locs1 hH1 hS1 => ?_
  have k1 := kk.2 E l p e s m args below meth c L0 S0 C (Nat.le_trans h1 hR.1.1) (Nat.le_trans h2 hR.1.2) H1 locs1 ls hH1 hS1 hL
  have e1 : mem.1.length - L0 + (mem1.1.length - mem.1.length) = mem1.1.length - L0 := by have a1 := hR.1.1; omega
  have e2 : mj_sz mem - S0 + (mj_sz mem1 - mj_sz mem) = mj_sz mem1 - S0 := by have a1 := hR.1.2; omega
  have e3 : (r1.map (mj_cv E)).toList ++ st.map (mj_cv E) = (r1.toList ++ st).map (mj_cv E) := by cases r1 <;> rfl
  rw [e1, e2, e3]
  exact k1
theorem mj_callI {b : Nat} (hd : decode M.2.1 pc = .ok (.invokespecial idx, 3)) (hB : mj_B M M2 n) (hl : mj_lk M.1.cls idx M2.1) (hst : Cond.instanceMethod M2.1 ∈ TB) (hin : M2.1.name = "<init>") (hre : M2.2.2.2.1 = none) (hb : b < 1000000) (hvs : vs.length = n) (hen : (mj_ent (.ref b :: vs)).length ≤ M2.2.2.1) (hw : (st.map fun v => v.category).sum ≤ 8)
    (hR : mj_R M2 0 (mj_lv M2.2.2.1 (.ref b :: vs)) [] mem r1 mem1) (kk : mj_R M (pc + 3) lv (r1.toList ++ st) mem1 r mem') : mj_R M pc lv (vs.reverse ++ .ref b :: st) mem r mem' := by
  refine ⟨⟨Nat.le_trans hR.1.1 kk.1.1, Nat.le_trans hR.1.2 kk.1.2⟩, fun E l p e s m args below meth c L0 S0 C h1 h2 H locs ls hH hS hL => ?_⟩
  obtain ⟨b1, b2, b3, b4, b5, b6, b7⟩ := hB
  have hE : E.2.2.2.2.2.category = 1 := C.2.2.2.2.2.2.2.2.1.2.2.2.2.2.2.1
  have hM := mj_met hR b5 hen E l
  have ha : mj_cv E (.ref b) = .ref (E.2.2.1 + b) := mj_adw hb
  refine mj_size hH C.2.2.2.2.2.2.2.2.2 h1 fun hsz => ?_
  have hf : mem.1.length - L0 + (mem1.1.length - mem.1.length) ≤ mem'.1.length - L0 ∧ mj_sz mem - S0 + (mj_sz mem1 - mj_sz mem) ≤ mj_sz mem' - S0 := by
    have a1 := hR.1.1; have a2 := hR.1.2; have a3 := kk.1.1; have a4 := kk.1.2
    omega
  have hargs : (.ref b :: vs).map (mj_cv E) = .ref (E.2.2.1 + b) :: vs.map (mj_cv E) := by rw [List.map_cons, ha]
  have hpre : PreS s H (mj_P E (.ref b :: vs) mem) (.ref (E.2.2.1 + b) :: vs.map (mj_cv E)) := ⟨mj_blind E _ mem, fun U hU hW => ⟨by rw [hargs], by rw [hU]; exact hH, by rw [hU]; exact hsz, C.2.2.2.2.2.2.2.2.1.moved hW hU hS⟩⟩
  have fix : CallFix p m c M.2.1 M.2.2.1 s args TB M.1.cls := ⟨C.1, C.2.1, C.2.2.1, C.2.2.2.1, C.2.2.2.2.1⟩
  have hst0 : (vs.reverse ++ .ref b :: st).map (mj_cv E) = (vs.map (mj_cv E)).reverse ++ .ref (E.2.2.1 + b) :: st.map (mj_cv E) := by rw [List.map_append, List.map_reverse, List.map_cons, ha]
  have hroom : 2 * (F0 m pc ls ((vs.reverse ++ .ref b :: st).map (mj_cv E))).monitorRoom + ((st.map (mj_cv E)).map fun v => v.category).sum ≤ 8 := lv_room (by rw [mj_cats hE]; exact hw)
  have hwsn : mj_ws M2 = Cond.code M2.1 M2.2.1 M2.2.2.1 none :: TB := by unfold mj_ws; rw [hre]
  have run : va_Run p l e { frames := M.2.2.2.2.1, cells := mem'.1.length - L0, slots := mj_sz mem' - S0, locals := M.2.2.2.2.2 } s m args below meth c H locs (mem.1.length - L0) (mj_sz mem - S0) (mem1.1.length - mem.1.length) (mj_sz mem1 - mj_sz mem) (F0 m pc ls ((vs.reverse ++ .ref b :: st).map (mj_cv E))) (st.map (mj_cv E)) (mj_Q E r1 mem1 (Value.ref (E.2.2.1 + b) :: vs.map (mj_cv E)).toArray) (mj_A E) := by
    rcases hl with hl | ⟨h, hl⟩
    · exact va_runI (n := n) (maxL := M2.2.2.1) (bytes := M2.2.1) fix hM ⟨callB_of n C.2.2.2.2.1 (mj_good b1) hwsn rfl rfl (C.2.2.2.2.1 _ b2) (C.2.2.2.2.1 _ hl) ⟨b3.1, b3.2, b4⟩ ⟨b6, b7⟩, hin, C.2.2.2.2.1 _ hst⟩ hpre rfl (by rw [List.length_map]; exact hvs) hL.1 hst0 hroom hd hf
    · exact va_runIN (n := n) (host := h) (maxL := M2.2.2.1) (bytes := M2.2.1) fix hM ⟨va_cnB n C.2.2.2.2.1 (mj_good b1) hwsn rfl rfl (C.2.2.2.2.2.2.2.2.1.2.1 _ hl) (C.2.2.2.2.1 _ b2) ⟨b3.1, b3.2, b4⟩ ⟨b6, b7⟩, hin, C.2.2.2.2.1 _ hst⟩ hpre rfl (by rw [List.length_map]; exact hvs) hL.1 hst0 hroom hd hf
  refine mj_go run hS fun H1 locs1 hH1 hS1 => ?_
  have k1 := kk.2 E l p e s m args below meth c L0 S0 C (Nat.le_trans h1 hR.1.1) (Nat.le_trans h2 hR.1.2) H1 locs1 ls hH1 hS1 hL
  have e1 : mem.1.length - L0 + (mem1.1.length - mem.1.length) = mem1.1.length - L0 := by have a1 := hR.1.1; omega
  have e2 : mj_sz mem - S0 + (mj_sz mem1 - mj_sz mem) = mj_sz mem1 - S0 := by have a1 := hR.1.2; omega
  have e3 : (r1.map (mj_cv E)).toList ++ st.map (mj_cv E) = (r1.toList ++ st).map (mj_cv E) := by cases r1 <;> rfl
  rw [e1, e2, e3]
  exact k1
end call
end MJC
