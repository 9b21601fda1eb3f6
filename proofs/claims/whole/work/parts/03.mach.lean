/-! THE LAYER: memory of a fixed shape and whole numbers, one judgement mj_R a method, a row an instruction. -/
/-- the shape of each cell (0 int[], 1 boolean[], 2 Town[], 3 + c an object of class c; its size; its references), and the whole numbers in it -/
abbrev mj_Mem : Type := List (Nat × Nat × (Nat → Option Nat)) × (Nat → Nat → Int32)
/-- a method: name, bytes, locals, result, frames and words of room -/
abbrev mj_M : Type := MethodName × ByteArray × Nat × Option FieldType × Nat × Nat
/-- what is fixed for a run: classes, array classes, the first cell's address, the Strings' and their bytes' addresses, a static -/
abbrev mj_E : Type := va_G × (Nat → ClassId) × Nat × (Nat → Nat) × (Nat → Nat) × Value
def mj_ad (E : mj_E) (i : Nat) : Value := if i < 1000000 then .ref (E.2.2.1 + i) else if i < 2000000 then .ref (E.2.2.2.1 (i - 1000000)) else if i < 3000000 then .ref (E.2.2.2.2.1 (i - 2000000)) else E.2.2.2.2.2
def mj_cv (E : mj_E) (v : Value) : Value := match v with
  | .ref i => mj_ad E i
  | .int x => .int x
  | .long x => .long x
  | v => v
def mj_cell (E : mj_E) (c : Nat × Nat × (Nat → Option Nat)) (f : Nat → Int32) : va_E := match c.1 with
  | 0 => .inl (E.2.1 0, c.2.1, .inl f)
  | 1 => .inl (E.2.1 1, c.2.1, .inl f)
  | 2 => .inl (E.2.1 2, c.2.1, .inr (.inr (.inr (.inr (fun j => (c.2.2 j).map (fun i => E.2.2.1 + i))))))
  | k + 3 => .inr (k, (List.range c.2.1).map (fun j => if kRf k j then va_rf ((c.2.2 j).map (fun i => E.2.2.1 + i)) else .int (f j)))
def mj_wl (E : mj_E) (mem : mj_Mem) : va_W := mem.1.mapIdx (fun i c => (E.2.2.1 + i, mj_cell E c (mem.2 i)))
def mj_H (E : mj_E) (mem : mj_Mem) (H : Heap) : Prop := va_P E.1 kCls (mj_wl E mem) H
def mj_A (E : mj_E) : Nat → Prop := fun q => E.2.2.1 ≤ q
def mj_sz (mem : mj_Mem) : Nat := (mem.1.map (fun c => c.2.1)).sum
def mj_wr (f : Nat → Nat → Int32) (b k : Nat) (x : Int32) : Nat → Nat → Int32 := fun i j => if i = b ∧ j = k then x else f i j
abbrev mj_tys (E : mj_E) : List (ClassId × FieldType) := [(E.2.1 0, .int), (E.2.1 1, .boolean), (E.2.1 2, .object "MarketTown$Town")]
/-- what holds of every state of the run -/
def mj_G (E : mj_E) (U : State) : Prop :=
  va_K E.1 kCls (mj_tys E) U ∧ (∀ q ∈ kNest, va_Nw (.methodLinkNest q.1 q.2.1 q.2.2.1 q.2.2.2) U) ∧
  (∀ i : Nat, i < 14 → vk_R "MarketTown$RuleReader" (kSix.getD i 0) (kStx.getD i "") (E.2.2.2.1 i) U) ∧ vk_S 14 kSln kSby E.2.2.2.1 E.2.2.2.2.1 (mj_A E) U U.heap ∧
  va_Z "java/lang/String" "COMPACT_STRINGS" "Z" (.int 1) (mj_A E) U U.heap ∧ va_Z "jdk/internal/util/Preconditions" "SIOOBE_FORMATTER" "Ljava/util/function/BiFunction;" E.2.2.2.2.2 (mj_A E) U U.heap ∧ E.2.2.2.2.2.category = 1 ∧ va_AO "MarketTown$Town" U
theorem mj_G.moved {E : mj_E} {s U : State} {H : Heap} {locs : List Loc} (h : mj_G E s) (hW : s.WarmedH U.vm) (hU : U.heap = H) (hS : va_S (mj_A E) s.heap H locs) : mj_G E U := by
  obtain ⟨h1, h2, h3, h4, h5, h6, h7, h8⟩ := h
  subst hU
  exact ⟨va_K.moved hW.alike h1, fun q hq => va_Nw.warmM hW (h2 q hq), fun i hi => (h3 i hi).warm hW, (vk_S.moved hW.alike h4).kept hS.2.1, (va_Z.moved hW.alike h5).kept hS.2.1, (va_Z.moved hW.alike h6).kept hS.2.1, h7, h8.moved hW.alike⟩
theorem mj_G.same {E : mj_E} {s U : State} (h : mj_G E s) (hv : U.vm = s.vm) (hh : U.heap = s.heap) : mj_G E U := by
  obtain ⟨h1, h2, h3, h4, h5, h6, h7, h8⟩ := h
  have ha : s.vm.Alike U.vm := by rw [hv]; exact Vm.Alike.refl _
  exact ⟨va_K.moved ha h1, fun q hq => va_Nw.same rfl hv.symm (h2 q hq), fun i hi => (h3 i hi).same hv, by rw [hh]; exact vk_S.moved ha h4, by rw [hh]; exact va_Z.moved ha h5, by rw [hh]; exact va_Z.moved ha h6, h7, h8.moved ha⟩
def mj_L (E : mj_E) (ls : Array Slot) (n : Nat) (lv : List (Option Value)) : Prop := ls.size = n ∧ lv_wf ls ∧ ∀ (i : Nat) (v : Value), lv[i]? = some (some v) → ls[i]? = some (.val (mj_cv E v))
def mj_Cx (E : mj_E) (M : mj_M) (p : Program) (s : State) (m : MethodId) (args : Array Value) (meth : Method) (c : Code) (L0 : Nat) : Prop :=
  p.tables.exec = Jvm.exec ∧ c.code = M.2.1 ∧ c.maxLocals = M.2.2.1 ∧ s.vm.findClass M.1.cls = some m.cls ∧ (∀ w ∈ TB, w.before args s = true) ∧ meth.sig.returnType = M.2.2.2.1 ∧ meth.locks = false ∧ meth.name = M.1.name ∧ mj_G E s ∧ s.heap.size = E.2.2.1 + L0
def mj_Q (E : mj_E) (r : Option Value) (mem' : mj_Mem) : Array Value → State → Outcome → State → Prop := fun _ st oc t => oc = .returned (r.map (mj_cv E)) ∧ mj_H E mem' t.heap ∧ va_F (mj_A E) st t
/-- from this frame of method M, memory mem, the method comes to its end with the answer r and memory mem' -/
def mj_R (M : mj_M) (pc : Nat) (lv : List (Option Value)) (st : List Value) (mem : mj_Mem) (r : Option Value) (mem' : mj_Mem) : Prop :=
  (mem.1.length ≤ mem'.1.length ∧ mj_sz mem ≤ mj_sz mem') ∧
  ∀ (E : mj_E) (l : Launch) (p : Program) (e : Env) (s : State) (m : MethodId) (args : Array Value) (below : List Frame) (meth : Method) (c : Code) (L0 S0 : Nat), mj_Cx E M p s m args meth c L0 → L0 ≤ mem.1.length → S0 ≤ mj_sz mem →
    ∀ (H : Heap) (locs : List Loc) (ls : Array Slot), mj_H E mem H → va_S (mj_A E) s.heap H locs → mj_L E ls M.2.2.1 lv →
      W p l e { frames := M.2.2.2.2.1, cells := mem'.1.length - L0, slots := mj_sz mem' - S0, locals := M.2.2.2.2.2 } s m args below meth c H locs (mem.1.length - L0) (mj_sz mem - S0) (MQ below (mj_Q E r mem') args s (mem'.1.length - L0) (mj_sz mem' - S0) (mj_A E)) (F0 m pc ls (st.map (mj_cv E)))
theorem mj_adw {E : mj_E} {b : Nat} (h : b < 1000000) : mj_cv E (.ref b) = .ref (E.2.2.1 + b) := by
  show mj_ad E b = _
  unfold mj_ad
  rw [if_pos h]
theorem mj_adr {E : mj_E} {b : Nat} (h : b < 3000000) : ∃ a : Nat, mj_cv E (.ref b) = .ref a := by
  show ∃ a : Nat, mj_ad E b = .ref a
  unfold mj_ad
  by_cases h1 : b < 1000000
  · exact ⟨_, if_pos h1⟩
  · rw [if_neg h1]
    by_cases h2 : b < 2000000
    · exact ⟨_, if_pos h2⟩
    · exact ⟨_, by rw [if_neg h2, if_pos h]⟩
theorem mj_cat {E : mj_E} (hE : E.2.2.2.2.2.category = 1) (v : Value) : (mj_cv E v).category = v.category := by
  cases v <;> try rfl
  rename_i a
  show (mj_ad E a).category = 1
  unfold mj_ad
  split
  · rfl
  · split
    · rfl
    · split
      · rfl
      · exact hE
theorem mj_cats {E : mj_E} (hE : E.2.2.2.2.2.category = 1) (st : List Value) : ((st.map (mj_cv E)).map fun v => v.category).sum = (st.map fun v => v.category).sum := by
  rw [List.map_map]
  congr 1
  exact List.map_congr_left fun v _ => mj_cat hE v
theorem mj_wl_at (E : mj_E) (mem : mj_Mem) (i : Nat) : (mj_wl E mem)[i]? = (mem.1[i]?).map (fun c => (E.2.2.1 + i, mj_cell E c (mem.2 i))) := by
  unfold mj_wl
  rw [List.getElem?_mapIdx]
theorem mj_wl_get {E : mj_E} {mem : mj_Mem} {b : Nat} {c : Nat × Nat × (Nat → Option Nat)} (h : mem.1[b]? = some c) : (mj_wl E mem)[b]? = some (E.2.2.1 + b, mj_cell E c (mem.2 b)) := by
  rw [mj_wl_at, h]
  rfl
theorem mj_wl_inv {E : mj_E} {mem : mj_Mem} {b : Nat} {q : Nat × va_E} (h : (mj_wl E mem)[b]? = some q) : ∃ c, mem.1[b]? = some c ∧ q = (E.2.2.1 + b, mj_cell E c (mem.2 b)) := by
  rw [mj_wl_at] at h
  cases hc : mem.1[b]? with
  | none => rw [hc] at h; cases h
  | some c => rw [hc] at h; exact ⟨c, rfl, (Option.some.inj h).symm⟩
theorem mj_D (E : mj_E) (mem : mj_Mem) : va_D (mj_A E) (mj_wl E mem) := by
  refine ⟨fun i j p q hp hq hpq => ?_, fun k q hq => ?_⟩
  · obtain ⟨_, _, rfl⟩ := mj_wl_inv hp
    obtain ⟨_, _, rfl⟩ := mj_wl_inv hq
    have : E.2.2.1 + i = E.2.2.1 + j := hpq
    omega
  · obtain ⟨_, _, rfl⟩ := mj_wl_inv hq
    exact Nat.le_add_right _ _
theorem mj_wr_same (f : Nat → Nat → Int32) (b k : Nat) (x : Int32) : mj_wr f b k x b = upd (f b) k x := by
  funext j
  simp [mj_wr, upd]
theorem mj_wr_ne (f : Nat → Nat → Int32) {b k i : Nat} (x : Int32) (h : i ≠ b) : mj_wr f b k x i = f i := by
  funext j
  simp [mj_wr, h]
/-- the world behind a change of one cell's numbers -/
theorem mj_wl_set {E : mj_E} {mem : mj_Mem} {b : Nat} {c : Nat × Nat × (Nat → Option Nat)} {g : Nat → Nat → Int32} (h : mem.1[b]? = some c) (hg : ∀ i, i ≠ b → g i = mem.2 i) : (mj_wl E mem).set b (E.2.2.1 + b, mj_cell E c (g b)) = mj_wl E (mem.1, g) := by
  apply List.ext_getElem?
  intro i
  have hb : b < (mj_wl E mem).length := (List.getElem?_eq_some_iff.mp (mj_wl_get (E := E) h)).1
  by_cases hi : i = b
  · subst hi
    rw [List.getElem?_set_self hb, mj_wl_get (mem := (mem.1, g)) h]
  · rw [List.getElem?_set_ne (Ne.symm hi), mj_wl_at, mj_wl_at]
    show Option.map _ _ = Option.map (fun c => (E.2.2.1 + i, mj_cell E c (g i))) _
    rw [hg i hi]
/-- the world behind a change of one cell's references -/
theorem mj_wl_setr {E : mj_E} {mem : mj_Mem} {b : Nat} {c c' : Nat × Nat × (Nat → Option Nat)} (h : mem.1[b]? = some c) : (mj_wl E mem).set b (E.2.2.1 + b, mj_cell E c' (mem.2 b)) = mj_wl E (mem.1.set b c', mem.2) := by
  apply List.ext_getElem?
  intro i
  have hb : b < (mj_wl E mem).length := (List.getElem?_eq_some_iff.mp (mj_wl_get (E := E) h)).1
  have hb' : b < mem.1.length := (List.getElem?_eq_some_iff.mp h).1
  by_cases hi : i = b
  · subst hi
    rw [List.getElem?_set_self hb, mj_wl_at]
    show _ = Option.map _ ((mem.1.set i c')[i]?)
    rw [List.getElem?_set_self hb']
    rfl
  · rw [List.getElem?_set_ne (Ne.symm hi), mj_wl_at, mj_wl_at]
    show _ = Option.map _ ((mem.1.set b c')[i]?)
    rw [List.getElem?_set_ne (Ne.symm hi)]
theorem mj_wl_push {E : mj_E} {mem : mj_Mem} (c : Nat × Nat × (Nat → Option Nat)) : mj_wl E (mem.1 ++ [c], mem.2) = mj_wl E mem ++ [(E.2.2.1 + mem.1.length, mj_cell E c (mem.2 mem.1.length))] := by
  unfold mj_wl
  simp [List.mapIdx_append]
theorem mj_L.set {E : mj_E} {ls : Array Slot} {n : Nat} {lv : List (Option Value)} (h : mj_L E ls n lv) : ∃ l : List (Nat × Value), lv_has ls n l ∧ ∀ (i : Nat) (v : Value), lv[i]? = some (some v) → (i, mj_cv E v) ∈ l := by
  refine ⟨lv.zipIdx.filterMap (fun q => q.1.map (fun v => (q.2, mj_cv E v))), ⟨h.1, h.2.1, fun q hq => ?_⟩, fun i v hv => ?_⟩
  · obtain ⟨⟨o, i⟩, h1, h2⟩ := List.mem_filterMap.mp hq
    have h3 : lv[i]? = some o := List.mem_zipIdx_iff_getElem?.mp h1
    cases o with
    | none => cases h2
    | some v =>
      cases h2
      exact h.2.2 i v h3
  · exact List.mem_filterMap.mpr ⟨(some v, i), List.mem_zipIdx_iff_getElem?.mpr hv, rfl⟩
/-- a place that may be stored into: no long stands ahead of it -/
def mj_ok (lv : List (Option Value)) (i : Nat) : Bool := match i with
  | 0 => true
  | j + 1 => match lv[j]? with
    | some (some (.long _)) => false
    | some (some (.double _)) => false
    | _ => true
theorem mj_L.stored {E : mj_E} {ls' : Array Slot} {n i : Nat} {lv : List (Option Value)} {l : List (Nat × Value)} {v : Value} (hE : E.2.2.2.2.2.category = 1) (hl : ∀ (i : Nat) (v : Value), lv[i]? = some (some v) → (i, mj_cv E v) ∈ l) (hok : mj_ok lv i = true)
    (h : lv_has ls' n ((i, mj_cv E v) :: l.filter (fun q => !(q.1 == i) && !(q.1 + 1 == i && q.2.category == 2)))) : mj_L E ls' n (lv.set i (some v)) := by
  refine ⟨h.1, h.2.1, fun j w hw => ?_⟩
  by_cases hj : j = i
  · subst hj
    rw [List.getElem?_set] at hw
    simp at hw
    obtain ⟨_, hw⟩ := hw
    subst hw
    exact h.2.2 (j, mj_cv E v) List.mem_cons_self
  · rw [List.getElem?_set_ne (Ne.symm hj)] at hw
    refine h.2.2 (j, mj_cv E w) (List.mem_cons_of_mem _ (List.mem_filter.mpr ⟨hl j w hw, ?_⟩))
    have h2 : ¬ (j + 1 = i ∧ (mj_cv E w).category = 2) := by
      rintro ⟨rfl, hc⟩
      rw [mj_cat hE] at hc
      unfold mj_ok at hok
      dsimp only at hok
      rw [hw] at hok
      cases w <;> simp [Value.category] at hc hok
    have e2 : (!(j + 1 == i && (mj_cv E w).category == 2)) = true := by
      rw [Bool.not_eq_true', ← Bool.not_eq_true, Bool.and_eq_true, beq_iff_eq, beq_iff_eq]
      exact h2
    have e1 : (!(j == i)) = true := by
      rw [Bool.not_eq_true', beq_eq_false_iff_ne]
      exact hj
    show (!(j == i) && !(j + 1 == i && (mj_cv E w).category == 2)) = true
    rw [e1, e2]
    rfl
