section MJH
variable {M : mj_M} {pc : Nat} {lv : List (Option Value)} {st : List Value} {mem mem' : mj_Mem} {r : Option Value}
/-- the heap's size, by the room's own count -/
theorem mj_size {E : mj_E} {p : Program} {l : Launch} {e : Env} {R : Room} {s : State} {m : MethodId} {args : Array Value} {below : List Frame} {meth : Method} {c : Code} {H : Heap} {locs : List Loc} {slots L0 : Nat} {Q : State → Prop} {g : JFrame} (hH : mj_H E mem H) (hs : s.heap.size = E.2.2.1 + L0) (h1 : L0 ≤ mem.1.length)
    (k : H.size = E.2.2.1 + mem.1.length → W p l e R s m args below meth c H locs (mem.1.length - L0) slots Q g) : W p l e R s m args below meth c H locs (mem.1.length - L0) slots Q g := by
  intro T hT X
  refine k ?_ T hT X
  have h2 : T.heap.size ≤ s.heap.size + (mem.1.length - L0) := X.same.2.2.1
  have h3 : s.heap.size ≤ T.heap.size := X.same.2.1
  rw [hT] at h2 h3
  by_cases hz : mem.1.length = 0
  · omega
  · have hlt : mem.1.length - 1 < mem.1.length := by omega
    have hg : mem.1[mem.1.length - 1]? = some mem.1[mem.1.length - 1] := List.getElem?_eq_getElem hlt
    have h4 := (hH _ _ (mj_wl_get (E := E) hg)).lt
    have h5 : E.2.2.1 + (mem.1.length - 1) < H.size := h4
    omega
/-- a field of class ci, by a method of class own -/
def mj_F (own : String) (idx ci k : Nat) : Prop := ∃ (C : String) (T : u_T) (N : Nat), kCls[ci]? = some (C, T, N) ∧ k < N ∧ Cond.fieldLink own idx C (T k).2.1 (T k).2.2.1 ∈ TB
theorem mj_fs {E : mj_E} {ci n k : Nat} {rs : Nat → Option Nat} {f : Nat → Int32} (hk : k < n) : ((List.range n).map (fun j => if kRf ci j then va_rf ((rs j).map (fun i => E.2.2.1 + i)) else Value.int (f j)))[k]? = some (if kRf ci k then va_rf ((rs k).map (fun i => E.2.2.1 + i)) else Value.int (f k)) := by
  rw [List.getElem?_map, List.getElem?_range hk]
  rfl
theorem mj_getI {ci k b n idx : Nat} {rs : Nat → Option Nat} (hd : decode M.2.1 pc = .ok (.getfield idx, 3)) (hf : mj_F M.1.cls idx ci k) (hc : mem.1[b]? = some (ci + 3, n, rs)) (hr : kRf ci k = false) (hb : b < 1000000) (hk : k < n)
    (kk : mj_R M (pc + 3) lv (.int (mem.2 b k) :: st) mem r mem') : mj_R M pc lv (.ref b :: st) mem r mem' :=
  ⟨kk.1, fun E l p e s m args below meth c L0 S0 C h1 h2 H locs ls hH hS hL => by
    have k1 := kk.2 E l p e s m args below meth c L0 S0 C h1 h2 H locs ls hH hS hL
    obtain ⟨Cn, T, N, e1, e2, e3⟩ := hf
    obtain ⟨w1, w2, w3, w4⟩ := kOk e1
    rw [List.map_cons, mj_adw hb]
    exact va_get C.1 C.2.1 C.2.2.2.2.1 w1 C.2.2.2.1 C.2.2.2.2.2.2.2.2.1.1 hH b (mj_wl_get hc) e1 k e2 (C.2.2.2.2.1 _ e3) (by rw [w4 k e2]; exact fun x h => h) (v := .int (mem.2 b k)) (by rw [mj_fs hk, hr]; rfl) hd k1⟩
theorem mj_getR {ci k b j n idx : Nat} {rs : Nat → Option Nat} (hd : decode M.2.1 pc = .ok (.getfield idx, 3)) (hf : mj_F M.1.cls idx ci k) (hc : mem.1[b]? = some (ci + 3, n, rs)) (hr : kRf ci k = true) (hj : rs k = some j) (hb : b < 1000000) (hk : k < n) (hj2 : j < 1000000)
    (kk : mj_R M (pc + 3) lv (.ref j :: st) mem r mem') : mj_R M pc lv (.ref b :: st) mem r mem' :=
  ⟨kk.1, fun E l p e s m args below meth c L0 S0 C h1 h2 H locs ls hH hS hL => by
    have k1 := kk.2 E l p e s m args below meth c L0 S0 C h1 h2 H locs ls hH hS hL
    obtain ⟨Cn, T, N, e1, e2, e3⟩ := hf
    obtain ⟨w1, w2, w3, w4⟩ := kOk e1
    rw [List.map_cons, mj_adw hj2] at k1
    rw [List.map_cons, mj_adw hb]
    exact va_get C.1 C.2.1 C.2.2.2.2.1 w1 C.2.2.2.1 C.2.2.2.2.2.2.2.2.1.1 hH b (mj_wl_get hc) e1 k e2 (C.2.2.2.2.1 _ e3) (by rw [w4 k e2]; exact fun x h => h) (v := .ref (E.2.2.1 + j)) (by rw [mj_fs hk, hr]; show some (va_rf ((rs k).map _)) = _; rw [hj]; rfl) hd k1⟩
theorem mj_set_fs {E : mj_E} {ci n k : Nat} {rs : Nat → Option Nat} {f : Nat → Int32} {x : Int32} (hr : kRf ci k = false) : ((List.range n).map (fun j => if kRf ci j then va_rf ((rs j).map (fun i => E.2.2.1 + i)) else Value.int (f j))).set k (.int x) = (List.range n).map (fun j => if kRf ci j then va_rf ((rs j).map (fun i => E.2.2.1 + i)) else Value.int (upd f k x j)) := by
  apply List.ext_getElem?
  intro j
  rw [List.getElem?_set]
  by_cases hj : k = j
  · subst hj
    rw [if_pos rfl]
    by_cases hk : k < n
    · rw [if_pos (by simpa using hk), mj_fs hk, hr]
      simp [upd]
    · rw [if_neg (by simpa using hk), List.getElem?_eq_none (by simpa using hk)]
  · rw [if_neg hj]
    by_cases hn : j < n
    · rw [mj_fs hn, mj_fs hn]
      show _ = some (if kRf ci j then _ else Value.int (if j = k then x else f j))
      rw [if_neg (Ne.symm hj)]
    · rw [List.getElem?_eq_none (by simpa using hn), List.getElem?_eq_none (by simpa using hn)]
theorem mj_putI {ci k b n idx : Nat} {rs : Nat → Option Nat} {x : Int32} (hd : decode M.2.1 pc = .ok (.putfield idx, 3)) (hf : mj_F M.1.cls idx ci k) (hc : mem.1[b]? = some (ci + 3, n, rs)) (hr : kTy ci k = .int) (hfin : ∀ (C : String) (T : u_T) (N : Nat), kCls[ci]? = some (C, T, N) → (T k).2.2.2 = false) (hb : b < 1000000) (hk : k < n)
    (kk : mj_R M (pc + 3) lv st (mem.1, mj_wr mem.2 b k x) r mem') : mj_R M pc lv (.int x :: .ref b :: st) mem r mem' :=
  ⟨kk.1, fun E l p e s m args below meth c L0 S0 C h1 h2 H locs ls hH hS hL => by
    obtain ⟨Cn, T, N, e1, e2, e3⟩ := hf
    obtain ⟨w1, w2, w3, w4⟩ := kOk e1
    have hr2 : kRf ci k = false := by unfold kRf; rw [hr]; rfl
    rw [List.map_cons, List.map_cons, mj_adw hb]
    refine va_put C.1 C.2.1 C.2.2.2.2.1 w1 (kTy ci) w3 w2 C.2.2.2.1 C.2.2.2.2.2.2.2.2.1.1 hH (mj_D E mem) hS b (mj_wl_get hc) e1 k e2 (C.2.2.2.2.1 _ e3) (by rw [w4 k e2]; exact fun x h => h) (hfin _ _ _ e1) (by rw [w3 k e2, hr]) (vp_nar_int x) rfl (by simpa using hk) hd fun H1 locs1 a1 a2 a3 => ?_
    refine kk.2 E l p e s m args below meth c L0 S0 C h1 h2 H1 locs1 ls ?_ a3 hL
    have e4 := mj_wl_set (E := E) (g := mj_wr mem.2 b k x) hc (fun i hi => mj_wr_ne mem.2 x hi)
    unfold mj_H
    rw [← e4]
    have e5 : mj_cell E (ci + 3, n, rs) (mj_wr mem.2 b k x b) = .inr (ci, ((List.range n).map (fun j => if kRf ci j then va_rf ((rs j).map (fun i => E.2.2.1 + i)) else Value.int (mem.2 b j))).set k (.int x)) := by
      rw [mj_wr_same, mj_set_fs hr2]
      rfl
    rw [e5]
    exact a1⟩
theorem mj_set_eq {l : List Nat} {b x : Nat} (h : l[b]? = some x) : l.set b x = l := by
  apply List.ext_getElem?
  intro i
  by_cases hi : i = b
  · subst hi
    rw [List.getElem?_set_self (List.getElem?_eq_some_iff.mp h).1, h]
  · rw [List.getElem?_set_ne (Ne.symm hi)]
/-- references put, in constructors -/
theorem mj_set_rs {E : mj_E} {ci n k j : Nat} {rs : Nat → Option Nat} {f : Nat → Int32} (hr : kRf ci k = true) : ((List.range n).map (fun j => if kRf ci j then va_rf ((rs j).map (fun i => E.2.2.1 + i)) else Value.int (f j))).set k (.ref (E.2.2.1 + j)) = (List.range n).map (fun i => if kRf ci i then va_rf ((va_up rs k (some j) i).map (fun i => E.2.2.1 + i)) else Value.int (f i)) := by
  apply List.ext_getElem?
  intro i
  rw [List.getElem?_set]
  by_cases hj : k = i
  · subst hj
    rw [if_pos rfl]
    by_cases hk : k < n
    · rw [if_pos (by simpa using hk), mj_fs (rs := va_up rs k (some j)) hk, hr]
      show _ = some (va_rf ((if k = k then some j else rs k).map _))
      rw [if_pos rfl]
      rfl
    · rw [if_neg (by simpa using hk), List.getElem?_eq_none (by simpa using hk)]
  · rw [if_neg hj]
    by_cases hn : i < n
    · rw [mj_fs hn, mj_fs (rs := va_up rs k (some j)) hn]
      show _ = some (if kRf ci i then va_rf ((if i = k then some j else rs i).map _) else _)
      rw [if_neg (Ne.symm hj)]
    · rw [List.getElem?_eq_none (by simpa using hn), List.getElem?_eq_none (by simpa using hn)]
theorem mj_rfk {t : FieldType} (h : kFty t = true) (a : Nat) : narrow t (.ref a) = .ref a ∧ fits t (.ref a) = true := by
  cases t <;> first | exact ⟨rfl, rfl⟩ | cases h
theorem mj_putR {ci k b j n idx : Nat} {rs : Nat → Option Nat} (hd : decode M.2.1 pc = .ok (.putfield idx, 3)) (hf : mj_F M.1.cls idx ci k) (hc : mem.1[b]? = some (ci + 3, n, rs)) (hr : kRf ci k = true) (hfin : ∀ (C : String) (T : u_T) (N : Nat), kCls[ci]? = some (C, T, N) → (T k).2.2.2 = true ∧ C = M.1.cls) (hi : M.1.name = "<init>") (hb : b < 1000000) (hk : k < n) (hj : j < 1000000)
    (kk : mj_R M (pc + 3) lv st (mem.1.set b (ci + 3, n, va_up rs k (some j)), mem.2) r mem') : mj_R M pc lv (.ref j :: .ref b :: st) mem r mem' := by
  have hlen : (mem.1.set b (ci + 3, n, va_up rs k (some j))).length = mem.1.length := List.length_set
  have hsz : mj_sz (mem.1.set b (ci + 3, n, va_up rs k (some j)), mem.2) = mj_sz mem := by
    unfold mj_sz
    show ((mem.1.set b (ci + 3, n, va_up rs k (some j))).map (fun c => c.2.1)).sum = _
    rw [List.map_set, mj_set_eq (by rw [List.getElem?_map, hc]; rfl)]
  refine ⟨by rw [← hsz]; exact ⟨hlen ▸ kk.1.1, kk.1.2⟩, fun E l p e s m args below meth c L0 S0 C h1 h2 H locs ls hH hS hL => ?_⟩
  obtain ⟨Cn, T, N, e1, e2, e3⟩ := hf
  obtain ⟨w1, w2, w3, w4⟩ := kOk e1
  rw [List.map_cons, List.map_cons, mj_adw hb, mj_adw hj]
  obtain ⟨n1, n2⟩ := mj_rfk hr (E.2.2.1 + j)
  refine va_putF C.1 C.2.1 C.2.2.2.2.1 w1 (kTy ci) w3 w2 C.2.2.2.1 C.2.2.2.2.2.2.2.2.1.1 hH (mj_D E mem) hS b (mj_wl_get hc) e1 k e2 (C.2.2.2.2.1 _ e3) (by rw [w4 k e2]; exact fun x h => h) (hfin _ _ _ e1).1 (C.2.2.2.2.2.2.2.1.trans hi) ((w4 k e2).trans (hfin _ _ _ e1).2) (w3 k e2) n1 n2 (by simpa using hk) hd fun H1 locs1 a1 a2 a3 => ?_
  have k1 := kk.2 E l p e s m args below meth c L0 S0 C (by rw [show (mem.1.set b (ci + 3, n, va_up rs k (some j)), mem.2).1.length = mem.1.length from hlen]; exact h1) (by rw [hsz]; exact h2) H1 locs1 ls ?_ a3 hL
  · rw [hsz, show (mem.1.set b (ci + 3, n, va_up rs k (some j)), mem.2).1.length = mem.1.length from hlen] at k1
    exact k1
  · have e4 := mj_wl_setr (E := E) (c' := (ci + 3, n, va_up rs k (some j))) hc
    unfold mj_H
    rw [← e4]
    have e5 : mj_cell E (ci + 3, n, va_up rs k (some j)) (mem.2 b) = .inr (ci, ((List.range n).map (fun j => if kRf ci j then va_rf ((rs j).map (fun i => E.2.2.1 + i)) else Value.int (mem.2 b j))).set k (.ref (E.2.2.1 + j))) := by
      rw [mj_set_rs hr]
      rfl
    rw [e5]
    exact a1
/-- arrays of ints, of booleans, of Towns -/
theorem mj_iald {b n : Nat} {rs : Nat → Option Nat} {i : Int32} (hd : decode M.2.1 pc = .ok (.iaload, 1)) (hc : mem.1[b]? = some (0, n, rs)) (hb : b < 1000000) (hi : vp_in i n)
    (kk : mj_R M (pc + 1) lv (.int (mem.2 b i.toNatClampNeg) :: st) mem r mem') : mj_R M pc lv (.int i :: .ref b :: st) mem r mem' :=
  ⟨kk.1, fun E l p e s m args below meth c L0 S0 C h1 h2 H locs ls hH hS hL => by
    rw [List.map_cons, List.map_cons, mj_adw hb]
    exact va_iald C.1 C.2.1 C.2.2.2.2.2.2.2.2.1.1 hH b 0 (mj_wl_get hc) rfl hi hd (kk.2 E l p e s m args below meth c L0 S0 C h1 h2 H locs ls hH hS hL)⟩
theorem mj_zald {b n : Nat} {rs : Nat → Option Nat} {i : Int32} (hd : decode M.2.1 pc = .ok (.baload, 1)) (hc : mem.1[b]? = some (1, n, rs)) (hb : b < 1000000) (hi : vp_in i n)
    (kk : mj_R M (pc + 1) lv (.int (mem.2 b i.toNatClampNeg) :: st) mem r mem') : mj_R M pc lv (.int i :: .ref b :: st) mem r mem' :=
  ⟨kk.1, fun E l p e s m args below meth c L0 S0 C h1 h2 H locs ls hH hS hL => by
    rw [List.map_cons, List.map_cons, mj_adw hb]
    exact va_zald C.1 C.2.1 C.2.2.2.2.2.2.2.2.1.1 hH b 1 (mj_wl_get hc) rfl hi hd (kk.2 E l p e s m args below meth c L0 S0 C h1 h2 H locs ls hH hS hL)⟩
theorem mj_aald {b n j : Nat} {rs : Nat → Option Nat} {i : Int32} (hd : decode M.2.1 pc = .ok (.aaload, 1)) (hc : mem.1[b]? = some (2, n, rs)) (hb : b < 1000000) (hi : vp_in i n) (hj : rs i.toNatClampNeg = some j) (hj2 : j < 1000000)
    (kk : mj_R M (pc + 1) lv (.ref j :: st) mem r mem') : mj_R M pc lv (.int i :: .ref b :: st) mem r mem' :=
  ⟨kk.1, fun E l p e s m args below meth c L0 S0 C h1 h2 H locs ls hH hS hL => by
    have k1 := kk.2 E l p e s m args below meth c L0 S0 C h1 h2 H locs ls hH hS hL
    rw [List.map_cons, mj_adw hj2] at k1
    rw [List.map_cons, List.map_cons, mj_adw hb]
    refine va_aldq C.1 C.2.1 C.2.2.2.2.2.2.2.2.1.1 hH b 2 (mj_wl_get hc) rfl hi hd ?_
    show W _ _ _ _ _ _ _ _ _ _ _ _ _ _ _ (F0 m (pc + 1) ls (va_rf ((rs i.toNatClampNeg).map (fun i => E.2.2.1 + i)) :: _))
    rw [hj]
    exact k1⟩
theorem mj_iast {b n : Nat} {rs : Nat → Option Nat} {i x : Int32} (hd : decode M.2.1 pc = .ok (.iastore, 1)) (hc : mem.1[b]? = some (0, n, rs)) (hb : b < 1000000) (hi : vp_in i n)
    (kk : mj_R M (pc + 1) lv st (mem.1, mj_wr mem.2 b i.toNatClampNeg x) r mem') : mj_R M pc lv (.int x :: .int i :: .ref b :: st) mem r mem' :=
  ⟨kk.1, fun E l p e s m args below meth c L0 S0 C h1 h2 H locs ls hH hS hL => by
    rw [List.map_cons, List.map_cons, List.map_cons, mj_adw hb]
    refine va_iast C.1 C.2.1 C.2.2.2.2.2.2.2.2.1.1 hH (mj_D E mem) hS b 0 (mj_wl_get hc) rfl hi hd fun H1 locs1 a1 a2 a3 => ?_
    refine kk.2 E l p e s m args below meth c L0 S0 C h1 h2 H1 locs1 ls ?_ a3 hL
    unfold mj_H
    rw [← mj_wl_set (E := E) (g := mj_wr mem.2 b i.toNatClampNeg x) hc (fun i hi => mj_wr_ne mem.2 x hi), mj_wr_same]
    exact a1⟩
theorem mj_zast {b n : Nat} {rs : Nat → Option Nat} {i x : Int32} (hd : decode M.2.1 pc = .ok (.bastore, 1)) (hc : mem.1[b]? = some (1, n, rs)) (hb : b < 1000000) (hi : vp_in i n)
    (kk : mj_R M (pc + 1) lv st (mem.1, mj_wr mem.2 b i.toNatClampNeg (vp_nar .boolean x)) r mem') : mj_R M pc lv (.int x :: .int i :: .ref b :: st) mem r mem' :=
  ⟨kk.1, fun E l p e s m args below meth c L0 S0 C h1 h2 H locs ls hH hS hL => by
    rw [List.map_cons, List.map_cons, List.map_cons, mj_adw hb]
    refine va_zast C.1 C.2.1 C.2.2.2.2.2.2.2.2.1.1 hH (mj_D E mem) hS b 1 (mj_wl_get hc) rfl hi hd fun H1 locs1 a1 a2 a3 => ?_
    refine kk.2 E l p e s m args below meth c L0 S0 C h1 h2 H1 locs1 ls ?_ a3 hL
    unfold mj_H
    rw [← mj_wl_set (E := E) (g := mj_wr mem.2 b i.toNatClampNeg (vp_nar .boolean x)) hc (fun i hi => mj_wr_ne mem.2 _ hi), mj_wr_same]
    exact a1⟩
theorem mj_alen {b n : Nat} {rs : Nat → Option Nat} {v : Int32} (hd : decode M.2.1 pc = .ok (.arraylength, 1)) (hc : mem.1[b]? = some (0, n, rs)) (hb : b < 1000000) (hv : Int32.ofNat n = v)
    (kk : mj_R M (pc + 1) lv (.int v :: st) mem r mem') : mj_R M pc lv (.ref b :: st) mem r mem' :=
  ⟨kk.1, fun E l p e s m args below meth c L0 S0 C h1 h2 H locs ls hH hS hL => by
    rw [List.map_cons, mj_adw hb]
    exact va_alen C.1 C.2.1 C.2.2.2.2.2.2.2.2.1.1 hH b 0 (mj_wl_get hc) rfl hv hd (kk.2 E l p e s m args below meth c L0 S0 C h1 h2 H locs ls hH hS hL)⟩
/-- a reference stored into an array of Towns -/
theorem mj_aast {b n j n2 : Nat} {rs rs2 : Nat → Option Nat} {i : Int32} (hd : decode M.2.1 pc = .ok (.aastore, 1)) (hc : mem.1[b]? = some (2, n, rs)) (hb : b < 1000000) (hi : vp_in i n) (hj : mem.1[j]? = some (12, n2, rs2)) (hj2 : j < 1000000)
    (kk : mj_R M (pc + 1) lv st (mem.1.set b (2, n, va_up rs i.toNatClampNeg (some j)), mem.2) r mem') : mj_R M pc lv (.ref j :: .int i :: .ref b :: st) mem r mem' := by
  have hlen : (mem.1.set b (2, n, va_up rs i.toNatClampNeg (some j))).length = mem.1.length := List.length_set
  have hsz : mj_sz (mem.1.set b (2, n, va_up rs i.toNatClampNeg (some j)), mem.2) = mj_sz mem := by
    unfold mj_sz
    show ((mem.1.set b (2, n, va_up rs i.toNatClampNeg (some j))).map (fun c => c.2.1)).sum = _
    rw [List.map_set, mj_set_eq (by rw [List.getElem?_map, hc]; rfl)]
  refine ⟨by rw [← hsz]; exact ⟨hlen ▸ kk.1.1, kk.1.2⟩, fun E l p e s m args below meth c L0 S0 C h1 h2 H locs ls hH hS hL => ?_⟩
  rw [List.map_cons, List.map_cons, List.map_cons, mj_adw hb, mj_adw hj2]
  refine va_astq C.1 C.2.1 C.2.2.2.2.2.2.2.2.1.1 hH (mj_D E mem) hS b 2 j 9 (mj_wl_get hc) rfl (mj_wl_get hj) rfl hi hd fun H1 locs1 a1 a2 a3 => ?_
  have k1 := kk.2 E l p e s m args below meth c L0 S0 C (by rw [show (mem.1.set b (2, n, va_up rs i.toNatClampNeg (some j)), mem.2).1.length = mem.1.length from hlen]; exact h1) (by rw [hsz]; exact h2) H1 locs1 ls ?_ a3 hL
  · rw [hsz, show (mem.1.set b (2, n, va_up rs i.toNatClampNeg (some j)), mem.2).1.length = mem.1.length from hlen] at k1
    exact k1
  · unfold mj_H
    rw [← mj_wl_setr (E := E) (c' := (2, n, va_up rs i.toNatClampNeg (some j))) hc]
    have e5 : mj_cell E (2, n, va_up rs i.toNatClampNeg (some j)) (mem.2 b) = .inl (E.2.1 2, n, .inr (.inr (.inr (.inr (va_up (fun j => (rs j).map (fun i => E.2.2.1 + i)) i.toNatClampNeg (some (E.2.2.1 + j))))))) := by
      show (Sum.inl (E.2.1 2, n, .inr (.inr (.inr (.inr (fun q => (va_up rs i.toNatClampNeg (some j) q).map (fun i => E.2.2.1 + i)))))) : va_E) = _
      congr 7
      funext q
      unfold va_up
      by_cases hq : q = i.toNatClampNeg
      · simp [hq]
      · simp [hq]
    rw [e5]
    exact a1
/-- the ends -/
theorem mj_iret {x : Int32} (hd : decode M.2.1 pc = .ok (.ireturn, 1)) (hr : M.2.2.2.1 = some .int) : mj_R M pc lv [.int x] mem (some (.int x)) mem :=
  ⟨⟨Nat.le_refl _, Nat.le_refl _⟩, fun E l p e s m args below meth c L0 S0 C h1 h2 H locs ls hH hS hL =>
    W.iret C.1 C.2.1 (C.2.2.2.2.2.1.trans hr) (fun t ht hW => ⟨rfl, by rw [ht]; exact hH, hS.F ht⟩) hS.2.2 hd C.2.2.2.2.2.2.1⟩
theorem mj_zret {x : Int32} {ty : FieldType} (hd : decode M.2.1 pc = .ok (.ireturn, 1)) (hr : M.2.2.2.1 = some ty) (hn : narrow ty (.int x) = .int x) : mj_R M pc lv [.int x] mem (some (.int x)) mem :=
  ⟨⟨Nat.le_refl _, Nat.le_refl _⟩, fun E l p e s m args below meth c L0 S0 C h1 h2 H locs ls hH hS hL =>
    W.zret C.1 C.2.1 (C.2.2.2.2.2.1.trans hr) hn (fun t ht hW => ⟨rfl, by rw [ht]; exact hH, hS.F ht⟩) hS.2.2 hd C.2.2.2.2.2.2.1⟩
theorem mj_vret (hd : decode M.2.1 pc = .ok (.return_, 1)) (hr : M.2.2.2.1 = none) : mj_R M pc lv [] mem none mem :=
  ⟨⟨Nat.le_refl _, Nat.le_refl _⟩, fun E l p e s m args below meth c L0 S0 C h1 h2 H locs ls hH hS hL =>
    W.vret C.1 C.2.1 (C.2.2.2.2.2.1.trans hr) (fun t ht hW => ⟨rfl, by rw [ht]; exact hH, hS.F ht⟩) hS.2.2 hd C.2.2.2.2.2.2.1⟩
end MJH
