section MJ
variable {M : mj_M} {pc : Nat} {lv : List (Option Value)} {st : List Value} {mem mem' : mj_Mem} {r : Option Value}
theorem mj_iconst {n : Int} {v : Int32} (hd : decode M.2.1 pc = .ok (.iconst n, 1)) (hv : Int32.ofInt n = v)
    (k : mj_R M (pc + 1) lv (.int v :: st) mem r mem') : mj_R M pc lv (st) mem r mem' :=
  ⟨k.1, fun E l p e s m args below meth c L0 S0 C h1 h2 H locs ls hH hS hL => lv_iconst C.1 C.2.1 hd hv (k.2 E l p e s m args below meth c L0 S0 C h1 h2 H locs ls hH hS hL)⟩
theorem mj_bipush {n : Int} {v : Int32} (hd : decode M.2.1 pc = .ok (.bipush n, 2)) (hv : (Int8.ofInt n).toInt32 = v)
    (k : mj_R M (pc + 2) lv (.int v :: st) mem r mem') : mj_R M pc lv (st) mem r mem' :=
  ⟨k.1, fun E l p e s m args below meth c L0 S0 C h1 h2 H locs ls hH hS hL => lv_bipush C.1 C.2.1 hd hv (k.2 E l p e s m args below meth c L0 S0 C h1 h2 H locs ls hH hS hL)⟩
theorem mj_sipush {n : Int} {v : Int32} (hd : decode M.2.1 pc = .ok (.sipush n, 3)) (hv : (Int16.ofInt n).toInt32 = v)
    (k : mj_R M (pc + 3) lv (.int v :: st) mem r mem') : mj_R M pc lv (st) mem r mem' :=
  ⟨k.1, fun E l p e s m args below meth c L0 S0 C h1 h2 H locs ls hH hS hL => lv_sipush C.1 C.2.1 hd hv (k.2 E l p e s m args below meth c L0 S0 C h1 h2 H locs ls hH hS hL)⟩
theorem mj_lconst {n : Fin 2} {v : Int64} (hd : decode M.2.1 pc = .ok (.lconst n, 1)) (hv : Int64.ofNat (n : Nat) = v)
    (k : mj_R M (pc + 1) lv (.long v :: st) mem r mem') : mj_R M pc lv (st) mem r mem' :=
  ⟨k.1, fun E l p e s m args below meth c L0 S0 C h1 h2 H locs ls hH hS hL => lv_lconst C.1 C.2.1 hd hv (k.2 E l p e s m args below meth c L0 S0 C h1 h2 H locs ls hH hS hL)⟩
theorem mj_ldc {i : Nat} {v : Int32} (hd : decode M.2.1 pc = .ok (.ldc i, 2)) (hw : Cond.constant M.1.cls i v ∈ TB)
    (k : mj_R M (pc + 2) lv (.int v :: st) mem r mem') : mj_R M pc lv (st) mem r mem' :=
  ⟨k.1, fun E l p e s m args below meth c L0 S0 C h1 h2 H locs ls hH hS hL => lv_ldc C.1 C.2.1 C.2.2.2.1 (C.2.2.2.2.1 _ hw) hd (k.2 E l p e s m args below meth c L0 S0 C h1 h2 H locs ls hH hS hL)⟩
theorem mj_ldc2 {i : Nat} {v : Int64} (hd : decode M.2.1 pc = .ok (.ldc2_w i, 3)) (hw : Cond.constantLong M.1.cls i v ∈ TB)
    (k : mj_R M (pc + 3) lv (.long v :: st) mem r mem') : mj_R M pc lv (st) mem r mem' :=
  ⟨k.1, fun E l p e s m args below meth c L0 S0 C h1 h2 H locs ls hH hS hL => lv_ldc2 C.1 C.2.1 C.2.2.2.1 (C.2.2.2.2.1 _ hw) hd (k.2 E l p e s m args below meth c L0 S0 C h1 h2 H locs ls hH hS hL)⟩
theorem mj_iload_n {n : Fin 4} {i : Nat} {x : Int32} (hd : decode M.2.1 pc = .ok (.iload_n n, 1)) (hi : (n : Nat) = i) (hv : lv[i]? = some (some (.int x)))
    (k : mj_R M (pc + 1) lv (.int x :: st) mem r mem') : mj_R M pc lv (st) mem r mem' :=
  ⟨k.1, fun E l p e s m args below meth c L0 S0 C h1 h2 H locs ls hH hS hL => lv_iload_n C.1 C.2.1 hd hi (hL.2.2 _ _ hv) (k.2 E l p e s m args below meth c L0 S0 C h1 h2 H locs ls hH hS hL)⟩
theorem mj_iload {i : Nat} {x : Int32} (hd : decode M.2.1 pc = .ok (.iload i, 2)) (hv : lv[i]? = some (some (.int x)))
    (k : mj_R M (pc + 2) lv (.int x :: st) mem r mem') : mj_R M pc lv (st) mem r mem' :=
  ⟨k.1, fun E l p e s m args below meth c L0 S0 C h1 h2 H locs ls hH hS hL => lv_iload C.1 C.2.1 hd (hL.2.2 _ _ hv) (k.2 E l p e s m args below meth c L0 S0 C h1 h2 H locs ls hH hS hL)⟩
theorem mj_lload_n {n : Fin 4} {i : Nat} {x : Int64} (hd : decode M.2.1 pc = .ok (.lload_n n, 1)) (hi : (n : Nat) = i) (hv : lv[i]? = some (some (.long x)))
    (k : mj_R M (pc + 1) lv (.long x :: st) mem r mem') : mj_R M pc lv (st) mem r mem' :=
  ⟨k.1, fun E l p e s m args below meth c L0 S0 C h1 h2 H locs ls hH hS hL => lv_lload_n C.1 C.2.1 hd hi (hL.2.2 _ _ hv) (k.2 E l p e s m args below meth c L0 S0 C h1 h2 H locs ls hH hS hL)⟩
theorem mj_lload {i : Nat} {x : Int64} (hd : decode M.2.1 pc = .ok (.lload i, 2)) (hv : lv[i]? = some (some (.long x)))
    (k : mj_R M (pc + 2) lv (.long x :: st) mem r mem') : mj_R M pc lv (st) mem r mem' :=
  ⟨k.1, fun E l p e s m args below meth c L0 S0 C h1 h2 H locs ls hH hS hL => lv_lload C.1 C.2.1 hd (hL.2.2 _ _ hv) (k.2 E l p e s m args below meth c L0 S0 C h1 h2 H locs ls hH hS hL)⟩
theorem mj_aload_n {n : Fin 4} {i b : Nat} (hd : decode M.2.1 pc = .ok (.aload_n n, 1)) (hi : (n : Nat) = i) (hv : lv[i]? = some (some (.ref b))) (hb : b < 3000000)
    (k : mj_R M (pc + 1) lv (.ref b :: st) mem r mem') : mj_R M pc lv st mem r mem' :=
  ⟨k.1, fun E l p e s m args below meth c L0 S0 C h1 h2 H locs ls hH hS hL => by
    obtain ⟨a, ha⟩ := mj_adr (E := E) hb
    have hx := hL.2.2 _ _ hv
    have kk := (k.2 E l p e s m args below meth c L0 S0 C h1 h2 H locs ls hH hS hL)
    rw [List.map_cons, ha] at kk
    rw [ha] at hx
    exact lv_aload_n C.1 C.2.1 hd hi hx kk⟩
theorem mj_aload {i b : Nat} (hd : decode M.2.1 pc = .ok (.aload i, 2)) (hv : lv[i]? = some (some (.ref b))) (hb : b < 3000000)
    (k : mj_R M (pc + 2) lv (.ref b :: st) mem r mem') : mj_R M pc lv st mem r mem' :=
  ⟨k.1, fun E l p e s m args below meth c L0 S0 C h1 h2 H locs ls hH hS hL => by
    obtain ⟨a, ha⟩ := mj_adr (E := E) hb
    have hx := hL.2.2 _ _ hv
    have kk := (k.2 E l p e s m args below meth c L0 S0 C h1 h2 H locs ls hH hS hL)
    rw [List.map_cons, ha] at kk
    rw [ha] at hx
    exact lv_aload C.1 C.2.1 hd hx kk⟩
theorem mj_istore_n {n : Fin 4} {i : Nat} {x : Int32} (hd : decode M.2.1 pc = .ok (.istore_n n, 1)) (hi : (n : Nat) = i) (hok : mj_ok lv i = true) (hn : i < M.2.2.1)
    (k : mj_R M (pc + 1) (lv.set i (some (.int x))) st mem r mem') : mj_R M pc lv (.int x :: st) mem r mem' :=
  ⟨k.1, fun E l p e s m args below meth c L0 S0 C h1 h2 H locs ls hH hS hL => by
    obtain ⟨q, hq, hin⟩ := hL.set
    exact lv_istore_n C.1 C.2.1 hd hi hq hn rfl (fun ls' hl' => k.2 E l p e s m args below meth c L0 S0 C h1 h2 H locs ls' hH hS (mj_L.stored (v := .int x) C.2.2.2.2.2.2.2.2.1.2.2.2.2.2.2.1 hin hok hl'))⟩
theorem mj_istore {i : Nat} {x : Int32} (hd : decode M.2.1 pc = .ok (.istore i, 2)) (hok : mj_ok lv i = true) (hn : i < M.2.2.1)
    (k : mj_R M (pc + 2) (lv.set i (some (.int x))) st mem r mem') : mj_R M pc lv (.int x :: st) mem r mem' :=
  ⟨k.1, fun E l p e s m args below meth c L0 S0 C h1 h2 H locs ls hH hS hL => by
    obtain ⟨q, hq, hin⟩ := hL.set
    exact lv_istore C.1 C.2.1 hd hq hn rfl (fun ls' hl' => k.2 E l p e s m args below meth c L0 S0 C h1 h2 H locs ls' hH hS (mj_L.stored (v := .int x) C.2.2.2.2.2.2.2.2.1.2.2.2.2.2.2.1 hin hok hl'))⟩
theorem mj_iinc {i : Nat} {n : Int} {x v : Int32} (hd : decode M.2.1 pc = .ok (.iinc i n, 3)) (hv : lv[i]? = some (some (.int x))) (hx : x + Int32.ofInt n = v) (hok : mj_ok lv i = true) (hn : i < M.2.2.1)
    (k : mj_R M (pc + 3) (lv.set i (some (.int v))) st mem r mem') : mj_R M pc lv st mem r mem' :=
  ⟨k.1, fun E l p e s m args below meth c L0 S0 C h1 h2 H locs ls hH hS hL => by
    obtain ⟨q, hq, hin⟩ := hL.set
    obtain ⟨j, hj⟩ := List.getElem?_of_mem (hin _ _ hv)
    exact lv_iinc C.1 C.2.1 hd hq hj hx hn rfl (fun ls' hl' => k.2 E l p e s m args below meth c L0 S0 C h1 h2 H locs ls' hH hS (mj_L.stored (v := .int v) C.2.2.2.2.2.2.2.2.1.2.2.2.2.2.2.1 hin hok hl'))⟩
theorem mj_astore_n {n : Fin 4} {i b : Nat} (hd : decode M.2.1 pc = .ok (.astore_n n, 1)) (hi : (n : Nat) = i) (hb : b < 3000000) (hok : mj_ok lv i = true) (hn : i < M.2.2.1)
    (k : mj_R M (pc + 1) (lv.set i (some (.ref b))) st mem r mem') : mj_R M pc lv (.ref b :: st) mem r mem' :=
  ⟨k.1, fun E l p e s m args below meth c L0 S0 C h1 h2 H locs ls hH hS hL => by
    obtain ⟨q, hq, hin⟩ := hL.set
    obtain ⟨a, ha⟩ := mj_adr (E := E) hb
    rw [List.map_cons, ha]
    exact lv_astore_n C.1 C.2.1 hd hi hq hn rfl (fun ls' hl' => k.2 E l p e s m args below meth c L0 S0 C h1 h2 H locs ls' hH hS (mj_L.stored (v := .ref b) C.2.2.2.2.2.2.2.2.1.2.2.2.2.2.2.1 hin hok (by rw [ha]; exact hl')))⟩
theorem mj_iadd {x y : Int32} (hd : decode M.2.1 pc = .ok (.iadd, 1))
    (k : mj_R M (pc + 1) lv (.int (x + y) :: st) mem r mem') : mj_R M pc lv (.int y :: .int x :: st) mem r mem' :=
  ⟨k.1, fun E l p e s m args below meth c L0 S0 C h1 h2 H locs ls hH hS hL => lv_iadd C.1 C.2.1 hd (k.2 E l p e s m args below meth c L0 S0 C h1 h2 H locs ls hH hS hL)⟩
theorem mj_isub {x y : Int32} (hd : decode M.2.1 pc = .ok (.isub, 1))
    (k : mj_R M (pc + 1) lv (.int (x - y) :: st) mem r mem') : mj_R M pc lv (.int y :: .int x :: st) mem r mem' :=
  ⟨k.1, fun E l p e s m args below meth c L0 S0 C h1 h2 H locs ls hH hS hL => lv_isub C.1 C.2.1 hd (k.2 E l p e s m args below meth c L0 S0 C h1 h2 H locs ls hH hS hL)⟩
theorem mj_imul {x y : Int32} (hd : decode M.2.1 pc = .ok (.imul, 1))
    (k : mj_R M (pc + 1) lv (.int (x * y) :: st) mem r mem') : mj_R M pc lv (.int y :: .int x :: st) mem r mem' :=
  ⟨k.1, fun E l p e s m args below meth c L0 S0 C h1 h2 H locs ls hH hS hL => lv_imul C.1 C.2.1 hd (k.2 E l p e s m args below meth c L0 S0 C h1 h2 H locs ls hH hS hL)⟩
theorem mj_iand {x y : Int32} (hd : decode M.2.1 pc = .ok (.iand, 1))
    (k : mj_R M (pc + 1) lv (.int (x &&& y) :: st) mem r mem') : mj_R M pc lv (.int y :: .int x :: st) mem r mem' :=
  ⟨k.1, fun E l p e s m args below meth c L0 S0 C h1 h2 H locs ls hH hS hL => lv_iand C.1 C.2.1 hd (k.2 E l p e s m args below meth c L0 S0 C h1 h2 H locs ls hH hS hL)⟩
theorem mj_ishr {x y : Int32} (hd : decode M.2.1 pc = .ok (.ishr, 1))
    (k : mj_R M (pc + 1) lv (.int (x >>> (y &&& 31)) :: st) mem r mem') : mj_R M pc lv (.int y :: .int x :: st) mem r mem' :=
  ⟨k.1, fun E l p e s m args below meth c L0 S0 C h1 h2 H locs ls hH hS hL => lv_ishr C.1 C.2.1 hd (k.2 E l p e s m args below meth c L0 S0 C h1 h2 H locs ls hH hS hL)⟩
theorem mj_iushr {x y : Int32} (hd : decode M.2.1 pc = .ok (.iushr, 1))
    (k : mj_R M (pc + 1) lv (.int (x.toUInt32 >>> (y.toUInt32 &&& Int32.toUInt32 31)).toInt32 :: st) mem r mem') : mj_R M pc lv (.int y :: .int x :: st) mem r mem' :=
  ⟨k.1, fun E l p e s m args below meth c L0 S0 C h1 h2 H locs ls hH hS hL => lv_iushr C.1 C.2.1 hd rfl (k.2 E l p e s m args below meth c L0 S0 C h1 h2 H locs ls hH hS hL)⟩
theorem mj_idiv {x y : Int32} (hd : decode M.2.1 pc = .ok (.idiv, 1)) (hy : ¬ y = 0)
    (k : mj_R M (pc + 1) lv (.int (x / y) :: st) mem r mem') : mj_R M pc lv (.int y :: .int x :: st) mem r mem' :=
  ⟨k.1, fun E l p e s m args below meth c L0 S0 C h1 h2 H locs ls hH hS hL => lv_idiv C.1 C.2.1 hd hy (k.2 E l p e s m args below meth c L0 S0 C h1 h2 H locs ls hH hS hL)⟩
theorem mj_irem {x y : Int32} (hd : decode M.2.1 pc = .ok (.irem, 1)) (hy : ¬ y = 0)
    (k : mj_R M (pc + 1) lv (.int (x - x / y * y) :: st) mem r mem') : mj_R M pc lv (.int y :: .int x :: st) mem r mem' :=
  ⟨k.1, fun E l p e s m args below meth c L0 S0 C h1 h2 H locs ls hH hS hL => lv_irem C.1 C.2.1 hd hy (k.2 E l p e s m args below meth c L0 S0 C h1 h2 H locs ls hH hS hL)⟩
theorem mj_ladd {x y : Int64} (hd : decode M.2.1 pc = .ok (.ladd, 1))
    (k : mj_R M (pc + 1) lv (.long (x + y) :: st) mem r mem') : mj_R M pc lv (.long y :: .long x :: st) mem r mem' :=
  ⟨k.1, fun E l p e s m args below meth c L0 S0 C h1 h2 H locs ls hH hS hL => lv_ladd C.1 C.2.1 hd (k.2 E l p e s m args below meth c L0 S0 C h1 h2 H locs ls hH hS hL)⟩
theorem mj_lmul {x y : Int64} (hd : decode M.2.1 pc = .ok (.lmul, 1))
    (k : mj_R M (pc + 1) lv (.long (x * y) :: st) mem r mem') : mj_R M pc lv (.long y :: .long x :: st) mem r mem' :=
  ⟨k.1, fun E l p e s m args below meth c L0 S0 C h1 h2 H locs ls hH hS hL => lv_lmul C.1 C.2.1 hd (k.2 E l p e s m args below meth c L0 S0 C h1 h2 H locs ls hH hS hL)⟩
theorem mj_ldiv {x y : Int64} (hd : decode M.2.1 pc = .ok (.ldiv, 1)) (hy : ¬ y = 0)
    (k : mj_R M (pc + 1) lv (.long (x / y) :: st) mem r mem') : mj_R M pc lv (.long y :: .long x :: st) mem r mem' :=
  ⟨k.1, fun E l p e s m args below meth c L0 S0 C h1 h2 H locs ls hH hS hL => lv_ldiv C.1 C.2.1 hd hy (k.2 E l p e s m args below meth c L0 S0 C h1 h2 H locs ls hH hS hL)⟩
theorem mj_lrem {x y : Int64} (hd : decode M.2.1 pc = .ok (.lrem, 1)) (hy : ¬ y = 0)
    (k : mj_R M (pc + 1) lv (.long (x - x / y * y) :: st) mem r mem') : mj_R M pc lv (.long y :: .long x :: st) mem r mem' :=
  ⟨k.1, fun E l p e s m args below meth c L0 S0 C h1 h2 H locs ls hH hS hL => lv_lrem C.1 C.2.1 hd hy (k.2 E l p e s m args below meth c L0 S0 C h1 h2 H locs ls hH hS hL)⟩
theorem mj_lcmp {x y : Int64} (hd : decode M.2.1 pc = .ok (.lcmp, 1))
    (k : mj_R M (pc + 1) lv (.int (lg_cmp x y) :: st) mem r mem') : mj_R M pc lv (.long y :: .long x :: st) mem r mem' :=
  ⟨k.1, fun E l p e s m args below meth c L0 S0 C h1 h2 H locs ls hH hS hL => W.lcmp C.1 C.2.1 hd (k.2 E l p e s m args below meth c L0 S0 C h1 h2 H locs ls hH hS hL)⟩
theorem mj_i2l {x : Int32} (hd : decode M.2.1 pc = .ok (.i2l, 1))
    (k : mj_R M (pc + 1) lv (.long x.toInt64 :: st) mem r mem') : mj_R M pc lv (.int x :: st) mem r mem' :=
  ⟨k.1, fun E l p e s m args below meth c L0 S0 C h1 h2 H locs ls hH hS hL => lv_i2l C.1 C.2.1 hd rfl (k.2 E l p e s m args below meth c L0 S0 C h1 h2 H locs ls hH hS hL)⟩
theorem mj_l2i {x : Int64} (hd : decode M.2.1 pc = .ok (.l2i, 1))
    (k : mj_R M (pc + 1) lv (.int x.toInt32 :: st) mem r mem') : mj_R M pc lv (.long x :: st) mem r mem' :=
  ⟨k.1, fun E l p e s m args below meth c L0 S0 C h1 h2 H locs ls hH hS hL => lv_l2i C.1 C.2.1 hd rfl (k.2 E l p e s m args below meth c L0 S0 C h1 h2 H locs ls hH hS hL)⟩
theorem mj_i2c {x : Int32} (hd : decode M.2.1 pc = .ok (.i2c, 1))
    (k : mj_R M (pc + 1) lv (.int (x.toUInt32 % 65536).toInt32 :: st) mem r mem') : mj_R M pc lv (.int x :: st) mem r mem' :=
  ⟨k.1, fun E l p e s m args below meth c L0 S0 C h1 h2 H locs ls hH hS hL => lv_i2c C.1 C.2.1 hd rfl (k.2 E l p e s m args below meth c L0 S0 C h1 h2 H locs ls hH hS hL)⟩
theorem mj_popI {x : Int32} (hd : decode M.2.1 pc = .ok (.pop, 1))
    (k : mj_R M (pc + 1) lv (st) mem r mem') : mj_R M pc lv (.int x :: st) mem r mem' :=
  ⟨k.1, fun E l p e s m args below meth c L0 S0 C h1 h2 H locs ls hH hS hL => lv_pop C.1 C.2.1 hd rfl (k.2 E l p e s m args below meth c L0 S0 C h1 h2 H locs ls hH hS hL)⟩
theorem mj_dup {v : Value} (hd : decode M.2.1 pc = .ok (.dup, 1)) (hc : v.category = 1)
    (k : mj_R M (pc + 1) lv (v :: v :: st) mem r mem') : mj_R M pc lv (v :: st) mem r mem' :=
  ⟨k.1, fun E l p e s m args below meth c L0 S0 C h1 h2 H locs ls hH hS hL => lv_dup C.1 C.2.1 hd ((mj_cat C.2.2.2.2.2.2.2.2.1.2.2.2.2.2.2.1 v).trans hc) (k.2 E l p e s m args below meth c L0 S0 C h1 h2 H locs ls hH hS hL)⟩
theorem mj_dup2 {v w : Value} (hd : decode M.2.1 pc = .ok (.dup2, 1)) (hc : v.category = 1) (hc2 : w.category = 1)
    (k : mj_R M (pc + 1) lv (v :: w :: v :: w :: st) mem r mem') : mj_R M pc lv (v :: w :: st) mem r mem' :=
  ⟨k.1, fun E l p e s m args below meth c L0 S0 C h1 h2 H locs ls hH hS hL => lv_dup2_11 C.1 C.2.1 hd ((mj_cat C.2.2.2.2.2.2.2.2.1.2.2.2.2.2.2.1 v).trans hc) ((mj_cat C.2.2.2.2.2.2.2.2.1.2.2.2.2.2.2.1 w).trans hc2) (k.2 E l p e s m args below meth c L0 S0 C h1 h2 H locs ls hH hS hL)⟩
theorem mj_goto {off : Int} {tgt : Nat} (hd : decode M.2.1 pc = .ok (.goto off, 3)) (ht : (pc : Int) + off = (tgt : Int))
    (k : mj_R M tgt lv (st) mem r mem') : mj_R M pc lv (st) mem r mem' :=
  ⟨k.1, fun E l p e s m args below meth c L0 S0 C h1 h2 H locs ls hH hS hL => lv_goto C.1 C.2.1 hd ht (k.2 E l p e s m args below meth c L0 S0 C h1 h2 H locs ls hH hS hL)⟩
theorem mj_if_eq {x y : Int32} {off : Int} {tgt : Nat} (hd : decode M.2.1 pc = .ok (.ifCond .eq off, 3)) (ht : (pc : Int) + off = (tgt : Int)) (hs : mem.1.length ≤ mem'.1.length ∧ mj_sz mem ≤ mj_sz mem')
    (kt : x = 0 → mj_R M tgt lv st mem r mem') (kf : ¬ x = 0 → mj_R M (pc + 3) lv st mem r mem') : mj_R M pc lv (.int x :: st) mem r mem' :=
  ⟨hs, fun E l p e s m args below meth c L0 S0 C h1 h2 H locs ls hH hS hL => lv_if_eq C.1 C.2.1 hd ht (fun hc => (kt hc).2 E l p e s m args below meth c L0 S0 C h1 h2 H locs ls hH hS hL) (fun hc => (kf hc).2 E l p e s m args below meth c L0 S0 C h1 h2 H locs ls hH hS hL)⟩
theorem mj_icmp_eq {x y : Int32} {off : Int} {tgt : Nat} (hd : decode M.2.1 pc = .ok (.if_icmp .eq off, 3)) (ht : (pc : Int) + off = (tgt : Int)) (hs : mem.1.length ≤ mem'.1.length ∧ mj_sz mem ≤ mj_sz mem')
    (kt : x = y → mj_R M tgt lv st mem r mem') (kf : ¬ x = y → mj_R M (pc + 3) lv st mem r mem') : mj_R M pc lv (.int y :: .int x :: st) mem r mem' :=
  ⟨hs, fun E l p e s m args below meth c L0 S0 C h1 h2 H locs ls hH hS hL => lv_icmp_eq C.1 C.2.1 hd ht (fun hc => (kt hc).2 E l p e s m args below meth c L0 S0 C h1 h2 H locs ls hH hS hL) (fun hc => (kf hc).2 E l p e s m args below meth c L0 S0 C h1 h2 H locs ls hH hS hL)⟩
theorem mj_if_ne {x y : Int32} {off : Int} {tgt : Nat} (hd : decode M.2.1 pc = .ok (.ifCond .ne off, 3)) (ht : (pc : Int) + off = (tgt : Int)) (hs : mem.1.length ≤ mem'.1.length ∧ mj_sz mem ≤ mj_sz mem')
    (kt : ¬ x = 0 → mj_R M tgt lv st mem r mem') (kf : x = 0 → mj_R M (pc + 3) lv st mem r mem') : mj_R M pc lv (.int x :: st) mem r mem' :=
  ⟨hs, fun E l p e s m args below meth c L0 S0 C h1 h2 H locs ls hH hS hL => lv_if_ne C.1 C.2.1 hd ht (fun hc => (kt hc).2 E l p e s m args below meth c L0 S0 C h1 h2 H locs ls hH hS hL) (fun hc => (kf hc).2 E l p e s m args below meth c L0 S0 C h1 h2 H locs ls hH hS hL)⟩
theorem mj_icmp_ne {x y : Int32} {off : Int} {tgt : Nat} (hd : decode M.2.1 pc = .ok (.if_icmp .ne off, 3)) (ht : (pc : Int) + off = (tgt : Int)) (hs : mem.1.length ≤ mem'.1.length ∧ mj_sz mem ≤ mj_sz mem')
    (kt : ¬ x = y → mj_R M tgt lv st mem r mem') (kf : x = y → mj_R M (pc + 3) lv st mem r mem') : mj_R M pc lv (.int y :: .int x :: st) mem r mem' :=
  ⟨hs, fun E l p e s m args below meth c L0 S0 C h1 h2 H locs ls hH hS hL => lv_icmp_ne C.1 C.2.1 hd ht (fun hc => (kt hc).2 E l p e s m args below meth c L0 S0 C h1 h2 H locs ls hH hS hL) (fun hc => (kf hc).2 E l p e s m args below meth c L0 S0 C h1 h2 H locs ls hH hS hL)⟩
theorem mj_if_lt {x y : Int32} {off : Int} {tgt : Nat} (hd : decode M.2.1 pc = .ok (.ifCond .lt off, 3)) (ht : (pc : Int) + off = (tgt : Int)) (hs : mem.1.length ≤ mem'.1.length ∧ mj_sz mem ≤ mj_sz mem')
    (kt : x < 0 → mj_R M tgt lv st mem r mem') (kf : ¬ x < 0 → mj_R M (pc + 3) lv st mem r mem') : mj_R M pc lv (.int x :: st) mem r mem' :=
  ⟨hs, fun E l p e s m args below meth c L0 S0 C h1 h2 H locs ls hH hS hL => lv_if_lt C.1 C.2.1 hd ht (fun hc => (kt hc).2 E l p e s m args below meth c L0 S0 C h1 h2 H locs ls hH hS hL) (fun hc => (kf hc).2 E l p e s m args below meth c L0 S0 C h1 h2 H locs ls hH hS hL)⟩
theorem mj_icmp_lt {x y : Int32} {off : Int} {tgt : Nat} (hd : decode M.2.1 pc = .ok (.if_icmp .lt off, 3)) (ht : (pc : Int) + off = (tgt : Int)) (hs : mem.1.length ≤ mem'.1.length ∧ mj_sz mem ≤ mj_sz mem')
    (kt : x < y → mj_R M tgt lv st mem r mem') (kf : ¬ x < y → mj_R M (pc + 3) lv st mem r mem') : mj_R M pc lv (.int y :: .int x :: st) mem r mem' :=
  ⟨hs, fun E l p e s m args below meth c L0 S0 C h1 h2 H locs ls hH hS hL => lv_icmp_lt C.1 C.2.1 hd ht (fun hc => (kt hc).2 E l p e s m args below meth c L0 S0 C h1 h2 H locs ls hH hS hL) (fun hc => (kf hc).2 E l p e s m args below meth c L0 S0 C h1 h2 H locs ls hH hS hL)⟩
theorem mj_if_ge {x y : Int32} {off : Int} {tgt : Nat} (hd : decode M.2.1 pc = .ok (.ifCond .ge off, 3)) (ht : (pc : Int) + off = (tgt : Int)) (hs : mem.1.length ≤ mem'.1.length ∧ mj_sz mem ≤ mj_sz mem')
    (kt : 0 ≤ x → mj_R M tgt lv st mem r mem') (kf : ¬ 0 ≤ x → mj_R M (pc + 3) lv st mem r mem') : mj_R M pc lv (.int x :: st) mem r mem' :=
  ⟨hs, fun E l p e s m args below meth c L0 S0 C h1 h2 H locs ls hH hS hL => lv_if_ge C.1 C.2.1 hd ht (fun hc => (kt hc).2 E l p e s m args below meth c L0 S0 C h1 h2 H locs ls hH hS hL) (fun hc => (kf hc).2 E l p e s m args below meth c L0 S0 C h1 h2 H locs ls hH hS hL)⟩
theorem mj_icmp_ge {x y : Int32} {off : Int} {tgt : Nat} (hd : decode M.2.1 pc = .ok (.if_icmp .ge off, 3)) (ht : (pc : Int) + off = (tgt : Int)) (hs : mem.1.length ≤ mem'.1.length ∧ mj_sz mem ≤ mj_sz mem')
    (kt : y ≤ x → mj_R M tgt lv st mem r mem') (kf : ¬ y ≤ x → mj_R M (pc + 3) lv st mem r mem') : mj_R M pc lv (.int y :: .int x :: st) mem r mem' :=
  ⟨hs, fun E l p e s m args below meth c L0 S0 C h1 h2 H locs ls hH hS hL => lv_icmp_ge C.1 C.2.1 hd ht (fun hc => (kt hc).2 E l p e s m args below meth c L0 S0 C h1 h2 H locs ls hH hS hL) (fun hc => (kf hc).2 E l p e s m args below meth c L0 S0 C h1 h2 H locs ls hH hS hL)⟩
theorem mj_if_gt {x y : Int32} {off : Int} {tgt : Nat} (hd : decode M.2.1 pc = .ok (.ifCond .gt off, 3)) (ht : (pc : Int) + off = (tgt : Int)) (hs : mem.1.length ≤ mem'.1.length ∧ mj_sz mem ≤ mj_sz mem')
    (kt : 0 < x → mj_R M tgt lv st mem r mem') (kf : ¬ 0 < x → mj_R M (pc + 3) lv st mem r mem') : mj_R M pc lv (.int x :: st) mem r mem' :=
  ⟨hs, fun E l p e s m args below meth c L0 S0 C h1 h2 H locs ls hH hS hL => lv_if_gt C.1 C.2.1 hd ht (fun hc => (kt hc).2 E l p e s m args below meth c L0 S0 C h1 h2 H locs ls hH hS hL) (fun hc => (kf hc).2 E l p e s m args below meth c L0 S0 C h1 h2 H locs ls hH hS hL)⟩
theorem mj_icmp_gt {x y : Int32} {off : Int} {tgt : Nat} (hd : decode M.2.1 pc = .ok (.if_icmp .gt off, 3)) (ht : (pc : Int) + off = (tgt : Int)) (hs : mem.1.length ≤ mem'.1.length ∧ mj_sz mem ≤ mj_sz mem')
    (kt : y < x → mj_R M tgt lv st mem r mem') (kf : ¬ y < x → mj_R M (pc + 3) lv st mem r mem') : mj_R M pc lv (.int y :: .int x :: st) mem r mem' :=
  ⟨hs, fun E l p e s m args below meth c L0 S0 C h1 h2 H locs ls hH hS hL => lv_icmp_gt C.1 C.2.1 hd ht (fun hc => (kt hc).2 E l p e s m args below meth c L0 S0 C h1 h2 H locs ls hH hS hL) (fun hc => (kf hc).2 E l p e s m args below meth c L0 S0 C h1 h2 H locs ls hH hS hL)⟩
theorem mj_if_le {x y : Int32} {off : Int} {tgt : Nat} (hd : decode M.2.1 pc = .ok (.ifCond .le off, 3)) (ht : (pc : Int) + off = (tgt : Int)) (hs : mem.1.length ≤ mem'.1.length ∧ mj_sz mem ≤ mj_sz mem')
    (kt : x ≤ 0 → mj_R M tgt lv st mem r mem') (kf : ¬ x ≤ 0 → mj_R M (pc + 3) lv st mem r mem') : mj_R M pc lv (.int x :: st) mem r mem' :=
  ⟨hs, fun E l p e s m args below meth c L0 S0 C h1 h2 H locs ls hH hS hL => lv_if_le C.1 C.2.1 hd ht (fun hc => (kt hc).2 E l p e s m args below meth c L0 S0 C h1 h2 H locs ls hH hS hL) (fun hc => (kf hc).2 E l p e s m args below meth c L0 S0 C h1 h2 H locs ls hH hS hL)⟩
theorem mj_icmp_le {x y : Int32} {off : Int} {tgt : Nat} (hd : decode M.2.1 pc = .ok (.if_icmp .le off, 3)) (ht : (pc : Int) + off = (tgt : Int)) (hs : mem.1.length ≤ mem'.1.length ∧ mj_sz mem ≤ mj_sz mem')
    (kt : x ≤ y → mj_R M tgt lv st mem r mem') (kf : ¬ x ≤ y → mj_R M (pc + 3) lv st mem r mem') : mj_R M pc lv (.int y :: .int x :: st) mem r mem' :=
  ⟨hs, fun E l p e s m args below meth c L0 S0 C h1 h2 H locs ls hH hS hL => lv_icmp_le C.1 C.2.1 hd ht (fun hc => (kt hc).2 E l p e s m args below meth c L0 S0 C h1 h2 H locs ls hH hS hL) (fun hc => (kf hc).2 E l p e s m args below meth c L0 S0 C h1 h2 H locs ls hH hS hL)⟩
theorem mj_lookup {dflt : Int} {ps : Array (Int × Int)} {len : Nat} {x : Int32} {off : Int} {tgt : Nat} (hd : decode M.2.1 pc = .ok (.lookupswitch dflt ps, len)) (hp : (ps.toList.zip (ps.toList.drop 1)).all (fun (a, next) => a.1 < next.1) = true) (ho : Op.lookupswitch.offset ps.toList dflt x.toInt = off) (ht : (pc : Int) + off = (tgt : Int))
    (k : mj_R M tgt lv (st) mem r mem') : mj_R M pc lv (.int x :: st) mem r mem' :=
  ⟨k.1, fun E l p e s m args below meth c L0 S0 C h1 h2 H locs ls hH hS hL => lv_lookup C.1 C.2.1 hd hp ho ht (k.2 E l p e s m args below meth c L0 S0 C h1 h2 H locs ls hH hS hL)⟩
theorem mj_tableIn {dflt lo hi : Int} {offs : Array Int} {len : Nat} {x : Int32} {off : Int} {tgt : Nat} (hd : decode M.2.1 pc = .ok (.tableswitch dflt lo hi offs, len)) (hl : ¬ x.toInt < lo) (hh : ¬ hi < x.toInt) (ho : offs[(x.toInt - lo).toNat]? = some off) (ht : (pc : Int) + off = (tgt : Int))
    (k : mj_R M tgt lv (st) mem r mem') : mj_R M pc lv (.int x :: st) mem r mem' :=
  ⟨k.1, fun E l p e s m args below meth c L0 S0 C h1 h2 H locs ls hH hS hL => lv_tableIn C.1 C.2.1 hd hl hh ho ht (k.2 E l p e s m args below meth c L0 S0 C h1 h2 H locs ls hH hS hL)⟩
theorem mj_tableOut {dflt lo hi : Int} {offs : Array Int} {len : Nat} {x : Int32} {tgt : Nat} (hd : decode M.2.1 pc = .ok (.tableswitch dflt lo hi offs, len)) (hx : x.toInt < lo ∨ hi < x.toInt) (ht : (pc : Int) + dflt = (tgt : Int))
    (k : mj_R M tgt lv (st) mem r mem') : mj_R M pc lv (.int x :: st) mem r mem' :=
  ⟨k.1, fun E l p e s m args below meth c L0 S0 C h1 h2 H locs ls hH hS hL => lv_tableOut C.1 C.2.1 hd hx ht (k.2 E l p e s m args below meth c L0 S0 C h1 h2 H locs ls hH hS hL)⟩
end MJ
