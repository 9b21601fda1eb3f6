section MJ15
variable {M : mj_M} {pc : Nat} {lv : List (Option Value)} {st : List Value} {sh : List (Nat × Nat × (Nat → Option Nat))} {x : St} {mem' : mj_Mem} {r : Option Value}
theorem mj_newN {n ci N idx : Nat} {Cn : String} {T : u_T} (hn : sh.length = n) (hd : decode M.2.1 pc = .ok (.new idx, 3)) (hc : kCls[ci]? = some (Cn, T, N)) (hw : Cond.classLink M.1.cls idx Cn ∈ TB ∧ Cond.instantiable Cn N ∈ TB ∧ Cond.initialized Cn ∈ TB) (hty : ∀ k, k < N → kFty (kTy ci k) = true ∨ kTy ci k = .int) (hlen : n < 1000000) (h0 : ∀ j, x n j = 0)
    (kk : mj_R M (pc + 3) lv (.ref n :: st) (sh ++ [(ci + 3, N, fun _ => none)], x) r mem') : mj_R M pc lv st (sh, x) r mem' := by
  subst hn
  exact mj_new (mem := (sh, x)) hd hc hw hty hlen h0 kk
theorem mj_newaN {q : Nat} {n : Int32} {N : Nat} (hq : sh.length = q) (hd : decode M.2.1 pc = .ok (.newarray .int, 2)) (hw : Cond.arrayClass .int ∈ TB) (hn : ¬ n < 0) (hN : n.toNatClampNeg = N) (hby : N ≤ 100000) (hlen : q < 1000000) (h0 : ∀ j, x q j = 0)
    (kk : mj_R M (pc + 2) lv (.ref q :: st) (sh ++ [(0, N, fun _ => none)], x) r mem') : mj_R M pc lv (.int n :: st) (sh, x) r mem' := by
  subst hq
  exact mj_newa (mem := (sh, x)) hd hw hn hN hby hlen h0 kk
theorem mj_newzN {q : Nat} {n : Int32} {N : Nat} (hq : sh.length = q) (hd : decode M.2.1 pc = .ok (.newarray .boolean, 2)) (hw : Cond.arrayClass .boolean ∈ TB) (hn : ¬ n < 0) (hN : n.toNatClampNeg = N) (hby : N ≤ 100000) (hlen : q < 1000000) (h0 : ∀ j, x q j = 0)
    (kk : mj_R M (pc + 2) lv (.ref q :: st) (sh ++ [(1, N, fun _ => none)], x) r mem') : mj_R M pc lv (.int n :: st) (sh, x) r mem' := by
  subst hq
  exact mj_newz (mem := (sh, x)) hd hw hn hN hby hlen h0 kk
theorem mj_newrN {q : Nat} {n : Int32} {N idx : Nat} (hq : sh.length = q) (hd : decode M.2.1 pc = .ok (.anewarray idx, 3)) (hw : Cond.classLink M.1.cls idx "MarketTown$Town" ∈ TB) (hn : ¬ n < 0) (hN : n.toNatClampNeg = N) (hby : N ≤ 100000) (hlen : q < 1000000)
    (kk : mj_R M (pc + 3) lv (.ref q :: st) (sh ++ [(2, N, fun _ => none)], x) r mem') : mj_R M pc lv (.int n :: st) (sh, x) r mem' := by
  subst hq
  exact mj_newr (mem := (sh, x)) hd hw hn hN hby hlen kk
theorem pj_putR {ci k b j n idx : Nat} {rs : Nat → Option Nat} (hd : decode M.2.1 pc = .ok (.putfield idx, 3)) (hf : mj_F M.1.cls idx ci k) (hc : sh[b]? = some (ci + 3, n, rs)) (hr : kRf ci k = true) (hfin : ∀ (C : String) (T : u_T) (N : Nat), kCls[ci]? = some (C, T, N) → (T k).2.2.2 = true ∧ C = M.1.cls) (hi : M.1.name = "<init>") (hb : b < 1000000) (hk : k < n) (hj : j < 1000000)
    (kk : mj_R M (pc + 3) lv st (sh.set b (ci + 3, n, va_up rs k (some j)), x) r mem') : mj_R M pc lv (.ref j :: .ref b :: st) (sh, x) r mem' := mj_putR (mem := (sh, x)) hd hf hc hr hfin hi hb hk hj kk
theorem pj_putI {ci k b n idx : Nat} {rs : Nat → Option Nat} {v : Int32} (hd : decode M.2.1 pc = .ok (.putfield idx, 3)) (hf : mj_F M.1.cls idx ci k) (hc : sh[b]? = some (ci + 3, n, rs)) (hr : kTy ci k = .int) (hfin : ∀ (C : String) (T : u_T) (N : Nat), kCls[ci]? = some (C, T, N) → (T k).2.2.2 = false) (hb : b < 1000000) (hk : k < n)
    (kk : mj_R M (pc + 3) lv st (sh, mj_wr x b k v) r mem') : mj_R M pc lv (.int v :: .ref b :: st) (sh, x) r mem' := mj_putI (mem := (sh, x)) hd hf hc hr hfin hb hk kk
theorem pj_iast {b n j : Nat} {rs : Nat → Option Nat} {i v : Int32} (hj : i.toNatClampNeg = j) (hd : decode M.2.1 pc = .ok (.iastore, 1)) (hc : sh[b]? = some (0, n, rs)) (hb : b < 1000000) (hi : inb i n)
    (kk : mj_R M (pc + 1) lv st (sh, mj_wr x b j v) r mem') : mj_R M pc lv (.int v :: .int i :: .ref b :: st) (sh, x) r mem' := by
  subst hj
  exact mj_iast (mem := (sh, x)) hd hc hb (inb_in hi) kk
theorem pj_aast {b n j n2 q : Nat} {rs rs2 : Nat → Option Nat} {i : Int32} (hq : i.toNatClampNeg = q) (hd : decode M.2.1 pc = .ok (.aastore, 1)) (hc : sh[b]? = some (2, n, rs)) (hb : b < 1000000) (hi : inb i n) (hj : sh[j]? = some (12, n2, rs2)) (hj2 : j < 1000000)
    (kk : mj_R M (pc + 1) lv st (sh.set b (2, n, va_up rs q (some j)), x) r mem') : mj_R M pc lv (.ref j :: .int i :: .ref b :: st) (sh, x) r mem' := by
  subst hq
  exact mj_aast (mem := (sh, x)) hd hc hb (inb_in hi) hj hj2 kk
end MJ15
theorem zw {σ : St} {n b k : Nat} {x : Int32} (hb : b ≠ n) (h : ∀ j, σ n j = 0) : ∀ j, mj_wr σ b k x n j = 0 := fun j => by unfold mj_wr; rw [if_neg (fun q => hb q.1.symm)]; exact h j
theorem zz {σ : St} {n b k : Nat} {x : Int32} (hb : b < n) (h : ∀ i j : Nat, n ≤ i → σ i j = 0) : ∀ i j : Nat, n ≤ i → mj_wr σ b k x i j = 0 := fun i j hi => by unfold mj_wr; rw [if_neg (fun q => by omega)]; exact h i j hi
def M_Mk_init : mj_M := (⟨"MarketTown", "<init>", "()V"⟩, prog_1_method_1_code, 2, none, 4, 80)
theorem d_Mk_init_0 : decode M_Mk_init.2.1 0 = .ok (.aload_n 0, 1) := by decide +kernel
theorem d_Mk_init_1 : decode M_Mk_init.2.1 1 = .ok (.invokespecial 3, 3) := by decide +kernel
theorem d_Mk_init_4 : decode M_Mk_init.2.1 4 = .ok (.aload_n 0, 1) := by decide +kernel
theorem d_Mk_init_5 : decode M_Mk_init.2.1 5 = .ok (.new 9, 3) := by decide +kernel
theorem d_Mk_init_8 : decode M_Mk_init.2.1 8 = .ok (.dup, 1) := by decide +kernel
theorem d_Mk_init_9 : decode M_Mk_init.2.1 9 = .ok (.invokespecial 11, 3) := by decide +kernel
theorem d_Mk_init_12 : decode M_Mk_init.2.1 12 = .ok (.putfield 12, 3) := by decide +kernel
theorem d_Mk_init_15 : decode M_Mk_init.2.1 15 = .ok (.aload_n 0, 1) := by decide +kernel
theorem d_Mk_init_16 : decode M_Mk_init.2.1 16 = .ok (.iconst 3, 1) := by decide +kernel
theorem d_Mk_init_17 : decode M_Mk_init.2.1 17 = .ok (.anewarray 9, 3) := by decide +kernel
theorem d_Mk_init_20 : decode M_Mk_init.2.1 20 = .ok (.putfield 16, 3) := by decide +kernel
theorem d_Mk_init_23 : decode M_Mk_init.2.1 23 = .ok (.aload_n 0, 1) := by decide +kernel
theorem d_Mk_init_24 : decode M_Mk_init.2.1 24 = .ok (.iconst 3, 1) := by decide +kernel
theorem d_Mk_init_25 : decode M_Mk_init.2.1 25 = .ok (.newarray .boolean, 2) := by decide +kernel
theorem d_Mk_init_27 : decode M_Mk_init.2.1 27 = .ok (.putfield 20, 3) := by decide +kernel
theorem d_Mk_init_30 : decode M_Mk_init.2.1 30 = .ok (.aload_n 0, 1) := by decide +kernel
theorem d_Mk_init_31 : decode M_Mk_init.2.1 31 = .ok (.new 24, 3) := by decide +kernel
theorem d_Mk_init_34 : decode M_Mk_init.2.1 34 = .ok (.dup, 1) := by decide +kernel
theorem d_Mk_init_35 : decode M_Mk_init.2.1 35 = .ok (.invokespecial 26, 3) := by decide +kernel
theorem d_Mk_init_38 : decode M_Mk_init.2.1 38 = .ok (.putfield 27, 3) := by decide +kernel
theorem d_Mk_init_41 : decode M_Mk_init.2.1 41 = .ok (.aload_n 0, 1) := by decide +kernel
theorem d_Mk_init_42 : decode M_Mk_init.2.1 42 = .ok (.new 31, 3) := by decide +kernel
theorem d_Mk_init_45 : decode M_Mk_init.2.1 45 = .ok (.dup, 1) := by decide +kernel
theorem d_Mk_init_46 : decode M_Mk_init.2.1 46 = .ok (.invokespecial 33, 3) := by decide +kernel
theorem d_Mk_init_49 : decode M_Mk_init.2.1 49 = .ok (.putfield 34, 3) := by decide +kernel
theorem d_Mk_init_52 : decode M_Mk_init.2.1 52 = .ok (.aload_n 0, 1) := by decide +kernel
theorem d_Mk_init_53 : decode M_Mk_init.2.1 53 = .ok (.new 38, 3) := by decide +kernel
theorem d_Mk_init_56 : decode M_Mk_init.2.1 56 = .ok (.dup, 1) := by decide +kernel
theorem d_Mk_init_57 : decode M_Mk_init.2.1 57 = .ok (.invokespecial 40, 3) := by decide +kernel
theorem d_Mk_init_60 : decode M_Mk_init.2.1 60 = .ok (.putfield 41, 3) := by decide +kernel
theorem d_Mk_init_63 : decode M_Mk_init.2.1 63 = .ok (.iconst 0, 1) := by decide +kernel
theorem d_Mk_init_64 : decode M_Mk_init.2.1 64 = .ok (.istore_n 1, 1) := by decide +kernel
theorem d_Mk_init_65 : decode M_Mk_init.2.1 65 = .ok (.iload_n 1, 1) := by decide +kernel
theorem d_Mk_init_66 : decode M_Mk_init.2.1 66 = .ok (.iconst 3, 1) := by decide +kernel
theorem d_Mk_init_67 : decode M_Mk_init.2.1 67 = .ok (.if_icmp .ge 22, 3) := by decide +kernel
theorem d_Mk_init_70 : decode M_Mk_init.2.1 70 = .ok (.aload_n 0, 1) := by decide +kernel
theorem d_Mk_init_71 : decode M_Mk_init.2.1 71 = .ok (.getfield 16, 3) := by decide +kernel
theorem d_Mk_init_74 : decode M_Mk_init.2.1 74 = .ok (.iload_n 1, 1) := by decide +kernel
theorem d_Mk_init_75 : decode M_Mk_init.2.1 75 = .ok (.new 9, 3) := by decide +kernel
theorem d_Mk_init_78 : decode M_Mk_init.2.1 78 = .ok (.dup, 1) := by decide +kernel
theorem d_Mk_init_79 : decode M_Mk_init.2.1 79 = .ok (.invokespecial 11, 3) := by decide +kernel
theorem d_Mk_init_82 : decode M_Mk_init.2.1 82 = .ok (.aastore, 1) := by decide +kernel
theorem d_Mk_init_83 : decode M_Mk_init.2.1 83 = .ok (.iinc 1 1, 3) := by decide +kernel
theorem d_Mk_init_86 : decode M_Mk_init.2.1 86 = .ok (.goto (-21), 3) := by decide +kernel
theorem d_Mk_init_89 : decode M_Mk_init.2.1 89 = .ok (.return_, 1) := by decide +kernel
def M_Tw_init : mj_M := (⟨"MarketTown$Town", "<init>", "()V"⟩, prog_10_method_1_code, 1, none, 2, 41)
theorem d_Tw_init_0 : decode M_Tw_init.2.1 0 = .ok (.aload_n 0, 1) := by decide +kernel
theorem d_Tw_init_1 : decode M_Tw_init.2.1 1 = .ok (.invokespecial 3, 3) := by decide +kernel
theorem d_Tw_init_4 : decode M_Tw_init.2.1 4 = .ok (.aload_n 0, 1) := by decide +kernel
theorem d_Tw_init_5 : decode M_Tw_init.2.1 5 = .ok (.iconst 1, 1) := by decide +kernel
theorem d_Tw_init_6 : decode M_Tw_init.2.1 6 = .ok (.putfield 9, 3) := by decide +kernel
theorem d_Tw_init_9 : decode M_Tw_init.2.1 9 = .ok (.aload_n 0, 1) := by decide +kernel
theorem d_Tw_init_10 : decode M_Tw_init.2.1 10 = .ok (.bipush 12, 2) := by decide +kernel
theorem d_Tw_init_12 : decode M_Tw_init.2.1 12 = .ok (.newarray .int, 2) := by decide +kernel
theorem d_Tw_init_14 : decode M_Tw_init.2.1 14 = .ok (.putfield 15, 3) := by decide +kernel
theorem d_Tw_init_17 : decode M_Tw_init.2.1 17 = .ok (.aload_n 0, 1) := by decide +kernel
theorem d_Tw_init_18 : decode M_Tw_init.2.1 18 = .ok (.bipush 12, 2) := by decide +kernel
theorem d_Tw_init_20 : decode M_Tw_init.2.1 20 = .ok (.newarray .int, 2) := by decide +kernel
theorem d_Tw_init_22 : decode M_Tw_init.2.1 22 = .ok (.putfield 19, 3) := by decide +kernel
theorem d_Tw_init_25 : decode M_Tw_init.2.1 25 = .ok (.aload_n 0, 1) := by decide +kernel
theorem d_Tw_init_26 : decode M_Tw_init.2.1 26 = .ok (.bipush 12, 2) := by decide +kernel
theorem d_Tw_init_28 : decode M_Tw_init.2.1 28 = .ok (.newarray .int, 2) := by decide +kernel
theorem d_Tw_init_30 : decode M_Tw_init.2.1 30 = .ok (.putfield 22, 3) := by decide +kernel
theorem d_Tw_init_33 : decode M_Tw_init.2.1 33 = .ok (.aload_n 0, 1) := by decide +kernel
theorem d_Tw_init_34 : decode M_Tw_init.2.1 34 = .ok (.bipush 12, 2) := by decide +kernel
theorem d_Tw_init_36 : decode M_Tw_init.2.1 36 = .ok (.newarray .int, 2) := by decide +kernel
theorem d_Tw_init_38 : decode M_Tw_init.2.1 38 = .ok (.putfield 25, 3) := by decide +kernel
theorem d_Tw_init_41 : decode M_Tw_init.2.1 41 = .ok (.aload_n 0, 1) := by decide +kernel
theorem d_Tw_init_42 : decode M_Tw_init.2.1 42 = .ok (.sipush 720, 3) := by decide +kernel
theorem d_Tw_init_45 : decode M_Tw_init.2.1 45 = .ok (.newarray .int, 2) := by decide +kernel
theorem d_Tw_init_47 : decode M_Tw_init.2.1 47 = .ok (.putfield 28, 3) := by decide +kernel
theorem d_Tw_init_50 : decode M_Tw_init.2.1 50 = .ok (.aload_n 0, 1) := by decide +kernel
theorem d_Tw_init_51 : decode M_Tw_init.2.1 51 = .ok (.new 31, 3) := by decide +kernel
theorem d_Tw_init_54 : decode M_Tw_init.2.1 54 = .ok (.dup, 1) := by decide +kernel
theorem d_Tw_init_55 : decode M_Tw_init.2.1 55 = .ok (.invokespecial 33, 3) := by decide +kernel
theorem d_Tw_init_58 : decode M_Tw_init.2.1 58 = .ok (.putfield 34, 3) := by decide +kernel
theorem d_Tw_init_61 : decode M_Tw_init.2.1 61 = .ok (.aload_n 0, 1) := by decide +kernel
theorem d_Tw_init_62 : decode M_Tw_init.2.1 62 = .ok (.new 38, 3) := by decide +kernel
theorem d_Tw_init_65 : decode M_Tw_init.2.1 65 = .ok (.dup, 1) := by decide +kernel
theorem d_Tw_init_66 : decode M_Tw_init.2.1 66 = .ok (.invokespecial 40, 3) := by decide +kernel
theorem d_Tw_init_69 : decode M_Tw_init.2.1 69 = .ok (.putfield 41, 3) := by decide +kernel
theorem d_Tw_init_72 : decode M_Tw_init.2.1 72 = .ok (.aload_n 0, 1) := by decide +kernel
theorem d_Tw_init_73 : decode M_Tw_init.2.1 73 = .ok (.new 45, 3) := by decide +kernel
theorem d_Tw_init_76 : decode M_Tw_init.2.1 76 = .ok (.dup, 1) := by decide +kernel
theorem d_Tw_init_77 : decode M_Tw_init.2.1 77 = .ok (.invokespecial 47, 3) := by decide +kernel
theorem d_Tw_init_80 : decode M_Tw_init.2.1 80 = .ok (.putfield 48, 3) := by decide +kernel
theorem d_Tw_init_83 : decode M_Tw_init.2.1 83 = .ok (.aload_n 0, 1) := by decide +kernel
theorem d_Tw_init_84 : decode M_Tw_init.2.1 84 = .ok (.new 52, 3) := by decide +kernel
theorem d_Tw_init_87 : decode M_Tw_init.2.1 87 = .ok (.dup, 1) := by decide +kernel
theorem d_Tw_init_88 : decode M_Tw_init.2.1 88 = .ok (.invokespecial 54, 3) := by decide +kernel
theorem d_Tw_init_91 : decode M_Tw_init.2.1 91 = .ok (.putfield 55, 3) := by decide +kernel
theorem d_Tw_init_94 : decode M_Tw_init.2.1 94 = .ok (.return_, 1) := by decide +kernel
def M_Sk_init : mj_M := (⟨"MarketTown$Stock", "<init>", "()V"⟩, prog_8_method_1_code, 1, none, 1, 20)
theorem d_Sk_init_0 : decode M_Sk_init.2.1 0 = .ok (.aload_n 0, 1) := by decide +kernel
theorem d_Sk_init_1 : decode M_Sk_init.2.1 1 = .ok (.invokespecial 3, 3) := by decide +kernel
theorem d_Sk_init_4 : decode M_Sk_init.2.1 4 = .ok (.aload_n 0, 1) := by decide +kernel
theorem d_Sk_init_5 : decode M_Sk_init.2.1 5 = .ok (.sipush 600, 3) := by decide +kernel
theorem d_Sk_init_8 : decode M_Sk_init.2.1 8 = .ok (.newarray .int, 2) := by decide +kernel
theorem d_Sk_init_10 : decode M_Sk_init.2.1 10 = .ok (.putfield 9, 3) := by decide +kernel
theorem d_Sk_init_13 : decode M_Sk_init.2.1 13 = .ok (.aload_n 0, 1) := by decide +kernel
theorem d_Sk_init_14 : decode M_Sk_init.2.1 14 = .ok (.bipush 60, 2) := by decide +kernel
theorem d_Sk_init_16 : decode M_Sk_init.2.1 16 = .ok (.newarray .int, 2) := by decide +kernel
theorem d_Sk_init_18 : decode M_Sk_init.2.1 18 = .ok (.putfield 15, 3) := by decide +kernel
theorem d_Sk_init_21 : decode M_Sk_init.2.1 21 = .ok (.return_, 1) := by decide +kernel
def M_Wr_init : mj_M := (⟨"MarketTown$Wares", "<init>", "()V"⟩, prog_11_method_1_code, 2, none, 1, 20)
theorem d_Wr_init_0 : decode M_Wr_init.2.1 0 = .ok (.aload_n 0, 1) := by decide +kernel
theorem d_Wr_init_1 : decode M_Wr_init.2.1 1 = .ok (.invokespecial 3, 3) := by decide +kernel
theorem d_Wr_init_4 : decode M_Wr_init.2.1 4 = .ok (.aload_n 0, 1) := by decide +kernel
theorem d_Wr_init_5 : decode M_Wr_init.2.1 5 = .ok (.bipush 55, 2) := by decide +kernel
theorem d_Wr_init_7 : decode M_Wr_init.2.1 7 = .ok (.newarray .int, 2) := by decide +kernel
theorem d_Wr_init_9 : decode M_Wr_init.2.1 9 = .ok (.putfield 11, 3) := by decide +kernel
theorem d_Wr_init_12 : decode M_Wr_init.2.1 12 = .ok (.iconst 0, 1) := by decide +kernel
theorem d_Wr_init_13 : decode M_Wr_init.2.1 13 = .ok (.istore_n 1, 1) := by decide +kernel
theorem d_Wr_init_14 : decode M_Wr_init.2.1 14 = .ok (.iload_n 1, 1) := by decide +kernel
theorem d_Wr_init_15 : decode M_Wr_init.2.1 15 = .ok (.iconst 5, 1) := by decide +kernel
theorem d_Wr_init_16 : decode M_Wr_init.2.1 16 = .ok (.if_icmp .ge 22, 3) := by decide +kernel
theorem d_Wr_init_19 : decode M_Wr_init.2.1 19 = .ok (.aload_n 0, 1) := by decide +kernel
theorem d_Wr_init_20 : decode M_Wr_init.2.1 20 = .ok (.getfield 11, 3) := by decide +kernel
theorem d_Wr_init_23 : decode M_Wr_init.2.1 23 = .ok (.iload_n 1, 1) := by decide +kernel
theorem d_Wr_init_24 : decode M_Wr_init.2.1 24 = .ok (.bipush 11, 2) := by decide +kernel
theorem d_Wr_init_26 : decode M_Wr_init.2.1 26 = .ok (.imul, 1) := by decide +kernel
theorem d_Wr_init_27 : decode M_Wr_init.2.1 27 = .ok (.bipush 8, 2) := by decide +kernel
theorem d_Wr_init_29 : decode M_Wr_init.2.1 29 = .ok (.iadd, 1) := by decide +kernel
theorem d_Wr_init_30 : decode M_Wr_init.2.1 30 = .ok (.iconst (-1), 1) := by decide +kernel
theorem d_Wr_init_31 : decode M_Wr_init.2.1 31 = .ok (.iastore, 1) := by decide +kernel
theorem d_Wr_init_32 : decode M_Wr_init.2.1 32 = .ok (.iinc 1 1, 3) := by decide +kernel
theorem d_Wr_init_35 : decode M_Wr_init.2.1 35 = .ok (.goto (-21), 3) := by decide +kernel
theorem d_Wr_init_38 : decode M_Wr_init.2.1 38 = .ok (.return_, 1) := by decide +kernel
def M_Rl_init : mj_M := (⟨"MarketTown$Rules", "<init>", "()V"⟩, prog_7_method_1_code, 1, none, 1, 20)
theorem d_Rl_init_0 : decode M_Rl_init.2.1 0 = .ok (.aload_n 0, 1) := by decide +kernel
theorem d_Rl_init_1 : decode M_Rl_init.2.1 1 = .ok (.invokespecial 3, 3) := by decide +kernel
theorem d_Rl_init_4 : decode M_Rl_init.2.1 4 = .ok (.aload_n 0, 1) := by decide +kernel
theorem d_Rl_init_5 : decode M_Rl_init.2.1 5 = .ok (.bipush 12, 2) := by decide +kernel
theorem d_Rl_init_7 : decode M_Rl_init.2.1 7 = .ok (.newarray .int, 2) := by decide +kernel
theorem d_Rl_init_9 : decode M_Rl_init.2.1 9 = .ok (.putfield 9, 3) := by decide +kernel
theorem d_Rl_init_12 : decode M_Rl_init.2.1 12 = .ok (.aload_n 0, 1) := by decide +kernel
theorem d_Rl_init_13 : decode M_Rl_init.2.1 13 = .ok (.sipush 648, 3) := by decide +kernel
theorem d_Rl_init_16 : decode M_Rl_init.2.1 16 = .ok (.newarray .int, 2) := by decide +kernel
theorem d_Rl_init_18 : decode M_Rl_init.2.1 18 = .ok (.putfield 15, 3) := by decide +kernel
theorem d_Rl_init_21 : decode M_Rl_init.2.1 21 = .ok (.return_, 1) := by decide +kernel
def M_Ln_init : mj_M := (⟨"MarketTown$Loans", "<init>", "()V"⟩, prog_3_method_1_code, 1, none, 1, 20)
theorem d_Ln_init_0 : decode M_Ln_init.2.1 0 = .ok (.aload_n 0, 1) := by decide +kernel
theorem d_Ln_init_1 : decode M_Ln_init.2.1 1 = .ok (.invokespecial 3, 3) := by decide +kernel
theorem d_Ln_init_4 : decode M_Ln_init.2.1 4 = .ok (.aload_n 0, 1) := by decide +kernel
theorem d_Ln_init_5 : decode M_Ln_init.2.1 5 = .ok (.bipush 80, 2) := by decide +kernel
theorem d_Ln_init_7 : decode M_Ln_init.2.1 7 = .ok (.newarray .int, 2) := by decide +kernel
theorem d_Ln_init_9 : decode M_Ln_init.2.1 9 = .ok (.putfield 11, 3) := by decide +kernel
theorem d_Ln_init_12 : decode M_Ln_init.2.1 12 = .ok (.return_, 1) := by decide +kernel
def M_Tp_init : mj_M := (⟨"MarketTown$Tape", "<init>", "()V"⟩, prog_9_method_1_code, 1, none, 1, 20)
theorem d_Tp_init_0 : decode M_Tp_init.2.1 0 = .ok (.aload_n 0, 1) := by decide +kernel
theorem d_Tp_init_1 : decode M_Tp_init.2.1 1 = .ok (.invokespecial 1, 3) := by decide +kernel
theorem d_Tp_init_4 : decode M_Tp_init.2.1 4 = .ok (.aload_n 0, 1) := by decide +kernel
theorem d_Tp_init_5 : decode M_Tp_init.2.1 5 = .ok (.bipush 60, 2) := by decide +kernel
theorem d_Tp_init_7 : decode M_Tp_init.2.1 7 = .ok (.newarray .int, 2) := by decide +kernel
theorem d_Tp_init_9 : decode M_Tp_init.2.1 9 = .ok (.putfield 9, 3) := by decide +kernel
theorem d_Tp_init_12 : decode M_Tp_init.2.1 12 = .ok (.return_, 1) := by decide +kernel
def M_Rr_init : mj_M := (⟨"MarketTown$RuleReader", "<init>", "()V"⟩, prog_6_method_1_code, 1, none, 1, 20)
theorem d_Rr_init_0 : decode M_Rr_init.2.1 0 = .ok (.aload_n 0, 1) := by decide +kernel
theorem d_Rr_init_1 : decode M_Rr_init.2.1 1 = .ok (.invokespecial 3, 3) := by decide +kernel
theorem d_Rr_init_4 : decode M_Rr_init.2.1 4 = .ok (.aload_n 0, 1) := by decide +kernel
theorem d_Rr_init_5 : decode M_Rr_init.2.1 5 = .ok (.bipush 9, 2) := by decide +kernel
theorem d_Rr_init_7 : decode M_Rr_init.2.1 7 = .ok (.newarray .int, 2) := by decide +kernel
theorem d_Rr_init_9 : decode M_Rr_init.2.1 9 = .ok (.putfield 11, 3) := by decide +kernel
theorem d_Rr_init_12 : decode M_Rr_init.2.1 12 = .ok (.return_, 1) := by decide +kernel
def M_Dy_init : mj_M := (⟨"MarketTown$Day", "<init>", "()V"⟩, prog_2_method_1_code, 1, none, 3, 60)
theorem d_Dy_init_0 : decode M_Dy_init.2.1 0 = .ok (.aload_n 0, 1) := by decide +kernel
theorem d_Dy_init_1 : decode M_Dy_init.2.1 1 = .ok (.invokespecial 3, 3) := by decide +kernel
theorem d_Dy_init_4 : decode M_Dy_init.2.1 4 = .ok (.aload_n 0, 1) := by decide +kernel
theorem d_Dy_init_5 : decode M_Dy_init.2.1 5 = .ok (.bipush 12, 2) := by decide +kernel
theorem d_Dy_init_7 : decode M_Dy_init.2.1 7 = .ok (.newarray .int, 2) := by decide +kernel
theorem d_Dy_init_9 : decode M_Dy_init.2.1 9 = .ok (.putfield 9, 3) := by decide +kernel
theorem d_Dy_init_12 : decode M_Dy_init.2.1 12 = .ok (.aload_n 0, 1) := by decide +kernel
theorem d_Dy_init_13 : decode M_Dy_init.2.1 13 = .ok (.new 15, 3) := by decide +kernel
theorem d_Dy_init_16 : decode M_Dy_init.2.1 16 = .ok (.dup, 1) := by decide +kernel
theorem d_Dy_init_17 : decode M_Dy_init.2.1 17 = .ok (.invokespecial 17, 3) := by decide +kernel
theorem d_Dy_init_20 : decode M_Dy_init.2.1 20 = .ok (.putfield 18, 3) := by decide +kernel
theorem d_Dy_init_23 : decode M_Dy_init.2.1 23 = .ok (.return_, 1) := by decide +kernel
def M_Mt_init : mj_M := (⟨"MarketTown$Market", "<init>", "()V"⟩, prog_4_method_1_code, 1, none, 2, 40)
theorem d_Mt_init_0 : decode M_Mt_init.2.1 0 = .ok (.aload_n 0, 1) := by decide +kernel
theorem d_Mt_init_1 : decode M_Mt_init.2.1 1 = .ok (.invokespecial 3, 3) := by decide +kernel
theorem d_Mt_init_4 : decode M_Mt_init.2.1 4 = .ok (.aload_n 0, 1) := by decide +kernel
theorem d_Mt_init_5 : decode M_Mt_init.2.1 5 = .ok (.new 9, 3) := by decide +kernel
theorem d_Mt_init_8 : decode M_Mt_init.2.1 8 = .ok (.dup, 1) := by decide +kernel
theorem d_Mt_init_9 : decode M_Mt_init.2.1 9 = .ok (.invokespecial 11, 3) := by decide +kernel
theorem d_Mt_init_12 : decode M_Mt_init.2.1 12 = .ok (.putfield 12, 3) := by decide +kernel
theorem d_Mt_init_15 : decode M_Mt_init.2.1 15 = .ok (.aload_n 0, 1) := by decide +kernel
theorem d_Mt_init_16 : decode M_Mt_init.2.1 16 = .ok (.new 9, 3) := by decide +kernel
theorem d_Mt_init_19 : decode M_Mt_init.2.1 19 = .ok (.dup, 1) := by decide +kernel
theorem d_Mt_init_20 : decode M_Mt_init.2.1 20 = .ok (.invokespecial 11, 3) := by decide +kernel
theorem d_Mt_init_23 : decode M_Mt_init.2.1 23 = .ok (.putfield 18, 3) := by decide +kernel
theorem d_Mt_init_26 : decode M_Mt_init.2.1 26 = .ok (.aload_n 0, 1) := by decide +kernel
theorem d_Mt_init_27 : decode M_Mt_init.2.1 27 = .ok (.bipush 60, 2) := by decide +kernel
theorem d_Mt_init_29 : decode M_Mt_init.2.1 29 = .ok (.newarray .int, 2) := by decide +kernel
theorem d_Mt_init_31 : decode M_Mt_init.2.1 31 = .ok (.putfield 21, 3) := by decide +kernel
theorem d_Mt_init_34 : decode M_Mt_init.2.1 34 = .ok (.aload_n 0, 1) := by decide +kernel
theorem d_Mt_init_35 : decode M_Mt_init.2.1 35 = .ok (.bipush 12, 2) := by decide +kernel
theorem d_Mt_init_37 : decode M_Mt_init.2.1 37 = .ok (.newarray .int, 2) := by decide +kernel
theorem d_Mt_init_39 : decode M_Mt_init.2.1 39 = .ok (.putfield 25, 3) := by decide +kernel
theorem d_Mt_init_42 : decode M_Mt_init.2.1 42 = .ok (.return_, 1) := by decide +kernel
def M_Of_init : mj_M := (⟨"MarketTown$Offers", "<init>", "()V"⟩, prog_5_method_1_code, 1, none, 1, 20)
theorem d_Of_init_0 : decode M_Of_init.2.1 0 = .ok (.aload_n 0, 1) := by decide +kernel
theorem d_Of_init_1 : decode M_Of_init.2.1 1 = .ok (.invokespecial 3, 3) := by decide +kernel
theorem d_Of_init_4 : decode M_Of_init.2.1 4 = .ok (.aload_n 0, 1) := by decide +kernel
theorem d_Of_init_5 : decode M_Of_init.2.1 5 = .ok (.bipush 72, 2) := by decide +kernel
theorem d_Of_init_7 : decode M_Of_init.2.1 7 = .ok (.newarray .int, 2) := by decide +kernel
theorem d_Of_init_9 : decode M_Of_init.2.1 9 = .ok (.putfield 11, 3) := by decide +kernel
theorem d_Of_init_12 : decode M_Of_init.2.1 12 = .ok (.aload_n 0, 1) := by decide +kernel
theorem d_Of_init_13 : decode M_Of_init.2.1 13 = .ok (.bipush 72, 2) := by decide +kernel
theorem d_Of_init_15 : decode M_Of_init.2.1 15 = .ok (.newarray .int, 2) := by decide +kernel
theorem d_Of_init_17 : decode M_Of_init.2.1 17 = .ok (.putfield 15, 3) := by decide +kernel
theorem d_Of_init_20 : decode M_Of_init.2.1 20 = .ok (.aload_n 0, 1) := by decide +kernel
theorem d_Of_init_21 : decode M_Of_init.2.1 21 = .ok (.bipush 72, 2) := by decide +kernel
theorem d_Of_init_23 : decode M_Of_init.2.1 23 = .ok (.newarray .int, 2) := by decide +kernel
theorem d_Of_init_25 : decode M_Of_init.2.1 25 = .ok (.putfield 18, 3) := by decide +kernel
theorem d_Of_init_28 : decode M_Of_init.2.1 28 = .ok (.aload_n 0, 1) := by decide +kernel
theorem d_Of_init_29 : decode M_Of_init.2.1 29 = .ok (.bipush 72, 2) := by decide +kernel
theorem d_Of_init_31 : decode M_Of_init.2.1 31 = .ok (.newarray .int, 2) := by decide +kernel
theorem d_Of_init_33 : decode M_Of_init.2.1 33 = .ok (.putfield 21, 3) := by decide +kernel
theorem d_Of_init_36 : decode M_Of_init.2.1 36 = .ok (.aload_n 0, 1) := by decide +kernel
theorem d_Of_init_37 : decode M_Of_init.2.1 37 = .ok (.bipush 72, 2) := by decide +kernel
theorem d_Of_init_39 : decode M_Of_init.2.1 39 = .ok (.newarray .int, 2) := by decide +kernel
theorem d_Of_init_41 : decode M_Of_init.2.1 41 = .ok (.putfield 24, 3) := by decide +kernel
theorem d_Of_init_44 : decode M_Of_init.2.1 44 = .ok (.return_, 1) := by decide +kernel
def M_Md_init : mj_M := (⟨"MarketTownModel", "<init>", "()V"⟩, prog_13_method_1_code, 2, none, 1, 20)
theorem d_Md_init_0 : decode M_Md_init.2.1 0 = .ok (.aload_n 0, 1) := by decide +kernel
theorem d_Md_init_1 : decode M_Md_init.2.1 1 = .ok (.invokespecial 1, 3) := by decide +kernel
theorem d_Md_init_4 : decode M_Md_init.2.1 4 = .ok (.aload_n 0, 1) := by decide +kernel
theorem d_Md_init_5 : decode M_Md_init.2.1 5 = .ok (.sipush 2200, 3) := by decide +kernel
theorem d_Md_init_8 : decode M_Md_init.2.1 8 = .ok (.newarray .int, 2) := by decide +kernel
theorem d_Md_init_10 : decode M_Md_init.2.1 10 = .ok (.putfield 7, 3) := by decide +kernel
theorem d_Md_init_13 : decode M_Md_init.2.1 13 = .ok (.aload_n 0, 1) := by decide +kernel
theorem d_Md_init_14 : decode M_Md_init.2.1 14 = .ok (.sipush 6600, 3) := by decide +kernel
theorem d_Md_init_17 : decode M_Md_init.2.1 17 = .ok (.newarray .int, 2) := by decide +kernel
theorem d_Md_init_19 : decode M_Md_init.2.1 19 = .ok (.putfield 13, 3) := by decide +kernel
theorem d_Md_init_22 : decode M_Md_init.2.1 22 = .ok (.aload_n 0, 1) := by decide +kernel
theorem d_Md_init_23 : decode M_Md_init.2.1 23 = .ok (.iconst 3, 1) := by decide +kernel
theorem d_Md_init_24 : decode M_Md_init.2.1 24 = .ok (.newarray .boolean, 2) := by decide +kernel
theorem d_Md_init_26 : decode M_Md_init.2.1 26 = .ok (.putfield 16, 3) := by decide +kernel
theorem d_Md_init_29 : decode M_Md_init.2.1 29 = .ok (.aload_n 0, 1) := by decide +kernel
theorem d_Md_init_30 : decode M_Md_init.2.1 30 = .ok (.bipush 60, 2) := by decide +kernel
theorem d_Md_init_32 : decode M_Md_init.2.1 32 = .ok (.newarray .int, 2) := by decide +kernel
theorem d_Md_init_34 : decode M_Md_init.2.1 34 = .ok (.putfield 20, 3) := by decide +kernel
theorem d_Md_init_37 : decode M_Md_init.2.1 37 = .ok (.aload_n 0, 1) := by decide +kernel
theorem d_Md_init_38 : decode M_Md_init.2.1 38 = .ok (.bipush 80, 2) := by decide +kernel
theorem d_Md_init_40 : decode M_Md_init.2.1 40 = .ok (.newarray .int, 2) := by decide +kernel
theorem d_Md_init_42 : decode M_Md_init.2.1 42 = .ok (.putfield 23, 3) := by decide +kernel
theorem d_Md_init_45 : decode M_Md_init.2.1 45 = .ok (.aload_n 0, 1) := by decide +kernel
theorem d_Md_init_46 : decode M_Md_init.2.1 46 = .ok (.bipush 80, 2) := by decide +kernel
theorem d_Md_init_48 : decode M_Md_init.2.1 48 = .ok (.newarray .int, 2) := by decide +kernel
theorem d_Md_init_50 : decode M_Md_init.2.1 50 = .ok (.putfield 26, 3) := by decide +kernel
theorem d_Md_init_53 : decode M_Md_init.2.1 53 = .ok (.aload_n 0, 1) := by decide +kernel
theorem d_Md_init_54 : decode M_Md_init.2.1 54 = .ok (.bipush 80, 2) := by decide +kernel
theorem d_Md_init_56 : decode M_Md_init.2.1 56 = .ok (.newarray .int, 2) := by decide +kernel
theorem d_Md_init_58 : decode M_Md_init.2.1 58 = .ok (.putfield 29, 3) := by decide +kernel
theorem d_Md_init_61 : decode M_Md_init.2.1 61 = .ok (.aload_n 0, 1) := by decide +kernel
theorem d_Md_init_62 : decode M_Md_init.2.1 62 = .ok (.bipush 80, 2) := by decide +kernel
theorem d_Md_init_64 : decode M_Md_init.2.1 64 = .ok (.newarray .int, 2) := by decide +kernel
theorem d_Md_init_66 : decode M_Md_init.2.1 66 = .ok (.putfield 32, 3) := by decide +kernel
theorem d_Md_init_69 : decode M_Md_init.2.1 69 = .ok (.aload_n 0, 1) := by decide +kernel
theorem d_Md_init_70 : decode M_Md_init.2.1 70 = .ok (.bipush 80, 2) := by decide +kernel
theorem d_Md_init_72 : decode M_Md_init.2.1 72 = .ok (.newarray .boolean, 2) := by decide +kernel
theorem d_Md_init_74 : decode M_Md_init.2.1 74 = .ok (.putfield 35, 3) := by decide +kernel
theorem d_Md_init_77 : decode M_Md_init.2.1 77 = .ok (.aload_n 0, 1) := by decide +kernel
theorem d_Md_init_78 : decode M_Md_init.2.1 78 = .ok (.bipush 80, 2) := by decide +kernel
theorem d_Md_init_80 : decode M_Md_init.2.1 80 = .ok (.newarray .int, 2) := by decide +kernel
theorem d_Md_init_82 : decode M_Md_init.2.1 82 = .ok (.putfield 38, 3) := by decide +kernel
theorem d_Md_init_85 : decode M_Md_init.2.1 85 = .ok (.aload_n 0, 1) := by decide +kernel
theorem d_Md_init_86 : decode M_Md_init.2.1 86 = .ok (.bipush 9, 2) := by decide +kernel
theorem d_Md_init_88 : decode M_Md_init.2.1 88 = .ok (.newarray .int, 2) := by decide +kernel
theorem d_Md_init_90 : decode M_Md_init.2.1 90 = .ok (.putfield 41, 3) := by decide +kernel
theorem d_Md_init_93 : decode M_Md_init.2.1 93 = .ok (.aload_n 0, 1) := by decide +kernel
theorem d_Md_init_94 : decode M_Md_init.2.1 94 = .ok (.bipush 12, 2) := by decide +kernel
theorem d_Md_init_96 : decode M_Md_init.2.1 96 = .ok (.newarray .int, 2) := by decide +kernel
theorem d_Md_init_98 : decode M_Md_init.2.1 98 = .ok (.putfield 44, 3) := by decide +kernel
theorem d_Md_init_101 : decode M_Md_init.2.1 101 = .ok (.aload_n 0, 1) := by decide +kernel
theorem d_Md_init_102 : decode M_Md_init.2.1 102 = .ok (.bipush 10, 2) := by decide +kernel
theorem d_Md_init_104 : decode M_Md_init.2.1 104 = .ok (.newarray .int, 2) := by decide +kernel
theorem d_Md_init_106 : decode M_Md_init.2.1 106 = .ok (.putfield 47, 3) := by decide +kernel
theorem d_Md_init_109 : decode M_Md_init.2.1 109 = .ok (.aload_n 0, 1) := by decide +kernel
theorem d_Md_init_110 : decode M_Md_init.2.1 110 = .ok (.bipush 20, 2) := by decide +kernel
theorem d_Md_init_112 : decode M_Md_init.2.1 112 = .ok (.newarray .int, 2) := by decide +kernel
theorem d_Md_init_114 : decode M_Md_init.2.1 114 = .ok (.putfield 50, 3) := by decide +kernel
theorem d_Md_init_117 : decode M_Md_init.2.1 117 = .ok (.aload_n 0, 1) := by decide +kernel
theorem d_Md_init_118 : decode M_Md_init.2.1 118 = .ok (.getfield 7, 3) := by decide +kernel
theorem d_Md_init_121 : decode M_Md_init.2.1 121 = .ok (.sipush 2165, 3) := by decide +kernel
theorem d_Md_init_124 : decode M_Md_init.2.1 124 = .ok (.iconst 1, 1) := by decide +kernel
theorem d_Md_init_125 : decode M_Md_init.2.1 125 = .ok (.iastore, 1) := by decide +kernel
theorem d_Md_init_126 : decode M_Md_init.2.1 126 = .ok (.iconst 0, 1) := by decide +kernel
theorem d_Md_init_127 : decode M_Md_init.2.1 127 = .ok (.istore_n 1, 1) := by decide +kernel
theorem d_Md_init_128 : decode M_Md_init.2.1 128 = .ok (.iload_n 1, 1) := by decide +kernel
theorem d_Md_init_129 : decode M_Md_init.2.1 129 = .ok (.iconst 5, 1) := by decide +kernel
theorem d_Md_init_130 : decode M_Md_init.2.1 130 = .ok (.if_icmp .ge 26, 3) := by decide +kernel
theorem d_Md_init_133 : decode M_Md_init.2.1 133 = .ok (.aload_n 0, 1) := by decide +kernel
theorem d_Md_init_134 : decode M_Md_init.2.1 134 = .ok (.getfield 7, 3) := by decide +kernel
theorem d_Md_init_137 : decode M_Md_init.2.1 137 = .ok (.sipush 1308, 3) := by decide +kernel
theorem d_Md_init_140 : decode M_Md_init.2.1 140 = .ok (.bipush 11, 2) := by decide +kernel
theorem d_Md_init_142 : decode M_Md_init.2.1 142 = .ok (.iload_n 1, 1) := by decide +kernel
theorem d_Md_init_143 : decode M_Md_init.2.1 143 = .ok (.imul, 1) := by decide +kernel
theorem d_Md_init_144 : decode M_Md_init.2.1 144 = .ok (.iadd, 1) := by decide +kernel
theorem d_Md_init_145 : decode M_Md_init.2.1 145 = .ok (.bipush 8, 2) := by decide +kernel
theorem d_Md_init_147 : decode M_Md_init.2.1 147 = .ok (.iadd, 1) := by decide +kernel
theorem d_Md_init_148 : decode M_Md_init.2.1 148 = .ok (.iconst (-1), 1) := by decide +kernel
theorem d_Md_init_149 : decode M_Md_init.2.1 149 = .ok (.iastore, 1) := by decide +kernel
theorem d_Md_init_150 : decode M_Md_init.2.1 150 = .ok (.iinc 1 1, 3) := by decide +kernel
theorem d_Md_init_153 : decode M_Md_init.2.1 153 = .ok (.goto (-25), 3) := by decide +kernel
theorem d_Md_init_156 : decode M_Md_init.2.1 156 = .ok (.return_, 1) := by decide +kernel
theorem lk_Mk_11 : mj_lk "MarketTown" 11 ⟨"MarketTown$Town", "<init>", "()V"⟩ := Or.inr ⟨"MarketTown", by decide +kernel⟩
theorem lk_Mk_26 : mj_lk "MarketTown" 26 ⟨"MarketTown$Tape", "<init>", "()V"⟩ := Or.inr ⟨"MarketTown", by decide +kernel⟩
theorem lk_Mk_33 : mj_lk "MarketTown" 33 ⟨"MarketTown$RuleReader", "<init>", "()V"⟩ := Or.inr ⟨"MarketTown", by decide +kernel⟩
theorem lk_Mk_40 : mj_lk "MarketTown" 40 ⟨"MarketTown$Day", "<init>", "()V"⟩ := Or.inr ⟨"MarketTown", by decide +kernel⟩
theorem lk_Dy_17 : mj_lk "MarketTown$Day" 17 ⟨"MarketTown$Market", "<init>", "()V"⟩ := Or.inr ⟨"MarketTown", by decide +kernel⟩
theorem lk_Mt_11 : mj_lk "MarketTown$Market" 11 ⟨"MarketTown$Offers", "<init>", "()V"⟩ := Or.inr ⟨"MarketTown", by decide +kernel⟩
theorem lk_Tw_33 : mj_lk "MarketTown$Town" 33 ⟨"MarketTown$Stock", "<init>", "()V"⟩ := Or.inr ⟨"MarketTown", by decide +kernel⟩
theorem lk_Tw_40 : mj_lk "MarketTown$Town" 40 ⟨"MarketTown$Wares", "<init>", "()V"⟩ := Or.inl (tb_at 127 (by decide +kernel) (by decide +kernel))
theorem lk_Tw_47 : mj_lk "MarketTown$Town" 47 ⟨"MarketTown$Rules", "<init>", "()V"⟩ := Or.inr ⟨"MarketTown", by decide +kernel⟩
theorem lk_Tw_54 : mj_lk "MarketTown$Town" 54 ⟨"MarketTown$Loans", "<init>", "()V"⟩ := Or.inr ⟨"MarketTown", by decide +kernel⟩
theorem nw_Mk_9 : Cond.classLink "MarketTown" 9 "MarketTown$Town" ∈ TB ∧ Cond.instantiable "MarketTown$Town" 14 ∈ TB ∧ Cond.initialized "MarketTown$Town" ∈ TB := ⟨tb_at 105 (by decide +kernel) (by decide +kernel), tb_at 106 (by decide +kernel) (by decide +kernel), tb_at 80 (by decide +kernel) (by decide +kernel)⟩
theorem nw_Mk_24 : Cond.classLink "MarketTown" 24 "MarketTown$Tape" ∈ TB ∧ Cond.instantiable "MarketTown$Tape" 2 ∈ TB ∧ Cond.initialized "MarketTown$Tape" ∈ TB := ⟨tb_at 240 (by decide +kernel) (by decide +kernel), tb_at 241 (by decide +kernel) (by decide +kernel), tb_at 85 (by decide +kernel) (by decide +kernel)⟩
theorem nw_Mk_31 : Cond.classLink "MarketTown" 31 "MarketTown$RuleReader" ∈ TB ∧ Cond.instantiable "MarketTown$RuleReader" 3 ∈ TB ∧ Cond.initialized "MarketTown$RuleReader" ∈ TB := ⟨tb_at 255 (by decide +kernel) (by decide +kernel), tb_at 256 (by decide +kernel) (by decide +kernel), tb_at 86 (by decide +kernel) (by decide +kernel)⟩
theorem nw_Mk_38 : Cond.classLink "MarketTown" 38 "MarketTown$Day" ∈ TB ∧ Cond.instantiable "MarketTown$Day" 2 ∈ TB ∧ Cond.initialized "MarketTown$Day" ∈ TB := ⟨tb_at 273 (by decide +kernel) (by decide +kernel), tb_at 274 (by decide +kernel) (by decide +kernel), tb_at 87 (by decide +kernel) (by decide +kernel)⟩
theorem nw_Dy_15 : Cond.classLink "MarketTown$Day" 15 "MarketTown$Market" ∈ TB ∧ Cond.instantiable "MarketTown$Market" 5 ∈ TB ∧ Cond.initialized "MarketTown$Market" ∈ TB := ⟨tb_at 279 (by decide +kernel) (by decide +kernel), tb_at 280 (by decide +kernel) (by decide +kernel), tb_at 88 (by decide +kernel) (by decide +kernel)⟩
theorem nw_Mt_9 : Cond.classLink "MarketTown$Market" 9 "MarketTown$Offers" ∈ TB ∧ Cond.instantiable "MarketTown$Offers" 7 ∈ TB ∧ Cond.initialized "MarketTown$Offers" ∈ TB := ⟨tb_at 285 (by decide +kernel) (by decide +kernel), tb_at 286 (by decide +kernel) (by decide +kernel), tb_at 89 (by decide +kernel) (by decide +kernel)⟩
theorem nw_Tw_31 : Cond.classLink "MarketTown$Town" 31 "MarketTown$Stock" ∈ TB ∧ Cond.instantiable "MarketTown$Stock" 2 ∈ TB ∧ Cond.initialized "MarketTown$Stock" ∈ TB := ⟨tb_at 111 (by decide +kernel) (by decide +kernel), tb_at 112 (by decide +kernel) (by decide +kernel), tb_at 81 (by decide +kernel) (by decide +kernel)⟩
theorem nw_Tw_38 : Cond.classLink "MarketTown$Town" 38 "MarketTown$Wares" ∈ TB ∧ Cond.instantiable "MarketTown$Wares" 1 ∈ TB ∧ Cond.initialized "MarketTown$Wares" ∈ TB := ⟨tb_at 125 (by decide +kernel) (by decide +kernel), tb_at 126 (by decide +kernel) (by decide +kernel), tb_at 82 (by decide +kernel) (by decide +kernel)⟩
theorem nw_Tw_45 : Cond.classLink "MarketTown$Town" 45 "MarketTown$Rules" ∈ TB ∧ Cond.instantiable "MarketTown$Rules" 2 ∈ TB ∧ Cond.initialized "MarketTown$Rules" ∈ TB := ⟨tb_at 135 (by decide +kernel) (by decide +kernel), tb_at 136 (by decide +kernel) (by decide +kernel), tb_at 83 (by decide +kernel) (by decide +kernel)⟩
theorem nw_Tw_52 : Cond.classLink "MarketTown$Town" 52 "MarketTown$Loans" ∈ TB ∧ Cond.instantiable "MarketTown$Loans" 2 ∈ TB ∧ Cond.initialized "MarketTown$Loans" ∈ TB := ⟨tb_at 150 (by decide +kernel) (by decide +kernel), tb_at 151 (by decide +kernel) (by decide +kernel), tb_at 84 (by decide +kernel) (by decide +kernel)⟩
theorem ob_Mk_3 : Cond.methodLink "MarketTown" 3 Lib.objectInit ∈ TB ∧ Cond.instanceMethod Lib.objectInit ∈ TB ∧ Cond.code Lib.objectInit ⟨#[0xb1]⟩ 1 none ∈ TB := ⟨tb_at 102 (by decide +kernel) (by decide +kernel), tb_at 103 (by decide +kernel) (by decide +kernel), tb_at 104 (by decide +kernel) (by decide +kernel)⟩
theorem ob_Dy_3 : Cond.methodLink "MarketTown$Day" 3 Lib.objectInit ∈ TB ∧ Cond.instanceMethod Lib.objectInit ∈ TB ∧ Cond.code Lib.objectInit ⟨#[0xb1]⟩ 1 none ∈ TB := ⟨tb_at 278 (by decide +kernel) (by decide +kernel), tb_at 103 (by decide +kernel) (by decide +kernel), tb_at 104 (by decide +kernel) (by decide +kernel)⟩
theorem ob_Ln_3 : Cond.methodLink "MarketTown$Loans" 3 Lib.objectInit ∈ TB ∧ Cond.instanceMethod Lib.objectInit ∈ TB ∧ Cond.code Lib.objectInit ⟨#[0xb1]⟩ 1 none ∈ TB := ⟨tb_at 155 (by decide +kernel) (by decide +kernel), tb_at 103 (by decide +kernel) (by decide +kernel), tb_at 104 (by decide +kernel) (by decide +kernel)⟩
theorem ob_Mt_3 : Cond.methodLink "MarketTown$Market" 3 Lib.objectInit ∈ TB ∧ Cond.instanceMethod Lib.objectInit ∈ TB ∧ Cond.code Lib.objectInit ⟨#[0xb1]⟩ 1 none ∈ TB := ⟨tb_at 284 (by decide +kernel) (by decide +kernel), tb_at 103 (by decide +kernel) (by decide +kernel), tb_at 104 (by decide +kernel) (by decide +kernel)⟩
theorem ob_Of_3 : Cond.methodLink "MarketTown$Offers" 3 Lib.objectInit ∈ TB ∧ Cond.instanceMethod Lib.objectInit ∈ TB ∧ Cond.code Lib.objectInit ⟨#[0xb1]⟩ 1 none ∈ TB := ⟨tb_at 290 (by decide +kernel) (by decide +kernel), tb_at 103 (by decide +kernel) (by decide +kernel), tb_at 104 (by decide +kernel) (by decide +kernel)⟩
theorem ob_Rr_3 : Cond.methodLink "MarketTown$RuleReader" 3 Lib.objectInit ∈ TB ∧ Cond.instanceMethod Lib.objectInit ∈ TB ∧ Cond.code Lib.objectInit ⟨#[0xb1]⟩ 1 none ∈ TB := ⟨tb_at 260 (by decide +kernel) (by decide +kernel), tb_at 103 (by decide +kernel) (by decide +kernel), tb_at 104 (by decide +kernel) (by decide +kernel)⟩
theorem ob_Rl_3 : Cond.methodLink "MarketTown$Rules" 3 Lib.objectInit ∈ TB ∧ Cond.instanceMethod Lib.objectInit ∈ TB ∧ Cond.code Lib.objectInit ⟨#[0xb1]⟩ 1 none ∈ TB := ⟨tb_at 140 (by decide +kernel) (by decide +kernel), tb_at 103 (by decide +kernel) (by decide +kernel), tb_at 104 (by decide +kernel) (by decide +kernel)⟩
theorem ob_Sk_3 : Cond.methodLink "MarketTown$Stock" 3 Lib.objectInit ∈ TB ∧ Cond.instanceMethod Lib.objectInit ∈ TB ∧ Cond.code Lib.objectInit ⟨#[0xb1]⟩ 1 none ∈ TB := ⟨tb_at 116 (by decide +kernel) (by decide +kernel), tb_at 103 (by decide +kernel) (by decide +kernel), tb_at 104 (by decide +kernel) (by decide +kernel)⟩
theorem ob_Tp_1 : Cond.methodLink "MarketTown$Tape" 1 Lib.objectInit ∈ TB ∧ Cond.instanceMethod Lib.objectInit ∈ TB ∧ Cond.code Lib.objectInit ⟨#[0xb1]⟩ 1 none ∈ TB := ⟨tb_at 245 (by decide +kernel) (by decide +kernel), tb_at 103 (by decide +kernel) (by decide +kernel), tb_at 104 (by decide +kernel) (by decide +kernel)⟩
theorem ob_Tw_3 : Cond.methodLink "MarketTown$Town" 3 Lib.objectInit ∈ TB ∧ Cond.instanceMethod Lib.objectInit ∈ TB ∧ Cond.code Lib.objectInit ⟨#[0xb1]⟩ 1 none ∈ TB := ⟨tb_at 110 (by decide +kernel) (by decide +kernel), tb_at 103 (by decide +kernel) (by decide +kernel), tb_at 104 (by decide +kernel) (by decide +kernel)⟩
theorem ob_Wr_3 : Cond.methodLink "MarketTown$Wares" 3 Lib.objectInit ∈ TB ∧ Cond.instanceMethod Lib.objectInit ∈ TB ∧ Cond.code Lib.objectInit ⟨#[0xb1]⟩ 1 none ∈ TB := ⟨tb_at 130 (by decide +kernel) (by decide +kernel), tb_at 103 (by decide +kernel) (by decide +kernel), tb_at 104 (by decide +kernel) (by decide +kernel)⟩
theorem ob_Md_1 : Cond.methodLink "MarketTownModel" 1 Lib.objectInit ∈ TB ∧ Cond.instanceMethod Lib.objectInit ∈ TB ∧ Cond.code Lib.objectInit ⟨#[0xb1]⟩ 1 none ∈ TB := ⟨tb_at 926 (by decide +kernel) (by decide +kernel), tb_at 103 (by decide +kernel) (by decide +kernel), tb_at 104 (by decide +kernel) (by decide +kernel)⟩
theorem ac_int : Cond.arrayClass .int ∈ TB := tb_at 124 (by decide +kernel) (by decide +kernel)
theorem ac_boolean : Cond.arrayClass .boolean ∈ TB := tb_at 254 (by decide +kernel) (by decide +kernel)
theorem ty_0 : ∀ k, k < 6 → kFty (kTy 0 k) = true ∨ kTy 0 k = .int := by decide +kernel
theorem ty_1 : ∀ k, k < 2 → kFty (kTy 1 k) = true ∨ kTy 1 k = .int := by decide +kernel
theorem ty_2 : ∀ k, k < 2 → kFty (kTy 2 k) = true ∨ kTy 2 k = .int := by decide +kernel
theorem ty_3 : ∀ k, k < 5 → kFty (kTy 3 k) = true ∨ kTy 3 k = .int := by decide +kernel
theorem ty_4 : ∀ k, k < 7 → kFty (kTy 4 k) = true ∨ kTy 4 k = .int := by decide +kernel
theorem ty_5 : ∀ k, k < 3 → kFty (kTy 5 k) = true ∨ kTy 5 k = .int := by decide +kernel
theorem ty_6 : ∀ k, k < 2 → kFty (kTy 6 k) = true ∨ kTy 6 k = .int := by decide +kernel
theorem ty_7 : ∀ k, k < 2 → kFty (kTy 7 k) = true ∨ kTy 7 k = .int := by decide +kernel
theorem ty_8 : ∀ k, k < 2 → kFty (kTy 8 k) = true ∨ kTy 8 k = .int := by decide +kernel
theorem ty_9 : ∀ k, k < 14 → kFty (kTy 9 k) = true ∨ kTy 9 k = .int := by decide +kernel
theorem ty_10 : ∀ k, k < 1 → kFty (kTy 10 k) = true ∨ kTy 10 k = .int := by decide +kernel
theorem ty_11 : ∀ k, k < 21 → kFty (kTy 11 k) = true ∨ kTy 11 k = .int := by decide +kernel
theorem im_Mk_init : Cond.instanceMethod M_Mk_init.1 ∈ TB := tb_at 100 (by decide +kernel) (by decide +kernel)
theorem cd_Mk_init : Cond.code M_Mk_init.1 M_Mk_init.2.1 M_Mk_init.2.2.1 M_Mk_init.2.2.2.1 ∈ TB ∧ Cond.initialized M_Mk_init.1.cls ∈ TB ∧ (M_Mk_init.1.cls ≠ "java/lang/invoke/MethodHandle" ∧ M_Mk_init.1.cls ≠ "java/lang/invoke/VarHandle") ∧ (parseMethodDescriptor M_Mk_init.1.desc).map (fun d => d.parameters.length) = some 0 ∧ plainName M_Mk_init.1.cls = true := ⟨tb_at 101 (by decide +kernel) (by decide +kernel), tb_at 79 (by decide +kernel) (by decide +kernel), by decide +kernel, by decide +kernel, by decide +kernel⟩
theorem im_Tw_init : Cond.instanceMethod M_Tw_init.1 ∈ TB := tb_at 108 (by decide +kernel) (by decide +kernel)
theorem cd_Tw_init : Cond.code M_Tw_init.1 M_Tw_init.2.1 M_Tw_init.2.2.1 M_Tw_init.2.2.2.1 ∈ TB ∧ Cond.initialized M_Tw_init.1.cls ∈ TB ∧ (M_Tw_init.1.cls ≠ "java/lang/invoke/MethodHandle" ∧ M_Tw_init.1.cls ≠ "java/lang/invoke/VarHandle") ∧ (parseMethodDescriptor M_Tw_init.1.desc).map (fun d => d.parameters.length) = some 0 ∧ plainName M_Tw_init.1.cls = true := ⟨tb_at 109 (by decide +kernel) (by decide +kernel), tb_at 80 (by decide +kernel) (by decide +kernel), by decide +kernel, by decide +kernel, by decide +kernel⟩
theorem im_Sk_init : Cond.instanceMethod M_Sk_init.1 ∈ TB := tb_at 114 (by decide +kernel) (by decide +kernel)
theorem cd_Sk_init : Cond.code M_Sk_init.1 M_Sk_init.2.1 M_Sk_init.2.2.1 M_Sk_init.2.2.2.1 ∈ TB ∧ Cond.initialized M_Sk_init.1.cls ∈ TB ∧ (M_Sk_init.1.cls ≠ "java/lang/invoke/MethodHandle" ∧ M_Sk_init.1.cls ≠ "java/lang/invoke/VarHandle") ∧ (parseMethodDescriptor M_Sk_init.1.desc).map (fun d => d.parameters.length) = some 0 ∧ plainName M_Sk_init.1.cls = true := ⟨tb_at 115 (by decide +kernel) (by decide +kernel), tb_at 81 (by decide +kernel) (by decide +kernel), by decide +kernel, by decide +kernel, by decide +kernel⟩
theorem im_Wr_init : Cond.instanceMethod M_Wr_init.1 ∈ TB := tb_at 128 (by decide +kernel) (by decide +kernel)
theorem cd_Wr_init : Cond.code M_Wr_init.1 M_Wr_init.2.1 M_Wr_init.2.2.1 M_Wr_init.2.2.2.1 ∈ TB ∧ Cond.initialized M_Wr_init.1.cls ∈ TB ∧ (M_Wr_init.1.cls ≠ "java/lang/invoke/MethodHandle" ∧ M_Wr_init.1.cls ≠ "java/lang/invoke/VarHandle") ∧ (parseMethodDescriptor M_Wr_init.1.desc).map (fun d => d.parameters.length) = some 0 ∧ plainName M_Wr_init.1.cls = true := ⟨tb_at 129 (by decide +kernel) (by decide +kernel), tb_at 82 (by decide +kernel) (by decide +kernel), by decide +kernel, by decide +kernel, by decide +kernel⟩
theorem im_Rl_init : Cond.instanceMethod M_Rl_init.1 ∈ TB := tb_at 138 (by decide +kernel) (by decide +kernel)
theorem cd_Rl_init : Cond.code M_Rl_init.1 M_Rl_init.2.1 M_Rl_init.2.2.1 M_Rl_init.2.2.2.1 ∈ TB ∧ Cond.initialized M_Rl_init.1.cls ∈ TB ∧ (M_Rl_init.1.cls ≠ "java/lang/invoke/MethodHandle" ∧ M_Rl_init.1.cls ≠ "java/lang/invoke/VarHandle") ∧ (parseMethodDescriptor M_Rl_init.1.desc).map (fun d => d.parameters.length) = some 0 ∧ plainName M_Rl_init.1.cls = true := ⟨tb_at 139 (by decide +kernel) (by decide +kernel), tb_at 83 (by decide +kernel) (by decide +kernel), by decide +kernel, by decide +kernel, by decide +kernel⟩
theorem im_Ln_init : Cond.instanceMethod M_Ln_init.1 ∈ TB := tb_at 153 (by decide +kernel) (by decide +kernel)
theorem cd_Ln_init : Cond.code M_Ln_init.1 M_Ln_init.2.1 M_Ln_init.2.2.1 M_Ln_init.2.2.2.1 ∈ TB ∧ Cond.initialized M_Ln_init.1.cls ∈ TB ∧ (M_Ln_init.1.cls ≠ "java/lang/invoke/MethodHandle" ∧ M_Ln_init.1.cls ≠ "java/lang/invoke/VarHandle") ∧ (parseMethodDescriptor M_Ln_init.1.desc).map (fun d => d.parameters.length) = some 0 ∧ plainName M_Ln_init.1.cls = true := ⟨tb_at 154 (by decide +kernel) (by decide +kernel), tb_at 84 (by decide +kernel) (by decide +kernel), by decide +kernel, by decide +kernel, by decide +kernel⟩
theorem im_Tp_init : Cond.instanceMethod M_Tp_init.1 ∈ TB := tb_at 243 (by decide +kernel) (by decide +kernel)
theorem cd_Tp_init : Cond.code M_Tp_init.1 M_Tp_init.2.1 M_Tp_init.2.2.1 M_Tp_init.2.2.2.1 ∈ TB ∧ Cond.initialized M_Tp_init.1.cls ∈ TB ∧ (M_Tp_init.1.cls ≠ "java/lang/invoke/MethodHandle" ∧ M_Tp_init.1.cls ≠ "java/lang/invoke/VarHandle") ∧ (parseMethodDescriptor M_Tp_init.1.desc).map (fun d => d.parameters.length) = some 0 ∧ plainName M_Tp_init.1.cls = true := ⟨tb_at 244 (by decide +kernel) (by decide +kernel), tb_at 85 (by decide +kernel) (by decide +kernel), by decide +kernel, by decide +kernel, by decide +kernel⟩
theorem im_Rr_init : Cond.instanceMethod M_Rr_init.1 ∈ TB := tb_at 258 (by decide +kernel) (by decide +kernel)
theorem cd_Rr_init : Cond.code M_Rr_init.1 M_Rr_init.2.1 M_Rr_init.2.2.1 M_Rr_init.2.2.2.1 ∈ TB ∧ Cond.initialized M_Rr_init.1.cls ∈ TB ∧ (M_Rr_init.1.cls ≠ "java/lang/invoke/MethodHandle" ∧ M_Rr_init.1.cls ≠ "java/lang/invoke/VarHandle") ∧ (parseMethodDescriptor M_Rr_init.1.desc).map (fun d => d.parameters.length) = some 0 ∧ plainName M_Rr_init.1.cls = true := ⟨tb_at 259 (by decide +kernel) (by decide +kernel), tb_at 86 (by decide +kernel) (by decide +kernel), by decide +kernel, by decide +kernel, by decide +kernel⟩
theorem im_Dy_init : Cond.instanceMethod M_Dy_init.1 ∈ TB := tb_at 276 (by decide +kernel) (by decide +kernel)
theorem cd_Dy_init : Cond.code M_Dy_init.1 M_Dy_init.2.1 M_Dy_init.2.2.1 M_Dy_init.2.2.2.1 ∈ TB ∧ Cond.initialized M_Dy_init.1.cls ∈ TB ∧ (M_Dy_init.1.cls ≠ "java/lang/invoke/MethodHandle" ∧ M_Dy_init.1.cls ≠ "java/lang/invoke/VarHandle") ∧ (parseMethodDescriptor M_Dy_init.1.desc).map (fun d => d.parameters.length) = some 0 ∧ plainName M_Dy_init.1.cls = true := ⟨tb_at 277 (by decide +kernel) (by decide +kernel), tb_at 87 (by decide +kernel) (by decide +kernel), by decide +kernel, by decide +kernel, by decide +kernel⟩
theorem im_Mt_init : Cond.instanceMethod M_Mt_init.1 ∈ TB := tb_at 282 (by decide +kernel) (by decide +kernel)
theorem cd_Mt_init : Cond.code M_Mt_init.1 M_Mt_init.2.1 M_Mt_init.2.2.1 M_Mt_init.2.2.2.1 ∈ TB ∧ Cond.initialized M_Mt_init.1.cls ∈ TB ∧ (M_Mt_init.1.cls ≠ "java/lang/invoke/MethodHandle" ∧ M_Mt_init.1.cls ≠ "java/lang/invoke/VarHandle") ∧ (parseMethodDescriptor M_Mt_init.1.desc).map (fun d => d.parameters.length) = some 0 ∧ plainName M_Mt_init.1.cls = true := ⟨tb_at 283 (by decide +kernel) (by decide +kernel), tb_at 88 (by decide +kernel) (by decide +kernel), by decide +kernel, by decide +kernel, by decide +kernel⟩
theorem im_Of_init : Cond.instanceMethod M_Of_init.1 ∈ TB := tb_at 288 (by decide +kernel) (by decide +kernel)
theorem cd_Of_init : Cond.code M_Of_init.1 M_Of_init.2.1 M_Of_init.2.2.1 M_Of_init.2.2.2.1 ∈ TB ∧ Cond.initialized M_Of_init.1.cls ∈ TB ∧ (M_Of_init.1.cls ≠ "java/lang/invoke/MethodHandle" ∧ M_Of_init.1.cls ≠ "java/lang/invoke/VarHandle") ∧ (parseMethodDescriptor M_Of_init.1.desc).map (fun d => d.parameters.length) = some 0 ∧ plainName M_Of_init.1.cls = true := ⟨tb_at 289 (by decide +kernel) (by decide +kernel), tb_at 89 (by decide +kernel) (by decide +kernel), by decide +kernel, by decide +kernel, by decide +kernel⟩
theorem im_Md_init : Cond.instanceMethod M_Md_init.1 ∈ TB := tb_at 924 (by decide +kernel) (by decide +kernel)
theorem cd_Md_init : Cond.code M_Md_init.1 M_Md_init.2.1 M_Md_init.2.2.1 M_Md_init.2.2.2.1 ∈ TB ∧ Cond.initialized M_Md_init.1.cls ∈ TB ∧ (M_Md_init.1.cls ≠ "java/lang/invoke/MethodHandle" ∧ M_Md_init.1.cls ≠ "java/lang/invoke/VarHandle") ∧ (parseMethodDescriptor M_Md_init.1.desc).map (fun d => d.parameters.length) = some 0 ∧ plainName M_Md_init.1.cls = true := ⟨tb_at 925 (by decide +kernel) (by decide +kernel), tb_at 90 (by decide +kernel) (by decide +kernel), by decide +kernel, by decide +kernel, by decide +kernel⟩
theorem bB_Mk_init_Tw_init : mj_B M_Mk_init M_Tw_init 0 := ⟨cd_Tw_init.1, cd_Tw_init.2.1, cd_Tw_init.2.2.1, cd_Tw_init.2.2.2.1, cd_Tw_init.2.2.2.2, by decide, by decide⟩
theorem bB_Tw_init_Sk_init : mj_B M_Tw_init M_Sk_init 0 := ⟨cd_Sk_init.1, cd_Sk_init.2.1, cd_Sk_init.2.2.1, cd_Sk_init.2.2.2.1, cd_Sk_init.2.2.2.2, by decide, by decide⟩
theorem bB_Tw_init_Wr_init : mj_B M_Tw_init M_Wr_init 0 := ⟨cd_Wr_init.1, cd_Wr_init.2.1, cd_Wr_init.2.2.1, cd_Wr_init.2.2.2.1, cd_Wr_init.2.2.2.2, by decide, by decide⟩
theorem bB_Tw_init_Rl_init : mj_B M_Tw_init M_Rl_init 0 := ⟨cd_Rl_init.1, cd_Rl_init.2.1, cd_Rl_init.2.2.1, cd_Rl_init.2.2.2.1, cd_Rl_init.2.2.2.2, by decide, by decide⟩
theorem bB_Tw_init_Ln_init : mj_B M_Tw_init M_Ln_init 0 := ⟨cd_Ln_init.1, cd_Ln_init.2.1, cd_Ln_init.2.2.1, cd_Ln_init.2.2.2.1, cd_Ln_init.2.2.2.2, by decide, by decide⟩
theorem bB_Mk_init_Tp_init : mj_B M_Mk_init M_Tp_init 0 := ⟨cd_Tp_init.1, cd_Tp_init.2.1, cd_Tp_init.2.2.1, cd_Tp_init.2.2.2.1, cd_Tp_init.2.2.2.2, by decide, by decide⟩
theorem bB_Mk_init_Rr_init : mj_B M_Mk_init M_Rr_init 0 := ⟨cd_Rr_init.1, cd_Rr_init.2.1, cd_Rr_init.2.2.1, cd_Rr_init.2.2.2.1, cd_Rr_init.2.2.2.2, by decide, by decide⟩
theorem bB_Mk_init_Dy_init : mj_B M_Mk_init M_Dy_init 0 := ⟨cd_Dy_init.1, cd_Dy_init.2.1, cd_Dy_init.2.2.1, cd_Dy_init.2.2.2.1, cd_Dy_init.2.2.2.2, by decide, by decide⟩
theorem bB_Dy_init_Mt_init : mj_B M_Dy_init M_Mt_init 0 := ⟨cd_Mt_init.1, cd_Mt_init.2.1, cd_Mt_init.2.2.1, cd_Mt_init.2.2.2.1, cd_Mt_init.2.2.2.2, by decide, by decide⟩
theorem bB_Mt_init_Of_init : mj_B M_Mt_init M_Of_init 0 := ⟨cd_Of_init.1, cd_Of_init.2.1, cd_Of_init.2.2.1, cd_Of_init.2.2.2.1, cd_Of_init.2.2.2.2, by decide, by decide⟩
