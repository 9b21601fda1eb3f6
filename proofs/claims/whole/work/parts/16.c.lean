/-! THE CLAIM OUT OF ONE WALK OF THE LAW'S BODY. Your part is whole_start (and what it stands on); all else here is the same for every law, but numbers. -/
def R_law : String := "MarketTownLaw"
def lw_P (b : Addr) (xs : List Int32) (args : Array Value) (s : State) : Prop := args = #[.ref b] ∧ s.IntsAt b xs ∧ xs.length ≤ 3072 ∧ (Jvm.Cond.and given_1 narrow_1).before args s = true
def lw_Q (_ : Array Value) (s : State) (o : Outcome) (t : State) : Prop := o = .returned (some (.int 1)) ∧ Framed s o t [] 600000 7302250
def lw_Z (below : List Frame) (a : Array Value) (s : State) : State → Prop := fun t => ∃ o, t.status = .running ∧ Ended t below o ∧ lw_Q a s o t
/-- the law's own end, with 1 on the stack, nothing written that was there before, its room as the claim has it -/
theorem lw_ret {p : Program} {l : Launch} {e : Env} {s : State} {m : MethodId} {below : List Frame} {meth : Method} {c : Code} {b : Nat} (hx : p.tables.exec = Jvm.exec) (hb : c.code = code) (hr : meth.sig.returnType = ret) (hlocks : meth.locks = false) {pc : Nat} {H : Heap} {ls : Array Slot} (hdg : decode code pc = .ok (.ireturn, 1)) : W p l e room_1 s m #[Value.ref b] below meth c H [] 600000 7302250 (lw_Z below #[Value.ref b] s) (F0 m pc ls [.int 1]) := by
  intro T hT X
  obtain ⟨fs, hret, hrun, hended, hW, hframe⟩ := X.leave (v := some (.int 1)) (hlocks := hlocks) (fun h => by rw [hr] at h; cases h)
  have hmeth' : T.vm.method? m = some meth := X.method'
  refine ⟨T.setFrames fs, ?_, .returned (some (.int 1)), hrun, hended, rfl, ⟨_, rfl⟩, hW, hframe⟩
  jvm_step X.here [X.here.top, hx, hb, hdg, hmeth', hr, ret, narrow_b1]
  (try refine ⟨rfl, ?_⟩); (try refine ⟨rfl, ?_⟩)
  first | (intro acts; rw [hret _ acts rfl rfl rfl]) | rw [hret _ _ rfl rfl rfl]
  exact Steps.refl _
/-- what holds at the law's entry: the machine, the code, the tables' words (any of lw_tbl by 'hts w (by decide +kernel)'), the script of L ints xs at the cell b, what the Statement gives of the start (any of its parts by flat_of_before) -/
def lw_At (p : Program) (s : State) (m : MethodId) (meth : Method) (c : Code) (b L : Nat) (xs : Nat → Int32) : Prop :=
  p.tables.exec = Jvm.exec ∧ c.code = code ∧ meth.sig.returnType = ret ∧ c.maxLocals = 4 ∧ s.vm.findClass R_law = some m.cls ∧ (∀ w ∈ lw_tbl, w.before #[Value.ref b] s = true) ∧ va_X b L xs s s.heap ∧ b < s.heap.size ∧ meth.locks = false ∧ (Jvm.Cond.and given_1 narrow_1).before #[Value.ref b] s = true
/-! the law's body -/
section LX
variable {p : Program} {l : Launch} {e : Env} {s : State} {m : MethodId} {below : List Frame} {meth : Method} {c : Code} {b L : Nat} {xs : Nat → Int32} {E : mj_E} {C D : St} {i : Int32} {pc : Nat} {st : List Value}
def lx_K (p : Program) (s : State) (m : MethodId) (meth : Method) (c : Code) (b L : Nat) (xs : Nat → Int32) (E : mj_E) : Prop := lw_At p s m meth c b L xs ∧ mj_G E s ∧ E.2.2.1 = s.heap.size
def lx (p : Program) (l : Launch) (e : Env) (s : State) (m : MethodId) (below : List Frame) (meth : Method) (c : Code) (b : Nat) (E : mj_E) (C D : St) (i : Int32) (pc : Nat) (st : List Value) : Prop :=
  ∀ (H : Heap) (locs : List Loc) (ls : Array Slot), mj_H E (SH, jn C D) H → va_S (mj_A E) s.heap H locs → lv_has ls 4 [(3, .int i), (2, .ref (E.2.2.1 + 88)), (1, .ref (E.2.2.1 + 0)), (0, .ref b)] → W p l e room_1 s m #[Value.ref b] below meth c H locs 103 19302 (lw_Z below #[Value.ref b] s) (F0 m pc ls st)
theorem lx_hbA (K : lx_K p s m meth c b L xs E) : ¬ mj_A E b := by
  show ¬ E.2.2.1 ≤ b
  have h1 := K.1.2.2.2.2.2.2.2.1
  rw [K.2.2]
  omega
/-- an argument: script[i + k] -/
theorem lx_arg (K : lx_K p s m meth c b L xs E) {k : Int} (v : Int32) (d1 : decode code pc = .ok (.aload_n 0, 1)) (d2 : decode code (pc + 1) = .ok (.iload_n 3, 1)) (d3 : decode code (pc + 1 + 1) = .ok (.iconst k, 1)) (hv : Int32.ofInt k = v) (d4 : decode code (pc + 1 + 1 + 1) = .ok (.iadd, 1)) (d5 : decode code (pc + 1 + 1 + 1 + 1) = .ok (.iaload, 1)) (hin : vp_in (i + v) L)
    (kk : lx p l e s m below meth c b E C D i (pc + 1 + 1 + 1 + 1 + 1) (.int (xs (i + v).toNatClampNeg) :: st)) : lx p l e s m below meth c b E C D i pc st := fun H locs ls hH hS hl => by
  refine lv_aload_n K.1.1 K.1.2.1 d1 rfl (lv_at hl 3 rfl) ?_
  refine lv_iload_n K.1.1 K.1.2.1 d2 rfl (lv_at hl 0 rfl) ?_
  refine lv_iconst K.1.1 K.1.2.1 d3 hv ?_
  refine lv_iadd K.1.1 K.1.2.1 d4 ?_
  exact va_sld K.1.1 K.1.2.1 K.1.2.2.2.2.2.2.1 K.1.2.2.2.2.2.2.2.1 (lx_hbA K) hS hin d5 (kk H locs ls hH hS hl)
theorem lx_this (K : lx_K p s m meth c b L xs E) (d1 : decode code pc = .ok (.aload_n 1, 1)) (kk : lx p l e s m below meth c b E C D i (pc + 1) (.ref (E.2.2.1 + 0) :: st)) : lx p l e s m below meth c b E C D i pc st := fun H locs ls hH hS hl =>
  lv_aload_n K.1.1 K.1.2.1 d1 rfl (lv_at hl 2 rfl) (kk H locs ls hH hS hl)
theorem lx_that (K : lx_K p s m meth c b L xs E) (d1 : decode code pc = .ok (.aload_n 2, 1)) (kk : lx p l e s m below meth c b E C D i (pc + 1) (.ref (E.2.2.1 + 88) :: st)) : lx p l e s m below meth c b E C D i pc st := fun H locs ls hH hS hl =>
  lv_aload_n K.1.1 K.1.2.1 d1 rfl (lv_at hl 1 rfl) (kk H locs ls hH hS hl)
/-- a call of a method -/
theorem lx_call (K : lx_K p s m meth c b L xs E) {M2 : mj_M} {n idx q : Nat} (vs : List Value) {v : Int32} {C1 D1 : St} {rest : List Value} (hd : decode code pc = .ok (.invokevirtual idx, 3)) (hB : Cond.code M2.1 M2.2.1 M2.2.2.1 M2.2.2.2.1 ∈ TB ∧ Cond.initialized M2.1.cls ∈ TB ∧ (M2.1.cls ≠ "java/lang/invoke/MethodHandle" ∧ M2.1.cls ≠ "java/lang/invoke/VarHandle") ∧ (parseMethodDescriptor M2.1.desc).map (fun d => d.parameters.length) = some n ∧ plainName M2.1.cls = true) (hroom : M2.2.2.2.2.1 + 1 ≤ 13 ∧ 8 + (M2.2.2.1 + 11) + M2.2.2.2.2.2 ≤ 484) (hl : Cond.methodLink "MarketTownLaw" idx M2.1 ∈ TB) (hst : Cond.instanceMethod M2.1 ∈ TB ∧ Cond.selects M2.1.cls M2.1 M2.1 ∈ TB) (hrc : ∀ x : St, mj_rc (SH, x) q M2.1.cls) (hq : q < 1000000) (hvs : vs.length = n) (hcv : vs.map (mj_cv E) = vs) (hen : (mj_ent (.ref q :: vs)).length ≤ M2.2.2.1) (hw : (rest.map fun v => v.category).sum ≤ 8)
    (hR : mj_R M2 0 (mj_lv M2.2.2.1 (.ref q :: vs)) [] (SH, jn C D) (some (.int v)) (SH, jn C1 D1)) (kk : lx p l e s m below meth c b E C1 D1 i (pc + 3) (.int v :: rest)) : lx p l e s m below meth c b E C D i pc (vs.reverse ++ .ref (E.2.2.1 + q) :: rest) := fun H locs ls hH hS hls => by
  obtain ⟨⟨hx, hb, hr, hml, hown, hts, hX, hbl, hlocks, hgv⟩, hG, hbase⟩ := K
  have htb : ∀ w ∈ TB, w.before #[Value.ref b] s = true := fun w hw => hts w (List.mem_filter.mp hw).1
  obtain ⟨b1, b2, b3, b4, b5⟩ := hB
  have hM := mj_met hR b5 hen E l
  have z1 : (SH, jn C1 D1).1.length - (SH, jn C D).1.length = 0 := Nat.sub_self _
  have z2 : mj_sz (SH, jn C1 D1) - mj_sz (SH, jn C D) = 0 := Nat.sub_self _
  rw [z1, z2] at hM
  obtain ⟨a, ha, hcell⟩ := mj_recv (hrc (jn C D)) hG hH hS
  rw [mj_adw hq] at ha
  cases ha
  refine mj_size (L0 := 0) (mem := (SH, jn C D)) hH (by rw [hbase]; rfl) (Nat.zero_le _) fun hsz => ?_
  have hargs : (.ref q :: vs).map (mj_cv E) = .ref (E.2.2.1 + q) :: vs := by rw [List.map_cons, mj_adw hq, hcv]
  have hpre : PreV s H M2.1.cls (E.2.2.1 + q) (mj_P E (.ref q :: vs) (SH, jn C D)) vs := ⟨mj_blind E _ _, hcell, fun U hU hW => ⟨by rw [hargs], by rw [hU]; exact hH, by rw [hU]; exact hsz, hG.moved hW hU hS⟩⟩
  have fix : CallFix p m c code 4 s #[Value.ref b] TB "MarketTownLaw" := ⟨hx, hb, hml, hown, htb⟩
  have run : va_Run p l e room_1 s m #[Value.ref b] below meth c H locs 103 19302 0 0 (F0 m pc ls (vs.reverse ++ .ref (E.2.2.1 + q) :: rest)) rest (mj_Q E (some (.int v)) (SH, jn C1 D1) (Value.ref (E.2.2.1 + q) :: vs).toArray) (mj_A E) :=
    va_runV (n := n) fix hM ⟨callB_of n htb (mj_good b1) rfl rfl rfl (htb _ b2) (htb _ hl) ⟨b3.1, b3.2, b4⟩ hroom, htb _ hst.1, htb _ hst.2⟩ hpre rfl hvs hls.1 rfl (lv_room hw) hd ⟨Nat.le_of_ble_eq_true rfl, Nat.le_of_ble_eq_true rfl⟩
  exact mj_go run hS fun H1 locs1 hH1 hS1 => kk H1 locs1 ls hH1 hS1 hls
/-- the two answers are one -/
theorem lx_same (K : lx_K p s m meth c b L xs E) {v : Int32} {off : Int} {tgt : Nat} (hd : decode code pc = .ok (.if_icmp .eq off, 3)) (ht : (pc : Int) + off = (tgt : Int)) (kk : lx p l e s m below meth c b E C D i tgt []) : lx p l e s m below meth c b E C D i pc [.int v, .int v] := fun H locs ls hH hS hl =>
  lv_icmp_eq K.1.1 K.1.2.1 hd ht (fun _ => kk H locs ls hH hS hl) (fun h => absurd rfl h)
end LX
/-- what the pure parts give: every call answers alike, and keeps the relation -/
def sim_agent (Rel : Nat → St → St → Prop) (t : Nat) (C D : St) : Prop := ∀ a1 a2 : Int32, ∃ (v : Int32) (C' : St) (D' : St), f_Mk_agent a1 a2 C = some (v, C') ∧ f_Md_agent a1 a2 D = some (v, D') ∧ Rel (t + 1) C' D'
def sim_give (Rel : Nat → St → St → Prop) (t : Nat) (C D : St) : Prop := ∀ a1 a2 a3 : Int32, ∃ (v : Int32) (C' : St) (D' : St), f_Mk_give a1 a2 a3 C = some (v, C') ∧ f_Md_give a1 a2 a3 D = some (v, D') ∧ Rel (t + 1) C' D'
def sim_good (Rel : Nat → St → St → Prop) (t : Nat) (C D : St) : Prop := ∀ a1 a2 a3 : Int32, ∃ (v : Int32) (C' : St) (D' : St), f_Mk_good a1 a2 a3 C = some (v, C') ∧ f_Md_good a1 a2 a3 D = some (v, D') ∧ Rel (t + 1) C' D'
def sim_recipe (Rel : Nat → St → St → Prop) (t : Nat) (C D : St) : Prop := ∀ a1 a2 a3 a4 a5 : Int32, ∃ (v : Int32) (C' : St) (D' : St), f_Mk_recipe a1 a2 a3 a4 a5 C = some (v, C') ∧ f_Md_recipe a1 a2 a3 a4 a5 D = some (v, D') ∧ Rel (t + 1) C' D'
def sim_policy (Rel : Nat → St → St → Prop) (t : Nat) (C D : St) : Prop := ∀ a1 a2 : Int32, ∃ (v : Int32) (C' : St) (D' : St), f_Mk_policy a1 a2 C = some (v, C') ∧ f_Md_policy a1 a2 D = some (v, D') ∧ Rel (t + 1) C' D'
def sim_lots (Rel : Nat → St → St → Prop) (t : Nat) (C D : St) : Prop := ∀ a1 : Int32, ∃ (v : Int32) (C' : St) (D' : St), f_Mk_lots a1 C = some (v, C') ∧ f_Md_lots a1 D = some (v, D') ∧ Rel (t + 1) C' D'
def sim_feed (Rel : Nat → St → St → Prop) (t : Nat) (C D : St) : Prop := ∀ a1 a2 a3 a4 a5 : Int32, ∃ (v : Int32) (C' : St) (D' : St), f_Mk_feed a1 a2 a3 a4 a5 C = some (v, C') ∧ f_Md_feed a1 a2 a3 a4 a5 D = some (v, D') ∧ Rel (t + 1) C' D'
def sim_trim (Rel : Nat → St → St → Prop) (t : Nat) (C D : St) : Prop := ∀ a1 : Int32, ∃ (v : Int32) (C' : St) (D' : St), f_Mk_trim a1 C = some (v, C') ∧ f_Md_trim a1 D = some (v, D') ∧ Rel (t + 1) C' D'
def sim_rule (Rel : Nat → St → St → Prop) (t : Nat) (C D : St) : Prop := ∀ a1 : Int32, ∃ (v : Int32) (C' : St) (D' : St), f_Mk_rule a1 C = some (v, C') ∧ f_Md_rule a1 D = some (v, D') ∧ Rel (t + 1) C' D'
def sim_unrule (Rel : Nat → St → St → Prop) (t : Nat) (C D : St) : Prop := ∀ a1 : Int32, ∃ (v : Int32) (C' : St) (D' : St), f_Mk_unrule a1 C = some (v, C') ∧ f_Md_unrule a1 D = some (v, D') ∧ Rel (t + 1) C' D'
def sim_live (Rel : Nat → St → St → Prop) (t : Nat) (C D : St) : Prop := ∀ a1 : Int32, ∃ (v : Int32) (C' : St) (D' : St), f_Mk_live a1 C = some (v, C') ∧ f_Md_live a1 D = some (v, D') ∧ Rel (t + 1) C' D'
def sim_about (Rel : Nat → St → St → Prop) (t : Nat) (C D : St) : Prop := ∀ a1 a2 : Int32, ∃ (v : Int32), f_Mk_about a1 a2 C = some v ∧ f_Md_about a1 a2 D = some v ∧ Rel (t + 1) C D
def sim_isOf (Rel : Nat → St → St → Prop) (t : Nat) (C D : St) : Prop := ∀ a1 a2 : Int32, ∃ (v : Int32), f_Mk_isOf a1 a2 C = some v ∧ f_Md_isOf a1 a2 D = some v ∧ Rel (t + 1) C D
def sim_has (Rel : Nat → St → St → Prop) (t : Nat) (C D : St) : Prop := ∀ a1 a2 a3 : Int32, ∃ (v : Int32), f_Mk_has a1 a2 a3 C = some v ∧ f_Md_has a1 a2 a3 D = some v ∧ Rel (t + 1) C D
def sim_told (Rel : Nat → St → St → Prop) (t : Nat) (C D : St) : Prop := ∀ a1 a2 a3 : Int32, ∃ (v : Int32), f_Mk_told a1 a2 a3 C = some v ∧ f_Md_told a1 a2 a3 D = some v ∧ Rel (t + 1) C D
def sim_goods (Rel : Nat → St → St → Prop) (t : Nat) (C D : St) : Prop := ∀ a1 a2 : Int32, ∃ (v : Int32), f_Mk_goods a1 a2 C = some v ∧ f_Md_goods a1 a2 D = some v ∧ Rel (t + 1) C D
def sim_paid (Rel : Nat → St → St → Prop) (t : Nat) (C D : St) : Prop := ∀ a1 a2 a3 : Int32, ∃ (v : Int32), f_Mk_paid a1 a2 a3 C = some v ∧ f_Md_paid a1 a2 a3 D = some v ∧ Rel (t + 1) C D
def sim_loan (Rel : Nat → St → St → Prop) (t : Nat) (C D : St) : Prop := ∀ a1 a2 : Int32, ∃ (v : Int32), f_Mk_loan a1 a2 C = some v ∧ f_Md_loan a1 a2 D = some v ∧ Rel (t + 1) C D
def sim_median (Rel : Nat → St → St → Prop) (t : Nat) (C D : St) : Prop := ∀ a1 : Int32, ∃ (v : Int32), f_Mk_median a1 C = some v ∧ f_Md_median a1 D = some v ∧ Rel (t + 1) C D
def sim_save (Rel : Nat → St → St → Prop) (t : Nat) (C D : St) : Prop := ∀ a1 : Int32, ∃ (v : Int32) (C' : St) (D' : St), f_Mk_save a1 C = some (v, C') ∧ f_Md_save a1 D = some (v, D') ∧ Rel (t + 1) C' D'
def sim_load (Rel : Nat → St → St → Prop) (t : Nat) (C D : St) : Prop := ∀ a1 : Int32, ∃ (v : Int32) (C' : St) (D' : St), f_Mk_load a1 C = some (v, C') ∧ f_Md_load a1 D = some (v, D') ∧ Rel (t + 1) C' D'
def sim_differs (Rel : Nat → St → St → Prop) (t : Nat) (C D : St) : Prop := ∀ a1 : Int32, ∃ (v : Int32), f_Mk_differs a1 C = some v ∧ f_Md_differs a1 D = some v ∧ Rel (t + 1) C D
def sim_count (Rel : Nat → St → St → Prop) (t : Nat) (C D : St) : Prop := ∀ a1 : Int32, ∃ (v : Int32), f_Mk_count a1 C = some v ∧ f_Md_count a1 D = some v ∧ Rel (t + 1) C D
def SIM (Rel : Nat → St → St → Prop) : Prop := (∀ t C D, Rel t C D → Rel (t + 1) C D) ∧ ∀ t C D, t < 512 → Rel t C D → sim_agent Rel t C D ∧ sim_give Rel t C D ∧ sim_good Rel t C D ∧ sim_recipe Rel t C D ∧ sim_policy Rel t C D ∧ sim_lots Rel t C D ∧ sim_feed Rel t C D ∧ sim_trim Rel t C D ∧ sim_rule Rel t C D ∧ sim_unrule Rel t C D ∧ sim_live Rel t C D ∧ sim_about Rel t C D ∧ sim_isOf Rel t C D ∧ sim_has Rel t C D ∧ sim_told Rel t C D ∧ sim_goods Rel t C D ∧ sim_paid Rel t C D ∧ sim_loan Rel t C D ∧ sim_median Rel t C D ∧ sim_save Rel t C D ∧ sim_load Rel t C D ∧ sim_differs Rel t C D ∧ sim_count Rel t C D
section LY
variable {p : Program} {l : Launch} {e : Env} {s : State} {m : MethodId} {below : List Frame} {meth : Method} {c : Code} {b L : Nat} {xs : Nat → Int32} {E : mj_E} {C D : St} {i : Int32} {Rel : Nat → St → St → Prop} {t : Nat}
theorem lc_agent (K : lx_K p s m meth c b L xs E) (hin : ∀ k : Int32, 1 ≤ k → k ≤ 5 → vp_in (i + k) L) (hs : sim_agent Rel t C D) (kk : ∀ C2 D2 : St, Rel (t + 1) C2 D2 → lx p l e s m below meth c b E C2 D2 i 909 []) : lx p l e s m below meth c b E C D i 140 [] := by
  obtain ⟨v, C', D', h1, h2, h3⟩ := hs (xs (i + 1).toNatClampNeg) (xs (i + 2).toNatClampNeg)
  refine lx_this K (pc := 140) d_law_140 ?_
  refine lx_arg K (pc := 141) 1 d_law_141 d_law_142 d_law_143 (by decide) d_law_144 d_law_145 (hin 1 (by decide) (by decide)) ?_
  refine lx_arg K (pc := 146) 2 d_law_146 d_law_147 d_law_148 (by decide) d_law_149 d_law_150 (hin 2 (by decide) (by decide)) ?_
  refine lx_call K (pc := 151) (M2 := M_Mk_agent) (q := 0) (v := v) (C1 := C') (D1 := D) (rest := []) [.int (xs (i + 1).toNatClampNeg), .int (xs (i + 2).toNatClampNeg)] d_law_151 cd_Mk_agent (by decide) lk_Lw_13 iv_Mk_agent (fun _ => rc_0) (by decide) rfl rfl (Nat.le_of_ble_eq_true rfl) (Nat.le_of_ble_eq_true rfl) (r_Mk_agent h1) ?_
  refine lx_that K (pc := 154) d_law_154 ?_
  refine lx_arg K (pc := 155) 1 d_law_155 d_law_156 d_law_157 (by decide) d_law_158 d_law_159 (hin 1 (by decide) (by decide)) ?_
  refine lx_arg K (pc := 160) 2 d_law_160 d_law_161 d_law_162 (by decide) d_law_163 d_law_164 (hin 2 (by decide) (by decide)) ?_
  refine lx_call K (pc := 165) (M2 := M_Md_agent) (q := 88) (v := v) (C1 := C') (D1 := D') (rest := [.int v]) [.int (xs (i + 1).toNatClampNeg), .int (xs (i + 2).toNatClampNeg)] d_law_165 cd_Md_agent (by decide) lk_Lw_17 iv_Md_agent (fun _ => rc_88) (by decide) rfl rfl (Nat.le_of_ble_eq_true rfl) (Nat.le_of_ble_eq_true rfl) (r_Md_agent h2) ?_
  exact lx_same K (pc := 168) (tgt := 909) d_law_168 (by decide) (kk _ _ h3)
theorem lc_give (K : lx_K p s m meth c b L xs E) (hin : ∀ k : Int32, 1 ≤ k → k ≤ 5 → vp_in (i + k) L) (hs : sim_give Rel t C D) (kk : ∀ C2 D2 : St, Rel (t + 1) C2 D2 → lx p l e s m below meth c b E C2 D2 i 909 []) : lx p l e s m below meth c b E C D i 173 [] := by
  obtain ⟨v, C', D', h1, h2, h3⟩ := hs (xs (i + 1).toNatClampNeg) (xs (i + 2).toNatClampNeg) (xs (i + 3).toNatClampNeg)
  refine lx_this K (pc := 173) d_law_173 ?_
  refine lx_arg K (pc := 174) 1 d_law_174 d_law_175 d_law_176 (by decide) d_law_177 d_law_178 (hin 1 (by decide) (by decide)) ?_
  refine lx_arg K (pc := 179) 2 d_law_179 d_law_180 d_law_181 (by decide) d_law_182 d_law_183 (hin 2 (by decide) (by decide)) ?_
  refine lx_arg K (pc := 184) 3 d_law_184 d_law_185 d_law_186 (by decide) d_law_187 d_law_188 (hin 3 (by decide) (by decide)) ?_
  refine lx_call K (pc := 189) (M2 := M_Mk_give) (q := 0) (v := v) (C1 := C') (D1 := D) (rest := []) [.int (xs (i + 1).toNatClampNeg), .int (xs (i + 2).toNatClampNeg), .int (xs (i + 3).toNatClampNeg)] d_law_189 cd_Mk_give (by decide) lk_Lw_18 iv_Mk_give (fun _ => rc_0) (by decide) rfl rfl (Nat.le_of_ble_eq_true rfl) (Nat.le_of_ble_eq_true rfl) (r_Mk_give h1) ?_
  refine lx_that K (pc := 192) d_law_192 ?_
  refine lx_arg K (pc := 193) 1 d_law_193 d_law_194 d_law_195 (by decide) d_law_196 d_law_197 (hin 1 (by decide) (by decide)) ?_
  refine lx_arg K (pc := 198) 2 d_law_198 d_law_199 d_law_200 (by decide) d_law_201 d_law_202 (hin 2 (by decide) (by decide)) ?_
  refine lx_arg K (pc := 203) 3 d_law_203 d_law_204 d_law_205 (by decide) d_law_206 d_law_207 (hin 3 (by decide) (by decide)) ?_
  refine lx_call K (pc := 208) (M2 := M_Md_give) (q := 88) (v := v) (C1 := C') (D1 := D') (rest := [.int v]) [.int (xs (i + 1).toNatClampNeg), .int (xs (i + 2).toNatClampNeg), .int (xs (i + 3).toNatClampNeg)] d_law_208 cd_Md_give (by decide) lk_Lw_22 iv_Md_give (fun _ => rc_88) (by decide) rfl rfl (Nat.le_of_ble_eq_true rfl) (Nat.le_of_ble_eq_true rfl) (r_Md_give h2) ?_
  exact lx_same K (pc := 211) (tgt := 909) d_law_211 (by decide) (kk _ _ h3)
theorem lc_good (K : lx_K p s m meth c b L xs E) (hin : ∀ k : Int32, 1 ≤ k → k ≤ 5 → vp_in (i + k) L) (hs : sim_good Rel t C D) (kk : ∀ C2 D2 : St, Rel (t + 1) C2 D2 → lx p l e s m below meth c b E C2 D2 i 909 []) : lx p l e s m below meth c b E C D i 216 [] := by
  obtain ⟨v, C', D', h1, h2, h3⟩ := hs (xs (i + 1).toNatClampNeg) (xs (i + 2).toNatClampNeg) (xs (i + 3).toNatClampNeg)
  refine lx_this K (pc := 216) d_law_216 ?_
  refine lx_arg K (pc := 217) 1 d_law_217 d_law_218 d_law_219 (by decide) d_law_220 d_law_221 (hin 1 (by decide) (by decide)) ?_
  refine lx_arg K (pc := 222) 2 d_law_222 d_law_223 d_law_224 (by decide) d_law_225 d_law_226 (hin 2 (by decide) (by decide)) ?_
  refine lx_arg K (pc := 227) 3 d_law_227 d_law_228 d_law_229 (by decide) d_law_230 d_law_231 (hin 3 (by decide) (by decide)) ?_
  refine lx_call K (pc := 232) (M2 := M_Mk_good) (q := 0) (v := v) (C1 := C') (D1 := D) (rest := []) [.int (xs (i + 1).toNatClampNeg), .int (xs (i + 2).toNatClampNeg), .int (xs (i + 3).toNatClampNeg)] d_law_232 cd_Mk_good (by decide) lk_Lw_23 iv_Mk_good (fun _ => rc_0) (by decide) rfl rfl (Nat.le_of_ble_eq_true rfl) (Nat.le_of_ble_eq_true rfl) (r_Mk_good h1) ?_
  refine lx_that K (pc := 235) d_law_235 ?_
  refine lx_arg K (pc := 236) 1 d_law_236 d_law_237 d_law_238 (by decide) d_law_239 d_law_240 (hin 1 (by decide) (by decide)) ?_
  refine lx_arg K (pc := 241) 2 d_law_241 d_law_242 d_law_243 (by decide) d_law_244 d_law_245 (hin 2 (by decide) (by decide)) ?_
  refine lx_arg K (pc := 246) 3 d_law_246 d_law_247 d_law_248 (by decide) d_law_249 d_law_250 (hin 3 (by decide) (by decide)) ?_
  refine lx_call K (pc := 251) (M2 := M_Md_good) (q := 88) (v := v) (C1 := C') (D1 := D') (rest := [.int v]) [.int (xs (i + 1).toNatClampNeg), .int (xs (i + 2).toNatClampNeg), .int (xs (i + 3).toNatClampNeg)] d_law_251 cd_Md_good (by decide) lk_Lw_26 iv_Md_good (fun _ => rc_88) (by decide) rfl rfl (Nat.le_of_ble_eq_true rfl) (Nat.le_of_ble_eq_true rfl) (r_Md_good h2) ?_
  exact lx_same K (pc := 254) (tgt := 909) d_law_254 (by decide) (kk _ _ h3)
theorem lc_recipe (K : lx_K p s m meth c b L xs E) (hin : ∀ k : Int32, 1 ≤ k → k ≤ 5 → vp_in (i + k) L) (hs : sim_recipe Rel t C D) (kk : ∀ C2 D2 : St, Rel (t + 1) C2 D2 → lx p l e s m below meth c b E C2 D2 i 909 []) : lx p l e s m below meth c b E C D i 259 [] := by
  obtain ⟨v, C', D', h1, h2, h3⟩ := hs (xs (i + 1).toNatClampNeg) (xs (i + 2).toNatClampNeg) (xs (i + 3).toNatClampNeg) (xs (i + 4).toNatClampNeg) (xs (i + 5).toNatClampNeg)
  refine lx_this K (pc := 259) d_law_259 ?_
  refine lx_arg K (pc := 260) 1 d_law_260 d_law_261 d_law_262 (by decide) d_law_263 d_law_264 (hin 1 (by decide) (by decide)) ?_
  refine lx_arg K (pc := 265) 2 d_law_265 d_law_266 d_law_267 (by decide) d_law_268 d_law_269 (hin 2 (by decide) (by decide)) ?_
  refine lx_arg K (pc := 270) 3 d_law_270 d_law_271 d_law_272 (by decide) d_law_273 d_law_274 (hin 3 (by decide) (by decide)) ?_
  refine lx_arg K (pc := 275) 4 d_law_275 d_law_276 d_law_277 (by decide) d_law_278 d_law_279 (hin 4 (by decide) (by decide)) ?_
  refine lx_arg K (pc := 280) 5 d_law_280 d_law_281 d_law_282 (by decide) d_law_283 d_law_284 (hin 5 (by decide) (by decide)) ?_
  refine lx_call K (pc := 285) (M2 := M_Mk_recipe) (q := 0) (v := v) (C1 := C') (D1 := D) (rest := []) [.int (xs (i + 1).toNatClampNeg), .int (xs (i + 2).toNatClampNeg), .int (xs (i + 3).toNatClampNeg), .int (xs (i + 4).toNatClampNeg), .int (xs (i + 5).toNatClampNeg)] d_law_285 cd_Mk_recipe (by decide) lk_Lw_27 iv_Mk_recipe (fun _ => rc_0) (by decide) rfl rfl (Nat.le_of_ble_eq_true rfl) (Nat.le_of_ble_eq_true rfl) (r_Mk_recipe h1) ?_
  refine lx_that K (pc := 288) d_law_288 ?_
  refine lx_arg K (pc := 289) 1 d_law_289 d_law_290 d_law_291 (by decide) d_law_292 d_law_293 (hin 1 (by decide) (by decide)) ?_
  refine lx_arg K (pc := 294) 2 d_law_294 d_law_295 d_law_296 (by decide) d_law_297 d_law_298 (hin 2 (by decide) (by decide)) ?_
  refine lx_arg K (pc := 299) 3 d_law_299 d_law_300 d_law_301 (by decide) d_law_302 d_law_303 (hin 3 (by decide) (by decide)) ?_
  refine lx_arg K (pc := 304) 4 d_law_304 d_law_305 d_law_306 (by decide) d_law_307 d_law_308 (hin 4 (by decide) (by decide)) ?_
  refine lx_arg K (pc := 309) 5 d_law_309 d_law_310 d_law_311 (by decide) d_law_312 d_law_313 (hin 5 (by decide) (by decide)) ?_
  refine lx_call K (pc := 314) (M2 := M_Md_recipe) (q := 88) (v := v) (C1 := C') (D1 := D') (rest := [.int v]) [.int (xs (i + 1).toNatClampNeg), .int (xs (i + 2).toNatClampNeg), .int (xs (i + 3).toNatClampNeg), .int (xs (i + 4).toNatClampNeg), .int (xs (i + 5).toNatClampNeg)] d_law_314 cd_Md_recipe (by decide) lk_Lw_31 iv_Md_recipe (fun _ => rc_88) (by decide) rfl rfl (Nat.le_of_ble_eq_true rfl) (Nat.le_of_ble_eq_true rfl) (r_Md_recipe h2) ?_
  exact lx_same K (pc := 317) (tgt := 909) d_law_317 (by decide) (kk _ _ h3)
theorem lc_policy (K : lx_K p s m meth c b L xs E) (hin : ∀ k : Int32, 1 ≤ k → k ≤ 5 → vp_in (i + k) L) (hs : sim_policy Rel t C D) (kk : ∀ C2 D2 : St, Rel (t + 1) C2 D2 → lx p l e s m below meth c b E C2 D2 i 909 []) : lx p l e s m below meth c b E C D i 322 [] := by
  obtain ⟨v, C', D', h1, h2, h3⟩ := hs (xs (i + 1).toNatClampNeg) (xs (i + 2).toNatClampNeg)
  refine lx_this K (pc := 322) d_law_322 ?_
  refine lx_arg K (pc := 323) 1 d_law_323 d_law_324 d_law_325 (by decide) d_law_326 d_law_327 (hin 1 (by decide) (by decide)) ?_
  refine lx_arg K (pc := 328) 2 d_law_328 d_law_329 d_law_330 (by decide) d_law_331 d_law_332 (hin 2 (by decide) (by decide)) ?_
  refine lx_call K (pc := 333) (M2 := M_Mk_policy) (q := 0) (v := v) (C1 := C') (D1 := D) (rest := []) [.int (xs (i + 1).toNatClampNeg), .int (xs (i + 2).toNatClampNeg)] d_law_333 cd_Mk_policy (by decide) lk_Lw_32 iv_Mk_policy (fun _ => rc_0) (by decide) rfl rfl (Nat.le_of_ble_eq_true rfl) (Nat.le_of_ble_eq_true rfl) (r_Mk_policy h1) ?_
  refine lx_that K (pc := 336) d_law_336 ?_
  refine lx_arg K (pc := 337) 1 d_law_337 d_law_338 d_law_339 (by decide) d_law_340 d_law_341 (hin 1 (by decide) (by decide)) ?_
  refine lx_arg K (pc := 342) 2 d_law_342 d_law_343 d_law_344 (by decide) d_law_345 d_law_346 (hin 2 (by decide) (by decide)) ?_
  refine lx_call K (pc := 347) (M2 := M_Md_policy) (q := 88) (v := v) (C1 := C') (D1 := D') (rest := [.int v]) [.int (xs (i + 1).toNatClampNeg), .int (xs (i + 2).toNatClampNeg)] d_law_347 cd_Md_policy (by decide) lk_Lw_35 iv_Md_policy (fun _ => rc_88) (by decide) rfl rfl (Nat.le_of_ble_eq_true rfl) (Nat.le_of_ble_eq_true rfl) (r_Md_policy h2) ?_
  exact lx_same K (pc := 350) (tgt := 909) d_law_350 (by decide) (kk _ _ h3)
theorem lc_lots (K : lx_K p s m meth c b L xs E) (hin : ∀ k : Int32, 1 ≤ k → k ≤ 5 → vp_in (i + k) L) (hs : sim_lots Rel t C D) (kk : ∀ C2 D2 : St, Rel (t + 1) C2 D2 → lx p l e s m below meth c b E C2 D2 i 909 []) : lx p l e s m below meth c b E C D i 355 [] := by
  obtain ⟨v, C', D', h1, h2, h3⟩ := hs (xs (i + 1).toNatClampNeg)
  refine lx_this K (pc := 355) d_law_355 ?_
  refine lx_arg K (pc := 356) 1 d_law_356 d_law_357 d_law_358 (by decide) d_law_359 d_law_360 (hin 1 (by decide) (by decide)) ?_
  refine lx_call K (pc := 361) (M2 := M_Mk_lots) (q := 0) (v := v) (C1 := C') (D1 := D) (rest := []) [.int (xs (i + 1).toNatClampNeg)] d_law_361 cd_Mk_lots (by decide) lk_Lw_36 iv_Mk_lots (fun _ => rc_0) (by decide) rfl rfl (Nat.le_of_ble_eq_true rfl) (Nat.le_of_ble_eq_true rfl) (r_Mk_lots h1) ?_
  refine lx_that K (pc := 364) d_law_364 ?_
  refine lx_arg K (pc := 365) 1 d_law_365 d_law_366 d_law_367 (by decide) d_law_368 d_law_369 (hin 1 (by decide) (by decide)) ?_
  refine lx_call K (pc := 370) (M2 := M_Md_lots) (q := 88) (v := v) (C1 := C') (D1 := D') (rest := [.int v]) [.int (xs (i + 1).toNatClampNeg)] d_law_370 cd_Md_lots (by decide) lk_Lw_40 iv_Md_lots (fun _ => rc_88) (by decide) rfl rfl (Nat.le_of_ble_eq_true rfl) (Nat.le_of_ble_eq_true rfl) (r_Md_lots h2) ?_
  exact lx_same K (pc := 373) (tgt := 909) d_law_373 (by decide) (kk _ _ h3)
theorem lc_feed (K : lx_K p s m meth c b L xs E) (hin : ∀ k : Int32, 1 ≤ k → k ≤ 5 → vp_in (i + k) L) (hs : sim_feed Rel t C D) (kk : ∀ C2 D2 : St, Rel (t + 1) C2 D2 → lx p l e s m below meth c b E C2 D2 i 909 []) : lx p l e s m below meth c b E C D i 378 [] := by
  obtain ⟨v, C', D', h1, h2, h3⟩ := hs (xs (i + 1).toNatClampNeg) (xs (i + 2).toNatClampNeg) (xs (i + 3).toNatClampNeg) (xs (i + 4).toNatClampNeg) (xs (i + 5).toNatClampNeg)
  refine lx_this K (pc := 378) d_law_378 ?_
  refine lx_arg K (pc := 379) 1 d_law_379 d_law_380 d_law_381 (by decide) d_law_382 d_law_383 (hin 1 (by decide) (by decide)) ?_
  refine lx_arg K (pc := 384) 2 d_law_384 d_law_385 d_law_386 (by decide) d_law_387 d_law_388 (hin 2 (by decide) (by decide)) ?_
  refine lx_arg K (pc := 389) 3 d_law_389 d_law_390 d_law_391 (by decide) d_law_392 d_law_393 (hin 3 (by decide) (by decide)) ?_
  refine lx_arg K (pc := 394) 4 d_law_394 d_law_395 d_law_396 (by decide) d_law_397 d_law_398 (hin 4 (by decide) (by decide)) ?_
  refine lx_arg K (pc := 399) 5 d_law_399 d_law_400 d_law_401 (by decide) d_law_402 d_law_403 (hin 5 (by decide) (by decide)) ?_
  refine lx_call K (pc := 404) (M2 := M_Mk_feed) (q := 0) (v := v) (C1 := C') (D1 := D) (rest := []) [.int (xs (i + 1).toNatClampNeg), .int (xs (i + 2).toNatClampNeg), .int (xs (i + 3).toNatClampNeg), .int (xs (i + 4).toNatClampNeg), .int (xs (i + 5).toNatClampNeg)] d_law_404 cd_Mk_feed (by decide) lk_Lw_41 iv_Mk_feed (fun _ => rc_0) (by decide) rfl rfl (Nat.le_of_ble_eq_true rfl) (Nat.le_of_ble_eq_true rfl) (r_Mk_feed h1) ?_
  refine lx_that K (pc := 407) d_law_407 ?_
  refine lx_arg K (pc := 408) 1 d_law_408 d_law_409 d_law_410 (by decide) d_law_411 d_law_412 (hin 1 (by decide) (by decide)) ?_
  refine lx_arg K (pc := 413) 2 d_law_413 d_law_414 d_law_415 (by decide) d_law_416 d_law_417 (hin 2 (by decide) (by decide)) ?_
  refine lx_arg K (pc := 418) 3 d_law_418 d_law_419 d_law_420 (by decide) d_law_421 d_law_422 (hin 3 (by decide) (by decide)) ?_
  refine lx_arg K (pc := 423) 4 d_law_423 d_law_424 d_law_425 (by decide) d_law_426 d_law_427 (hin 4 (by decide) (by decide)) ?_
  refine lx_arg K (pc := 428) 5 d_law_428 d_law_429 d_law_430 (by decide) d_law_431 d_law_432 (hin 5 (by decide) (by decide)) ?_
  refine lx_call K (pc := 433) (M2 := M_Md_feed) (q := 88) (v := v) (C1 := C') (D1 := D') (rest := [.int v]) [.int (xs (i + 1).toNatClampNeg), .int (xs (i + 2).toNatClampNeg), .int (xs (i + 3).toNatClampNeg), .int (xs (i + 4).toNatClampNeg), .int (xs (i + 5).toNatClampNeg)] d_law_433 cd_Md_feed (by decide) lk_Lw_44 iv_Md_feed (fun _ => rc_88) (by decide) rfl rfl (Nat.le_of_ble_eq_true rfl) (Nat.le_of_ble_eq_true rfl) (r_Md_feed h2) ?_
  exact lx_same K (pc := 436) (tgt := 909) d_law_436 (by decide) (kk _ _ h3)
theorem lc_trim (K : lx_K p s m meth c b L xs E) (hin : ∀ k : Int32, 1 ≤ k → k ≤ 5 → vp_in (i + k) L) (hs : sim_trim Rel t C D) (kk : ∀ C2 D2 : St, Rel (t + 1) C2 D2 → lx p l e s m below meth c b E C2 D2 i 909 []) : lx p l e s m below meth c b E C D i 441 [] := by
  obtain ⟨v, C', D', h1, h2, h3⟩ := hs (xs (i + 1).toNatClampNeg)
  refine lx_this K (pc := 441) d_law_441 ?_
  refine lx_arg K (pc := 442) 1 d_law_442 d_law_443 d_law_444 (by decide) d_law_445 d_law_446 (hin 1 (by decide) (by decide)) ?_
  refine lx_call K (pc := 447) (M2 := M_Mk_trim) (q := 0) (v := v) (C1 := C') (D1 := D) (rest := []) [.int (xs (i + 1).toNatClampNeg)] d_law_447 cd_Mk_trim (by decide) lk_Lw_45 iv_Mk_trim (fun _ => rc_0) (by decide) rfl rfl (Nat.le_of_ble_eq_true rfl) (Nat.le_of_ble_eq_true rfl) (r_Mk_trim h1) ?_
  refine lx_that K (pc := 450) d_law_450 ?_
  refine lx_arg K (pc := 451) 1 d_law_451 d_law_452 d_law_453 (by decide) d_law_454 d_law_455 (hin 1 (by decide) (by decide)) ?_
  refine lx_call K (pc := 456) (M2 := M_Md_trim) (q := 88) (v := v) (C1 := C') (D1 := D') (rest := [.int v]) [.int (xs (i + 1).toNatClampNeg)] d_law_456 cd_Md_trim (by decide) lk_Lw_48 iv_Md_trim (fun _ => rc_88) (by decide) rfl rfl (Nat.le_of_ble_eq_true rfl) (Nat.le_of_ble_eq_true rfl) (r_Md_trim h2) ?_
  exact lx_same K (pc := 459) (tgt := 909) d_law_459 (by decide) (kk _ _ h3)
theorem lc_rule (K : lx_K p s m meth c b L xs E) (hin : ∀ k : Int32, 1 ≤ k → k ≤ 5 → vp_in (i + k) L) (hs : sim_rule Rel t C D) (kk : ∀ C2 D2 : St, Rel (t + 1) C2 D2 → lx p l e s m below meth c b E C2 D2 i 909 []) : lx p l e s m below meth c b E C D i 464 [] := by
  obtain ⟨v, C', D', h1, h2, h3⟩ := hs (xs (i + 1).toNatClampNeg)
  refine lx_this K (pc := 464) d_law_464 ?_
  refine lx_arg K (pc := 465) 1 d_law_465 d_law_466 d_law_467 (by decide) d_law_468 d_law_469 (hin 1 (by decide) (by decide)) ?_
  refine lx_call K (pc := 470) (M2 := M_Mk_rule) (q := 0) (v := v) (C1 := C') (D1 := D) (rest := []) [.int (xs (i + 1).toNatClampNeg)] d_law_470 cd_Mk_rule (by decide) lk_Lw_49 iv_Mk_rule (fun _ => rc_0) (by decide) rfl rfl (Nat.le_of_ble_eq_true rfl) (Nat.le_of_ble_eq_true rfl) (r_Mk_rule h1) ?_
  refine lx_that K (pc := 473) d_law_473 ?_
  refine lx_arg K (pc := 474) 1 d_law_474 d_law_475 d_law_476 (by decide) d_law_477 d_law_478 (hin 1 (by decide) (by decide)) ?_
  refine lx_call K (pc := 479) (M2 := M_Md_rule) (q := 88) (v := v) (C1 := C') (D1 := D') (rest := [.int v]) [.int (xs (i + 1).toNatClampNeg)] d_law_479 cd_Md_rule (by decide) lk_Lw_52 iv_Md_rule (fun _ => rc_88) (by decide) rfl rfl (Nat.le_of_ble_eq_true rfl) (Nat.le_of_ble_eq_true rfl) (r_Md_rule h2) ?_
  exact lx_same K (pc := 482) (tgt := 909) d_law_482 (by decide) (kk _ _ h3)
theorem lc_unrule (K : lx_K p s m meth c b L xs E) (hin : ∀ k : Int32, 1 ≤ k → k ≤ 5 → vp_in (i + k) L) (hs : sim_unrule Rel t C D) (kk : ∀ C2 D2 : St, Rel (t + 1) C2 D2 → lx p l e s m below meth c b E C2 D2 i 909 []) : lx p l e s m below meth c b E C D i 487 [] := by
  obtain ⟨v, C', D', h1, h2, h3⟩ := hs (xs (i + 1).toNatClampNeg)
  refine lx_this K (pc := 487) d_law_487 ?_
  refine lx_arg K (pc := 488) 1 d_law_488 d_law_489 d_law_490 (by decide) d_law_491 d_law_492 (hin 1 (by decide) (by decide)) ?_
  refine lx_call K (pc := 493) (M2 := M_Mk_unrule) (q := 0) (v := v) (C1 := C') (D1 := D) (rest := []) [.int (xs (i + 1).toNatClampNeg)] d_law_493 cd_Mk_unrule (by decide) lk_Lw_53 iv_Mk_unrule (fun _ => rc_0) (by decide) rfl rfl (Nat.le_of_ble_eq_true rfl) (Nat.le_of_ble_eq_true rfl) (r_Mk_unrule h1) ?_
  refine lx_that K (pc := 496) d_law_496 ?_
  refine lx_arg K (pc := 497) 1 d_law_497 d_law_498 d_law_499 (by decide) d_law_500 d_law_501 (hin 1 (by decide) (by decide)) ?_
  refine lx_call K (pc := 502) (M2 := M_Md_unrule) (q := 88) (v := v) (C1 := C') (D1 := D') (rest := [.int v]) [.int (xs (i + 1).toNatClampNeg)] d_law_502 cd_Md_unrule (by decide) lk_Lw_56 iv_Md_unrule (fun _ => rc_88) (by decide) rfl rfl (Nat.le_of_ble_eq_true rfl) (Nat.le_of_ble_eq_true rfl) (r_Md_unrule h2) ?_
  exact lx_same K (pc := 505) (tgt := 909) d_law_505 (by decide) (kk _ _ h3)
theorem lc_live (K : lx_K p s m meth c b L xs E) (hin : ∀ k : Int32, 1 ≤ k → k ≤ 5 → vp_in (i + k) L) (hs : sim_live Rel t C D) (kk : ∀ C2 D2 : St, Rel (t + 1) C2 D2 → lx p l e s m below meth c b E C2 D2 i 909 []) : lx p l e s m below meth c b E C D i 510 [] := by
  obtain ⟨v, C', D', h1, h2, h3⟩ := hs (xs (i + 1).toNatClampNeg)
  refine lx_this K (pc := 510) d_law_510 ?_
  refine lx_arg K (pc := 511) 1 d_law_511 d_law_512 d_law_513 (by decide) d_law_514 d_law_515 (hin 1 (by decide) (by decide)) ?_
  refine lx_call K (pc := 516) (M2 := M_Mk_live) (q := 0) (v := v) (C1 := C') (D1 := D) (rest := []) [.int (xs (i + 1).toNatClampNeg)] d_law_516 cd_Mk_live (by decide) lk_Lw_57 iv_Mk_live (fun _ => rc_0) (by decide) rfl rfl (Nat.le_of_ble_eq_true rfl) (Nat.le_of_ble_eq_true rfl) (r_Mk_live h1) ?_
  refine lx_that K (pc := 519) d_law_519 ?_
  refine lx_arg K (pc := 520) 1 d_law_520 d_law_521 d_law_522 (by decide) d_law_523 d_law_524 (hin 1 (by decide) (by decide)) ?_
  refine lx_call K (pc := 525) (M2 := M_Md_live) (q := 88) (v := v) (C1 := C') (D1 := D') (rest := [.int v]) [.int (xs (i + 1).toNatClampNeg)] d_law_525 cd_Md_live (by decide) lk_Lw_60 iv_Md_live (fun _ => rc_88) (by decide) rfl rfl (Nat.le_of_ble_eq_true rfl) (Nat.le_of_ble_eq_true rfl) (r_Md_live h2) ?_
  exact lx_same K (pc := 528) (tgt := 909) d_law_528 (by decide) (kk _ _ h3)
theorem lc_about (K : lx_K p s m meth c b L xs E) (hin : ∀ k : Int32, 1 ≤ k → k ≤ 5 → vp_in (i + k) L) (hs : sim_about Rel t C D) (kk : ∀ C2 D2 : St, Rel (t + 1) C2 D2 → lx p l e s m below meth c b E C2 D2 i 909 []) : lx p l e s m below meth c b E C D i 533 [] := by
  obtain ⟨v, h1, h2, h3⟩ := hs (xs (i + 1).toNatClampNeg) (xs (i + 2).toNatClampNeg)
  refine lx_this K (pc := 533) d_law_533 ?_
  refine lx_arg K (pc := 534) 1 d_law_534 d_law_535 d_law_536 (by decide) d_law_537 d_law_538 (hin 1 (by decide) (by decide)) ?_
  refine lx_arg K (pc := 539) 2 d_law_539 d_law_540 d_law_541 (by decide) d_law_542 d_law_543 (hin 2 (by decide) (by decide)) ?_
  refine lx_call K (pc := 544) (M2 := M_Mk_about) (q := 0) (v := v) (C1 := C) (D1 := D) (rest := []) [.int (xs (i + 1).toNatClampNeg), .int (xs (i + 2).toNatClampNeg)] d_law_544 cd_Mk_about (by decide) lk_Lw_61 iv_Mk_about (fun _ => rc_0) (by decide) rfl rfl (Nat.le_of_ble_eq_true rfl) (Nat.le_of_ble_eq_true rfl) (r_Mk_about h1) ?_
  refine lx_that K (pc := 547) d_law_547 ?_
  refine lx_arg K (pc := 548) 1 d_law_548 d_law_549 d_law_550 (by decide) d_law_551 d_law_552 (hin 1 (by decide) (by decide)) ?_
  refine lx_arg K (pc := 553) 2 d_law_553 d_law_554 d_law_555 (by decide) d_law_556 d_law_557 (hin 2 (by decide) (by decide)) ?_
  refine lx_call K (pc := 558) (M2 := M_Md_about) (q := 88) (v := v) (C1 := C) (D1 := D) (rest := [.int v]) [.int (xs (i + 1).toNatClampNeg), .int (xs (i + 2).toNatClampNeg)] d_law_558 cd_Md_about (by decide) lk_Lw_64 iv_Md_about (fun _ => rc_88) (by decide) rfl rfl (Nat.le_of_ble_eq_true rfl) (Nat.le_of_ble_eq_true rfl) (r_Md_about h2) ?_
  exact lx_same K (pc := 561) (tgt := 909) d_law_561 (by decide) (kk _ _ h3)
theorem lc_isOf (K : lx_K p s m meth c b L xs E) (hin : ∀ k : Int32, 1 ≤ k → k ≤ 5 → vp_in (i + k) L) (hs : sim_isOf Rel t C D) (kk : ∀ C2 D2 : St, Rel (t + 1) C2 D2 → lx p l e s m below meth c b E C2 D2 i 909 []) : lx p l e s m below meth c b E C D i 566 [] := by
  obtain ⟨v, h1, h2, h3⟩ := hs (xs (i + 1).toNatClampNeg) (xs (i + 2).toNatClampNeg)
  refine lx_this K (pc := 566) d_law_566 ?_
  refine lx_arg K (pc := 567) 1 d_law_567 d_law_568 d_law_569 (by decide) d_law_570 d_law_571 (hin 1 (by decide) (by decide)) ?_
  refine lx_arg K (pc := 572) 2 d_law_572 d_law_573 d_law_574 (by decide) d_law_575 d_law_576 (hin 2 (by decide) (by decide)) ?_
  refine lx_call K (pc := 577) (M2 := M_Mk_isOf) (q := 0) (v := v) (C1 := C) (D1 := D) (rest := []) [.int (xs (i + 1).toNatClampNeg), .int (xs (i + 2).toNatClampNeg)] d_law_577 cd_Mk_isOf (by decide) lk_Lw_65 iv_Mk_isOf (fun _ => rc_0) (by decide) rfl rfl (Nat.le_of_ble_eq_true rfl) (Nat.le_of_ble_eq_true rfl) (r_Mk_isOf h1) ?_
  refine lx_that K (pc := 580) d_law_580 ?_
  refine lx_arg K (pc := 581) 1 d_law_581 d_law_582 d_law_583 (by decide) d_law_584 d_law_585 (hin 1 (by decide) (by decide)) ?_
  refine lx_arg K (pc := 586) 2 d_law_586 d_law_587 d_law_588 (by decide) d_law_589 d_law_590 (hin 2 (by decide) (by decide)) ?_
  refine lx_call K (pc := 591) (M2 := M_Md_isOf) (q := 88) (v := v) (C1 := C) (D1 := D) (rest := [.int v]) [.int (xs (i + 1).toNatClampNeg), .int (xs (i + 2).toNatClampNeg)] d_law_591 cd_Md_isOf (by decide) lk_Lw_68 iv_Md_isOf (fun _ => rc_88) (by decide) rfl rfl (Nat.le_of_ble_eq_true rfl) (Nat.le_of_ble_eq_true rfl) (r_Md_isOf h2) ?_
  exact lx_same K (pc := 594) (tgt := 909) d_law_594 (by decide) (kk _ _ h3)
theorem lc_has (K : lx_K p s m meth c b L xs E) (hin : ∀ k : Int32, 1 ≤ k → k ≤ 5 → vp_in (i + k) L) (hs : sim_has Rel t C D) (kk : ∀ C2 D2 : St, Rel (t + 1) C2 D2 → lx p l e s m below meth c b E C2 D2 i 909 []) : lx p l e s m below meth c b E C D i 599 [] := by
  obtain ⟨v, h1, h2, h3⟩ := hs (xs (i + 1).toNatClampNeg) (xs (i + 2).toNatClampNeg) (xs (i + 3).toNatClampNeg)
  refine lx_this K (pc := 599) d_law_599 ?_
  refine lx_arg K (pc := 600) 1 d_law_600 d_law_601 d_law_602 (by decide) d_law_603 d_law_604 (hin 1 (by decide) (by decide)) ?_
  refine lx_arg K (pc := 605) 2 d_law_605 d_law_606 d_law_607 (by decide) d_law_608 d_law_609 (hin 2 (by decide) (by decide)) ?_
  refine lx_arg K (pc := 610) 3 d_law_610 d_law_611 d_law_612 (by decide) d_law_613 d_law_614 (hin 3 (by decide) (by decide)) ?_
  refine lx_call K (pc := 615) (M2 := M_Mk_has) (q := 0) (v := v) (C1 := C) (D1 := D) (rest := []) [.int (xs (i + 1).toNatClampNeg), .int (xs (i + 2).toNatClampNeg), .int (xs (i + 3).toNatClampNeg)] d_law_615 cd_Mk_has (by decide) lk_Lw_69 iv_Mk_has (fun _ => rc_0) (by decide) rfl rfl (Nat.le_of_ble_eq_true rfl) (Nat.le_of_ble_eq_true rfl) (r_Mk_has h1) ?_
  refine lx_that K (pc := 618) d_law_618 ?_
  refine lx_arg K (pc := 619) 1 d_law_619 d_law_620 d_law_621 (by decide) d_law_622 d_law_623 (hin 1 (by decide) (by decide)) ?_
  refine lx_arg K (pc := 624) 2 d_law_624 d_law_625 d_law_626 (by decide) d_law_627 d_law_628 (hin 2 (by decide) (by decide)) ?_
  refine lx_arg K (pc := 629) 3 d_law_629 d_law_630 d_law_631 (by decide) d_law_632 d_law_633 (hin 3 (by decide) (by decide)) ?_
  refine lx_call K (pc := 634) (M2 := M_Md_has) (q := 88) (v := v) (C1 := C) (D1 := D) (rest := [.int v]) [.int (xs (i + 1).toNatClampNeg), .int (xs (i + 2).toNatClampNeg), .int (xs (i + 3).toNatClampNeg)] d_law_634 cd_Md_has (by decide) lk_Lw_72 iv_Md_has (fun _ => rc_88) (by decide) rfl rfl (Nat.le_of_ble_eq_true rfl) (Nat.le_of_ble_eq_true rfl) (r_Md_has h2) ?_
  exact lx_same K (pc := 637) (tgt := 909) d_law_637 (by decide) (kk _ _ h3)
theorem lc_told (K : lx_K p s m meth c b L xs E) (hin : ∀ k : Int32, 1 ≤ k → k ≤ 5 → vp_in (i + k) L) (hs : sim_told Rel t C D) (kk : ∀ C2 D2 : St, Rel (t + 1) C2 D2 → lx p l e s m below meth c b E C2 D2 i 909 []) : lx p l e s m below meth c b E C D i 642 [] := by
  obtain ⟨v, h1, h2, h3⟩ := hs (xs (i + 1).toNatClampNeg) (xs (i + 2).toNatClampNeg) (xs (i + 3).toNatClampNeg)
  refine lx_this K (pc := 642) d_law_642 ?_
  refine lx_arg K (pc := 643) 1 d_law_643 d_law_644 d_law_645 (by decide) d_law_646 d_law_647 (hin 1 (by decide) (by decide)) ?_
  refine lx_arg K (pc := 648) 2 d_law_648 d_law_649 d_law_650 (by decide) d_law_651 d_law_652 (hin 2 (by decide) (by decide)) ?_
  refine lx_arg K (pc := 653) 3 d_law_653 d_law_654 d_law_655 (by decide) d_law_656 d_law_657 (hin 3 (by decide) (by decide)) ?_
  refine lx_call K (pc := 658) (M2 := M_Mk_told) (q := 0) (v := v) (C1 := C) (D1 := D) (rest := []) [.int (xs (i + 1).toNatClampNeg), .int (xs (i + 2).toNatClampNeg), .int (xs (i + 3).toNatClampNeg)] d_law_658 cd_Mk_told (by decide) lk_Lw_73 iv_Mk_told (fun _ => rc_0) (by decide) rfl rfl (Nat.le_of_ble_eq_true rfl) (Nat.le_of_ble_eq_true rfl) (r_Mk_told h1) ?_
  refine lx_that K (pc := 661) d_law_661 ?_
  refine lx_arg K (pc := 662) 1 d_law_662 d_law_663 d_law_664 (by decide) d_law_665 d_law_666 (hin 1 (by decide) (by decide)) ?_
  refine lx_arg K (pc := 667) 2 d_law_667 d_law_668 d_law_669 (by decide) d_law_670 d_law_671 (hin 2 (by decide) (by decide)) ?_
  refine lx_arg K (pc := 672) 3 d_law_672 d_law_673 d_law_674 (by decide) d_law_675 d_law_676 (hin 3 (by decide) (by decide)) ?_
  refine lx_call K (pc := 677) (M2 := M_Md_told) (q := 88) (v := v) (C1 := C) (D1 := D) (rest := [.int v]) [.int (xs (i + 1).toNatClampNeg), .int (xs (i + 2).toNatClampNeg), .int (xs (i + 3).toNatClampNeg)] d_law_677 cd_Md_told (by decide) lk_Lw_76 iv_Md_told (fun _ => rc_88) (by decide) rfl rfl (Nat.le_of_ble_eq_true rfl) (Nat.le_of_ble_eq_true rfl) (r_Md_told h2) ?_
  exact lx_same K (pc := 680) (tgt := 909) d_law_680 (by decide) (kk _ _ h3)
theorem lc_goods (K : lx_K p s m meth c b L xs E) (hin : ∀ k : Int32, 1 ≤ k → k ≤ 5 → vp_in (i + k) L) (hs : sim_goods Rel t C D) (kk : ∀ C2 D2 : St, Rel (t + 1) C2 D2 → lx p l e s m below meth c b E C2 D2 i 909 []) : lx p l e s m below meth c b E C D i 685 [] := by
  obtain ⟨v, h1, h2, h3⟩ := hs (xs (i + 1).toNatClampNeg) (xs (i + 2).toNatClampNeg)
  refine lx_this K (pc := 685) d_law_685 ?_
  refine lx_arg K (pc := 686) 1 d_law_686 d_law_687 d_law_688 (by decide) d_law_689 d_law_690 (hin 1 (by decide) (by decide)) ?_
  refine lx_arg K (pc := 691) 2 d_law_691 d_law_692 d_law_693 (by decide) d_law_694 d_law_695 (hin 2 (by decide) (by decide)) ?_
  refine lx_call K (pc := 696) (M2 := M_Mk_goods) (q := 0) (v := v) (C1 := C) (D1 := D) (rest := []) [.int (xs (i + 1).toNatClampNeg), .int (xs (i + 2).toNatClampNeg)] d_law_696 cd_Mk_goods (by decide) lk_Lw_77 iv_Mk_goods (fun _ => rc_0) (by decide) rfl rfl (Nat.le_of_ble_eq_true rfl) (Nat.le_of_ble_eq_true rfl) (r_Mk_goods h1) ?_
  refine lx_that K (pc := 699) d_law_699 ?_
  refine lx_arg K (pc := 700) 1 d_law_700 d_law_701 d_law_702 (by decide) d_law_703 d_law_704 (hin 1 (by decide) (by decide)) ?_
  refine lx_arg K (pc := 705) 2 d_law_705 d_law_706 d_law_707 (by decide) d_law_708 d_law_709 (hin 2 (by decide) (by decide)) ?_
  refine lx_call K (pc := 710) (M2 := M_Md_goods) (q := 88) (v := v) (C1 := C) (D1 := D) (rest := [.int v]) [.int (xs (i + 1).toNatClampNeg), .int (xs (i + 2).toNatClampNeg)] d_law_710 cd_Md_goods (by decide) lk_Lw_80 iv_Md_goods (fun _ => rc_88) (by decide) rfl rfl (Nat.le_of_ble_eq_true rfl) (Nat.le_of_ble_eq_true rfl) (r_Md_goods h2) ?_
  exact lx_same K (pc := 713) (tgt := 909) d_law_713 (by decide) (kk _ _ h3)
theorem lc_paid (K : lx_K p s m meth c b L xs E) (hin : ∀ k : Int32, 1 ≤ k → k ≤ 5 → vp_in (i + k) L) (hs : sim_paid Rel t C D) (kk : ∀ C2 D2 : St, Rel (t + 1) C2 D2 → lx p l e s m below meth c b E C2 D2 i 909 []) : lx p l e s m below meth c b E C D i 718 [] := by
  obtain ⟨v, h1, h2, h3⟩ := hs (xs (i + 1).toNatClampNeg) (xs (i + 2).toNatClampNeg) (xs (i + 3).toNatClampNeg)
  refine lx_this K (pc := 718) d_law_718 ?_
  refine lx_arg K (pc := 719) 1 d_law_719 d_law_720 d_law_721 (by decide) d_law_722 d_law_723 (hin 1 (by decide) (by decide)) ?_
  refine lx_arg K (pc := 724) 2 d_law_724 d_law_725 d_law_726 (by decide) d_law_727 d_law_728 (hin 2 (by decide) (by decide)) ?_
  refine lx_arg K (pc := 729) 3 d_law_729 d_law_730 d_law_731 (by decide) d_law_732 d_law_733 (hin 3 (by decide) (by decide)) ?_
  refine lx_call K (pc := 734) (M2 := M_Mk_paid) (q := 0) (v := v) (C1 := C) (D1 := D) (rest := []) [.int (xs (i + 1).toNatClampNeg), .int (xs (i + 2).toNatClampNeg), .int (xs (i + 3).toNatClampNeg)] d_law_734 cd_Mk_paid (by decide) lk_Lw_81 iv_Mk_paid (fun _ => rc_0) (by decide) rfl rfl (Nat.le_of_ble_eq_true rfl) (Nat.le_of_ble_eq_true rfl) (r_Mk_paid h1) ?_
  refine lx_that K (pc := 737) d_law_737 ?_
  refine lx_arg K (pc := 738) 1 d_law_738 d_law_739 d_law_740 (by decide) d_law_741 d_law_742 (hin 1 (by decide) (by decide)) ?_
  refine lx_arg K (pc := 743) 2 d_law_743 d_law_744 d_law_745 (by decide) d_law_746 d_law_747 (hin 2 (by decide) (by decide)) ?_
  refine lx_arg K (pc := 748) 3 d_law_748 d_law_749 d_law_750 (by decide) d_law_751 d_law_752 (hin 3 (by decide) (by decide)) ?_
  refine lx_call K (pc := 753) (M2 := M_Md_paid) (q := 88) (v := v) (C1 := C) (D1 := D) (rest := [.int v]) [.int (xs (i + 1).toNatClampNeg), .int (xs (i + 2).toNatClampNeg), .int (xs (i + 3).toNatClampNeg)] d_law_753 cd_Md_paid (by decide) lk_Lw_84 iv_Md_paid (fun _ => rc_88) (by decide) rfl rfl (Nat.le_of_ble_eq_true rfl) (Nat.le_of_ble_eq_true rfl) (r_Md_paid h2) ?_
  exact lx_same K (pc := 756) (tgt := 909) d_law_756 (by decide) (kk _ _ h3)
theorem lc_loan (K : lx_K p s m meth c b L xs E) (hin : ∀ k : Int32, 1 ≤ k → k ≤ 5 → vp_in (i + k) L) (hs : sim_loan Rel t C D) (kk : ∀ C2 D2 : St, Rel (t + 1) C2 D2 → lx p l e s m below meth c b E C2 D2 i 909 []) : lx p l e s m below meth c b E C D i 761 [] := by
  obtain ⟨v, h1, h2, h3⟩ := hs (xs (i + 1).toNatClampNeg) (xs (i + 2).toNatClampNeg)
  refine lx_this K (pc := 761) d_law_761 ?_
  refine lx_arg K (pc := 762) 1 d_law_762 d_law_763 d_law_764 (by decide) d_law_765 d_law_766 (hin 1 (by decide) (by decide)) ?_
  refine lx_arg K (pc := 767) 2 d_law_767 d_law_768 d_law_769 (by decide) d_law_770 d_law_771 (hin 2 (by decide) (by decide)) ?_
  refine lx_call K (pc := 772) (M2 := M_Mk_loan) (q := 0) (v := v) (C1 := C) (D1 := D) (rest := []) [.int (xs (i + 1).toNatClampNeg), .int (xs (i + 2).toNatClampNeg)] d_law_772 cd_Mk_loan (by decide) lk_Lw_85 iv_Mk_loan (fun _ => rc_0) (by decide) rfl rfl (Nat.le_of_ble_eq_true rfl) (Nat.le_of_ble_eq_true rfl) (r_Mk_loan h1) ?_
  refine lx_that K (pc := 775) d_law_775 ?_
  refine lx_arg K (pc := 776) 1 d_law_776 d_law_777 d_law_778 (by decide) d_law_779 d_law_780 (hin 1 (by decide) (by decide)) ?_
  refine lx_arg K (pc := 781) 2 d_law_781 d_law_782 d_law_783 (by decide) d_law_784 d_law_785 (hin 2 (by decide) (by decide)) ?_
  refine lx_call K (pc := 786) (M2 := M_Md_loan) (q := 88) (v := v) (C1 := C) (D1 := D) (rest := [.int v]) [.int (xs (i + 1).toNatClampNeg), .int (xs (i + 2).toNatClampNeg)] d_law_786 cd_Md_loan (by decide) lk_Lw_88 iv_Md_loan (fun _ => rc_88) (by decide) rfl rfl (Nat.le_of_ble_eq_true rfl) (Nat.le_of_ble_eq_true rfl) (r_Md_loan h2) ?_
  exact lx_same K (pc := 789) (tgt := 909) d_law_789 (by decide) (kk _ _ h3)
theorem lc_median (K : lx_K p s m meth c b L xs E) (hin : ∀ k : Int32, 1 ≤ k → k ≤ 5 → vp_in (i + k) L) (hs : sim_median Rel t C D) (kk : ∀ C2 D2 : St, Rel (t + 1) C2 D2 → lx p l e s m below meth c b E C2 D2 i 909 []) : lx p l e s m below meth c b E C D i 794 [] := by
  obtain ⟨v, h1, h2, h3⟩ := hs (xs (i + 1).toNatClampNeg)
  refine lx_this K (pc := 794) d_law_794 ?_
  refine lx_arg K (pc := 795) 1 d_law_795 d_law_796 d_law_797 (by decide) d_law_798 d_law_799 (hin 1 (by decide) (by decide)) ?_
  refine lx_call K (pc := 800) (M2 := M_Mk_median) (q := 0) (v := v) (C1 := C) (D1 := D) (rest := []) [.int (xs (i + 1).toNatClampNeg)] d_law_800 cd_Mk_median (by decide) lk_Lw_89 iv_Mk_median (fun _ => rc_0) (by decide) rfl rfl (Nat.le_of_ble_eq_true rfl) (Nat.le_of_ble_eq_true rfl) (r_Mk_median h1) ?_
  refine lx_that K (pc := 803) d_law_803 ?_
  refine lx_arg K (pc := 804) 1 d_law_804 d_law_805 d_law_806 (by decide) d_law_807 d_law_808 (hin 1 (by decide) (by decide)) ?_
  refine lx_call K (pc := 809) (M2 := M_Md_median) (q := 88) (v := v) (C1 := C) (D1 := D) (rest := [.int v]) [.int (xs (i + 1).toNatClampNeg)] d_law_809 cd_Md_median (by decide) lk_Lw_92 iv_Md_median (fun _ => rc_88) (by decide) rfl rfl (Nat.le_of_ble_eq_true rfl) (Nat.le_of_ble_eq_true rfl) (r_Md_median h2) ?_
  exact lx_same K (pc := 812) (tgt := 909) d_law_812 (by decide) (kk _ _ h3)
theorem lc_save (K : lx_K p s m meth c b L xs E) (hin : ∀ k : Int32, 1 ≤ k → k ≤ 5 → vp_in (i + k) L) (hs : sim_save Rel t C D) (kk : ∀ C2 D2 : St, Rel (t + 1) C2 D2 → lx p l e s m below meth c b E C2 D2 i 909 []) : lx p l e s m below meth c b E C D i 817 [] := by
  obtain ⟨v, C', D', h1, h2, h3⟩ := hs (xs (i + 1).toNatClampNeg)
  refine lx_this K (pc := 817) d_law_817 ?_
  refine lx_arg K (pc := 818) 1 d_law_818 d_law_819 d_law_820 (by decide) d_law_821 d_law_822 (hin 1 (by decide) (by decide)) ?_
  refine lx_call K (pc := 823) (M2 := M_Mk_save) (q := 0) (v := v) (C1 := C') (D1 := D) (rest := []) [.int (xs (i + 1).toNatClampNeg)] d_law_823 cd_Mk_save (by decide) lk_Lw_93 iv_Mk_save (fun _ => rc_0) (by decide) rfl rfl (Nat.le_of_ble_eq_true rfl) (Nat.le_of_ble_eq_true rfl) (r_Mk_save h1) ?_
  refine lx_that K (pc := 826) d_law_826 ?_
  refine lx_arg K (pc := 827) 1 d_law_827 d_law_828 d_law_829 (by decide) d_law_830 d_law_831 (hin 1 (by decide) (by decide)) ?_
  refine lx_call K (pc := 832) (M2 := M_Md_save) (q := 88) (v := v) (C1 := C') (D1 := D') (rest := [.int v]) [.int (xs (i + 1).toNatClampNeg)] d_law_832 cd_Md_save (by decide) lk_Lw_96 iv_Md_save (fun _ => rc_88) (by decide) rfl rfl (Nat.le_of_ble_eq_true rfl) (Nat.le_of_ble_eq_true rfl) (r_Md_save h2) ?_
  exact lx_same K (pc := 835) (tgt := 909) d_law_835 (by decide) (kk _ _ h3)
theorem lc_load (K : lx_K p s m meth c b L xs E) (hin : ∀ k : Int32, 1 ≤ k → k ≤ 5 → vp_in (i + k) L) (hs : sim_load Rel t C D) (kk : ∀ C2 D2 : St, Rel (t + 1) C2 D2 → lx p l e s m below meth c b E C2 D2 i 909 []) : lx p l e s m below meth c b E C D i 840 [] := by
  obtain ⟨v, C', D', h1, h2, h3⟩ := hs (xs (i + 1).toNatClampNeg)
  refine lx_this K (pc := 840) d_law_840 ?_
  refine lx_arg K (pc := 841) 1 d_law_841 d_law_842 d_law_843 (by decide) d_law_844 d_law_845 (hin 1 (by decide) (by decide)) ?_
  refine lx_call K (pc := 846) (M2 := M_Mk_load) (q := 0) (v := v) (C1 := C') (D1 := D) (rest := []) [.int (xs (i + 1).toNatClampNeg)] d_law_846 cd_Mk_load (by decide) lk_Lw_97 iv_Mk_load (fun _ => rc_0) (by decide) rfl rfl (Nat.le_of_ble_eq_true rfl) (Nat.le_of_ble_eq_true rfl) (r_Mk_load h1) ?_
  refine lx_that K (pc := 849) d_law_849 ?_
  refine lx_arg K (pc := 850) 1 d_law_850 d_law_851 d_law_852 (by decide) d_law_853 d_law_854 (hin 1 (by decide) (by decide)) ?_
  refine lx_call K (pc := 855) (M2 := M_Md_load) (q := 88) (v := v) (C1 := C') (D1 := D') (rest := [.int v]) [.int (xs (i + 1).toNatClampNeg)] d_law_855 cd_Md_load (by decide) lk_Lw_100 iv_Md_load (fun _ => rc_88) (by decide) rfl rfl (Nat.le_of_ble_eq_true rfl) (Nat.le_of_ble_eq_true rfl) (r_Md_load h2) ?_
  exact lx_same K (pc := 858) (tgt := 909) d_law_858 (by decide) (kk _ _ h3)
theorem lc_differs (K : lx_K p s m meth c b L xs E) (hin : ∀ k : Int32, 1 ≤ k → k ≤ 5 → vp_in (i + k) L) (hs : sim_differs Rel t C D) (kk : ∀ C2 D2 : St, Rel (t + 1) C2 D2 → lx p l e s m below meth c b E C2 D2 i 909 []) : lx p l e s m below meth c b E C D i 863 [] := by
  obtain ⟨v, h1, h2, h3⟩ := hs (xs (i + 1).toNatClampNeg)
  refine lx_this K (pc := 863) d_law_863 ?_
  refine lx_arg K (pc := 864) 1 d_law_864 d_law_865 d_law_866 (by decide) d_law_867 d_law_868 (hin 1 (by decide) (by decide)) ?_
  refine lx_call K (pc := 869) (M2 := M_Mk_differs) (q := 0) (v := v) (C1 := C) (D1 := D) (rest := []) [.int (xs (i + 1).toNatClampNeg)] d_law_869 cd_Mk_differs (by decide) lk_Lw_101 iv_Mk_differs (fun _ => rc_0) (by decide) rfl rfl (Nat.le_of_ble_eq_true rfl) (Nat.le_of_ble_eq_true rfl) (r_Mk_differs h1) ?_
  refine lx_that K (pc := 872) d_law_872 ?_
  refine lx_arg K (pc := 873) 1 d_law_873 d_law_874 d_law_875 (by decide) d_law_876 d_law_877 (hin 1 (by decide) (by decide)) ?_
  refine lx_call K (pc := 878) (M2 := M_Md_differs) (q := 88) (v := v) (C1 := C) (D1 := D) (rest := [.int v]) [.int (xs (i + 1).toNatClampNeg)] d_law_878 cd_Md_differs (by decide) lk_Lw_104 iv_Md_differs (fun _ => rc_88) (by decide) rfl rfl (Nat.le_of_ble_eq_true rfl) (Nat.le_of_ble_eq_true rfl) (r_Md_differs h2) ?_
  exact lx_same K (pc := 881) (tgt := 909) d_law_881 (by decide) (kk _ _ h3)
theorem lc_count (K : lx_K p s m meth c b L xs E) (hin : ∀ k : Int32, 1 ≤ k → k ≤ 5 → vp_in (i + k) L) (hs : sim_count Rel t C D) (kk : ∀ C2 D2 : St, Rel (t + 1) C2 D2 → lx p l e s m below meth c b E C2 D2 i 909 []) : lx p l e s m below meth c b E C D i 886 [] := by
  obtain ⟨v, h1, h2, h3⟩ := hs (xs (i + 1).toNatClampNeg)
  refine lx_this K (pc := 886) d_law_886 ?_
  refine lx_arg K (pc := 887) 1 d_law_887 d_law_888 d_law_889 (by decide) d_law_890 d_law_891 (hin 1 (by decide) (by decide)) ?_
  refine lx_call K (pc := 892) (M2 := M_Mk_count) (q := 0) (v := v) (C1 := C) (D1 := D) (rest := []) [.int (xs (i + 1).toNatClampNeg)] d_law_892 cd_Mk_count (by decide) lk_Lw_105 iv_Mk_count (fun _ => rc_0) (by decide) rfl rfl (Nat.le_of_ble_eq_true rfl) (Nat.le_of_ble_eq_true rfl) (r_Mk_count h1) ?_
  refine lx_that K (pc := 895) d_law_895 ?_
  refine lx_arg K (pc := 896) 1 d_law_896 d_law_897 d_law_898 (by decide) d_law_899 d_law_900 (hin 1 (by decide) (by decide)) ?_
  refine lx_call K (pc := 901) (M2 := M_Md_count) (q := 88) (v := v) (C1 := C) (D1 := D) (rest := [.int v]) [.int (xs (i + 1).toNatClampNeg)] d_law_901 cd_Md_count (by decide) lk_Lw_108 iv_Md_count (fun _ => rc_88) (by decide) rfl rfl (Nat.le_of_ble_eq_true rfl) (Nat.le_of_ble_eq_true rfl) (r_Md_count h2) ?_
  exact lx_same K (pc := 904) (tgt := 909) d_law_904 (by decide) (kk _ _ h3)
end LY
