abbrev sTm (i : Nat) : Term := Term.string "MarketTown$RuleReader" (kSix.getD i 0)
theorem st_ne {P : Cond → Prop} (hs : ∀ c ∈ flatC (Jvm.Cond.and given_1 narrow_1), P c) : ∀ i j : Nat, i < j → j < 14 → P (Cond.not (Cond.eq (sTm i) (sTm j))) := by
  intro i j hij hj
  have key : ∀ q ∈ (List.range 14).flatMap (fun j => (List.range j).map (fun i => Cond.not (Cond.eq (sTm i) (sTm j)))), q ∈ flatC (Jvm.Cond.and given_1 narrow_1) := by decide +kernel
  exact hs _ (key _ (List.mem_flatMap.mpr ⟨j, List.mem_range.mpr hj, List.mem_map.mpr ⟨i, List.mem_range.mpr hij, rfl⟩⟩))
theorem st_ex : ∀ i : Nat, i < 14 → Cond.exactly (sTm i) "java/lang/String" ∈ flatC (Jvm.Cond.and given_1 narrow_1) := by
  intro i hi
  have key : ∀ q ∈ (List.range 14).map (fun i => Cond.exactly (sTm i) "java/lang/String"), q ∈ flatC (Jvm.Cond.and given_1 narrow_1) := by decide +kernel
  exact key _ (List.mem_map.mpr ⟨i, List.mem_range.mpr hi, rfl⟩)
theorem st_co : ∀ i : Nat, i < 14 → Cond.eq (.field (sTm i) "java/lang/String" "coder" "B") (.int 0) ∈ flatC (Jvm.Cond.and given_1 narrow_1) := by
  intro i hi
  have key : ∀ q ∈ (List.range 14).map (fun i => Cond.eq (.field (sTm i) "java/lang/String" "coder" "B") (.int 0)), q ∈ flatC (Jvm.Cond.and given_1 narrow_1) := by decide +kernel
  exact key _ (List.mem_map.mpr ⟨i, List.mem_range.mpr hi, rfl⟩)
theorem st_ar : ∀ i : Nat, i < 14 → Cond.arrayOf (.field (sTm i) "java/lang/String" "value" "[B") .byte ∈ flatC (Jvm.Cond.and given_1 narrow_1) := by
  intro i hi
  have key : ∀ q ∈ (List.range 14).map (fun i => Cond.arrayOf (.field (sTm i) "java/lang/String" "value" "[B") .byte), q ∈ flatC (Jvm.Cond.and given_1 narrow_1) := by decide +kernel
  exact key _ (List.mem_map.mpr ⟨i, List.mem_range.mpr hi, rfl⟩)
theorem st_le : ∀ i : Nat, i < 14 → Cond.eq (.length (.field (sTm i) "java/lang/String" "value" "[B")) (.int (Int32.ofNat (kSln.getD i 0))) ∈ flatC (Jvm.Cond.and given_1 narrow_1) := by
  intro i hi
  have key : ∀ q ∈ (List.range 14).map (fun i => Cond.eq (.length (.field (sTm i) "java/lang/String" "value" "[B")) (.int (Int32.ofNat (kSln.getD i 0)))), q ∈ flatC (Jvm.Cond.and given_1 narrow_1) := by decide +kernel
  exact key _ (List.mem_map.mpr ⟨i, List.mem_range.mpr hi, rfl⟩)
theorem st_el : ∀ i : Nat, i < 14 → ∀ j : Nat, j < kSln.getD i 0 → Cond.eq (.elem (.field (sTm i) "java/lang/String" "value" "[B") (.int (Int32.ofNat j))) (.int ((kSby.getD i []).getD j 0)) ∈ flatC (Jvm.Cond.and given_1 narrow_1) := by
  intro i hi j hj
  have key : ∀ q ∈ (List.range 14).flatMap (fun i => (List.range (kSln.getD i 0)).map (fun j => Cond.eq (.elem (.field (sTm i) "java/lang/String" "value" "[B") (.int (Int32.ofNat j))) (.int ((kSby.getD i []).getD j 0)))), q ∈ flatC (Jvm.Cond.and given_1 narrow_1) := by decide +kernel
  exact key _ (List.mem_flatMap.mpr ⟨i, List.mem_range.mpr hi, List.mem_map.mpr ⟨j, List.mem_range.mpr hj, rfl⟩⟩)
theorem st_rf : ∀ i : Nat, i < 14 → Cond.stringRef "MarketTown$RuleReader" (kSix.getD i 0) (kStx.getD i "") ∈ lw_tbl := by
  intro i hi
  have key : ∀ q ∈ (List.range 14).map (fun i => Cond.stringRef "MarketTown$RuleReader" (kSix.getD i 0) (kStx.getD i "")), q ∈ lw_tbl := by decide +kernel
  exact key _ (List.mem_map.mpr ⟨i, List.mem_range.mpr hi, rfl⟩)
theorem st_nw : ∀ q ∈ kNest, Cond.methodLinkNest q.1 q.2.1 q.2.2.1 q.2.2.2 ∈ lw_tbl := by decide +kernel
