set_option maxHeartbeats 4000000 in
/-- what holds of every state of the run holds at the law's entry -/
theorem start_G {p : Program} {s : State} {m : MethodId} {meth : Method} {c : Code} {b L : Nat} {xs : Nat → Int32} (C0 : lw_At p s m meth c b L xs) : ∃ E : mj_E, mj_G E s ∧ E.2.2.1 = s.heap.size := by
  obtain ⟨hx, hb, hr, hml, hown, hts, hX, hbl, hlocks, hgv⟩ := C0
  have hs := flat_of_before _ hgv
  have htb : ∀ w ∈ TB, w.before #[Value.ref b] s = true := fun w hw => hts w (List.mem_filter.mp hw).1
  have hA : ∀ a : Nat, a < s.heap.size → ¬ (fun q : Nat => s.heap.size ≤ q) a := fun a h => Nat.not_le.mpr h
  obtain ⟨c0, iS0, hKn0⟩ := u_known (C := "MarketTown") (T := kT0) (N := 6) (n := 6) htb kW0 (htb (.instantiable "MarketTown" 6) (tb_at 98 (by decide +kernel) (by decide +kernel)))
  obtain ⟨c1, iS1, hKn1⟩ := u_known (C := "MarketTown$Day") (T := kT1) (N := 2) (n := 2) htb kW1 (htb (.instantiable "MarketTown$Day" 2) (tb_at 274 (by decide +kernel) (by decide +kernel)))
  obtain ⟨c2, iS2, hKn2⟩ := u_known (C := "MarketTown$Loans") (T := kT2) (N := 2) (n := 2) htb kW2 (htb (.instantiable "MarketTown$Loans" 2) (tb_at 151 (by decide +kernel) (by decide +kernel)))
  obtain ⟨c3, iS3, hKn3⟩ := u_known (C := "MarketTown$Market") (T := kT3) (N := 5) (n := 5) htb kW3 (htb (.instantiable "MarketTown$Market" 5) (tb_at 280 (by decide +kernel) (by decide +kernel)))
  obtain ⟨c4, iS4, hKn4⟩ := u_known (C := "MarketTown$Offers") (T := kT4) (N := 7) (n := 7) htb kW4 (htb (.instantiable "MarketTown$Offers" 7) (tb_at 286 (by decide +kernel) (by decide +kernel)))
  obtain ⟨c5, iS5, hKn5⟩ := u_known (C := "MarketTown$RuleReader") (T := kT5) (N := 3) (n := 3) htb kW5 (htb (.instantiable "MarketTown$RuleReader" 3) (tb_at 256 (by decide +kernel) (by decide +kernel)))
  obtain ⟨c6, iS6, hKn6⟩ := u_known (C := "MarketTown$Rules") (T := kT6) (N := 2) (n := 2) htb kW6 (htb (.instantiable "MarketTown$Rules" 2) (tb_at 136 (by decide +kernel) (by decide +kernel)))
  obtain ⟨c7, iS7, hKn7⟩ := u_known (C := "MarketTown$Stock") (T := kT7) (N := 2) (n := 2) htb kW7 (htb (.instantiable "MarketTown$Stock" 2) (tb_at 112 (by decide +kernel) (by decide +kernel)))
  obtain ⟨c8, iS8, hKn8⟩ := u_known (C := "MarketTown$Tape") (T := kT8) (N := 2) (n := 2) htb kW8 (htb (.instantiable "MarketTown$Tape" 2) (tb_at 241 (by decide +kernel) (by decide +kernel)))
  obtain ⟨c9, iS9, hKn9⟩ := u_known (C := "MarketTown$Town") (T := kT9) (N := 14) (n := 14) htb kW9 (htb (.instantiable "MarketTown$Town" 14) (tb_at 106 (by decide +kernel) (by decide +kernel)))
  obtain ⟨c10, iS10, hKn10⟩ := u_known (C := "MarketTown$Wares") (T := kT10) (N := 1) (n := 1) htb kW10 (htb (.instantiable "MarketTown$Wares" 1) (tb_at 126 (by decide +kernel) (by decide +kernel)))
  obtain ⟨c11, iS11, hKn11⟩ := u_known (C := "MarketTownModel") (T := kT11) (N := 21) (n := 21) htb kW11 (htb (.instantiable "MarketTownModel" 21) (tb_at 922 (by decide +kernel) (by decide +kernel)))
  obtain ⟨dC, dI, hKc⟩ : ∃ (dC : Nat → ClassId) (dI : Nat → Nat → Nat), ∀ (k : Nat) (q : vw_C), kCls[k]? = some q → u_Kn s q.1 q.2.1 q.2.2 (dC k) (dI k) := by
    refine ⟨fun k => if k = 0 then c0 else if k = 1 then c1 else if k = 2 then c2 else if k = 3 then c3 else if k = 4 then c4 else if k = 5 then c5 else if k = 6 then c6 else if k = 7 then c7 else if k = 8 then c8 else if k = 9 then c9 else if k = 10 then c10 else c11, fun k => if k = 0 then iS0 else if k = 1 then iS1 else if k = 2 then iS2 else if k = 3 then iS3 else if k = 4 then iS4 else if k = 5 then iS5 else if k = 6 then iS6 else if k = 7 then iS7 else if k = 8 then iS8 else if k = 9 then iS9 else if k = 10 then iS10 else iS11, ?_⟩
    intro k q hq
    match k, hq with
    | 0, hq => cases hq; exact hKn0
    | 1, hq => cases hq; exact hKn1
    | 2, hq => cases hq; exact hKn2
    | 3, hq => cases hq; exact hKn3
    | 4, hq => cases hq; exact hKn4
    | 5, hq => cases hq; exact hKn5
    | 6, hq => cases hq; exact hKn6
    | 7, hq => cases hq; exact hKn7
    | 8, hq => cases hq; exact hKn8
    | 9, hq => cases hq; exact hKn9
    | 10, hq => cases hq; exact hKn10
    | 11, hq => cases hq; exact hKn11
    | k + 12, hq => simp [kCls] at hq
  obtain ⟨tI, kI, compI, i1, i2, i3⟩ := Cond.arrayClass_spec (htb _ ac_int)
  obtain ⟨tZ, kZ, compZ, z1, z2, z3⟩ := Cond.arrayClass_spec (htb _ ac_boolean)
  have hov : (Cond.arrayOver (.object "MarketTown$Town")).before #[Value.ref b] s = true := hts _ (List.mem_of_getElem? (i := 239) (by decide +kernel))
  obtain ⟨compT, tT, kT, t1, t2, t3, t4, t5⟩ := Cond.arrayOver_spec hov
  obtain ⟨tA, hA0, hA1, hA2⟩ : ∃ tA : Nat → ClassId, tA 0 = tI ∧ tA 1 = tZ ∧ tA 2 = tT := ⟨fun k => if k = 0 then tI else if k = 1 then tZ else tT, rfl, rfl, rfl⟩
  obtain ⟨adK, adV, hSt, hev⟩ := vk_Sof (args := #[Value.ref b]) (s := s) (N := 14) (tm := sTm) (len := kSln) (byt := kSby) (A := fun q : Nat => s.heap.size ≤ q) (by decide +kernel) (fun i hi => hs _ (st_ex i hi)) (fun i hi => hs _ (st_co i hi)) (fun i hi => hs _ (st_ar i hi)) (fun i hi => hs _ (st_le i hi)) (fun i hi j hj => hs _ (st_el i hi j hj)) (fun i j hi hj hij => by
    rcases Nat.lt_or_gt_of_ne hij with h | h
    · exact Or.inl (st_ne hs i j h hj)
    · exact Or.inr (st_ne hs j i h hi)) hA
  have hcs : va_Z "java/lang/String" "COMPACT_STRINGS" "Z" (.int 1) (fun q : Nat => s.heap.size ≤ q) s s.heap := va_Zof (hts _ (List.mem_of_getElem? (i := 473) (by decide +kernel))) (htb _ (tb_at 91 (by decide +kernel) (by decide +kernel))) (va_eqt (hs _ (by decide +kernel))) hA
  obtain ⟨fmt, hfc, hfm⟩ : ∃ fmt : Value, fmt.category = 1 ∧ va_Z "jdk/internal/util/Preconditions" "SIOOBE_FORMATTER" "Ljava/util/function/BiFunction;" fmt (fun q : Nat => s.heap.size ≤ q) s s.heap := by
    rcases va_Zqof (C := "jdk/internal/util/Preconditions") (n := "SIOOBE_FORMATTER") (d := "Ljava/util/function/BiFunction;") (hts _ (List.mem_of_getElem? (i := 493) (by decide +kernel))) (htb _ (tb_at 93 (by decide +kernel) (by decide +kernel))) (hs _ (by decide +kernel)) hA with h | ⟨t, h⟩
    · exact ⟨.null, rfl, h⟩
    · exact ⟨.ref t, rfl, h⟩
  rw [← hA0] at i1 i2
  rw [← hA1] at z1 z2
  rw [← hA2] at t3 t5
  refine ⟨((dC, dI), tA, s.heap.size, adK, adV, fmt), ⟨⟨hKc, fun k q hq => ?_⟩, fun q hq => va_Nw.of rfl (hts _ (st_nw q hq)), fun i hi => vk_R.of (hts _ (st_rf i hi)) (hev i hi), hSt, hcs, hfm, hfc, va_AO.of hov⟩, rfl⟩
  match k, hq with
  | 0, hq => cases hq; exact ⟨fun N z => ⟨(fun k h => by cases h), kI, i2, compI, i3⟩, i1⟩
  | 1, hq => cases hq; exact ⟨fun N z => ⟨(fun k h => by cases h), kZ, z2, compZ, z3⟩, z1⟩
  | 2, hq => cases hq; exact ⟨fun N z => ⟨(fun k h => by cases h), kT, t3, compT, t4⟩, ⟨kT, compT, t3, t4, t1, t5⟩⟩
  | k + 3, hq => simp at hq
