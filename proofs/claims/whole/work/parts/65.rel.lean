/-! PURE: the start, and all calls -/
theorem rt0 : RT S0 S0 0 89 0 := by
  have k1 : S0 1 0 = S0 89 2163 ∧ S0 1 1 = S0 89 2164 ∧ S0 1 2 = S0 89 2165 ∧ S0 1 3 = S0 89 2166 ∧ S0 1 4 = S0 89 2167 ∧ S0 15 0 = S0 89 2168 := by decide +kernel
  have k2 : ∀ a : Fin 12, S0 2 a.1 = S0 89 (5 * a.1) ∧ S0 3 a.1 = S0 89 (5 * a.1 + 1) ∧ S0 4 a.1 = S0 89 (5 * a.1 + 2) ∧ S0 5 a.1 = S0 89 (5 * a.1 + 3) ∧ S0 13 a.1 = S0 89 (5 * a.1 + 4) := by decide +kernel
  have k3 : ∀ i : Fin 600, S0 8 i.1 = S0 89 (60 + i.1) := by decide +kernel
  have k4 : ∀ i : Fin 648, S0 14 i.1 = S0 89 (660 + i.1) := by decide +kernel
  have k5 : ∀ i : Fin 55, S0 11 i.1 = S0 89 (1308 + i.1) := by decide +kernel
  have k6 : S0 15 0 = 0 := by decide +kernel
  have k7 : ∀ i : Fin 720, S0 6 i.1 = S0 89 (1443 + i.1) := by decide +kernel
  unfold RT
  simp only [Nat.zero_add]
  refine ⟨k1, fun a ha => k2 ⟨a, ha⟩, fun i hi => k3 ⟨i, hi⟩, fun i hi => k4 ⟨i, hi⟩, fun i hi => k5 ⟨i, hi⟩, fun i hi hq => ?_, fun i hi => k7 ⟨i, hi⟩⟩
  rw [k6, Int32.toInt_zero] at hq
  omega
theorem wt0 : WTn S0 0 0 0 0 := by
  have k1 : S0 1 0 = nI 0 ∧ S0 1 1 = nI 0 := by decide +kernel
  have k2 : (0 ≤ (S0 1 2).toInt ∧ (S0 1 2).toInt ≤ 2147483647) ∧ (0 ≤ (S0 1 3).toInt ∧ (S0 1 3).toInt ≤ 1000) ∧ (0 ≤ (S0 1 4).toInt ∧ (S0 1 4).toInt ≤ 100) := by decide +kernel
  have k3 : ∀ a : Fin 12, S0 2 a.1 = 0 ∧ S0 3 a.1 = 0 ∧ S0 4 a.1 = 0 ∧ S0 13 a.1 = 0 := by decide +kernel
  have k4 : sm (fun a => (S0 3 a).toInt) 12 = 0 := by decide +kernel
  have k5 : ∀ i : Fin 600, S0 8 i.1 = 0 := by decide +kernel
  have k6 : sm (fun i => (S0 8 i).toInt) 600 = 0 := by decide +kernel
  have k7 : ∀ p : Fin 60, (S0 9 p.1).toInt = sm (fun k => (S0 8 (10 * p.1 + k)).toInt) 10 := by decide +kernel
  have k8 : ∀ g : Fin 5, (0 ≤ (S0 11 (11 * g.1)).toInt ∧ (S0 11 (11 * g.1)).toInt ≤ 9) ∧ (0 ≤ (S0 11 (11 * g.1 + 1)).toInt ∧ (S0 11 (11 * g.1 + 1)).toInt ≤ 2) ∧ (0 ≤ (S0 11 (11 * g.1 + 2)).toInt ∧ (S0 11 (11 * g.1 + 2)).toInt ≤ 999) ∧ (0 ≤ (S0 11 (11 * g.1 + 7)).toInt ∧ (S0 11 (11 * g.1 + 7)).toInt ≤ 4) ∧ (-1 ≤ (S0 11 (11 * g.1 + 8)).toInt ∧ (S0 11 (11 * g.1 + 8)).toInt ≤ 9) ∧ (0 ≤ (S0 11 (11 * g.1 + 9)).toInt ∧ (S0 11 (11 * g.1 + 9)).toInt ≤ 4) ∧ (0 ≤ (S0 11 (11 * g.1 + 10)).toInt ∧ (S0 11 (11 * g.1 + 10)).toInt ≤ 9) := by decide +kernel
  have k9 : S0 15 0 = nI 0 := by decide +kernel
  have r0 : ∀ hi : Int, 0 ≤ hi → rg (0 : Int32) 0 hi := fun hi h => ⟨by decide, by rw [Int32.toInt_zero]; exact h⟩
  unfold WTn
  simp only [Nat.zero_add]
  refine ⟨⟨by omega, k1.1, by omega, k1.2⟩, k2, fun a ha => ?_, ⟨fun a ha => ?_, fun a _ ha => (k3 ⟨a, ha⟩).2.1, by rw [k4]; decide⟩, fun a ha => ?_, fun a ha => ?_, ⟨fun i hi => ?_, fun i _ hi => k5 ⟨i, hi⟩, by rw [k6]; decide⟩, fun p hp => k7 ⟨p, hp⟩, fun g hg => k8 ⟨g, hg⟩, fun a k ha => by omega, 0, by omega, k9, fun i hi => by omega⟩
  · rw [(k3 ⟨a, ha⟩).1]; exact r0 5 (by omega)
  · rw [(k3 ⟨a, ha⟩).2.1]; decide
  · rw [(k3 ⟨a, ha⟩).2.2.1]; exact ⟨r0 1 (by omega), fun _ => rfl⟩
  · rw [(k3 ⟨a, ha⟩).2.2.2]; exact ⟨r0 6 (by omega), fun _ => rfl⟩
  · rw [k5 ⟨i, hi⟩]; decide
theorem rel0 : Rel 0 S0 S0 := by
  have k1 : ∀ k : Fin 3, S0 18 k.1 = 0 ∧ S0 91 k.1 = 0 := by decide +kernel
  have k2 : S0 19 0 = nI 0 ∧ S0 88 4 = nI 0 ∧ S0 88 11 = 0 := by decide +kernel
  refine ⟨rt0, ⟨0, 0, wt0⟩, fun k hk => ?_, ⟨0, by omega, k2.1, k2.2.1, fun i hi => by omega⟩, k2.2.2⟩
  rw [(k1 ⟨k, hk⟩).1, (k1 ⟨k, hk⟩).2]
  exact ⟨rfl, Or.inl rfl, fun e => absurd e (by decide)⟩
theorem simAll : SIM Rel := ⟨fun _ _ _ h => h.mono, fun _ _ _ ht h => ⟨sim_agent_ok h, sim_give_ok ht h, sim_good_ok h, sim_recipe_ok h, sim_policy_ok h, sim_lots_ok h, sim_feed_ok h, sim_trim_ok h, sim_rule_ok h, sim_unrule_ok h, sim_live_ok ht h, sim_about_ok h, sim_isOf_ok h, sim_has_ok ht h, sim_told_ok h, sim_goods_ok ht h, sim_paid_ok h, sim_loan_ok h, sim_median_ok h, sim_save_ok h, sim_load_ok h, sim_differs_ok h, sim_count_ok h⟩⟩
