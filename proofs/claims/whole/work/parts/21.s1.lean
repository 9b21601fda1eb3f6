/-! PURE: the plain calls -/
theorem sim_policy_ok {t : Nat} {C D : St} (h : Rel t C D) : sim_policy Rel t C D := by
  intro a1 a2
  rcases in_cases a1 0 1000 0 1000 rfl rfl (by omega) (by omega) with ⟨k, h1, h2, rfl, e1, e2⟩ | ⟨e1, e2⟩
  · rcases in_cases a2 0 100 0 100 rfl rfl (by omega) (by omega) with ⟨j, g1, g2, rfl, f1, f2⟩ | ⟨f1, f2⟩
    · refine ⟨0, mj_wr (mj_wr C 1 3 (nI k)) 1 4 (nI j), mj_wr (mj_wr D 89 2166 (nI k)) 89 2167 (nI j), ?_, ?_, ?_⟩
      · unfold f_Mk_policy; rw [e1, bd1_s, if_neg i10, f1, bd1_s, if_neg i10]
      · unfold f_Md_policy; rw [e2, bd1_s, if_neg i10, f2, bd1_s, if_neg i10]
      · obtain ⟨hR, ⟨n, d, hW⟩, hWD, hT, hO⟩ := h.mono
        refine ⟨?_, ⟨n, d, ?_⟩, hWD.frame (fun j h1 h2 => ?_) ?_ ?_ ?_, hT.frame ?_ ?_ ?_ ?_, ?_⟩
        · obtain ⟨⟨r1, r2, r3, r4, r5, r6⟩, rA, rP, rR, rW, rL, rB⟩ := hR
          refine ⟨⟨?_, ?_, ?_, ?_, ?_, ?_⟩, fun a ha => ?_, fun i hi => ?_, fun i hi => ?_, fun i hi => ?_, fun i hi hq => ?_, fun i hi => ?_⟩
          all_goals simp (disch := omega) only [Nat.zero_add, Nat.reduceAdd, wr_same, wr_cell, wr_idx] at *
          all_goals first | assumption | exact rA a ha | exact rP i hi | exact rR i hi | exact rW i hi | exact rL i hi hq | exact rB i hi
        · unfold WTn at hW ⊢
          simp (disch := omega) only [Nat.zero_add, Nat.reduceAdd, wr_same, wr_cell, wr_idx, wr_row] at hW ⊢
          exact ⟨hW.1, ⟨hW.2.1.1, rg_of (by omega) (by omega) (by omega), rg_of (by omega) (by omega) (by omega)⟩, hW.2.2⟩
        all_goals simp (disch := omega) only [wr_row, wr_cell, wr_idx]
        exact hO
    · refine ⟨-1000000001, C, D, ?_, ?_, h.mono⟩
      · unfold f_Mk_policy; rw [e1, bd1_s, if_neg i10, f1, bd1_s, if_pos i01]
      · unfold f_Md_policy; rw [e2, bd1_s, if_neg i10, f2, bd1_s, if_pos i01]
  · refine ⟨-1000000001, C, D, ?_, ?_, h.mono⟩
    · unfold f_Mk_policy; rw [e1, bd1_s, if_pos i01]
    · unfold f_Md_policy; rw [e2, bd1_s, if_pos i01]
