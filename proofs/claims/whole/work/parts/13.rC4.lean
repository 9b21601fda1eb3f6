set_option maxRecDepth 20000 in
theorem r_Dy_act {x2 : Int32} {x3 : Int32} {C0 D : St} {C' : St} (h : f_Dy_act x2 x3 C0 = some (C')) : mj_R M_Dy_act 0 (mj_lv M_Dy_act.2.2.1 [.ref 23, .ref 1, .int x2, .int x3]) [] (SH, jn C0 D) none (SH, jn (C') D) := by
  show mj_R M_Dy_act 0 [some (.ref 23), some (.ref 1), some (.int x2), some (.int x3), none, none, none] [] _ _ _
  unfold f_Dy_act at h
  refine mj_aload_n (pc := 0) (i := 1) d_Dy_act_0 rfl rfl (by decide) ?_
  refine mj_getR (pc := 1) d_Dy_act_1 fl_Dy_93 sh_1 rfl rfl (by decide) (by decide) (by decide) ?_
  refine mj_iload_n (pc := 4) (i := 2) d_Dy_act_4 rfl rfl ?_
  refine mj_iload_n (pc := 5) (i := 3) d_Dy_act_5 rfl rfl ?_
  refine mj_iconst (pc := 6) (v := 1) d_Dy_act_6 (by decide) ?_
  obtain ⟨v1, hb2, h⟩ := bd1_some h
  refine mj_callV (pc := 7) (b := 12) (vs := [.int x2, .int x3, .int 1]) (st := []) d_Dy_act_7 bB_Dy_act_Rl_get lk_Dy_114 iv_Rl_get rc_12 rfl (Nat.le_of_ble_eq_true rfl) (Nat.le_of_ble_eq_true rfl) (r_Rl_get hb2) ?_
  show mj_R M_Dy_act 10 [some (.ref 23), some (.ref 1), some (.int x2), some (.int x3), none, none, none] [.int v1] (SH, jn C0 D) none (SH, jn (C') D)
  refine mj_istore (pc := 10) (i := 4) d_Dy_act_10 rfl (by decide) ?_
  refine mj_aload_n (pc := 12) (i := 1) d_Dy_act_12 rfl rfl (by decide) ?_
  refine mj_getR (pc := 13) d_Dy_act_13 fl_Dy_93 sh_1 rfl rfl (by decide) (by decide) (by decide) ?_
  refine mj_iload_n (pc := 16) (i := 2) d_Dy_act_16 rfl rfl ?_
  refine mj_iload_n (pc := 17) (i := 3) d_Dy_act_17 rfl rfl ?_
  refine mj_iconst (pc := 18) (v := 2) d_Dy_act_18 (by decide) ?_
  obtain ⟨v3, hb4, h⟩ := bd1_some h
  refine mj_callV (pc := 19) (b := 12) (vs := [.int x2, .int x3, .int 2]) (st := []) d_Dy_act_19 bB_Dy_act_Rl_get lk_Dy_114 iv_Rl_get rc_12 rfl (Nat.le_of_ble_eq_true rfl) (Nat.le_of_ble_eq_true rfl) (r_Rl_get hb4) ?_
  show mj_R M_Dy_act 22 [some (.ref 23), some (.ref 1), some (.int x2), some (.int x3), some (.int v1), none, none] [.int v3] (SH, jn C0 D) none (SH, jn (C') D)
  refine mj_istore (pc := 22) (i := 5) d_Dy_act_22 rfl (by decide) ?_
  refine mj_aload_n (pc := 24) (i := 1) d_Dy_act_24 rfl rfl (by decide) ?_
  refine mj_getR (pc := 25) d_Dy_act_25 fl_Dy_93 sh_1 rfl rfl (by decide) (by decide) (by decide) ?_
  refine mj_iload_n (pc := 28) (i := 2) d_Dy_act_28 rfl rfl ?_
  refine mj_iload_n (pc := 29) (i := 3) d_Dy_act_29 rfl rfl ?_
  refine mj_iconst (pc := 30) (v := 3) d_Dy_act_30 (by decide) ?_
  obtain ⟨v5, hb6, h⟩ := bd1_some h
  refine mj_callV (pc := 31) (b := 12) (vs := [.int x2, .int x3, .int 3]) (st := []) d_Dy_act_31 bB_Dy_act_Rl_get lk_Dy_114 iv_Rl_get rc_12 rfl (Nat.le_of_ble_eq_true rfl) (Nat.le_of_ble_eq_true rfl) (r_Rl_get hb6) ?_
  show mj_R M_Dy_act 34 [some (.ref 23), some (.ref 1), some (.int x2), some (.int x3), some (.int v1), some (.int v3), none] [.int v5] (SH, jn C0 D) none (SH, jn (C') D)
  refine mj_istore (pc := 34) (i := 6) d_Dy_act_34 rfl (by decide) ?_
  refine mj_aload_n (pc := 36) (i := 1) d_Dy_act_36 rfl rfl (by decide) ?_
  refine mj_getR (pc := 37) d_Dy_act_37 fl_Dy_93 sh_1 rfl rfl (by decide) (by decide) (by decide) ?_
  refine mj_iload_n (pc := 40) (i := 2) d_Dy_act_40 rfl rfl ?_
  refine mj_iload_n (pc := 41) (i := 3) d_Dy_act_41 rfl rfl ?_
  refine mj_iconst (pc := 42) (v := 0) d_Dy_act_42 (by decide) ?_
  obtain ⟨v7, hb8, h⟩ := bd1_some h
  refine mj_callV (pc := 43) (b := 12) (vs := [.int x2, .int x3, .int 0]) (st := []) d_Dy_act_43 bB_Dy_act_Rl_get lk_Dy_114 iv_Rl_get rc_12 rfl (Nat.le_of_ble_eq_true rfl) (Nat.le_of_ble_eq_true rfl) (r_Rl_get hb8) ?_
  show mj_R M_Dy_act 46 [some (.ref 23), some (.ref 1), some (.int x2), some (.int x3), some (.int v1), some (.int v3), some (.int v5)] [.int v7] (SH, jn C0 D) none (SH, jn (C') D)
  obtain ⟨C28, hb30, h⟩ := bd1_some h
  have k29 : mj_R M_Dy_act 179 [none, none, none, none, none, none, none] [] (SH, jn C28 D) none (SH, jn (C') D) := by
    obtain e_1 := inj1 h
    subst e_1
    exact mj_vret (pc := 179) d_Dy_act_179 rfl
  have h := hb30
  by_cases hc9 : v7 = 0
  · rw [if_pos hc9] at h
    refine mj_tsEq (pc := 46) (tgt := 80) 0 d_Dy_act_46 hc9 (by decide) (by decide) (by rfl) (by decide) ?_
    refine mj_aload_n (pc := 80) (i := 0) d_Dy_act_80 rfl rfl (by decide) ?_
    refine mj_aload_n (pc := 81) (i := 1) d_Dy_act_81 rfl rfl (by decide) ?_
    refine mj_iload_n (pc := 82) (i := 2) d_Dy_act_82 rfl rfl ?_
    refine mj_iload (pc := 83) (i := 4) d_Dy_act_83 rfl ?_
    refine mj_iload (pc := 85) (i := 5) d_Dy_act_85 rfl ?_
    obtain ⟨C14, hb15, h⟩ := bd1_some h
    refine mj_callV (pc := 87) (b := 23) (vs := [.ref 1, .int x2, .int v1, .int v3]) (st := []) d_Dy_act_87 bB_Dy_act_Dy_make lk_Dy_138 iv_Dy_make rc_23 rfl (Nat.le_of_ble_eq_true rfl) (Nat.le_of_ble_eq_true rfl) (r_Dy_make hb15) ?_
    show mj_R M_Dy_act 90 [some (.ref 23), some (.ref 1), some (.int x2), some (.int x3), some (.int v1), some (.int v3), some (.int v5)] [] (SH, jn C14 D) none (SH, jn (C') D)
    refine mj_goto (pc := 90) (tgt := 179) d_Dy_act_90 (by decide) ?_
    obtain e_1 := inj1 h
    subst e_1
    exact mj_wk k29 trivial
  · rw [if_neg hc9] at h
    by_cases hc10 : v7 = 1
    · rw [if_pos hc10] at h
      refine mj_tsEq (pc := 46) (tgt := 93) 1 d_Dy_act_46 hc10 (by decide) (by decide) (by rfl) (by decide) ?_
      refine mj_aload_n (pc := 93) (i := 0) d_Dy_act_93 rfl rfl (by decide) ?_
      refine mj_aload_n (pc := 94) (i := 1) d_Dy_act_94 rfl rfl (by decide) ?_
      refine mj_iload_n (pc := 95) (i := 2) d_Dy_act_95 rfl rfl ?_
      refine mj_iload (pc := 96) (i := 4) d_Dy_act_96 rfl ?_
      refine mj_iload (pc := 98) (i := 5) d_Dy_act_98 rfl ?_
      obtain ⟨C16, hb17, h⟩ := bd1_some h
      refine mj_callV (pc := 100) (b := 23) (vs := [.ref 1, .int x2, .int v1, .int v3]) (st := []) d_Dy_act_100 bB_Dy_act_Dy_eat lk_Dy_142 iv_Dy_eat rc_23 rfl (Nat.le_of_ble_eq_true rfl) (Nat.le_of_ble_eq_true rfl) (r_Dy_eat hb17) ?_
      show mj_R M_Dy_act 103 [some (.ref 23), some (.ref 1), some (.int x2), some (.int x3), some (.int v1), some (.int v3), some (.int v5)] [] (SH, jn C16 D) none (SH, jn (C') D)
      refine mj_goto (pc := 103) (tgt := 179) d_Dy_act_103 (by decide) ?_
      obtain e_1 := inj1 h
      subst e_1
      exact mj_wk k29 trivial
    · rw [if_neg hc10] at h
      by_cases hc11 : v7 = 2
      · rw [if_pos hc11] at h
        refine mj_tsEq (pc := 46) (tgt := 106) 2 d_Dy_act_46 hc11 (by decide) (by decide) (by rfl) (by decide) ?_
        refine mj_aload_n (pc := 106) (i := 0) d_Dy_act_106 rfl rfl (by decide) ?_
        refine mj_getR (pc := 107) d_Dy_act_107 fl_Dy_18 sh_23 rfl rfl (by decide) (by decide) (by decide) ?_
        refine mj_aload_n (pc := 110) (i := 1) d_Dy_act_110 rfl rfl (by decide) ?_
        refine mj_iload_n (pc := 111) (i := 2) d_Dy_act_111 rfl rfl ?_
        refine mj_iload (pc := 112) (i := 4) d_Dy_act_112 rfl ?_
        refine mj_iload (pc := 114) (i := 5) d_Dy_act_114 rfl ?_
        refine mj_iload (pc := 116) (i := 6) d_Dy_act_116 rfl ?_
        obtain ⟨C18, hb19, h⟩ := bd1_some h
        refine mj_callV (pc := 118) (b := 25) (vs := [.ref 1, .int x2, .int v1, .int v3, .int v5]) (st := []) d_Dy_act_118 bB_Dy_act_Mt_ask lk_Dy_145 iv_Mt_ask rc_25 rfl (Nat.le_of_ble_eq_true rfl) (Nat.le_of_ble_eq_true rfl) (r_Mt_ask hb19) ?_
        show mj_R M_Dy_act 121 [some (.ref 23), some (.ref 1), some (.int x2), some (.int x3), some (.int v1), some (.int v3), some (.int v5)] [] (SH, jn C18 D) none (SH, jn (C') D)
        refine mj_goto (pc := 121) (tgt := 179) d_Dy_act_121 (by decide) ?_
        obtain e_1 := inj1 h
        subst e_1
        exact mj_wk k29 trivial
      · rw [if_neg hc11] at h
        by_cases hc12 : v7 = 3
        · rw [if_pos hc12] at h
          refine mj_tsEq (pc := 46) (tgt := 124) 3 d_Dy_act_46 hc12 (by decide) (by decide) (by rfl) (by decide) ?_
          refine mj_aload_n (pc := 124) (i := 0) d_Dy_act_124 rfl rfl (by decide) ?_
          refine mj_getR (pc := 125) d_Dy_act_125 fl_Dy_18 sh_23 rfl rfl (by decide) (by decide) (by decide) ?_
          refine mj_aload_n (pc := 128) (i := 1) d_Dy_act_128 rfl rfl (by decide) ?_
          refine mj_iload_n (pc := 129) (i := 2) d_Dy_act_129 rfl rfl ?_
          refine mj_iload (pc := 130) (i := 4) d_Dy_act_130 rfl ?_
          refine mj_iload (pc := 132) (i := 5) d_Dy_act_132 rfl ?_
          refine mj_iload (pc := 134) (i := 6) d_Dy_act_134 rfl ?_
          obtain ⟨C20, hb21, h⟩ := bd1_some h
          refine mj_callV (pc := 136) (b := 25) (vs := [.ref 1, .int x2, .int v1, .int v3, .int v5]) (st := []) d_Dy_act_136 bB_Dy_act_Mt_bid lk_Dy_149 iv_Mt_bid rc_25 rfl (Nat.le_of_ble_eq_true rfl) (Nat.le_of_ble_eq_true rfl) (r_Mt_bid hb21) ?_
          show mj_R M_Dy_act 139 [some (.ref 23), some (.ref 1), some (.int x2), some (.int x3), some (.int v1), some (.int v3), some (.int v5)] [] (SH, jn C20 D) none (SH, jn (C') D)
          refine mj_goto (pc := 139) (tgt := 179) d_Dy_act_139 (by decide) ?_
          obtain e_1 := inj1 h
          subst e_1
          exact mj_wk k29 trivial
        · rw [if_neg hc12] at h
          by_cases hc13 : v7 = 4
          · rw [if_pos hc13] at h
            refine mj_tsEq (pc := 46) (tgt := 142) 4 d_Dy_act_46 hc13 (by decide) (by decide) (by rfl) (by decide) ?_
            refine mj_aload_n (pc := 142) (i := 1) d_Dy_act_142 rfl rfl (by decide) ?_
            refine mj_iload_n (pc := 143) (i := 2) d_Dy_act_143 rfl rfl ?_
            refine mj_iload (pc := 144) (i := 4) d_Dy_act_144 rfl ?_
            refine mj_iconst (pc := 146) (v := 2) d_Dy_act_146 (by decide) ?_
            refine mj_iload (pc := 147) (i := 5) d_Dy_act_147 rfl ?_
            refine mj_aload_n (pc := 149) (i := 0) d_Dy_act_149 rfl rfl (by decide) ?_
            refine mj_getR (pc := 150) d_Dy_act_150 fl_Dy_18 sh_23 rfl rfl (by decide) (by decide) (by decide) ?_
            refine mj_aload_n (pc := 153) (i := 1) d_Dy_act_153 rfl rfl (by decide) ?_
            refine mj_iload_n (pc := 154) (i := 2) d_Dy_act_154 rfl rfl ?_
            obtain ⟨v22, hb23, h⟩ := bd1_some h
            refine mj_callV (pc := 155) (b := 25) (vs := [.ref 1, .int x2]) (st := [.int v3, .int 2, .int v1, .int x2, .ref 1]) d_Dy_act_155 bB_Dy_act_Mt_freeCash lk_Dy_152 iv_Mt_freeCash rc_25 rfl (Nat.le_of_ble_eq_true rfl) (Nat.le_of_ble_eq_true rfl) (r_Mt_freeCash hb23) ?_
            show mj_R M_Dy_act 158 [some (.ref 23), some (.ref 1), some (.int x2), some (.int x3), some (.int v1), some (.int v3), some (.int v5)] [.int v22, .int v3, .int 2, .int v1, .int x2, .ref 1] (SH, jn C0 D) none (SH, jn (C') D)
            refine mj_min (pc := 158) d_Dy_act_158 mn_Dy_156 (by decide) (Nat.le_of_ble_eq_true rfl) ?_
            obtain ⟨C24, hb25, h⟩ := bd1_some h
            refine mj_callV (pc := 161) (b := 1) (vs := [.int x2, .int v1, .int 2, .int (if v22 < v3 then v22 else v3 : Int32)]) (st := []) d_Dy_act_161 bB_Dy_act_Tw_hand lk_Dy_161 iv_Tw_hand rc_1 rfl (Nat.le_of_ble_eq_true rfl) (Nat.le_of_ble_eq_true rfl) (r_Tw_hand hb25) ?_
            show mj_R M_Dy_act 164 [some (.ref 23), some (.ref 1), some (.int x2), some (.int x3), some (.int v1), some (.int v3), some (.int v5)] [] (SH, jn C24 D) none (SH, jn (C') D)
            refine mj_goto (pc := 164) (tgt := 179) d_Dy_act_164 (by decide) ?_
            obtain e_1 := inj1 h
            subst e_1
            exact mj_wk k29 trivial
          · rw [if_neg hc13] at h
            refine mj_tableOut (pc := 46) (tgt := 167) d_Dy_act_46 (by have q0 := i32_ne (n := 0) (by decide) hc9; have q1 := i32_ne (n := 1) (by decide) hc10; have q2 := i32_ne (n := 2) (by decide) hc11; have q3 := i32_ne (n := 3) (by decide) hc12; have q4 := i32_ne (n := 4) (by decide) hc13; omega) (by decide) ?_
            refine mj_aload_n (pc := 167) (i := 0) d_Dy_act_167 rfl rfl (by decide) ?_
            refine mj_aload_n (pc := 168) (i := 1) d_Dy_act_168 rfl rfl (by decide) ?_
            refine mj_iload_n (pc := 169) (i := 2) d_Dy_act_169 rfl rfl ?_
            refine mj_iload (pc := 170) (i := 4) d_Dy_act_170 rfl ?_
            refine mj_iload (pc := 172) (i := 5) d_Dy_act_172 rfl ?_
            refine mj_iload (pc := 174) (i := 6) d_Dy_act_174 rfl ?_
            obtain ⟨C26, hb27, h⟩ := bd1_some h
            refine mj_callV (pc := 176) (b := 23) (vs := [.ref 1, .int x2, .int v1, .int v3, .int v5]) (st := []) d_Dy_act_176 bB_Dy_act_Dy_lend lk_Dy_165 iv_Dy_lend rc_23 rfl (Nat.le_of_ble_eq_true rfl) (Nat.le_of_ble_eq_true rfl) (r_Dy_lend hb27) ?_
            show mj_R M_Dy_act 179 [some (.ref 23), some (.ref 1), some (.int x2), some (.int x3), some (.int v1), some (.int v3), some (.int v5)] [] (SH, jn C26 D) none (SH, jn (C') D)
            obtain e_1 := inj1 h
            subst e_1
            exact mj_wk k29 trivial
set_option maxRecDepth 20000 in
theorem l_Dy_followRules_2 {r : Option Value} {D y : St} : ∀ (n : Nat) (y2 : Int32) (y3 : Int32) (C : St) (Q_ : St), L_Dy_followRules_2 n y2 y3 C = some Q_ → mj_R M_Dy_followRules 46 [none, none, none, none] [] (SH, jn Q_ D) r (SH, y) → mj_R M_Dy_followRules 2 [some (.ref 23), some (.ref 1), some (.int y2), some (.int y3)] [] (SH, jn C D) r (SH, y) := by
  intro n
  induction n with
  | zero => intro y2 y3 C Q_ h; cases h
  | succ n ih =>
    intro y2 y3 C Q_ h hX
    unfold L_Dy_followRules_2 at h
    refine mj_iload_n (pc := 2) (i := 3) d_Dy_followRules_2 rfl rfl ?_
    refine mj_aload_n (pc := 3) (i := 1) d_Dy_followRules_3 rfl rfl (by decide) ?_
    refine mj_getR (pc := 4) d_Dy_followRules_4 fl_Dy_93 sh_1 rfl rfl (by decide) (by decide) (by decide) ?_
    refine mj_getR (pc := 7) d_Dy_followRules_7 fl_Dy_97 sh_12 rfl rfl (by decide) (by decide) (by decide) ?_
    refine mj_iload_n (pc := 10) (i := 2) d_Dy_followRules_10 rfl rfl ?_
    obtain ⟨hg1, h⟩ := mj_gd h
    refine cj_iald (pc := 11) d_Dy_followRules_11 sh_13 (by decide) hg1 (by decide) ?_
    refine mj_icmp_ge (pc := 12) (tgt := 46) d_Dy_followRules_12 (by decide) mj_hs (fun hc2 => ?_) (fun hc2 => ?_)
    · rw [if_pos hc2] at h
      obtain e_1 := inj1 h
      subst e_1
      exact mj_wk hX trivial
    · rw [if_neg hc2] at h
      refine mj_aload_n (pc := 15) (i := 1) d_Dy_followRules_15 rfl rfl (by decide) ?_
      refine mj_iload_n (pc := 16) (i := 2) d_Dy_followRules_16 rfl rfl ?_
      refine mj_iload_n (pc := 17) (i := 3) d_Dy_followRules_17 rfl rfl ?_
      obtain ⟨v3, hb4, h⟩ := bd1_some h
      refine mj_callS (pc := 18) (vs := [.ref 1, .int y2, .int y3]) (st := []) d_Dy_followRules_18 bB_Dy_followRules_Dy_fires lk_Dy_102 st_Dy_fires rfl (Nat.le_of_ble_eq_true rfl) (Nat.le_of_ble_eq_true rfl) (r_Dy_fires hb4) ?_
      show mj_R M_Dy_followRules 21 [some (.ref 23), some (.ref 1), some (.int y2), some (.int y3)] [.int v3] (SH, jn C D) r (SH, y)
      obtain ⟨C10, hb12, h⟩ := bd1_some h
      have k11 : mj_R M_Dy_followRules 40 [some (.ref 23), some (.ref 1), some (.int y2), some (.int y3)] [] (SH, jn C10 D) r (SH, y) := by
        refine mj_iinc (pc := 40) (i := 3) (v := y3 + 1) d_Dy_followRules_40 rfl (by rfl) rfl (by decide) ?_
        refine mj_goto (pc := 43) (tgt := 2) d_Dy_followRules_43 (by decide) ?_
        exact mj_weak [some (.ref 23), some (.ref 1), some (.int y2), some (.int (y3 + 1))] (And.intro rfl (And.intro rfl (And.intro rfl (And.intro rfl trivial)))) (ih _ _ _ _ h hX)
      have h := hb12
      refine mj_if_eq (y := 0) (pc := 21) (tgt := 40) d_Dy_followRules_21 (by decide) mj_hs (fun hc5 => ?_) (fun hc5 => ?_)
      · rw [if_pos hc5] at h
        obtain e_1 := inj1 h
        subst e_1
        exact mj_wk k11 (And.intro rfl (And.intro rfl (And.intro rfl (And.intro rfl trivial))))
      · rw [if_neg hc5] at h
        refine mj_aload_n (pc := 24) (i := 1) d_Dy_followRules_24 rfl rfl (by decide) ?_
        refine mj_getR (pc := 25) d_Dy_followRules_25 fl_Dy_93 sh_1 rfl rfl (by decide) (by decide) (by decide) ?_
        refine mj_iload_n (pc := 28) (i := 2) d_Dy_followRules_28 rfl rfl ?_
        refine mj_iload_n (pc := 29) (i := 3) d_Dy_followRules_29 rfl rfl ?_
        obtain ⟨C6, hb7, h⟩ := bd1_some h
        refine mj_callV (pc := 30) (b := 12) (vs := [.int y2, .int y3]) (st := []) d_Dy_followRules_30 bB_Dy_followRules_Rl_countFire lk_Dy_106 iv_Rl_countFire rc_12 rfl (Nat.le_of_ble_eq_true rfl) (Nat.le_of_ble_eq_true rfl) (r_Rl_countFire hb7) ?_
        show mj_R M_Dy_followRules 33 [some (.ref 23), some (.ref 1), some (.int y2), some (.int y3)] [] (SH, jn C6 D) r (SH, y)
        refine mj_aload_n (pc := 33) (i := 0) d_Dy_followRules_33 rfl rfl (by decide) ?_
        refine mj_aload_n (pc := 34) (i := 1) d_Dy_followRules_34 rfl rfl (by decide) ?_
        refine mj_iload_n (pc := 35) (i := 2) d_Dy_followRules_35 rfl rfl ?_
        refine mj_iload_n (pc := 36) (i := 3) d_Dy_followRules_36 rfl rfl ?_
        obtain ⟨C8, hb9, h⟩ := bd1_some h
        refine mj_callV (pc := 37) (b := 23) (vs := [.ref 1, .int y2, .int y3]) (st := []) d_Dy_followRules_37 bB_Dy_followRules_Dy_act lk_Dy_110 iv_Dy_act rc_23 rfl (Nat.le_of_ble_eq_true rfl) (Nat.le_of_ble_eq_true rfl) (r_Dy_act hb9) ?_
        show mj_R M_Dy_followRules 40 [some (.ref 23), some (.ref 1), some (.int y2), some (.int y3)] [] (SH, jn C8 D) r (SH, y)
        obtain e_1 := inj1 h
        subst e_1
        exact mj_wk k11 (And.intro rfl (And.intro rfl (And.intro rfl (And.intro rfl trivial))))
set_option maxRecDepth 20000 in
theorem r_Dy_followRules {x2 : Int32} {C0 D : St} {C' : St} (h : f_Dy_followRules x2 C0 = some (C')) : mj_R M_Dy_followRules 0 (mj_lv M_Dy_followRules.2.2.1 [.ref 23, .ref 1, .int x2]) [] (SH, jn C0 D) none (SH, jn (C') D) := by
  show mj_R M_Dy_followRules 0 [some (.ref 23), some (.ref 1), some (.int x2), none] [] _ _ _
  unfold f_Dy_followRules at h
  refine mj_iconst (pc := 0) (v := 0) d_Dy_followRules_0 (by decide) ?_
  refine mj_istore_n (pc := 1) (i := 3) d_Dy_followRules_1 rfl rfl (by decide) ?_
  obtain ⟨C13, hl14, h⟩ := bd1_some h
  refine mj_weak [some (.ref 23), some (.ref 1), some (.int x2), some (.int 0)] (And.intro rfl (And.intro rfl (And.intro rfl (And.intro rfl trivial)))) (l_Dy_followRules_2 3000 _ _ _ _ hl14 ?_)
  obtain e_1 := inj1 h
  subst e_1
  exact mj_vret (pc := 46) d_Dy_followRules_46 rfl
set_option maxRecDepth 20000 in
theorem l_Tw_firstCouncil_2 {r : Option Value} {D y : St} : ∀ (n : Nat) (y1 : Int32) (C : St) (o : (Int32) ⊕ (Unit)), L_Tw_firstCouncil_2 n y1 C = some o → (∀ a : Int32, o = .inl a → r = some (.int a) ∧ y = jn C D) → (∀ a : Unit, o = .inr a → mj_R M_Tw_firstCouncil 28 [none, none] [] (SH, jn C D) r (SH, y)) → mj_R M_Tw_firstCouncil 2 [some (.ref 1), some (.int y1)] [] (SH, jn C D) r (SH, y) := by
  intro n
  induction n with
  | zero => intro y1 C o h; cases h
  | succ n ih =>
    intro y1 C o h hE hX
    unfold L_Tw_firstCouncil_2 at h
    refine mj_iload_n (pc := 2) (i := 1) d_Tw_firstCouncil_2 rfl rfl ?_
    refine mj_aload_n (pc := 3) (i := 0) d_Tw_firstCouncil_3 rfl rfl (by decide) ?_
    refine cj_getI (pc := 4) d_Tw_firstCouncil_4 fl_Tw_59 sh_1 rfl (by decide) (by decide) (by decide) ?_
    refine mj_icmp_ge (pc := 7) (tgt := 28) d_Tw_firstCouncil_7 (by decide) mj_hs (fun hc1 => ?_) (fun hc1 => ?_)
    · rw [if_pos hc1] at h
      obtain e_1 := inj1 h
      subst e_1
      exact mj_wk (hX _ rfl) trivial
    · rw [if_neg hc1] at h
      refine mj_aload_n (pc := 10) (i := 0) d_Tw_firstCouncil_10 rfl rfl (by decide) ?_
      refine mj_getR (pc := 11) d_Tw_firstCouncil_11 fl_Tw_15 sh_1 rfl rfl (by decide) (by decide) (by decide) ?_
      refine mj_iload_n (pc := 14) (i := 1) d_Tw_firstCouncil_14 rfl rfl ?_
      obtain ⟨hg2, h⟩ := mj_gd h
      refine cj_iald (pc := 15) d_Tw_firstCouncil_15 sh_2 (by decide) hg2 (by decide) ?_
      refine mj_iconst (pc := 16) (v := 5) d_Tw_firstCouncil_16 (by decide) ?_
      refine mj_icmp_ne (pc := 17) (tgt := 22) d_Tw_firstCouncil_17 (by decide) mj_hs (fun hc3 => ?_) (fun hc3 => ?_)
      · rw [if_neg hc3] at h
        refine mj_iinc (pc := 22) (i := 1) (v := y1 + 1) d_Tw_firstCouncil_22 rfl (by rfl) rfl (by decide) ?_
        refine mj_goto (pc := 25) (tgt := 2) d_Tw_firstCouncil_25 (by decide) ?_
        exact mj_weak [some (.ref 1), some (.int (y1 + 1))] (And.intro rfl (And.intro rfl trivial)) (ih _ _ _ h hE hX)
      · rw [if_pos hc3] at h
        refine mj_iload_n (pc := 20) (i := 1) d_Tw_firstCouncil_20 rfl rfl ?_
        obtain e_1 := inj1 h
        subst e_1
        obtain ⟨e1, e2⟩ := hE _ rfl
        subst e1
        subst e2
        exact mj_iret (pc := 21) d_Tw_firstCouncil_21 rfl
set_option maxRecDepth 20000 in
theorem r_Tw_firstCouncil  {C0 D : St} {v : Int32} (h : f_Tw_firstCouncil C0 = some v) : mj_R M_Tw_firstCouncil 0 (mj_lv M_Tw_firstCouncil.2.2.1 [.ref 1]) [] (SH, jn C0 D) (some (.int v)) (SH, jn C0 D) := by
  show mj_R M_Tw_firstCouncil 0 [some (.ref 1), none] [] _ _ _
  unfold f_Tw_firstCouncil at h
  refine mj_iconst (pc := 0) (v := 0) d_Tw_firstCouncil_0 (by decide) ?_
  refine mj_istore_n (pc := 1) (i := 1) d_Tw_firstCouncil_1 rfl rfl (by decide) ?_
  rcases bdS_some h with ⟨e5, hl4, h⟩ | ⟨_u, hl4, h⟩
  · refine mj_weak [some (.ref 1), some (.int 0)] (And.intro rfl (And.intro rfl trivial)) (l_Tw_firstCouncil_2 3000 _ _ _ hl4 (fun a e => ?_) (fun a e => nomatch e))
    cases e
    obtain e_1 := inj1 h
    subst e_1
    exact ⟨rfl, rfl⟩
  · refine mj_weak [some (.ref 1), some (.int 0)] (And.intro rfl (And.intro rfl trivial)) (l_Tw_firstCouncil_2 3000 _ _ _ hl4 (fun a e => nomatch e) (fun a e => ?_))
    cases e
    refine mj_ldc (pc := 28) (v := -1000000005) d_Tw_firstCouncil_28 k_Tw_66 ?_
    obtain e_1 := inj1 h
    subst e_1
    exact mj_iret (pc := 30) d_Tw_firstCouncil_30 rfl
set_option maxRecDepth 20000 in
theorem l_Of_insert_5 {r : Option Value} {D y : St} : ∀ (n : Nat) (y1 : Int32) (y2 : Int32) (y3 : Int32) (C : St) (o3_ : Int32) (Q_ : St), L_Of_insert_5 n y1 y2 y3 C = some (o3_, Q_) → mj_R M_Of_insert 55 [some (.ref 26), some (.int y1), none, some (.int o3_)] [] (SH, jn Q_ D) r (SH, y) → mj_R M_Of_insert 5 [some (.ref 26), some (.int y1), some (.int y2), some (.int y3)] [] (SH, jn C D) r (SH, y) := by
  intro n
  induction n with
  | zero => intro y1 y2 y3 C o3_ Q_ h; cases h
  | succ n ih =>
    intro y1 y2 y3 C o3_ Q_ h hX
    unfold L_Of_insert_5 at h
    refine mj_iload_n (pc := 5) (i := 3) d_Of_insert_5 rfl rfl ?_
    refine mj_if_le (y := 0) (pc := 6) (tgt := 55) d_Of_insert_6 (by decide) mj_hs (fun hc1 => ?_) (fun hc1 => ?_)
    · rw [if_pos hc1] at h
      obtain ⟨e_1, e_2⟩ := inj2 h
      subst e_1
      subst e_2
      exact mj_wk hX (And.intro rfl (And.intro rfl (And.intro rfl trivial)))
    · rw [if_neg hc1] at h
      refine mj_iload_n (pc := 9) (i := 2) d_Of_insert_9 rfl rfl ?_
      refine mj_aload_n (pc := 10) (i := 0) d_Of_insert_10 rfl rfl (by decide) ?_
      refine mj_getR (pc := 11) d_Of_insert_11 fl_Of_15 sh_26 rfl rfl (by decide) (by decide) (by decide) ?_
      refine mj_aload_n (pc := 14) (i := 0) d_Of_insert_14 rfl rfl (by decide) ?_
      refine mj_getR (pc := 15) d_Of_insert_15 fl_Of_21 sh_26 rfl rfl (by decide) (by decide) (by decide) ?_
      refine mj_iload_n (pc := 18) (i := 3) d_Of_insert_18 rfl rfl ?_
      refine mj_iconst (pc := 19) (v := 1) d_Of_insert_19 (by decide) ?_
      refine mj_isub (pc := 20) d_Of_insert_20 ?_
      obtain ⟨hg2, h⟩ := mj_gd h
      refine cj_iald (pc := 21) d_Of_insert_21 sh_30 (by decide) hg2 (by decide) ?_
      obtain ⟨hg3, h⟩ := mj_gd h
      refine cj_iald (pc := 22) d_Of_insert_22 sh_28 (by decide) hg3 (by decide) ?_
      refine mj_imul (pc := 23) d_Of_insert_23 ?_
      refine mj_iload_n (pc := 24) (i := 2) d_Of_insert_24 rfl rfl ?_
      refine mj_aload_n (pc := 25) (i := 0) d_Of_insert_25 rfl rfl (by decide) ?_
      refine mj_getR (pc := 26) d_Of_insert_26 fl_Of_15 sh_26 rfl rfl (by decide) (by decide) (by decide) ?_
      refine mj_iload_n (pc := 29) (i := 1) d_Of_insert_29 rfl rfl ?_
      obtain ⟨hg4, h⟩ := mj_gd h
      refine cj_iald (pc := 30) d_Of_insert_30 sh_28 (by decide) hg4 (by decide) ?_
      refine mj_imul (pc := 31) d_Of_insert_31 ?_
      refine mj_icmp_le (pc := 32) (tgt := 55) d_Of_insert_32 (by decide) mj_hs (fun hc5 => ?_) (fun hc5 => ?_)
      · rw [if_pos hc5] at h
        obtain ⟨e_1, e_2⟩ := inj2 h
        subst e_1
        subst e_2
        exact mj_wk hX (And.intro rfl (And.intro rfl (And.intro rfl trivial)))
      · rw [if_neg hc5] at h
        refine mj_aload_n (pc := 35) (i := 0) d_Of_insert_35 rfl rfl (by decide) ?_
        refine mj_getR (pc := 36) d_Of_insert_36 fl_Of_21 sh_26 rfl rfl (by decide) (by decide) (by decide) ?_
        refine mj_iload_n (pc := 39) (i := 3) d_Of_insert_39 rfl rfl ?_
        refine mj_aload_n (pc := 40) (i := 0) d_Of_insert_40 rfl rfl (by decide) ?_
        refine mj_getR (pc := 41) d_Of_insert_41 fl_Of_21 sh_26 rfl rfl (by decide) (by decide) (by decide) ?_
        refine mj_iload_n (pc := 44) (i := 3) d_Of_insert_44 rfl rfl ?_
        refine mj_iconst (pc := 45) (v := 1) d_Of_insert_45 (by decide) ?_
        refine mj_isub (pc := 46) d_Of_insert_46 ?_
        refine cj_iald (pc := 47) d_Of_insert_47 sh_30 (by decide) hg2 (by decide) ?_
        obtain ⟨hg7, h⟩ := mj_gd h
        refine cj_iast (pc := 48) d_Of_insert_48 sh_30 (by decide) hg7 (by decide) ?_
        refine mj_iinc (pc := 49) (i := 3) (v := y3 + (-1)) d_Of_insert_49 rfl (by rfl) rfl (by decide) ?_
        refine mj_goto (pc := 52) (tgt := 5) d_Of_insert_52 (by decide) ?_
        exact mj_weak [some (.ref 26), some (.int y1), some (.int y2), some (.int (y3 + (-1)))] (And.intro rfl (And.intro rfl (And.intro rfl (And.intro rfl trivial)))) (ih _ _ _ _ _ _ h hX)
set_option maxRecDepth 20000 in
theorem r_Of_insert {x1 : Int32} {x2 : Int32} {C0 D : St} {C' : St} (h : f_Of_insert x1 x2 C0 = some (C')) : mj_R M_Of_insert 0 (mj_lv M_Of_insert.2.2.1 [.ref 26, .int x1, .int x2]) [] (SH, jn C0 D) none (SH, jn (C') D) := by
  show mj_R M_Of_insert 0 [some (.ref 26), some (.int x1), some (.int x2), none] [] _ _ _
  unfold f_Of_insert at h
  refine mj_aload_n (pc := 0) (i := 0) d_Of_insert_0 rfl rfl (by decide) ?_
  refine cj_getI (pc := 1) d_Of_insert_1 fl_Of_31 sh_26 rfl (by decide) (by decide) (by decide) ?_
  refine mj_istore_n (pc := 4) (i := 3) d_Of_insert_4 rfl rfl (by decide) ?_
  obtain ⟨o8, C9, hl10, h⟩ := bd2_some h
  refine mj_weak [some (.ref 26), some (.int x1), some (.int x2), some (.int (C0 26 4))] (And.intro rfl (And.intro rfl (And.intro rfl (And.intro rfl trivial)))) (l_Of_insert_5 3000 _ _ _ _ _ _ hl10 ?_)
  refine mj_aload_n (pc := 55) (i := 0) d_Of_insert_55 rfl rfl (by decide) ?_
  refine mj_getR (pc := 56) d_Of_insert_56 fl_Of_21 sh_26 rfl rfl (by decide) (by decide) (by decide) ?_
  refine mj_iload_n (pc := 59) (i := 3) d_Of_insert_59 rfl rfl ?_
  refine mj_iload_n (pc := 60) (i := 1) d_Of_insert_60 rfl rfl ?_
  obtain ⟨hg11, h⟩ := mj_gd h
  refine cj_iast (pc := 61) d_Of_insert_61 sh_30 (by decide) hg11 (by decide) ?_
  refine mj_aload_n (pc := 62) (i := 0) d_Of_insert_62 rfl rfl (by decide) ?_
  refine mj_dup (pc := 63) d_Of_insert_63 rfl ?_
  refine cj_getI (pc := 64) d_Of_insert_64 fl_Of_31 sh_26 rfl (by decide) (by decide) (by decide) ?_
  refine mj_iconst (pc := 67) (v := 1) d_Of_insert_67 (by decide) ?_
  refine mj_iadd (pc := 68) d_Of_insert_68 ?_
  refine cj_putI (pc := 69) d_Of_insert_69 fl_Of_31 sh_26 rfl (fun _ _ _ h => by cases h; rfl) (by decide) (by decide) (by decide) ?_
  obtain e_1 := inj1 h
  subst e_1
  exact mj_vret (pc := 72) d_Of_insert_72 rfl
set_option maxRecDepth 20000 in
theorem l_Of_pick_7 {r : Option Value} {D y : St} : ∀ (n : Nat) (y1 : Int32) (y2 : Int32) (y3 : Int32) (C : St) (Q_ : St), L_Of_pick_7 n y1 y2 y3 C = some Q_ → mj_R M_Of_pick 37 [none, none, none, none] [] (SH, jn Q_ D) r (SH, y) → mj_R M_Of_pick 7 [some (.ref 26), some (.int y1), some (.int y2), some (.int y3)] [] (SH, jn C D) r (SH, y) := by
  intro n
  induction n with
  | zero => intro y1 y2 y3 C Q_ h; cases h
  | succ n ih =>
    intro y1 y2 y3 C Q_ h hX
    unfold L_Of_pick_7 at h
    refine mj_iload_n (pc := 7) (i := 3) d_Of_pick_7 rfl rfl ?_
    refine mj_aload_n (pc := 8) (i := 0) d_Of_pick_8 rfl rfl (by decide) ?_
    refine cj_getI (pc := 9) d_Of_pick_9 fl_Of_27 sh_26 rfl (by decide) (by decide) (by decide) ?_
    refine mj_icmp_ge (pc := 12) (tgt := 37) d_Of_pick_12 (by decide) mj_hs (fun hc1 => ?_) (fun hc1 => ?_)
    · rw [if_pos hc1] at h
      obtain e_1 := inj1 h
      subst e_1
      exact mj_wk hX trivial
    · rw [if_neg hc1] at h
      refine mj_aload_n (pc := 15) (i := 0) d_Of_pick_15 rfl rfl (by decide) ?_
      refine mj_getR (pc := 16) d_Of_pick_16 fl_Of_24 sh_26 rfl rfl (by decide) (by decide) (by decide) ?_
      refine mj_iload_n (pc := 19) (i := 3) d_Of_pick_19 rfl rfl ?_
      obtain ⟨hg2, h⟩ := mj_gd h
      refine cj_iald (pc := 20) d_Of_pick_20 sh_31 (by decide) hg2 (by decide) ?_
      refine mj_iload_n (pc := 21) (i := 1) d_Of_pick_21 rfl rfl ?_
      obtain ⟨C6, hb8, h⟩ := bd1_some h
      have k7 : mj_R M_Of_pick 31 [some (.ref 26), some (.int y1), some (.int y2), some (.int y3)] [] (SH, jn C6 D) r (SH, y) := by
        refine mj_iinc (pc := 31) (i := 3) (v := y3 + 1) d_Of_pick_31 rfl (by rfl) rfl (by decide) ?_
        refine mj_goto (pc := 34) (tgt := 7) d_Of_pick_34 (by decide) ?_
        exact mj_weak [some (.ref 26), some (.int y1), some (.int y2), some (.int (y3 + 1))] (And.intro rfl (And.intro rfl (And.intro rfl (And.intro rfl trivial)))) (ih _ _ _ _ _ h hX)
      have h := hb8
      refine mj_icmp_ne (pc := 22) (tgt := 31) d_Of_pick_22 (by decide) mj_hs (fun hc3 => ?_) (fun hc3 => ?_)
      · rw [if_neg hc3] at h
        obtain e_1 := inj1 h
        subst e_1
        exact mj_wk k7 (And.intro rfl (And.intro rfl (And.intro rfl (And.intro rfl trivial))))
      · rw [if_pos hc3] at h
        refine mj_aload_n (pc := 25) (i := 0) d_Of_pick_25 rfl rfl (by decide) ?_
        refine mj_iload_n (pc := 26) (i := 3) d_Of_pick_26 rfl rfl ?_
        refine mj_iload_n (pc := 27) (i := 2) d_Of_pick_27 rfl rfl ?_
        obtain ⟨C4, hb5, h⟩ := bd1_some h
        refine mj_callV (pc := 28) (b := 26) (vs := [.int y3, .int y2]) (st := []) d_Of_pick_28 bB_Of_pick_Of_insert lk_Of_34 iv_Of_insert rc_26 rfl (Nat.le_of_ble_eq_true rfl) (Nat.le_of_ble_eq_true rfl) (r_Of_insert hb5) ?_
        show mj_R M_Of_pick 31 [some (.ref 26), some (.int y1), some (.int y2), some (.int y3)] [] (SH, jn C4 D) r (SH, y)
        obtain e_1 := inj1 h
        subst e_1
        exact mj_wk k7 (And.intro rfl (And.intro rfl (And.intro rfl (And.intro rfl trivial))))
set_option maxRecDepth 20000 in
theorem r_Of_pick {x1 : Int32} {x2 : Int32} {C0 D : St} {C' : St} (h : f_Of_pick x1 x2 C0 = some (C')) : mj_R M_Of_pick 0 (mj_lv M_Of_pick.2.2.1 [.ref 26, .int x1, .int x2]) [] (SH, jn C0 D) none (SH, jn (C') D) := by
  show mj_R M_Of_pick 0 [some (.ref 26), some (.int x1), some (.int x2), none] [] _ _ _
  unfold f_Of_pick at h
  refine mj_aload_n (pc := 0) (i := 0) d_Of_pick_0 rfl rfl (by decide) ?_
  refine mj_iconst (pc := 1) (v := 0) d_Of_pick_1 (by decide) ?_
  refine cj_putI (pc := 2) d_Of_pick_2 fl_Of_31 sh_26 rfl (fun _ _ _ h => by cases h; rfl) (by decide) (by decide) (by decide) ?_
  refine mj_iconst (pc := 5) (v := 0) d_Of_pick_5 (by decide) ?_
  refine mj_istore_n (pc := 6) (i := 3) d_Of_pick_6 rfl rfl (by decide) ?_
  obtain ⟨C9, hl10, h⟩ := bd1_some h
  refine mj_weak [some (.ref 26), some (.int x1), some (.int x2), some (.int 0)] (And.intro rfl (And.intro rfl (And.intro rfl (And.intro rfl trivial)))) (l_Of_pick_7 3000 _ _ _ _ _ hl10 ?_)
  obtain e_1 := inj1 h
  subst e_1
  exact mj_vret (pc := 37) d_Of_pick_37 rfl
set_option maxRecDepth 20000 in
theorem l_Of_insert_1_5 {r : Option Value} {D y : St} : ∀ (n : Nat) (y1 : Int32) (y2 : Int32) (y3 : Int32) (C : St) (o3_ : Int32) (Q_ : St), L_Of_insert_1_5 n y1 y2 y3 C = some (o3_, Q_) → mj_R M_Of_insert 55 [some (.ref 32), some (.int y1), none, some (.int o3_)] [] (SH, jn Q_ D) r (SH, y) → mj_R M_Of_insert 5 [some (.ref 32), some (.int y1), some (.int y2), some (.int y3)] [] (SH, jn C D) r (SH, y) := by
  intro n
  induction n with
  | zero => intro y1 y2 y3 C o3_ Q_ h; cases h
  | succ n ih =>
    intro y1 y2 y3 C o3_ Q_ h hX
    unfold L_Of_insert_1_5 at h
    refine mj_iload_n (pc := 5) (i := 3) d_Of_insert_5 rfl rfl ?_
    refine mj_if_le (y := 0) (pc := 6) (tgt := 55) d_Of_insert_6 (by decide) mj_hs (fun hc1 => ?_) (fun hc1 => ?_)
    · rw [if_pos hc1] at h
      obtain ⟨e_1, e_2⟩ := inj2 h
      subst e_1
      subst e_2
      exact mj_wk hX (And.intro rfl (And.intro rfl (And.intro rfl trivial)))
    · rw [if_neg hc1] at h
      refine mj_iload_n (pc := 9) (i := 2) d_Of_insert_9 rfl rfl ?_
      refine mj_aload_n (pc := 10) (i := 0) d_Of_insert_10 rfl rfl (by decide) ?_
      refine mj_getR (pc := 11) d_Of_insert_11 fl_Of_15 sh_32 rfl rfl (by decide) (by decide) (by decide) ?_
      refine mj_aload_n (pc := 14) (i := 0) d_Of_insert_14 rfl rfl (by decide) ?_
      refine mj_getR (pc := 15) d_Of_insert_15 fl_Of_21 sh_32 rfl rfl (by decide) (by decide) (by decide) ?_
      refine mj_iload_n (pc := 18) (i := 3) d_Of_insert_18 rfl rfl ?_
      refine mj_iconst (pc := 19) (v := 1) d_Of_insert_19 (by decide) ?_
      refine mj_isub (pc := 20) d_Of_insert_20 ?_
      obtain ⟨hg2, h⟩ := mj_gd h
      refine cj_iald (pc := 21) d_Of_insert_21 sh_36 (by decide) hg2 (by decide) ?_
      obtain ⟨hg3, h⟩ := mj_gd h
      refine cj_iald (pc := 22) d_Of_insert_22 sh_34 (by decide) hg3 (by decide) ?_
      refine mj_imul (pc := 23) d_Of_insert_23 ?_
      refine mj_iload_n (pc := 24) (i := 2) d_Of_insert_24 rfl rfl ?_
      refine mj_aload_n (pc := 25) (i := 0) d_Of_insert_25 rfl rfl (by decide) ?_
      refine mj_getR (pc := 26) d_Of_insert_26 fl_Of_15 sh_32 rfl rfl (by decide) (by decide) (by decide) ?_
      refine mj_iload_n (pc := 29) (i := 1) d_Of_insert_29 rfl rfl ?_
      obtain ⟨hg4, h⟩ := mj_gd h
      refine cj_iald (pc := 30) d_Of_insert_30 sh_34 (by decide) hg4 (by decide) ?_
      refine mj_imul (pc := 31) d_Of_insert_31 ?_
      refine mj_icmp_le (pc := 32) (tgt := 55) d_Of_insert_32 (by decide) mj_hs (fun hc5 => ?_) (fun hc5 => ?_)
      · rw [if_pos hc5] at h
        obtain ⟨e_1, e_2⟩ := inj2 h
        subst e_1
        subst e_2
        exact mj_wk hX (And.intro rfl (And.intro rfl (And.intro rfl trivial)))
      · rw [if_neg hc5] at h
        refine mj_aload_n (pc := 35) (i := 0) d_Of_insert_35 rfl rfl (by decide) ?_
        refine mj_getR (pc := 36) d_Of_insert_36 fl_Of_21 sh_32 rfl rfl (by decide) (by decide) (by decide) ?_
        refine mj_iload_n (pc := 39) (i := 3) d_Of_insert_39 rfl rfl ?_
        refine mj_aload_n (pc := 40) (i := 0) d_Of_insert_40 rfl rfl (by decide) ?_
        refine mj_getR (pc := 41) d_Of_insert_41 fl_Of_21 sh_32 rfl rfl (by decide) (by decide) (by decide) ?_
        refine mj_iload_n (pc := 44) (i := 3) d_Of_insert_44 rfl rfl ?_
        refine mj_iconst (pc := 45) (v := 1) d_Of_insert_45 (by decide) ?_
        refine mj_isub (pc := 46) d_Of_insert_46 ?_
        refine cj_iald (pc := 47) d_Of_insert_47 sh_36 (by decide) hg2 (by decide) ?_
        obtain ⟨hg7, h⟩ := mj_gd h
        refine cj_iast (pc := 48) d_Of_insert_48 sh_36 (by decide) hg7 (by decide) ?_
        refine mj_iinc (pc := 49) (i := 3) (v := y3 + (-1)) d_Of_insert_49 rfl (by rfl) rfl (by decide) ?_
        refine mj_goto (pc := 52) (tgt := 5) d_Of_insert_52 (by decide) ?_
        exact mj_weak [some (.ref 32), some (.int y1), some (.int y2), some (.int (y3 + (-1)))] (And.intro rfl (And.intro rfl (And.intro rfl (And.intro rfl trivial)))) (ih _ _ _ _ _ _ h hX)
set_option maxRecDepth 20000 in
theorem r_Of_insert_1 {x1 : Int32} {x2 : Int32} {C0 D : St} {C' : St} (h : f_Of_insert_1 x1 x2 C0 = some (C')) : mj_R M_Of_insert 0 (mj_lv M_Of_insert.2.2.1 [.ref 32, .int x1, .int x2]) [] (SH, jn C0 D) none (SH, jn (C') D) := by
  show mj_R M_Of_insert 0 [some (.ref 32), some (.int x1), some (.int x2), none] [] _ _ _
  unfold f_Of_insert_1 at h
  refine mj_aload_n (pc := 0) (i := 0) d_Of_insert_0 rfl rfl (by decide) ?_
  refine cj_getI (pc := 1) d_Of_insert_1 fl_Of_31 sh_32 rfl (by decide) (by decide) (by decide) ?_
  refine mj_istore_n (pc := 4) (i := 3) d_Of_insert_4 rfl rfl (by decide) ?_
  obtain ⟨o8, C9, hl10, h⟩ := bd2_some h
  refine mj_weak [some (.ref 32), some (.int x1), some (.int x2), some (.int (C0 32 4))] (And.intro rfl (And.intro rfl (And.intro rfl (And.intro rfl trivial)))) (l_Of_insert_1_5 3000 _ _ _ _ _ _ hl10 ?_)
  refine mj_aload_n (pc := 55) (i := 0) d_Of_insert_55 rfl rfl (by decide) ?_
  refine mj_getR (pc := 56) d_Of_insert_56 fl_Of_21 sh_32 rfl rfl (by decide) (by decide) (by decide) ?_
  refine mj_iload_n (pc := 59) (i := 3) d_Of_insert_59 rfl rfl ?_
  refine mj_iload_n (pc := 60) (i := 1) d_Of_insert_60 rfl rfl ?_
  obtain ⟨hg11, h⟩ := mj_gd h
  refine cj_iast (pc := 61) d_Of_insert_61 sh_36 (by decide) hg11 (by decide) ?_
  refine mj_aload_n (pc := 62) (i := 0) d_Of_insert_62 rfl rfl (by decide) ?_
  refine mj_dup (pc := 63) d_Of_insert_63 rfl ?_
  refine cj_getI (pc := 64) d_Of_insert_64 fl_Of_31 sh_32 rfl (by decide) (by decide) (by decide) ?_
  refine mj_iconst (pc := 67) (v := 1) d_Of_insert_67 (by decide) ?_
  refine mj_iadd (pc := 68) d_Of_insert_68 ?_
  refine cj_putI (pc := 69) d_Of_insert_69 fl_Of_31 sh_32 rfl (fun _ _ _ h => by cases h; rfl) (by decide) (by decide) (by decide) ?_
  obtain e_1 := inj1 h
  subst e_1
  exact mj_vret (pc := 72) d_Of_insert_72 rfl
set_option maxRecDepth 20000 in
theorem l_Of_pick_1_7 {r : Option Value} {D y : St} : ∀ (n : Nat) (y1 : Int32) (y2 : Int32) (y3 : Int32) (C : St) (Q_ : St), L_Of_pick_1_7 n y1 y2 y3 C = some Q_ → mj_R M_Of_pick 37 [none, none, none, none] [] (SH, jn Q_ D) r (SH, y) → mj_R M_Of_pick 7 [some (.ref 32), some (.int y1), some (.int y2), some (.int y3)] [] (SH, jn C D) r (SH, y) := by
  intro n
  induction n with
  | zero => intro y1 y2 y3 C Q_ h; cases h
  | succ n ih =>
    intro y1 y2 y3 C Q_ h hX
    unfold L_Of_pick_1_7 at h
    refine mj_iload_n (pc := 7) (i := 3) d_Of_pick_7 rfl rfl ?_
    refine mj_aload_n (pc := 8) (i := 0) d_Of_pick_8 rfl rfl (by decide) ?_
    refine cj_getI (pc := 9) d_Of_pick_9 fl_Of_27 sh_32 rfl (by decide) (by decide) (by decide) ?_
    refine mj_icmp_ge (pc := 12) (tgt := 37) d_Of_pick_12 (by decide) mj_hs (fun hc1 => ?_) (fun hc1 => ?_)
    · rw [if_pos hc1] at h
      obtain e_1 := inj1 h
      subst e_1
      exact mj_wk hX trivial
    · rw [if_neg hc1] at h
      refine mj_aload_n (pc := 15) (i := 0) d_Of_pick_15 rfl rfl (by decide) ?_
      refine mj_getR (pc := 16) d_Of_pick_16 fl_Of_24 sh_32 rfl rfl (by decide) (by decide) (by decide) ?_
      refine mj_iload_n (pc := 19) (i := 3) d_Of_pick_19 rfl rfl ?_
      obtain ⟨hg2, h⟩ := mj_gd h
      refine cj_iald (pc := 20) d_Of_pick_20 sh_37 (by decide) hg2 (by decide) ?_
      refine mj_iload_n (pc := 21) (i := 1) d_Of_pick_21 rfl rfl ?_
      obtain ⟨C6, hb8, h⟩ := bd1_some h
      have k7 : mj_R M_Of_pick 31 [some (.ref 32), some (.int y1), some (.int y2), some (.int y3)] [] (SH, jn C6 D) r (SH, y) := by
        refine mj_iinc (pc := 31) (i := 3) (v := y3 + 1) d_Of_pick_31 rfl (by rfl) rfl (by decide) ?_
        refine mj_goto (pc := 34) (tgt := 7) d_Of_pick_34 (by decide) ?_
        exact mj_weak [some (.ref 32), some (.int y1), some (.int y2), some (.int (y3 + 1))] (And.intro rfl (And.intro rfl (And.intro rfl (And.intro rfl trivial)))) (ih _ _ _ _ _ h hX)
      have h := hb8
      refine mj_icmp_ne (pc := 22) (tgt := 31) d_Of_pick_22 (by decide) mj_hs (fun hc3 => ?_) (fun hc3 => ?_)
      · rw [if_neg hc3] at h
        obtain e_1 := inj1 h
        subst e_1
        exact mj_wk k7 (And.intro rfl (And.intro rfl (And.intro rfl (And.intro rfl trivial))))
      · rw [if_pos hc3] at h
        refine mj_aload_n (pc := 25) (i := 0) d_Of_pick_25 rfl rfl (by decide) ?_
        refine mj_iload_n (pc := 26) (i := 3) d_Of_pick_26 rfl rfl ?_
        refine mj_iload_n (pc := 27) (i := 2) d_Of_pick_27 rfl rfl ?_
        obtain ⟨C4, hb5, h⟩ := bd1_some h
        refine mj_callV (pc := 28) (b := 32) (vs := [.int y3, .int y2]) (st := []) d_Of_pick_28 bB_Of_pick_Of_insert lk_Of_34 iv_Of_insert rc_32 rfl (Nat.le_of_ble_eq_true rfl) (Nat.le_of_ble_eq_true rfl) (r_Of_insert_1 hb5) ?_
        show mj_R M_Of_pick 31 [some (.ref 32), some (.int y1), some (.int y2), some (.int y3)] [] (SH, jn C4 D) r (SH, y)
        obtain e_1 := inj1 h
        subst e_1
        exact mj_wk k7 (And.intro rfl (And.intro rfl (And.intro rfl (And.intro rfl trivial))))
set_option maxRecDepth 20000 in
theorem r_Of_pick_1 {x1 : Int32} {x2 : Int32} {C0 D : St} {C' : St} (h : f_Of_pick_1 x1 x2 C0 = some (C')) : mj_R M_Of_pick 0 (mj_lv M_Of_pick.2.2.1 [.ref 32, .int x1, .int x2]) [] (SH, jn C0 D) none (SH, jn (C') D) := by
  show mj_R M_Of_pick 0 [some (.ref 32), some (.int x1), some (.int x2), none] [] _ _ _
  unfold f_Of_pick_1 at h
  refine mj_aload_n (pc := 0) (i := 0) d_Of_pick_0 rfl rfl (by decide) ?_
  refine mj_iconst (pc := 1) (v := 0) d_Of_pick_1 (by decide) ?_
  refine cj_putI (pc := 2) d_Of_pick_2 fl_Of_31 sh_32 rfl (fun _ _ _ h => by cases h; rfl) (by decide) (by decide) (by decide) ?_
  refine mj_iconst (pc := 5) (v := 0) d_Of_pick_5 (by decide) ?_
  refine mj_istore_n (pc := 6) (i := 3) d_Of_pick_6 rfl rfl (by decide) ?_
  obtain ⟨C9, hl10, h⟩ := bd1_some h
  refine mj_weak [some (.ref 32), some (.int x1), some (.int x2), some (.int 0)] (And.intro rfl (And.intro rfl (And.intro rfl (And.intro rfl trivial)))) (l_Of_pick_1_7 3000 _ _ _ _ _ hl10 ?_)
  obtain e_1 := inj1 h
  subst e_1
  exact mj_vret (pc := 37) d_Of_pick_37 rfl
set_option maxRecDepth 20000 in
theorem r_Mt_agree {x1 : Int32} {x2 : Int32} {C0 D : St} {v : Int32} (h : f_Mt_agree x1 x2 C0 = some v) : mj_R M_Mt_agree 0 (mj_lv M_Mt_agree.2.2.1 [.ref 25, .int x1, .int x2]) [] (SH, jn C0 D) (some (.int v)) (SH, jn C0 D) := by
  show mj_R M_Mt_agree 0 [some (.ref 25), some (.int x1), some (.int x2)] [] _ _ _
  unfold f_Mt_agree at h
  refine mj_aload_n (pc := 0) (i := 0) d_Mt_agree_0 rfl rfl (by decide) ?_
  refine mj_getR (pc := 1) d_Mt_agree_1 fl_Mt_12 sh_25 rfl rfl (by decide) (by decide) (by decide) ?_
  refine mj_getR (pc := 4) d_Mt_agree_4 fl_Mt_98 sh_26 rfl rfl (by decide) (by decide) (by decide) ?_
  refine mj_aload_n (pc := 7) (i := 0) d_Mt_agree_7 rfl rfl (by decide) ?_
  refine mj_getR (pc := 8) d_Mt_agree_8 fl_Mt_12 sh_25 rfl rfl (by decide) (by decide) (by decide) ?_
  refine mj_getR (pc := 11) d_Mt_agree_11 fl_Mt_101 sh_26 rfl rfl (by decide) (by decide) (by decide) ?_
  refine mj_iload_n (pc := 14) (i := 1) d_Mt_agree_14 rfl rfl ?_
  obtain ⟨hg1, h⟩ := mj_gd h
  refine cj_iald (pc := 15) d_Mt_agree_15 sh_30 (by decide) hg1 (by decide) ?_
  obtain ⟨hg2, h⟩ := mj_gd h
  refine cj_iald (pc := 16) d_Mt_agree_16 sh_28 (by decide) hg2 (by decide) ?_
  refine mj_aload_n (pc := 17) (i := 0) d_Mt_agree_17 rfl rfl (by decide) ?_
  refine mj_getR (pc := 18) d_Mt_agree_18 fl_Mt_18 sh_25 rfl rfl (by decide) (by decide) (by decide) ?_
  refine mj_getR (pc := 21) d_Mt_agree_21 fl_Mt_98 sh_32 rfl rfl (by decide) (by decide) (by decide) ?_
  refine mj_aload_n (pc := 24) (i := 0) d_Mt_agree_24 rfl rfl (by decide) ?_
  refine mj_getR (pc := 25) d_Mt_agree_25 fl_Mt_18 sh_25 rfl rfl (by decide) (by decide) (by decide) ?_
  refine mj_getR (pc := 28) d_Mt_agree_28 fl_Mt_101 sh_32 rfl rfl (by decide) (by decide) (by decide) ?_
  refine mj_iload_n (pc := 31) (i := 2) d_Mt_agree_31 rfl rfl ?_
  obtain ⟨hg3, h⟩ := mj_gd h
  refine cj_iald (pc := 32) d_Mt_agree_32 sh_36 (by decide) hg3 (by decide) ?_
  obtain ⟨hg4, h⟩ := mj_gd h
  refine cj_iald (pc := 33) d_Mt_agree_33 sh_34 (by decide) hg4 (by decide) ?_
  have k6 : mj_R M_Mt_agree 42 [none, none, none] [.int (if (C0 34 (C0 36 x2.toNatClampNeg).toNatClampNeg) < (C0 28 (C0 30 x1.toNatClampNeg).toNatClampNeg) then 0 else 1 : Int32)] (SH, jn C0 D) (some (.int v)) (SH, jn C0 D) := by
    obtain e_1 := inj1 h
    subst e_1
    exact mj_zret (pc := 42) (ty := .boolean) d_Mt_agree_42 rfl (mj_b01 (by (repeat' split) <;> simp))
  refine mj_icmp_gt (pc := 34) (tgt := 41) d_Mt_agree_34 (by decide) mj_hs (fun hc5 => ?_) (fun hc5 => ?_)
  · refine mj_iconst (pc := 41) (v := 0) d_Mt_agree_41 (by decide) ?_
    try simp only [if_pos hc5] at k6
    exact mj_wk k6 trivial
  · refine mj_iconst (pc := 37) (v := 1) d_Mt_agree_37 (by decide) ?_
    refine mj_goto (pc := 38) (tgt := 42) d_Mt_agree_38 (by decide) ?_
    try simp only [if_neg hc5] at k6
    exact mj_wk k6 trivial
set_option maxRecDepth 20000 in
theorem l_Mt_calledPrice_12 {r : Option Value} {D y : St} : ∀ (n : Nat) (y1 : Int32) (y2 : Int32) (y3 : Int32) (y4 : Int32) (y5 : Int32) (C : St) (o1_ : Int32), L_Mt_calledPrice_12 n y1 y2 y3 y4 y5 C = some o1_ → mj_R M_Mt_calledPrice 132 [none, some (.int o1_), none, none, none, none, none, none] [] (SH, jn C D) r (SH, y) → mj_R M_Mt_calledPrice 12 [some (.ref 25), some (.int y1), some (.int y2), some (.int y3), some (.int y4), some (.int y5), none, none] [] (SH, jn C D) r (SH, y) := by
  intro n
  induction n with
  | zero => intro y1 y2 y3 y4 y5 C o1_ h; cases h
  | succ n ih =>
    intro y1 y2 y3 y4 y5 C o1_ h hX
    unfold L_Mt_calledPrice_12 at h
    refine mj_iload_n (pc := 12) (i := 2) d_Mt_calledPrice_12 rfl rfl ?_
    refine mj_aload_n (pc := 13) (i := 0) d_Mt_calledPrice_13 rfl rfl (by decide) ?_
    refine mj_getR (pc := 14) d_Mt_calledPrice_14 fl_Mt_12 sh_25 rfl rfl (by decide) (by decide) (by decide) ?_
    refine cj_getI (pc := 17) d_Mt_calledPrice_17 fl_Mt_91 sh_26 rfl (by decide) (by decide) (by decide) ?_
    refine mj_icmp_ge (pc := 20) (tgt := 132) d_Mt_calledPrice_20 (by decide) mj_hs (fun hc1 => ?_) (fun hc1 => ?_)
    · rw [if_pos hc1] at h
      obtain e_1 := inj1 h
      subst e_1
      exact mj_wk hX (And.intro rfl trivial)
    · rw [if_neg hc1] at h
      refine mj_iload_n (pc := 23) (i := 3) d_Mt_calledPrice_23 rfl rfl ?_
      refine mj_aload_n (pc := 24) (i := 0) d_Mt_calledPrice_24 rfl rfl (by decide) ?_
      refine mj_getR (pc := 25) d_Mt_calledPrice_25 fl_Mt_18 sh_25 rfl rfl (by decide) (by decide) (by decide) ?_
      refine cj_getI (pc := 28) d_Mt_calledPrice_28 fl_Mt_91 sh_32 rfl (by decide) (by decide) (by decide) ?_
      refine mj_icmp_ge (pc := 31) (tgt := 132) d_Mt_calledPrice_31 (by decide) mj_hs (fun hc2 => ?_) (fun hc2 => ?_)
      · rw [if_pos hc2] at h
        obtain e_1 := inj1 h
        subst e_1
        exact mj_wk hX (And.intro rfl trivial)
      · rw [if_neg hc2] at h
        refine mj_aload_n (pc := 34) (i := 0) d_Mt_calledPrice_34 rfl rfl (by decide) ?_
        refine mj_iload_n (pc := 35) (i := 2) d_Mt_calledPrice_35 rfl rfl ?_
        refine mj_iload_n (pc := 36) (i := 3) d_Mt_calledPrice_36 rfl rfl ?_
        obtain ⟨v3, hb4, h⟩ := bd1_some h
        refine mj_callV (pc := 37) (b := 25) (vs := [.int y2, .int y3]) (st := []) d_Mt_calledPrice_37 bB_Mt_calledPrice_Mt_agree lk_Mt_94 iv_Mt_agree rc_25 rfl (Nat.le_of_ble_eq_true rfl) (Nat.le_of_ble_eq_true rfl) (r_Mt_agree hb4) ?_
        show mj_R M_Mt_calledPrice 40 [some (.ref 25), some (.int y1), some (.int y2), some (.int y3), some (.int y4), some (.int y5), none, none] [.int v3] (SH, jn C D) r (SH, y)
        refine mj_if_eq (y := 0) (pc := 40) (tgt := 132) d_Mt_calledPrice_40 (by decide) mj_hs (fun hc5 => ?_) (fun hc5 => ?_)
        · rw [if_pos hc5] at h
          obtain e_1 := inj1 h
          subst e_1
          exact mj_wk hX (And.intro rfl trivial)
        · rw [if_neg hc5] at h
          refine mj_aload_n (pc := 43) (i := 0) d_Mt_calledPrice_43 rfl rfl (by decide) ?_
          refine mj_getR (pc := 44) d_Mt_calledPrice_44 fl_Mt_12 sh_25 rfl rfl (by decide) (by decide) (by decide) ?_
          refine mj_getR (pc := 47) d_Mt_calledPrice_47 fl_Mt_98 sh_26 rfl rfl (by decide) (by decide) (by decide) ?_
          refine mj_aload_n (pc := 50) (i := 0) d_Mt_calledPrice_50 rfl rfl (by decide) ?_
          refine mj_getR (pc := 51) d_Mt_calledPrice_51 fl_Mt_12 sh_25 rfl rfl (by decide) (by decide) (by decide) ?_
          refine mj_getR (pc := 54) d_Mt_calledPrice_54 fl_Mt_101 sh_26 rfl rfl (by decide) (by decide) (by decide) ?_
          refine mj_iload_n (pc := 57) (i := 2) d_Mt_calledPrice_57 rfl rfl ?_
          obtain ⟨hg6, h⟩ := mj_gd h
          refine cj_iald (pc := 58) d_Mt_calledPrice_58 sh_30 (by decide) hg6 (by decide) ?_
          obtain ⟨hg7, h⟩ := mj_gd h
          refine cj_iald (pc := 59) d_Mt_calledPrice_59 sh_28 (by decide) hg7 (by decide) ?_
          refine mj_istore_n (pc := 60) (i := 1) d_Mt_calledPrice_60 rfl rfl (by decide) ?_
          refine mj_iload (pc := 61) (i := 4) d_Mt_calledPrice_61 rfl ?_
          refine mj_aload_n (pc := 63) (i := 0) d_Mt_calledPrice_63 rfl rfl (by decide) ?_
          refine mj_getR (pc := 64) d_Mt_calledPrice_64 fl_Mt_12 sh_25 rfl rfl (by decide) (by decide) (by decide) ?_
          refine mj_getR (pc := 67) d_Mt_calledPrice_67 fl_Mt_104 sh_26 rfl rfl (by decide) (by decide) (by decide) ?_
          refine mj_aload_n (pc := 70) (i := 0) d_Mt_calledPrice_70 rfl rfl (by decide) ?_
          refine mj_getR (pc := 71) d_Mt_calledPrice_71 fl_Mt_12 sh_25 rfl rfl (by decide) (by decide) (by decide) ?_
          refine mj_getR (pc := 74) d_Mt_calledPrice_74 fl_Mt_101 sh_26 rfl rfl (by decide) (by decide) (by decide) ?_
          refine mj_iload_n (pc := 77) (i := 2) d_Mt_calledPrice_77 rfl rfl ?_
          refine cj_iald (pc := 78) d_Mt_calledPrice_78 sh_30 (by decide) hg6 (by decide) ?_
          refine cj_iald (pc := 79) d_Mt_calledPrice_79 sh_29 (by decide) hg7 (by decide) ?_
          refine mj_iadd (pc := 80) d_Mt_calledPrice_80 ?_
          refine mj_istore (pc := 81) (i := 6) d_Mt_calledPrice_81 rfl (by decide) ?_
          refine mj_iload (pc := 83) (i := 5) d_Mt_calledPrice_83 rfl ?_
          refine mj_aload_n (pc := 85) (i := 0) d_Mt_calledPrice_85 rfl rfl (by decide) ?_
          refine mj_getR (pc := 86) d_Mt_calledPrice_86 fl_Mt_18 sh_25 rfl rfl (by decide) (by decide) (by decide) ?_
          refine mj_getR (pc := 89) d_Mt_calledPrice_89 fl_Mt_104 sh_32 rfl rfl (by decide) (by decide) (by decide) ?_
          refine mj_aload_n (pc := 92) (i := 0) d_Mt_calledPrice_92 rfl rfl (by decide) ?_
          refine mj_getR (pc := 93) d_Mt_calledPrice_93 fl_Mt_18 sh_25 rfl rfl (by decide) (by decide) (by decide) ?_
          refine mj_getR (pc := 96) d_Mt_calledPrice_96 fl_Mt_101 sh_32 rfl rfl (by decide) (by decide) (by decide) ?_
          refine mj_iload_n (pc := 99) (i := 3) d_Mt_calledPrice_99 rfl rfl ?_
          obtain ⟨hg10, h⟩ := mj_gd h
          refine cj_iald (pc := 100) d_Mt_calledPrice_100 sh_36 (by decide) hg10 (by decide) ?_
          obtain ⟨hg11, h⟩ := mj_gd h
          refine cj_iald (pc := 101) d_Mt_calledPrice_101 sh_35 (by decide) hg11 (by decide) ?_
          refine mj_iadd (pc := 102) d_Mt_calledPrice_102 ?_
          refine mj_istore (pc := 103) (i := 7) d_Mt_calledPrice_103 rfl (by decide) ?_
          refine mj_iload (pc := 105) (i := 6) d_Mt_calledPrice_105 rfl ?_
          refine mj_iload (pc := 107) (i := 7) d_Mt_calledPrice_107 rfl ?_
          have k13 : mj_R M_Mt_calledPrice 129 [some (.ref 25), some (.int (C 28 (C 30 y2.toNatClampNeg).toNatClampNeg)), some (.int (if (y5 + (C 35 (C 36 y3.toNatClampNeg).toNatClampNeg)) ≤ (y4 + (C 29 (C 30 y2.toNatClampNeg).toNatClampNeg)) then y2 else y2 + 1 : Int32)), some (.int (if (y5 + (C 35 (C 36 y3.toNatClampNeg).toNatClampNeg)) ≤ (y4 + (C 29 (C 30 y2.toNatClampNeg).toNatClampNeg)) then y3 + 1 else y3 : Int32)), some (.int (if (y5 + (C 35 (C 36 y3.toNatClampNeg).toNatClampNeg)) ≤ (y4 + (C 29 (C 30 y2.toNatClampNeg).toNatClampNeg)) then y4 else y4 + (C 29 (C 30 y2.toNatClampNeg).toNatClampNeg) : Int32)), some (.int (if (y5 + (C 35 (C 36 y3.toNatClampNeg).toNatClampNeg)) ≤ (y4 + (C 29 (C 30 y2.toNatClampNeg).toNatClampNeg)) then y5 + (C 35 (C 36 y3.toNatClampNeg).toNatClampNeg) else y5 : Int32)), none, none] [] (SH, jn C D) r (SH, y) := by
            refine mj_goto (pc := 129) (tgt := 12) d_Mt_calledPrice_129 (by decide) ?_
            exact mj_weak [some (.ref 25), some (.int (C 28 (C 30 y2.toNatClampNeg).toNatClampNeg)), some (.int (if (y5 + (C 35 (C 36 y3.toNatClampNeg).toNatClampNeg)) ≤ (y4 + (C 29 (C 30 y2.toNatClampNeg).toNatClampNeg)) then y2 else y2 + 1 : Int32)), some (.int (if (y5 + (C 35 (C 36 y3.toNatClampNeg).toNatClampNeg)) ≤ (y4 + (C 29 (C 30 y2.toNatClampNeg).toNatClampNeg)) then y3 + 1 else y3 : Int32)), some (.int (if (y5 + (C 35 (C 36 y3.toNatClampNeg).toNatClampNeg)) ≤ (y4 + (C 29 (C 30 y2.toNatClampNeg).toNatClampNeg)) then y4 else y4 + (C 29 (C 30 y2.toNatClampNeg).toNatClampNeg) : Int32)), some (.int (if (y5 + (C 35 (C 36 y3.toNatClampNeg).toNatClampNeg)) ≤ (y4 + (C 29 (C 30 y2.toNatClampNeg).toNatClampNeg)) then y5 + (C 35 (C 36 y3.toNatClampNeg).toNatClampNeg) else y5 : Int32)), none, none] (And.intro rfl (And.intro rfl (And.intro rfl (And.intro rfl (And.intro rfl (And.intro rfl trivial)))))) (ih _ _ _ _ _ _ _ h hX)
          refine mj_icmp_ge (pc := 109) (tgt := 122) d_Mt_calledPrice_109 (by decide) mj_hs (fun hc12 => ?_) (fun hc12 => ?_)
          · refine mj_iload (pc := 122) (i := 7) d_Mt_calledPrice_122 rfl ?_
            refine mj_istore (pc := 124) (i := 5) d_Mt_calledPrice_124 rfl (by decide) ?_
            refine mj_iinc (pc := 126) (i := 3) (v := y3 + 1) d_Mt_calledPrice_126 rfl (by rfl) rfl (by decide) ?_
            try simp only [if_pos hc12] at k13
            exact mj_wk k13 (And.intro rfl (And.intro rfl (And.intro rfl (And.intro rfl (And.intro rfl (And.intro rfl trivial))))))
          · refine mj_iload (pc := 112) (i := 6) d_Mt_calledPrice_112 rfl ?_
            refine mj_istore (pc := 114) (i := 4) d_Mt_calledPrice_114 rfl (by decide) ?_
            refine mj_iinc (pc := 116) (i := 2) (v := y2 + 1) d_Mt_calledPrice_116 rfl (by rfl) rfl (by decide) ?_
            refine mj_goto (pc := 119) (tgt := 129) d_Mt_calledPrice_119 (by decide) ?_
            try simp only [if_neg hc12] at k13
            exact mj_wk k13 (And.intro rfl (And.intro rfl (And.intro rfl (And.intro rfl (And.intro rfl (And.intro rfl trivial))))))
set_option maxRecDepth 20000 in
theorem r_Mt_calledPrice  {C0 D : St} {v : Int32} (h : f_Mt_calledPrice C0 = some v) : mj_R M_Mt_calledPrice 0 (mj_lv M_Mt_calledPrice.2.2.1 [.ref 25]) [] (SH, jn C0 D) (some (.int v)) (SH, jn C0 D) := by
  show mj_R M_Mt_calledPrice 0 [some (.ref 25), none, none, none, none, none, none, none] [] _ _ _
  unfold f_Mt_calledPrice at h
  refine mj_iconst (pc := 0) (v := 0) d_Mt_calledPrice_0 (by decide) ?_
  refine mj_istore_n (pc := 1) (i := 1) d_Mt_calledPrice_1 rfl rfl (by decide) ?_
  refine mj_iconst (pc := 2) (v := 0) d_Mt_calledPrice_2 (by decide) ?_
  refine mj_istore_n (pc := 3) (i := 2) d_Mt_calledPrice_3 rfl rfl (by decide) ?_
  refine mj_iconst (pc := 4) (v := 0) d_Mt_calledPrice_4 (by decide) ?_
  refine mj_istore_n (pc := 5) (i := 3) d_Mt_calledPrice_5 rfl rfl (by decide) ?_
  refine mj_iconst (pc := 6) (v := 0) d_Mt_calledPrice_6 (by decide) ?_
  refine mj_istore (pc := 7) (i := 4) d_Mt_calledPrice_7 rfl (by decide) ?_
  refine mj_iconst (pc := 9) (v := 0) d_Mt_calledPrice_9 (by decide) ?_
  refine mj_istore (pc := 10) (i := 5) d_Mt_calledPrice_10 rfl (by decide) ?_
  obtain ⟨o14, hl15, h⟩ := bd1_some h
  refine mj_weak [some (.ref 25), some (.int 0), some (.int 0), some (.int 0), some (.int 0), some (.int 0), none, none] (And.intro rfl (And.intro rfl (And.intro rfl (And.intro rfl (And.intro rfl (And.intro rfl trivial)))))) (l_Mt_calledPrice_12 3000 _ _ _ _ _ _ _ hl15 ?_)
  refine mj_iload_n (pc := 132) (i := 1) d_Mt_calledPrice_132 rfl rfl ?_
  obtain e_1 := inj1 h
  subst e_1
  exact mj_iret (pc := 133) d_Mt_calledPrice_133 rfl
set_option maxRecDepth 20000 in
theorem r_Mt_priceOf {x1 : Int32} {x2 : Int32} {x3 : Int32} {x4 : Int32} {C0 D : St} {v : Int32} (h : f_Mt_priceOf x1 x2 x3 x4 C0 = some v) : mj_R M_Mt_priceOf 0 (mj_lv M_Mt_priceOf.2.2.1 [.ref 25, .int x1, .int x2, .int x3, .int x4]) [] (SH, jn C0 D) (some (.int v)) (SH, jn C0 D) := by
  show mj_R M_Mt_priceOf 0 [some (.ref 25), some (.int x1), some (.int x2), some (.int x3), some (.int x4)] [] _ _ _
  unfold f_Mt_priceOf at h
  refine mj_iload_n (pc := 0) (i := 1) d_Mt_priceOf_0 rfl rfl ?_
  by_cases hc1 : x1 = 1
  · rw [if_pos hc1] at h
    refine mj_lkEq (pc := 1) (tgt := 28) 1 d_Mt_priceOf_1 hc1 (by decide) (by rfl) (by decide) ?_
    refine mj_iload (pc := 28) (i := 4) d_Mt_priceOf_28 rfl ?_
    obtain e_1 := inj1 h
    subst e_1
    exact mj_iret (pc := 30) d_Mt_priceOf_30 rfl
  · rw [if_neg hc1] at h
    by_cases hc2 : x1 = 2
    · rw [if_pos hc2] at h
      refine mj_lkEq (pc := 1) (tgt := 31) 2 d_Mt_priceOf_1 hc2 (by decide) (by rfl) (by decide) ?_
      refine mj_aload_n (pc := 31) (i := 0) d_Mt_priceOf_31 rfl rfl (by decide) ?_
      refine mj_getR (pc := 32) d_Mt_priceOf_32 fl_Mt_18 sh_25 rfl rfl (by decide) (by decide) (by decide) ?_
      refine mj_getR (pc := 35) d_Mt_priceOf_35 fl_Mt_98 sh_32 rfl rfl (by decide) (by decide) (by decide) ?_
      refine mj_iload_n (pc := 38) (i := 3) d_Mt_priceOf_38 rfl rfl ?_
      obtain ⟨hg3, h⟩ := mj_gd h
      refine cj_iald (pc := 39) d_Mt_priceOf_39 sh_34 (by decide) hg3 (by decide) ?_
      refine mj_aload_n (pc := 40) (i := 0) d_Mt_priceOf_40 rfl rfl (by decide) ?_
      refine mj_getR (pc := 41) d_Mt_priceOf_41 fl_Mt_12 sh_25 rfl rfl (by decide) (by decide) (by decide) ?_
      refine mj_getR (pc := 44) d_Mt_priceOf_44 fl_Mt_98 sh_26 rfl rfl (by decide) (by decide) (by decide) ?_
      refine mj_iload_n (pc := 47) (i := 2) d_Mt_priceOf_47 rfl rfl ?_
      obtain ⟨hg4, h⟩ := mj_gd h
      refine cj_iald (pc := 48) d_Mt_priceOf_48 sh_28 (by decide) hg4 (by decide) ?_
      refine mj_iadd (pc := 49) d_Mt_priceOf_49 ?_
      refine mj_iconst (pc := 50) (v := 2) d_Mt_priceOf_50 (by decide) ?_
      refine mj_idiv (pc := 51) d_Mt_priceOf_51 (by decide) ?_
      obtain e_1 := inj1 h
      subst e_1
      exact mj_iret (pc := 52) d_Mt_priceOf_52 rfl
    · rw [if_neg hc2] at h
      refine mj_lookup (pc := 1) (tgt := 53) d_Mt_priceOf_1 (by decide) (by have q0 := i32_ne (n := 1) (by decide) hc1; have q1 := i32_ne (n := 2) (by decide) hc2; simp [Op.lookupswitch.offset, Ne.symm q0, Ne.symm q1]; rfl) (by decide) ?_
      refine mj_aload_n (pc := 53) (i := 0) d_Mt_priceOf_53 rfl rfl (by decide) ?_
      refine mj_getR (pc := 54) d_Mt_priceOf_54 fl_Mt_12 sh_25 rfl rfl (by decide) (by decide) (by decide) ?_
      refine mj_getR (pc := 57) d_Mt_priceOf_57 fl_Mt_98 sh_26 rfl rfl (by decide) (by decide) (by decide) ?_
      refine mj_iload_n (pc := 60) (i := 2) d_Mt_priceOf_60 rfl rfl ?_
      obtain ⟨hg5, h⟩ := mj_gd h
      refine cj_iald (pc := 61) d_Mt_priceOf_61 sh_28 (by decide) hg5 (by decide) ?_
      obtain e_1 := inj1 h
      subst e_1
      exact mj_iret (pc := 62) d_Mt_priceOf_62 rfl
set_option maxRecDepth 20000 in
theorem l_Sk_carry_22 {r : Option Value} {D y : St} : ∀ (n : Nat) (y4 : Int32) (y5 : Int32) (y6 : Int32) (y7 : Int32) (y8 : Int32) (C : St) (o7_ : Int32) (Q_ : St), L_Sk_carry_22 n y4 y5 y6 y7 y8 C = some (o7_, Q_) → mj_R M_Sk_carry 101 [some (.ref 7), none, none, none, some (.int y4), some (.int y5), some (.int y6), some (.int o7_), none, none] [] (SH, jn Q_ D) r (SH, y) → mj_R M_Sk_carry 22 [some (.ref 7), none, none, none, some (.int y4), some (.int y5), some (.int y6), some (.int y7), some (.int y8), none] [] (SH, jn C D) r (SH, y) := by
  intro n
  induction n with
  | zero => intro y4 y5 y6 y7 y8 C o7_ Q_ h; cases h
  | succ n ih =>
    intro y4 y5 y6 y7 y8 C o7_ Q_ h hX
    unfold L_Sk_carry_22 at h
    refine mj_iload (pc := 22) (i := 8) d_Sk_carry_22 rfl ?_
    refine mj_if_lt (y := 0) (pc := 24) (tgt := 101) d_Sk_carry_24 (by decide) mj_hs (fun hc1 => ?_) (fun hc1 => ?_)
    · rw [if_pos hc1] at h
      obtain ⟨e_1, e_2⟩ := inj2 h
      subst e_1
      subst e_2
      exact mj_wk hX (And.intro rfl (And.intro rfl (And.intro rfl (And.intro rfl (And.intro rfl trivial)))))
    · rw [if_neg hc1] at h
      refine mj_iload (pc := 27) (i := 7) d_Sk_carry_27 rfl ?_
      refine mj_if_le (y := 0) (pc := 29) (tgt := 101) d_Sk_carry_29 (by decide) mj_hs (fun hc2 => ?_) (fun hc2 => ?_)
      · rw [if_pos hc2] at h
        obtain ⟨e_1, e_2⟩ := inj2 h
        subst e_1
        subst e_2
        exact mj_wk hX (And.intro rfl (And.intro rfl (And.intro rfl (And.intro rfl (And.intro rfl trivial)))))
      · rw [if_neg hc2] at h
        refine mj_iload (pc := 32) (i := 7) d_Sk_carry_32 rfl ?_
        refine mj_aload_n (pc := 34) (i := 0) d_Sk_carry_34 rfl rfl (by decide) ?_
        refine mj_getR (pc := 35) d_Sk_carry_35 fl_Sk_9 sh_7 rfl rfl (by decide) (by decide) (by decide) ?_
        refine mj_iload (pc := 38) (i := 5) d_Sk_carry_38 rfl ?_
        refine mj_bipush (pc := 40) (v := 10) d_Sk_carry_40 (by decide) ?_
        refine mj_imul (pc := 42) d_Sk_carry_42 ?_
        refine mj_iload (pc := 43) (i := 8) d_Sk_carry_43 rfl ?_
        refine mj_iadd (pc := 45) d_Sk_carry_45 ?_
        obtain ⟨hg3, h⟩ := mj_gd h
        refine cj_iald (pc := 46) d_Sk_carry_46 sh_8 (by decide) hg3 (by decide) ?_
        refine mj_min (pc := 47) d_Sk_carry_47 mn_Sk_22 (by decide) (Nat.le_of_ble_eq_true rfl) ?_
        refine mj_istore (pc := 50) (i := 9) d_Sk_carry_50 rfl (by decide) ?_
        refine mj_aload_n (pc := 52) (i := 0) d_Sk_carry_52 rfl rfl (by decide) ?_
        refine mj_getR (pc := 53) d_Sk_carry_53 fl_Sk_9 sh_7 rfl rfl (by decide) (by decide) (by decide) ?_
        refine mj_iload (pc := 56) (i := 5) d_Sk_carry_56 rfl ?_
        refine mj_bipush (pc := 58) (v := 10) d_Sk_carry_58 (by decide) ?_
        refine mj_imul (pc := 60) d_Sk_carry_60 ?_
        refine mj_iload (pc := 61) (i := 8) d_Sk_carry_61 rfl ?_
        refine mj_iadd (pc := 63) d_Sk_carry_63 ?_
        refine mj_dup2 (pc := 64) d_Sk_carry_64 rfl rfl ?_
        refine cj_iald (pc := 65) d_Sk_carry_65 sh_8 (by decide) hg3 (by decide) ?_
        refine mj_iload (pc := 66) (i := 9) d_Sk_carry_66 rfl ?_
        refine mj_isub (pc := 68) d_Sk_carry_68 ?_
        refine cj_iast (pc := 69) d_Sk_carry_69 sh_8 (by decide) hg3 (by decide) ?_
        refine mj_aload_n (pc := 70) (i := 0) d_Sk_carry_70 rfl rfl (by decide) ?_
        refine mj_getR (pc := 71) d_Sk_carry_71 fl_Sk_9 sh_7 rfl rfl (by decide) (by decide) (by decide) ?_
        refine mj_iload (pc := 74) (i := 6) d_Sk_carry_74 rfl ?_
        refine mj_bipush (pc := 76) (v := 10) d_Sk_carry_76 (by decide) ?_
        refine mj_imul (pc := 78) d_Sk_carry_78 ?_
        refine mj_iload (pc := 79) (i := 8) d_Sk_carry_79 rfl ?_
        refine mj_iadd (pc := 81) d_Sk_carry_81 ?_
        refine mj_dup2 (pc := 82) d_Sk_carry_82 rfl rfl ?_
        obtain ⟨hg5, h⟩ := mj_gd h
        refine cj_iald (pc := 83) d_Sk_carry_83 sh_8 (by decide) hg5 (by decide) ?_
        refine mj_iload (pc := 84) (i := 9) d_Sk_carry_84 rfl ?_
        refine mj_iadd (pc := 86) d_Sk_carry_86 ?_
        refine cj_iast (pc := 87) d_Sk_carry_87 sh_8 (by decide) hg5 (by decide) ?_
        refine mj_iload (pc := 88) (i := 7) d_Sk_carry_88 rfl ?_
        refine mj_iload (pc := 90) (i := 9) d_Sk_carry_90 rfl ?_
        refine mj_isub (pc := 92) d_Sk_carry_92 ?_
        refine mj_istore (pc := 93) (i := 7) d_Sk_carry_93 rfl (by decide) ?_
        refine mj_iinc (pc := 95) (i := 8) (v := y8 + (-1)) d_Sk_carry_95 rfl (by rfl) rfl (by decide) ?_
        refine mj_goto (pc := 98) (tgt := 22) d_Sk_carry_98 (by decide) ?_
        exact mj_weak [some (.ref 7), none, none, none, some (.int y4), some (.int y5), some (.int y6), some (.int (y7 - (if (C 8 ((y5 * 10) + y8).toNatClampNeg) < y7 then C 8 ((y5 * 10) + y8).toNatClampNeg else y7 : Int32))), some (.int (y8 + (-1))), none] (And.intro rfl (And.intro rfl (And.intro rfl (And.intro rfl (And.intro rfl (And.intro rfl trivial)))))) (ih _ _ _ _ _ _ _ _ h hX)
set_option maxRecDepth 20000 in
theorem r_Sk_carry {x1 : Int32} {x2 : Int32} {x3 : Int32} {x4 : Int32} {C0 D : St} {C' : St} (h : f_Sk_carry x1 x2 x3 x4 C0 = some (C')) : mj_R M_Sk_carry 0 (mj_lv M_Sk_carry.2.2.1 [.ref 7, .int x1, .int x2, .int x3, .int x4]) [] (SH, jn C0 D) none (SH, jn (C') D) := by
  show mj_R M_Sk_carry 0 [some (.ref 7), some (.int x1), some (.int x2), some (.int x3), some (.int x4), none, none, none, none, none] [] _ _ _
  unfold f_Sk_carry at h
  refine mj_iload_n (pc := 0) (i := 1) d_Sk_carry_0 rfl rfl ?_
  refine mj_iconst (pc := 1) (v := 5) d_Sk_carry_1 (by decide) ?_
  refine mj_imul (pc := 2) d_Sk_carry_2 ?_
  refine mj_iload_n (pc := 3) (i := 3) d_Sk_carry_3 rfl rfl ?_
  refine mj_iadd (pc := 4) d_Sk_carry_4 ?_
  refine mj_istore (pc := 5) (i := 5) d_Sk_carry_5 rfl (by decide) ?_
  refine mj_iload_n (pc := 7) (i := 2) d_Sk_carry_7 rfl rfl ?_
  refine mj_iconst (pc := 8) (v := 5) d_Sk_carry_8 (by decide) ?_
  refine mj_imul (pc := 9) d_Sk_carry_9 ?_
  refine mj_iload_n (pc := 10) (i := 3) d_Sk_carry_10 rfl rfl ?_
  refine mj_iadd (pc := 11) d_Sk_carry_11 ?_
  refine mj_istore (pc := 12) (i := 6) d_Sk_carry_12 rfl (by decide) ?_
  refine mj_iload (pc := 14) (i := 4) d_Sk_carry_14 rfl ?_
  refine mj_istore (pc := 16) (i := 7) d_Sk_carry_16 rfl (by decide) ?_
  refine mj_bipush (pc := 18) (v := 9) d_Sk_carry_18 (by decide) ?_
  refine mj_istore (pc := 20) (i := 8) d_Sk_carry_20 rfl (by decide) ?_
  obtain ⟨o6, C7, hl8, h⟩ := bd2_some h
  refine mj_weak [some (.ref 7), none, none, none, some (.int x4), some (.int ((x1 * 5) + x3)), some (.int ((x2 * 5) + x3)), some (.int x4), some (.int 9), none] (And.intro rfl (And.intro rfl (And.intro rfl (And.intro rfl (And.intro rfl (And.intro rfl trivial)))))) (l_Sk_carry_22 3000 _ _ _ _ _ _ _ _ hl8 ?_)
  refine mj_aload_n (pc := 101) (i := 0) d_Sk_carry_101 rfl rfl (by decide) ?_
  refine mj_getR (pc := 102) d_Sk_carry_102 fl_Sk_15 sh_7 rfl rfl (by decide) (by decide) (by decide) ?_
  refine mj_iload (pc := 105) (i := 5) d_Sk_carry_105 rfl ?_
  refine mj_dup2 (pc := 107) d_Sk_carry_107 rfl rfl ?_
  obtain ⟨hg9, h⟩ := mj_gd h
  refine cj_iald (pc := 108) d_Sk_carry_108 sh_9 (by decide) hg9 (by decide) ?_
  refine mj_iload (pc := 109) (i := 4) d_Sk_carry_109 rfl ?_
  refine mj_iload (pc := 111) (i := 7) d_Sk_carry_111 rfl ?_
  refine mj_isub (pc := 113) d_Sk_carry_113 ?_
  refine mj_isub (pc := 114) d_Sk_carry_114 ?_
  refine cj_iast (pc := 115) d_Sk_carry_115 sh_9 (by decide) hg9 (by decide) ?_
  refine mj_aload_n (pc := 116) (i := 0) d_Sk_carry_116 rfl rfl (by decide) ?_
  refine mj_getR (pc := 117) d_Sk_carry_117 fl_Sk_15 sh_7 rfl rfl (by decide) (by decide) (by decide) ?_
  refine mj_iload (pc := 120) (i := 6) d_Sk_carry_120 rfl ?_
  refine mj_dup2 (pc := 122) d_Sk_carry_122 rfl rfl ?_
  obtain ⟨hg10, h⟩ := mj_gd h
  refine cj_iald (pc := 123) d_Sk_carry_123 sh_9 (by decide) hg10 (by decide) ?_
  refine mj_iload (pc := 124) (i := 4) d_Sk_carry_124 rfl ?_
  refine mj_iload (pc := 126) (i := 7) d_Sk_carry_126 rfl ?_
  refine mj_isub (pc := 128) d_Sk_carry_128 ?_
  refine mj_iadd (pc := 129) d_Sk_carry_129 ?_
  refine cj_iast (pc := 130) d_Sk_carry_130 sh_9 (by decide) hg10 (by decide) ?_
  obtain e_1 := inj1 h
  subst e_1
  exact mj_vret (pc := 131) d_Sk_carry_131 rfl
set_option maxRecDepth 20000 in
theorem r_Mt_trade {x2 : Int32} {x3 : Int32} {x4 : Int32} {x5 : Int32} {C0 D : St} {C' : St} (h : f_Mt_trade x2 x3 x4 x5 C0 = some (C')) : mj_R M_Mt_trade 0 (mj_lv M_Mt_trade.2.2.1 [.ref 25, .ref 1, .int x2, .int x3, .int x4, .int x5]) [] (SH, jn C0 D) none (SH, jn (C') D) := by
  show mj_R M_Mt_trade 0 [some (.ref 25), some (.ref 1), some (.int x2), some (.int x3), some (.int x4), some (.int x5), none, none, none] [] _ _ _
  unfold f_Mt_trade at h
  refine mj_aload_n (pc := 0) (i := 0) d_Mt_trade_0 rfl rfl (by decide) ?_
  refine mj_getR (pc := 1) d_Mt_trade_1 fl_Mt_12 sh_25 rfl rfl (by decide) (by decide) (by decide) ?_
  refine mj_getR (pc := 4) d_Mt_trade_4 fl_Mt_104 sh_26 rfl rfl (by decide) (by decide) (by decide) ?_
  refine mj_iload_n (pc := 7) (i := 3) d_Mt_trade_7 rfl rfl ?_
  obtain ⟨hg1, h⟩ := mj_gd h
  refine cj_iald (pc := 8) d_Mt_trade_8 sh_29 (by decide) hg1 (by decide) ?_
  refine mj_aload_n (pc := 9) (i := 0) d_Mt_trade_9 rfl rfl (by decide) ?_
  refine mj_getR (pc := 10) d_Mt_trade_10 fl_Mt_18 sh_25 rfl rfl (by decide) (by decide) (by decide) ?_
  refine mj_getR (pc := 13) d_Mt_trade_13 fl_Mt_104 sh_32 rfl rfl (by decide) (by decide) (by decide) ?_
  refine mj_iload (pc := 16) (i := 4) d_Mt_trade_16 rfl ?_
  obtain ⟨hg2, h⟩ := mj_gd h
  refine cj_iald (pc := 18) d_Mt_trade_18 sh_35 (by decide) hg2 (by decide) ?_
  refine mj_min (pc := 19) d_Mt_trade_19 mn_Mt_50 (by decide) (Nat.le_of_ble_eq_true rfl) ?_
  refine mj_istore (pc := 22) (i := 6) d_Mt_trade_22 rfl (by decide) ?_
  refine mj_iload (pc := 24) (i := 6) d_Mt_trade_24 rfl ?_
  refine mj_if_gt (y := 0) (pc := 26) (tgt := 30) d_Mt_trade_26 (by decide) mj_hs (fun hc3 => ?_) (fun hc3 => ?_)
  · rw [if_pos hc3] at h
    refine mj_aload_n (pc := 30) (i := 0) d_Mt_trade_30 rfl rfl (by decide) ?_
    refine mj_getR (pc := 31) d_Mt_trade_31 fl_Mt_12 sh_25 rfl rfl (by decide) (by decide) (by decide) ?_
    refine mj_getR (pc := 34) d_Mt_trade_34 fl_Mt_104 sh_26 rfl rfl (by decide) (by decide) (by decide) ?_
    refine mj_iload_n (pc := 37) (i := 3) d_Mt_trade_37 rfl rfl ?_
    refine mj_dup2 (pc := 38) d_Mt_trade_38 rfl rfl ?_
    refine cj_iald (pc := 39) d_Mt_trade_39 sh_29 (by decide) hg1 (by decide) ?_
    refine mj_iload (pc := 40) (i := 6) d_Mt_trade_40 rfl ?_
    refine mj_isub (pc := 42) d_Mt_trade_42 ?_
    refine cj_iast (pc := 43) d_Mt_trade_43 sh_29 (by decide) hg1 (by decide) ?_
    refine mj_aload_n (pc := 44) (i := 0) d_Mt_trade_44 rfl rfl (by decide) ?_
    refine mj_getR (pc := 45) d_Mt_trade_45 fl_Mt_18 sh_25 rfl rfl (by decide) (by decide) (by decide) ?_
    refine mj_getR (pc := 48) d_Mt_trade_48 fl_Mt_104 sh_32 rfl rfl (by decide) (by decide) (by decide) ?_
    refine mj_iload (pc := 51) (i := 4) d_Mt_trade_51 rfl ?_
    refine mj_dup2 (pc := 53) d_Mt_trade_53 rfl rfl ?_
    refine cj_iald (pc := 54) d_Mt_trade_54 sh_35 (by decide) hg2 (by decide) ?_
    refine mj_iload (pc := 55) (i := 6) d_Mt_trade_55 rfl ?_
    refine mj_isub (pc := 57) d_Mt_trade_57 ?_
    refine cj_iast (pc := 58) d_Mt_trade_58 sh_35 (by decide) hg2 (by decide) ?_
    refine mj_iload (pc := 59) (i := 5) d_Mt_trade_59 rfl ?_
    refine mj_iload (pc := 61) (i := 6) d_Mt_trade_61 rfl ?_
    refine mj_imul (pc := 63) d_Mt_trade_63 ?_
    refine mj_istore (pc := 64) (i := 7) d_Mt_trade_64 rfl (by decide) ?_
    refine mj_aload_n (pc := 66) (i := 0) d_Mt_trade_66 rfl rfl (by decide) ?_
    refine mj_getR (pc := 67) d_Mt_trade_67 fl_Mt_12 sh_25 rfl rfl (by decide) (by decide) (by decide) ?_
    refine mj_getR (pc := 70) d_Mt_trade_70 fl_Mt_115 sh_26 rfl rfl (by decide) (by decide) (by decide) ?_
    refine mj_iload_n (pc := 73) (i := 3) d_Mt_trade_73 rfl rfl ?_
    refine cj_iald (pc := 74) d_Mt_trade_74 sh_27 (by decide) hg1 (by decide) ?_
    refine mj_istore (pc := 75) (i := 8) d_Mt_trade_75 rfl (by decide) ?_
    refine mj_aload_n (pc := 77) (i := 1) d_Mt_trade_77 rfl rfl (by decide) ?_
    refine mj_aload_n (pc := 78) (i := 0) d_Mt_trade_78 rfl rfl (by decide) ?_
    refine mj_getR (pc := 79) d_Mt_trade_79 fl_Mt_18 sh_25 rfl rfl (by decide) (by decide) (by decide) ?_
    refine mj_getR (pc := 82) d_Mt_trade_82 fl_Mt_115 sh_32 rfl rfl (by decide) (by decide) (by decide) ?_
    refine mj_iload (pc := 85) (i := 4) d_Mt_trade_85 rfl ?_
    refine cj_iald (pc := 87) d_Mt_trade_87 sh_33 (by decide) hg2 (by decide) ?_
    refine mj_iload (pc := 88) (i := 8) d_Mt_trade_88 rfl ?_
    refine mj_iconst (pc := 90) (v := 0) d_Mt_trade_90 (by decide) ?_
    refine mj_iload (pc := 91) (i := 7) d_Mt_trade_91 rfl ?_
    obtain ⟨C8, hb9, h⟩ := bd1_some h
    refine mj_callV (pc := 93) (b := 1) (vs := [.int (mj_wr (mj_wr C0 29 (x3.toNatClampNeg) ((C0 29 x3.toNatClampNeg) - (if (C0 35 x4.toNatClampNeg) < (C0 29 x3.toNatClampNeg) then C0 35 x4.toNatClampNeg else C0 29 x3.toNatClampNeg : Int32))) 35 (x4.toNatClampNeg) ((mj_wr C0 29 (x3.toNatClampNeg) ((C0 29 x3.toNatClampNeg) - (if (C0 35 x4.toNatClampNeg) < (C0 29 x3.toNatClampNeg) then C0 35 x4.toNatClampNeg else C0 29 x3.toNatClampNeg : Int32)) 35 x4.toNatClampNeg) - (if (C0 35 x4.toNatClampNeg) < (C0 29 x3.toNatClampNeg) then C0 35 x4.toNatClampNeg else C0 29 x3.toNatClampNeg : Int32)) 33 x4.toNatClampNeg), .int (mj_wr (mj_wr C0 29 (x3.toNatClampNeg) ((C0 29 x3.toNatClampNeg) - (if (C0 35 x4.toNatClampNeg) < (C0 29 x3.toNatClampNeg) then C0 35 x4.toNatClampNeg else C0 29 x3.toNatClampNeg : Int32))) 35 (x4.toNatClampNeg) ((mj_wr C0 29 (x3.toNatClampNeg) ((C0 29 x3.toNatClampNeg) - (if (C0 35 x4.toNatClampNeg) < (C0 29 x3.toNatClampNeg) then C0 35 x4.toNatClampNeg else C0 29 x3.toNatClampNeg : Int32)) 35 x4.toNatClampNeg) - (if (C0 35 x4.toNatClampNeg) < (C0 29 x3.toNatClampNeg) then C0 35 x4.toNatClampNeg else C0 29 x3.toNatClampNeg : Int32)) 27 x3.toNatClampNeg), .int 0, .int (x5 * (if (C0 35 x4.toNatClampNeg) < (C0 29 x3.toNatClampNeg) then C0 35 x4.toNatClampNeg else C0 29 x3.toNatClampNeg : Int32))]) (st := []) d_Mt_trade_93 bB_Mt_trade_Tw_hand lk_Mt_118 iv_Tw_hand rc_1 rfl (Nat.le_of_ble_eq_true rfl) (Nat.le_of_ble_eq_true rfl) (r_Tw_hand hb9) ?_
    show mj_R M_Mt_trade 96 [some (.ref 25), some (.ref 1), some (.int x2), some (.int x3), some (.int x4), some (.int x5), some (.int (if (C0 35 x4.toNatClampNeg) < (C0 29 x3.toNatClampNeg) then C0 35 x4.toNatClampNeg else C0 29 x3.toNatClampNeg : Int32)), some (.int (x5 * (if (C0 35 x4.toNatClampNeg) < (C0 29 x3.toNatClampNeg) then C0 35 x4.toNatClampNeg else C0 29 x3.toNatClampNeg : Int32))), some (.int (mj_wr (mj_wr C0 29 (x3.toNatClampNeg) ((C0 29 x3.toNatClampNeg) - (if (C0 35 x4.toNatClampNeg) < (C0 29 x3.toNatClampNeg) then C0 35 x4.toNatClampNeg else C0 29 x3.toNatClampNeg : Int32))) 35 (x4.toNatClampNeg) ((mj_wr C0 29 (x3.toNatClampNeg) ((C0 29 x3.toNatClampNeg) - (if (C0 35 x4.toNatClampNeg) < (C0 29 x3.toNatClampNeg) then C0 35 x4.toNatClampNeg else C0 29 x3.toNatClampNeg : Int32)) 35 x4.toNatClampNeg) - (if (C0 35 x4.toNatClampNeg) < (C0 29 x3.toNatClampNeg) then C0 35 x4.toNatClampNeg else C0 29 x3.toNatClampNeg : Int32)) 27 x3.toNatClampNeg))] [] (SH, jn C8 D) none (SH, jn (C') D)
    refine mj_aload_n (pc := 96) (i := 0) d_Mt_trade_96 rfl rfl (by decide) ?_
    refine cj_getI (pc := 97) d_Mt_trade_97 fl_Mt_67 sh_25 rfl (by decide) (by decide) (by decide) ?_
    refine mj_ldc (pc := 100) (v := -1000000005) d_Mt_trade_100 k_Mt_121 ?_
    obtain ⟨C13, hb15, h⟩ := bd1_some h
    have k14 : mj_R M_Mt_trade 130 [some (.ref 25), some (.ref 1), some (.int x2), none, some (.int x4), some (.int x5), some (.int (if (C0 35 x4.toNatClampNeg) < (C0 29 x3.toNatClampNeg) then C0 35 x4.toNatClampNeg else C0 29 x3.toNatClampNeg : Int32)), none, some (.int (mj_wr (mj_wr C0 29 (x3.toNatClampNeg) ((C0 29 x3.toNatClampNeg) - (if (C0 35 x4.toNatClampNeg) < (C0 29 x3.toNatClampNeg) then C0 35 x4.toNatClampNeg else C0 29 x3.toNatClampNeg : Int32))) 35 (x4.toNatClampNeg) ((mj_wr C0 29 (x3.toNatClampNeg) ((C0 29 x3.toNatClampNeg) - (if (C0 35 x4.toNatClampNeg) < (C0 29 x3.toNatClampNeg) then C0 35 x4.toNatClampNeg else C0 29 x3.toNatClampNeg : Int32)) 35 x4.toNatClampNeg) - (if (C0 35 x4.toNatClampNeg) < (C0 29 x3.toNatClampNeg) then C0 35 x4.toNatClampNeg else C0 29 x3.toNatClampNeg : Int32)) 27 x3.toNatClampNeg))] [] (SH, jn C13 D) none (SH, jn (C') D) := by
      refine mj_aload_n (pc := 130) (i := 1) d_Mt_trade_130 rfl rfl (by decide) ?_
      refine mj_getR (pc := 131) d_Mt_trade_131 fl_Mt_31 sh_1 rfl rfl (by decide) (by decide) (by decide) ?_
      refine mj_iload (pc := 134) (i := 8) d_Mt_trade_134 rfl ?_
      refine mj_aload_n (pc := 136) (i := 0) d_Mt_trade_136 rfl rfl (by decide) ?_
      refine mj_getR (pc := 137) d_Mt_trade_137 fl_Mt_18 sh_25 rfl rfl (by decide) (by decide) (by decide) ?_
      refine mj_getR (pc := 140) d_Mt_trade_140 fl_Mt_115 sh_32 rfl rfl (by decide) (by decide) (by decide) ?_
      refine mj_iload (pc := 143) (i := 4) d_Mt_trade_143 rfl ?_
      refine cj_iald (pc := 145) d_Mt_trade_145 sh_33 (by decide) hg2 (by decide) ?_
      refine mj_iload_n (pc := 146) (i := 2) d_Mt_trade_146 rfl rfl ?_
      refine mj_iload (pc := 147) (i := 6) d_Mt_trade_147 rfl ?_
      obtain ⟨C17, hb18, h⟩ := bd1_some h
      refine mj_callV (pc := 149) (b := 7) (vs := [.int (mj_wr (mj_wr C0 29 (x3.toNatClampNeg) ((C0 29 x3.toNatClampNeg) - (if (C0 35 x4.toNatClampNeg) < (C0 29 x3.toNatClampNeg) then C0 35 x4.toNatClampNeg else C0 29 x3.toNatClampNeg : Int32))) 35 (x4.toNatClampNeg) ((mj_wr C0 29 (x3.toNatClampNeg) ((C0 29 x3.toNatClampNeg) - (if (C0 35 x4.toNatClampNeg) < (C0 29 x3.toNatClampNeg) then C0 35 x4.toNatClampNeg else C0 29 x3.toNatClampNeg : Int32)) 35 x4.toNatClampNeg) - (if (C0 35 x4.toNatClampNeg) < (C0 29 x3.toNatClampNeg) then C0 35 x4.toNatClampNeg else C0 29 x3.toNatClampNeg : Int32)) 27 x3.toNatClampNeg), .int (C13 33 x4.toNatClampNeg), .int x2, .int (if (C0 35 x4.toNatClampNeg) < (C0 29 x3.toNatClampNeg) then C0 35 x4.toNatClampNeg else C0 29 x3.toNatClampNeg : Int32)]) (st := []) d_Mt_trade_149 bB_Mt_trade_Sk_carry lk_Mt_127 iv_Sk_carry rc_7 rfl (Nat.le_of_ble_eq_true rfl) (Nat.le_of_ble_eq_true rfl) (r_Sk_carry hb18) ?_
      show mj_R M_Mt_trade 152 [some (.ref 25), some (.ref 1), some (.int x2), none, some (.int x4), some (.int x5), some (.int (if (C0 35 x4.toNatClampNeg) < (C0 29 x3.toNatClampNeg) then C0 35 x4.toNatClampNeg else C0 29 x3.toNatClampNeg : Int32)), none, some (.int (mj_wr (mj_wr C0 29 (x3.toNatClampNeg) ((C0 29 x3.toNatClampNeg) - (if (C0 35 x4.toNatClampNeg) < (C0 29 x3.toNatClampNeg) then C0 35 x4.toNatClampNeg else C0 29 x3.toNatClampNeg : Int32))) 35 (x4.toNatClampNeg) ((mj_wr C0 29 (x3.toNatClampNeg) ((C0 29 x3.toNatClampNeg) - (if (C0 35 x4.toNatClampNeg) < (C0 29 x3.toNatClampNeg) then C0 35 x4.toNatClampNeg else C0 29 x3.toNatClampNeg : Int32)) 35 x4.toNatClampNeg) - (if (C0 35 x4.toNatClampNeg) < (C0 29 x3.toNatClampNeg) then C0 35 x4.toNatClampNeg else C0 29 x3.toNatClampNeg : Int32)) 27 x3.toNatClampNeg))] [] (SH, jn C17 D) none (SH, jn (C') D)
      refine mj_aload_n (pc := 152) (i := 1) d_Mt_trade_152 rfl rfl (by decide) ?_
      refine mj_getR (pc := 153) d_Mt_trade_153 fl_Mt_71 sh_1 rfl rfl (by decide) (by decide) (by decide) ?_
      refine mj_iload_n (pc := 156) (i := 2) d_Mt_trade_156 rfl rfl ?_
      refine mj_iconst (pc := 157) (v := 2) d_Mt_trade_157 (by decide) ?_
      refine mj_iload (pc := 158) (i := 5) d_Mt_trade_158 rfl ?_
      obtain ⟨C19, hb20, h⟩ := bd1_some h
      refine mj_callV (pc := 160) (b := 10) (vs := [.int x2, .int 2, .int x5]) (st := []) d_Mt_trade_160 bB_Mt_trade_Wr_put lk_Mt_130 iv_Wr_put rc_10 rfl (Nat.le_of_ble_eq_true rfl) (Nat.le_of_ble_eq_true rfl) (r_Wr_put hb20) ?_
      show mj_R M_Mt_trade 163 [some (.ref 25), some (.ref 1), some (.int x2), none, some (.int x4), some (.int x5), some (.int (if (C0 35 x4.toNatClampNeg) < (C0 29 x3.toNatClampNeg) then C0 35 x4.toNatClampNeg else C0 29 x3.toNatClampNeg : Int32)), none, some (.int (mj_wr (mj_wr C0 29 (x3.toNatClampNeg) ((C0 29 x3.toNatClampNeg) - (if (C0 35 x4.toNatClampNeg) < (C0 29 x3.toNatClampNeg) then C0 35 x4.toNatClampNeg else C0 29 x3.toNatClampNeg : Int32))) 35 (x4.toNatClampNeg) ((mj_wr C0 29 (x3.toNatClampNeg) ((C0 29 x3.toNatClampNeg) - (if (C0 35 x4.toNatClampNeg) < (C0 29 x3.toNatClampNeg) then C0 35 x4.toNatClampNeg else C0 29 x3.toNatClampNeg : Int32)) 35 x4.toNatClampNeg) - (if (C0 35 x4.toNatClampNeg) < (C0 29 x3.toNatClampNeg) then C0 35 x4.toNatClampNeg else C0 29 x3.toNatClampNeg : Int32)) 27 x3.toNatClampNeg))] [] (SH, jn C19 D) none (SH, jn (C') D)
      refine mj_aload_n (pc := 163) (i := 1) d_Mt_trade_163 rfl rfl (by decide) ?_
      refine mj_getR (pc := 164) d_Mt_trade_164 fl_Mt_71 sh_1 rfl rfl (by decide) (by decide) (by decide) ?_
      refine mj_iload_n (pc := 167) (i := 2) d_Mt_trade_167 rfl rfl ?_
      refine mj_iconst (pc := 168) (v := 3) d_Mt_trade_168 (by decide) ?_
      refine mj_iload (pc := 169) (i := 6) d_Mt_trade_169 rfl ?_
      obtain ⟨C21, hb22, h⟩ := bd1_some h
      refine mj_callV (pc := 171) (b := 10) (vs := [.int x2, .int 3, .int (if (C0 35 x4.toNatClampNeg) < (C0 29 x3.toNatClampNeg) then C0 35 x4.toNatClampNeg else C0 29 x3.toNatClampNeg : Int32)]) (st := []) d_Mt_trade_171 bB_Mt_trade_Wr_increase lk_Mt_134 iv_Wr_increase rc_10 rfl (Nat.le_of_ble_eq_true rfl) (Nat.le_of_ble_eq_true rfl) (r_Wr_increase hb22) ?_
      show mj_R M_Mt_trade 174 [some (.ref 25), some (.ref 1), some (.int x2), none, some (.int x4), some (.int x5), some (.int (if (C0 35 x4.toNatClampNeg) < (C0 29 x3.toNatClampNeg) then C0 35 x4.toNatClampNeg else C0 29 x3.toNatClampNeg : Int32)), none, some (.int (mj_wr (mj_wr C0 29 (x3.toNatClampNeg) ((C0 29 x3.toNatClampNeg) - (if (C0 35 x4.toNatClampNeg) < (C0 29 x3.toNatClampNeg) then C0 35 x4.toNatClampNeg else C0 29 x3.toNatClampNeg : Int32))) 35 (x4.toNatClampNeg) ((mj_wr C0 29 (x3.toNatClampNeg) ((C0 29 x3.toNatClampNeg) - (if (C0 35 x4.toNatClampNeg) < (C0 29 x3.toNatClampNeg) then C0 35 x4.toNatClampNeg else C0 29 x3.toNatClampNeg : Int32)) 35 x4.toNatClampNeg) - (if (C0 35 x4.toNatClampNeg) < (C0 29 x3.toNatClampNeg) then C0 35 x4.toNatClampNeg else C0 29 x3.toNatClampNeg : Int32)) 27 x3.toNatClampNeg))] [] (SH, jn C21 D) none (SH, jn (C') D)
      obtain e_1 := inj1 h
      subst e_1
      exact mj_vret (pc := 174) d_Mt_trade_174 rfl
    have h := hb15
    refine mj_icmp_eq (pc := 102) (tgt := 130) d_Mt_trade_102 (by decide) mj_hs (fun hc10 => ?_) (fun hc10 => ?_)
    · rw [if_pos hc10] at h
      obtain e_1 := inj1 h
      subst e_1
      exact mj_wk k14 (And.intro rfl (And.intro rfl (And.intro rfl (And.intro rfl (And.intro rfl (And.intro rfl (And.intro rfl trivial)))))))
    · rw [if_neg hc10] at h
      refine mj_aload_n (pc := 105) (i := 1) d_Mt_trade_105 rfl rfl (by decide) ?_
      refine mj_iload (pc := 106) (i := 8) d_Mt_trade_106 rfl ?_
      refine mj_aload_n (pc := 108) (i := 0) d_Mt_trade_108 rfl rfl (by decide) ?_
      refine cj_getI (pc := 109) d_Mt_trade_109 fl_Mt_67 sh_25 rfl (by decide) (by decide) (by decide) ?_
      refine mj_iconst (pc := 112) (v := 1) d_Mt_trade_112 (by decide) ?_
      refine mj_iload (pc := 113) (i := 7) d_Mt_trade_113 rfl ?_
      refine mj_i2l (pc := 115) d_Mt_trade_115 ?_
      refine mj_aload_n (pc := 116) (i := 1) d_Mt_trade_116 rfl rfl (by decide) ?_
      refine cj_getI (pc := 117) d_Mt_trade_117 fl_Mt_122 sh_1 rfl (by decide) (by decide) (by decide) ?_
      refine mj_i2l (pc := 120) d_Mt_trade_120 ?_
      refine mj_lmul (pc := 121) d_Mt_trade_121 ?_
      refine mj_ldc2 (pc := 122) (v := 1000) d_Mt_trade_122 k_Mt_125 ?_
      refine mj_ldiv (pc := 125) d_Mt_trade_125 (by decide) ?_
      refine mj_l2i (pc := 126) d_Mt_trade_126 ?_
      obtain ⟨C11, hb12, h⟩ := bd1_some h
      refine mj_callV (pc := 127) (b := 1) (vs := [.int (mj_wr (mj_wr C0 29 (x3.toNatClampNeg) ((C0 29 x3.toNatClampNeg) - (if (C0 35 x4.toNatClampNeg) < (C0 29 x3.toNatClampNeg) then C0 35 x4.toNatClampNeg else C0 29 x3.toNatClampNeg : Int32))) 35 (x4.toNatClampNeg) ((mj_wr C0 29 (x3.toNatClampNeg) ((C0 29 x3.toNatClampNeg) - (if (C0 35 x4.toNatClampNeg) < (C0 29 x3.toNatClampNeg) then C0 35 x4.toNatClampNeg else C0 29 x3.toNatClampNeg : Int32)) 35 x4.toNatClampNeg) - (if (C0 35 x4.toNatClampNeg) < (C0 29 x3.toNatClampNeg) then C0 35 x4.toNatClampNeg else C0 29 x3.toNatClampNeg : Int32)) 27 x3.toNatClampNeg), .int (C8 25 4), .int 1, .int (((((x5 * (if (C0 35 x4.toNatClampNeg) < (C0 29 x3.toNatClampNeg) then C0 35 x4.toNatClampNeg else C0 29 x3.toNatClampNeg : Int32)).toInt64) * ((C8 1 3).toInt64)) / 1000).toInt32)]) (st := []) d_Mt_trade_127 bB_Mt_trade_Tw_hand lk_Mt_118 iv_Tw_hand rc_1 rfl (Nat.le_of_ble_eq_true rfl) (Nat.le_of_ble_eq_true rfl) (r_Tw_hand hb12) ?_
      show mj_R M_Mt_trade 130 [some (.ref 25), some (.ref 1), some (.int x2), some (.int x3), some (.int x4), some (.int x5), some (.int (if (C0 35 x4.toNatClampNeg) < (C0 29 x3.toNatClampNeg) then C0 35 x4.toNatClampNeg else C0 29 x3.toNatClampNeg : Int32)), some (.int (x5 * (if (C0 35 x4.toNatClampNeg) < (C0 29 x3.toNatClampNeg) then C0 35 x4.toNatClampNeg else C0 29 x3.toNatClampNeg : Int32))), some (.int (mj_wr (mj_wr C0 29 (x3.toNatClampNeg) ((C0 29 x3.toNatClampNeg) - (if (C0 35 x4.toNatClampNeg) < (C0 29 x3.toNatClampNeg) then C0 35 x4.toNatClampNeg else C0 29 x3.toNatClampNeg : Int32))) 35 (x4.toNatClampNeg) ((mj_wr C0 29 (x3.toNatClampNeg) ((C0 29 x3.toNatClampNeg) - (if (C0 35 x4.toNatClampNeg) < (C0 29 x3.toNatClampNeg) then C0 35 x4.toNatClampNeg else C0 29 x3.toNatClampNeg : Int32)) 35 x4.toNatClampNeg) - (if (C0 35 x4.toNatClampNeg) < (C0 29 x3.toNatClampNeg) then C0 35 x4.toNatClampNeg else C0 29 x3.toNatClampNeg : Int32)) 27 x3.toNatClampNeg))] [] (SH, jn C11 D) none (SH, jn (C') D)
      obtain e_1 := inj1 h
      subst e_1
      exact mj_wk k14 (And.intro rfl (And.intro rfl (And.intro rfl (And.intro rfl (And.intro rfl (And.intro rfl (And.intro rfl trivial)))))))
  · rw [if_neg hc3] at h
    obtain e_1 := inj1 h
    subst e_1
    exact mj_vret (pc := 29) d_Mt_trade_29 rfl
