set_option maxRecDepth 20000 in
theorem ci_Md_init_88 (σ : St) (hz : ∀ i j : Nat, 88 ≤ i → σ i j = 0) : mj_R M_Md_init 0 (mj_lv M_Md_init.2.2.1 [.ref 88]) [] ([(3, 6, (va_up (va_up (va_up (va_up (va_up (va_up (fun _ => none) 0 (some 1)) 1 (some 17)) 2 (some 18)) 3 (some 19)) 4 (some 21)) 5 (some 23))), (12, 14, (va_up (va_up (va_up (va_up (va_up (va_up (va_up (va_up (va_up (fun _ => none) 5 (some 2)) 6 (some 3)) 7 (some 4)) 8 (some 5)) 9 (some 6)) 10 (some 7)) 11 (some 10)) 12 (some 12)) 13 (some 15))), (0, 12, (fun _ => none)), (0, 12, (fun _ => none)), (0, 12, (fun _ => none)), (0, 12, (fun _ => none)), (0, 720, (fun _ => none)), (10, 2, (va_up (va_up (fun _ => none) 0 (some 8)) 1 (some 9))), (0, 600, (fun _ => none)), (0, 60, (fun _ => none)), (13, 1, (va_up (fun _ => none) 0 (some 11))), (0, 55, (fun _ => none)), (9, 2, (va_up (va_up (fun _ => none) 0 (some 13)) 1 (some 14))), (0, 12, (fun _ => none)), (0, 648, (fun _ => none)), (5, 2, (va_up (fun _ => none) 1 (some 16))), (0, 80, (fun _ => none)), (2, 3, (va_up (va_up (va_up (fun _ => none) 0 (some 40)) 1 (some 56)) 2 (some 72))), (1, 3, (fun _ => none)), (11, 2, (va_up (fun _ => none) 1 (some 20))), (0, 60, (fun _ => none)), (8, 3, (va_up (fun _ => none) 0 (some 22))), (0, 9, (fun _ => none)), (4, 2, (va_up (va_up (fun _ => none) 0 (some 24)) 1 (some 25))), (0, 12, (fun _ => none)), (6, 5, (va_up (va_up (va_up (va_up (fun _ => none) 0 (some 26)) 1 (some 32)) 2 (some 38)) 3 (some 39))), (7, 7, (va_up (va_up (va_up (va_up (va_up (fun _ => none) 0 (some 27)) 1 (some 28)) 2 (some 29)) 3 (some 30)) 5 (some 31))), (0, 72, (fun _ => none)), (0, 72, (fun _ => none)), (0, 72, (fun _ => none)), (0, 72, (fun _ => none)), (0, 72, (fun _ => none)), (7, 7, (va_up (va_up (va_up (va_up (va_up (fun _ => none) 0 (some 33)) 1 (some 34)) 2 (some 35)) 3 (some 36)) 5 (some 37))), (0, 72, (fun _ => none)), (0, 72, (fun _ => none)), (0, 72, (fun _ => none)), (0, 72, (fun _ => none)), (0, 72, (fun _ => none)), (0, 60, (fun _ => none)), (0, 12, (fun _ => none)), (12, 14, (va_up (va_up (va_up (va_up (va_up (va_up (va_up (va_up (va_up (fun _ => none) 5 (some 41)) 6 (some 42)) 7 (some 43)) 8 (some 44)) 9 (some 45)) 10 (some 46)) 11 (some 49)) 12 (some 51)) 13 (some 54))), (0, 12, (fun _ => none)), (0, 12, (fun _ => none)), (0, 12, (fun _ => none)), (0, 12, (fun _ => none)), (0, 720, (fun _ => none)), (10, 2, (va_up (va_up (fun _ => none) 0 (some 47)) 1 (some 48))), (0, 600, (fun _ => none)), (0, 60, (fun _ => none)), (13, 1, (va_up (fun _ => none) 0 (some 50))), (0, 55, (fun _ => none)), (9, 2, (va_up (va_up (fun _ => none) 0 (some 52)) 1 (some 53))), (0, 12, (fun _ => none)), (0, 648, (fun _ => none)), (5, 2, (va_up (fun _ => none) 1 (some 55))), (0, 80, (fun _ => none)), (12, 14, (va_up (va_up (va_up (va_up (va_up (va_up (va_up (va_up (va_up (fun _ => none) 5 (some 57)) 6 (some 58)) 7 (some 59)) 8 (some 60)) 9 (some 61)) 10 (some 62)) 11 (some 65)) 12 (some 67)) 13 (some 70))), (0, 12, (fun _ => none)), (0, 12, (fun _ => none)), (0, 12, (fun _ => none)), (0, 12, (fun _ => none)), (0, 720, (fun _ => none)), (10, 2, (va_up (va_up (fun _ => none) 0 (some 63)) 1 (some 64))), (0, 600, (fun _ => none)), (0, 60, (fun _ => none)), (13, 1, (va_up (fun _ => none) 0 (some 66))), (0, 55, (fun _ => none)), (9, 2, (va_up (va_up (fun _ => none) 0 (some 68)) 1 (some 69))), (0, 12, (fun _ => none)), (0, 648, (fun _ => none)), (5, 2, (va_up (fun _ => none) 1 (some 71))), (0, 80, (fun _ => none)), (12, 14, (va_up (va_up (va_up (va_up (va_up (va_up (va_up (va_up (va_up (fun _ => none) 5 (some 73)) 6 (some 74)) 7 (some 75)) 8 (some 76)) 9 (some 77)) 10 (some 78)) 11 (some 81)) 12 (some 83)) 13 (some 86))), (0, 12, (fun _ => none)), (0, 12, (fun _ => none)), (0, 12, (fun _ => none)), (0, 12, (fun _ => none)), (0, 720, (fun _ => none)), (10, 2, (va_up (va_up (fun _ => none) 0 (some 79)) 1 (some 80))), (0, 600, (fun _ => none)), (0, 60, (fun _ => none)), (13, 1, (va_up (fun _ => none) 0 (some 82))), (0, 55, (fun _ => none)), (9, 2, (va_up (va_up (fun _ => none) 0 (some 84)) 1 (some 85))), (0, 12, (fun _ => none)), (0, 648, (fun _ => none)), (5, 2, (va_up (fun _ => none) 1 (some 87))), (0, 80, (fun _ => none)), (14, 21, (fun _ => none))], σ) none ([(3, 6, (va_up (va_up (va_up (va_up (va_up (va_up (fun _ => none) 0 (some 1)) 1 (some 17)) 2 (some 18)) 3 (some 19)) 4 (some 21)) 5 (some 23))), (12, 14, (va_up (va_up (va_up (va_up (va_up (va_up (va_up (va_up (va_up (fun _ => none) 5 (some 2)) 6 (some 3)) 7 (some 4)) 8 (some 5)) 9 (some 6)) 10 (some 7)) 11 (some 10)) 12 (some 12)) 13 (some 15))), (0, 12, (fun _ => none)), (0, 12, (fun _ => none)), (0, 12, (fun _ => none)), (0, 12, (fun _ => none)), (0, 720, (fun _ => none)), (10, 2, (va_up (va_up (fun _ => none) 0 (some 8)) 1 (some 9))), (0, 600, (fun _ => none)), (0, 60, (fun _ => none)), (13, 1, (va_up (fun _ => none) 0 (some 11))), (0, 55, (fun _ => none)), (9, 2, (va_up (va_up (fun _ => none) 0 (some 13)) 1 (some 14))), (0, 12, (fun _ => none)), (0, 648, (fun _ => none)), (5, 2, (va_up (fun _ => none) 1 (some 16))), (0, 80, (fun _ => none)), (2, 3, (va_up (va_up (va_up (fun _ => none) 0 (some 40)) 1 (some 56)) 2 (some 72))), (1, 3, (fun _ => none)), (11, 2, (va_up (fun _ => none) 1 (some 20))), (0, 60, (fun _ => none)), (8, 3, (va_up (fun _ => none) 0 (some 22))), (0, 9, (fun _ => none)), (4, 2, (va_up (va_up (fun _ => none) 0 (some 24)) 1 (some 25))), (0, 12, (fun _ => none)), (6, 5, (va_up (va_up (va_up (va_up (fun _ => none) 0 (some 26)) 1 (some 32)) 2 (some 38)) 3 (some 39))), (7, 7, (va_up (va_up (va_up (va_up (va_up (fun _ => none) 0 (some 27)) 1 (some 28)) 2 (some 29)) 3 (some 30)) 5 (some 31))), (0, 72, (fun _ => none)), (0, 72, (fun _ => none)), (0, 72, (fun _ => none)), (0, 72, (fun _ => none)), (0, 72, (fun _ => none)), (7, 7, (va_up (va_up (va_up (va_up (va_up (fun _ => none) 0 (some 33)) 1 (some 34)) 2 (some 35)) 3 (some 36)) 5 (some 37))), (0, 72, (fun _ => none)), (0, 72, (fun _ => none)), (0, 72, (fun _ => none)), (0, 72, (fun _ => none)), (0, 72, (fun _ => none)), (0, 60, (fun _ => none)), (0, 12, (fun _ => none)), (12, 14, (va_up (va_up (va_up (va_up (va_up (va_up (va_up (va_up (va_up (fun _ => none) 5 (some 41)) 6 (some 42)) 7 (some 43)) 8 (some 44)) 9 (some 45)) 10 (some 46)) 11 (some 49)) 12 (some 51)) 13 (some 54))), (0, 12, (fun _ => none)), (0, 12, (fun _ => none)), (0, 12, (fun _ => none)), (0, 12, (fun _ => none)), (0, 720, (fun _ => none)), (10, 2, (va_up (va_up (fun _ => none) 0 (some 47)) 1 (some 48))), (0, 600, (fun _ => none)), (0, 60, (fun _ => none)), (13, 1, (va_up (fun _ => none) 0 (some 50))), (0, 55, (fun _ => none)), (9, 2, (va_up (va_up (fun _ => none) 0 (some 52)) 1 (some 53))), (0, 12, (fun _ => none)), (0, 648, (fun _ => none)), (5, 2, (va_up (fun _ => none) 1 (some 55))), (0, 80, (fun _ => none)), (12, 14, (va_up (va_up (va_up (va_up (va_up (va_up (va_up (va_up (va_up (fun _ => none) 5 (some 57)) 6 (some 58)) 7 (some 59)) 8 (some 60)) 9 (some 61)) 10 (some 62)) 11 (some 65)) 12 (some 67)) 13 (some 70))), (0, 12, (fun _ => none)), (0, 12, (fun _ => none)), (0, 12, (fun _ => none)), (0, 12, (fun _ => none)), (0, 720, (fun _ => none)), (10, 2, (va_up (va_up (fun _ => none) 0 (some 63)) 1 (some 64))), (0, 600, (fun _ => none)), (0, 60, (fun _ => none)), (13, 1, (va_up (fun _ => none) 0 (some 66))), (0, 55, (fun _ => none)), (9, 2, (va_up (va_up (fun _ => none) 0 (some 68)) 1 (some 69))), (0, 12, (fun _ => none)), (0, 648, (fun _ => none)), (5, 2, (va_up (fun _ => none) 1 (some 71))), (0, 80, (fun _ => none)), (12, 14, (va_up (va_up (va_up (va_up (va_up (va_up (va_up (va_up (va_up (fun _ => none) 5 (some 73)) 6 (some 74)) 7 (some 75)) 8 (some 76)) 9 (some 77)) 10 (some 78)) 11 (some 81)) 12 (some 83)) 13 (some 86))), (0, 12, (fun _ => none)), (0, 12, (fun _ => none)), (0, 12, (fun _ => none)), (0, 12, (fun _ => none)), (0, 720, (fun _ => none)), (10, 2, (va_up (va_up (fun _ => none) 0 (some 79)) 1 (some 80))), (0, 600, (fun _ => none)), (0, 60, (fun _ => none)), (13, 1, (va_up (fun _ => none) 0 (some 82))), (0, 55, (fun _ => none)), (9, 2, (va_up (va_up (fun _ => none) 0 (some 84)) 1 (some 85))), (0, 12, (fun _ => none)), (0, 648, (fun _ => none)), (5, 2, (va_up (fun _ => none) 1 (some 87))), (0, 80, (fun _ => none)), (14, 21, (va_up (va_up (va_up (va_up (va_up (va_up (va_up (va_up (va_up (va_up (va_up (va_up (va_up (va_up (fun _ => none) 0 (some 89)) 1 (some 90)) 2 (some 91)) 3 (some 92)) 5 (some 93)) 6 (some 94)) 7 (some 95)) 8 (some 96)) 9 (some 97)) 10 (some 98)) 17 (some 99)) 18 (some 100)) 19 (some 101)) 20 (some 102))), (0, 2200, (fun _ => none)), (0, 6600, (fun _ => none)), (1, 3, (fun _ => none)), (0, 60, (fun _ => none)), (0, 80, (fun _ => none)), (0, 80, (fun _ => none)), (0, 80, (fun _ => none)), (0, 80, (fun _ => none)), (1, 80, (fun _ => none)), (0, 80, (fun _ => none)), (0, 9, (fun _ => none)), (0, 12, (fun _ => none)), (0, 10, (fun _ => none)), (0, 20, (fun _ => none))], (mj_wr (mj_wr (mj_wr (mj_wr (mj_wr (mj_wr σ 89 2165 1) 89 1316 (-1)) 89 1327 (-1)) 89 1338 (-1)) 89 1349 (-1)) 89 1360 (-1))) := by
  show mj_R M_Md_init 0 [some (.ref 88), none] [] _ _ _
  refine mj_aload_n (pc := 0) (i := 0) d_Md_init_0 rfl rfl (by decide) ?_
  refine mj_obj (pc := 1) d_Md_init_1 ob_Md_1 (by decide) (by decide) (Nat.le_of_ble_eq_true rfl) ?_
  refine mj_aload_n (pc := 4) (i := 0) d_Md_init_4 rfl rfl (by decide) ?_
  refine mj_sipush (pc := 5) (v := 2200) d_Md_init_5 (by decide) ?_
  refine mj_newaN (q := 89) (pc := 8) (N := 2200) rfl d_Md_init_8 ac_int (by decide) (by decide) (by decide) (by decide) (fun j => hz 89 j (by decide)) ?_
  refine pj_putR (pc := 10) d_Md_init_10 fl_Md_7 rfl rfl (fun _ _ _ h => by cases h; exact ⟨rfl, rfl⟩) rfl (by decide) (by decide) (by decide) ?_
  refine mj_aload_n (pc := 13) (i := 0) d_Md_init_13 rfl rfl (by decide) ?_
  refine mj_sipush (pc := 14) (v := 6600) d_Md_init_14 (by decide) ?_
  refine mj_newaN (q := 90) (pc := 17) (N := 6600) rfl d_Md_init_17 ac_int (by decide) (by decide) (by decide) (by decide) (fun j => hz 90 j (by decide)) ?_
  refine pj_putR (pc := 19) d_Md_init_19 fl_Md_13 rfl rfl (fun _ _ _ h => by cases h; exact ⟨rfl, rfl⟩) rfl (by decide) (by decide) (by decide) ?_
  refine mj_aload_n (pc := 22) (i := 0) d_Md_init_22 rfl rfl (by decide) ?_
  refine mj_iconst (pc := 23) (v := 3) d_Md_init_23 (by decide) ?_
  refine mj_newzN (q := 91) (pc := 24) (N := 3) rfl d_Md_init_24 ac_boolean (by decide) (by decide) (by decide) (by decide) (fun j => hz 91 j (by decide)) ?_
  refine pj_putR (pc := 26) d_Md_init_26 fl_Md_16 rfl rfl (fun _ _ _ h => by cases h; exact ⟨rfl, rfl⟩) rfl (by decide) (by decide) (by decide) ?_
  refine mj_aload_n (pc := 29) (i := 0) d_Md_init_29 rfl rfl (by decide) ?_
  refine mj_bipush (pc := 30) (v := 60) d_Md_init_30 (by decide) ?_
  refine mj_newaN (q := 92) (pc := 32) (N := 60) rfl d_Md_init_32 ac_int (by decide) (by decide) (by decide) (by decide) (fun j => hz 92 j (by decide)) ?_
  refine pj_putR (pc := 34) d_Md_init_34 fl_Md_20 rfl rfl (fun _ _ _ h => by cases h; exact ⟨rfl, rfl⟩) rfl (by decide) (by decide) (by decide) ?_
  refine mj_aload_n (pc := 37) (i := 0) d_Md_init_37 rfl rfl (by decide) ?_
  refine mj_bipush (pc := 38) (v := 80) d_Md_init_38 (by decide) ?_
  refine mj_newaN (q := 93) (pc := 40) (N := 80) rfl d_Md_init_40 ac_int (by decide) (by decide) (by decide) (by decide) (fun j => hz 93 j (by decide)) ?_
  refine pj_putR (pc := 42) d_Md_init_42 fl_Md_23 rfl rfl (fun _ _ _ h => by cases h; exact ⟨rfl, rfl⟩) rfl (by decide) (by decide) (by decide) ?_
  refine mj_aload_n (pc := 45) (i := 0) d_Md_init_45 rfl rfl (by decide) ?_
  refine mj_bipush (pc := 46) (v := 80) d_Md_init_46 (by decide) ?_
  refine mj_newaN (q := 94) (pc := 48) (N := 80) rfl d_Md_init_48 ac_int (by decide) (by decide) (by decide) (by decide) (fun j => hz 94 j (by decide)) ?_
  refine pj_putR (pc := 50) d_Md_init_50 fl_Md_26 rfl rfl (fun _ _ _ h => by cases h; exact ⟨rfl, rfl⟩) rfl (by decide) (by decide) (by decide) ?_
  refine mj_aload_n (pc := 53) (i := 0) d_Md_init_53 rfl rfl (by decide) ?_
  refine mj_bipush (pc := 54) (v := 80) d_Md_init_54 (by decide) ?_
  refine mj_newaN (q := 95) (pc := 56) (N := 80) rfl d_Md_init_56 ac_int (by decide) (by decide) (by decide) (by decide) (fun j => hz 95 j (by decide)) ?_
  refine pj_putR (pc := 58) d_Md_init_58 fl_Md_29 rfl rfl (fun _ _ _ h => by cases h; exact ⟨rfl, rfl⟩) rfl (by decide) (by decide) (by decide) ?_
  refine mj_aload_n (pc := 61) (i := 0) d_Md_init_61 rfl rfl (by decide) ?_
  refine mj_bipush (pc := 62) (v := 80) d_Md_init_62 (by decide) ?_
  refine mj_newaN (q := 96) (pc := 64) (N := 80) rfl d_Md_init_64 ac_int (by decide) (by decide) (by decide) (by decide) (fun j => hz 96 j (by decide)) ?_
  refine pj_putR (pc := 66) d_Md_init_66 fl_Md_32 rfl rfl (fun _ _ _ h => by cases h; exact ⟨rfl, rfl⟩) rfl (by decide) (by decide) (by decide) ?_
  refine mj_aload_n (pc := 69) (i := 0) d_Md_init_69 rfl rfl (by decide) ?_
  refine mj_bipush (pc := 70) (v := 80) d_Md_init_70 (by decide) ?_
  refine mj_newzN (q := 97) (pc := 72) (N := 80) rfl d_Md_init_72 ac_boolean (by decide) (by decide) (by decide) (by decide) (fun j => hz 97 j (by decide)) ?_
  refine pj_putR (pc := 74) d_Md_init_74 fl_Md_35 rfl rfl (fun _ _ _ h => by cases h; exact ⟨rfl, rfl⟩) rfl (by decide) (by decide) (by decide) ?_
  refine mj_aload_n (pc := 77) (i := 0) d_Md_init_77 rfl rfl (by decide) ?_
  refine mj_bipush (pc := 78) (v := 80) d_Md_init_78 (by decide) ?_
  refine mj_newaN (q := 98) (pc := 80) (N := 80) rfl d_Md_init_80 ac_int (by decide) (by decide) (by decide) (by decide) (fun j => hz 98 j (by decide)) ?_
  refine pj_putR (pc := 82) d_Md_init_82 fl_Md_38 rfl rfl (fun _ _ _ h => by cases h; exact ⟨rfl, rfl⟩) rfl (by decide) (by decide) (by decide) ?_
  refine mj_aload_n (pc := 85) (i := 0) d_Md_init_85 rfl rfl (by decide) ?_
  refine mj_bipush (pc := 86) (v := 9) d_Md_init_86 (by decide) ?_
  refine mj_newaN (q := 99) (pc := 88) (N := 9) rfl d_Md_init_88 ac_int (by decide) (by decide) (by decide) (by decide) (fun j => hz 99 j (by decide)) ?_
  refine pj_putR (pc := 90) d_Md_init_90 fl_Md_41 rfl rfl (fun _ _ _ h => by cases h; exact ⟨rfl, rfl⟩) rfl (by decide) (by decide) (by decide) ?_
  refine mj_aload_n (pc := 93) (i := 0) d_Md_init_93 rfl rfl (by decide) ?_
  refine mj_bipush (pc := 94) (v := 12) d_Md_init_94 (by decide) ?_
  refine mj_newaN (q := 100) (pc := 96) (N := 12) rfl d_Md_init_96 ac_int (by decide) (by decide) (by decide) (by decide) (fun j => hz 100 j (by decide)) ?_
  refine pj_putR (pc := 98) d_Md_init_98 fl_Md_44 rfl rfl (fun _ _ _ h => by cases h; exact ⟨rfl, rfl⟩) rfl (by decide) (by decide) (by decide) ?_
  refine mj_aload_n (pc := 101) (i := 0) d_Md_init_101 rfl rfl (by decide) ?_
  refine mj_bipush (pc := 102) (v := 10) d_Md_init_102 (by decide) ?_
  refine mj_newaN (q := 101) (pc := 104) (N := 10) rfl d_Md_init_104 ac_int (by decide) (by decide) (by decide) (by decide) (fun j => hz 101 j (by decide)) ?_
  refine pj_putR (pc := 106) d_Md_init_106 fl_Md_47 rfl rfl (fun _ _ _ h => by cases h; exact ⟨rfl, rfl⟩) rfl (by decide) (by decide) (by decide) ?_
  refine mj_aload_n (pc := 109) (i := 0) d_Md_init_109 rfl rfl (by decide) ?_
  refine mj_bipush (pc := 110) (v := 20) d_Md_init_110 (by decide) ?_
  refine mj_newaN (q := 102) (pc := 112) (N := 20) rfl d_Md_init_112 ac_int (by decide) (by decide) (by decide) (by decide) (fun j => hz 102 j (by decide)) ?_
  refine pj_putR (pc := 114) d_Md_init_114 fl_Md_50 rfl rfl (fun _ _ _ h => by cases h; exact ⟨rfl, rfl⟩) rfl (by decide) (by decide) (by decide) ?_
  refine mj_aload_n (pc := 117) (i := 0) d_Md_init_117 rfl rfl (by decide) ?_
  refine mj_getR (pc := 118) d_Md_init_118 fl_Md_7 rfl rfl rfl (by decide) (by decide) (by decide) ?_
  refine mj_sipush (pc := 121) (v := 2165) d_Md_init_121 (by decide) ?_
  refine mj_iconst (pc := 124) (v := 1) d_Md_init_124 (by decide) ?_
  refine pj_iast (j := 2165) (pc := 125) (by decide) d_Md_init_125 rfl (by decide) (by decide) ?_
  refine mj_iconst (pc := 126) (v := 0) d_Md_init_126 (by decide) ?_
  refine mj_istore_n (pc := 127) (i := 1) d_Md_init_127 rfl rfl (by decide) ?_
  refine mj_iload_n (pc := 128) (i := 1) d_Md_init_128 rfl rfl ?_
  refine mj_iconst (pc := 129) (v := 5) d_Md_init_129 (by decide) ?_
  refine mj_icmp_ge (pc := 130) (tgt := 156) d_Md_init_130 (by decide) ⟨(Nat.le_of_ble_eq_true rfl), (Nat.le_of_ble_eq_true rfl)⟩ (fun hc => absurd hc (by decide)) (fun _ => ?_)
  refine mj_aload_n (pc := 133) (i := 0) d_Md_init_133 rfl rfl (by decide) ?_
  refine mj_getR (pc := 134) d_Md_init_134 fl_Md_7 rfl rfl rfl (by decide) (by decide) (by decide) ?_
  refine mj_sipush (pc := 137) (v := 1308) d_Md_init_137 (by decide) ?_
  refine mj_bipush (pc := 140) (v := 11) d_Md_init_140 (by decide) ?_
  refine mj_iload_n (pc := 142) (i := 1) d_Md_init_142 rfl rfl ?_
  refine mj_imul (pc := 143) d_Md_init_143 ?_
  refine mj_iadd (pc := 144) d_Md_init_144 ?_
  refine mj_bipush (pc := 145) (v := 8) d_Md_init_145 (by decide) ?_
  refine mj_iadd (pc := 147) d_Md_init_147 ?_
  refine mj_iconst (pc := 148) (v := -1) d_Md_init_148 (by decide) ?_
  refine pj_iast (j := 1316) (pc := 149) (by decide) d_Md_init_149 rfl (by decide) (by decide) ?_
  refine mj_iinc (pc := 150) (i := 1) (v := 1) d_Md_init_150 rfl (by decide) rfl (by decide) ?_
  refine mj_goto (pc := 153) (tgt := 128) d_Md_init_153 (by decide) ?_
  refine mj_iload_n (pc := 128) (i := 1) d_Md_init_128 rfl rfl ?_
  refine mj_iconst (pc := 129) (v := 5) d_Md_init_129 (by decide) ?_
  refine mj_icmp_ge (pc := 130) (tgt := 156) d_Md_init_130 (by decide) ⟨(Nat.le_of_ble_eq_true rfl), (Nat.le_of_ble_eq_true rfl)⟩ (fun hc => absurd hc (by decide)) (fun _ => ?_)
  refine mj_aload_n (pc := 133) (i := 0) d_Md_init_133 rfl rfl (by decide) ?_
  refine mj_getR (pc := 134) d_Md_init_134 fl_Md_7 rfl rfl rfl (by decide) (by decide) (by decide) ?_
  refine mj_sipush (pc := 137) (v := 1308) d_Md_init_137 (by decide) ?_
  refine mj_bipush (pc := 140) (v := 11) d_Md_init_140 (by decide) ?_
  refine mj_iload_n (pc := 142) (i := 1) d_Md_init_142 rfl rfl ?_
  refine mj_imul (pc := 143) d_Md_init_143 ?_
  refine mj_iadd (pc := 144) d_Md_init_144 ?_
  refine mj_bipush (pc := 145) (v := 8) d_Md_init_145 (by decide) ?_
  refine mj_iadd (pc := 147) d_Md_init_147 ?_
  refine mj_iconst (pc := 148) (v := -1) d_Md_init_148 (by decide) ?_
  refine pj_iast (j := 1327) (pc := 149) (by decide) d_Md_init_149 rfl (by decide) (by decide) ?_
  refine mj_iinc (pc := 150) (i := 1) (v := 2) d_Md_init_150 rfl (by decide) rfl (by decide) ?_
  refine mj_goto (pc := 153) (tgt := 128) d_Md_init_153 (by decide) ?_
  refine mj_iload_n (pc := 128) (i := 1) d_Md_init_128 rfl rfl ?_
  refine mj_iconst (pc := 129) (v := 5) d_Md_init_129 (by decide) ?_
  refine mj_icmp_ge (pc := 130) (tgt := 156) d_Md_init_130 (by decide) ⟨(Nat.le_of_ble_eq_true rfl), (Nat.le_of_ble_eq_true rfl)⟩ (fun hc => absurd hc (by decide)) (fun _ => ?_)
  refine mj_aload_n (pc := 133) (i := 0) d_Md_init_133 rfl rfl (by decide) ?_
  refine mj_getR (pc := 134) d_Md_init_134 fl_Md_7 rfl rfl rfl (by decide) (by decide) (by decide) ?_
  refine mj_sipush (pc := 137) (v := 1308) d_Md_init_137 (by decide) ?_
  refine mj_bipush (pc := 140) (v := 11) d_Md_init_140 (by decide) ?_
  refine mj_iload_n (pc := 142) (i := 1) d_Md_init_142 rfl rfl ?_
  refine mj_imul (pc := 143) d_Md_init_143 ?_
  refine mj_iadd (pc := 144) d_Md_init_144 ?_
  refine mj_bipush (pc := 145) (v := 8) d_Md_init_145 (by decide) ?_
  refine mj_iadd (pc := 147) d_Md_init_147 ?_
  refine mj_iconst (pc := 148) (v := -1) d_Md_init_148 (by decide) ?_
  refine pj_iast (j := 1338) (pc := 149) (by decide) d_Md_init_149 rfl (by decide) (by decide) ?_
  refine mj_iinc (pc := 150) (i := 1) (v := 3) d_Md_init_150 rfl (by decide) rfl (by decide) ?_
  refine mj_goto (pc := 153) (tgt := 128) d_Md_init_153 (by decide) ?_
  refine mj_iload_n (pc := 128) (i := 1) d_Md_init_128 rfl rfl ?_
  refine mj_iconst (pc := 129) (v := 5) d_Md_init_129 (by decide) ?_
  refine mj_icmp_ge (pc := 130) (tgt := 156) d_Md_init_130 (by decide) ⟨(Nat.le_of_ble_eq_true rfl), (Nat.le_of_ble_eq_true rfl)⟩ (fun hc => absurd hc (by decide)) (fun _ => ?_)
  refine mj_aload_n (pc := 133) (i := 0) d_Md_init_133 rfl rfl (by decide) ?_
  refine mj_getR (pc := 134) d_Md_init_134 fl_Md_7 rfl rfl rfl (by decide) (by decide) (by decide) ?_
  refine mj_sipush (pc := 137) (v := 1308) d_Md_init_137 (by decide) ?_
  refine mj_bipush (pc := 140) (v := 11) d_Md_init_140 (by decide) ?_
  refine mj_iload_n (pc := 142) (i := 1) d_Md_init_142 rfl rfl ?_
  refine mj_imul (pc := 143) d_Md_init_143 ?_
  refine mj_iadd (pc := 144) d_Md_init_144 ?_
  refine mj_bipush (pc := 145) (v := 8) d_Md_init_145 (by decide) ?_
  refine mj_iadd (pc := 147) d_Md_init_147 ?_
  refine mj_iconst (pc := 148) (v := -1) d_Md_init_148 (by decide) ?_
  refine pj_iast (j := 1349) (pc := 149) (by decide) d_Md_init_149 rfl (by decide) (by decide) ?_
  refine mj_iinc (pc := 150) (i := 1) (v := 4) d_Md_init_150 rfl (by decide) rfl (by decide) ?_
  refine mj_goto (pc := 153) (tgt := 128) d_Md_init_153 (by decide) ?_
  refine mj_iload_n (pc := 128) (i := 1) d_Md_init_128 rfl rfl ?_
  refine mj_iconst (pc := 129) (v := 5) d_Md_init_129 (by decide) ?_
  refine mj_icmp_ge (pc := 130) (tgt := 156) d_Md_init_130 (by decide) ⟨(Nat.le_of_ble_eq_true rfl), (Nat.le_of_ble_eq_true rfl)⟩ (fun hc => absurd hc (by decide)) (fun _ => ?_)
  refine mj_aload_n (pc := 133) (i := 0) d_Md_init_133 rfl rfl (by decide) ?_
  refine mj_getR (pc := 134) d_Md_init_134 fl_Md_7 rfl rfl rfl (by decide) (by decide) (by decide) ?_
  refine mj_sipush (pc := 137) (v := 1308) d_Md_init_137 (by decide) ?_
  refine mj_bipush (pc := 140) (v := 11) d_Md_init_140 (by decide) ?_
  refine mj_iload_n (pc := 142) (i := 1) d_Md_init_142 rfl rfl ?_
  refine mj_imul (pc := 143) d_Md_init_143 ?_
  refine mj_iadd (pc := 144) d_Md_init_144 ?_
  refine mj_bipush (pc := 145) (v := 8) d_Md_init_145 (by decide) ?_
  refine mj_iadd (pc := 147) d_Md_init_147 ?_
  refine mj_iconst (pc := 148) (v := -1) d_Md_init_148 (by decide) ?_
  refine pj_iast (j := 1360) (pc := 149) (by decide) d_Md_init_149 rfl (by decide) (by decide) ?_
  refine mj_iinc (pc := 150) (i := 1) (v := 5) d_Md_init_150 rfl (by decide) rfl (by decide) ?_
  refine mj_goto (pc := 153) (tgt := 128) d_Md_init_153 (by decide) ?_
  refine mj_iload_n (pc := 128) (i := 1) d_Md_init_128 rfl rfl ?_
  refine mj_iconst (pc := 129) (v := 5) d_Md_init_129 (by decide) ?_
  refine mj_icmp_ge (pc := 130) (tgt := 156) d_Md_init_130 (by decide) ⟨(Nat.le_of_ble_eq_true rfl), (Nat.le_of_ble_eq_true rfl)⟩ (fun _ => ?_) (fun hc => absurd hc (by decide))
  exact mj_vret (pc := 156) d_Md_init_156 rfl
