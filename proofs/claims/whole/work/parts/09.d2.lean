def M_Tw_cashNotAbove : mj_M := (⟨"MarketTown$Town", "cashNotAbove", "(II)I"⟩, prog_10_method_13_code, 5, some .int, 1, 23)
theorem d_Tw_cashNotAbove_0 : decode M_Tw_cashNotAbove.2.1 0 = .ok (.iconst 0, 1) := by decide +kernel
theorem d_Tw_cashNotAbove_1 : decode M_Tw_cashNotAbove.2.1 1 = .ok (.istore_n 3, 1) := by decide +kernel
theorem d_Tw_cashNotAbove_2 : decode M_Tw_cashNotAbove.2.1 2 = .ok (.iconst 0, 1) := by decide +kernel
theorem d_Tw_cashNotAbove_3 : decode M_Tw_cashNotAbove.2.1 3 = .ok (.istore 4, 2) := by decide +kernel
theorem d_Tw_cashNotAbove_5 : decode M_Tw_cashNotAbove.2.1 5 = .ok (.iload 4, 2) := by decide +kernel
theorem d_Tw_cashNotAbove_7 : decode M_Tw_cashNotAbove.2.1 7 = .ok (.aload_n 0, 1) := by decide +kernel
theorem d_Tw_cashNotAbove_8 : decode M_Tw_cashNotAbove.2.1 8 = .ok (.getfield 59, 3) := by decide +kernel
theorem d_Tw_cashNotAbove_11 : decode M_Tw_cashNotAbove.2.1 11 = .ok (.if_icmp .ge 33, 3) := by decide +kernel
theorem d_Tw_cashNotAbove_14 : decode M_Tw_cashNotAbove.2.1 14 = .ok (.aload_n 0, 1) := by decide +kernel
theorem d_Tw_cashNotAbove_15 : decode M_Tw_cashNotAbove.2.1 15 = .ok (.iload 4, 2) := by decide +kernel
theorem d_Tw_cashNotAbove_17 : decode M_Tw_cashNotAbove.2.1 17 = .ok (.iload_n 1, 1) := by decide +kernel
theorem d_Tw_cashNotAbove_18 : decode M_Tw_cashNotAbove.2.1 18 = .ok (.invokevirtual 76, 3) := by decide +kernel
theorem d_Tw_cashNotAbove_21 : decode M_Tw_cashNotAbove.2.1 21 = .ok (.ifCond .eq 17, 3) := by decide +kernel
theorem d_Tw_cashNotAbove_24 : decode M_Tw_cashNotAbove.2.1 24 = .ok (.aload_n 0, 1) := by decide +kernel
theorem d_Tw_cashNotAbove_25 : decode M_Tw_cashNotAbove.2.1 25 = .ok (.getfield 19, 3) := by decide +kernel
theorem d_Tw_cashNotAbove_28 : decode M_Tw_cashNotAbove.2.1 28 = .ok (.iload 4, 2) := by decide +kernel
theorem d_Tw_cashNotAbove_30 : decode M_Tw_cashNotAbove.2.1 30 = .ok (.iaload, 1) := by decide +kernel
theorem d_Tw_cashNotAbove_31 : decode M_Tw_cashNotAbove.2.1 31 = .ok (.iload_n 2, 1) := by decide +kernel
theorem d_Tw_cashNotAbove_32 : decode M_Tw_cashNotAbove.2.1 32 = .ok (.if_icmp .gt 6, 3) := by decide +kernel
theorem d_Tw_cashNotAbove_35 : decode M_Tw_cashNotAbove.2.1 35 = .ok (.iinc 3 1, 3) := by decide +kernel
theorem d_Tw_cashNotAbove_38 : decode M_Tw_cashNotAbove.2.1 38 = .ok (.iinc 4 1, 3) := by decide +kernel
theorem d_Tw_cashNotAbove_41 : decode M_Tw_cashNotAbove.2.1 41 = .ok (.goto (-36), 3) := by decide +kernel
theorem d_Tw_cashNotAbove_44 : decode M_Tw_cashNotAbove.2.1 44 = .ok (.iload_n 3, 1) := by decide +kernel
theorem d_Tw_cashNotAbove_45 : decode M_Tw_cashNotAbove.2.1 45 = .ok (.ireturn, 1) := by decide +kernel
def M_Mk_save : mj_M := (⟨"MarketTown", "save", "(I)I"⟩, prog_1_method_22_code, 2, some .int, 3, 106)
theorem d_Mk_save_0 : decode M_Mk_save.2.1 0 = .ok (.iload_n 1, 1) := by decide +kernel
theorem d_Mk_save_1 : decode M_Mk_save.2.1 1 = .ok (.iconst 0, 1) := by decide +kernel
theorem d_Mk_save_2 : decode M_Mk_save.2.1 2 = .ok (.iconst 2, 1) := by decide +kernel
theorem d_Mk_save_3 : decode M_Mk_save.2.1 3 = .ok (.invokestatic 50, 3) := by decide +kernel
theorem d_Mk_save_6 : decode M_Mk_save.2.1 6 = .ok (.ifCond .ne 6, 3) := by decide +kernel
theorem d_Mk_save_9 : decode M_Mk_save.2.1 9 = .ok (.ldc 54, 2) := by decide +kernel
theorem d_Mk_save_11 : decode M_Mk_save.2.1 11 = .ok (.ireturn, 1) := by decide +kernel
theorem d_Mk_save_12 : decode M_Mk_save.2.1 12 = .ok (.aload_n 0, 1) := by decide +kernel
theorem d_Mk_save_13 : decode M_Mk_save.2.1 13 = .ok (.getfield 16, 3) := by decide +kernel
theorem d_Mk_save_16 : decode M_Mk_save.2.1 16 = .ok (.iload_n 1, 1) := by decide +kernel
theorem d_Mk_save_17 : decode M_Mk_save.2.1 17 = .ok (.aaload, 1) := by decide +kernel
theorem d_Mk_save_18 : decode M_Mk_save.2.1 18 = .ok (.aload_n 0, 1) := by decide +kernel
theorem d_Mk_save_19 : decode M_Mk_save.2.1 19 = .ok (.getfield 12, 3) := by decide +kernel
theorem d_Mk_save_22 : decode M_Mk_save.2.1 22 = .ok (.invokevirtual 202, 3) := by decide +kernel
theorem d_Mk_save_25 : decode M_Mk_save.2.1 25 = .ok (.aload_n 0, 1) := by decide +kernel
theorem d_Mk_save_26 : decode M_Mk_save.2.1 26 = .ok (.getfield 20, 3) := by decide +kernel
theorem d_Mk_save_29 : decode M_Mk_save.2.1 29 = .ok (.iload_n 1, 1) := by decide +kernel
theorem d_Mk_save_30 : decode M_Mk_save.2.1 30 = .ok (.iconst 1, 1) := by decide +kernel
theorem d_Mk_save_31 : decode M_Mk_save.2.1 31 = .ok (.bastore, 1) := by decide +kernel
theorem d_Mk_save_32 : decode M_Mk_save.2.1 32 = .ok (.aload_n 0, 1) := by decide +kernel
theorem d_Mk_save_33 : decode M_Mk_save.2.1 33 = .ok (.getfield 12, 3) := by decide +kernel
theorem d_Mk_save_36 : decode M_Mk_save.2.1 36 = .ok (.getfield 139, 3) := by decide +kernel
theorem d_Mk_save_39 : decode M_Mk_save.2.1 39 = .ok (.ireturn, 1) := by decide +kernel
def M_Tw_become : mj_M := (⟨"MarketTown$Town", "become", "(LMarketTown$Town;)V"⟩, prog_10_method_15_code, 2, none, 2, 85)
theorem d_Tw_become_0 : decode M_Tw_become.2.1 0 = .ok (.aload_n 0, 1) := by decide +kernel
theorem d_Tw_become_1 : decode M_Tw_become.2.1 1 = .ok (.aload_n 1, 1) := by decide +kernel
theorem d_Tw_become_2 : decode M_Tw_become.2.1 2 = .ok (.getfield 59, 3) := by decide +kernel
theorem d_Tw_become_5 : decode M_Tw_become.2.1 5 = .ok (.putfield 59, 3) := by decide +kernel
theorem d_Tw_become_8 : decode M_Tw_become.2.1 8 = .ok (.aload_n 0, 1) := by decide +kernel
theorem d_Tw_become_9 : decode M_Tw_become.2.1 9 = .ok (.aload_n 1, 1) := by decide +kernel
theorem d_Tw_become_10 : decode M_Tw_become.2.1 10 = .ok (.getfield 89, 3) := by decide +kernel
theorem d_Tw_become_13 : decode M_Tw_become.2.1 13 = .ok (.putfield 89, 3) := by decide +kernel
theorem d_Tw_become_16 : decode M_Tw_become.2.1 16 = .ok (.aload_n 0, 1) := by decide +kernel
theorem d_Tw_become_17 : decode M_Tw_become.2.1 17 = .ok (.aload_n 1, 1) := by decide +kernel
theorem d_Tw_become_18 : decode M_Tw_become.2.1 18 = .ok (.getfield 9, 3) := by decide +kernel
theorem d_Tw_become_21 : decode M_Tw_become.2.1 21 = .ok (.putfield 9, 3) := by decide +kernel
theorem d_Tw_become_24 : decode M_Tw_become.2.1 24 = .ok (.aload_n 0, 1) := by decide +kernel
theorem d_Tw_become_25 : decode M_Tw_become.2.1 25 = .ok (.aload_n 1, 1) := by decide +kernel
theorem d_Tw_become_26 : decode M_Tw_become.2.1 26 = .ok (.getfield 92, 3) := by decide +kernel
theorem d_Tw_become_29 : decode M_Tw_become.2.1 29 = .ok (.putfield 92, 3) := by decide +kernel
theorem d_Tw_become_32 : decode M_Tw_become.2.1 32 = .ok (.aload_n 0, 1) := by decide +kernel
theorem d_Tw_become_33 : decode M_Tw_become.2.1 33 = .ok (.aload_n 1, 1) := by decide +kernel
theorem d_Tw_become_34 : decode M_Tw_become.2.1 34 = .ok (.getfield 95, 3) := by decide +kernel
theorem d_Tw_become_37 : decode M_Tw_become.2.1 37 = .ok (.putfield 95, 3) := by decide +kernel
theorem d_Tw_become_40 : decode M_Tw_become.2.1 40 = .ok (.aload_n 1, 1) := by decide +kernel
theorem d_Tw_become_41 : decode M_Tw_become.2.1 41 = .ok (.getfield 15, 3) := by decide +kernel
theorem d_Tw_become_44 : decode M_Tw_become.2.1 44 = .ok (.iconst 0, 1) := by decide +kernel
theorem d_Tw_become_45 : decode M_Tw_become.2.1 45 = .ok (.aload_n 0, 1) := by decide +kernel
theorem d_Tw_become_46 : decode M_Tw_become.2.1 46 = .ok (.getfield 15, 3) := by decide +kernel
theorem d_Tw_become_49 : decode M_Tw_become.2.1 49 = .ok (.iconst 0, 1) := by decide +kernel
theorem d_Tw_become_50 : decode M_Tw_become.2.1 50 = .ok (.aload_n 0, 1) := by decide +kernel
theorem d_Tw_become_51 : decode M_Tw_become.2.1 51 = .ok (.getfield 15, 3) := by decide +kernel
theorem d_Tw_become_54 : decode M_Tw_become.2.1 54 = .ok (.arraylength, 1) := by decide +kernel
theorem d_Tw_become_55 : decode M_Tw_become.2.1 55 = .ok (.invokestatic 98, 3) := by decide +kernel
theorem d_Tw_become_58 : decode M_Tw_become.2.1 58 = .ok (.aload_n 1, 1) := by decide +kernel
theorem d_Tw_become_59 : decode M_Tw_become.2.1 59 = .ok (.getfield 19, 3) := by decide +kernel
theorem d_Tw_become_62 : decode M_Tw_become.2.1 62 = .ok (.iconst 0, 1) := by decide +kernel
theorem d_Tw_become_63 : decode M_Tw_become.2.1 63 = .ok (.aload_n 0, 1) := by decide +kernel
theorem d_Tw_become_64 : decode M_Tw_become.2.1 64 = .ok (.getfield 19, 3) := by decide +kernel
theorem d_Tw_become_67 : decode M_Tw_become.2.1 67 = .ok (.iconst 0, 1) := by decide +kernel
theorem d_Tw_become_68 : decode M_Tw_become.2.1 68 = .ok (.aload_n 0, 1) := by decide +kernel
theorem d_Tw_become_69 : decode M_Tw_become.2.1 69 = .ok (.getfield 19, 3) := by decide +kernel
theorem d_Tw_become_72 : decode M_Tw_become.2.1 72 = .ok (.arraylength, 1) := by decide +kernel
theorem d_Tw_become_73 : decode M_Tw_become.2.1 73 = .ok (.invokestatic 98, 3) := by decide +kernel
theorem d_Tw_become_76 : decode M_Tw_become.2.1 76 = .ok (.aload_n 1, 1) := by decide +kernel
theorem d_Tw_become_77 : decode M_Tw_become.2.1 77 = .ok (.getfield 22, 3) := by decide +kernel
theorem d_Tw_become_80 : decode M_Tw_become.2.1 80 = .ok (.iconst 0, 1) := by decide +kernel
theorem d_Tw_become_81 : decode M_Tw_become.2.1 81 = .ok (.aload_n 0, 1) := by decide +kernel
theorem d_Tw_become_82 : decode M_Tw_become.2.1 82 = .ok (.getfield 22, 3) := by decide +kernel
theorem d_Tw_become_85 : decode M_Tw_become.2.1 85 = .ok (.iconst 0, 1) := by decide +kernel
theorem d_Tw_become_86 : decode M_Tw_become.2.1 86 = .ok (.aload_n 0, 1) := by decide +kernel
theorem d_Tw_become_87 : decode M_Tw_become.2.1 87 = .ok (.getfield 22, 3) := by decide +kernel
theorem d_Tw_become_90 : decode M_Tw_become.2.1 90 = .ok (.arraylength, 1) := by decide +kernel
theorem d_Tw_become_91 : decode M_Tw_become.2.1 91 = .ok (.invokestatic 98, 3) := by decide +kernel
theorem d_Tw_become_94 : decode M_Tw_become.2.1 94 = .ok (.aload_n 1, 1) := by decide +kernel
theorem d_Tw_become_95 : decode M_Tw_become.2.1 95 = .ok (.getfield 25, 3) := by decide +kernel
theorem d_Tw_become_98 : decode M_Tw_become.2.1 98 = .ok (.iconst 0, 1) := by decide +kernel
theorem d_Tw_become_99 : decode M_Tw_become.2.1 99 = .ok (.aload_n 0, 1) := by decide +kernel
theorem d_Tw_become_100 : decode M_Tw_become.2.1 100 = .ok (.getfield 25, 3) := by decide +kernel
theorem d_Tw_become_103 : decode M_Tw_become.2.1 103 = .ok (.iconst 0, 1) := by decide +kernel
theorem d_Tw_become_104 : decode M_Tw_become.2.1 104 = .ok (.aload_n 0, 1) := by decide +kernel
theorem d_Tw_become_105 : decode M_Tw_become.2.1 105 = .ok (.getfield 25, 3) := by decide +kernel
theorem d_Tw_become_108 : decode M_Tw_become.2.1 108 = .ok (.arraylength, 1) := by decide +kernel
theorem d_Tw_become_109 : decode M_Tw_become.2.1 109 = .ok (.invokestatic 98, 3) := by decide +kernel
theorem d_Tw_become_112 : decode M_Tw_become.2.1 112 = .ok (.aload_n 1, 1) := by decide +kernel
theorem d_Tw_become_113 : decode M_Tw_become.2.1 113 = .ok (.getfield 28, 3) := by decide +kernel
theorem d_Tw_become_116 : decode M_Tw_become.2.1 116 = .ok (.iconst 0, 1) := by decide +kernel
theorem d_Tw_become_117 : decode M_Tw_become.2.1 117 = .ok (.aload_n 0, 1) := by decide +kernel
theorem d_Tw_become_118 : decode M_Tw_become.2.1 118 = .ok (.getfield 28, 3) := by decide +kernel
theorem d_Tw_become_121 : decode M_Tw_become.2.1 121 = .ok (.iconst 0, 1) := by decide +kernel
theorem d_Tw_become_122 : decode M_Tw_become.2.1 122 = .ok (.aload_n 0, 1) := by decide +kernel
theorem d_Tw_become_123 : decode M_Tw_become.2.1 123 = .ok (.getfield 28, 3) := by decide +kernel
theorem d_Tw_become_126 : decode M_Tw_become.2.1 126 = .ok (.arraylength, 1) := by decide +kernel
theorem d_Tw_become_127 : decode M_Tw_become.2.1 127 = .ok (.invokestatic 98, 3) := by decide +kernel
theorem d_Tw_become_130 : decode M_Tw_become.2.1 130 = .ok (.aload_n 0, 1) := by decide +kernel
theorem d_Tw_become_131 : decode M_Tw_become.2.1 131 = .ok (.getfield 34, 3) := by decide +kernel
theorem d_Tw_become_134 : decode M_Tw_become.2.1 134 = .ok (.aload_n 1, 1) := by decide +kernel
theorem d_Tw_become_135 : decode M_Tw_become.2.1 135 = .ok (.getfield 34, 3) := by decide +kernel
theorem d_Tw_become_138 : decode M_Tw_become.2.1 138 = .ok (.invokevirtual 104, 3) := by decide +kernel
theorem d_Tw_become_141 : decode M_Tw_become.2.1 141 = .ok (.aload_n 0, 1) := by decide +kernel
theorem d_Tw_become_142 : decode M_Tw_become.2.1 142 = .ok (.getfield 41, 3) := by decide +kernel
theorem d_Tw_become_145 : decode M_Tw_become.2.1 145 = .ok (.aload_n 1, 1) := by decide +kernel
theorem d_Tw_become_146 : decode M_Tw_become.2.1 146 = .ok (.getfield 41, 3) := by decide +kernel
theorem d_Tw_become_149 : decode M_Tw_become.2.1 149 = .ok (.invokevirtual 108, 3) := by decide +kernel
theorem d_Tw_become_152 : decode M_Tw_become.2.1 152 = .ok (.aload_n 0, 1) := by decide +kernel
theorem d_Tw_become_153 : decode M_Tw_become.2.1 153 = .ok (.getfield 48, 3) := by decide +kernel
theorem d_Tw_become_156 : decode M_Tw_become.2.1 156 = .ok (.aload_n 1, 1) := by decide +kernel
theorem d_Tw_become_157 : decode M_Tw_become.2.1 157 = .ok (.getfield 48, 3) := by decide +kernel
theorem d_Tw_become_160 : decode M_Tw_become.2.1 160 = .ok (.invokevirtual 111, 3) := by decide +kernel
theorem d_Tw_become_163 : decode M_Tw_become.2.1 163 = .ok (.aload_n 0, 1) := by decide +kernel
theorem d_Tw_become_164 : decode M_Tw_become.2.1 164 = .ok (.getfield 55, 3) := by decide +kernel
theorem d_Tw_become_167 : decode M_Tw_become.2.1 167 = .ok (.aload_n 1, 1) := by decide +kernel
theorem d_Tw_become_168 : decode M_Tw_become.2.1 168 = .ok (.getfield 55, 3) := by decide +kernel
theorem d_Tw_become_171 : decode M_Tw_become.2.1 171 = .ok (.invokevirtual 114, 3) := by decide +kernel
theorem d_Tw_become_174 : decode M_Tw_become.2.1 174 = .ok (.return_, 1) := by decide +kernel
def M_Sk_become : mj_M := (⟨"MarketTown$Stock", "become", "(LMarketTown$Stock;)V"⟩, prog_8_method_12_code, 2, none, 1, 64)
theorem d_Sk_become_0 : decode M_Sk_become.2.1 0 = .ok (.aload_n 1, 1) := by decide +kernel
theorem d_Sk_become_1 : decode M_Sk_become.2.1 1 = .ok (.getfield 9, 3) := by decide +kernel
theorem d_Sk_become_4 : decode M_Sk_become.2.1 4 = .ok (.iconst 0, 1) := by decide +kernel
theorem d_Sk_become_5 : decode M_Sk_become.2.1 5 = .ok (.aload_n 0, 1) := by decide +kernel
theorem d_Sk_become_6 : decode M_Sk_become.2.1 6 = .ok (.getfield 9, 3) := by decide +kernel
theorem d_Sk_become_9 : decode M_Sk_become.2.1 9 = .ok (.iconst 0, 1) := by decide +kernel
theorem d_Sk_become_10 : decode M_Sk_become.2.1 10 = .ok (.aload_n 0, 1) := by decide +kernel
theorem d_Sk_become_11 : decode M_Sk_become.2.1 11 = .ok (.getfield 9, 3) := by decide +kernel
theorem d_Sk_become_14 : decode M_Sk_become.2.1 14 = .ok (.arraylength, 1) := by decide +kernel
theorem d_Sk_become_15 : decode M_Sk_become.2.1 15 = .ok (.invokestatic 34, 3) := by decide +kernel
theorem d_Sk_become_18 : decode M_Sk_become.2.1 18 = .ok (.aload_n 1, 1) := by decide +kernel
theorem d_Sk_become_19 : decode M_Sk_become.2.1 19 = .ok (.getfield 15, 3) := by decide +kernel
theorem d_Sk_become_22 : decode M_Sk_become.2.1 22 = .ok (.iconst 0, 1) := by decide +kernel
theorem d_Sk_become_23 : decode M_Sk_become.2.1 23 = .ok (.aload_n 0, 1) := by decide +kernel
theorem d_Sk_become_24 : decode M_Sk_become.2.1 24 = .ok (.getfield 15, 3) := by decide +kernel
theorem d_Sk_become_27 : decode M_Sk_become.2.1 27 = .ok (.iconst 0, 1) := by decide +kernel
theorem d_Sk_become_28 : decode M_Sk_become.2.1 28 = .ok (.aload_n 0, 1) := by decide +kernel
theorem d_Sk_become_29 : decode M_Sk_become.2.1 29 = .ok (.getfield 15, 3) := by decide +kernel
theorem d_Sk_become_32 : decode M_Sk_become.2.1 32 = .ok (.arraylength, 1) := by decide +kernel
theorem d_Sk_become_33 : decode M_Sk_become.2.1 33 = .ok (.invokestatic 34, 3) := by decide +kernel
theorem d_Sk_become_36 : decode M_Sk_become.2.1 36 = .ok (.return_, 1) := by decide +kernel
def M_Wr_become : mj_M := (⟨"MarketTown$Wares", "become", "(LMarketTown$Wares;)V"⟩, prog_11_method_5_code, 2, none, 1, 64)
theorem d_Wr_become_0 : decode M_Wr_become.2.1 0 = .ok (.aload_n 1, 1) := by decide +kernel
theorem d_Wr_become_1 : decode M_Wr_become.2.1 1 = .ok (.getfield 11, 3) := by decide +kernel
theorem d_Wr_become_4 : decode M_Wr_become.2.1 4 = .ok (.iconst 0, 1) := by decide +kernel
theorem d_Wr_become_5 : decode M_Wr_become.2.1 5 = .ok (.aload_n 0, 1) := by decide +kernel
theorem d_Wr_become_6 : decode M_Wr_become.2.1 6 = .ok (.getfield 11, 3) := by decide +kernel
theorem d_Wr_become_9 : decode M_Wr_become.2.1 9 = .ok (.iconst 0, 1) := by decide +kernel
theorem d_Wr_become_10 : decode M_Wr_become.2.1 10 = .ok (.aload_n 0, 1) := by decide +kernel
theorem d_Wr_become_11 : decode M_Wr_become.2.1 11 = .ok (.getfield 11, 3) := by decide +kernel
theorem d_Wr_become_14 : decode M_Wr_become.2.1 14 = .ok (.arraylength, 1) := by decide +kernel
theorem d_Wr_become_15 : decode M_Wr_become.2.1 15 = .ok (.invokestatic 15, 3) := by decide +kernel
theorem d_Wr_become_18 : decode M_Wr_become.2.1 18 = .ok (.return_, 1) := by decide +kernel
def M_Rl_become : mj_M := (⟨"MarketTown$Rules", "become", "(LMarketTown$Rules;)V"⟩, prog_7_method_7_code, 2, none, 1, 64)
theorem d_Rl_become_0 : decode M_Rl_become.2.1 0 = .ok (.aload_n 1, 1) := by decide +kernel
theorem d_Rl_become_1 : decode M_Rl_become.2.1 1 = .ok (.getfield 9, 3) := by decide +kernel
theorem d_Rl_become_4 : decode M_Rl_become.2.1 4 = .ok (.iconst 0, 1) := by decide +kernel
theorem d_Rl_become_5 : decode M_Rl_become.2.1 5 = .ok (.aload_n 0, 1) := by decide +kernel
theorem d_Rl_become_6 : decode M_Rl_become.2.1 6 = .ok (.getfield 9, 3) := by decide +kernel
theorem d_Rl_become_9 : decode M_Rl_become.2.1 9 = .ok (.iconst 0, 1) := by decide +kernel
theorem d_Rl_become_10 : decode M_Rl_become.2.1 10 = .ok (.aload_n 0, 1) := by decide +kernel
theorem d_Rl_become_11 : decode M_Rl_become.2.1 11 = .ok (.getfield 9, 3) := by decide +kernel
theorem d_Rl_become_14 : decode M_Rl_become.2.1 14 = .ok (.arraylength, 1) := by decide +kernel
theorem d_Rl_become_15 : decode M_Rl_become.2.1 15 = .ok (.invokestatic 23, 3) := by decide +kernel
theorem d_Rl_become_18 : decode M_Rl_become.2.1 18 = .ok (.aload_n 1, 1) := by decide +kernel
theorem d_Rl_become_19 : decode M_Rl_become.2.1 19 = .ok (.getfield 15, 3) := by decide +kernel
theorem d_Rl_become_22 : decode M_Rl_become.2.1 22 = .ok (.iconst 0, 1) := by decide +kernel
theorem d_Rl_become_23 : decode M_Rl_become.2.1 23 = .ok (.aload_n 0, 1) := by decide +kernel
theorem d_Rl_become_24 : decode M_Rl_become.2.1 24 = .ok (.getfield 15, 3) := by decide +kernel
theorem d_Rl_become_27 : decode M_Rl_become.2.1 27 = .ok (.iconst 0, 1) := by decide +kernel
theorem d_Rl_become_28 : decode M_Rl_become.2.1 28 = .ok (.aload_n 0, 1) := by decide +kernel
theorem d_Rl_become_29 : decode M_Rl_become.2.1 29 = .ok (.getfield 15, 3) := by decide +kernel
theorem d_Rl_become_32 : decode M_Rl_become.2.1 32 = .ok (.arraylength, 1) := by decide +kernel
theorem d_Rl_become_33 : decode M_Rl_become.2.1 33 = .ok (.invokestatic 23, 3) := by decide +kernel
theorem d_Rl_become_36 : decode M_Rl_become.2.1 36 = .ok (.return_, 1) := by decide +kernel
def M_Ln_become : mj_M := (⟨"MarketTown$Loans", "become", "(LMarketTown$Loans;)V"⟩, prog_3_method_12_code, 2, none, 1, 64)
theorem d_Ln_become_0 : decode M_Ln_become.2.1 0 = .ok (.aload_n 0, 1) := by decide +kernel
theorem d_Ln_become_1 : decode M_Ln_become.2.1 1 = .ok (.aload_n 1, 1) := by decide +kernel
theorem d_Ln_become_2 : decode M_Ln_become.2.1 2 = .ok (.getfield 15, 3) := by decide +kernel
theorem d_Ln_become_5 : decode M_Ln_become.2.1 5 = .ok (.putfield 15, 3) := by decide +kernel
theorem d_Ln_become_8 : decode M_Ln_become.2.1 8 = .ok (.aload_n 1, 1) := by decide +kernel
theorem d_Ln_become_9 : decode M_Ln_become.2.1 9 = .ok (.getfield 11, 3) := by decide +kernel
theorem d_Ln_become_12 : decode M_Ln_become.2.1 12 = .ok (.iconst 0, 1) := by decide +kernel
theorem d_Ln_become_13 : decode M_Ln_become.2.1 13 = .ok (.aload_n 0, 1) := by decide +kernel
theorem d_Ln_become_14 : decode M_Ln_become.2.1 14 = .ok (.getfield 11, 3) := by decide +kernel
theorem d_Ln_become_17 : decode M_Ln_become.2.1 17 = .ok (.iconst 0, 1) := by decide +kernel
theorem d_Ln_become_18 : decode M_Ln_become.2.1 18 = .ok (.aload_n 0, 1) := by decide +kernel
theorem d_Ln_become_19 : decode M_Ln_become.2.1 19 = .ok (.getfield 11, 3) := by decide +kernel
theorem d_Ln_become_22 : decode M_Ln_become.2.1 22 = .ok (.arraylength, 1) := by decide +kernel
theorem d_Ln_become_23 : decode M_Ln_become.2.1 23 = .ok (.invokestatic 69, 3) := by decide +kernel
theorem d_Ln_become_26 : decode M_Ln_become.2.1 26 = .ok (.return_, 1) := by decide +kernel
def M_Mk_load : mj_M := (⟨"MarketTown", "load", "(I)I"⟩, prog_1_method_23_code, 2, some .int, 3, 106)
theorem d_Mk_load_0 : decode M_Mk_load.2.1 0 = .ok (.iload_n 1, 1) := by decide +kernel
theorem d_Mk_load_1 : decode M_Mk_load.2.1 1 = .ok (.iconst 0, 1) := by decide +kernel
theorem d_Mk_load_2 : decode M_Mk_load.2.1 2 = .ok (.iconst 2, 1) := by decide +kernel
theorem d_Mk_load_3 : decode M_Mk_load.2.1 3 = .ok (.invokestatic 50, 3) := by decide +kernel
theorem d_Mk_load_6 : decode M_Mk_load.2.1 6 = .ok (.ifCond .ne 6, 3) := by decide +kernel
theorem d_Mk_load_9 : decode M_Mk_load.2.1 9 = .ok (.ldc 54, 2) := by decide +kernel
theorem d_Mk_load_11 : decode M_Mk_load.2.1 11 = .ok (.ireturn, 1) := by decide +kernel
theorem d_Mk_load_12 : decode M_Mk_load.2.1 12 = .ok (.aload_n 0, 1) := by decide +kernel
theorem d_Mk_load_13 : decode M_Mk_load.2.1 13 = .ok (.getfield 20, 3) := by decide +kernel
theorem d_Mk_load_16 : decode M_Mk_load.2.1 16 = .ok (.iload_n 1, 1) := by decide +kernel
theorem d_Mk_load_17 : decode M_Mk_load.2.1 17 = .ok (.baload, 1) := by decide +kernel
theorem d_Mk_load_18 : decode M_Mk_load.2.1 18 = .ok (.ifCond .ne 6, 3) := by decide +kernel
theorem d_Mk_load_21 : decode M_Mk_load.2.1 21 = .ok (.ldc 205, 2) := by decide +kernel
theorem d_Mk_load_23 : decode M_Mk_load.2.1 23 = .ok (.ireturn, 1) := by decide +kernel
theorem d_Mk_load_24 : decode M_Mk_load.2.1 24 = .ok (.aload_n 0, 1) := by decide +kernel
theorem d_Mk_load_25 : decode M_Mk_load.2.1 25 = .ok (.getfield 12, 3) := by decide +kernel
theorem d_Mk_load_28 : decode M_Mk_load.2.1 28 = .ok (.aload_n 0, 1) := by decide +kernel
theorem d_Mk_load_29 : decode M_Mk_load.2.1 29 = .ok (.getfield 16, 3) := by decide +kernel
theorem d_Mk_load_32 : decode M_Mk_load.2.1 32 = .ok (.iload_n 1, 1) := by decide +kernel
theorem d_Mk_load_33 : decode M_Mk_load.2.1 33 = .ok (.aaload, 1) := by decide +kernel
theorem d_Mk_load_34 : decode M_Mk_load.2.1 34 = .ok (.invokevirtual 202, 3) := by decide +kernel
theorem d_Mk_load_37 : decode M_Mk_load.2.1 37 = .ok (.aload_n 0, 1) := by decide +kernel
theorem d_Mk_load_38 : decode M_Mk_load.2.1 38 = .ok (.getfield 12, 3) := by decide +kernel
theorem d_Mk_load_41 : decode M_Mk_load.2.1 41 = .ok (.getfield 139, 3) := by decide +kernel
theorem d_Mk_load_44 : decode M_Mk_load.2.1 44 = .ok (.ireturn, 1) := by decide +kernel
def M_Mk_differs : mj_M := (⟨"MarketTown", "differs", "(I)I"⟩, prog_1_method_24_code, 2, some .int, 2, 47)
theorem d_Mk_differs_0 : decode M_Mk_differs.2.1 0 = .ok (.iload_n 1, 1) := by decide +kernel
theorem d_Mk_differs_1 : decode M_Mk_differs.2.1 1 = .ok (.iconst 0, 1) := by decide +kernel
theorem d_Mk_differs_2 : decode M_Mk_differs.2.1 2 = .ok (.iconst 2, 1) := by decide +kernel
theorem d_Mk_differs_3 : decode M_Mk_differs.2.1 3 = .ok (.invokestatic 50, 3) := by decide +kernel
theorem d_Mk_differs_6 : decode M_Mk_differs.2.1 6 = .ok (.ifCond .ne 6, 3) := by decide +kernel
theorem d_Mk_differs_9 : decode M_Mk_differs.2.1 9 = .ok (.ldc 54, 2) := by decide +kernel
theorem d_Mk_differs_11 : decode M_Mk_differs.2.1 11 = .ok (.ireturn, 1) := by decide +kernel
theorem d_Mk_differs_12 : decode M_Mk_differs.2.1 12 = .ok (.aload_n 0, 1) := by decide +kernel
theorem d_Mk_differs_13 : decode M_Mk_differs.2.1 13 = .ok (.getfield 20, 3) := by decide +kernel
theorem d_Mk_differs_16 : decode M_Mk_differs.2.1 16 = .ok (.iload_n 1, 1) := by decide +kernel
theorem d_Mk_differs_17 : decode M_Mk_differs.2.1 17 = .ok (.baload, 1) := by decide +kernel
theorem d_Mk_differs_18 : decode M_Mk_differs.2.1 18 = .ok (.ifCond .eq 19, 3) := by decide +kernel
theorem d_Mk_differs_21 : decode M_Mk_differs.2.1 21 = .ok (.aload_n 0, 1) := by decide +kernel
theorem d_Mk_differs_22 : decode M_Mk_differs.2.1 22 = .ok (.getfield 12, 3) := by decide +kernel
theorem d_Mk_differs_25 : decode M_Mk_differs.2.1 25 = .ok (.aload_n 0, 1) := by decide +kernel
theorem d_Mk_differs_26 : decode M_Mk_differs.2.1 26 = .ok (.getfield 16, 3) := by decide +kernel
theorem d_Mk_differs_29 : decode M_Mk_differs.2.1 29 = .ok (.iload_n 1, 1) := by decide +kernel
theorem d_Mk_differs_30 : decode M_Mk_differs.2.1 30 = .ok (.aaload, 1) := by decide +kernel
theorem d_Mk_differs_31 : decode M_Mk_differs.2.1 31 = .ok (.invokevirtual 206, 3) := by decide +kernel
theorem d_Mk_differs_34 : decode M_Mk_differs.2.1 34 = .ok (.goto 5, 3) := by decide +kernel
theorem d_Mk_differs_37 : decode M_Mk_differs.2.1 37 = .ok (.ldc 205, 2) := by decide +kernel
theorem d_Mk_differs_39 : decode M_Mk_differs.2.1 39 = .ok (.ireturn, 1) := by decide +kernel
def M_Tw_firstUnlike : mj_M := (⟨"MarketTown$Town", "firstUnlike", "(LMarketTown$Town;)I"⟩, prog_10_method_14_code, 4, some .int, 1, 24)
theorem d_Tw_firstUnlike_0 : decode M_Tw_firstUnlike.2.1 0 = .ok (.aload_n 0, 1) := by decide +kernel
theorem d_Tw_firstUnlike_1 : decode M_Tw_firstUnlike.2.1 1 = .ok (.getfield 59, 3) := by decide +kernel
theorem d_Tw_firstUnlike_4 : decode M_Tw_firstUnlike.2.1 4 = .ok (.aload_n 1, 1) := by decide +kernel
theorem d_Tw_firstUnlike_5 : decode M_Tw_firstUnlike.2.1 5 = .ok (.getfield 59, 3) := by decide +kernel
theorem d_Tw_firstUnlike_8 : decode M_Tw_firstUnlike.2.1 8 = .ok (.invokestatic 80, 3) := by decide +kernel
theorem d_Tw_firstUnlike_11 : decode M_Tw_firstUnlike.2.1 11 = .ok (.istore_n 2, 1) := by decide +kernel
theorem d_Tw_firstUnlike_12 : decode M_Tw_firstUnlike.2.1 12 = .ok (.iconst 0, 1) := by decide +kernel
theorem d_Tw_firstUnlike_13 : decode M_Tw_firstUnlike.2.1 13 = .ok (.istore_n 3, 1) := by decide +kernel
theorem d_Tw_firstUnlike_14 : decode M_Tw_firstUnlike.2.1 14 = .ok (.iload_n 3, 1) := by decide +kernel
theorem d_Tw_firstUnlike_15 : decode M_Tw_firstUnlike.2.1 15 = .ok (.iload_n 2, 1) := by decide +kernel
theorem d_Tw_firstUnlike_16 : decode M_Tw_firstUnlike.2.1 16 = .ok (.if_icmp .ge 41, 3) := by decide +kernel
theorem d_Tw_firstUnlike_19 : decode M_Tw_firstUnlike.2.1 19 = .ok (.aload_n 0, 1) := by decide +kernel
theorem d_Tw_firstUnlike_20 : decode M_Tw_firstUnlike.2.1 20 = .ok (.getfield 19, 3) := by decide +kernel
theorem d_Tw_firstUnlike_23 : decode M_Tw_firstUnlike.2.1 23 = .ok (.iload_n 3, 1) := by decide +kernel
theorem d_Tw_firstUnlike_24 : decode M_Tw_firstUnlike.2.1 24 = .ok (.iaload, 1) := by decide +kernel
theorem d_Tw_firstUnlike_25 : decode M_Tw_firstUnlike.2.1 25 = .ok (.aload_n 1, 1) := by decide +kernel
theorem d_Tw_firstUnlike_26 : decode M_Tw_firstUnlike.2.1 26 = .ok (.getfield 19, 3) := by decide +kernel
theorem d_Tw_firstUnlike_29 : decode M_Tw_firstUnlike.2.1 29 = .ok (.iload_n 3, 1) := by decide +kernel
theorem d_Tw_firstUnlike_30 : decode M_Tw_firstUnlike.2.1 30 = .ok (.iaload, 1) := by decide +kernel
theorem d_Tw_firstUnlike_31 : decode M_Tw_firstUnlike.2.1 31 = .ok (.if_icmp .ne 18, 3) := by decide +kernel
theorem d_Tw_firstUnlike_34 : decode M_Tw_firstUnlike.2.1 34 = .ok (.aload_n 0, 1) := by decide +kernel
theorem d_Tw_firstUnlike_35 : decode M_Tw_firstUnlike.2.1 35 = .ok (.getfield 34, 3) := by decide +kernel
theorem d_Tw_firstUnlike_38 : decode M_Tw_firstUnlike.2.1 38 = .ok (.aload_n 1, 1) := by decide +kernel
theorem d_Tw_firstUnlike_39 : decode M_Tw_firstUnlike.2.1 39 = .ok (.getfield 34, 3) := by decide +kernel
theorem d_Tw_firstUnlike_42 : decode M_Tw_firstUnlike.2.1 42 = .ok (.iload_n 3, 1) := by decide +kernel
theorem d_Tw_firstUnlike_43 : decode M_Tw_firstUnlike.2.1 43 = .ok (.invokevirtual 85, 3) := by decide +kernel
theorem d_Tw_firstUnlike_46 : decode M_Tw_firstUnlike.2.1 46 = .ok (.ifCond .ne 5, 3) := by decide +kernel
theorem d_Tw_firstUnlike_49 : decode M_Tw_firstUnlike.2.1 49 = .ok (.iload_n 3, 1) := by decide +kernel
theorem d_Tw_firstUnlike_50 : decode M_Tw_firstUnlike.2.1 50 = .ok (.ireturn, 1) := by decide +kernel
theorem d_Tw_firstUnlike_51 : decode M_Tw_firstUnlike.2.1 51 = .ok (.iinc 3 1, 3) := by decide +kernel
theorem d_Tw_firstUnlike_54 : decode M_Tw_firstUnlike.2.1 54 = .ok (.goto (-40), 3) := by decide +kernel
theorem d_Tw_firstUnlike_57 : decode M_Tw_firstUnlike.2.1 57 = .ok (.aload_n 0, 1) := by decide +kernel
theorem d_Tw_firstUnlike_58 : decode M_Tw_firstUnlike.2.1 58 = .ok (.getfield 59, 3) := by decide +kernel
theorem d_Tw_firstUnlike_61 : decode M_Tw_firstUnlike.2.1 61 = .ok (.aload_n 1, 1) := by decide +kernel
theorem d_Tw_firstUnlike_62 : decode M_Tw_firstUnlike.2.1 62 = .ok (.getfield 59, 3) := by decide +kernel
theorem d_Tw_firstUnlike_65 : decode M_Tw_firstUnlike.2.1 65 = .ok (.if_icmp .ne 8, 3) := by decide +kernel
theorem d_Tw_firstUnlike_68 : decode M_Tw_firstUnlike.2.1 68 = .ok (.ldc 66, 2) := by decide +kernel
theorem d_Tw_firstUnlike_70 : decode M_Tw_firstUnlike.2.1 70 = .ok (.goto 4, 3) := by decide +kernel
theorem d_Tw_firstUnlike_73 : decode M_Tw_firstUnlike.2.1 73 = .ok (.iload_n 2, 1) := by decide +kernel
theorem d_Tw_firstUnlike_74 : decode M_Tw_firstUnlike.2.1 74 = .ok (.ireturn, 1) := by decide +kernel
def M_Sk_isAlike : mj_M := (⟨"MarketTown$Stock", "isAlike", "(LMarketTown$Stock;I)Z"⟩, prog_8_method_11_code, 5, some .boolean, 0, 0)
theorem d_Sk_isAlike_0 : decode M_Sk_isAlike.2.1 0 = .ok (.iload_n 2, 1) := by decide +kernel
theorem d_Sk_isAlike_1 : decode M_Sk_isAlike.2.1 1 = .ok (.iconst 1, 1) := by decide +kernel
theorem d_Sk_isAlike_2 : decode M_Sk_isAlike.2.1 2 = .ok (.iadd, 1) := by decide +kernel
theorem d_Sk_isAlike_3 : decode M_Sk_isAlike.2.1 3 = .ok (.iconst 5, 1) := by decide +kernel
theorem d_Sk_isAlike_4 : decode M_Sk_isAlike.2.1 4 = .ok (.imul, 1) := by decide +kernel
theorem d_Sk_isAlike_5 : decode M_Sk_isAlike.2.1 5 = .ok (.bipush 10, 2) := by decide +kernel
theorem d_Sk_isAlike_7 : decode M_Sk_isAlike.2.1 7 = .ok (.imul, 1) := by decide +kernel
theorem d_Sk_isAlike_8 : decode M_Sk_isAlike.2.1 8 = .ok (.istore_n 3, 1) := by decide +kernel
theorem d_Sk_isAlike_9 : decode M_Sk_isAlike.2.1 9 = .ok (.iload_n 2, 1) := by decide +kernel
theorem d_Sk_isAlike_10 : decode M_Sk_isAlike.2.1 10 = .ok (.iconst 5, 1) := by decide +kernel
theorem d_Sk_isAlike_11 : decode M_Sk_isAlike.2.1 11 = .ok (.imul, 1) := by decide +kernel
theorem d_Sk_isAlike_12 : decode M_Sk_isAlike.2.1 12 = .ok (.bipush 10, 2) := by decide +kernel
theorem d_Sk_isAlike_14 : decode M_Sk_isAlike.2.1 14 = .ok (.imul, 1) := by decide +kernel
theorem d_Sk_isAlike_15 : decode M_Sk_isAlike.2.1 15 = .ok (.istore 4, 2) := by decide +kernel
theorem d_Sk_isAlike_17 : decode M_Sk_isAlike.2.1 17 = .ok (.iload 4, 2) := by decide +kernel
theorem d_Sk_isAlike_19 : decode M_Sk_isAlike.2.1 19 = .ok (.iload_n 3, 1) := by decide +kernel
theorem d_Sk_isAlike_20 : decode M_Sk_isAlike.2.1 20 = .ok (.if_icmp .ge 28, 3) := by decide +kernel
theorem d_Sk_isAlike_23 : decode M_Sk_isAlike.2.1 23 = .ok (.aload_n 0, 1) := by decide +kernel
theorem d_Sk_isAlike_24 : decode M_Sk_isAlike.2.1 24 = .ok (.getfield 9, 3) := by decide +kernel
theorem d_Sk_isAlike_27 : decode M_Sk_isAlike.2.1 27 = .ok (.iload 4, 2) := by decide +kernel
theorem d_Sk_isAlike_29 : decode M_Sk_isAlike.2.1 29 = .ok (.iaload, 1) := by decide +kernel
theorem d_Sk_isAlike_30 : decode M_Sk_isAlike.2.1 30 = .ok (.aload_n 1, 1) := by decide +kernel
theorem d_Sk_isAlike_31 : decode M_Sk_isAlike.2.1 31 = .ok (.getfield 9, 3) := by decide +kernel
theorem d_Sk_isAlike_34 : decode M_Sk_isAlike.2.1 34 = .ok (.iload 4, 2) := by decide +kernel
theorem d_Sk_isAlike_36 : decode M_Sk_isAlike.2.1 36 = .ok (.iaload, 1) := by decide +kernel
theorem d_Sk_isAlike_37 : decode M_Sk_isAlike.2.1 37 = .ok (.if_icmp .eq 5, 3) := by decide +kernel
theorem d_Sk_isAlike_40 : decode M_Sk_isAlike.2.1 40 = .ok (.iconst 0, 1) := by decide +kernel
theorem d_Sk_isAlike_41 : decode M_Sk_isAlike.2.1 41 = .ok (.ireturn, 1) := by decide +kernel
theorem d_Sk_isAlike_42 : decode M_Sk_isAlike.2.1 42 = .ok (.iinc 4 1, 3) := by decide +kernel
theorem d_Sk_isAlike_45 : decode M_Sk_isAlike.2.1 45 = .ok (.goto (-28), 3) := by decide +kernel
theorem d_Sk_isAlike_48 : decode M_Sk_isAlike.2.1 48 = .ok (.iconst 1, 1) := by decide +kernel
theorem d_Sk_isAlike_49 : decode M_Sk_isAlike.2.1 49 = .ok (.ireturn, 1) := by decide +kernel
def M_Mk_count : mj_M := (⟨"MarketTown", "count", "(I)I"⟩, prog_1_method_25_code, 2, some .int, 1, 22)
theorem d_Mk_count_0 : decode M_Mk_count.2.1 0 = .ok (.iload_n 1, 1) := by decide +kernel
theorem d_Mk_count_1 : decode M_Mk_count.2.1 1 = .ok (.tableswitch 114 0 7 #[47, 55, 63, 71, 82, 90, 98, 106], 47) := by decide +kernel
theorem d_Mk_count_48 : decode M_Mk_count.2.1 48 = .ok (.aload_n 0, 1) := by decide +kernel
theorem d_Mk_count_49 : decode M_Mk_count.2.1 49 = .ok (.getfield 12, 3) := by decide +kernel
theorem d_Mk_count_52 : decode M_Mk_count.2.1 52 = .ok (.getfield 55, 3) := by decide +kernel
theorem d_Mk_count_55 : decode M_Mk_count.2.1 55 = .ok (.ireturn, 1) := by decide +kernel
theorem d_Mk_count_56 : decode M_Mk_count.2.1 56 = .ok (.aload_n 0, 1) := by decide +kernel
theorem d_Mk_count_57 : decode M_Mk_count.2.1 57 = .ok (.getfield 12, 3) := by decide +kernel
theorem d_Mk_count_60 : decode M_Mk_count.2.1 60 = .ok (.getfield 139, 3) := by decide +kernel
theorem d_Mk_count_63 : decode M_Mk_count.2.1 63 = .ok (.ireturn, 1) := by decide +kernel
theorem d_Mk_count_64 : decode M_Mk_count.2.1 64 = .ok (.aload_n 0, 1) := by decide +kernel
theorem d_Mk_count_65 : decode M_Mk_count.2.1 65 = .ok (.getfield 12, 3) := by decide +kernel
theorem d_Mk_count_68 : decode M_Mk_count.2.1 68 = .ok (.invokevirtual 210, 3) := by decide +kernel
theorem d_Mk_count_71 : decode M_Mk_count.2.1 71 = .ok (.ireturn, 1) := by decide +kernel
theorem d_Mk_count_72 : decode M_Mk_count.2.1 72 = .ok (.aload_n 0, 1) := by decide +kernel
theorem d_Mk_count_73 : decode M_Mk_count.2.1 73 = .ok (.getfield 12, 3) := by decide +kernel
theorem d_Mk_count_76 : decode M_Mk_count.2.1 76 = .ok (.getfield 158, 3) := by decide +kernel
theorem d_Mk_count_79 : decode M_Mk_count.2.1 79 = .ok (.getfield 195, 3) := by decide +kernel
theorem d_Mk_count_82 : decode M_Mk_count.2.1 82 = .ok (.ireturn, 1) := by decide +kernel
theorem d_Mk_count_83 : decode M_Mk_count.2.1 83 = .ok (.aload_n 0, 1) := by decide +kernel
theorem d_Mk_count_84 : decode M_Mk_count.2.1 84 = .ok (.getfield 12, 3) := by decide +kernel
theorem d_Mk_count_87 : decode M_Mk_count.2.1 87 = .ok (.invokevirtual 214, 3) := by decide +kernel
theorem d_Mk_count_90 : decode M_Mk_count.2.1 90 = .ok (.ireturn, 1) := by decide +kernel
theorem d_Mk_count_91 : decode M_Mk_count.2.1 91 = .ok (.aload_n 0, 1) := by decide +kernel
theorem d_Mk_count_92 : decode M_Mk_count.2.1 92 = .ok (.getfield 27, 3) := by decide +kernel
theorem d_Mk_count_95 : decode M_Mk_count.2.1 95 = .ok (.getfield 109, 3) := by decide +kernel
theorem d_Mk_count_98 : decode M_Mk_count.2.1 98 = .ok (.ireturn, 1) := by decide +kernel
theorem d_Mk_count_99 : decode M_Mk_count.2.1 99 = .ok (.aload_n 0, 1) := by decide +kernel
theorem d_Mk_count_100 : decode M_Mk_count.2.1 100 = .ok (.getfield 12, 3) := by decide +kernel
theorem d_Mk_count_103 : decode M_Mk_count.2.1 103 = .ok (.getfield 98, 3) := by decide +kernel
theorem d_Mk_count_106 : decode M_Mk_count.2.1 106 = .ok (.ireturn, 1) := by decide +kernel
theorem d_Mk_count_107 : decode M_Mk_count.2.1 107 = .ok (.aload_n 0, 1) := by decide +kernel
theorem d_Mk_count_108 : decode M_Mk_count.2.1 108 = .ok (.getfield 12, 3) := by decide +kernel
theorem d_Mk_count_111 : decode M_Mk_count.2.1 111 = .ok (.invokevirtual 217, 3) := by decide +kernel
theorem d_Mk_count_114 : decode M_Mk_count.2.1 114 = .ok (.ireturn, 1) := by decide +kernel
theorem d_Mk_count_115 : decode M_Mk_count.2.1 115 = .ok (.ldc 54, 2) := by decide +kernel
theorem d_Mk_count_117 : decode M_Mk_count.2.1 117 = .ok (.ireturn, 1) := by decide +kernel
def M_Tw_cashInAll : mj_M := (⟨"MarketTown$Town", "cashInAll", "()I"⟩, prog_10_method_10_code, 3, some .int, 0, 0)
theorem d_Tw_cashInAll_0 : decode M_Tw_cashInAll.2.1 0 = .ok (.iconst 0, 1) := by decide +kernel
theorem d_Tw_cashInAll_1 : decode M_Tw_cashInAll.2.1 1 = .ok (.istore_n 1, 1) := by decide +kernel
theorem d_Tw_cashInAll_2 : decode M_Tw_cashInAll.2.1 2 = .ok (.iconst 0, 1) := by decide +kernel
theorem d_Tw_cashInAll_3 : decode M_Tw_cashInAll.2.1 3 = .ok (.istore_n 2, 1) := by decide +kernel
theorem d_Tw_cashInAll_4 : decode M_Tw_cashInAll.2.1 4 = .ok (.iload_n 2, 1) := by decide +kernel
theorem d_Tw_cashInAll_5 : decode M_Tw_cashInAll.2.1 5 = .ok (.aload_n 0, 1) := by decide +kernel
theorem d_Tw_cashInAll_6 : decode M_Tw_cashInAll.2.1 6 = .ok (.getfield 59, 3) := by decide +kernel
theorem d_Tw_cashInAll_9 : decode M_Tw_cashInAll.2.1 9 = .ok (.if_icmp .ge 18, 3) := by decide +kernel
theorem d_Tw_cashInAll_12 : decode M_Tw_cashInAll.2.1 12 = .ok (.iload_n 1, 1) := by decide +kernel
theorem d_Tw_cashInAll_13 : decode M_Tw_cashInAll.2.1 13 = .ok (.aload_n 0, 1) := by decide +kernel
theorem d_Tw_cashInAll_14 : decode M_Tw_cashInAll.2.1 14 = .ok (.getfield 19, 3) := by decide +kernel
theorem d_Tw_cashInAll_17 : decode M_Tw_cashInAll.2.1 17 = .ok (.iload_n 2, 1) := by decide +kernel
theorem d_Tw_cashInAll_18 : decode M_Tw_cashInAll.2.1 18 = .ok (.iaload, 1) := by decide +kernel
theorem d_Tw_cashInAll_19 : decode M_Tw_cashInAll.2.1 19 = .ok (.iadd, 1) := by decide +kernel
theorem d_Tw_cashInAll_20 : decode M_Tw_cashInAll.2.1 20 = .ok (.istore_n 1, 1) := by decide +kernel
theorem d_Tw_cashInAll_21 : decode M_Tw_cashInAll.2.1 21 = .ok (.iinc 2 1, 3) := by decide +kernel
theorem d_Tw_cashInAll_24 : decode M_Tw_cashInAll.2.1 24 = .ok (.goto (-20), 3) := by decide +kernel
theorem d_Tw_cashInAll_27 : decode M_Tw_cashInAll.2.1 27 = .ok (.iload_n 1, 1) := by decide +kernel
theorem d_Tw_cashInAll_28 : decode M_Tw_cashInAll.2.1 28 = .ok (.ireturn, 1) := by decide +kernel
def M_Tw_brokeAgents : mj_M := (⟨"MarketTown$Town", "brokeAgents", "()I"⟩, prog_10_method_11_code, 3, some .int, 0, 0)
theorem d_Tw_brokeAgents_0 : decode M_Tw_brokeAgents.2.1 0 = .ok (.iconst 0, 1) := by decide +kernel
theorem d_Tw_brokeAgents_1 : decode M_Tw_brokeAgents.2.1 1 = .ok (.istore_n 1, 1) := by decide +kernel
theorem d_Tw_brokeAgents_2 : decode M_Tw_brokeAgents.2.1 2 = .ok (.iconst 0, 1) := by decide +kernel
theorem d_Tw_brokeAgents_3 : decode M_Tw_brokeAgents.2.1 3 = .ok (.istore_n 2, 1) := by decide +kernel
theorem d_Tw_brokeAgents_4 : decode M_Tw_brokeAgents.2.1 4 = .ok (.iload_n 2, 1) := by decide +kernel
theorem d_Tw_brokeAgents_5 : decode M_Tw_brokeAgents.2.1 5 = .ok (.aload_n 0, 1) := by decide +kernel
theorem d_Tw_brokeAgents_6 : decode M_Tw_brokeAgents.2.1 6 = .ok (.getfield 59, 3) := by decide +kernel
theorem d_Tw_brokeAgents_9 : decode M_Tw_brokeAgents.2.1 9 = .ok (.if_icmp .ge 18, 3) := by decide +kernel
theorem d_Tw_brokeAgents_12 : decode M_Tw_brokeAgents.2.1 12 = .ok (.iload_n 1, 1) := by decide +kernel
theorem d_Tw_brokeAgents_13 : decode M_Tw_brokeAgents.2.1 13 = .ok (.aload_n 0, 1) := by decide +kernel
theorem d_Tw_brokeAgents_14 : decode M_Tw_brokeAgents.2.1 14 = .ok (.getfield 22, 3) := by decide +kernel
theorem d_Tw_brokeAgents_17 : decode M_Tw_brokeAgents.2.1 17 = .ok (.iload_n 2, 1) := by decide +kernel
theorem d_Tw_brokeAgents_18 : decode M_Tw_brokeAgents.2.1 18 = .ok (.iaload, 1) := by decide +kernel
theorem d_Tw_brokeAgents_19 : decode M_Tw_brokeAgents.2.1 19 = .ok (.iadd, 1) := by decide +kernel
theorem d_Tw_brokeAgents_20 : decode M_Tw_brokeAgents.2.1 20 = .ok (.istore_n 1, 1) := by decide +kernel
theorem d_Tw_brokeAgents_21 : decode M_Tw_brokeAgents.2.1 21 = .ok (.iinc 2 1, 3) := by decide +kernel
theorem d_Tw_brokeAgents_24 : decode M_Tw_brokeAgents.2.1 24 = .ok (.goto (-20), 3) := by decide +kernel
theorem d_Tw_brokeAgents_27 : decode M_Tw_brokeAgents.2.1 27 = .ok (.iload_n 1, 1) := by decide +kernel
theorem d_Tw_brokeAgents_28 : decode M_Tw_brokeAgents.2.1 28 = .ok (.ireturn, 1) := by decide +kernel
def M_Tw_paidByAll : mj_M := (⟨"MarketTown$Town", "paidByAll", "()I"⟩, prog_10_method_9_code, 3, some .int, 0, 0)
theorem d_Tw_paidByAll_0 : decode M_Tw_paidByAll.2.1 0 = .ok (.iconst 0, 1) := by decide +kernel
theorem d_Tw_paidByAll_1 : decode M_Tw_paidByAll.2.1 1 = .ok (.istore_n 1, 1) := by decide +kernel
theorem d_Tw_paidByAll_2 : decode M_Tw_paidByAll.2.1 2 = .ok (.iconst 0, 1) := by decide +kernel
theorem d_Tw_paidByAll_3 : decode M_Tw_paidByAll.2.1 3 = .ok (.istore_n 2, 1) := by decide +kernel
theorem d_Tw_paidByAll_4 : decode M_Tw_paidByAll.2.1 4 = .ok (.iload_n 2, 1) := by decide +kernel
theorem d_Tw_paidByAll_5 : decode M_Tw_paidByAll.2.1 5 = .ok (.aload_n 0, 1) := by decide +kernel
theorem d_Tw_paidByAll_6 : decode M_Tw_paidByAll.2.1 6 = .ok (.getfield 28, 3) := by decide +kernel
theorem d_Tw_paidByAll_9 : decode M_Tw_paidByAll.2.1 9 = .ok (.arraylength, 1) := by decide +kernel
theorem d_Tw_paidByAll_10 : decode M_Tw_paidByAll.2.1 10 = .ok (.if_icmp .ge 18, 3) := by decide +kernel
theorem d_Tw_paidByAll_13 : decode M_Tw_paidByAll.2.1 13 = .ok (.iload_n 1, 1) := by decide +kernel
theorem d_Tw_paidByAll_14 : decode M_Tw_paidByAll.2.1 14 = .ok (.aload_n 0, 1) := by decide +kernel
theorem d_Tw_paidByAll_15 : decode M_Tw_paidByAll.2.1 15 = .ok (.getfield 28, 3) := by decide +kernel
theorem d_Tw_paidByAll_18 : decode M_Tw_paidByAll.2.1 18 = .ok (.iload_n 2, 1) := by decide +kernel
theorem d_Tw_paidByAll_19 : decode M_Tw_paidByAll.2.1 19 = .ok (.iaload, 1) := by decide +kernel
theorem d_Tw_paidByAll_20 : decode M_Tw_paidByAll.2.1 20 = .ok (.iadd, 1) := by decide +kernel
theorem d_Tw_paidByAll_21 : decode M_Tw_paidByAll.2.1 21 = .ok (.istore_n 1, 1) := by decide +kernel
theorem d_Tw_paidByAll_22 : decode M_Tw_paidByAll.2.1 22 = .ok (.iinc 2 1, 3) := by decide +kernel
theorem d_Tw_paidByAll_25 : decode M_Tw_paidByAll.2.1 25 = .ok (.goto (-21), 3) := by decide +kernel
theorem d_Tw_paidByAll_28 : decode M_Tw_paidByAll.2.1 28 = .ok (.iload_n 1, 1) := by decide +kernel
theorem d_Tw_paidByAll_29 : decode M_Tw_paidByAll.2.1 29 = .ok (.ireturn, 1) := by decide +kernel
def M_Md_agent : mj_M := (⟨"MarketTownModel", "agent", "(II)I"⟩, prog_13_method_14_code, 4, some .int, 1, 22)
theorem d_Md_agent_0 : decode M_Md_agent.2.1 0 = .ok (.iload_n 1, 1) := by decide +kernel
theorem d_Md_agent_1 : decode M_Md_agent.2.1 1 = .ok (.iconst 0, 1) := by decide +kernel
theorem d_Md_agent_2 : decode M_Md_agent.2.1 2 = .ok (.iconst 5, 1) := by decide +kernel
theorem d_Md_agent_3 : decode M_Md_agent.2.1 3 = .ok (.invokestatic 53, 3) := by decide +kernel
theorem d_Md_agent_6 : decode M_Md_agent.2.1 6 = .ok (.ifCond .eq 13, 3) := by decide +kernel
theorem d_Md_agent_9 : decode M_Md_agent.2.1 9 = .ok (.iload_n 2, 1) := by decide +kernel
theorem d_Md_agent_10 : decode M_Md_agent.2.1 10 = .ok (.iconst 0, 1) := by decide +kernel
theorem d_Md_agent_11 : decode M_Md_agent.2.1 11 = .ok (.ldc 65, 2) := by decide +kernel
theorem d_Md_agent_13 : decode M_Md_agent.2.1 13 = .ok (.invokestatic 53, 3) := by decide +kernel
theorem d_Md_agent_16 : decode M_Md_agent.2.1 16 = .ok (.ifCond .ne 6, 3) := by decide +kernel
theorem d_Md_agent_19 : decode M_Md_agent.2.1 19 = .ok (.ldc 66, 2) := by decide +kernel
theorem d_Md_agent_21 : decode M_Md_agent.2.1 21 = .ok (.ireturn, 1) := by decide +kernel
theorem d_Md_agent_22 : decode M_Md_agent.2.1 22 = .ok (.aload_n 0, 1) := by decide +kernel
theorem d_Md_agent_23 : decode M_Md_agent.2.1 23 = .ok (.getfield 7, 3) := by decide +kernel
theorem d_Md_agent_26 : decode M_Md_agent.2.1 26 = .ok (.sipush 2163, 3) := by decide +kernel
theorem d_Md_agent_29 : decode M_Md_agent.2.1 29 = .ok (.iaload, 1) := by decide +kernel
theorem d_Md_agent_30 : decode M_Md_agent.2.1 30 = .ok (.istore_n 3, 1) := by decide +kernel
theorem d_Md_agent_31 : decode M_Md_agent.2.1 31 = .ok (.iload_n 3, 1) := by decide +kernel
theorem d_Md_agent_32 : decode M_Md_agent.2.1 32 = .ok (.bipush 12, 2) := by decide +kernel
theorem d_Md_agent_34 : decode M_Md_agent.2.1 34 = .ok (.if_icmp .ne 6, 3) := by decide +kernel
theorem d_Md_agent_37 : decode M_Md_agent.2.1 37 = .ok (.ldc 67, 2) := by decide +kernel
theorem d_Md_agent_39 : decode M_Md_agent.2.1 39 = .ok (.ireturn, 1) := by decide +kernel
theorem d_Md_agent_40 : decode M_Md_agent.2.1 40 = .ok (.aload_n 0, 1) := by decide +kernel
theorem d_Md_agent_41 : decode M_Md_agent.2.1 41 = .ok (.getfield 7, 3) := by decide +kernel
theorem d_Md_agent_44 : decode M_Md_agent.2.1 44 = .ok (.iconst 0, 1) := by decide +kernel
theorem d_Md_agent_45 : decode M_Md_agent.2.1 45 = .ok (.iconst 5, 1) := by decide +kernel
theorem d_Md_agent_46 : decode M_Md_agent.2.1 46 = .ok (.iload_n 3, 1) := by decide +kernel
theorem d_Md_agent_47 : decode M_Md_agent.2.1 47 = .ok (.imul, 1) := by decide +kernel
theorem d_Md_agent_48 : decode M_Md_agent.2.1 48 = .ok (.iadd, 1) := by decide +kernel
theorem d_Md_agent_49 : decode M_Md_agent.2.1 49 = .ok (.iload_n 1, 1) := by decide +kernel
theorem d_Md_agent_50 : decode M_Md_agent.2.1 50 = .ok (.iastore, 1) := by decide +kernel
theorem d_Md_agent_51 : decode M_Md_agent.2.1 51 = .ok (.aload_n 0, 1) := by decide +kernel
theorem d_Md_agent_52 : decode M_Md_agent.2.1 52 = .ok (.getfield 7, 3) := by decide +kernel
theorem d_Md_agent_55 : decode M_Md_agent.2.1 55 = .ok (.iconst 0, 1) := by decide +kernel
theorem d_Md_agent_56 : decode M_Md_agent.2.1 56 = .ok (.iconst 5, 1) := by decide +kernel
theorem d_Md_agent_57 : decode M_Md_agent.2.1 57 = .ok (.iload_n 3, 1) := by decide +kernel
theorem d_Md_agent_58 : decode M_Md_agent.2.1 58 = .ok (.imul, 1) := by decide +kernel
theorem d_Md_agent_59 : decode M_Md_agent.2.1 59 = .ok (.iadd, 1) := by decide +kernel
theorem d_Md_agent_60 : decode M_Md_agent.2.1 60 = .ok (.iconst 1, 1) := by decide +kernel
theorem d_Md_agent_61 : decode M_Md_agent.2.1 61 = .ok (.iadd, 1) := by decide +kernel
theorem d_Md_agent_62 : decode M_Md_agent.2.1 62 = .ok (.iload_n 2, 1) := by decide +kernel
theorem d_Md_agent_63 : decode M_Md_agent.2.1 63 = .ok (.iastore, 1) := by decide +kernel
theorem d_Md_agent_64 : decode M_Md_agent.2.1 64 = .ok (.aload_n 0, 1) := by decide +kernel
theorem d_Md_agent_65 : decode M_Md_agent.2.1 65 = .ok (.getfield 7, 3) := by decide +kernel
theorem d_Md_agent_68 : decode M_Md_agent.2.1 68 = .ok (.iconst 0, 1) := by decide +kernel
theorem d_Md_agent_69 : decode M_Md_agent.2.1 69 = .ok (.iconst 5, 1) := by decide +kernel
theorem d_Md_agent_70 : decode M_Md_agent.2.1 70 = .ok (.iload_n 3, 1) := by decide +kernel
theorem d_Md_agent_71 : decode M_Md_agent.2.1 71 = .ok (.imul, 1) := by decide +kernel
theorem d_Md_agent_72 : decode M_Md_agent.2.1 72 = .ok (.iadd, 1) := by decide +kernel
theorem d_Md_agent_73 : decode M_Md_agent.2.1 73 = .ok (.iconst 2, 1) := by decide +kernel
theorem d_Md_agent_74 : decode M_Md_agent.2.1 74 = .ok (.iadd, 1) := by decide +kernel
theorem d_Md_agent_75 : decode M_Md_agent.2.1 75 = .ok (.iconst 0, 1) := by decide +kernel
theorem d_Md_agent_76 : decode M_Md_agent.2.1 76 = .ok (.iastore, 1) := by decide +kernel
theorem d_Md_agent_77 : decode M_Md_agent.2.1 77 = .ok (.aload_n 0, 1) := by decide +kernel
theorem d_Md_agent_78 : decode M_Md_agent.2.1 78 = .ok (.getfield 7, 3) := by decide +kernel
theorem d_Md_agent_81 : decode M_Md_agent.2.1 81 = .ok (.iconst 0, 1) := by decide +kernel
theorem d_Md_agent_82 : decode M_Md_agent.2.1 82 = .ok (.iconst 5, 1) := by decide +kernel
theorem d_Md_agent_83 : decode M_Md_agent.2.1 83 = .ok (.iload_n 3, 1) := by decide +kernel
theorem d_Md_agent_84 : decode M_Md_agent.2.1 84 = .ok (.imul, 1) := by decide +kernel
theorem d_Md_agent_85 : decode M_Md_agent.2.1 85 = .ok (.iadd, 1) := by decide +kernel
theorem d_Md_agent_86 : decode M_Md_agent.2.1 86 = .ok (.iconst 3, 1) := by decide +kernel
theorem d_Md_agent_87 : decode M_Md_agent.2.1 87 = .ok (.iadd, 1) := by decide +kernel
theorem d_Md_agent_88 : decode M_Md_agent.2.1 88 = .ok (.ldc 68, 2) := by decide +kernel
theorem d_Md_agent_90 : decode M_Md_agent.2.1 90 = .ok (.iastore, 1) := by decide +kernel
theorem d_Md_agent_91 : decode M_Md_agent.2.1 91 = .ok (.aload_n 0, 1) := by decide +kernel
theorem d_Md_agent_92 : decode M_Md_agent.2.1 92 = .ok (.getfield 7, 3) := by decide +kernel
theorem d_Md_agent_95 : decode M_Md_agent.2.1 95 = .ok (.iconst 0, 1) := by decide +kernel
theorem d_Md_agent_96 : decode M_Md_agent.2.1 96 = .ok (.iconst 5, 1) := by decide +kernel
theorem d_Md_agent_97 : decode M_Md_agent.2.1 97 = .ok (.iload_n 3, 1) := by decide +kernel
theorem d_Md_agent_98 : decode M_Md_agent.2.1 98 = .ok (.imul, 1) := by decide +kernel
theorem d_Md_agent_99 : decode M_Md_agent.2.1 99 = .ok (.iadd, 1) := by decide +kernel
theorem d_Md_agent_100 : decode M_Md_agent.2.1 100 = .ok (.iconst 4, 1) := by decide +kernel
theorem d_Md_agent_101 : decode M_Md_agent.2.1 101 = .ok (.iadd, 1) := by decide +kernel
theorem d_Md_agent_102 : decode M_Md_agent.2.1 102 = .ok (.iconst 0, 1) := by decide +kernel
theorem d_Md_agent_103 : decode M_Md_agent.2.1 103 = .ok (.iastore, 1) := by decide +kernel
theorem d_Md_agent_104 : decode M_Md_agent.2.1 104 = .ok (.aload_n 0, 1) := by decide +kernel
theorem d_Md_agent_105 : decode M_Md_agent.2.1 105 = .ok (.getfield 7, 3) := by decide +kernel
theorem d_Md_agent_108 : decode M_Md_agent.2.1 108 = .ok (.sipush 2163, 3) := by decide +kernel
theorem d_Md_agent_111 : decode M_Md_agent.2.1 111 = .ok (.dup2, 1) := by decide +kernel
theorem d_Md_agent_112 : decode M_Md_agent.2.1 112 = .ok (.iaload, 1) := by decide +kernel
theorem d_Md_agent_113 : decode M_Md_agent.2.1 113 = .ok (.iconst 1, 1) := by decide +kernel
theorem d_Md_agent_114 : decode M_Md_agent.2.1 114 = .ok (.iadd, 1) := by decide +kernel
theorem d_Md_agent_115 : decode M_Md_agent.2.1 115 = .ok (.iastore, 1) := by decide +kernel
theorem d_Md_agent_116 : decode M_Md_agent.2.1 116 = .ok (.iload_n 3, 1) := by decide +kernel
theorem d_Md_agent_117 : decode M_Md_agent.2.1 117 = .ok (.ireturn, 1) := by decide +kernel
def M_Md_isIn : mj_M := (⟨"MarketTownModel", "isIn", "(III)Z"⟩, prog_13_method_2_code, 3, some .boolean, 0, 0)
theorem d_Md_isIn_0 : decode M_Md_isIn.2.1 0 = .ok (.iload_n 0, 1) := by decide +kernel
theorem d_Md_isIn_1 : decode M_Md_isIn.2.1 1 = .ok (.iload_n 1, 1) := by decide +kernel
theorem d_Md_isIn_2 : decode M_Md_isIn.2.1 2 = .ok (.if_icmp .lt 12, 3) := by decide +kernel
theorem d_Md_isIn_5 : decode M_Md_isIn.2.1 5 = .ok (.iload_n 0, 1) := by decide +kernel
theorem d_Md_isIn_6 : decode M_Md_isIn.2.1 6 = .ok (.iload_n 2, 1) := by decide +kernel
theorem d_Md_isIn_7 : decode M_Md_isIn.2.1 7 = .ok (.if_icmp .gt 7, 3) := by decide +kernel
theorem d_Md_isIn_10 : decode M_Md_isIn.2.1 10 = .ok (.iconst 1, 1) := by decide +kernel
theorem d_Md_isIn_11 : decode M_Md_isIn.2.1 11 = .ok (.goto 4, 3) := by decide +kernel
theorem d_Md_isIn_14 : decode M_Md_isIn.2.1 14 = .ok (.iconst 0, 1) := by decide +kernel
theorem d_Md_isIn_15 : decode M_Md_isIn.2.1 15 = .ok (.ireturn, 1) := by decide +kernel
def M_Md_give : mj_M := (⟨"MarketTownModel", "give", "(III)I"⟩, prog_13_method_15_code, 4, some .int, 2, 46)
theorem d_Md_give_0 : decode M_Md_give.2.1 0 = .ok (.aload_n 0, 1) := by decide +kernel
theorem d_Md_give_1 : decode M_Md_give.2.1 1 = .ok (.iload_n 1, 1) := by decide +kernel
theorem d_Md_give_2 : decode M_Md_give.2.1 2 = .ok (.invokevirtual 69, 3) := by decide +kernel
theorem d_Md_give_5 : decode M_Md_give.2.1 5 = .ok (.ifCond .eq 21, 3) := by decide +kernel
theorem d_Md_give_8 : decode M_Md_give.2.1 8 = .ok (.iload_n 2, 1) := by decide +kernel
theorem d_Md_give_9 : decode M_Md_give.2.1 9 = .ok (.invokestatic 73, 3) := by decide +kernel
theorem d_Md_give_12 : decode M_Md_give.2.1 12 = .ok (.ifCond .eq 14, 3) := by decide +kernel
theorem d_Md_give_15 : decode M_Md_give.2.1 15 = .ok (.iload_n 3, 1) := by decide +kernel
theorem d_Md_give_16 : decode M_Md_give.2.1 16 = .ok (.iconst 1, 1) := by decide +kernel
theorem d_Md_give_17 : decode M_Md_give.2.1 17 = .ok (.sipush 999, 3) := by decide +kernel
theorem d_Md_give_20 : decode M_Md_give.2.1 20 = .ok (.invokestatic 53, 3) := by decide +kernel
theorem d_Md_give_23 : decode M_Md_give.2.1 23 = .ok (.ifCond .ne 6, 3) := by decide +kernel
theorem d_Md_give_26 : decode M_Md_give.2.1 26 = .ok (.ldc 66, 2) := by decide +kernel
theorem d_Md_give_28 : decode M_Md_give.2.1 28 = .ok (.ireturn, 1) := by decide +kernel
theorem d_Md_give_29 : decode M_Md_give.2.1 29 = .ok (.aload_n 0, 1) := by decide +kernel
theorem d_Md_give_30 : decode M_Md_give.2.1 30 = .ok (.getfield 7, 3) := by decide +kernel
theorem d_Md_give_33 : decode M_Md_give.2.1 33 = .ok (.iload_n 1, 1) := by decide +kernel
theorem d_Md_give_34 : decode M_Md_give.2.1 34 = .ok (.iload_n 2, 1) := by decide +kernel
theorem d_Md_give_35 : decode M_Md_give.2.1 35 = .ok (.iconst 0, 1) := by decide +kernel
theorem d_Md_give_36 : decode M_Md_give.2.1 36 = .ok (.invokestatic 57, 3) := by decide +kernel
theorem d_Md_give_39 : decode M_Md_give.2.1 39 = .ok (.dup2, 1) := by decide +kernel
theorem d_Md_give_40 : decode M_Md_give.2.1 40 = .ok (.iaload, 1) := by decide +kernel
theorem d_Md_give_41 : decode M_Md_give.2.1 41 = .ok (.iload_n 3, 1) := by decide +kernel
theorem d_Md_give_42 : decode M_Md_give.2.1 42 = .ok (.iadd, 1) := by decide +kernel
theorem d_Md_give_43 : decode M_Md_give.2.1 43 = .ok (.iastore, 1) := by decide +kernel
theorem d_Md_give_44 : decode M_Md_give.2.1 44 = .ok (.aload_n 0, 1) := by decide +kernel
theorem d_Md_give_45 : decode M_Md_give.2.1 45 = .ok (.iload_n 1, 1) := by decide +kernel
theorem d_Md_give_46 : decode M_Md_give.2.1 46 = .ok (.iload_n 2, 1) := by decide +kernel
theorem d_Md_give_47 : decode M_Md_give.2.1 47 = .ok (.invokevirtual 76, 3) := by decide +kernel
theorem d_Md_give_50 : decode M_Md_give.2.1 50 = .ok (.ireturn, 1) := by decide +kernel
def M_Md_isAgent : mj_M := (⟨"MarketTownModel", "isAgent", "(I)Z"⟩, prog_13_method_3_code, 2, some .boolean, 1, 22)
theorem d_Md_isAgent_0 : decode M_Md_isAgent.2.1 0 = .ok (.iload_n 1, 1) := by decide +kernel
theorem d_Md_isAgent_1 : decode M_Md_isAgent.2.1 1 = .ok (.iconst 0, 1) := by decide +kernel
theorem d_Md_isAgent_2 : decode M_Md_isAgent.2.1 2 = .ok (.aload_n 0, 1) := by decide +kernel
theorem d_Md_isAgent_3 : decode M_Md_isAgent.2.1 3 = .ok (.getfield 7, 3) := by decide +kernel
theorem d_Md_isAgent_6 : decode M_Md_isAgent.2.1 6 = .ok (.sipush 2163, 3) := by decide +kernel
theorem d_Md_isAgent_9 : decode M_Md_isAgent.2.1 9 = .ok (.iaload, 1) := by decide +kernel
theorem d_Md_isAgent_10 : decode M_Md_isAgent.2.1 10 = .ok (.iconst 1, 1) := by decide +kernel
theorem d_Md_isAgent_11 : decode M_Md_isAgent.2.1 11 = .ok (.isub, 1) := by decide +kernel
theorem d_Md_isAgent_12 : decode M_Md_isAgent.2.1 12 = .ok (.invokestatic 53, 3) := by decide +kernel
theorem d_Md_isAgent_15 : decode M_Md_isAgent.2.1 15 = .ok (.ireturn, 1) := by decide +kernel
def M_Md_isGood : mj_M := (⟨"MarketTownModel", "isGood", "(I)Z"⟩, prog_13_method_4_code, 1, some .boolean, 1, 22)
theorem d_Md_isGood_0 : decode M_Md_isGood.2.1 0 = .ok (.iload_n 0, 1) := by decide +kernel
theorem d_Md_isGood_1 : decode M_Md_isGood.2.1 1 = .ok (.iconst 0, 1) := by decide +kernel
theorem d_Md_isGood_2 : decode M_Md_isGood.2.1 2 = .ok (.iconst 4, 1) := by decide +kernel
theorem d_Md_isGood_3 : decode M_Md_isGood.2.1 3 = .ok (.invokestatic 53, 3) := by decide +kernel
theorem d_Md_isGood_6 : decode M_Md_isGood.2.1 6 = .ok (.ireturn, 1) := by decide +kernel
def M_Md_ageAt : mj_M := (⟨"MarketTownModel", "ageAt", "(III)I"⟩, prog_13_method_9_code, 3, some .int, 0, 0)
theorem d_Md_ageAt_0 : decode M_Md_ageAt.2.1 0 = .ok (.bipush 60, 2) := by decide +kernel
theorem d_Md_ageAt_2 : decode M_Md_ageAt.2.1 2 = .ok (.bipush 10, 2) := by decide +kernel
theorem d_Md_ageAt_4 : decode M_Md_ageAt.2.1 4 = .ok (.iconst 5, 1) := by decide +kernel
theorem d_Md_ageAt_5 : decode M_Md_ageAt.2.1 5 = .ok (.iload_n 0, 1) := by decide +kernel
theorem d_Md_ageAt_6 : decode M_Md_ageAt.2.1 6 = .ok (.imul, 1) := by decide +kernel
theorem d_Md_ageAt_7 : decode M_Md_ageAt.2.1 7 = .ok (.iload_n 1, 1) := by decide +kernel
theorem d_Md_ageAt_8 : decode M_Md_ageAt.2.1 8 = .ok (.iadd, 1) := by decide +kernel
theorem d_Md_ageAt_9 : decode M_Md_ageAt.2.1 9 = .ok (.imul, 1) := by decide +kernel
theorem d_Md_ageAt_10 : decode M_Md_ageAt.2.1 10 = .ok (.iadd, 1) := by decide +kernel
theorem d_Md_ageAt_11 : decode M_Md_ageAt.2.1 11 = .ok (.iload_n 2, 1) := by decide +kernel
theorem d_Md_ageAt_12 : decode M_Md_ageAt.2.1 12 = .ok (.iadd, 1) := by decide +kernel
theorem d_Md_ageAt_13 : decode M_Md_ageAt.2.1 13 = .ok (.ireturn, 1) := by decide +kernel
def M_Md_hasAll : mj_M := (⟨"MarketTownModel", "hasAll", "(II)I"⟩, prog_13_method_10_code, 5, some .int, 1, 22)
theorem d_Md_hasAll_0 : decode M_Md_hasAll.2.1 0 = .ok (.iconst 0, 1) := by decide +kernel
theorem d_Md_hasAll_1 : decode M_Md_hasAll.2.1 1 = .ok (.istore_n 3, 1) := by decide +kernel
theorem d_Md_hasAll_2 : decode M_Md_hasAll.2.1 2 = .ok (.iconst 0, 1) := by decide +kernel
theorem d_Md_hasAll_3 : decode M_Md_hasAll.2.1 3 = .ok (.istore 4, 2) := by decide +kernel
theorem d_Md_hasAll_5 : decode M_Md_hasAll.2.1 5 = .ok (.iload 4, 2) := by decide +kernel
theorem d_Md_hasAll_7 : decode M_Md_hasAll.2.1 7 = .ok (.bipush 10, 2) := by decide +kernel
theorem d_Md_hasAll_9 : decode M_Md_hasAll.2.1 9 = .ok (.if_icmp .ge 24, 3) := by decide +kernel
theorem d_Md_hasAll_12 : decode M_Md_hasAll.2.1 12 = .ok (.iload_n 3, 1) := by decide +kernel
theorem d_Md_hasAll_13 : decode M_Md_hasAll.2.1 13 = .ok (.aload_n 0, 1) := by decide +kernel
theorem d_Md_hasAll_14 : decode M_Md_hasAll.2.1 14 = .ok (.getfield 7, 3) := by decide +kernel
theorem d_Md_hasAll_17 : decode M_Md_hasAll.2.1 17 = .ok (.iload_n 1, 1) := by decide +kernel
theorem d_Md_hasAll_18 : decode M_Md_hasAll.2.1 18 = .ok (.iload_n 2, 1) := by decide +kernel
theorem d_Md_hasAll_19 : decode M_Md_hasAll.2.1 19 = .ok (.iload 4, 2) := by decide +kernel
theorem d_Md_hasAll_21 : decode M_Md_hasAll.2.1 21 = .ok (.invokestatic 57, 3) := by decide +kernel
theorem d_Md_hasAll_24 : decode M_Md_hasAll.2.1 24 = .ok (.iaload, 1) := by decide +kernel
theorem d_Md_hasAll_25 : decode M_Md_hasAll.2.1 25 = .ok (.iadd, 1) := by decide +kernel
theorem d_Md_hasAll_26 : decode M_Md_hasAll.2.1 26 = .ok (.istore_n 3, 1) := by decide +kernel
theorem d_Md_hasAll_27 : decode M_Md_hasAll.2.1 27 = .ok (.iinc 4 1, 3) := by decide +kernel
theorem d_Md_hasAll_30 : decode M_Md_hasAll.2.1 30 = .ok (.goto (-25), 3) := by decide +kernel
theorem d_Md_hasAll_33 : decode M_Md_hasAll.2.1 33 = .ok (.iload_n 3, 1) := by decide +kernel
theorem d_Md_hasAll_34 : decode M_Md_hasAll.2.1 34 = .ok (.ireturn, 1) := by decide +kernel
def M_Md_good : mj_M := (⟨"MarketTownModel", "good", "(III)I"⟩, prog_13_method_16_code, 4, some .int, 2, 42)
theorem d_Md_good_0 : decode M_Md_good.2.1 0 = .ok (.iload_n 1, 1) := by decide +kernel
theorem d_Md_good_1 : decode M_Md_good.2.1 1 = .ok (.invokestatic 73, 3) := by decide +kernel
theorem d_Md_good_4 : decode M_Md_good.2.1 4 = .ok (.ifCond .eq 22, 3) := by decide +kernel
theorem d_Md_good_7 : decode M_Md_good.2.1 7 = .ok (.iload_n 2, 1) := by decide +kernel
theorem d_Md_good_8 : decode M_Md_good.2.1 8 = .ok (.iconst 0, 1) := by decide +kernel
theorem d_Md_good_9 : decode M_Md_good.2.1 9 = .ok (.bipush 9, 2) := by decide +kernel
theorem d_Md_good_11 : decode M_Md_good.2.1 11 = .ok (.invokestatic 53, 3) := by decide +kernel
theorem d_Md_good_14 : decode M_Md_good.2.1 14 = .ok (.ifCond .eq 12, 3) := by decide +kernel
theorem d_Md_good_17 : decode M_Md_good.2.1 17 = .ok (.iload_n 3, 1) := by decide +kernel
theorem d_Md_good_18 : decode M_Md_good.2.1 18 = .ok (.iconst 0, 1) := by decide +kernel
theorem d_Md_good_19 : decode M_Md_good.2.1 19 = .ok (.iconst 2, 1) := by decide +kernel
theorem d_Md_good_20 : decode M_Md_good.2.1 20 = .ok (.invokestatic 53, 3) := by decide +kernel
theorem d_Md_good_23 : decode M_Md_good.2.1 23 = .ok (.ifCond .ne 6, 3) := by decide +kernel
theorem d_Md_good_26 : decode M_Md_good.2.1 26 = .ok (.ldc 66, 2) := by decide +kernel
theorem d_Md_good_28 : decode M_Md_good.2.1 28 = .ok (.ireturn, 1) := by decide +kernel
theorem d_Md_good_29 : decode M_Md_good.2.1 29 = .ok (.aload_n 0, 1) := by decide +kernel
theorem d_Md_good_30 : decode M_Md_good.2.1 30 = .ok (.getfield 7, 3) := by decide +kernel
theorem d_Md_good_33 : decode M_Md_good.2.1 33 = .ok (.sipush 1308, 3) := by decide +kernel
theorem d_Md_good_36 : decode M_Md_good.2.1 36 = .ok (.bipush 11, 2) := by decide +kernel
theorem d_Md_good_38 : decode M_Md_good.2.1 38 = .ok (.iload_n 1, 1) := by decide +kernel
theorem d_Md_good_39 : decode M_Md_good.2.1 39 = .ok (.imul, 1) := by decide +kernel
theorem d_Md_good_40 : decode M_Md_good.2.1 40 = .ok (.iadd, 1) := by decide +kernel
theorem d_Md_good_41 : decode M_Md_good.2.1 41 = .ok (.iload_n 2, 1) := by decide +kernel
theorem d_Md_good_42 : decode M_Md_good.2.1 42 = .ok (.iastore, 1) := by decide +kernel
theorem d_Md_good_43 : decode M_Md_good.2.1 43 = .ok (.aload_n 0, 1) := by decide +kernel
theorem d_Md_good_44 : decode M_Md_good.2.1 44 = .ok (.getfield 7, 3) := by decide +kernel
theorem d_Md_good_47 : decode M_Md_good.2.1 47 = .ok (.sipush 1308, 3) := by decide +kernel
theorem d_Md_good_50 : decode M_Md_good.2.1 50 = .ok (.bipush 11, 2) := by decide +kernel
theorem d_Md_good_52 : decode M_Md_good.2.1 52 = .ok (.iload_n 1, 1) := by decide +kernel
theorem d_Md_good_53 : decode M_Md_good.2.1 53 = .ok (.imul, 1) := by decide +kernel
theorem d_Md_good_54 : decode M_Md_good.2.1 54 = .ok (.iadd, 1) := by decide +kernel
theorem d_Md_good_55 : decode M_Md_good.2.1 55 = .ok (.iconst 1, 1) := by decide +kernel
theorem d_Md_good_56 : decode M_Md_good.2.1 56 = .ok (.iadd, 1) := by decide +kernel
theorem d_Md_good_57 : decode M_Md_good.2.1 57 = .ok (.iload_n 3, 1) := by decide +kernel
theorem d_Md_good_58 : decode M_Md_good.2.1 58 = .ok (.iastore, 1) := by decide +kernel
theorem d_Md_good_59 : decode M_Md_good.2.1 59 = .ok (.iconst 0, 1) := by decide +kernel
theorem d_Md_good_60 : decode M_Md_good.2.1 60 = .ok (.ireturn, 1) := by decide +kernel
def M_Md_recipe : mj_M := (⟨"MarketTownModel", "recipe", "(IIIII)I"⟩, prog_13_method_17_code, 6, some .int, 2, 42)
theorem d_Md_recipe_0 : decode M_Md_recipe.2.1 0 = .ok (.iload_n 1, 1) := by decide +kernel
theorem d_Md_recipe_1 : decode M_Md_recipe.2.1 1 = .ok (.invokestatic 73, 3) := by decide +kernel
theorem d_Md_recipe_4 : decode M_Md_recipe.2.1 4 = .ok (.ifCond .eq 39, 3) := by decide +kernel
theorem d_Md_recipe_7 : decode M_Md_recipe.2.1 7 = .ok (.iload_n 2, 1) := by decide +kernel
theorem d_Md_recipe_8 : decode M_Md_recipe.2.1 8 = .ok (.invokestatic 73, 3) := by decide +kernel
theorem d_Md_recipe_11 : decode M_Md_recipe.2.1 11 = .ok (.ifCond .eq 32, 3) := by decide +kernel
theorem d_Md_recipe_14 : decode M_Md_recipe.2.1 14 = .ok (.iload 4, 2) := by decide +kernel
theorem d_Md_recipe_16 : decode M_Md_recipe.2.1 16 = .ok (.invokestatic 73, 3) := by decide +kernel
theorem d_Md_recipe_19 : decode M_Md_recipe.2.1 19 = .ok (.ifCond .eq 24, 3) := by decide +kernel
theorem d_Md_recipe_22 : decode M_Md_recipe.2.1 22 = .ok (.iload_n 3, 1) := by decide +kernel
theorem d_Md_recipe_23 : decode M_Md_recipe.2.1 23 = .ok (.iconst (-1), 1) := by decide +kernel
theorem d_Md_recipe_24 : decode M_Md_recipe.2.1 24 = .ok (.bipush 9, 2) := by decide +kernel
theorem d_Md_recipe_26 : decode M_Md_recipe.2.1 26 = .ok (.invokestatic 53, 3) := by decide +kernel
theorem d_Md_recipe_29 : decode M_Md_recipe.2.1 29 = .ok (.ifCond .eq 14, 3) := by decide +kernel
theorem d_Md_recipe_32 : decode M_Md_recipe.2.1 32 = .ok (.iload 5, 2) := by decide +kernel
theorem d_Md_recipe_34 : decode M_Md_recipe.2.1 34 = .ok (.iconst 0, 1) := by decide +kernel
theorem d_Md_recipe_35 : decode M_Md_recipe.2.1 35 = .ok (.bipush 9, 2) := by decide +kernel
theorem d_Md_recipe_37 : decode M_Md_recipe.2.1 37 = .ok (.invokestatic 53, 3) := by decide +kernel
theorem d_Md_recipe_40 : decode M_Md_recipe.2.1 40 = .ok (.ifCond .ne 6, 3) := by decide +kernel
theorem d_Md_recipe_43 : decode M_Md_recipe.2.1 43 = .ok (.ldc 66, 2) := by decide +kernel
theorem d_Md_recipe_45 : decode M_Md_recipe.2.1 45 = .ok (.ireturn, 1) := by decide +kernel
theorem d_Md_recipe_46 : decode M_Md_recipe.2.1 46 = .ok (.aload_n 0, 1) := by decide +kernel
theorem d_Md_recipe_47 : decode M_Md_recipe.2.1 47 = .ok (.getfield 7, 3) := by decide +kernel
theorem d_Md_recipe_50 : decode M_Md_recipe.2.1 50 = .ok (.sipush 1308, 3) := by decide +kernel
theorem d_Md_recipe_53 : decode M_Md_recipe.2.1 53 = .ok (.bipush 11, 2) := by decide +kernel
theorem d_Md_recipe_55 : decode M_Md_recipe.2.1 55 = .ok (.iload_n 1, 1) := by decide +kernel
theorem d_Md_recipe_56 : decode M_Md_recipe.2.1 56 = .ok (.imul, 1) := by decide +kernel
theorem d_Md_recipe_57 : decode M_Md_recipe.2.1 57 = .ok (.iadd, 1) := by decide +kernel
theorem d_Md_recipe_58 : decode M_Md_recipe.2.1 58 = .ok (.bipush 7, 2) := by decide +kernel
theorem d_Md_recipe_60 : decode M_Md_recipe.2.1 60 = .ok (.iadd, 1) := by decide +kernel
theorem d_Md_recipe_61 : decode M_Md_recipe.2.1 61 = .ok (.iload_n 2, 1) := by decide +kernel
theorem d_Md_recipe_62 : decode M_Md_recipe.2.1 62 = .ok (.iastore, 1) := by decide +kernel
theorem d_Md_recipe_63 : decode M_Md_recipe.2.1 63 = .ok (.aload_n 0, 1) := by decide +kernel
theorem d_Md_recipe_64 : decode M_Md_recipe.2.1 64 = .ok (.getfield 7, 3) := by decide +kernel
theorem d_Md_recipe_67 : decode M_Md_recipe.2.1 67 = .ok (.sipush 1308, 3) := by decide +kernel
theorem d_Md_recipe_70 : decode M_Md_recipe.2.1 70 = .ok (.bipush 11, 2) := by decide +kernel
theorem d_Md_recipe_72 : decode M_Md_recipe.2.1 72 = .ok (.iload_n 1, 1) := by decide +kernel
theorem d_Md_recipe_73 : decode M_Md_recipe.2.1 73 = .ok (.imul, 1) := by decide +kernel
theorem d_Md_recipe_74 : decode M_Md_recipe.2.1 74 = .ok (.iadd, 1) := by decide +kernel
theorem d_Md_recipe_75 : decode M_Md_recipe.2.1 75 = .ok (.bipush 8, 2) := by decide +kernel
theorem d_Md_recipe_77 : decode M_Md_recipe.2.1 77 = .ok (.iadd, 1) := by decide +kernel
theorem d_Md_recipe_78 : decode M_Md_recipe.2.1 78 = .ok (.iload_n 3, 1) := by decide +kernel
theorem d_Md_recipe_79 : decode M_Md_recipe.2.1 79 = .ok (.iastore, 1) := by decide +kernel
theorem d_Md_recipe_80 : decode M_Md_recipe.2.1 80 = .ok (.aload_n 0, 1) := by decide +kernel
theorem d_Md_recipe_81 : decode M_Md_recipe.2.1 81 = .ok (.getfield 7, 3) := by decide +kernel
theorem d_Md_recipe_84 : decode M_Md_recipe.2.1 84 = .ok (.sipush 1308, 3) := by decide +kernel
theorem d_Md_recipe_87 : decode M_Md_recipe.2.1 87 = .ok (.bipush 11, 2) := by decide +kernel
theorem d_Md_recipe_89 : decode M_Md_recipe.2.1 89 = .ok (.iload_n 1, 1) := by decide +kernel
theorem d_Md_recipe_90 : decode M_Md_recipe.2.1 90 = .ok (.imul, 1) := by decide +kernel
theorem d_Md_recipe_91 : decode M_Md_recipe.2.1 91 = .ok (.iadd, 1) := by decide +kernel
theorem d_Md_recipe_92 : decode M_Md_recipe.2.1 92 = .ok (.bipush 9, 2) := by decide +kernel
theorem d_Md_recipe_94 : decode M_Md_recipe.2.1 94 = .ok (.iadd, 1) := by decide +kernel
theorem d_Md_recipe_95 : decode M_Md_recipe.2.1 95 = .ok (.iload 4, 2) := by decide +kernel
theorem d_Md_recipe_97 : decode M_Md_recipe.2.1 97 = .ok (.iastore, 1) := by decide +kernel
theorem d_Md_recipe_98 : decode M_Md_recipe.2.1 98 = .ok (.aload_n 0, 1) := by decide +kernel
theorem d_Md_recipe_99 : decode M_Md_recipe.2.1 99 = .ok (.getfield 7, 3) := by decide +kernel
theorem d_Md_recipe_102 : decode M_Md_recipe.2.1 102 = .ok (.sipush 1308, 3) := by decide +kernel
theorem d_Md_recipe_105 : decode M_Md_recipe.2.1 105 = .ok (.bipush 11, 2) := by decide +kernel
theorem d_Md_recipe_107 : decode M_Md_recipe.2.1 107 = .ok (.iload_n 1, 1) := by decide +kernel
theorem d_Md_recipe_108 : decode M_Md_recipe.2.1 108 = .ok (.imul, 1) := by decide +kernel
theorem d_Md_recipe_109 : decode M_Md_recipe.2.1 109 = .ok (.iadd, 1) := by decide +kernel
theorem d_Md_recipe_110 : decode M_Md_recipe.2.1 110 = .ok (.bipush 10, 2) := by decide +kernel
theorem d_Md_recipe_112 : decode M_Md_recipe.2.1 112 = .ok (.iadd, 1) := by decide +kernel
theorem d_Md_recipe_113 : decode M_Md_recipe.2.1 113 = .ok (.iload 5, 2) := by decide +kernel
theorem d_Md_recipe_115 : decode M_Md_recipe.2.1 115 = .ok (.iastore, 1) := by decide +kernel
theorem d_Md_recipe_116 : decode M_Md_recipe.2.1 116 = .ok (.iconst 0, 1) := by decide +kernel
theorem d_Md_recipe_117 : decode M_Md_recipe.2.1 117 = .ok (.ireturn, 1) := by decide +kernel
def M_Md_policy : mj_M := (⟨"MarketTownModel", "policy", "(II)I"⟩, prog_13_method_18_code, 3, some .int, 1, 22)
theorem d_Md_policy_0 : decode M_Md_policy.2.1 0 = .ok (.iload_n 1, 1) := by decide +kernel
theorem d_Md_policy_1 : decode M_Md_policy.2.1 1 = .ok (.iconst 0, 1) := by decide +kernel
theorem d_Md_policy_2 : decode M_Md_policy.2.1 2 = .ok (.sipush 1000, 3) := by decide +kernel
theorem d_Md_policy_5 : decode M_Md_policy.2.1 5 = .ok (.invokestatic 53, 3) := by decide +kernel
theorem d_Md_policy_8 : decode M_Md_policy.2.1 8 = .ok (.ifCond .eq 13, 3) := by decide +kernel
theorem d_Md_policy_11 : decode M_Md_policy.2.1 11 = .ok (.iload_n 2, 1) := by decide +kernel
theorem d_Md_policy_12 : decode M_Md_policy.2.1 12 = .ok (.iconst 0, 1) := by decide +kernel
theorem d_Md_policy_13 : decode M_Md_policy.2.1 13 = .ok (.bipush 100, 2) := by decide +kernel
theorem d_Md_policy_15 : decode M_Md_policy.2.1 15 = .ok (.invokestatic 53, 3) := by decide +kernel
theorem d_Md_policy_18 : decode M_Md_policy.2.1 18 = .ok (.ifCond .ne 6, 3) := by decide +kernel
theorem d_Md_policy_21 : decode M_Md_policy.2.1 21 = .ok (.ldc 66, 2) := by decide +kernel
theorem d_Md_policy_23 : decode M_Md_policy.2.1 23 = .ok (.ireturn, 1) := by decide +kernel
theorem d_Md_policy_24 : decode M_Md_policy.2.1 24 = .ok (.aload_n 0, 1) := by decide +kernel
theorem d_Md_policy_25 : decode M_Md_policy.2.1 25 = .ok (.getfield 7, 3) := by decide +kernel
theorem d_Md_policy_28 : decode M_Md_policy.2.1 28 = .ok (.sipush 2166, 3) := by decide +kernel
theorem d_Md_policy_31 : decode M_Md_policy.2.1 31 = .ok (.iload_n 1, 1) := by decide +kernel
theorem d_Md_policy_32 : decode M_Md_policy.2.1 32 = .ok (.iastore, 1) := by decide +kernel
theorem d_Md_policy_33 : decode M_Md_policy.2.1 33 = .ok (.aload_n 0, 1) := by decide +kernel
theorem d_Md_policy_34 : decode M_Md_policy.2.1 34 = .ok (.getfield 7, 3) := by decide +kernel
theorem d_Md_policy_37 : decode M_Md_policy.2.1 37 = .ok (.sipush 2167, 3) := by decide +kernel
theorem d_Md_policy_40 : decode M_Md_policy.2.1 40 = .ok (.iload_n 2, 1) := by decide +kernel
theorem d_Md_policy_41 : decode M_Md_policy.2.1 41 = .ok (.iastore, 1) := by decide +kernel
theorem d_Md_policy_42 : decode M_Md_policy.2.1 42 = .ok (.iconst 0, 1) := by decide +kernel
theorem d_Md_policy_43 : decode M_Md_policy.2.1 43 = .ok (.ireturn, 1) := by decide +kernel
def M_Md_lots : mj_M := (⟨"MarketTownModel", "lots", "(I)I"⟩, prog_13_method_19_code, 2, some .int, 0, 0)
theorem d_Md_lots_0 : decode M_Md_lots.2.1 0 = .ok (.iload_n 1, 1) := by decide +kernel
theorem d_Md_lots_1 : decode M_Md_lots.2.1 1 = .ok (.ifCond .ge 6, 3) := by decide +kernel
theorem d_Md_lots_4 : decode M_Md_lots.2.1 4 = .ok (.ldc 66, 2) := by decide +kernel
theorem d_Md_lots_6 : decode M_Md_lots.2.1 6 = .ok (.ireturn, 1) := by decide +kernel
theorem d_Md_lots_7 : decode M_Md_lots.2.1 7 = .ok (.aload_n 0, 1) := by decide +kernel
theorem d_Md_lots_8 : decode M_Md_lots.2.1 8 = .ok (.getfield 7, 3) := by decide +kernel
theorem d_Md_lots_11 : decode M_Md_lots.2.1 11 = .ok (.sipush 2165, 3) := by decide +kernel
theorem d_Md_lots_14 : decode M_Md_lots.2.1 14 = .ok (.iload_n 1, 1) := by decide +kernel
theorem d_Md_lots_15 : decode M_Md_lots.2.1 15 = .ok (.iastore, 1) := by decide +kernel
theorem d_Md_lots_16 : decode M_Md_lots.2.1 16 = .ok (.iconst 0, 1) := by decide +kernel
theorem d_Md_lots_17 : decode M_Md_lots.2.1 17 = .ok (.ireturn, 1) := by decide +kernel
def M_Md_feed : mj_M := (⟨"MarketTownModel", "feed", "(IIIII)I"⟩, prog_13_method_21_code, 6, some .int, 1, 22)
theorem d_Md_feed_0 : decode M_Md_feed.2.1 0 = .ok (.aload_n 0, 1) := by decide +kernel
theorem d_Md_feed_1 : decode M_Md_feed.2.1 1 = .ok (.getfield 80, 3) := by decide +kernel
theorem d_Md_feed_4 : decode M_Md_feed.2.1 4 = .ok (.bipush 20, 2) := by decide +kernel
theorem d_Md_feed_6 : decode M_Md_feed.2.1 6 = .ok (.iadd, 1) := by decide +kernel
theorem d_Md_feed_7 : decode M_Md_feed.2.1 7 = .ok (.bipush 60, 2) := by decide +kernel
theorem d_Md_feed_9 : decode M_Md_feed.2.1 9 = .ok (.if_icmp .le 6, 3) := by decide +kernel
theorem d_Md_feed_12 : decode M_Md_feed.2.1 12 = .ok (.ldc 67, 2) := by decide +kernel
theorem d_Md_feed_14 : decode M_Md_feed.2.1 14 = .ok (.ireturn, 1) := by decide +kernel
theorem d_Md_feed_15 : decode M_Md_feed.2.1 15 = .ok (.aload_n 0, 1) := by decide +kernel
theorem d_Md_feed_16 : decode M_Md_feed.2.1 16 = .ok (.iload_n 1, 1) := by decide +kernel
theorem d_Md_feed_17 : decode M_Md_feed.2.1 17 = .ok (.invokevirtual 84, 3) := by decide +kernel
theorem d_Md_feed_20 : decode M_Md_feed.2.1 20 = .ok (.aload_n 0, 1) := by decide +kernel
theorem d_Md_feed_21 : decode M_Md_feed.2.1 21 = .ok (.iload_n 2, 1) := by decide +kernel
theorem d_Md_feed_22 : decode M_Md_feed.2.1 22 = .ok (.invokevirtual 84, 3) := by decide +kernel
theorem d_Md_feed_25 : decode M_Md_feed.2.1 25 = .ok (.aload_n 0, 1) := by decide +kernel
theorem d_Md_feed_26 : decode M_Md_feed.2.1 26 = .ok (.iload_n 3, 1) := by decide +kernel
theorem d_Md_feed_27 : decode M_Md_feed.2.1 27 = .ok (.invokevirtual 84, 3) := by decide +kernel
theorem d_Md_feed_30 : decode M_Md_feed.2.1 30 = .ok (.aload_n 0, 1) := by decide +kernel
theorem d_Md_feed_31 : decode M_Md_feed.2.1 31 = .ok (.iload 4, 2) := by decide +kernel
theorem d_Md_feed_33 : decode M_Md_feed.2.1 33 = .ok (.invokevirtual 84, 3) := by decide +kernel
theorem d_Md_feed_36 : decode M_Md_feed.2.1 36 = .ok (.aload_n 0, 1) := by decide +kernel
theorem d_Md_feed_37 : decode M_Md_feed.2.1 37 = .ok (.iload 5, 2) := by decide +kernel
theorem d_Md_feed_39 : decode M_Md_feed.2.1 39 = .ok (.invokevirtual 84, 3) := by decide +kernel
theorem d_Md_feed_42 : decode M_Md_feed.2.1 42 = .ok (.aload_n 0, 1) := by decide +kernel
theorem d_Md_feed_43 : decode M_Md_feed.2.1 43 = .ok (.getfield 80, 3) := by decide +kernel
theorem d_Md_feed_46 : decode M_Md_feed.2.1 46 = .ok (.ireturn, 1) := by decide +kernel
def M_Md_lay : mj_M := (⟨"MarketTownModel", "lay", "(I)V"⟩, prog_13_method_20_code, 3, none, 0, 0)
theorem d_Md_lay_0 : decode M_Md_lay.2.1 0 = .ok (.iconst 3, 1) := by decide +kernel
theorem d_Md_lay_1 : decode M_Md_lay.2.1 1 = .ok (.istore_n 2, 1) := by decide +kernel
theorem d_Md_lay_2 : decode M_Md_lay.2.1 2 = .ok (.iload_n 2, 1) := by decide +kernel
theorem d_Md_lay_3 : decode M_Md_lay.2.1 3 = .ok (.ifCond .lt 38, 3) := by decide +kernel
theorem d_Md_lay_6 : decode M_Md_lay.2.1 6 = .ok (.aload_n 0, 1) := by decide +kernel
theorem d_Md_lay_7 : decode M_Md_lay.2.1 7 = .ok (.getfield 20, 3) := by decide +kernel
theorem d_Md_lay_10 : decode M_Md_lay.2.1 10 = .ok (.aload_n 0, 1) := by decide +kernel
theorem d_Md_lay_11 : decode M_Md_lay.2.1 11 = .ok (.getfield 80, 3) := by decide +kernel
theorem d_Md_lay_14 : decode M_Md_lay.2.1 14 = .ok (.iload_n 1, 1) := by decide +kernel
theorem d_Md_lay_15 : decode M_Md_lay.2.1 15 = .ok (.bipush 8, 2) := by decide +kernel
theorem d_Md_lay_17 : decode M_Md_lay.2.1 17 = .ok (.iload_n 2, 1) := by decide +kernel
theorem d_Md_lay_18 : decode M_Md_lay.2.1 18 = .ok (.imul, 1) := by decide +kernel
theorem d_Md_lay_19 : decode M_Md_lay.2.1 19 = .ok (.ishr, 1) := by decide +kernel
theorem d_Md_lay_20 : decode M_Md_lay.2.1 20 = .ok (.sipush 255, 3) := by decide +kernel
theorem d_Md_lay_23 : decode M_Md_lay.2.1 23 = .ok (.iand, 1) := by decide +kernel
theorem d_Md_lay_24 : decode M_Md_lay.2.1 24 = .ok (.iastore, 1) := by decide +kernel
theorem d_Md_lay_25 : decode M_Md_lay.2.1 25 = .ok (.aload_n 0, 1) := by decide +kernel
theorem d_Md_lay_26 : decode M_Md_lay.2.1 26 = .ok (.dup, 1) := by decide +kernel
theorem d_Md_lay_27 : decode M_Md_lay.2.1 27 = .ok (.getfield 80, 3) := by decide +kernel
theorem d_Md_lay_30 : decode M_Md_lay.2.1 30 = .ok (.iconst 1, 1) := by decide +kernel
theorem d_Md_lay_31 : decode M_Md_lay.2.1 31 = .ok (.iadd, 1) := by decide +kernel
theorem d_Md_lay_32 : decode M_Md_lay.2.1 32 = .ok (.putfield 80, 3) := by decide +kernel
theorem d_Md_lay_35 : decode M_Md_lay.2.1 35 = .ok (.iinc 2 (-1), 3) := by decide +kernel
theorem d_Md_lay_38 : decode M_Md_lay.2.1 38 = .ok (.goto (-36), 3) := by decide +kernel
theorem d_Md_lay_41 : decode M_Md_lay.2.1 41 = .ok (.return_, 1) := by decide +kernel
def M_Md_trim : mj_M := (⟨"MarketTownModel", "trim", "(I)I"⟩, prog_13_method_22_code, 2, some .int, 1, 22)
theorem d_Md_trim_0 : decode M_Md_trim.2.1 0 = .ok (.iload_n 1, 1) := by decide +kernel
theorem d_Md_trim_1 : decode M_Md_trim.2.1 1 = .ok (.iconst 0, 1) := by decide +kernel
theorem d_Md_trim_2 : decode M_Md_trim.2.1 2 = .ok (.aload_n 0, 1) := by decide +kernel
theorem d_Md_trim_3 : decode M_Md_trim.2.1 3 = .ok (.getfield 80, 3) := by decide +kernel
theorem d_Md_trim_6 : decode M_Md_trim.2.1 6 = .ok (.invokestatic 53, 3) := by decide +kernel
theorem d_Md_trim_9 : decode M_Md_trim.2.1 9 = .ok (.ifCond .ne 6, 3) := by decide +kernel
theorem d_Md_trim_12 : decode M_Md_trim.2.1 12 = .ok (.ldc 66, 2) := by decide +kernel
theorem d_Md_trim_14 : decode M_Md_trim.2.1 14 = .ok (.ireturn, 1) := by decide +kernel
theorem d_Md_trim_15 : decode M_Md_trim.2.1 15 = .ok (.aload_n 0, 1) := by decide +kernel
theorem d_Md_trim_16 : decode M_Md_trim.2.1 16 = .ok (.iload_n 1, 1) := by decide +kernel
theorem d_Md_trim_17 : decode M_Md_trim.2.1 17 = .ok (.putfield 80, 3) := by decide +kernel
theorem d_Md_trim_20 : decode M_Md_trim.2.1 20 = .ok (.iload_n 1, 1) := by decide +kernel
theorem d_Md_trim_21 : decode M_Md_trim.2.1 21 = .ok (.ireturn, 1) := by decide +kernel
def M_Md_rule : mj_M := (⟨"MarketTownModel", "rule", "(I)I"⟩, prog_13_method_31_code, 5, some .int, 4, 92)
theorem d_Md_rule_0 : decode M_Md_rule.2.1 0 = .ok (.aload_n 0, 1) := by decide +kernel
theorem d_Md_rule_1 : decode M_Md_rule.2.1 1 = .ok (.aload_n 0, 1) := by decide +kernel
theorem d_Md_rule_2 : decode M_Md_rule.2.1 2 = .ok (.getfield 80, 3) := by decide +kernel
theorem d_Md_rule_5 : decode M_Md_rule.2.1 5 = .ok (.putfield 94, 3) := by decide +kernel
theorem d_Md_rule_8 : decode M_Md_rule.2.1 8 = .ok (.aload_n 0, 1) := by decide +kernel
theorem d_Md_rule_9 : decode M_Md_rule.2.1 9 = .ok (.iconst 0, 1) := by decide +kernel
theorem d_Md_rule_10 : decode M_Md_rule.2.1 10 = .ok (.putfield 80, 3) := by decide +kernel
theorem d_Md_rule_13 : decode M_Md_rule.2.1 13 = .ok (.aload_n 0, 1) := by decide +kernel
theorem d_Md_rule_14 : decode M_Md_rule.2.1 14 = .ok (.iload_n 1, 1) := by decide +kernel
theorem d_Md_rule_15 : decode M_Md_rule.2.1 15 = .ok (.invokevirtual 69, 3) := by decide +kernel
theorem d_Md_rule_18 : decode M_Md_rule.2.1 18 = .ok (.ifCond .ne 6, 3) := by decide +kernel
theorem d_Md_rule_21 : decode M_Md_rule.2.1 21 = .ok (.ldc 66, 2) := by decide +kernel
theorem d_Md_rule_23 : decode M_Md_rule.2.1 23 = .ok (.ireturn, 1) := by decide +kernel
theorem d_Md_rule_24 : decode M_Md_rule.2.1 24 = .ok (.aload_n 0, 1) := by decide +kernel
theorem d_Md_rule_25 : decode M_Md_rule.2.1 25 = .ok (.iload_n 1, 1) := by decide +kernel
theorem d_Md_rule_26 : decode M_Md_rule.2.1 26 = .ok (.invokevirtual 126, 3) := by decide +kernel
theorem d_Md_rule_29 : decode M_Md_rule.2.1 29 = .ok (.istore_n 2, 1) := by decide +kernel
theorem d_Md_rule_30 : decode M_Md_rule.2.1 30 = .ok (.iload_n 2, 1) := by decide +kernel
theorem d_Md_rule_31 : decode M_Md_rule.2.1 31 = .ok (.ifCond .lt 8, 3) := by decide +kernel
theorem d_Md_rule_34 : decode M_Md_rule.2.1 34 = .ok (.bipush (-100), 2) := by decide +kernel
theorem d_Md_rule_36 : decode M_Md_rule.2.1 36 = .ok (.iload_n 2, 1) := by decide +kernel
theorem d_Md_rule_37 : decode M_Md_rule.2.1 37 = .ok (.isub, 1) := by decide +kernel
theorem d_Md_rule_38 : decode M_Md_rule.2.1 38 = .ok (.ireturn, 1) := by decide +kernel
theorem d_Md_rule_39 : decode M_Md_rule.2.1 39 = .ok (.aload_n 0, 1) := by decide +kernel
theorem d_Md_rule_40 : decode M_Md_rule.2.1 40 = .ok (.iload_n 1, 1) := by decide +kernel
theorem d_Md_rule_41 : decode M_Md_rule.2.1 41 = .ok (.invokevirtual 129, 3) := by decide +kernel
theorem d_Md_rule_44 : decode M_Md_rule.2.1 44 = .ok (.istore_n 3, 1) := by decide +kernel
theorem d_Md_rule_45 : decode M_Md_rule.2.1 45 = .ok (.iload_n 3, 1) := by decide +kernel
theorem d_Md_rule_46 : decode M_Md_rule.2.1 46 = .ok (.bipush 6, 2) := by decide +kernel
theorem d_Md_rule_48 : decode M_Md_rule.2.1 48 = .ok (.if_icmp .ne 6, 3) := by decide +kernel
theorem d_Md_rule_51 : decode M_Md_rule.2.1 51 = .ok (.ldc 67, 2) := by decide +kernel
theorem d_Md_rule_53 : decode M_Md_rule.2.1 53 = .ok (.ireturn, 1) := by decide +kernel
theorem d_Md_rule_54 : decode M_Md_rule.2.1 54 = .ok (.iconst 0, 1) := by decide +kernel
theorem d_Md_rule_55 : decode M_Md_rule.2.1 55 = .ok (.istore 4, 2) := by decide +kernel
theorem d_Md_rule_57 : decode M_Md_rule.2.1 57 = .ok (.iload 4, 2) := by decide +kernel
theorem d_Md_rule_59 : decode M_Md_rule.2.1 59 = .ok (.bipush 9, 2) := by decide +kernel
theorem d_Md_rule_61 : decode M_Md_rule.2.1 61 = .ok (.if_icmp .ge 37, 3) := by decide +kernel
theorem d_Md_rule_64 : decode M_Md_rule.2.1 64 = .ok (.aload_n 0, 1) := by decide +kernel
theorem d_Md_rule_65 : decode M_Md_rule.2.1 65 = .ok (.getfield 7, 3) := by decide +kernel
theorem d_Md_rule_68 : decode M_Md_rule.2.1 68 = .ok (.sipush 660, 3) := by decide +kernel
theorem d_Md_rule_71 : decode M_Md_rule.2.1 71 = .ok (.bipush 9, 2) := by decide +kernel
theorem d_Md_rule_73 : decode M_Md_rule.2.1 73 = .ok (.bipush 6, 2) := by decide +kernel
theorem d_Md_rule_75 : decode M_Md_rule.2.1 75 = .ok (.iload_n 1, 1) := by decide +kernel
theorem d_Md_rule_76 : decode M_Md_rule.2.1 76 = .ok (.imul, 1) := by decide +kernel
theorem d_Md_rule_77 : decode M_Md_rule.2.1 77 = .ok (.iload_n 3, 1) := by decide +kernel
theorem d_Md_rule_78 : decode M_Md_rule.2.1 78 = .ok (.iadd, 1) := by decide +kernel
theorem d_Md_rule_79 : decode M_Md_rule.2.1 79 = .ok (.imul, 1) := by decide +kernel
theorem d_Md_rule_80 : decode M_Md_rule.2.1 80 = .ok (.iadd, 1) := by decide +kernel
theorem d_Md_rule_81 : decode M_Md_rule.2.1 81 = .ok (.iload 4, 2) := by decide +kernel
theorem d_Md_rule_83 : decode M_Md_rule.2.1 83 = .ok (.iadd, 1) := by decide +kernel
theorem d_Md_rule_84 : decode M_Md_rule.2.1 84 = .ok (.aload_n 0, 1) := by decide +kernel
theorem d_Md_rule_85 : decode M_Md_rule.2.1 85 = .ok (.getfield 41, 3) := by decide +kernel
theorem d_Md_rule_88 : decode M_Md_rule.2.1 88 = .ok (.iload 4, 2) := by decide +kernel
theorem d_Md_rule_90 : decode M_Md_rule.2.1 90 = .ok (.iaload, 1) := by decide +kernel
theorem d_Md_rule_91 : decode M_Md_rule.2.1 91 = .ok (.iastore, 1) := by decide +kernel
theorem d_Md_rule_92 : decode M_Md_rule.2.1 92 = .ok (.iinc 4 1, 3) := by decide +kernel
theorem d_Md_rule_95 : decode M_Md_rule.2.1 95 = .ok (.goto (-38), 3) := by decide +kernel
theorem d_Md_rule_98 : decode M_Md_rule.2.1 98 = .ok (.aload_n 0, 1) := by decide +kernel
theorem d_Md_rule_99 : decode M_Md_rule.2.1 99 = .ok (.getfield 7, 3) := by decide +kernel
theorem d_Md_rule_102 : decode M_Md_rule.2.1 102 = .ok (.iconst 0, 1) := by decide +kernel
theorem d_Md_rule_103 : decode M_Md_rule.2.1 103 = .ok (.iconst 5, 1) := by decide +kernel
theorem d_Md_rule_104 : decode M_Md_rule.2.1 104 = .ok (.iload_n 1, 1) := by decide +kernel
theorem d_Md_rule_105 : decode M_Md_rule.2.1 105 = .ok (.imul, 1) := by decide +kernel
theorem d_Md_rule_106 : decode M_Md_rule.2.1 106 = .ok (.iadd, 1) := by decide +kernel
theorem d_Md_rule_107 : decode M_Md_rule.2.1 107 = .ok (.iconst 4, 1) := by decide +kernel
theorem d_Md_rule_108 : decode M_Md_rule.2.1 108 = .ok (.iadd, 1) := by decide +kernel
theorem d_Md_rule_109 : decode M_Md_rule.2.1 109 = .ok (.dup2, 1) := by decide +kernel
theorem d_Md_rule_110 : decode M_Md_rule.2.1 110 = .ok (.iaload, 1) := by decide +kernel
theorem d_Md_rule_111 : decode M_Md_rule.2.1 111 = .ok (.iconst 1, 1) := by decide +kernel
theorem d_Md_rule_112 : decode M_Md_rule.2.1 112 = .ok (.iadd, 1) := by decide +kernel
theorem d_Md_rule_113 : decode M_Md_rule.2.1 113 = .ok (.iastore, 1) := by decide +kernel
theorem d_Md_rule_114 : decode M_Md_rule.2.1 114 = .ok (.iload_n 3, 1) := by decide +kernel
theorem d_Md_rule_115 : decode M_Md_rule.2.1 115 = .ok (.ireturn, 1) := by decide +kernel
def M_Md_read : mj_M := (⟨"MarketTownModel", "read", "(I)I"⟩, prog_13_method_30_code, 3, some .int, 3, 70)
theorem d_Md_read_0 : decode M_Md_read.2.1 0 = .ok (.aload_n 0, 1) := by decide +kernel
theorem d_Md_read_1 : decode M_Md_read.2.1 1 = .ok (.iconst (-1), 1) := by decide +kernel
theorem d_Md_read_2 : decode M_Md_read.2.1 2 = .ok (.putfield 100, 3) := by decide +kernel
theorem d_Md_read_5 : decode M_Md_read.2.1 5 = .ok (.aload_n 0, 1) := by decide +kernel
theorem d_Md_read_6 : decode M_Md_read.2.1 6 = .ok (.iconst 0, 1) := by decide +kernel
theorem d_Md_read_7 : decode M_Md_read.2.1 7 = .ok (.putfield 88, 3) := by decide +kernel
theorem d_Md_read_10 : decode M_Md_read.2.1 10 = .ok (.iconst 0, 1) := by decide +kernel
theorem d_Md_read_11 : decode M_Md_read.2.1 11 = .ok (.istore_n 2, 1) := by decide +kernel
theorem d_Md_read_12 : decode M_Md_read.2.1 12 = .ok (.iload_n 2, 1) := by decide +kernel
theorem d_Md_read_13 : decode M_Md_read.2.1 13 = .ok (.bipush 9, 2) := by decide +kernel
theorem d_Md_read_15 : decode M_Md_read.2.1 15 = .ok (.if_icmp .ge 31, 3) := by decide +kernel
theorem d_Md_read_18 : decode M_Md_read.2.1 18 = .ok (.aload_n 0, 1) := by decide +kernel
theorem d_Md_read_19 : decode M_Md_read.2.1 19 = .ok (.getfield 41, 3) := by decide +kernel
theorem d_Md_read_22 : decode M_Md_read.2.1 22 = .ok (.iload_n 2, 1) := by decide +kernel
theorem d_Md_read_23 : decode M_Md_read.2.1 23 = .ok (.iload_n 2, 1) := by decide +kernel
theorem d_Md_read_24 : decode M_Md_read.2.1 24 = .ok (.ifCond .le 14, 3) := by decide +kernel
theorem d_Md_read_27 : decode M_Md_read.2.1 27 = .ok (.iload_n 2, 1) := by decide +kernel
theorem d_Md_read_28 : decode M_Md_read.2.1 28 = .ok (.bipush 8, 2) := by decide +kernel
theorem d_Md_read_30 : decode M_Md_read.2.1 30 = .ok (.if_icmp .ge 8, 3) := by decide +kernel
theorem d_Md_read_33 : decode M_Md_read.2.1 33 = .ok (.ldc 68, 2) := by decide +kernel
theorem d_Md_read_35 : decode M_Md_read.2.1 35 = .ok (.goto 4, 3) := by decide +kernel
theorem d_Md_read_38 : decode M_Md_read.2.1 38 = .ok (.iconst 0, 1) := by decide +kernel
theorem d_Md_read_39 : decode M_Md_read.2.1 39 = .ok (.iastore, 1) := by decide +kernel
theorem d_Md_read_40 : decode M_Md_read.2.1 40 = .ok (.iinc 2 1, 3) := by decide +kernel
theorem d_Md_read_43 : decode M_Md_read.2.1 43 = .ok (.goto (-31), 3) := by decide +kernel
theorem d_Md_read_46 : decode M_Md_read.2.1 46 = .ok (.aload_n 0, 1) := by decide +kernel
theorem d_Md_read_47 : decode M_Md_read.2.1 47 = .ok (.getfield 41, 3) := by decide +kernel
theorem d_Md_read_50 : decode M_Md_read.2.1 50 = .ok (.iconst 4, 1) := by decide +kernel
theorem d_Md_read_51 : decode M_Md_read.2.1 51 = .ok (.iconst 1, 1) := by decide +kernel
theorem d_Md_read_52 : decode M_Md_read.2.1 52 = .ok (.iastore, 1) := by decide +kernel
theorem d_Md_read_53 : decode M_Md_read.2.1 53 = .ok (.aload_n 0, 1) := by decide +kernel
theorem d_Md_read_54 : decode M_Md_read.2.1 54 = .ok (.invokevirtual 106, 3) := by decide +kernel
theorem d_Md_read_57 : decode M_Md_read.2.1 57 = .ok (.aload_n 0, 1) := by decide +kernel
theorem d_Md_read_58 : decode M_Md_read.2.1 58 = .ok (.bipush 101, 2) := by decide +kernel
theorem d_Md_read_60 : decode M_Md_read.2.1 60 = .ok (.bipush 118, 2) := by decide +kernel
theorem d_Md_read_62 : decode M_Md_read.2.1 62 = .ok (.bipush 101, 2) := by decide +kernel
theorem d_Md_read_64 : decode M_Md_read.2.1 64 = .ok (.bipush 114, 2) := by decide +kernel
theorem d_Md_read_66 : decode M_Md_read.2.1 66 = .ok (.bipush 121, 2) := by decide +kernel
theorem d_Md_read_68 : decode M_Md_read.2.1 68 = .ok (.invokevirtual 109, 3) := by decide +kernel
theorem d_Md_read_71 : decode M_Md_read.2.1 71 = .ok (.ifCond .eq 20, 3) := by decide +kernel
theorem d_Md_read_74 : decode M_Md_read.2.1 74 = .ok (.aload_n 0, 1) := by decide +kernel
theorem d_Md_read_75 : decode M_Md_read.2.1 75 = .ok (.invokevirtual 106, 3) := by decide +kernel
theorem d_Md_read_78 : decode M_Md_read.2.1 78 = .ok (.aload_n 0, 1) := by decide +kernel
theorem d_Md_read_79 : decode M_Md_read.2.1 79 = .ok (.getfield 41, 3) := by decide +kernel
theorem d_Md_read_82 : decode M_Md_read.2.1 82 = .ok (.iconst 4, 1) := by decide +kernel
theorem d_Md_read_83 : decode M_Md_read.2.1 83 = .ok (.aload_n 0, 1) := by decide +kernel
theorem d_Md_read_84 : decode M_Md_read.2.1 84 = .ok (.iconst 1, 1) := by decide +kernel
theorem d_Md_read_85 : decode M_Md_read.2.1 85 = .ok (.bipush 99, 2) := by decide +kernel
theorem d_Md_read_87 : decode M_Md_read.2.1 87 = .ok (.invokevirtual 113, 3) := by decide +kernel
theorem d_Md_read_90 : decode M_Md_read.2.1 90 = .ok (.iastore, 1) := by decide +kernel
theorem d_Md_read_91 : decode M_Md_read.2.1 91 = .ok (.aload_n 0, 1) := by decide +kernel
theorem d_Md_read_92 : decode M_Md_read.2.1 92 = .ok (.getfield 100, 3) := by decide +kernel
theorem d_Md_read_95 : decode M_Md_read.2.1 95 = .ok (.ifCond .ge 25, 3) := by decide +kernel
theorem d_Md_read_98 : decode M_Md_read.2.1 98 = .ok (.aload_n 0, 1) := by decide +kernel
theorem d_Md_read_99 : decode M_Md_read.2.1 99 = .ok (.bipush 105, 2) := by decide +kernel
theorem d_Md_read_101 : decode M_Md_read.2.1 101 = .ok (.bipush 102, 2) := by decide +kernel
theorem d_Md_read_103 : decode M_Md_read.2.1 103 = .ok (.iconst 0, 1) := by decide +kernel
theorem d_Md_read_104 : decode M_Md_read.2.1 104 = .ok (.iconst 0, 1) := by decide +kernel
theorem d_Md_read_105 : decode M_Md_read.2.1 105 = .ok (.iconst 0, 1) := by decide +kernel
theorem d_Md_read_106 : decode M_Md_read.2.1 106 = .ok (.invokevirtual 109, 3) := by decide +kernel
theorem d_Md_read_109 : decode M_Md_read.2.1 109 = .ok (.ifCond .eq 11, 3) := by decide +kernel
theorem d_Md_read_112 : decode M_Md_read.2.1 112 = .ok (.aload_n 0, 1) := by decide +kernel
theorem d_Md_read_113 : decode M_Md_read.2.1 113 = .ok (.invokevirtual 106, 3) := by decide +kernel
theorem d_Md_read_116 : decode M_Md_read.2.1 116 = .ok (.aload_n 0, 1) := by decide +kernel
theorem d_Md_read_117 : decode M_Md_read.2.1 117 = .ok (.invokevirtual 120, 3) := by decide +kernel
theorem d_Md_read_120 : decode M_Md_read.2.1 120 = .ok (.aload_n 0, 1) := by decide +kernel
theorem d_Md_read_121 : decode M_Md_read.2.1 121 = .ok (.getfield 100, 3) := by decide +kernel
theorem d_Md_read_124 : decode M_Md_read.2.1 124 = .ok (.ifCond .ge 8, 3) := by decide +kernel
theorem d_Md_read_127 : decode M_Md_read.2.1 127 = .ok (.aload_n 0, 1) := by decide +kernel
theorem d_Md_read_128 : decode M_Md_read.2.1 128 = .ok (.iload_n 1, 1) := by decide +kernel
theorem d_Md_read_129 : decode M_Md_read.2.1 129 = .ok (.invokevirtual 123, 3) := by decide +kernel
theorem d_Md_read_132 : decode M_Md_read.2.1 132 = .ok (.aload_n 0, 1) := by decide +kernel
theorem d_Md_read_133 : decode M_Md_read.2.1 133 = .ok (.getfield 100, 3) := by decide +kernel
theorem d_Md_read_136 : decode M_Md_read.2.1 136 = .ok (.ifCond .ge 18, 3) := by decide +kernel
theorem d_Md_read_139 : decode M_Md_read.2.1 139 = .ok (.aload_n 0, 1) := by decide +kernel
theorem d_Md_read_140 : decode M_Md_read.2.1 140 = .ok (.getfield 97, 3) := by decide +kernel
theorem d_Md_read_143 : decode M_Md_read.2.1 143 = .ok (.aload_n 0, 1) := by decide +kernel
theorem d_Md_read_144 : decode M_Md_read.2.1 144 = .ok (.getfield 94, 3) := by decide +kernel
theorem d_Md_read_147 : decode M_Md_read.2.1 147 = .ok (.if_icmp .ge 7, 3) := by decide +kernel
theorem d_Md_read_150 : decode M_Md_read.2.1 150 = .ok (.aload_n 0, 1) := by decide +kernel
theorem d_Md_read_151 : decode M_Md_read.2.1 151 = .ok (.invokevirtual 103, 3) := by decide +kernel
theorem d_Md_read_154 : decode M_Md_read.2.1 154 = .ok (.aload_n 0, 1) := by decide +kernel
theorem d_Md_read_155 : decode M_Md_read.2.1 155 = .ok (.getfield 100, 3) := by decide +kernel
theorem d_Md_read_158 : decode M_Md_read.2.1 158 = .ok (.ireturn, 1) := by decide +kernel
def M_Md_next : mj_M := (⟨"MarketTownModel", "next", "()V"⟩, prog_13_method_23_code, 1, none, 0, 0)
theorem d_Md_next_0 : decode M_Md_next.2.1 0 = .ok (.aload_n 0, 1) := by decide +kernel
theorem d_Md_next_1 : decode M_Md_next.2.1 1 = .ok (.aload_n 0, 1) := by decide +kernel
theorem d_Md_next_2 : decode M_Md_next.2.1 2 = .ok (.getfield 88, 3) := by decide +kernel
theorem d_Md_next_5 : decode M_Md_next.2.1 5 = .ok (.putfield 91, 3) := by decide +kernel
theorem d_Md_next_8 : decode M_Md_next.2.1 8 = .ok (.aload_n 0, 1) := by decide +kernel
theorem d_Md_next_9 : decode M_Md_next.2.1 9 = .ok (.getfield 91, 3) := by decide +kernel
theorem d_Md_next_12 : decode M_Md_next.2.1 12 = .ok (.aload_n 0, 1) := by decide +kernel
theorem d_Md_next_13 : decode M_Md_next.2.1 13 = .ok (.getfield 94, 3) := by decide +kernel
theorem d_Md_next_16 : decode M_Md_next.2.1 16 = .ok (.if_icmp .ge 30, 3) := by decide +kernel
theorem d_Md_next_19 : decode M_Md_next.2.1 19 = .ok (.aload_n 0, 1) := by decide +kernel
theorem d_Md_next_20 : decode M_Md_next.2.1 20 = .ok (.getfield 20, 3) := by decide +kernel
theorem d_Md_next_23 : decode M_Md_next.2.1 23 = .ok (.aload_n 0, 1) := by decide +kernel
theorem d_Md_next_24 : decode M_Md_next.2.1 24 = .ok (.getfield 91, 3) := by decide +kernel
theorem d_Md_next_27 : decode M_Md_next.2.1 27 = .ok (.iaload, 1) := by decide +kernel
theorem d_Md_next_28 : decode M_Md_next.2.1 28 = .ok (.bipush 32, 2) := by decide +kernel
theorem d_Md_next_30 : decode M_Md_next.2.1 30 = .ok (.if_icmp .ne 16, 3) := by decide +kernel
theorem d_Md_next_33 : decode M_Md_next.2.1 33 = .ok (.aload_n 0, 1) := by decide +kernel
theorem d_Md_next_34 : decode M_Md_next.2.1 34 = .ok (.dup, 1) := by decide +kernel
theorem d_Md_next_35 : decode M_Md_next.2.1 35 = .ok (.getfield 91, 3) := by decide +kernel
theorem d_Md_next_38 : decode M_Md_next.2.1 38 = .ok (.iconst 1, 1) := by decide +kernel
theorem d_Md_next_39 : decode M_Md_next.2.1 39 = .ok (.iadd, 1) := by decide +kernel
theorem d_Md_next_40 : decode M_Md_next.2.1 40 = .ok (.putfield 91, 3) := by decide +kernel
theorem d_Md_next_43 : decode M_Md_next.2.1 43 = .ok (.goto (-35), 3) := by decide +kernel
theorem d_Md_next_46 : decode M_Md_next.2.1 46 = .ok (.aload_n 0, 1) := by decide +kernel
theorem d_Md_next_47 : decode M_Md_next.2.1 47 = .ok (.aload_n 0, 1) := by decide +kernel
theorem d_Md_next_48 : decode M_Md_next.2.1 48 = .ok (.getfield 91, 3) := by decide +kernel
theorem d_Md_next_51 : decode M_Md_next.2.1 51 = .ok (.putfield 97, 3) := by decide +kernel
theorem d_Md_next_54 : decode M_Md_next.2.1 54 = .ok (.aload_n 0, 1) := by decide +kernel
theorem d_Md_next_55 : decode M_Md_next.2.1 55 = .ok (.aload_n 0, 1) := by decide +kernel
theorem d_Md_next_56 : decode M_Md_next.2.1 56 = .ok (.getfield 91, 3) := by decide +kernel
theorem d_Md_next_59 : decode M_Md_next.2.1 59 = .ok (.putfield 88, 3) := by decide +kernel
theorem d_Md_next_62 : decode M_Md_next.2.1 62 = .ok (.aload_n 0, 1) := by decide +kernel
theorem d_Md_next_63 : decode M_Md_next.2.1 63 = .ok (.getfield 88, 3) := by decide +kernel
theorem d_Md_next_66 : decode M_Md_next.2.1 66 = .ok (.aload_n 0, 1) := by decide +kernel
theorem d_Md_next_67 : decode M_Md_next.2.1 67 = .ok (.getfield 94, 3) := by decide +kernel
theorem d_Md_next_70 : decode M_Md_next.2.1 70 = .ok (.if_icmp .ge 30, 3) := by decide +kernel
theorem d_Md_next_73 : decode M_Md_next.2.1 73 = .ok (.aload_n 0, 1) := by decide +kernel
theorem d_Md_next_74 : decode M_Md_next.2.1 74 = .ok (.getfield 20, 3) := by decide +kernel
theorem d_Md_next_77 : decode M_Md_next.2.1 77 = .ok (.aload_n 0, 1) := by decide +kernel
theorem d_Md_next_78 : decode M_Md_next.2.1 78 = .ok (.getfield 88, 3) := by decide +kernel
theorem d_Md_next_81 : decode M_Md_next.2.1 81 = .ok (.iaload, 1) := by decide +kernel
theorem d_Md_next_82 : decode M_Md_next.2.1 82 = .ok (.bipush 32, 2) := by decide +kernel
theorem d_Md_next_84 : decode M_Md_next.2.1 84 = .ok (.if_icmp .eq 16, 3) := by decide +kernel
theorem d_Md_next_87 : decode M_Md_next.2.1 87 = .ok (.aload_n 0, 1) := by decide +kernel
theorem d_Md_next_88 : decode M_Md_next.2.1 88 = .ok (.dup, 1) := by decide +kernel
theorem d_Md_next_89 : decode M_Md_next.2.1 89 = .ok (.getfield 88, 3) := by decide +kernel
theorem d_Md_next_92 : decode M_Md_next.2.1 92 = .ok (.iconst 1, 1) := by decide +kernel
theorem d_Md_next_93 : decode M_Md_next.2.1 93 = .ok (.iadd, 1) := by decide +kernel
theorem d_Md_next_94 : decode M_Md_next.2.1 94 = .ok (.putfield 88, 3) := by decide +kernel
theorem d_Md_next_97 : decode M_Md_next.2.1 97 = .ok (.goto (-35), 3) := by decide +kernel
theorem d_Md_next_100 : decode M_Md_next.2.1 100 = .ok (.aload_n 0, 1) := by decide +kernel
theorem d_Md_next_101 : decode M_Md_next.2.1 101 = .ok (.getfield 97, 3) := by decide +kernel
theorem d_Md_next_104 : decode M_Md_next.2.1 104 = .ok (.aload_n 0, 1) := by decide +kernel
theorem d_Md_next_105 : decode M_Md_next.2.1 105 = .ok (.getfield 88, 3) := by decide +kernel
theorem d_Md_next_108 : decode M_Md_next.2.1 108 = .ok (.if_icmp .ne 11, 3) := by decide +kernel
theorem d_Md_next_111 : decode M_Md_next.2.1 111 = .ok (.aload_n 0, 1) := by decide +kernel
theorem d_Md_next_112 : decode M_Md_next.2.1 112 = .ok (.aload_n 0, 1) := by decide +kernel
theorem d_Md_next_113 : decode M_Md_next.2.1 113 = .ok (.getfield 94, 3) := by decide +kernel
theorem d_Md_next_116 : decode M_Md_next.2.1 116 = .ok (.putfield 97, 3) := by decide +kernel
theorem d_Md_next_119 : decode M_Md_next.2.1 119 = .ok (.return_, 1) := by decide +kernel
def M_Md_reads : mj_M := (⟨"MarketTownModel", "reads", "(IIIII)Z"⟩, prog_13_method_24_code, 7, some .boolean, 0, 0)
theorem d_Md_reads_0 : decode M_Md_reads.2.1 0 = .ok (.iload 5, 2) := by decide +kernel
theorem d_Md_reads_2 : decode M_Md_reads.2.1 2 = .ok (.ifCond .eq 7, 3) := by decide +kernel
theorem d_Md_reads_5 : decode M_Md_reads.2.1 5 = .ok (.iconst 5, 1) := by decide +kernel
theorem d_Md_reads_6 : decode M_Md_reads.2.1 6 = .ok (.goto 29, 3) := by decide +kernel
theorem d_Md_reads_9 : decode M_Md_reads.2.1 9 = .ok (.iload 4, 2) := by decide +kernel
theorem d_Md_reads_11 : decode M_Md_reads.2.1 11 = .ok (.ifCond .eq 7, 3) := by decide +kernel
theorem d_Md_reads_14 : decode M_Md_reads.2.1 14 = .ok (.iconst 4, 1) := by decide +kernel
theorem d_Md_reads_15 : decode M_Md_reads.2.1 15 = .ok (.goto 20, 3) := by decide +kernel
theorem d_Md_reads_18 : decode M_Md_reads.2.1 18 = .ok (.iload_n 3, 1) := by decide +kernel
theorem d_Md_reads_19 : decode M_Md_reads.2.1 19 = .ok (.ifCond .eq 7, 3) := by decide +kernel
theorem d_Md_reads_22 : decode M_Md_reads.2.1 22 = .ok (.iconst 3, 1) := by decide +kernel
theorem d_Md_reads_23 : decode M_Md_reads.2.1 23 = .ok (.goto 12, 3) := by decide +kernel
theorem d_Md_reads_26 : decode M_Md_reads.2.1 26 = .ok (.iload_n 2, 1) := by decide +kernel
theorem d_Md_reads_27 : decode M_Md_reads.2.1 27 = .ok (.ifCond .eq 7, 3) := by decide +kernel
theorem d_Md_reads_30 : decode M_Md_reads.2.1 30 = .ok (.iconst 2, 1) := by decide +kernel
theorem d_Md_reads_31 : decode M_Md_reads.2.1 31 = .ok (.goto 4, 3) := by decide +kernel
theorem d_Md_reads_34 : decode M_Md_reads.2.1 34 = .ok (.iconst 1, 1) := by decide +kernel
theorem d_Md_reads_35 : decode M_Md_reads.2.1 35 = .ok (.istore 6, 2) := by decide +kernel
theorem d_Md_reads_37 : decode M_Md_reads.2.1 37 = .ok (.aload_n 0, 1) := by decide +kernel
theorem d_Md_reads_38 : decode M_Md_reads.2.1 38 = .ok (.getfield 97, 3) := by decide +kernel
theorem d_Md_reads_41 : decode M_Md_reads.2.1 41 = .ok (.aload_n 0, 1) := by decide +kernel
theorem d_Md_reads_42 : decode M_Md_reads.2.1 42 = .ok (.getfield 94, 3) := by decide +kernel
theorem d_Md_reads_45 : decode M_Md_reads.2.1 45 = .ok (.if_icmp .ge 30, 3) := by decide +kernel
theorem d_Md_reads_48 : decode M_Md_reads.2.1 48 = .ok (.aload_n 0, 1) := by decide +kernel
theorem d_Md_reads_49 : decode M_Md_reads.2.1 49 = .ok (.getfield 88, 3) := by decide +kernel
theorem d_Md_reads_52 : decode M_Md_reads.2.1 52 = .ok (.aload_n 0, 1) := by decide +kernel
theorem d_Md_reads_53 : decode M_Md_reads.2.1 53 = .ok (.getfield 97, 3) := by decide +kernel
theorem d_Md_reads_56 : decode M_Md_reads.2.1 56 = .ok (.isub, 1) := by decide +kernel
theorem d_Md_reads_57 : decode M_Md_reads.2.1 57 = .ok (.iload 6, 2) := by decide +kernel
theorem d_Md_reads_59 : decode M_Md_reads.2.1 59 = .ok (.if_icmp .ne 16, 3) := by decide +kernel
theorem d_Md_reads_62 : decode M_Md_reads.2.1 62 = .ok (.aload_n 0, 1) := by decide +kernel
theorem d_Md_reads_63 : decode M_Md_reads.2.1 63 = .ok (.getfield 20, 3) := by decide +kernel
theorem d_Md_reads_66 : decode M_Md_reads.2.1 66 = .ok (.aload_n 0, 1) := by decide +kernel
theorem d_Md_reads_67 : decode M_Md_reads.2.1 67 = .ok (.getfield 97, 3) := by decide +kernel
theorem d_Md_reads_70 : decode M_Md_reads.2.1 70 = .ok (.iaload, 1) := by decide +kernel
theorem d_Md_reads_71 : decode M_Md_reads.2.1 71 = .ok (.iload_n 1, 1) := by decide +kernel
theorem d_Md_reads_72 : decode M_Md_reads.2.1 72 = .ok (.if_icmp .eq 5, 3) := by decide +kernel
theorem d_Md_reads_75 : decode M_Md_reads.2.1 75 = .ok (.iconst 0, 1) := by decide +kernel
theorem d_Md_reads_76 : decode M_Md_reads.2.1 76 = .ok (.ireturn, 1) := by decide +kernel
theorem d_Md_reads_77 : decode M_Md_reads.2.1 77 = .ok (.iload 6, 2) := by decide +kernel
theorem d_Md_reads_79 : decode M_Md_reads.2.1 79 = .ok (.iconst 2, 1) := by decide +kernel
theorem d_Md_reads_80 : decode M_Md_reads.2.1 80 = .ok (.if_icmp .lt 18, 3) := by decide +kernel
theorem d_Md_reads_83 : decode M_Md_reads.2.1 83 = .ok (.aload_n 0, 1) := by decide +kernel
theorem d_Md_reads_84 : decode M_Md_reads.2.1 84 = .ok (.getfield 20, 3) := by decide +kernel
theorem d_Md_reads_87 : decode M_Md_reads.2.1 87 = .ok (.aload_n 0, 1) := by decide +kernel
theorem d_Md_reads_88 : decode M_Md_reads.2.1 88 = .ok (.getfield 97, 3) := by decide +kernel
theorem d_Md_reads_91 : decode M_Md_reads.2.1 91 = .ok (.iconst 1, 1) := by decide +kernel
theorem d_Md_reads_92 : decode M_Md_reads.2.1 92 = .ok (.iadd, 1) := by decide +kernel
theorem d_Md_reads_93 : decode M_Md_reads.2.1 93 = .ok (.iaload, 1) := by decide +kernel
theorem d_Md_reads_94 : decode M_Md_reads.2.1 94 = .ok (.iload_n 2, 1) := by decide +kernel
theorem d_Md_reads_95 : decode M_Md_reads.2.1 95 = .ok (.if_icmp .ne 72, 3) := by decide +kernel
theorem d_Md_reads_98 : decode M_Md_reads.2.1 98 = .ok (.iload 6, 2) := by decide +kernel
theorem d_Md_reads_100 : decode M_Md_reads.2.1 100 = .ok (.iconst 3, 1) := by decide +kernel
theorem d_Md_reads_101 : decode M_Md_reads.2.1 101 = .ok (.if_icmp .lt 18, 3) := by decide +kernel
theorem d_Md_reads_104 : decode M_Md_reads.2.1 104 = .ok (.aload_n 0, 1) := by decide +kernel
theorem d_Md_reads_105 : decode M_Md_reads.2.1 105 = .ok (.getfield 20, 3) := by decide +kernel
theorem d_Md_reads_108 : decode M_Md_reads.2.1 108 = .ok (.aload_n 0, 1) := by decide +kernel
theorem d_Md_reads_109 : decode M_Md_reads.2.1 109 = .ok (.getfield 97, 3) := by decide +kernel
theorem d_Md_reads_112 : decode M_Md_reads.2.1 112 = .ok (.iconst 2, 1) := by decide +kernel
theorem d_Md_reads_113 : decode M_Md_reads.2.1 113 = .ok (.iadd, 1) := by decide +kernel
theorem d_Md_reads_114 : decode M_Md_reads.2.1 114 = .ok (.iaload, 1) := by decide +kernel
theorem d_Md_reads_115 : decode M_Md_reads.2.1 115 = .ok (.iload_n 3, 1) := by decide +kernel
theorem d_Md_reads_116 : decode M_Md_reads.2.1 116 = .ok (.if_icmp .ne 51, 3) := by decide +kernel
theorem d_Md_reads_119 : decode M_Md_reads.2.1 119 = .ok (.iload 6, 2) := by decide +kernel
theorem d_Md_reads_121 : decode M_Md_reads.2.1 121 = .ok (.iconst 4, 1) := by decide +kernel
theorem d_Md_reads_122 : decode M_Md_reads.2.1 122 = .ok (.if_icmp .lt 19, 3) := by decide +kernel
theorem d_Md_reads_125 : decode M_Md_reads.2.1 125 = .ok (.aload_n 0, 1) := by decide +kernel
theorem d_Md_reads_126 : decode M_Md_reads.2.1 126 = .ok (.getfield 20, 3) := by decide +kernel
theorem d_Md_reads_129 : decode M_Md_reads.2.1 129 = .ok (.aload_n 0, 1) := by decide +kernel
theorem d_Md_reads_130 : decode M_Md_reads.2.1 130 = .ok (.getfield 97, 3) := by decide +kernel
theorem d_Md_reads_133 : decode M_Md_reads.2.1 133 = .ok (.iconst 3, 1) := by decide +kernel
theorem d_Md_reads_134 : decode M_Md_reads.2.1 134 = .ok (.iadd, 1) := by decide +kernel
theorem d_Md_reads_135 : decode M_Md_reads.2.1 135 = .ok (.iaload, 1) := by decide +kernel
theorem d_Md_reads_136 : decode M_Md_reads.2.1 136 = .ok (.iload 4, 2) := by decide +kernel
theorem d_Md_reads_138 : decode M_Md_reads.2.1 138 = .ok (.if_icmp .ne 29, 3) := by decide +kernel
theorem d_Md_reads_141 : decode M_Md_reads.2.1 141 = .ok (.iload 6, 2) := by decide +kernel
theorem d_Md_reads_143 : decode M_Md_reads.2.1 143 = .ok (.iconst 5, 1) := by decide +kernel
theorem d_Md_reads_144 : decode M_Md_reads.2.1 144 = .ok (.if_icmp .lt 19, 3) := by decide +kernel
theorem d_Md_reads_147 : decode M_Md_reads.2.1 147 = .ok (.aload_n 0, 1) := by decide +kernel
theorem d_Md_reads_148 : decode M_Md_reads.2.1 148 = .ok (.getfield 20, 3) := by decide +kernel
theorem d_Md_reads_151 : decode M_Md_reads.2.1 151 = .ok (.aload_n 0, 1) := by decide +kernel
theorem d_Md_reads_152 : decode M_Md_reads.2.1 152 = .ok (.getfield 97, 3) := by decide +kernel
theorem d_Md_reads_155 : decode M_Md_reads.2.1 155 = .ok (.iconst 4, 1) := by decide +kernel
theorem d_Md_reads_156 : decode M_Md_reads.2.1 156 = .ok (.iadd, 1) := by decide +kernel
theorem d_Md_reads_157 : decode M_Md_reads.2.1 157 = .ok (.iaload, 1) := by decide +kernel
theorem d_Md_reads_158 : decode M_Md_reads.2.1 158 = .ok (.iload 5, 2) := by decide +kernel
theorem d_Md_reads_160 : decode M_Md_reads.2.1 160 = .ok (.if_icmp .ne 7, 3) := by decide +kernel
theorem d_Md_reads_163 : decode M_Md_reads.2.1 163 = .ok (.iconst 1, 1) := by decide +kernel
theorem d_Md_reads_164 : decode M_Md_reads.2.1 164 = .ok (.goto 4, 3) := by decide +kernel
theorem d_Md_reads_167 : decode M_Md_reads.2.1 167 = .ok (.iconst 0, 1) := by decide +kernel
theorem d_Md_reads_168 : decode M_Md_reads.2.1 168 = .ok (.ireturn, 1) := by decide +kernel
def M_Md_number : mj_M := (⟨"MarketTownModel", "number", "(II)I"⟩, prog_13_method_26_code, 6, some .int, 1, 22)
theorem d_Md_number_0 : decode M_Md_number.2.1 0 = .ok (.iconst 0, 1) := by decide +kernel
theorem d_Md_number_1 : decode M_Md_number.2.1 1 = .ok (.istore_n 3, 1) := by decide +kernel
theorem d_Md_number_2 : decode M_Md_number.2.1 2 = .ok (.aload_n 0, 1) := by decide +kernel
theorem d_Md_number_3 : decode M_Md_number.2.1 3 = .ok (.getfield 97, 3) := by decide +kernel
theorem d_Md_number_6 : decode M_Md_number.2.1 6 = .ok (.aload_n 0, 1) := by decide +kernel
theorem d_Md_number_7 : decode M_Md_number.2.1 7 = .ok (.getfield 88, 3) := by decide +kernel
theorem d_Md_number_10 : decode M_Md_number.2.1 10 = .ok (.if_icmp .ge 7, 3) := by decide +kernel
theorem d_Md_number_13 : decode M_Md_number.2.1 13 = .ok (.iconst 1, 1) := by decide +kernel
theorem d_Md_number_14 : decode M_Md_number.2.1 14 = .ok (.goto 4, 3) := by decide +kernel
theorem d_Md_number_17 : decode M_Md_number.2.1 17 = .ok (.iconst 0, 1) := by decide +kernel
theorem d_Md_number_18 : decode M_Md_number.2.1 18 = .ok (.istore 4, 2) := by decide +kernel
theorem d_Md_number_20 : decode M_Md_number.2.1 20 = .ok (.aload_n 0, 1) := by decide +kernel
theorem d_Md_number_21 : decode M_Md_number.2.1 21 = .ok (.getfield 97, 3) := by decide +kernel
theorem d_Md_number_24 : decode M_Md_number.2.1 24 = .ok (.istore 5, 2) := by decide +kernel
theorem d_Md_number_26 : decode M_Md_number.2.1 26 = .ok (.iload 5, 2) := by decide +kernel
theorem d_Md_number_28 : decode M_Md_number.2.1 28 = .ok (.aload_n 0, 1) := by decide +kernel
theorem d_Md_number_29 : decode M_Md_number.2.1 29 = .ok (.getfield 88, 3) := by decide +kernel
theorem d_Md_number_32 : decode M_Md_number.2.1 32 = .ok (.if_icmp .ge 70, 3) := by decide +kernel
theorem d_Md_number_35 : decode M_Md_number.2.1 35 = .ok (.iload 4, 2) := by decide +kernel
theorem d_Md_number_37 : decode M_Md_number.2.1 37 = .ok (.ifCond .eq 24, 3) := by decide +kernel
theorem d_Md_number_40 : decode M_Md_number.2.1 40 = .ok (.aload_n 0, 1) := by decide +kernel
theorem d_Md_number_41 : decode M_Md_number.2.1 41 = .ok (.getfield 20, 3) := by decide +kernel
theorem d_Md_number_44 : decode M_Md_number.2.1 44 = .ok (.iload 5, 2) := by decide +kernel
theorem d_Md_number_46 : decode M_Md_number.2.1 46 = .ok (.iaload, 1) := by decide +kernel
theorem d_Md_number_47 : decode M_Md_number.2.1 47 = .ok (.bipush 48, 2) := by decide +kernel
theorem d_Md_number_49 : decode M_Md_number.2.1 49 = .ok (.bipush 57, 2) := by decide +kernel
theorem d_Md_number_51 : decode M_Md_number.2.1 51 = .ok (.invokestatic 53, 3) := by decide +kernel
theorem d_Md_number_54 : decode M_Md_number.2.1 54 = .ok (.ifCond .eq 7, 3) := by decide +kernel
theorem d_Md_number_57 : decode M_Md_number.2.1 57 = .ok (.iconst 1, 1) := by decide +kernel
theorem d_Md_number_58 : decode M_Md_number.2.1 58 = .ok (.goto 4, 3) := by decide +kernel
theorem d_Md_number_61 : decode M_Md_number.2.1 61 = .ok (.iconst 0, 1) := by decide +kernel
theorem d_Md_number_62 : decode M_Md_number.2.1 62 = .ok (.istore 4, 2) := by decide +kernel
theorem d_Md_number_64 : decode M_Md_number.2.1 64 = .ok (.iload 4, 2) := by decide +kernel
theorem d_Md_number_66 : decode M_Md_number.2.1 66 = .ok (.ifCond .eq 28, 3) := by decide +kernel
theorem d_Md_number_69 : decode M_Md_number.2.1 69 = .ok (.iload_n 3, 1) := by decide +kernel
theorem d_Md_number_70 : decode M_Md_number.2.1 70 = .ok (.sipush 9999, 3) := by decide +kernel
theorem d_Md_number_73 : decode M_Md_number.2.1 73 = .ok (.if_icmp .gt 21, 3) := by decide +kernel
theorem d_Md_number_76 : decode M_Md_number.2.1 76 = .ok (.bipush 10, 2) := by decide +kernel
theorem d_Md_number_78 : decode M_Md_number.2.1 78 = .ok (.iload_n 3, 1) := by decide +kernel
theorem d_Md_number_79 : decode M_Md_number.2.1 79 = .ok (.imul, 1) := by decide +kernel
theorem d_Md_number_80 : decode M_Md_number.2.1 80 = .ok (.aload_n 0, 1) := by decide +kernel
theorem d_Md_number_81 : decode M_Md_number.2.1 81 = .ok (.getfield 20, 3) := by decide +kernel
theorem d_Md_number_84 : decode M_Md_number.2.1 84 = .ok (.iload 5, 2) := by decide +kernel
theorem d_Md_number_86 : decode M_Md_number.2.1 86 = .ok (.iaload, 1) := by decide +kernel
theorem d_Md_number_87 : decode M_Md_number.2.1 87 = .ok (.iadd, 1) := by decide +kernel
theorem d_Md_number_88 : decode M_Md_number.2.1 88 = .ok (.bipush 48, 2) := by decide +kernel
theorem d_Md_number_90 : decode M_Md_number.2.1 90 = .ok (.isub, 1) := by decide +kernel
theorem d_Md_number_91 : decode M_Md_number.2.1 91 = .ok (.goto 4, 3) := by decide +kernel
theorem d_Md_number_94 : decode M_Md_number.2.1 94 = .ok (.iload_n 3, 1) := by decide +kernel
theorem d_Md_number_95 : decode M_Md_number.2.1 95 = .ok (.istore_n 3, 1) := by decide +kernel
theorem d_Md_number_96 : decode M_Md_number.2.1 96 = .ok (.iinc 5 1, 3) := by decide +kernel
theorem d_Md_number_99 : decode M_Md_number.2.1 99 = .ok (.goto (-73), 3) := by decide +kernel
theorem d_Md_number_102 : decode M_Md_number.2.1 102 = .ok (.iload 4, 2) := by decide +kernel
theorem d_Md_number_104 : decode M_Md_number.2.1 104 = .ok (.ifCond .eq 13, 3) := by decide +kernel
theorem d_Md_number_107 : decode M_Md_number.2.1 107 = .ok (.iload_n 3, 1) := by decide +kernel
theorem d_Md_number_108 : decode M_Md_number.2.1 108 = .ok (.iload_n 1, 1) := by decide +kernel
theorem d_Md_number_109 : decode M_Md_number.2.1 109 = .ok (.if_icmp .lt 8, 3) := by decide +kernel
theorem d_Md_number_112 : decode M_Md_number.2.1 112 = .ok (.iload_n 3, 1) := by decide +kernel
theorem d_Md_number_113 : decode M_Md_number.2.1 113 = .ok (.iload_n 2, 1) := by decide +kernel
theorem d_Md_number_114 : decode M_Md_number.2.1 114 = .ok (.if_icmp .le 9, 3) := by decide +kernel
theorem d_Md_number_117 : decode M_Md_number.2.1 117 = .ok (.aload_n 0, 1) := by decide +kernel
theorem d_Md_number_118 : decode M_Md_number.2.1 118 = .ok (.invokevirtual 103, 3) := by decide +kernel
theorem d_Md_number_121 : decode M_Md_number.2.1 121 = .ok (.iconst 0, 1) := by decide +kernel
theorem d_Md_number_122 : decode M_Md_number.2.1 122 = .ok (.ireturn, 1) := by decide +kernel
theorem d_Md_number_123 : decode M_Md_number.2.1 123 = .ok (.aload_n 0, 1) := by decide +kernel
theorem d_Md_number_124 : decode M_Md_number.2.1 124 = .ok (.invokevirtual 106, 3) := by decide +kernel
theorem d_Md_number_127 : decode M_Md_number.2.1 127 = .ok (.iload_n 3, 1) := by decide +kernel
theorem d_Md_number_128 : decode M_Md_number.2.1 128 = .ok (.ireturn, 1) := by decide +kernel
def M_Md_fail : mj_M := (⟨"MarketTownModel", "fail", "()V"⟩, prog_13_method_25_code, 1, none, 0, 0)
theorem d_Md_fail_0 : decode M_Md_fail.2.1 0 = .ok (.aload_n 0, 1) := by decide +kernel
theorem d_Md_fail_1 : decode M_Md_fail.2.1 1 = .ok (.aload_n 0, 1) := by decide +kernel
theorem d_Md_fail_2 : decode M_Md_fail.2.1 2 = .ok (.getfield 100, 3) := by decide +kernel
theorem d_Md_fail_5 : decode M_Md_fail.2.1 5 = .ok (.ifCond .ge 10, 3) := by decide +kernel
theorem d_Md_fail_8 : decode M_Md_fail.2.1 8 = .ok (.aload_n 0, 1) := by decide +kernel
theorem d_Md_fail_9 : decode M_Md_fail.2.1 9 = .ok (.getfield 97, 3) := by decide +kernel
theorem d_Md_fail_12 : decode M_Md_fail.2.1 12 = .ok (.goto 7, 3) := by decide +kernel
theorem d_Md_fail_15 : decode M_Md_fail.2.1 15 = .ok (.aload_n 0, 1) := by decide +kernel
theorem d_Md_fail_16 : decode M_Md_fail.2.1 16 = .ok (.getfield 100, 3) := by decide +kernel
theorem d_Md_fail_19 : decode M_Md_fail.2.1 19 = .ok (.putfield 100, 3) := by decide +kernel
theorem d_Md_fail_22 : decode M_Md_fail.2.1 22 = .ok (.return_, 1) := by decide +kernel
def M_Md_readCond : mj_M := (⟨"MarketTownModel", "readCond", "()V"⟩, prog_13_method_27_code, 3, none, 2, 47)
theorem d_Md_readCond_0 : decode M_Md_readCond.2.1 0 = .ok (.aload_n 0, 1) := by decide +kernel
theorem d_Md_readCond_1 : decode M_Md_readCond.2.1 1 = .ok (.bipush 104, 2) := by decide +kernel
theorem d_Md_readCond_3 : decode M_Md_readCond.2.1 3 = .ok (.bipush 97, 2) := by decide +kernel
theorem d_Md_readCond_5 : decode M_Md_readCond.2.1 5 = .ok (.bipush 118, 2) := by decide +kernel
theorem d_Md_readCond_7 : decode M_Md_readCond.2.1 7 = .ok (.bipush 101, 2) := by decide +kernel
theorem d_Md_readCond_9 : decode M_Md_readCond.2.1 9 = .ok (.iconst 0, 1) := by decide +kernel
theorem d_Md_readCond_10 : decode M_Md_readCond.2.1 10 = .ok (.invokevirtual 109, 3) := by decide +kernel
theorem d_Md_readCond_13 : decode M_Md_readCond.2.1 13 = .ok (.istore_n 1, 1) := by decide +kernel
theorem d_Md_readCond_14 : decode M_Md_readCond.2.1 14 = .ok (.aload_n 0, 1) := by decide +kernel
theorem d_Md_readCond_15 : decode M_Md_readCond.2.1 15 = .ok (.bipush 112, 2) := by decide +kernel
theorem d_Md_readCond_17 : decode M_Md_readCond.2.1 17 = .ok (.bipush 114, 2) := by decide +kernel
theorem d_Md_readCond_19 : decode M_Md_readCond.2.1 19 = .ok (.bipush 105, 2) := by decide +kernel
theorem d_Md_readCond_21 : decode M_Md_readCond.2.1 21 = .ok (.bipush 99, 2) := by decide +kernel
theorem d_Md_readCond_23 : decode M_Md_readCond.2.1 23 = .ok (.bipush 101, 2) := by decide +kernel
theorem d_Md_readCond_25 : decode M_Md_readCond.2.1 25 = .ok (.invokevirtual 109, 3) := by decide +kernel
theorem d_Md_readCond_28 : decode M_Md_readCond.2.1 28 = .ok (.istore_n 2, 1) := by decide +kernel
theorem d_Md_readCond_29 : decode M_Md_readCond.2.1 29 = .ok (.aload_n 0, 1) := by decide +kernel
theorem d_Md_readCond_30 : decode M_Md_readCond.2.1 30 = .ok (.getfield 41, 3) := by decide +kernel
theorem d_Md_readCond_33 : decode M_Md_readCond.2.1 33 = .ok (.iconst 5, 1) := by decide +kernel
theorem d_Md_readCond_34 : decode M_Md_readCond.2.1 34 = .ok (.aload_n 0, 1) := by decide +kernel
theorem d_Md_readCond_35 : decode M_Md_readCond.2.1 35 = .ok (.bipush 99, 2) := by decide +kernel
theorem d_Md_readCond_37 : decode M_Md_readCond.2.1 37 = .ok (.bipush 97, 2) := by decide +kernel
theorem d_Md_readCond_39 : decode M_Md_readCond.2.1 39 = .ok (.bipush 115, 2) := by decide +kernel
theorem d_Md_readCond_41 : decode M_Md_readCond.2.1 41 = .ok (.bipush 104, 2) := by decide +kernel
theorem d_Md_readCond_43 : decode M_Md_readCond.2.1 43 = .ok (.iconst 0, 1) := by decide +kernel
theorem d_Md_readCond_44 : decode M_Md_readCond.2.1 44 = .ok (.invokevirtual 109, 3) := by decide +kernel
theorem d_Md_readCond_47 : decode M_Md_readCond.2.1 47 = .ok (.ifCond .eq 7, 3) := by decide +kernel
theorem d_Md_readCond_50 : decode M_Md_readCond.2.1 50 = .ok (.iconst 0, 1) := by decide +kernel
theorem d_Md_readCond_51 : decode M_Md_readCond.2.1 51 = .ok (.goto 39, 3) := by decide +kernel
theorem d_Md_readCond_54 : decode M_Md_readCond.2.1 54 = .ok (.iload_n 1, 1) := by decide +kernel
theorem d_Md_readCond_55 : decode M_Md_readCond.2.1 55 = .ok (.ifCond .eq 7, 3) := by decide +kernel
theorem d_Md_readCond_58 : decode M_Md_readCond.2.1 58 = .ok (.iconst 1, 1) := by decide +kernel
theorem d_Md_readCond_59 : decode M_Md_readCond.2.1 59 = .ok (.goto 31, 3) := by decide +kernel
theorem d_Md_readCond_62 : decode M_Md_readCond.2.1 62 = .ok (.aload_n 0, 1) := by decide +kernel
theorem d_Md_readCond_63 : decode M_Md_readCond.2.1 63 = .ok (.bipush 100, 2) := by decide +kernel
theorem d_Md_readCond_65 : decode M_Md_readCond.2.1 65 = .ok (.bipush 97, 2) := by decide +kernel
theorem d_Md_readCond_67 : decode M_Md_readCond.2.1 67 = .ok (.bipush 121, 2) := by decide +kernel
theorem d_Md_readCond_69 : decode M_Md_readCond.2.1 69 = .ok (.iconst 0, 1) := by decide +kernel
theorem d_Md_readCond_70 : decode M_Md_readCond.2.1 70 = .ok (.iconst 0, 1) := by decide +kernel
theorem d_Md_readCond_71 : decode M_Md_readCond.2.1 71 = .ok (.invokevirtual 109, 3) := by decide +kernel
theorem d_Md_readCond_74 : decode M_Md_readCond.2.1 74 = .ok (.ifCond .eq 7, 3) := by decide +kernel
theorem d_Md_readCond_77 : decode M_Md_readCond.2.1 77 = .ok (.iconst 2, 1) := by decide +kernel
theorem d_Md_readCond_78 : decode M_Md_readCond.2.1 78 = .ok (.goto 12, 3) := by decide +kernel
theorem d_Md_readCond_81 : decode M_Md_readCond.2.1 81 = .ok (.iload_n 2, 1) := by decide +kernel
theorem d_Md_readCond_82 : decode M_Md_readCond.2.1 82 = .ok (.ifCond .eq 7, 3) := by decide +kernel
theorem d_Md_readCond_85 : decode M_Md_readCond.2.1 85 = .ok (.iconst 3, 1) := by decide +kernel
theorem d_Md_readCond_86 : decode M_Md_readCond.2.1 86 = .ok (.goto 4, 3) := by decide +kernel
theorem d_Md_readCond_89 : decode M_Md_readCond.2.1 89 = .ok (.iconst (-1), 1) := by decide +kernel
theorem d_Md_readCond_90 : decode M_Md_readCond.2.1 90 = .ok (.iastore, 1) := by decide +kernel
theorem d_Md_readCond_91 : decode M_Md_readCond.2.1 91 = .ok (.aload_n 0, 1) := by decide +kernel
theorem d_Md_readCond_92 : decode M_Md_readCond.2.1 92 = .ok (.getfield 41, 3) := by decide +kernel
theorem d_Md_readCond_95 : decode M_Md_readCond.2.1 95 = .ok (.iconst 5, 1) := by decide +kernel
theorem d_Md_readCond_96 : decode M_Md_readCond.2.1 96 = .ok (.iaload, 1) := by decide +kernel
theorem d_Md_readCond_97 : decode M_Md_readCond.2.1 97 = .ok (.ifCond .ge 8, 3) := by decide +kernel
theorem d_Md_readCond_100 : decode M_Md_readCond.2.1 100 = .ok (.aload_n 0, 1) := by decide +kernel
theorem d_Md_readCond_101 : decode M_Md_readCond.2.1 101 = .ok (.invokevirtual 103, 3) := by decide +kernel
theorem d_Md_readCond_104 : decode M_Md_readCond.2.1 104 = .ok (.return_, 1) := by decide +kernel
theorem d_Md_readCond_105 : decode M_Md_readCond.2.1 105 = .ok (.aload_n 0, 1) := by decide +kernel
theorem d_Md_readCond_106 : decode M_Md_readCond.2.1 106 = .ok (.invokevirtual 106, 3) := by decide +kernel
theorem d_Md_readCond_109 : decode M_Md_readCond.2.1 109 = .ok (.iload_n 1, 1) := by decide +kernel
theorem d_Md_readCond_110 : decode M_Md_readCond.2.1 110 = .ok (.ifCond .ne 7, 3) := by decide +kernel
theorem d_Md_readCond_113 : decode M_Md_readCond.2.1 113 = .ok (.iload_n 2, 1) := by decide +kernel
theorem d_Md_readCond_114 : decode M_Md_readCond.2.1 114 = .ok (.ifCond .eq 24, 3) := by decide +kernel
theorem d_Md_readCond_117 : decode M_Md_readCond.2.1 117 = .ok (.aload_n 0, 1) := by decide +kernel
theorem d_Md_readCond_118 : decode M_Md_readCond.2.1 118 = .ok (.getfield 41, 3) := by decide +kernel
theorem d_Md_readCond_121 : decode M_Md_readCond.2.1 121 = .ok (.bipush 6, 2) := by decide +kernel
theorem d_Md_readCond_123 : decode M_Md_readCond.2.1 123 = .ok (.aload_n 0, 1) := by decide +kernel
theorem d_Md_readCond_124 : decode M_Md_readCond.2.1 124 = .ok (.iconst 0, 1) := by decide +kernel
theorem d_Md_readCond_125 : decode M_Md_readCond.2.1 125 = .ok (.iconst 4, 1) := by decide +kernel
theorem d_Md_readCond_126 : decode M_Md_readCond.2.1 126 = .ok (.invokevirtual 113, 3) := by decide +kernel
theorem d_Md_readCond_129 : decode M_Md_readCond.2.1 129 = .ok (.iastore, 1) := by decide +kernel
theorem d_Md_readCond_130 : decode M_Md_readCond.2.1 130 = .ok (.aload_n 0, 1) := by decide +kernel
theorem d_Md_readCond_131 : decode M_Md_readCond.2.1 131 = .ok (.getfield 100, 3) := by decide +kernel
theorem d_Md_readCond_134 : decode M_Md_readCond.2.1 134 = .ok (.ifCond .lt 4, 3) := by decide +kernel
theorem d_Md_readCond_137 : decode M_Md_readCond.2.1 137 = .ok (.return_, 1) := by decide +kernel
theorem d_Md_readCond_138 : decode M_Md_readCond.2.1 138 = .ok (.aload_n 0, 1) := by decide +kernel
theorem d_Md_readCond_139 : decode M_Md_readCond.2.1 139 = .ok (.bipush 62, 2) := by decide +kernel
theorem d_Md_readCond_141 : decode M_Md_readCond.2.1 141 = .ok (.iconst 0, 1) := by decide +kernel
theorem d_Md_readCond_142 : decode M_Md_readCond.2.1 142 = .ok (.iconst 0, 1) := by decide +kernel
theorem d_Md_readCond_143 : decode M_Md_readCond.2.1 143 = .ok (.iconst 0, 1) := by decide +kernel
theorem d_Md_readCond_144 : decode M_Md_readCond.2.1 144 = .ok (.iconst 0, 1) := by decide +kernel
theorem d_Md_readCond_145 : decode M_Md_readCond.2.1 145 = .ok (.invokevirtual 109, 3) := by decide +kernel
theorem d_Md_readCond_148 : decode M_Md_readCond.2.1 148 = .ok (.ifCond .eq 20, 3) := by decide +kernel
theorem d_Md_readCond_151 : decode M_Md_readCond.2.1 151 = .ok (.aload_n 0, 1) := by decide +kernel
theorem d_Md_readCond_152 : decode M_Md_readCond.2.1 152 = .ok (.getfield 41, 3) := by decide +kernel
theorem d_Md_readCond_155 : decode M_Md_readCond.2.1 155 = .ok (.iconst 5, 1) := by decide +kernel
theorem d_Md_readCond_156 : decode M_Md_readCond.2.1 156 = .ok (.dup2, 1) := by decide +kernel
theorem d_Md_readCond_157 : decode M_Md_readCond.2.1 157 = .ok (.iaload, 1) := by decide +kernel
theorem d_Md_readCond_158 : decode M_Md_readCond.2.1 158 = .ok (.iconst 4, 1) := by decide +kernel
theorem d_Md_readCond_159 : decode M_Md_readCond.2.1 159 = .ok (.iadd, 1) := by decide +kernel
theorem d_Md_readCond_160 : decode M_Md_readCond.2.1 160 = .ok (.iastore, 1) := by decide +kernel
theorem d_Md_readCond_161 : decode M_Md_readCond.2.1 161 = .ok (.aload_n 0, 1) := by decide +kernel
theorem d_Md_readCond_162 : decode M_Md_readCond.2.1 162 = .ok (.invokevirtual 106, 3) := by decide +kernel
theorem d_Md_readCond_165 : decode M_Md_readCond.2.1 165 = .ok (.goto 27, 3) := by decide +kernel
theorem d_Md_readCond_168 : decode M_Md_readCond.2.1 168 = .ok (.aload_n 0, 1) := by decide +kernel
theorem d_Md_readCond_169 : decode M_Md_readCond.2.1 169 = .ok (.bipush 60, 2) := by decide +kernel
theorem d_Md_readCond_171 : decode M_Md_readCond.2.1 171 = .ok (.iconst 0, 1) := by decide +kernel
theorem d_Md_readCond_172 : decode M_Md_readCond.2.1 172 = .ok (.iconst 0, 1) := by decide +kernel
theorem d_Md_readCond_173 : decode M_Md_readCond.2.1 173 = .ok (.iconst 0, 1) := by decide +kernel
theorem d_Md_readCond_174 : decode M_Md_readCond.2.1 174 = .ok (.iconst 0, 1) := by decide +kernel
theorem d_Md_readCond_175 : decode M_Md_readCond.2.1 175 = .ok (.invokevirtual 109, 3) := by decide +kernel
theorem d_Md_readCond_178 : decode M_Md_readCond.2.1 178 = .ok (.ifCond .eq 10, 3) := by decide +kernel
theorem d_Md_readCond_181 : decode M_Md_readCond.2.1 181 = .ok (.aload_n 0, 1) := by decide +kernel
theorem d_Md_readCond_182 : decode M_Md_readCond.2.1 182 = .ok (.invokevirtual 106, 3) := by decide +kernel
theorem d_Md_readCond_185 : decode M_Md_readCond.2.1 185 = .ok (.goto 7, 3) := by decide +kernel
theorem d_Md_readCond_188 : decode M_Md_readCond.2.1 188 = .ok (.aload_n 0, 1) := by decide +kernel
theorem d_Md_readCond_189 : decode M_Md_readCond.2.1 189 = .ok (.invokevirtual 103, 3) := by decide +kernel
theorem d_Md_readCond_192 : decode M_Md_readCond.2.1 192 = .ok (.aload_n 0, 1) := by decide +kernel
theorem d_Md_readCond_193 : decode M_Md_readCond.2.1 193 = .ok (.getfield 100, 3) := by decide +kernel
theorem d_Md_readCond_196 : decode M_Md_readCond.2.1 196 = .ok (.ifCond .ge 18, 3) := by decide +kernel
theorem d_Md_readCond_199 : decode M_Md_readCond.2.1 199 = .ok (.aload_n 0, 1) := by decide +kernel
theorem d_Md_readCond_200 : decode M_Md_readCond.2.1 200 = .ok (.getfield 41, 3) := by decide +kernel
theorem d_Md_readCond_203 : decode M_Md_readCond.2.1 203 = .ok (.bipush 7, 2) := by decide +kernel
theorem d_Md_readCond_205 : decode M_Md_readCond.2.1 205 = .ok (.aload_n 0, 1) := by decide +kernel
theorem d_Md_readCond_206 : decode M_Md_readCond.2.1 206 = .ok (.iconst 0, 1) := by decide +kernel
theorem d_Md_readCond_207 : decode M_Md_readCond.2.1 207 = .ok (.sipush 9999, 3) := by decide +kernel
theorem d_Md_readCond_210 : decode M_Md_readCond.2.1 210 = .ok (.invokevirtual 113, 3) := by decide +kernel
theorem d_Md_readCond_213 : decode M_Md_readCond.2.1 213 = .ok (.iastore, 1) := by decide +kernel
theorem d_Md_readCond_214 : decode M_Md_readCond.2.1 214 = .ok (.return_, 1) := by decide +kernel
def M_Md_readAct : mj_M := (⟨"MarketTownModel", "readAct", "(I)V"⟩, prog_13_method_29_code, 4, none, 2, 47)
theorem d_Md_readAct_0 : decode M_Md_readAct.2.1 0 = .ok (.aload_n 0, 1) := by decide +kernel
theorem d_Md_readAct_1 : decode M_Md_readAct.2.1 1 = .ok (.getfield 41, 3) := by decide +kernel
theorem d_Md_readAct_4 : decode M_Md_readAct.2.1 4 = .ok (.iconst 0, 1) := by decide +kernel
theorem d_Md_readAct_5 : decode M_Md_readAct.2.1 5 = .ok (.aload_n 0, 1) := by decide +kernel
theorem d_Md_readAct_6 : decode M_Md_readAct.2.1 6 = .ok (.invokevirtual 116, 3) := by decide +kernel
theorem d_Md_readAct_9 : decode M_Md_readAct.2.1 9 = .ok (.iastore, 1) := by decide +kernel
theorem d_Md_readAct_10 : decode M_Md_readAct.2.1 10 = .ok (.aload_n 0, 1) := by decide +kernel
theorem d_Md_readAct_11 : decode M_Md_readAct.2.1 11 = .ok (.getfield 41, 3) := by decide +kernel
theorem d_Md_readAct_14 : decode M_Md_readAct.2.1 14 = .ok (.iconst 0, 1) := by decide +kernel
theorem d_Md_readAct_15 : decode M_Md_readAct.2.1 15 = .ok (.iaload, 1) := by decide +kernel
theorem d_Md_readAct_16 : decode M_Md_readAct.2.1 16 = .ok (.ifCond .ge 8, 3) := by decide +kernel
theorem d_Md_readAct_19 : decode M_Md_readAct.2.1 19 = .ok (.aload_n 0, 1) := by decide +kernel
theorem d_Md_readAct_20 : decode M_Md_readAct.2.1 20 = .ok (.invokevirtual 103, 3) := by decide +kernel
theorem d_Md_readAct_23 : decode M_Md_readAct.2.1 23 = .ok (.return_, 1) := by decide +kernel
theorem d_Md_readAct_24 : decode M_Md_readAct.2.1 24 = .ok (.aload_n 0, 1) := by decide +kernel
theorem d_Md_readAct_25 : decode M_Md_readAct.2.1 25 = .ok (.invokevirtual 106, 3) := by decide +kernel
theorem d_Md_readAct_28 : decode M_Md_readAct.2.1 28 = .ok (.aload_n 0, 1) := by decide +kernel
theorem d_Md_readAct_29 : decode M_Md_readAct.2.1 29 = .ok (.getfield 41, 3) := by decide +kernel
theorem d_Md_readAct_32 : decode M_Md_readAct.2.1 32 = .ok (.iconst 0, 1) := by decide +kernel
theorem d_Md_readAct_33 : decode M_Md_readAct.2.1 33 = .ok (.iaload, 1) := by decide +kernel
theorem d_Md_readAct_34 : decode M_Md_readAct.2.1 34 = .ok (.iconst 4, 1) := by decide +kernel
theorem d_Md_readAct_35 : decode M_Md_readAct.2.1 35 = .ok (.if_icmp .lt 7, 3) := by decide +kernel
theorem d_Md_readAct_38 : decode M_Md_readAct.2.1 38 = .ok (.iconst 1, 1) := by decide +kernel
theorem d_Md_readAct_39 : decode M_Md_readAct.2.1 39 = .ok (.goto 4, 3) := by decide +kernel
theorem d_Md_readAct_42 : decode M_Md_readAct.2.1 42 = .ok (.iconst 0, 1) := by decide +kernel
theorem d_Md_readAct_43 : decode M_Md_readAct.2.1 43 = .ok (.istore_n 2, 1) := by decide +kernel
theorem d_Md_readAct_44 : decode M_Md_readAct.2.1 44 = .ok (.aload_n 0, 1) := by decide +kernel
theorem d_Md_readAct_45 : decode M_Md_readAct.2.1 45 = .ok (.getfield 97, 3) := by decide +kernel
theorem d_Md_readAct_48 : decode M_Md_readAct.2.1 48 = .ok (.istore_n 3, 1) := by decide +kernel
theorem d_Md_readAct_49 : decode M_Md_readAct.2.1 49 = .ok (.aload_n 0, 1) := by decide +kernel
theorem d_Md_readAct_50 : decode M_Md_readAct.2.1 50 = .ok (.getfield 41, 3) := by decide +kernel
theorem d_Md_readAct_53 : decode M_Md_readAct.2.1 53 = .ok (.iconst 1, 1) := by decide +kernel
theorem d_Md_readAct_54 : decode M_Md_readAct.2.1 54 = .ok (.iload_n 2, 1) := by decide +kernel
theorem d_Md_readAct_55 : decode M_Md_readAct.2.1 55 = .ok (.ifCond .eq 21, 3) := by decide +kernel
theorem d_Md_readAct_58 : decode M_Md_readAct.2.1 58 = .ok (.aload_n 0, 1) := by decide +kernel
theorem d_Md_readAct_59 : decode M_Md_readAct.2.1 59 = .ok (.iconst 0, 1) := by decide +kernel
theorem d_Md_readAct_60 : decode M_Md_readAct.2.1 60 = .ok (.aload_n 0, 1) := by decide +kernel
theorem d_Md_readAct_61 : decode M_Md_readAct.2.1 61 = .ok (.getfield 7, 3) := by decide +kernel
theorem d_Md_readAct_64 : decode M_Md_readAct.2.1 64 = .ok (.sipush 2163, 3) := by decide +kernel
theorem d_Md_readAct_67 : decode M_Md_readAct.2.1 67 = .ok (.iaload, 1) := by decide +kernel
theorem d_Md_readAct_68 : decode M_Md_readAct.2.1 68 = .ok (.iconst 1, 1) := by decide +kernel
theorem d_Md_readAct_69 : decode M_Md_readAct.2.1 69 = .ok (.isub, 1) := by decide +kernel
theorem d_Md_readAct_70 : decode M_Md_readAct.2.1 70 = .ok (.invokevirtual 113, 3) := by decide +kernel
theorem d_Md_readAct_73 : decode M_Md_readAct.2.1 73 = .ok (.goto 9, 3) := by decide +kernel
theorem d_Md_readAct_76 : decode M_Md_readAct.2.1 76 = .ok (.aload_n 0, 1) := by decide +kernel
theorem d_Md_readAct_77 : decode M_Md_readAct.2.1 77 = .ok (.iconst 0, 1) := by decide +kernel
theorem d_Md_readAct_78 : decode M_Md_readAct.2.1 78 = .ok (.iconst 4, 1) := by decide +kernel
theorem d_Md_readAct_79 : decode M_Md_readAct.2.1 79 = .ok (.invokevirtual 113, 3) := by decide +kernel
theorem d_Md_readAct_82 : decode M_Md_readAct.2.1 82 = .ok (.iastore, 1) := by decide +kernel
theorem d_Md_readAct_83 : decode M_Md_readAct.2.1 83 = .ok (.aload_n 0, 1) := by decide +kernel
theorem d_Md_readAct_84 : decode M_Md_readAct.2.1 84 = .ok (.getfield 100, 3) := by decide +kernel
theorem d_Md_readAct_87 : decode M_Md_readAct.2.1 87 = .ok (.ifCond .ge 22, 3) := by decide +kernel
theorem d_Md_readAct_90 : decode M_Md_readAct.2.1 90 = .ok (.iload_n 2, 1) := by decide +kernel
theorem d_Md_readAct_91 : decode M_Md_readAct.2.1 91 = .ok (.ifCond .eq 18, 3) := by decide +kernel
theorem d_Md_readAct_94 : decode M_Md_readAct.2.1 94 = .ok (.aload_n 0, 1) := by decide +kernel
theorem d_Md_readAct_95 : decode M_Md_readAct.2.1 95 = .ok (.getfield 41, 3) := by decide +kernel
theorem d_Md_readAct_98 : decode M_Md_readAct.2.1 98 = .ok (.iconst 1, 1) := by decide +kernel
theorem d_Md_readAct_99 : decode M_Md_readAct.2.1 99 = .ok (.iaload, 1) := by decide +kernel
theorem d_Md_readAct_100 : decode M_Md_readAct.2.1 100 = .ok (.iload_n 1, 1) := by decide +kernel
theorem d_Md_readAct_101 : decode M_Md_readAct.2.1 101 = .ok (.if_icmp .ne 8, 3) := by decide +kernel
theorem d_Md_readAct_104 : decode M_Md_readAct.2.1 104 = .ok (.aload_n 0, 1) := by decide +kernel
theorem d_Md_readAct_105 : decode M_Md_readAct.2.1 105 = .ok (.iload_n 3, 1) := by decide +kernel
theorem d_Md_readAct_106 : decode M_Md_readAct.2.1 106 = .ok (.putfield 100, 3) := by decide +kernel
theorem d_Md_readAct_109 : decode M_Md_readAct.2.1 109 = .ok (.aload_n 0, 1) := by decide +kernel
theorem d_Md_readAct_110 : decode M_Md_readAct.2.1 110 = .ok (.getfield 100, 3) := by decide +kernel
theorem d_Md_readAct_113 : decode M_Md_readAct.2.1 113 = .ok (.ifCond .ge 17, 3) := by decide +kernel
theorem d_Md_readAct_116 : decode M_Md_readAct.2.1 116 = .ok (.aload_n 0, 1) := by decide +kernel
theorem d_Md_readAct_117 : decode M_Md_readAct.2.1 117 = .ok (.getfield 41, 3) := by decide +kernel
theorem d_Md_readAct_120 : decode M_Md_readAct.2.1 120 = .ok (.iconst 2, 1) := by decide +kernel
theorem d_Md_readAct_121 : decode M_Md_readAct.2.1 121 = .ok (.aload_n 0, 1) := by decide +kernel
theorem d_Md_readAct_122 : decode M_Md_readAct.2.1 122 = .ok (.iconst 1, 1) := by decide +kernel
theorem d_Md_readAct_123 : decode M_Md_readAct.2.1 123 = .ok (.sipush 999, 3) := by decide +kernel
theorem d_Md_readAct_126 : decode M_Md_readAct.2.1 126 = .ok (.invokevirtual 113, 3) := by decide +kernel
theorem d_Md_readAct_129 : decode M_Md_readAct.2.1 129 = .ok (.iastore, 1) := by decide +kernel
theorem d_Md_readAct_130 : decode M_Md_readAct.2.1 130 = .ok (.aload_n 0, 1) := by decide +kernel
theorem d_Md_readAct_131 : decode M_Md_readAct.2.1 131 = .ok (.getfield 100, 3) := by decide +kernel
theorem d_Md_readAct_134 : decode M_Md_readAct.2.1 134 = .ok (.ifCond .ge 62, 3) := by decide +kernel
theorem d_Md_readAct_137 : decode M_Md_readAct.2.1 137 = .ok (.aload_n 0, 1) := by decide +kernel
theorem d_Md_readAct_138 : decode M_Md_readAct.2.1 138 = .ok (.getfield 41, 3) := by decide +kernel
theorem d_Md_readAct_141 : decode M_Md_readAct.2.1 141 = .ok (.iconst 0, 1) := by decide +kernel
theorem d_Md_readAct_142 : decode M_Md_readAct.2.1 142 = .ok (.iaload, 1) := by decide +kernel
theorem d_Md_readAct_143 : decode M_Md_readAct.2.1 143 = .ok (.iconst 2, 1) := by decide +kernel
theorem d_Md_readAct_144 : decode M_Md_readAct.2.1 144 = .ok (.if_icmp .eq 23, 3) := by decide +kernel
theorem d_Md_readAct_147 : decode M_Md_readAct.2.1 147 = .ok (.aload_n 0, 1) := by decide +kernel
theorem d_Md_readAct_148 : decode M_Md_readAct.2.1 148 = .ok (.getfield 41, 3) := by decide +kernel
theorem d_Md_readAct_151 : decode M_Md_readAct.2.1 151 = .ok (.iconst 0, 1) := by decide +kernel
theorem d_Md_readAct_152 : decode M_Md_readAct.2.1 152 = .ok (.iaload, 1) := by decide +kernel
theorem d_Md_readAct_153 : decode M_Md_readAct.2.1 153 = .ok (.iconst 3, 1) := by decide +kernel
theorem d_Md_readAct_154 : decode M_Md_readAct.2.1 154 = .ok (.if_icmp .eq 13, 3) := by decide +kernel
theorem d_Md_readAct_157 : decode M_Md_readAct.2.1 157 = .ok (.aload_n 0, 1) := by decide +kernel
theorem d_Md_readAct_158 : decode M_Md_readAct.2.1 158 = .ok (.getfield 41, 3) := by decide +kernel
theorem d_Md_readAct_161 : decode M_Md_readAct.2.1 161 = .ok (.iconst 0, 1) := by decide +kernel
theorem d_Md_readAct_162 : decode M_Md_readAct.2.1 162 = .ok (.iaload, 1) := by decide +kernel
theorem d_Md_readAct_163 : decode M_Md_readAct.2.1 163 = .ok (.iconst 5, 1) := by decide +kernel
theorem d_Md_readAct_164 : decode M_Md_readAct.2.1 164 = .ok (.if_icmp .ne 32, 3) := by decide +kernel
theorem d_Md_readAct_167 : decode M_Md_readAct.2.1 167 = .ok (.aload_n 0, 1) := by decide +kernel
theorem d_Md_readAct_168 : decode M_Md_readAct.2.1 168 = .ok (.getfield 41, 3) := by decide +kernel
theorem d_Md_readAct_171 : decode M_Md_readAct.2.1 171 = .ok (.iconst 3, 1) := by decide +kernel
theorem d_Md_readAct_172 : decode M_Md_readAct.2.1 172 = .ok (.aload_n 0, 1) := by decide +kernel
theorem d_Md_readAct_173 : decode M_Md_readAct.2.1 173 = .ok (.iconst 1, 1) := by decide +kernel
theorem d_Md_readAct_174 : decode M_Md_readAct.2.1 174 = .ok (.aload_n 0, 1) := by decide +kernel
theorem d_Md_readAct_175 : decode M_Md_readAct.2.1 175 = .ok (.getfield 41, 3) := by decide +kernel
theorem d_Md_readAct_178 : decode M_Md_readAct.2.1 178 = .ok (.iconst 0, 1) := by decide +kernel
theorem d_Md_readAct_179 : decode M_Md_readAct.2.1 179 = .ok (.iaload, 1) := by decide +kernel
theorem d_Md_readAct_180 : decode M_Md_readAct.2.1 180 = .ok (.iconst 5, 1) := by decide +kernel
theorem d_Md_readAct_181 : decode M_Md_readAct.2.1 181 = .ok (.if_icmp .ne 8, 3) := by decide +kernel
theorem d_Md_readAct_184 : decode M_Md_readAct.2.1 184 = .ok (.bipush 30, 2) := by decide +kernel
theorem d_Md_readAct_186 : decode M_Md_readAct.2.1 186 = .ok (.goto 6, 3) := by decide +kernel
theorem d_Md_readAct_189 : decode M_Md_readAct.2.1 189 = .ok (.sipush 999, 3) := by decide +kernel
theorem d_Md_readAct_192 : decode M_Md_readAct.2.1 192 = .ok (.invokevirtual 113, 3) := by decide +kernel
theorem d_Md_readAct_195 : decode M_Md_readAct.2.1 195 = .ok (.iastore, 1) := by decide +kernel
theorem d_Md_readAct_196 : decode M_Md_readAct.2.1 196 = .ok (.return_, 1) := by decide +kernel
def M_Md_actAtHand : mj_M := (⟨"MarketTownModel", "actAtHand", "()I"⟩, prog_13_method_28_code, 1, some .int, 1, 26)
theorem d_Md_actAtHand_0 : decode M_Md_actAtHand.2.1 0 = .ok (.aload_n 0, 1) := by decide +kernel
theorem d_Md_actAtHand_1 : decode M_Md_actAtHand.2.1 1 = .ok (.bipush 109, 2) := by decide +kernel
theorem d_Md_actAtHand_3 : decode M_Md_actAtHand.2.1 3 = .ok (.bipush 97, 2) := by decide +kernel
theorem d_Md_actAtHand_5 : decode M_Md_actAtHand.2.1 5 = .ok (.bipush 107, 2) := by decide +kernel
theorem d_Md_actAtHand_7 : decode M_Md_actAtHand.2.1 7 = .ok (.bipush 101, 2) := by decide +kernel
theorem d_Md_actAtHand_9 : decode M_Md_actAtHand.2.1 9 = .ok (.iconst 0, 1) := by decide +kernel
theorem d_Md_actAtHand_10 : decode M_Md_actAtHand.2.1 10 = .ok (.invokevirtual 109, 3) := by decide +kernel
theorem d_Md_actAtHand_13 : decode M_Md_actAtHand.2.1 13 = .ok (.ifCond .eq 7, 3) := by decide +kernel
theorem d_Md_actAtHand_16 : decode M_Md_actAtHand.2.1 16 = .ok (.iconst 0, 1) := by decide +kernel
theorem d_Md_actAtHand_17 : decode M_Md_actAtHand.2.1 17 = .ok (.goto 100, 3) := by decide +kernel
theorem d_Md_actAtHand_20 : decode M_Md_actAtHand.2.1 20 = .ok (.aload_n 0, 1) := by decide +kernel
theorem d_Md_actAtHand_21 : decode M_Md_actAtHand.2.1 21 = .ok (.bipush 101, 2) := by decide +kernel
theorem d_Md_actAtHand_23 : decode M_Md_actAtHand.2.1 23 = .ok (.bipush 97, 2) := by decide +kernel
theorem d_Md_actAtHand_25 : decode M_Md_actAtHand.2.1 25 = .ok (.bipush 116, 2) := by decide +kernel
theorem d_Md_actAtHand_27 : decode M_Md_actAtHand.2.1 27 = .ok (.iconst 0, 1) := by decide +kernel
theorem d_Md_actAtHand_28 : decode M_Md_actAtHand.2.1 28 = .ok (.iconst 0, 1) := by decide +kernel
theorem d_Md_actAtHand_29 : decode M_Md_actAtHand.2.1 29 = .ok (.invokevirtual 109, 3) := by decide +kernel
theorem d_Md_actAtHand_32 : decode M_Md_actAtHand.2.1 32 = .ok (.ifCond .eq 7, 3) := by decide +kernel
theorem d_Md_actAtHand_35 : decode M_Md_actAtHand.2.1 35 = .ok (.iconst 1, 1) := by decide +kernel
theorem d_Md_actAtHand_36 : decode M_Md_actAtHand.2.1 36 = .ok (.goto 81, 3) := by decide +kernel
theorem d_Md_actAtHand_39 : decode M_Md_actAtHand.2.1 39 = .ok (.aload_n 0, 1) := by decide +kernel
theorem d_Md_actAtHand_40 : decode M_Md_actAtHand.2.1 40 = .ok (.bipush 97, 2) := by decide +kernel
theorem d_Md_actAtHand_42 : decode M_Md_actAtHand.2.1 42 = .ok (.bipush 115, 2) := by decide +kernel
theorem d_Md_actAtHand_44 : decode M_Md_actAtHand.2.1 44 = .ok (.bipush 107, 2) := by decide +kernel
theorem d_Md_actAtHand_46 : decode M_Md_actAtHand.2.1 46 = .ok (.iconst 0, 1) := by decide +kernel
theorem d_Md_actAtHand_47 : decode M_Md_actAtHand.2.1 47 = .ok (.iconst 0, 1) := by decide +kernel
theorem d_Md_actAtHand_48 : decode M_Md_actAtHand.2.1 48 = .ok (.invokevirtual 109, 3) := by decide +kernel
theorem d_Md_actAtHand_51 : decode M_Md_actAtHand.2.1 51 = .ok (.ifCond .eq 7, 3) := by decide +kernel
theorem d_Md_actAtHand_54 : decode M_Md_actAtHand.2.1 54 = .ok (.iconst 2, 1) := by decide +kernel
theorem d_Md_actAtHand_55 : decode M_Md_actAtHand.2.1 55 = .ok (.goto 62, 3) := by decide +kernel
theorem d_Md_actAtHand_58 : decode M_Md_actAtHand.2.1 58 = .ok (.aload_n 0, 1) := by decide +kernel
theorem d_Md_actAtHand_59 : decode M_Md_actAtHand.2.1 59 = .ok (.bipush 98, 2) := by decide +kernel
theorem d_Md_actAtHand_61 : decode M_Md_actAtHand.2.1 61 = .ok (.bipush 105, 2) := by decide +kernel
theorem d_Md_actAtHand_63 : decode M_Md_actAtHand.2.1 63 = .ok (.bipush 100, 2) := by decide +kernel
theorem d_Md_actAtHand_65 : decode M_Md_actAtHand.2.1 65 = .ok (.iconst 0, 1) := by decide +kernel
theorem d_Md_actAtHand_66 : decode M_Md_actAtHand.2.1 66 = .ok (.iconst 0, 1) := by decide +kernel
theorem d_Md_actAtHand_67 : decode M_Md_actAtHand.2.1 67 = .ok (.invokevirtual 109, 3) := by decide +kernel
theorem d_Md_actAtHand_70 : decode M_Md_actAtHand.2.1 70 = .ok (.ifCond .eq 7, 3) := by decide +kernel
theorem d_Md_actAtHand_73 : decode M_Md_actAtHand.2.1 73 = .ok (.iconst 3, 1) := by decide +kernel
theorem d_Md_actAtHand_74 : decode M_Md_actAtHand.2.1 74 = .ok (.goto 43, 3) := by decide +kernel
theorem d_Md_actAtHand_77 : decode M_Md_actAtHand.2.1 77 = .ok (.aload_n 0, 1) := by decide +kernel
theorem d_Md_actAtHand_78 : decode M_Md_actAtHand.2.1 78 = .ok (.bipush 112, 2) := by decide +kernel
theorem d_Md_actAtHand_80 : decode M_Md_actAtHand.2.1 80 = .ok (.bipush 97, 2) := by decide +kernel
theorem d_Md_actAtHand_82 : decode M_Md_actAtHand.2.1 82 = .ok (.bipush 121, 2) := by decide +kernel
theorem d_Md_actAtHand_84 : decode M_Md_actAtHand.2.1 84 = .ok (.iconst 0, 1) := by decide +kernel
theorem d_Md_actAtHand_85 : decode M_Md_actAtHand.2.1 85 = .ok (.iconst 0, 1) := by decide +kernel
theorem d_Md_actAtHand_86 : decode M_Md_actAtHand.2.1 86 = .ok (.invokevirtual 109, 3) := by decide +kernel
theorem d_Md_actAtHand_89 : decode M_Md_actAtHand.2.1 89 = .ok (.ifCond .eq 7, 3) := by decide +kernel
theorem d_Md_actAtHand_92 : decode M_Md_actAtHand.2.1 92 = .ok (.iconst 4, 1) := by decide +kernel
theorem d_Md_actAtHand_93 : decode M_Md_actAtHand.2.1 93 = .ok (.goto 24, 3) := by decide +kernel
theorem d_Md_actAtHand_96 : decode M_Md_actAtHand.2.1 96 = .ok (.aload_n 0, 1) := by decide +kernel
theorem d_Md_actAtHand_97 : decode M_Md_actAtHand.2.1 97 = .ok (.bipush 108, 2) := by decide +kernel
theorem d_Md_actAtHand_99 : decode M_Md_actAtHand.2.1 99 = .ok (.bipush 101, 2) := by decide +kernel
theorem d_Md_actAtHand_101 : decode M_Md_actAtHand.2.1 101 = .ok (.bipush 110, 2) := by decide +kernel
theorem d_Md_actAtHand_103 : decode M_Md_actAtHand.2.1 103 = .ok (.bipush 100, 2) := by decide +kernel
theorem d_Md_actAtHand_105 : decode M_Md_actAtHand.2.1 105 = .ok (.iconst 0, 1) := by decide +kernel
theorem d_Md_actAtHand_106 : decode M_Md_actAtHand.2.1 106 = .ok (.invokevirtual 109, 3) := by decide +kernel
theorem d_Md_actAtHand_109 : decode M_Md_actAtHand.2.1 109 = .ok (.ifCond .eq 7, 3) := by decide +kernel
theorem d_Md_actAtHand_112 : decode M_Md_actAtHand.2.1 112 = .ok (.iconst 5, 1) := by decide +kernel
theorem d_Md_actAtHand_113 : decode M_Md_actAtHand.2.1 113 = .ok (.goto 4, 3) := by decide +kernel
theorem d_Md_actAtHand_116 : decode M_Md_actAtHand.2.1 116 = .ok (.iconst (-1), 1) := by decide +kernel
theorem d_Md_actAtHand_117 : decode M_Md_actAtHand.2.1 117 = .ok (.ireturn, 1) := by decide +kernel
def M_Md_ruleMany : mj_M := (⟨"MarketTownModel", "ruleMany", "(I)I"⟩, prog_13_method_8_code, 2, some .int, 0, 0)
theorem d_Md_ruleMany_0 : decode M_Md_ruleMany.2.1 0 = .ok (.aload_n 0, 1) := by decide +kernel
theorem d_Md_ruleMany_1 : decode M_Md_ruleMany.2.1 1 = .ok (.getfield 7, 3) := by decide +kernel
theorem d_Md_ruleMany_4 : decode M_Md_ruleMany.2.1 4 = .ok (.iconst 0, 1) := by decide +kernel
theorem d_Md_ruleMany_5 : decode M_Md_ruleMany.2.1 5 = .ok (.iconst 5, 1) := by decide +kernel
theorem d_Md_ruleMany_6 : decode M_Md_ruleMany.2.1 6 = .ok (.iload_n 1, 1) := by decide +kernel
theorem d_Md_ruleMany_7 : decode M_Md_ruleMany.2.1 7 = .ok (.imul, 1) := by decide +kernel
theorem d_Md_ruleMany_8 : decode M_Md_ruleMany.2.1 8 = .ok (.iadd, 1) := by decide +kernel
theorem d_Md_ruleMany_9 : decode M_Md_ruleMany.2.1 9 = .ok (.iconst 4, 1) := by decide +kernel
theorem d_Md_ruleMany_10 : decode M_Md_ruleMany.2.1 10 = .ok (.iadd, 1) := by decide +kernel
theorem d_Md_ruleMany_11 : decode M_Md_ruleMany.2.1 11 = .ok (.iaload, 1) := by decide +kernel
theorem d_Md_ruleMany_12 : decode M_Md_ruleMany.2.1 12 = .ok (.ireturn, 1) := by decide +kernel
def M_Md_unrule : mj_M := (⟨"MarketTownModel", "unrule", "(I)I"⟩, prog_13_method_32_code, 2, some .int, 2, 43)
theorem d_Md_unrule_0 : decode M_Md_unrule.2.1 0 = .ok (.aload_n 0, 1) := by decide +kernel
theorem d_Md_unrule_1 : decode M_Md_unrule.2.1 1 = .ok (.iload_n 1, 1) := by decide +kernel
theorem d_Md_unrule_2 : decode M_Md_unrule.2.1 2 = .ok (.invokevirtual 69, 3) := by decide +kernel
theorem d_Md_unrule_5 : decode M_Md_unrule.2.1 5 = .ok (.ifCond .ne 6, 3) := by decide +kernel
theorem d_Md_unrule_8 : decode M_Md_unrule.2.1 8 = .ok (.ldc 66, 2) := by decide +kernel
theorem d_Md_unrule_10 : decode M_Md_unrule.2.1 10 = .ok (.ireturn, 1) := by decide +kernel
theorem d_Md_unrule_11 : decode M_Md_unrule.2.1 11 = .ok (.aload_n 0, 1) := by decide +kernel
theorem d_Md_unrule_12 : decode M_Md_unrule.2.1 12 = .ok (.iload_n 1, 1) := by decide +kernel
theorem d_Md_unrule_13 : decode M_Md_unrule.2.1 13 = .ok (.invokevirtual 129, 3) := by decide +kernel
theorem d_Md_unrule_16 : decode M_Md_unrule.2.1 16 = .ok (.ifCond .ne 6, 3) := by decide +kernel
theorem d_Md_unrule_19 : decode M_Md_unrule.2.1 19 = .ok (.ldc 132, 2) := by decide +kernel
theorem d_Md_unrule_21 : decode M_Md_unrule.2.1 21 = .ok (.ireturn, 1) := by decide +kernel
theorem d_Md_unrule_22 : decode M_Md_unrule.2.1 22 = .ok (.aload_n 0, 1) := by decide +kernel
theorem d_Md_unrule_23 : decode M_Md_unrule.2.1 23 = .ok (.getfield 7, 3) := by decide +kernel
theorem d_Md_unrule_26 : decode M_Md_unrule.2.1 26 = .ok (.iconst 0, 1) := by decide +kernel
theorem d_Md_unrule_27 : decode M_Md_unrule.2.1 27 = .ok (.iconst 5, 1) := by decide +kernel
theorem d_Md_unrule_28 : decode M_Md_unrule.2.1 28 = .ok (.iload_n 1, 1) := by decide +kernel
theorem d_Md_unrule_29 : decode M_Md_unrule.2.1 29 = .ok (.imul, 1) := by decide +kernel
theorem d_Md_unrule_30 : decode M_Md_unrule.2.1 30 = .ok (.iadd, 1) := by decide +kernel
theorem d_Md_unrule_31 : decode M_Md_unrule.2.1 31 = .ok (.iconst 4, 1) := by decide +kernel
theorem d_Md_unrule_32 : decode M_Md_unrule.2.1 32 = .ok (.iadd, 1) := by decide +kernel
theorem d_Md_unrule_33 : decode M_Md_unrule.2.1 33 = .ok (.dup2, 1) := by decide +kernel
theorem d_Md_unrule_34 : decode M_Md_unrule.2.1 34 = .ok (.iaload, 1) := by decide +kernel
theorem d_Md_unrule_35 : decode M_Md_unrule.2.1 35 = .ok (.iconst 1, 1) := by decide +kernel
theorem d_Md_unrule_36 : decode M_Md_unrule.2.1 36 = .ok (.isub, 1) := by decide +kernel
theorem d_Md_unrule_37 : decode M_Md_unrule.2.1 37 = .ok (.iastore, 1) := by decide +kernel
theorem d_Md_unrule_38 : decode M_Md_unrule.2.1 38 = .ok (.aload_n 0, 1) := by decide +kernel
theorem d_Md_unrule_39 : decode M_Md_unrule.2.1 39 = .ok (.iload_n 1, 1) := by decide +kernel
theorem d_Md_unrule_40 : decode M_Md_unrule.2.1 40 = .ok (.invokevirtual 129, 3) := by decide +kernel
theorem d_Md_unrule_43 : decode M_Md_unrule.2.1 43 = .ok (.ireturn, 1) := by decide +kernel
