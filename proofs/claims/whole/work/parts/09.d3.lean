def M_Md_live : mj_M := (⟨"MarketTownModel", "live", "(I)I"⟩, prog_13_method_63_code, 3, some .int, 7, 169)
theorem d_Md_live_0 : decode M_Md_live.2.1 0 = .ok (.iload_n 1, 1) := by decide +kernel
theorem d_Md_live_1 : decode M_Md_live.2.1 1 = .ok (.iconst 1, 1) := by decide +kernel
theorem d_Md_live_2 : decode M_Md_live.2.1 2 = .ok (.bipush 30, 2) := by decide +kernel
theorem d_Md_live_4 : decode M_Md_live.2.1 4 = .ok (.invokestatic 53, 3) := by decide +kernel
theorem d_Md_live_7 : decode M_Md_live.2.1 7 = .ok (.ifCond .eq 19, 3) := by decide +kernel
theorem d_Md_live_10 : decode M_Md_live.2.1 10 = .ok (.aload_n 0, 1) := by decide +kernel
theorem d_Md_live_11 : decode M_Md_live.2.1 11 = .ok (.getfield 7, 3) := by decide +kernel
theorem d_Md_live_14 : decode M_Md_live.2.1 14 = .ok (.sipush 2164, 3) := by decide +kernel
theorem d_Md_live_17 : decode M_Md_live.2.1 17 = .ok (.iaload, 1) := by decide +kernel
theorem d_Md_live_18 : decode M_Md_live.2.1 18 = .ok (.iload_n 1, 1) := by decide +kernel
theorem d_Md_live_19 : decode M_Md_live.2.1 19 = .ok (.iadd, 1) := by decide +kernel
theorem d_Md_live_20 : decode M_Md_live.2.1 20 = .ok (.sipush 700, 3) := by decide +kernel
theorem d_Md_live_23 : decode M_Md_live.2.1 23 = .ok (.if_icmp .le 6, 3) := by decide +kernel
theorem d_Md_live_26 : decode M_Md_live.2.1 26 = .ok (.ldc 66, 2) := by decide +kernel
theorem d_Md_live_28 : decode M_Md_live.2.1 28 = .ok (.ireturn, 1) := by decide +kernel
theorem d_Md_live_29 : decode M_Md_live.2.1 29 = .ok (.iconst 0, 1) := by decide +kernel
theorem d_Md_live_30 : decode M_Md_live.2.1 30 = .ok (.istore_n 2, 1) := by decide +kernel
theorem d_Md_live_31 : decode M_Md_live.2.1 31 = .ok (.iload_n 2, 1) := by decide +kernel
theorem d_Md_live_32 : decode M_Md_live.2.1 32 = .ok (.iload_n 1, 1) := by decide +kernel
theorem d_Md_live_33 : decode M_Md_live.2.1 33 = .ok (.if_icmp .ge 13, 3) := by decide +kernel
theorem d_Md_live_36 : decode M_Md_live.2.1 36 = .ok (.aload_n 0, 1) := by decide +kernel
theorem d_Md_live_37 : decode M_Md_live.2.1 37 = .ok (.invokevirtual 253, 3) := by decide +kernel
theorem d_Md_live_40 : decode M_Md_live.2.1 40 = .ok (.iinc 2 1, 3) := by decide +kernel
theorem d_Md_live_43 : decode M_Md_live.2.1 43 = .ok (.goto (-12), 3) := by decide +kernel
theorem d_Md_live_46 : decode M_Md_live.2.1 46 = .ok (.aload_n 0, 1) := by decide +kernel
theorem d_Md_live_47 : decode M_Md_live.2.1 47 = .ok (.getfield 7, 3) := by decide +kernel
theorem d_Md_live_50 : decode M_Md_live.2.1 50 = .ok (.sipush 2164, 3) := by decide +kernel
theorem d_Md_live_53 : decode M_Md_live.2.1 53 = .ok (.iaload, 1) := by decide +kernel
theorem d_Md_live_54 : decode M_Md_live.2.1 54 = .ok (.ireturn, 1) := by decide +kernel
def M_Md_liveDay : mj_M := (⟨"MarketTownModel", "liveDay", "()V"⟩, prog_13_method_62_code, 3, none, 6, 147)
theorem d_Md_liveDay_0 : decode M_Md_liveDay.2.1 0 = .ok (.aload_n 0, 1) := by decide +kernel
theorem d_Md_liveDay_1 : decode M_Md_liveDay.2.1 1 = .ok (.invokevirtual 232, 3) := by decide +kernel
theorem d_Md_liveDay_4 : decode M_Md_liveDay.2.1 4 = .ok (.aload_n 0, 1) := by decide +kernel
theorem d_Md_liveDay_5 : decode M_Md_liveDay.2.1 5 = .ok (.invokevirtual 235, 3) := by decide +kernel
theorem d_Md_liveDay_8 : decode M_Md_liveDay.2.1 8 = .ok (.iconst 0, 1) := by decide +kernel
theorem d_Md_liveDay_9 : decode M_Md_liveDay.2.1 9 = .ok (.istore_n 1, 1) := by decide +kernel
theorem d_Md_liveDay_10 : decode M_Md_liveDay.2.1 10 = .ok (.iload_n 1, 1) := by decide +kernel
theorem d_Md_liveDay_11 : decode M_Md_liveDay.2.1 11 = .ok (.iconst 5, 1) := by decide +kernel
theorem d_Md_liveDay_12 : decode M_Md_liveDay.2.1 12 = .ok (.if_icmp .ge 46, 3) := by decide +kernel
theorem d_Md_liveDay_15 : decode M_Md_liveDay.2.1 15 = .ok (.aload_n 0, 1) := by decide +kernel
theorem d_Md_liveDay_16 : decode M_Md_liveDay.2.1 16 = .ok (.iload_n 1, 1) := by decide +kernel
theorem d_Md_liveDay_17 : decode M_Md_liveDay.2.1 17 = .ok (.iconst 1, 1) := by decide +kernel
theorem d_Md_liveDay_18 : decode M_Md_liveDay.2.1 18 = .ok (.invokevirtual 153, 3) := by decide +kernel
theorem d_Md_liveDay_21 : decode M_Md_liveDay.2.1 21 = .ok (.istore_n 2, 1) := by decide +kernel
theorem d_Md_liveDay_22 : decode M_Md_liveDay.2.1 22 = .ok (.iload_n 2, 1) := by decide +kernel
theorem d_Md_liveDay_23 : decode M_Md_liveDay.2.1 23 = .ok (.ifCond .ne 11, 3) := by decide +kernel
theorem d_Md_liveDay_26 : decode M_Md_liveDay.2.1 26 = .ok (.aload_n 0, 1) := by decide +kernel
theorem d_Md_liveDay_27 : decode M_Md_liveDay.2.1 27 = .ok (.iload_n 1, 1) := by decide +kernel
theorem d_Md_liveDay_28 : decode M_Md_liveDay.2.1 28 = .ok (.invokevirtual 238, 3) := by decide +kernel
theorem d_Md_liveDay_31 : decode M_Md_liveDay.2.1 31 = .ok (.goto 21, 3) := by decide +kernel
theorem d_Md_liveDay_34 : decode M_Md_liveDay.2.1 34 = .ok (.iload_n 2, 1) := by decide +kernel
theorem d_Md_liveDay_35 : decode M_Md_liveDay.2.1 35 = .ok (.iconst 1, 1) := by decide +kernel
theorem d_Md_liveDay_36 : decode M_Md_liveDay.2.1 36 = .ok (.if_icmp .ne 11, 3) := by decide +kernel
theorem d_Md_liveDay_39 : decode M_Md_liveDay.2.1 39 = .ok (.aload_n 0, 1) := by decide +kernel
theorem d_Md_liveDay_40 : decode M_Md_liveDay.2.1 40 = .ok (.iload_n 1, 1) := by decide +kernel
theorem d_Md_liveDay_41 : decode M_Md_liveDay.2.1 41 = .ok (.invokevirtual 241, 3) := by decide +kernel
theorem d_Md_liveDay_44 : decode M_Md_liveDay.2.1 44 = .ok (.goto 8, 3) := by decide +kernel
theorem d_Md_liveDay_47 : decode M_Md_liveDay.2.1 47 = .ok (.aload_n 0, 1) := by decide +kernel
theorem d_Md_liveDay_48 : decode M_Md_liveDay.2.1 48 = .ok (.iload_n 1, 1) := by decide +kernel
theorem d_Md_liveDay_49 : decode M_Md_liveDay.2.1 49 = .ok (.invokevirtual 244, 3) := by decide +kernel
theorem d_Md_liveDay_52 : decode M_Md_liveDay.2.1 52 = .ok (.iinc 1 1, 3) := by decide +kernel
theorem d_Md_liveDay_55 : decode M_Md_liveDay.2.1 55 = .ok (.goto (-45), 3) := by decide +kernel
theorem d_Md_liveDay_58 : decode M_Md_liveDay.2.1 58 = .ok (.aload_n 0, 1) := by decide +kernel
theorem d_Md_liveDay_59 : decode M_Md_liveDay.2.1 59 = .ok (.invokevirtual 247, 3) := by decide +kernel
theorem d_Md_liveDay_62 : decode M_Md_liveDay.2.1 62 = .ok (.iconst 0, 1) := by decide +kernel
theorem d_Md_liveDay_63 : decode M_Md_liveDay.2.1 63 = .ok (.istore_n 1, 1) := by decide +kernel
theorem d_Md_liveDay_64 : decode M_Md_liveDay.2.1 64 = .ok (.iload_n 1, 1) := by decide +kernel
theorem d_Md_liveDay_65 : decode M_Md_liveDay.2.1 65 = .ok (.aload_n 0, 1) := by decide +kernel
theorem d_Md_liveDay_66 : decode M_Md_liveDay.2.1 66 = .ok (.getfield 7, 3) := by decide +kernel
theorem d_Md_liveDay_69 : decode M_Md_liveDay.2.1 69 = .ok (.sipush 2163, 3) := by decide +kernel
theorem d_Md_liveDay_72 : decode M_Md_liveDay.2.1 72 = .ok (.iaload, 1) := by decide +kernel
theorem d_Md_liveDay_73 : decode M_Md_liveDay.2.1 73 = .ok (.if_icmp .ge 28, 3) := by decide +kernel
theorem d_Md_liveDay_76 : decode M_Md_liveDay.2.1 76 = .ok (.iconst 0, 1) := by decide +kernel
theorem d_Md_liveDay_77 : decode M_Md_liveDay.2.1 77 = .ok (.istore_n 2, 1) := by decide +kernel
theorem d_Md_liveDay_78 : decode M_Md_liveDay.2.1 78 = .ok (.iload_n 2, 1) := by decide +kernel
theorem d_Md_liveDay_79 : decode M_Md_liveDay.2.1 79 = .ok (.iconst 5, 1) := by decide +kernel
theorem d_Md_liveDay_80 : decode M_Md_liveDay.2.1 80 = .ok (.if_icmp .ge 15, 3) := by decide +kernel
theorem d_Md_liveDay_83 : decode M_Md_liveDay.2.1 83 = .ok (.aload_n 0, 1) := by decide +kernel
theorem d_Md_liveDay_84 : decode M_Md_liveDay.2.1 84 = .ok (.iload_n 1, 1) := by decide +kernel
theorem d_Md_liveDay_85 : decode M_Md_liveDay.2.1 85 = .ok (.iload_n 2, 1) := by decide +kernel
theorem d_Md_liveDay_86 : decode M_Md_liveDay.2.1 86 = .ok (.invokevirtual 250, 3) := by decide +kernel
theorem d_Md_liveDay_89 : decode M_Md_liveDay.2.1 89 = .ok (.iinc 2 1, 3) := by decide +kernel
theorem d_Md_liveDay_92 : decode M_Md_liveDay.2.1 92 = .ok (.goto (-14), 3) := by decide +kernel
theorem d_Md_liveDay_95 : decode M_Md_liveDay.2.1 95 = .ok (.iinc 1 1, 3) := by decide +kernel
theorem d_Md_liveDay_98 : decode M_Md_liveDay.2.1 98 = .ok (.goto (-34), 3) := by decide +kernel
theorem d_Md_liveDay_101 : decode M_Md_liveDay.2.1 101 = .ok (.aload_n 0, 1) := by decide +kernel
theorem d_Md_liveDay_102 : decode M_Md_liveDay.2.1 102 = .ok (.getfield 7, 3) := by decide +kernel
theorem d_Md_liveDay_105 : decode M_Md_liveDay.2.1 105 = .ok (.sipush 2164, 3) := by decide +kernel
theorem d_Md_liveDay_108 : decode M_Md_liveDay.2.1 108 = .ok (.dup2, 1) := by decide +kernel
theorem d_Md_liveDay_109 : decode M_Md_liveDay.2.1 109 = .ok (.iaload, 1) := by decide +kernel
theorem d_Md_liveDay_110 : decode M_Md_liveDay.2.1 110 = .ok (.iconst 1, 1) := by decide +kernel
theorem d_Md_liveDay_111 : decode M_Md_liveDay.2.1 111 = .ok (.iadd, 1) := by decide +kernel
theorem d_Md_liveDay_112 : decode M_Md_liveDay.2.1 112 = .ok (.iastore, 1) := by decide +kernel
theorem d_Md_liveDay_113 : decode M_Md_liveDay.2.1 113 = .ok (.aload_n 0, 1) := by decide +kernel
theorem d_Md_liveDay_114 : decode M_Md_liveDay.2.1 114 = .ok (.iconst 0, 1) := by decide +kernel
theorem d_Md_liveDay_115 : decode M_Md_liveDay.2.1 115 = .ok (.putfield 156, 3) := by decide +kernel
theorem d_Md_liveDay_118 : decode M_Md_liveDay.2.1 118 = .ok (.return_, 1) := by decide +kernel
def M_Md_drawOrder : mj_M := (⟨"MarketTownModel", "drawOrder", "()V"⟩, prog_13_method_34_code, 5, none, 0, 0)
theorem d_Md_drawOrder_0 : decode M_Md_drawOrder.2.1 0 = .ok (.aload_n 0, 1) := by decide +kernel
theorem d_Md_drawOrder_1 : decode M_Md_drawOrder.2.1 1 = .ok (.getfield 7, 3) := by decide +kernel
theorem d_Md_drawOrder_4 : decode M_Md_drawOrder.2.1 4 = .ok (.sipush 2163, 3) := by decide +kernel
theorem d_Md_drawOrder_7 : decode M_Md_drawOrder.2.1 7 = .ok (.iaload, 1) := by decide +kernel
theorem d_Md_drawOrder_8 : decode M_Md_drawOrder.2.1 8 = .ok (.istore_n 1, 1) := by decide +kernel
theorem d_Md_drawOrder_9 : decode M_Md_drawOrder.2.1 9 = .ok (.iconst 0, 1) := by decide +kernel
theorem d_Md_drawOrder_10 : decode M_Md_drawOrder.2.1 10 = .ok (.istore_n 2, 1) := by decide +kernel
theorem d_Md_drawOrder_11 : decode M_Md_drawOrder.2.1 11 = .ok (.iload_n 2, 1) := by decide +kernel
theorem d_Md_drawOrder_12 : decode M_Md_drawOrder.2.1 12 = .ok (.iload_n 1, 1) := by decide +kernel
theorem d_Md_drawOrder_13 : decode M_Md_drawOrder.2.1 13 = .ok (.if_icmp .ge 16, 3) := by decide +kernel
theorem d_Md_drawOrder_16 : decode M_Md_drawOrder.2.1 16 = .ok (.aload_n 0, 1) := by decide +kernel
theorem d_Md_drawOrder_17 : decode M_Md_drawOrder.2.1 17 = .ok (.getfield 44, 3) := by decide +kernel
theorem d_Md_drawOrder_20 : decode M_Md_drawOrder.2.1 20 = .ok (.iload_n 2, 1) := by decide +kernel
theorem d_Md_drawOrder_21 : decode M_Md_drawOrder.2.1 21 = .ok (.iload_n 2, 1) := by decide +kernel
theorem d_Md_drawOrder_22 : decode M_Md_drawOrder.2.1 22 = .ok (.iastore, 1) := by decide +kernel
theorem d_Md_drawOrder_23 : decode M_Md_drawOrder.2.1 23 = .ok (.iinc 2 1, 3) := by decide +kernel
theorem d_Md_drawOrder_26 : decode M_Md_drawOrder.2.1 26 = .ok (.goto (-15), 3) := by decide +kernel
theorem d_Md_drawOrder_29 : decode M_Md_drawOrder.2.1 29 = .ok (.iload_n 1, 1) := by decide +kernel
theorem d_Md_drawOrder_30 : decode M_Md_drawOrder.2.1 30 = .ok (.iconst 1, 1) := by decide +kernel
theorem d_Md_drawOrder_31 : decode M_Md_drawOrder.2.1 31 = .ok (.isub, 1) := by decide +kernel
theorem d_Md_drawOrder_32 : decode M_Md_drawOrder.2.1 32 = .ok (.istore_n 2, 1) := by decide +kernel
theorem d_Md_drawOrder_33 : decode M_Md_drawOrder.2.1 33 = .ok (.iload_n 2, 1) := by decide +kernel
theorem d_Md_drawOrder_34 : decode M_Md_drawOrder.2.1 34 = .ok (.iconst 1, 1) := by decide +kernel
theorem d_Md_drawOrder_35 : decode M_Md_drawOrder.2.1 35 = .ok (.if_icmp .lt 83, 3) := by decide +kernel
theorem d_Md_drawOrder_38 : decode M_Md_drawOrder.2.1 38 = .ok (.aload_n 0, 1) := by decide +kernel
theorem d_Md_drawOrder_39 : decode M_Md_drawOrder.2.1 39 = .ok (.getfield 7, 3) := by decide +kernel
theorem d_Md_drawOrder_42 : decode M_Md_drawOrder.2.1 42 = .ok (.sipush 2165, 3) := by decide +kernel
theorem d_Md_drawOrder_45 : decode M_Md_drawOrder.2.1 45 = .ok (.aload_n 0, 1) := by decide +kernel
theorem d_Md_drawOrder_46 : decode M_Md_drawOrder.2.1 46 = .ok (.getfield 7, 3) := by decide +kernel
theorem d_Md_drawOrder_49 : decode M_Md_drawOrder.2.1 49 = .ok (.sipush 2165, 3) := by decide +kernel
theorem d_Md_drawOrder_52 : decode M_Md_drawOrder.2.1 52 = .ok (.iaload, 1) := by decide +kernel
theorem d_Md_drawOrder_53 : decode M_Md_drawOrder.2.1 53 = .ok (.i2l, 1) := by decide +kernel
theorem d_Md_drawOrder_54 : decode M_Md_drawOrder.2.1 54 = .ok (.ldc2_w 133, 3) := by decide +kernel
theorem d_Md_drawOrder_57 : decode M_Md_drawOrder.2.1 57 = .ok (.lmul, 1) := by decide +kernel
theorem d_Md_drawOrder_58 : decode M_Md_drawOrder.2.1 58 = .ok (.ldc2_w 135, 3) := by decide +kernel
theorem d_Md_drawOrder_61 : decode M_Md_drawOrder.2.1 61 = .ok (.ladd, 1) := by decide +kernel
theorem d_Md_drawOrder_62 : decode M_Md_drawOrder.2.1 62 = .ok (.ldc2_w 137, 3) := by decide +kernel
theorem d_Md_drawOrder_65 : decode M_Md_drawOrder.2.1 65 = .ok (.lrem, 1) := by decide +kernel
theorem d_Md_drawOrder_66 : decode M_Md_drawOrder.2.1 66 = .ok (.l2i, 1) := by decide +kernel
theorem d_Md_drawOrder_67 : decode M_Md_drawOrder.2.1 67 = .ok (.iastore, 1) := by decide +kernel
theorem d_Md_drawOrder_68 : decode M_Md_drawOrder.2.1 68 = .ok (.aload_n 0, 1) := by decide +kernel
theorem d_Md_drawOrder_69 : decode M_Md_drawOrder.2.1 69 = .ok (.getfield 7, 3) := by decide +kernel
theorem d_Md_drawOrder_72 : decode M_Md_drawOrder.2.1 72 = .ok (.sipush 2165, 3) := by decide +kernel
theorem d_Md_drawOrder_75 : decode M_Md_drawOrder.2.1 75 = .ok (.iaload, 1) := by decide +kernel
theorem d_Md_drawOrder_76 : decode M_Md_drawOrder.2.1 76 = .ok (.ldc 139, 2) := by decide +kernel
theorem d_Md_drawOrder_78 : decode M_Md_drawOrder.2.1 78 = .ok (.idiv, 1) := by decide +kernel
theorem d_Md_drawOrder_79 : decode M_Md_drawOrder.2.1 79 = .ok (.iload_n 2, 1) := by decide +kernel
theorem d_Md_drawOrder_80 : decode M_Md_drawOrder.2.1 80 = .ok (.iconst 1, 1) := by decide +kernel
theorem d_Md_drawOrder_81 : decode M_Md_drawOrder.2.1 81 = .ok (.iadd, 1) := by decide +kernel
theorem d_Md_drawOrder_82 : decode M_Md_drawOrder.2.1 82 = .ok (.irem, 1) := by decide +kernel
theorem d_Md_drawOrder_83 : decode M_Md_drawOrder.2.1 83 = .ok (.istore_n 3, 1) := by decide +kernel
theorem d_Md_drawOrder_84 : decode M_Md_drawOrder.2.1 84 = .ok (.aload_n 0, 1) := by decide +kernel
theorem d_Md_drawOrder_85 : decode M_Md_drawOrder.2.1 85 = .ok (.getfield 44, 3) := by decide +kernel
theorem d_Md_drawOrder_88 : decode M_Md_drawOrder.2.1 88 = .ok (.iload_n 2, 1) := by decide +kernel
theorem d_Md_drawOrder_89 : decode M_Md_drawOrder.2.1 89 = .ok (.iaload, 1) := by decide +kernel
theorem d_Md_drawOrder_90 : decode M_Md_drawOrder.2.1 90 = .ok (.istore 4, 2) := by decide +kernel
theorem d_Md_drawOrder_92 : decode M_Md_drawOrder.2.1 92 = .ok (.aload_n 0, 1) := by decide +kernel
theorem d_Md_drawOrder_93 : decode M_Md_drawOrder.2.1 93 = .ok (.getfield 44, 3) := by decide +kernel
theorem d_Md_drawOrder_96 : decode M_Md_drawOrder.2.1 96 = .ok (.iload_n 2, 1) := by decide +kernel
theorem d_Md_drawOrder_97 : decode M_Md_drawOrder.2.1 97 = .ok (.aload_n 0, 1) := by decide +kernel
theorem d_Md_drawOrder_98 : decode M_Md_drawOrder.2.1 98 = .ok (.getfield 44, 3) := by decide +kernel
theorem d_Md_drawOrder_101 : decode M_Md_drawOrder.2.1 101 = .ok (.iload_n 3, 1) := by decide +kernel
theorem d_Md_drawOrder_102 : decode M_Md_drawOrder.2.1 102 = .ok (.iaload, 1) := by decide +kernel
theorem d_Md_drawOrder_103 : decode M_Md_drawOrder.2.1 103 = .ok (.iastore, 1) := by decide +kernel
theorem d_Md_drawOrder_104 : decode M_Md_drawOrder.2.1 104 = .ok (.aload_n 0, 1) := by decide +kernel
theorem d_Md_drawOrder_105 : decode M_Md_drawOrder.2.1 105 = .ok (.getfield 44, 3) := by decide +kernel
theorem d_Md_drawOrder_108 : decode M_Md_drawOrder.2.1 108 = .ok (.iload_n 3, 1) := by decide +kernel
theorem d_Md_drawOrder_109 : decode M_Md_drawOrder.2.1 109 = .ok (.iload 4, 2) := by decide +kernel
theorem d_Md_drawOrder_111 : decode M_Md_drawOrder.2.1 111 = .ok (.iastore, 1) := by decide +kernel
theorem d_Md_drawOrder_112 : decode M_Md_drawOrder.2.1 112 = .ok (.iinc 2 (-1), 3) := by decide +kernel
theorem d_Md_drawOrder_115 : decode M_Md_drawOrder.2.1 115 = .ok (.goto (-82), 3) := by decide +kernel
theorem d_Md_drawOrder_118 : decode M_Md_drawOrder.2.1 118 = .ok (.iconst 0, 1) := by decide +kernel
theorem d_Md_drawOrder_119 : decode M_Md_drawOrder.2.1 119 = .ok (.istore_n 2, 1) := by decide +kernel
theorem d_Md_drawOrder_120 : decode M_Md_drawOrder.2.1 120 = .ok (.iload_n 2, 1) := by decide +kernel
theorem d_Md_drawOrder_121 : decode M_Md_drawOrder.2.1 121 = .ok (.iload_n 1, 1) := by decide +kernel
theorem d_Md_drawOrder_122 : decode M_Md_drawOrder.2.1 122 = .ok (.if_icmp .ge 27, 3) := by decide +kernel
theorem d_Md_drawOrder_125 : decode M_Md_drawOrder.2.1 125 = .ok (.aload_n 0, 1) := by decide +kernel
theorem d_Md_drawOrder_126 : decode M_Md_drawOrder.2.1 126 = .ok (.getfield 7, 3) := by decide +kernel
theorem d_Md_drawOrder_129 : decode M_Md_drawOrder.2.1 129 = .ok (.iconst 0, 1) := by decide +kernel
theorem d_Md_drawOrder_130 : decode M_Md_drawOrder.2.1 130 = .ok (.iconst 5, 1) := by decide +kernel
theorem d_Md_drawOrder_131 : decode M_Md_drawOrder.2.1 131 = .ok (.aload_n 0, 1) := by decide +kernel
theorem d_Md_drawOrder_132 : decode M_Md_drawOrder.2.1 132 = .ok (.getfield 44, 3) := by decide +kernel
theorem d_Md_drawOrder_135 : decode M_Md_drawOrder.2.1 135 = .ok (.iload_n 2, 1) := by decide +kernel
theorem d_Md_drawOrder_136 : decode M_Md_drawOrder.2.1 136 = .ok (.iaload, 1) := by decide +kernel
theorem d_Md_drawOrder_137 : decode M_Md_drawOrder.2.1 137 = .ok (.imul, 1) := by decide +kernel
theorem d_Md_drawOrder_138 : decode M_Md_drawOrder.2.1 138 = .ok (.iadd, 1) := by decide +kernel
theorem d_Md_drawOrder_139 : decode M_Md_drawOrder.2.1 139 = .ok (.iconst 3, 1) := by decide +kernel
theorem d_Md_drawOrder_140 : decode M_Md_drawOrder.2.1 140 = .ok (.iadd, 1) := by decide +kernel
theorem d_Md_drawOrder_141 : decode M_Md_drawOrder.2.1 141 = .ok (.iload_n 2, 1) := by decide +kernel
theorem d_Md_drawOrder_142 : decode M_Md_drawOrder.2.1 142 = .ok (.iastore, 1) := by decide +kernel
theorem d_Md_drawOrder_143 : decode M_Md_drawOrder.2.1 143 = .ok (.iinc 2 1, 3) := by decide +kernel
theorem d_Md_drawOrder_146 : decode M_Md_drawOrder.2.1 146 = .ok (.goto (-26), 3) := by decide +kernel
theorem d_Md_drawOrder_149 : decode M_Md_drawOrder.2.1 149 = .ok (.return_, 1) := by decide +kernel
def M_Md_actAll : mj_M := (⟨"MarketTownModel", "actAll", "()V"⟩, prog_13_method_46_code, 4, none, 5, 124)
theorem d_Md_actAll_0 : decode M_Md_actAll.2.1 0 = .ok (.aload_n 0, 1) := by decide +kernel
theorem d_Md_actAll_1 : decode M_Md_actAll.2.1 1 = .ok (.iconst 0, 1) := by decide +kernel
theorem d_Md_actAll_2 : decode M_Md_actAll.2.1 2 = .ok (.putfield 156, 3) := by decide +kernel
theorem d_Md_actAll_5 : decode M_Md_actAll.2.1 5 = .ok (.iconst 0, 1) := by decide +kernel
theorem d_Md_actAll_6 : decode M_Md_actAll.2.1 6 = .ok (.istore_n 1, 1) := by decide +kernel
theorem d_Md_actAll_7 : decode M_Md_actAll.2.1 7 = .ok (.iload_n 1, 1) := by decide +kernel
theorem d_Md_actAll_8 : decode M_Md_actAll.2.1 8 = .ok (.aload_n 0, 1) := by decide +kernel
theorem d_Md_actAll_9 : decode M_Md_actAll.2.1 9 = .ok (.getfield 7, 3) := by decide +kernel
theorem d_Md_actAll_12 : decode M_Md_actAll.2.1 12 = .ok (.sipush 2163, 3) := by decide +kernel
theorem d_Md_actAll_15 : decode M_Md_actAll.2.1 15 = .ok (.iaload, 1) := by decide +kernel
theorem d_Md_actAll_16 : decode M_Md_actAll.2.1 16 = .ok (.if_icmp .ge 81, 3) := by decide +kernel
theorem d_Md_actAll_19 : decode M_Md_actAll.2.1 19 = .ok (.aload_n 0, 1) := by decide +kernel
theorem d_Md_actAll_20 : decode M_Md_actAll.2.1 20 = .ok (.getfield 44, 3) := by decide +kernel
theorem d_Md_actAll_23 : decode M_Md_actAll.2.1 23 = .ok (.iload_n 1, 1) := by decide +kernel
theorem d_Md_actAll_24 : decode M_Md_actAll.2.1 24 = .ok (.iaload, 1) := by decide +kernel
theorem d_Md_actAll_25 : decode M_Md_actAll.2.1 25 = .ok (.istore_n 2, 1) := by decide +kernel
theorem d_Md_actAll_26 : decode M_Md_actAll.2.1 26 = .ok (.iconst 0, 1) := by decide +kernel
theorem d_Md_actAll_27 : decode M_Md_actAll.2.1 27 = .ok (.istore_n 3, 1) := by decide +kernel
theorem d_Md_actAll_28 : decode M_Md_actAll.2.1 28 = .ok (.iload_n 3, 1) := by decide +kernel
theorem d_Md_actAll_29 : decode M_Md_actAll.2.1 29 = .ok (.aload_n 0, 1) := by decide +kernel
theorem d_Md_actAll_30 : decode M_Md_actAll.2.1 30 = .ok (.iload_n 2, 1) := by decide +kernel
theorem d_Md_actAll_31 : decode M_Md_actAll.2.1 31 = .ok (.invokevirtual 129, 3) := by decide +kernel
theorem d_Md_actAll_34 : decode M_Md_actAll.2.1 34 = .ok (.if_icmp .ge 57, 3) := by decide +kernel
theorem d_Md_actAll_37 : decode M_Md_actAll.2.1 37 = .ok (.aload_n 0, 1) := by decide +kernel
theorem d_Md_actAll_38 : decode M_Md_actAll.2.1 38 = .ok (.iload_n 2, 1) := by decide +kernel
theorem d_Md_actAll_39 : decode M_Md_actAll.2.1 39 = .ok (.invokevirtual 189, 3) := by decide +kernel
theorem d_Md_actAll_42 : decode M_Md_actAll.2.1 42 = .ok (.ifCond .ne 49, 3) := by decide +kernel
theorem d_Md_actAll_45 : decode M_Md_actAll.2.1 45 = .ok (.aload_n 0, 1) := by decide +kernel
theorem d_Md_actAll_46 : decode M_Md_actAll.2.1 46 = .ok (.iload_n 2, 1) := by decide +kernel
theorem d_Md_actAll_47 : decode M_Md_actAll.2.1 47 = .ok (.iload_n 3, 1) := by decide +kernel
theorem d_Md_actAll_48 : decode M_Md_actAll.2.1 48 = .ok (.invokevirtual 192, 3) := by decide +kernel
theorem d_Md_actAll_51 : decode M_Md_actAll.2.1 51 = .ok (.ifCond .eq 34, 3) := by decide +kernel
theorem d_Md_actAll_54 : decode M_Md_actAll.2.1 54 = .ok (.aload_n 0, 1) := by decide +kernel
theorem d_Md_actAll_55 : decode M_Md_actAll.2.1 55 = .ok (.getfield 7, 3) := by decide +kernel
theorem d_Md_actAll_58 : decode M_Md_actAll.2.1 58 = .ok (.sipush 660, 3) := by decide +kernel
theorem d_Md_actAll_61 : decode M_Md_actAll.2.1 61 = .ok (.bipush 9, 2) := by decide +kernel
theorem d_Md_actAll_63 : decode M_Md_actAll.2.1 63 = .ok (.bipush 6, 2) := by decide +kernel
theorem d_Md_actAll_65 : decode M_Md_actAll.2.1 65 = .ok (.iload_n 2, 1) := by decide +kernel
theorem d_Md_actAll_66 : decode M_Md_actAll.2.1 66 = .ok (.imul, 1) := by decide +kernel
theorem d_Md_actAll_67 : decode M_Md_actAll.2.1 67 = .ok (.iload_n 3, 1) := by decide +kernel
theorem d_Md_actAll_68 : decode M_Md_actAll.2.1 68 = .ok (.iadd, 1) := by decide +kernel
theorem d_Md_actAll_69 : decode M_Md_actAll.2.1 69 = .ok (.imul, 1) := by decide +kernel
theorem d_Md_actAll_70 : decode M_Md_actAll.2.1 70 = .ok (.iadd, 1) := by decide +kernel
theorem d_Md_actAll_71 : decode M_Md_actAll.2.1 71 = .ok (.bipush 8, 2) := by decide +kernel
theorem d_Md_actAll_73 : decode M_Md_actAll.2.1 73 = .ok (.iadd, 1) := by decide +kernel
theorem d_Md_actAll_74 : decode M_Md_actAll.2.1 74 = .ok (.dup2, 1) := by decide +kernel
theorem d_Md_actAll_75 : decode M_Md_actAll.2.1 75 = .ok (.iaload, 1) := by decide +kernel
theorem d_Md_actAll_76 : decode M_Md_actAll.2.1 76 = .ok (.iconst 1, 1) := by decide +kernel
theorem d_Md_actAll_77 : decode M_Md_actAll.2.1 77 = .ok (.iadd, 1) := by decide +kernel
theorem d_Md_actAll_78 : decode M_Md_actAll.2.1 78 = .ok (.iastore, 1) := by decide +kernel
theorem d_Md_actAll_79 : decode M_Md_actAll.2.1 79 = .ok (.aload_n 0, 1) := by decide +kernel
theorem d_Md_actAll_80 : decode M_Md_actAll.2.1 80 = .ok (.iload_n 2, 1) := by decide +kernel
theorem d_Md_actAll_81 : decode M_Md_actAll.2.1 81 = .ok (.iload_n 3, 1) := by decide +kernel
theorem d_Md_actAll_82 : decode M_Md_actAll.2.1 82 = .ok (.invokevirtual 195, 3) := by decide +kernel
theorem d_Md_actAll_85 : decode M_Md_actAll.2.1 85 = .ok (.iinc 3 1, 3) := by decide +kernel
theorem d_Md_actAll_88 : decode M_Md_actAll.2.1 88 = .ok (.goto (-60), 3) := by decide +kernel
theorem d_Md_actAll_91 : decode M_Md_actAll.2.1 91 = .ok (.iinc 1 1, 3) := by decide +kernel
theorem d_Md_actAll_94 : decode M_Md_actAll.2.1 94 = .ok (.goto (-87), 3) := by decide +kernel
theorem d_Md_actAll_97 : decode M_Md_actAll.2.1 97 = .ok (.return_, 1) := by decide +kernel
def M_Md_isBroke : mj_M := (⟨"MarketTownModel", "isBroke", "(I)Z"⟩, prog_13_method_7_code, 2, some .boolean, 0, 0)
theorem d_Md_isBroke_0 : decode M_Md_isBroke.2.1 0 = .ok (.aload_n 0, 1) := by decide +kernel
theorem d_Md_isBroke_1 : decode M_Md_isBroke.2.1 1 = .ok (.getfield 7, 3) := by decide +kernel
theorem d_Md_isBroke_4 : decode M_Md_isBroke.2.1 4 = .ok (.iconst 0, 1) := by decide +kernel
theorem d_Md_isBroke_5 : decode M_Md_isBroke.2.1 5 = .ok (.iconst 5, 1) := by decide +kernel
theorem d_Md_isBroke_6 : decode M_Md_isBroke.2.1 6 = .ok (.iload_n 1, 1) := by decide +kernel
theorem d_Md_isBroke_7 : decode M_Md_isBroke.2.1 7 = .ok (.imul, 1) := by decide +kernel
theorem d_Md_isBroke_8 : decode M_Md_isBroke.2.1 8 = .ok (.iadd, 1) := by decide +kernel
theorem d_Md_isBroke_9 : decode M_Md_isBroke.2.1 9 = .ok (.iconst 2, 1) := by decide +kernel
theorem d_Md_isBroke_10 : decode M_Md_isBroke.2.1 10 = .ok (.iadd, 1) := by decide +kernel
theorem d_Md_isBroke_11 : decode M_Md_isBroke.2.1 11 = .ok (.iaload, 1) := by decide +kernel
theorem d_Md_isBroke_12 : decode M_Md_isBroke.2.1 12 = .ok (.iconst 1, 1) := by decide +kernel
theorem d_Md_isBroke_13 : decode M_Md_isBroke.2.1 13 = .ok (.if_icmp .ne 7, 3) := by decide +kernel
theorem d_Md_isBroke_16 : decode M_Md_isBroke.2.1 16 = .ok (.iconst 1, 1) := by decide +kernel
theorem d_Md_isBroke_17 : decode M_Md_isBroke.2.1 17 = .ok (.goto 4, 3) := by decide +kernel
theorem d_Md_isBroke_20 : decode M_Md_isBroke.2.1 20 = .ok (.iconst 0, 1) := by decide +kernel
theorem d_Md_isBroke_21 : decode M_Md_isBroke.2.1 21 = .ok (.ireturn, 1) := by decide +kernel
def M_Md_fires : mj_M := (⟨"MarketTownModel", "fires", "(II)Z"⟩, prog_13_method_36_code, 7, some .boolean, 3, 65)
theorem d_Md_fires_0 : decode M_Md_fires.2.1 0 = .ok (.aload_n 0, 1) := by decide +kernel
theorem d_Md_fires_1 : decode M_Md_fires.2.1 1 = .ok (.iload_n 1, 1) := by decide +kernel
theorem d_Md_fires_2 : decode M_Md_fires.2.1 2 = .ok (.aload_n 0, 1) := by decide +kernel
theorem d_Md_fires_3 : decode M_Md_fires.2.1 3 = .ok (.iload_n 1, 1) := by decide +kernel
theorem d_Md_fires_4 : decode M_Md_fires.2.1 4 = .ok (.iload_n 2, 1) := by decide +kernel
theorem d_Md_fires_5 : decode M_Md_fires.2.1 5 = .ok (.iconst 0, 1) := by decide +kernel
theorem d_Md_fires_6 : decode M_Md_fires.2.1 6 = .ok (.invokevirtual 144, 3) := by decide +kernel
theorem d_Md_fires_9 : decode M_Md_fires.2.1 9 = .ok (.invokevirtual 147, 3) := by decide +kernel
theorem d_Md_fires_12 : decode M_Md_fires.2.1 12 = .ok (.ifCond .eq 22, 3) := by decide +kernel
theorem d_Md_fires_15 : decode M_Md_fires.2.1 15 = .ok (.aload_n 0, 1) := by decide +kernel
theorem d_Md_fires_16 : decode M_Md_fires.2.1 16 = .ok (.getfield 7, 3) := by decide +kernel
theorem d_Md_fires_19 : decode M_Md_fires.2.1 19 = .ok (.sipush 2164, 3) := by decide +kernel
theorem d_Md_fires_22 : decode M_Md_fires.2.1 22 = .ok (.iaload, 1) := by decide +kernel
theorem d_Md_fires_23 : decode M_Md_fires.2.1 23 = .ok (.aload_n 0, 1) := by decide +kernel
theorem d_Md_fires_24 : decode M_Md_fires.2.1 24 = .ok (.iload_n 1, 1) := by decide +kernel
theorem d_Md_fires_25 : decode M_Md_fires.2.1 25 = .ok (.iload_n 2, 1) := by decide +kernel
theorem d_Md_fires_26 : decode M_Md_fires.2.1 26 = .ok (.iconst 4, 1) := by decide +kernel
theorem d_Md_fires_27 : decode M_Md_fires.2.1 27 = .ok (.invokevirtual 144, 3) := by decide +kernel
theorem d_Md_fires_30 : decode M_Md_fires.2.1 30 = .ok (.irem, 1) := by decide +kernel
theorem d_Md_fires_31 : decode M_Md_fires.2.1 31 = .ok (.ifCond .eq 5, 3) := by decide +kernel
theorem d_Md_fires_34 : decode M_Md_fires.2.1 34 = .ok (.iconst 0, 1) := by decide +kernel
theorem d_Md_fires_35 : decode M_Md_fires.2.1 35 = .ok (.ireturn, 1) := by decide +kernel
theorem d_Md_fires_36 : decode M_Md_fires.2.1 36 = .ok (.aload_n 0, 1) := by decide +kernel
theorem d_Md_fires_37 : decode M_Md_fires.2.1 37 = .ok (.iload_n 1, 1) := by decide +kernel
theorem d_Md_fires_38 : decode M_Md_fires.2.1 38 = .ok (.iload_n 2, 1) := by decide +kernel
theorem d_Md_fires_39 : decode M_Md_fires.2.1 39 = .ok (.iconst 5, 1) := by decide +kernel
theorem d_Md_fires_40 : decode M_Md_fires.2.1 40 = .ok (.invokevirtual 144, 3) := by decide +kernel
theorem d_Md_fires_43 : decode M_Md_fires.2.1 43 = .ok (.istore_n 3, 1) := by decide +kernel
theorem d_Md_fires_44 : decode M_Md_fires.2.1 44 = .ok (.iload_n 3, 1) := by decide +kernel
theorem d_Md_fires_45 : decode M_Md_fires.2.1 45 = .ok (.ldc 68, 2) := by decide +kernel
theorem d_Md_fires_47 : decode M_Md_fires.2.1 47 = .ok (.if_icmp .ne 5, 3) := by decide +kernel
theorem d_Md_fires_50 : decode M_Md_fires.2.1 50 = .ok (.iconst 1, 1) := by decide +kernel
theorem d_Md_fires_51 : decode M_Md_fires.2.1 51 = .ok (.ireturn, 1) := by decide +kernel
theorem d_Md_fires_52 : decode M_Md_fires.2.1 52 = .ok (.aload_n 0, 1) := by decide +kernel
theorem d_Md_fires_53 : decode M_Md_fires.2.1 53 = .ok (.iload_n 1, 1) := by decide +kernel
theorem d_Md_fires_54 : decode M_Md_fires.2.1 54 = .ok (.iload_n 2, 1) := by decide +kernel
theorem d_Md_fires_55 : decode M_Md_fires.2.1 55 = .ok (.bipush 6, 2) := by decide +kernel
theorem d_Md_fires_57 : decode M_Md_fires.2.1 57 = .ok (.invokevirtual 144, 3) := by decide +kernel
theorem d_Md_fires_60 : decode M_Md_fires.2.1 60 = .ok (.istore 4, 2) := by decide +kernel
theorem d_Md_fires_62 : decode M_Md_fires.2.1 62 = .ok (.iload_n 3, 1) := by decide +kernel
theorem d_Md_fires_63 : decode M_Md_fires.2.1 63 = .ok (.iconst 4, 1) := by decide +kernel
theorem d_Md_fires_64 : decode M_Md_fires.2.1 64 = .ok (.irem, 1) := by decide +kernel
theorem d_Md_fires_65 : decode M_Md_fires.2.1 65 = .ok (.istore 5, 2) := by decide +kernel
theorem d_Md_fires_67 : decode M_Md_fires.2.1 67 = .ok (.iload 5, 2) := by decide +kernel
theorem d_Md_fires_69 : decode M_Md_fires.2.1 69 = .ok (.ifCond .ne 11, 3) := by decide +kernel
theorem d_Md_fires_72 : decode M_Md_fires.2.1 72 = .ok (.aload_n 0, 1) := by decide +kernel
theorem d_Md_fires_73 : decode M_Md_fires.2.1 73 = .ok (.iload_n 1, 1) := by decide +kernel
theorem d_Md_fires_74 : decode M_Md_fires.2.1 74 = .ok (.invokevirtual 150, 3) := by decide +kernel
theorem d_Md_fires_77 : decode M_Md_fires.2.1 77 = .ok (.goto 43, 3) := by decide +kernel
theorem d_Md_fires_80 : decode M_Md_fires.2.1 80 = .ok (.iload 5, 2) := by decide +kernel
theorem d_Md_fires_82 : decode M_Md_fires.2.1 82 = .ok (.iconst 1, 1) := by decide +kernel
theorem d_Md_fires_83 : decode M_Md_fires.2.1 83 = .ok (.if_icmp .ne 13, 3) := by decide +kernel
theorem d_Md_fires_86 : decode M_Md_fires.2.1 86 = .ok (.aload_n 0, 1) := by decide +kernel
theorem d_Md_fires_87 : decode M_Md_fires.2.1 87 = .ok (.iload_n 1, 1) := by decide +kernel
theorem d_Md_fires_88 : decode M_Md_fires.2.1 88 = .ok (.iload 4, 2) := by decide +kernel
theorem d_Md_fires_90 : decode M_Md_fires.2.1 90 = .ok (.invokevirtual 76, 3) := by decide +kernel
theorem d_Md_fires_93 : decode M_Md_fires.2.1 93 = .ok (.goto 27, 3) := by decide +kernel
theorem d_Md_fires_96 : decode M_Md_fires.2.1 96 = .ok (.iload 5, 2) := by decide +kernel
theorem d_Md_fires_98 : decode M_Md_fires.2.1 98 = .ok (.iconst 2, 1) := by decide +kernel
theorem d_Md_fires_99 : decode M_Md_fires.2.1 99 = .ok (.if_icmp .ne 14, 3) := by decide +kernel
theorem d_Md_fires_102 : decode M_Md_fires.2.1 102 = .ok (.aload_n 0, 1) := by decide +kernel
theorem d_Md_fires_103 : decode M_Md_fires.2.1 103 = .ok (.getfield 7, 3) := by decide +kernel
theorem d_Md_fires_106 : decode M_Md_fires.2.1 106 = .ok (.sipush 2164, 3) := by decide +kernel
theorem d_Md_fires_109 : decode M_Md_fires.2.1 109 = .ok (.iaload, 1) := by decide +kernel
theorem d_Md_fires_110 : decode M_Md_fires.2.1 110 = .ok (.goto 10, 3) := by decide +kernel
theorem d_Md_fires_113 : decode M_Md_fires.2.1 113 = .ok (.aload_n 0, 1) := by decide +kernel
theorem d_Md_fires_114 : decode M_Md_fires.2.1 114 = .ok (.iload 4, 2) := by decide +kernel
theorem d_Md_fires_116 : decode M_Md_fires.2.1 116 = .ok (.iconst 2, 1) := by decide +kernel
theorem d_Md_fires_117 : decode M_Md_fires.2.1 117 = .ok (.invokevirtual 153, 3) := by decide +kernel
theorem d_Md_fires_120 : decode M_Md_fires.2.1 120 = .ok (.istore 6, 2) := by decide +kernel
theorem d_Md_fires_122 : decode M_Md_fires.2.1 122 = .ok (.iload_n 3, 1) := by decide +kernel
theorem d_Md_fires_123 : decode M_Md_fires.2.1 123 = .ok (.iconst 4, 1) := by decide +kernel
theorem d_Md_fires_124 : decode M_Md_fires.2.1 124 = .ok (.if_icmp .ge 24, 3) := by decide +kernel
theorem d_Md_fires_127 : decode M_Md_fires.2.1 127 = .ok (.iload 6, 2) := by decide +kernel
theorem d_Md_fires_129 : decode M_Md_fires.2.1 129 = .ok (.aload_n 0, 1) := by decide +kernel
theorem d_Md_fires_130 : decode M_Md_fires.2.1 130 = .ok (.iload_n 1, 1) := by decide +kernel
theorem d_Md_fires_131 : decode M_Md_fires.2.1 131 = .ok (.iload_n 2, 1) := by decide +kernel
theorem d_Md_fires_132 : decode M_Md_fires.2.1 132 = .ok (.bipush 7, 2) := by decide +kernel
theorem d_Md_fires_134 : decode M_Md_fires.2.1 134 = .ok (.invokevirtual 144, 3) := by decide +kernel
theorem d_Md_fires_137 : decode M_Md_fires.2.1 137 = .ok (.if_icmp .ge 7, 3) := by decide +kernel
theorem d_Md_fires_140 : decode M_Md_fires.2.1 140 = .ok (.iconst 1, 1) := by decide +kernel
theorem d_Md_fires_141 : decode M_Md_fires.2.1 141 = .ok (.goto 25, 3) := by decide +kernel
theorem d_Md_fires_144 : decode M_Md_fires.2.1 144 = .ok (.iconst 0, 1) := by decide +kernel
theorem d_Md_fires_145 : decode M_Md_fires.2.1 145 = .ok (.goto 21, 3) := by decide +kernel
theorem d_Md_fires_148 : decode M_Md_fires.2.1 148 = .ok (.iload 6, 2) := by decide +kernel
theorem d_Md_fires_150 : decode M_Md_fires.2.1 150 = .ok (.aload_n 0, 1) := by decide +kernel
theorem d_Md_fires_151 : decode M_Md_fires.2.1 151 = .ok (.iload_n 1, 1) := by decide +kernel
theorem d_Md_fires_152 : decode M_Md_fires.2.1 152 = .ok (.iload_n 2, 1) := by decide +kernel
theorem d_Md_fires_153 : decode M_Md_fires.2.1 153 = .ok (.bipush 7, 2) := by decide +kernel
theorem d_Md_fires_155 : decode M_Md_fires.2.1 155 = .ok (.invokevirtual 144, 3) := by decide +kernel
theorem d_Md_fires_158 : decode M_Md_fires.2.1 158 = .ok (.if_icmp .le 7, 3) := by decide +kernel
theorem d_Md_fires_161 : decode M_Md_fires.2.1 161 = .ok (.iconst 1, 1) := by decide +kernel
theorem d_Md_fires_162 : decode M_Md_fires.2.1 162 = .ok (.goto 4, 3) := by decide +kernel
theorem d_Md_fires_165 : decode M_Md_fires.2.1 165 = .ok (.iconst 0, 1) := by decide +kernel
theorem d_Md_fires_166 : decode M_Md_fires.2.1 166 = .ok (.ireturn, 1) := by decide +kernel
def M_Md_ruleIs : mj_M := (⟨"MarketTownModel", "ruleIs", "(III)I"⟩, prog_13_method_33_code, 4, some .int, 0, 0)
theorem d_Md_ruleIs_0 : decode M_Md_ruleIs.2.1 0 = .ok (.aload_n 0, 1) := by decide +kernel
theorem d_Md_ruleIs_1 : decode M_Md_ruleIs.2.1 1 = .ok (.getfield 7, 3) := by decide +kernel
theorem d_Md_ruleIs_4 : decode M_Md_ruleIs.2.1 4 = .ok (.sipush 660, 3) := by decide +kernel
theorem d_Md_ruleIs_7 : decode M_Md_ruleIs.2.1 7 = .ok (.bipush 9, 2) := by decide +kernel
theorem d_Md_ruleIs_9 : decode M_Md_ruleIs.2.1 9 = .ok (.bipush 6, 2) := by decide +kernel
theorem d_Md_ruleIs_11 : decode M_Md_ruleIs.2.1 11 = .ok (.iload_n 1, 1) := by decide +kernel
theorem d_Md_ruleIs_12 : decode M_Md_ruleIs.2.1 12 = .ok (.imul, 1) := by decide +kernel
theorem d_Md_ruleIs_13 : decode M_Md_ruleIs.2.1 13 = .ok (.iload_n 2, 1) := by decide +kernel
theorem d_Md_ruleIs_14 : decode M_Md_ruleIs.2.1 14 = .ok (.iadd, 1) := by decide +kernel
theorem d_Md_ruleIs_15 : decode M_Md_ruleIs.2.1 15 = .ok (.imul, 1) := by decide +kernel
theorem d_Md_ruleIs_16 : decode M_Md_ruleIs.2.1 16 = .ok (.iadd, 1) := by decide +kernel
theorem d_Md_ruleIs_17 : decode M_Md_ruleIs.2.1 17 = .ok (.iload_n 3, 1) := by decide +kernel
theorem d_Md_ruleIs_18 : decode M_Md_ruleIs.2.1 18 = .ok (.iadd, 1) := by decide +kernel
theorem d_Md_ruleIs_19 : decode M_Md_ruleIs.2.1 19 = .ok (.iaload, 1) := by decide +kernel
theorem d_Md_ruleIs_20 : decode M_Md_ruleIs.2.1 20 = .ok (.ireturn, 1) := by decide +kernel
def M_Md_mayDo : mj_M := (⟨"MarketTownModel", "mayDo", "(II)Z"⟩, prog_13_method_35_code, 3, some .boolean, 2, 43)
theorem d_Md_mayDo_0 : decode M_Md_mayDo.2.1 0 = .ok (.iload_n 2, 1) := by decide +kernel
theorem d_Md_mayDo_1 : decode M_Md_mayDo.2.1 1 = .ok (.ifCond .ne 12, 3) := by decide +kernel
theorem d_Md_mayDo_4 : decode M_Md_mayDo.2.1 4 = .ok (.aload_n 0, 1) := by decide +kernel
theorem d_Md_mayDo_5 : decode M_Md_mayDo.2.1 5 = .ok (.iload_n 1, 1) := by decide +kernel
theorem d_Md_mayDo_6 : decode M_Md_mayDo.2.1 6 = .ok (.iconst 2, 1) := by decide +kernel
theorem d_Md_mayDo_7 : decode M_Md_mayDo.2.1 7 = .ok (.invokevirtual 140, 3) := by decide +kernel
theorem d_Md_mayDo_10 : decode M_Md_mayDo.2.1 10 = .ok (.goto 53, 3) := by decide +kernel
theorem d_Md_mayDo_13 : decode M_Md_mayDo.2.1 13 = .ok (.iload_n 2, 1) := by decide +kernel
theorem d_Md_mayDo_14 : decode M_Md_mayDo.2.1 14 = .ok (.iconst 1, 1) := by decide +kernel
theorem d_Md_mayDo_15 : decode M_Md_mayDo.2.1 15 = .ok (.if_icmp .ne 20, 3) := by decide +kernel
theorem d_Md_mayDo_18 : decode M_Md_mayDo.2.1 18 = .ok (.aload_n 0, 1) := by decide +kernel
theorem d_Md_mayDo_19 : decode M_Md_mayDo.2.1 19 = .ok (.iload_n 1, 1) := by decide +kernel
theorem d_Md_mayDo_20 : decode M_Md_mayDo.2.1 20 = .ok (.invokevirtual 61, 3) := by decide +kernel
theorem d_Md_mayDo_23 : decode M_Md_mayDo.2.1 23 = .ok (.iconst 1, 1) := by decide +kernel
theorem d_Md_mayDo_24 : decode M_Md_mayDo.2.1 24 = .ok (.if_icmp .ne 7, 3) := by decide +kernel
theorem d_Md_mayDo_27 : decode M_Md_mayDo.2.1 27 = .ok (.iconst 1, 1) := by decide +kernel
theorem d_Md_mayDo_28 : decode M_Md_mayDo.2.1 28 = .ok (.goto 35, 3) := by decide +kernel
theorem d_Md_mayDo_31 : decode M_Md_mayDo.2.1 31 = .ok (.iconst 0, 1) := by decide +kernel
theorem d_Md_mayDo_32 : decode M_Md_mayDo.2.1 32 = .ok (.goto 31, 3) := by decide +kernel
theorem d_Md_mayDo_35 : decode M_Md_mayDo.2.1 35 = .ok (.iload_n 2, 1) := by decide +kernel
theorem d_Md_mayDo_36 : decode M_Md_mayDo.2.1 36 = .ok (.iconst 5, 1) := by decide +kernel
theorem d_Md_mayDo_37 : decode M_Md_mayDo.2.1 37 = .ok (.if_icmp .ne 21, 3) := by decide +kernel
theorem d_Md_mayDo_40 : decode M_Md_mayDo.2.1 40 = .ok (.aload_n 0, 1) := by decide +kernel
theorem d_Md_mayDo_41 : decode M_Md_mayDo.2.1 41 = .ok (.iload_n 1, 1) := by decide +kernel
theorem d_Md_mayDo_42 : decode M_Md_mayDo.2.1 42 = .ok (.invokevirtual 61, 3) := by decide +kernel
theorem d_Md_mayDo_45 : decode M_Md_mayDo.2.1 45 = .ok (.iconst 4, 1) := by decide +kernel
theorem d_Md_mayDo_46 : decode M_Md_mayDo.2.1 46 = .ok (.if_icmp .eq 12, 3) := by decide +kernel
theorem d_Md_mayDo_49 : decode M_Md_mayDo.2.1 49 = .ok (.aload_n 0, 1) := by decide +kernel
theorem d_Md_mayDo_50 : decode M_Md_mayDo.2.1 50 = .ok (.iload_n 1, 1) := by decide +kernel
theorem d_Md_mayDo_51 : decode M_Md_mayDo.2.1 51 = .ok (.invokevirtual 61, 3) := by decide +kernel
theorem d_Md_mayDo_54 : decode M_Md_mayDo.2.1 54 = .ok (.iconst 5, 1) := by decide +kernel
theorem d_Md_mayDo_55 : decode M_Md_mayDo.2.1 55 = .ok (.if_icmp .ne 7, 3) := by decide +kernel
theorem d_Md_mayDo_58 : decode M_Md_mayDo.2.1 58 = .ok (.iconst 1, 1) := by decide +kernel
theorem d_Md_mayDo_59 : decode M_Md_mayDo.2.1 59 = .ok (.goto 4, 3) := by decide +kernel
theorem d_Md_mayDo_62 : decode M_Md_mayDo.2.1 62 = .ok (.iconst 0, 1) := by decide +kernel
theorem d_Md_mayDo_63 : decode M_Md_mayDo.2.1 63 = .ok (.ireturn, 1) := by decide +kernel
def M_Md_kind : mj_M := (⟨"MarketTownModel", "kind", "(I)I"⟩, prog_13_method_5_code, 2, some .int, 0, 0)
theorem d_Md_kind_0 : decode M_Md_kind.2.1 0 = .ok (.aload_n 0, 1) := by decide +kernel
theorem d_Md_kind_1 : decode M_Md_kind.2.1 1 = .ok (.getfield 7, 3) := by decide +kernel
theorem d_Md_kind_4 : decode M_Md_kind.2.1 4 = .ok (.iconst 0, 1) := by decide +kernel
theorem d_Md_kind_5 : decode M_Md_kind.2.1 5 = .ok (.iconst 5, 1) := by decide +kernel
theorem d_Md_kind_6 : decode M_Md_kind.2.1 6 = .ok (.iload_n 1, 1) := by decide +kernel
theorem d_Md_kind_7 : decode M_Md_kind.2.1 7 = .ok (.imul, 1) := by decide +kernel
theorem d_Md_kind_8 : decode M_Md_kind.2.1 8 = .ok (.iadd, 1) := by decide +kernel
theorem d_Md_kind_9 : decode M_Md_kind.2.1 9 = .ok (.iaload, 1) := by decide +kernel
theorem d_Md_kind_10 : decode M_Md_kind.2.1 10 = .ok (.ireturn, 1) := by decide +kernel
def M_Md_isKind : mj_M := (⟨"MarketTownModel", "isKind", "(II)Z"⟩, prog_13_method_13_code, 3, some .boolean, 1, 21)
theorem d_Md_isKind_0 : decode M_Md_isKind.2.1 0 = .ok (.iload_n 2, 1) := by decide +kernel
theorem d_Md_isKind_1 : decode M_Md_isKind.2.1 1 = .ok (.ifCond .eq 26, 3) := by decide +kernel
theorem d_Md_isKind_4 : decode M_Md_isKind.2.1 4 = .ok (.aload_n 0, 1) := by decide +kernel
theorem d_Md_isKind_5 : decode M_Md_isKind.2.1 5 = .ok (.iload_n 1, 1) := by decide +kernel
theorem d_Md_isKind_6 : decode M_Md_isKind.2.1 6 = .ok (.invokevirtual 61, 3) := by decide +kernel
theorem d_Md_isKind_9 : decode M_Md_isKind.2.1 9 = .ok (.iload_n 2, 1) := by decide +kernel
theorem d_Md_isKind_10 : decode M_Md_isKind.2.1 10 = .ok (.if_icmp .eq 17, 3) := by decide +kernel
theorem d_Md_isKind_13 : decode M_Md_isKind.2.1 13 = .ok (.iload_n 2, 1) := by decide +kernel
theorem d_Md_isKind_14 : decode M_Md_isKind.2.1 14 = .ok (.iconst 2, 1) := by decide +kernel
theorem d_Md_isKind_15 : decode M_Md_isKind.2.1 15 = .ok (.if_icmp .ne 16, 3) := by decide +kernel
theorem d_Md_isKind_18 : decode M_Md_isKind.2.1 18 = .ok (.aload_n 0, 1) := by decide +kernel
theorem d_Md_isKind_19 : decode M_Md_isKind.2.1 19 = .ok (.iload_n 1, 1) := by decide +kernel
theorem d_Md_isKind_20 : decode M_Md_isKind.2.1 20 = .ok (.invokevirtual 61, 3) := by decide +kernel
theorem d_Md_isKind_23 : decode M_Md_isKind.2.1 23 = .ok (.iconst 3, 1) := by decide +kernel
theorem d_Md_isKind_24 : decode M_Md_isKind.2.1 24 = .ok (.if_icmp .ne 7, 3) := by decide +kernel
theorem d_Md_isKind_27 : decode M_Md_isKind.2.1 27 = .ok (.iconst 1, 1) := by decide +kernel
theorem d_Md_isKind_28 : decode M_Md_isKind.2.1 28 = .ok (.goto 4, 3) := by decide +kernel
theorem d_Md_isKind_31 : decode M_Md_isKind.2.1 31 = .ok (.iconst 0, 1) := by decide +kernel
theorem d_Md_isKind_32 : decode M_Md_isKind.2.1 32 = .ok (.ireturn, 1) := by decide +kernel
def M_Md_goodIs : mj_M := (⟨"MarketTownModel", "goodIs", "(II)I"⟩, prog_13_method_11_code, 3, some .int, 0, 0)
theorem d_Md_goodIs_0 : decode M_Md_goodIs.2.1 0 = .ok (.aload_n 0, 1) := by decide +kernel
theorem d_Md_goodIs_1 : decode M_Md_goodIs.2.1 1 = .ok (.getfield 7, 3) := by decide +kernel
theorem d_Md_goodIs_4 : decode M_Md_goodIs.2.1 4 = .ok (.sipush 1308, 3) := by decide +kernel
theorem d_Md_goodIs_7 : decode M_Md_goodIs.2.1 7 = .ok (.bipush 11, 2) := by decide +kernel
theorem d_Md_goodIs_9 : decode M_Md_goodIs.2.1 9 = .ok (.iload_n 1, 1) := by decide +kernel
theorem d_Md_goodIs_10 : decode M_Md_goodIs.2.1 10 = .ok (.imul, 1) := by decide +kernel
theorem d_Md_goodIs_11 : decode M_Md_goodIs.2.1 11 = .ok (.iadd, 1) := by decide +kernel
theorem d_Md_goodIs_12 : decode M_Md_goodIs.2.1 12 = .ok (.iload_n 2, 1) := by decide +kernel
theorem d_Md_goodIs_13 : decode M_Md_goodIs.2.1 13 = .ok (.iadd, 1) := by decide +kernel
theorem d_Md_goodIs_14 : decode M_Md_goodIs.2.1 14 = .ok (.iaload, 1) := by decide +kernel
theorem d_Md_goodIs_15 : decode M_Md_goodIs.2.1 15 = .ok (.ireturn, 1) := by decide +kernel
def M_Md_cash : mj_M := (⟨"MarketTownModel", "cash", "(I)I"⟩, prog_13_method_6_code, 2, some .int, 0, 0)
theorem d_Md_cash_0 : decode M_Md_cash.2.1 0 = .ok (.aload_n 0, 1) := by decide +kernel
theorem d_Md_cash_1 : decode M_Md_cash.2.1 1 = .ok (.getfield 7, 3) := by decide +kernel
theorem d_Md_cash_4 : decode M_Md_cash.2.1 4 = .ok (.iconst 0, 1) := by decide +kernel
theorem d_Md_cash_5 : decode M_Md_cash.2.1 5 = .ok (.iconst 5, 1) := by decide +kernel
theorem d_Md_cash_6 : decode M_Md_cash.2.1 6 = .ok (.iload_n 1, 1) := by decide +kernel
theorem d_Md_cash_7 : decode M_Md_cash.2.1 7 = .ok (.imul, 1) := by decide +kernel
theorem d_Md_cash_8 : decode M_Md_cash.2.1 8 = .ok (.iadd, 1) := by decide +kernel
theorem d_Md_cash_9 : decode M_Md_cash.2.1 9 = .ok (.iconst 1, 1) := by decide +kernel
theorem d_Md_cash_10 : decode M_Md_cash.2.1 10 = .ok (.iadd, 1) := by decide +kernel
theorem d_Md_cash_11 : decode M_Md_cash.2.1 11 = .ok (.iaload, 1) := by decide +kernel
theorem d_Md_cash_12 : decode M_Md_cash.2.1 12 = .ok (.ireturn, 1) := by decide +kernel
def M_Md_act : mj_M := (⟨"MarketTownModel", "act", "(II)V"⟩, prog_13_method_45_code, 7, none, 4, 98)
theorem d_Md_act_0 : decode M_Md_act.2.1 0 = .ok (.aload_n 0, 1) := by decide +kernel
theorem d_Md_act_1 : decode M_Md_act.2.1 1 = .ok (.iload_n 1, 1) := by decide +kernel
theorem d_Md_act_2 : decode M_Md_act.2.1 2 = .ok (.iload_n 2, 1) := by decide +kernel
theorem d_Md_act_3 : decode M_Md_act.2.1 3 = .ok (.iconst 1, 1) := by decide +kernel
theorem d_Md_act_4 : decode M_Md_act.2.1 4 = .ok (.invokevirtual 144, 3) := by decide +kernel
theorem d_Md_act_7 : decode M_Md_act.2.1 7 = .ok (.istore_n 3, 1) := by decide +kernel
theorem d_Md_act_8 : decode M_Md_act.2.1 8 = .ok (.aload_n 0, 1) := by decide +kernel
theorem d_Md_act_9 : decode M_Md_act.2.1 9 = .ok (.iload_n 1, 1) := by decide +kernel
theorem d_Md_act_10 : decode M_Md_act.2.1 10 = .ok (.iload_n 2, 1) := by decide +kernel
theorem d_Md_act_11 : decode M_Md_act.2.1 11 = .ok (.iconst 2, 1) := by decide +kernel
theorem d_Md_act_12 : decode M_Md_act.2.1 12 = .ok (.invokevirtual 144, 3) := by decide +kernel
theorem d_Md_act_15 : decode M_Md_act.2.1 15 = .ok (.istore 4, 2) := by decide +kernel
theorem d_Md_act_17 : decode M_Md_act.2.1 17 = .ok (.aload_n 0, 1) := by decide +kernel
theorem d_Md_act_18 : decode M_Md_act.2.1 18 = .ok (.iload_n 1, 1) := by decide +kernel
theorem d_Md_act_19 : decode M_Md_act.2.1 19 = .ok (.iload_n 2, 1) := by decide +kernel
theorem d_Md_act_20 : decode M_Md_act.2.1 20 = .ok (.iconst 3, 1) := by decide +kernel
theorem d_Md_act_21 : decode M_Md_act.2.1 21 = .ok (.invokevirtual 144, 3) := by decide +kernel
theorem d_Md_act_24 : decode M_Md_act.2.1 24 = .ok (.istore 5, 2) := by decide +kernel
theorem d_Md_act_26 : decode M_Md_act.2.1 26 = .ok (.aload_n 0, 1) := by decide +kernel
theorem d_Md_act_27 : decode M_Md_act.2.1 27 = .ok (.iload_n 1, 1) := by decide +kernel
theorem d_Md_act_28 : decode M_Md_act.2.1 28 = .ok (.iload_n 2, 1) := by decide +kernel
theorem d_Md_act_29 : decode M_Md_act.2.1 29 = .ok (.iconst 0, 1) := by decide +kernel
theorem d_Md_act_30 : decode M_Md_act.2.1 30 = .ok (.invokevirtual 144, 3) := by decide +kernel
theorem d_Md_act_33 : decode M_Md_act.2.1 33 = .ok (.tableswitch 137 0 4 #[35, 44, 75, 96, 119], 35) := by decide +kernel
theorem d_Md_act_68 : decode M_Md_act.2.1 68 = .ok (.aload_n 0, 1) := by decide +kernel
theorem d_Md_act_69 : decode M_Md_act.2.1 69 = .ok (.iload_n 1, 1) := by decide +kernel
theorem d_Md_act_70 : decode M_Md_act.2.1 70 = .ok (.iload_n 3, 1) := by decide +kernel
theorem d_Md_act_71 : decode M_Md_act.2.1 71 = .ok (.iload 4, 2) := by decide +kernel
theorem d_Md_act_73 : decode M_Md_act.2.1 73 = .ok (.invokevirtual 179, 3) := by decide +kernel
theorem d_Md_act_76 : decode M_Md_act.2.1 76 = .ok (.return_, 1) := by decide +kernel
theorem d_Md_act_77 : decode M_Md_act.2.1 77 = .ok (.iload 4, 2) := by decide +kernel
theorem d_Md_act_79 : decode M_Md_act.2.1 79 = .ok (.aload_n 0, 1) := by decide +kernel
theorem d_Md_act_80 : decode M_Md_act.2.1 80 = .ok (.iload_n 1, 1) := by decide +kernel
theorem d_Md_act_81 : decode M_Md_act.2.1 81 = .ok (.iload_n 3, 1) := by decide +kernel
theorem d_Md_act_82 : decode M_Md_act.2.1 82 = .ok (.invokevirtual 162, 3) := by decide +kernel
theorem d_Md_act_85 : decode M_Md_act.2.1 85 = .ok (.invokestatic 159, 3) := by decide +kernel
theorem d_Md_act_88 : decode M_Md_act.2.1 88 = .ok (.istore 6, 2) := by decide +kernel
theorem d_Md_act_90 : decode M_Md_act.2.1 90 = .ok (.aload_n 0, 1) := by decide +kernel
theorem d_Md_act_91 : decode M_Md_act.2.1 91 = .ok (.iload_n 1, 1) := by decide +kernel
theorem d_Md_act_92 : decode M_Md_act.2.1 92 = .ok (.iload_n 3, 1) := by decide +kernel
theorem d_Md_act_93 : decode M_Md_act.2.1 93 = .ok (.iload 6, 2) := by decide +kernel
theorem d_Md_act_95 : decode M_Md_act.2.1 95 = .ok (.iconst (-1), 1) := by decide +kernel
theorem d_Md_act_96 : decode M_Md_act.2.1 96 = .ok (.invokevirtual 165, 3) := by decide +kernel
theorem d_Md_act_99 : decode M_Md_act.2.1 99 = .ok (.aload_n 0, 1) := by decide +kernel
theorem d_Md_act_100 : decode M_Md_act.2.1 100 = .ok (.iload_n 3, 1) := by decide +kernel
theorem d_Md_act_101 : decode M_Md_act.2.1 101 = .ok (.iconst 4, 1) := by decide +kernel
theorem d_Md_act_102 : decode M_Md_act.2.1 102 = .ok (.iload 6, 2) := by decide +kernel
theorem d_Md_act_104 : decode M_Md_act.2.1 104 = .ok (.invokevirtual 169, 3) := by decide +kernel
theorem d_Md_act_107 : decode M_Md_act.2.1 107 = .ok (.return_, 1) := by decide +kernel
theorem d_Md_act_108 : decode M_Md_act.2.1 108 = .ok (.aload_n 0, 1) := by decide +kernel
theorem d_Md_act_109 : decode M_Md_act.2.1 109 = .ok (.iload_n 1, 1) := by decide +kernel
theorem d_Md_act_110 : decode M_Md_act.2.1 110 = .ok (.iload_n 3, 1) := by decide +kernel
theorem d_Md_act_111 : decode M_Md_act.2.1 111 = .ok (.iload 4, 2) := by decide +kernel
theorem d_Md_act_113 : decode M_Md_act.2.1 113 = .ok (.aload_n 0, 1) := by decide +kernel
theorem d_Md_act_114 : decode M_Md_act.2.1 114 = .ok (.iload_n 1, 1) := by decide +kernel
theorem d_Md_act_115 : decode M_Md_act.2.1 115 = .ok (.iload_n 3, 1) := by decide +kernel
theorem d_Md_act_116 : decode M_Md_act.2.1 116 = .ok (.invokevirtual 162, 3) := by decide +kernel
theorem d_Md_act_119 : decode M_Md_act.2.1 119 = .ok (.invokestatic 159, 3) := by decide +kernel
theorem d_Md_act_122 : decode M_Md_act.2.1 122 = .ok (.iload 5, 2) := by decide +kernel
theorem d_Md_act_124 : decode M_Md_act.2.1 124 = .ok (.iconst 0, 1) := by decide +kernel
theorem d_Md_act_125 : decode M_Md_act.2.1 125 = .ok (.invokevirtual 182, 3) := by decide +kernel
theorem d_Md_act_128 : decode M_Md_act.2.1 128 = .ok (.return_, 1) := by decide +kernel
theorem d_Md_act_129 : decode M_Md_act.2.1 129 = .ok (.aload_n 0, 1) := by decide +kernel
theorem d_Md_act_130 : decode M_Md_act.2.1 130 = .ok (.iload_n 1, 1) := by decide +kernel
theorem d_Md_act_131 : decode M_Md_act.2.1 131 = .ok (.iload_n 3, 1) := by decide +kernel
theorem d_Md_act_132 : decode M_Md_act.2.1 132 = .ok (.iload 4, 2) := by decide +kernel
theorem d_Md_act_134 : decode M_Md_act.2.1 134 = .ok (.aload_n 0, 1) := by decide +kernel
theorem d_Md_act_135 : decode M_Md_act.2.1 135 = .ok (.iload_n 1, 1) := by decide +kernel
theorem d_Md_act_136 : decode M_Md_act.2.1 136 = .ok (.invokevirtual 173, 3) := by decide +kernel
theorem d_Md_act_139 : decode M_Md_act.2.1 139 = .ok (.iload 5, 2) := by decide +kernel
theorem d_Md_act_141 : decode M_Md_act.2.1 141 = .ok (.idiv, 1) := by decide +kernel
theorem d_Md_act_142 : decode M_Md_act.2.1 142 = .ok (.invokestatic 159, 3) := by decide +kernel
theorem d_Md_act_145 : decode M_Md_act.2.1 145 = .ok (.iload 5, 2) := by decide +kernel
theorem d_Md_act_147 : decode M_Md_act.2.1 147 = .ok (.iconst 1, 1) := by decide +kernel
theorem d_Md_act_148 : decode M_Md_act.2.1 148 = .ok (.invokevirtual 182, 3) := by decide +kernel
theorem d_Md_act_151 : decode M_Md_act.2.1 151 = .ok (.return_, 1) := by decide +kernel
theorem d_Md_act_152 : decode M_Md_act.2.1 152 = .ok (.aload_n 0, 1) := by decide +kernel
theorem d_Md_act_153 : decode M_Md_act.2.1 153 = .ok (.iload_n 1, 1) := by decide +kernel
theorem d_Md_act_154 : decode M_Md_act.2.1 154 = .ok (.iload_n 3, 1) := by decide +kernel
theorem d_Md_act_155 : decode M_Md_act.2.1 155 = .ok (.iload 4, 2) := by decide +kernel
theorem d_Md_act_157 : decode M_Md_act.2.1 157 = .ok (.aload_n 0, 1) := by decide +kernel
theorem d_Md_act_158 : decode M_Md_act.2.1 158 = .ok (.iload_n 1, 1) := by decide +kernel
theorem d_Md_act_159 : decode M_Md_act.2.1 159 = .ok (.invokevirtual 173, 3) := by decide +kernel
theorem d_Md_act_162 : decode M_Md_act.2.1 162 = .ok (.invokestatic 159, 3) := by decide +kernel
theorem d_Md_act_165 : decode M_Md_act.2.1 165 = .ok (.iconst 2, 1) := by decide +kernel
theorem d_Md_act_166 : decode M_Md_act.2.1 166 = .ok (.invokevirtual 176, 3) := by decide +kernel
theorem d_Md_act_169 : decode M_Md_act.2.1 169 = .ok (.return_, 1) := by decide +kernel
theorem d_Md_act_170 : decode M_Md_act.2.1 170 = .ok (.aload_n 0, 1) := by decide +kernel
theorem d_Md_act_171 : decode M_Md_act.2.1 171 = .ok (.iload_n 1, 1) := by decide +kernel
theorem d_Md_act_172 : decode M_Md_act.2.1 172 = .ok (.iload_n 3, 1) := by decide +kernel
theorem d_Md_act_173 : decode M_Md_act.2.1 173 = .ok (.iload 4, 2) := by decide +kernel
theorem d_Md_act_175 : decode M_Md_act.2.1 175 = .ok (.iload 5, 2) := by decide +kernel
theorem d_Md_act_177 : decode M_Md_act.2.1 177 = .ok (.invokevirtual 186, 3) := by decide +kernel
theorem d_Md_act_180 : decode M_Md_act.2.1 180 = .ok (.return_, 1) := by decide +kernel
def M_Md_make : mj_M := (⟨"MarketTownModel", "make", "(III)V"⟩, prog_13_method_42_code, 9, none, 3, 70)
theorem d_Md_make_0 : decode M_Md_make.2.1 0 = .ok (.aload_n 0, 1) := by decide +kernel
theorem d_Md_make_1 : decode M_Md_make.2.1 1 = .ok (.iload_n 2, 1) := by decide +kernel
theorem d_Md_make_2 : decode M_Md_make.2.1 2 = .ok (.bipush 8, 2) := by decide +kernel
theorem d_Md_make_4 : decode M_Md_make.2.1 4 = .ok (.invokevirtual 153, 3) := by decide +kernel
theorem d_Md_make_7 : decode M_Md_make.2.1 7 = .ok (.istore 4, 2) := by decide +kernel
theorem d_Md_make_9 : decode M_Md_make.2.1 9 = .ok (.iload 4, 2) := by decide +kernel
theorem d_Md_make_11 : decode M_Md_make.2.1 11 = .ok (.ifCond .ge 4, 3) := by decide +kernel
theorem d_Md_make_14 : decode M_Md_make.2.1 14 = .ok (.return_, 1) := by decide +kernel
theorem d_Md_make_15 : decode M_Md_make.2.1 15 = .ok (.aload_n 0, 1) := by decide +kernel
theorem d_Md_make_16 : decode M_Md_make.2.1 16 = .ok (.iload_n 2, 1) := by decide +kernel
theorem d_Md_make_17 : decode M_Md_make.2.1 17 = .ok (.bipush 7, 2) := by decide +kernel
theorem d_Md_make_19 : decode M_Md_make.2.1 19 = .ok (.invokevirtual 153, 3) := by decide +kernel
theorem d_Md_make_22 : decode M_Md_make.2.1 22 = .ok (.istore 5, 2) := by decide +kernel
theorem d_Md_make_24 : decode M_Md_make.2.1 24 = .ok (.aload_n 0, 1) := by decide +kernel
theorem d_Md_make_25 : decode M_Md_make.2.1 25 = .ok (.iload_n 2, 1) := by decide +kernel
theorem d_Md_make_26 : decode M_Md_make.2.1 26 = .ok (.bipush 9, 2) := by decide +kernel
theorem d_Md_make_28 : decode M_Md_make.2.1 28 = .ok (.invokevirtual 153, 3) := by decide +kernel
theorem d_Md_make_31 : decode M_Md_make.2.1 31 = .ok (.istore 6, 2) := by decide +kernel
theorem d_Md_make_33 : decode M_Md_make.2.1 33 = .ok (.aload_n 0, 1) := by decide +kernel
theorem d_Md_make_34 : decode M_Md_make.2.1 34 = .ok (.iload_n 2, 1) := by decide +kernel
theorem d_Md_make_35 : decode M_Md_make.2.1 35 = .ok (.bipush 10, 2) := by decide +kernel
theorem d_Md_make_37 : decode M_Md_make.2.1 37 = .ok (.invokevirtual 153, 3) := by decide +kernel
theorem d_Md_make_40 : decode M_Md_make.2.1 40 = .ok (.istore 7, 2) := by decide +kernel
theorem d_Md_make_42 : decode M_Md_make.2.1 42 = .ok (.iload_n 3, 1) := by decide +kernel
theorem d_Md_make_43 : decode M_Md_make.2.1 43 = .ok (.istore 8, 2) := by decide +kernel
theorem d_Md_make_45 : decode M_Md_make.2.1 45 = .ok (.iload 5, 2) := by decide +kernel
theorem d_Md_make_47 : decode M_Md_make.2.1 47 = .ok (.iload 6, 2) := by decide +kernel
theorem d_Md_make_49 : decode M_Md_make.2.1 49 = .ok (.if_icmp .ne 39, 3) := by decide +kernel
theorem d_Md_make_52 : decode M_Md_make.2.1 52 = .ok (.iload 4, 2) := by decide +kernel
theorem d_Md_make_54 : decode M_Md_make.2.1 54 = .ok (.iload 7, 2) := by decide +kernel
theorem d_Md_make_56 : decode M_Md_make.2.1 56 = .ok (.iadd, 1) := by decide +kernel
theorem d_Md_make_57 : decode M_Md_make.2.1 57 = .ok (.ifCond .le 24, 3) := by decide +kernel
theorem d_Md_make_60 : decode M_Md_make.2.1 60 = .ok (.iload 8, 2) := by decide +kernel
theorem d_Md_make_62 : decode M_Md_make.2.1 62 = .ok (.aload_n 0, 1) := by decide +kernel
theorem d_Md_make_63 : decode M_Md_make.2.1 63 = .ok (.iload_n 1, 1) := by decide +kernel
theorem d_Md_make_64 : decode M_Md_make.2.1 64 = .ok (.iload 5, 2) := by decide +kernel
theorem d_Md_make_66 : decode M_Md_make.2.1 66 = .ok (.invokevirtual 162, 3) := by decide +kernel
theorem d_Md_make_69 : decode M_Md_make.2.1 69 = .ok (.iload 4, 2) := by decide +kernel
theorem d_Md_make_71 : decode M_Md_make.2.1 71 = .ok (.iload 7, 2) := by decide +kernel
theorem d_Md_make_73 : decode M_Md_make.2.1 73 = .ok (.iadd, 1) := by decide +kernel
theorem d_Md_make_74 : decode M_Md_make.2.1 74 = .ok (.idiv, 1) := by decide +kernel
theorem d_Md_make_75 : decode M_Md_make.2.1 75 = .ok (.invokestatic 159, 3) := by decide +kernel
theorem d_Md_make_78 : decode M_Md_make.2.1 78 = .ok (.goto 5, 3) := by decide +kernel
theorem d_Md_make_81 : decode M_Md_make.2.1 81 = .ok (.iload 8, 2) := by decide +kernel
theorem d_Md_make_83 : decode M_Md_make.2.1 83 = .ok (.istore 8, 2) := by decide +kernel
theorem d_Md_make_85 : decode M_Md_make.2.1 85 = .ok (.goto 57, 3) := by decide +kernel
theorem d_Md_make_88 : decode M_Md_make.2.1 88 = .ok (.iload 4, 2) := by decide +kernel
theorem d_Md_make_90 : decode M_Md_make.2.1 90 = .ok (.ifCond .le 21, 3) := by decide +kernel
theorem d_Md_make_93 : decode M_Md_make.2.1 93 = .ok (.iload 8, 2) := by decide +kernel
theorem d_Md_make_95 : decode M_Md_make.2.1 95 = .ok (.aload_n 0, 1) := by decide +kernel
theorem d_Md_make_96 : decode M_Md_make.2.1 96 = .ok (.iload_n 1, 1) := by decide +kernel
theorem d_Md_make_97 : decode M_Md_make.2.1 97 = .ok (.iload 5, 2) := by decide +kernel
theorem d_Md_make_99 : decode M_Md_make.2.1 99 = .ok (.invokevirtual 162, 3) := by decide +kernel
theorem d_Md_make_102 : decode M_Md_make.2.1 102 = .ok (.iload 4, 2) := by decide +kernel
theorem d_Md_make_104 : decode M_Md_make.2.1 104 = .ok (.idiv, 1) := by decide +kernel
theorem d_Md_make_105 : decode M_Md_make.2.1 105 = .ok (.invokestatic 159, 3) := by decide +kernel
theorem d_Md_make_108 : decode M_Md_make.2.1 108 = .ok (.goto 5, 3) := by decide +kernel
theorem d_Md_make_111 : decode M_Md_make.2.1 111 = .ok (.iload 8, 2) := by decide +kernel
theorem d_Md_make_113 : decode M_Md_make.2.1 113 = .ok (.istore 8, 2) := by decide +kernel
theorem d_Md_make_115 : decode M_Md_make.2.1 115 = .ok (.iload 7, 2) := by decide +kernel
theorem d_Md_make_117 : decode M_Md_make.2.1 117 = .ok (.ifCond .le 21, 3) := by decide +kernel
theorem d_Md_make_120 : decode M_Md_make.2.1 120 = .ok (.iload 8, 2) := by decide +kernel
theorem d_Md_make_122 : decode M_Md_make.2.1 122 = .ok (.aload_n 0, 1) := by decide +kernel
theorem d_Md_make_123 : decode M_Md_make.2.1 123 = .ok (.iload_n 1, 1) := by decide +kernel
theorem d_Md_make_124 : decode M_Md_make.2.1 124 = .ok (.iload 6, 2) := by decide +kernel
theorem d_Md_make_126 : decode M_Md_make.2.1 126 = .ok (.invokevirtual 162, 3) := by decide +kernel
theorem d_Md_make_129 : decode M_Md_make.2.1 129 = .ok (.iload 7, 2) := by decide +kernel
theorem d_Md_make_131 : decode M_Md_make.2.1 131 = .ok (.idiv, 1) := by decide +kernel
theorem d_Md_make_132 : decode M_Md_make.2.1 132 = .ok (.invokestatic 159, 3) := by decide +kernel
theorem d_Md_make_135 : decode M_Md_make.2.1 135 = .ok (.goto 5, 3) := by decide +kernel
theorem d_Md_make_138 : decode M_Md_make.2.1 138 = .ok (.iload 8, 2) := by decide +kernel
theorem d_Md_make_140 : decode M_Md_make.2.1 140 = .ok (.istore 8, 2) := by decide +kernel
theorem d_Md_make_142 : decode M_Md_make.2.1 142 = .ok (.aload_n 0, 1) := by decide +kernel
theorem d_Md_make_143 : decode M_Md_make.2.1 143 = .ok (.iload_n 1, 1) := by decide +kernel
theorem d_Md_make_144 : decode M_Md_make.2.1 144 = .ok (.iload 5, 2) := by decide +kernel
theorem d_Md_make_146 : decode M_Md_make.2.1 146 = .ok (.iload 8, 2) := by decide +kernel
theorem d_Md_make_148 : decode M_Md_make.2.1 148 = .ok (.iload 4, 2) := by decide +kernel
theorem d_Md_make_150 : decode M_Md_make.2.1 150 = .ok (.imul, 1) := by decide +kernel
theorem d_Md_make_151 : decode M_Md_make.2.1 151 = .ok (.iconst (-1), 1) := by decide +kernel
theorem d_Md_make_152 : decode M_Md_make.2.1 152 = .ok (.invokevirtual 165, 3) := by decide +kernel
theorem d_Md_make_155 : decode M_Md_make.2.1 155 = .ok (.aload_n 0, 1) := by decide +kernel
theorem d_Md_make_156 : decode M_Md_make.2.1 156 = .ok (.iload_n 1, 1) := by decide +kernel
theorem d_Md_make_157 : decode M_Md_make.2.1 157 = .ok (.iload 6, 2) := by decide +kernel
theorem d_Md_make_159 : decode M_Md_make.2.1 159 = .ok (.iload 8, 2) := by decide +kernel
theorem d_Md_make_161 : decode M_Md_make.2.1 161 = .ok (.iload 7, 2) := by decide +kernel
theorem d_Md_make_163 : decode M_Md_make.2.1 163 = .ok (.imul, 1) := by decide +kernel
theorem d_Md_make_164 : decode M_Md_make.2.1 164 = .ok (.iconst (-1), 1) := by decide +kernel
theorem d_Md_make_165 : decode M_Md_make.2.1 165 = .ok (.invokevirtual 165, 3) := by decide +kernel
theorem d_Md_make_168 : decode M_Md_make.2.1 168 = .ok (.aload_n 0, 1) := by decide +kernel
theorem d_Md_make_169 : decode M_Md_make.2.1 169 = .ok (.getfield 7, 3) := by decide +kernel
theorem d_Md_make_172 : decode M_Md_make.2.1 172 = .ok (.iload_n 1, 1) := by decide +kernel
theorem d_Md_make_173 : decode M_Md_make.2.1 173 = .ok (.iload_n 2, 1) := by decide +kernel
theorem d_Md_make_174 : decode M_Md_make.2.1 174 = .ok (.iconst 0, 1) := by decide +kernel
theorem d_Md_make_175 : decode M_Md_make.2.1 175 = .ok (.invokestatic 57, 3) := by decide +kernel
theorem d_Md_make_178 : decode M_Md_make.2.1 178 = .ok (.dup2, 1) := by decide +kernel
theorem d_Md_make_179 : decode M_Md_make.2.1 179 = .ok (.iaload, 1) := by decide +kernel
theorem d_Md_make_180 : decode M_Md_make.2.1 180 = .ok (.iload 8, 2) := by decide +kernel
theorem d_Md_make_182 : decode M_Md_make.2.1 182 = .ok (.iadd, 1) := by decide +kernel
theorem d_Md_make_183 : decode M_Md_make.2.1 183 = .ok (.iastore, 1) := by decide +kernel
theorem d_Md_make_184 : decode M_Md_make.2.1 184 = .ok (.aload_n 0, 1) := by decide +kernel
theorem d_Md_make_185 : decode M_Md_make.2.1 185 = .ok (.iload_n 2, 1) := by decide +kernel
theorem d_Md_make_186 : decode M_Md_make.2.1 186 = .ok (.iconst 5, 1) := by decide +kernel
theorem d_Md_make_187 : decode M_Md_make.2.1 187 = .ok (.iload 8, 2) := by decide +kernel
theorem d_Md_make_189 : decode M_Md_make.2.1 189 = .ok (.invokevirtual 169, 3) := by decide +kernel
theorem d_Md_make_192 : decode M_Md_make.2.1 192 = .ok (.return_, 1) := by decide +kernel
def M_Md_freeOf : mj_M := (⟨"MarketTownModel", "freeOf", "(II)I"⟩, prog_13_method_37_code, 5, some .int, 2, 46)
theorem d_Md_freeOf_0 : decode M_Md_freeOf.2.1 0 = .ok (.aload_n 0, 1) := by decide +kernel
theorem d_Md_freeOf_1 : decode M_Md_freeOf.2.1 1 = .ok (.iload_n 1, 1) := by decide +kernel
theorem d_Md_freeOf_2 : decode M_Md_freeOf.2.1 2 = .ok (.iload_n 2, 1) := by decide +kernel
theorem d_Md_freeOf_3 : decode M_Md_freeOf.2.1 3 = .ok (.invokevirtual 76, 3) := by decide +kernel
theorem d_Md_freeOf_6 : decode M_Md_freeOf.2.1 6 = .ok (.istore_n 3, 1) := by decide +kernel
theorem d_Md_freeOf_7 : decode M_Md_freeOf.2.1 7 = .ok (.iconst 0, 1) := by decide +kernel
theorem d_Md_freeOf_8 : decode M_Md_freeOf.2.1 8 = .ok (.istore 4, 2) := by decide +kernel
theorem d_Md_freeOf_10 : decode M_Md_freeOf.2.1 10 = .ok (.iload 4, 2) := by decide +kernel
theorem d_Md_freeOf_12 : decode M_Md_freeOf.2.1 12 = .ok (.aload_n 0, 1) := by decide +kernel
theorem d_Md_freeOf_13 : decode M_Md_freeOf.2.1 13 = .ok (.getfield 156, 3) := by decide +kernel
theorem d_Md_freeOf_16 : decode M_Md_freeOf.2.1 16 = .ok (.if_icmp .ge 55, 3) := by decide +kernel
theorem d_Md_freeOf_19 : decode M_Md_freeOf.2.1 19 = .ok (.iload_n 3, 1) := by decide +kernel
theorem d_Md_freeOf_20 : decode M_Md_freeOf.2.1 20 = .ok (.aload_n 0, 1) := by decide +kernel
theorem d_Md_freeOf_21 : decode M_Md_freeOf.2.1 21 = .ok (.getfield 35, 3) := by decide +kernel
theorem d_Md_freeOf_24 : decode M_Md_freeOf.2.1 24 = .ok (.iload 4, 2) := by decide +kernel
theorem d_Md_freeOf_26 : decode M_Md_freeOf.2.1 26 = .ok (.baload, 1) := by decide +kernel
theorem d_Md_freeOf_27 : decode M_Md_freeOf.2.1 27 = .ok (.ifCond .ne 35, 3) := by decide +kernel
theorem d_Md_freeOf_30 : decode M_Md_freeOf.2.1 30 = .ok (.aload_n 0, 1) := by decide +kernel
theorem d_Md_freeOf_31 : decode M_Md_freeOf.2.1 31 = .ok (.getfield 23, 3) := by decide +kernel
theorem d_Md_freeOf_34 : decode M_Md_freeOf.2.1 34 = .ok (.iload 4, 2) := by decide +kernel
theorem d_Md_freeOf_36 : decode M_Md_freeOf.2.1 36 = .ok (.iaload, 1) := by decide +kernel
theorem d_Md_freeOf_37 : decode M_Md_freeOf.2.1 37 = .ok (.iload_n 1, 1) := by decide +kernel
theorem d_Md_freeOf_38 : decode M_Md_freeOf.2.1 38 = .ok (.if_icmp .ne 24, 3) := by decide +kernel
theorem d_Md_freeOf_41 : decode M_Md_freeOf.2.1 41 = .ok (.aload_n 0, 1) := by decide +kernel
theorem d_Md_freeOf_42 : decode M_Md_freeOf.2.1 42 = .ok (.getfield 26, 3) := by decide +kernel
theorem d_Md_freeOf_45 : decode M_Md_freeOf.2.1 45 = .ok (.iload 4, 2) := by decide +kernel
theorem d_Md_freeOf_47 : decode M_Md_freeOf.2.1 47 = .ok (.iaload, 1) := by decide +kernel
theorem d_Md_freeOf_48 : decode M_Md_freeOf.2.1 48 = .ok (.iload_n 2, 1) := by decide +kernel
theorem d_Md_freeOf_49 : decode M_Md_freeOf.2.1 49 = .ok (.if_icmp .ne 13, 3) := by decide +kernel
theorem d_Md_freeOf_52 : decode M_Md_freeOf.2.1 52 = .ok (.aload_n 0, 1) := by decide +kernel
theorem d_Md_freeOf_53 : decode M_Md_freeOf.2.1 53 = .ok (.getfield 29, 3) := by decide +kernel
theorem d_Md_freeOf_56 : decode M_Md_freeOf.2.1 56 = .ok (.iload 4, 2) := by decide +kernel
theorem d_Md_freeOf_58 : decode M_Md_freeOf.2.1 58 = .ok (.iaload, 1) := by decide +kernel
theorem d_Md_freeOf_59 : decode M_Md_freeOf.2.1 59 = .ok (.goto 4, 3) := by decide +kernel
theorem d_Md_freeOf_62 : decode M_Md_freeOf.2.1 62 = .ok (.iconst 0, 1) := by decide +kernel
theorem d_Md_freeOf_63 : decode M_Md_freeOf.2.1 63 = .ok (.isub, 1) := by decide +kernel
theorem d_Md_freeOf_64 : decode M_Md_freeOf.2.1 64 = .ok (.istore_n 3, 1) := by decide +kernel
theorem d_Md_freeOf_65 : decode M_Md_freeOf.2.1 65 = .ok (.iinc 4 1, 3) := by decide +kernel
theorem d_Md_freeOf_68 : decode M_Md_freeOf.2.1 68 = .ok (.goto (-58), 3) := by decide +kernel
theorem d_Md_freeOf_71 : decode M_Md_freeOf.2.1 71 = .ok (.iload_n 3, 1) := by decide +kernel
theorem d_Md_freeOf_72 : decode M_Md_freeOf.2.1 72 = .ok (.ireturn, 1) := by decide +kernel
def M_Md_less : mj_M := (⟨"MarketTownModel", "less", "(II)I"⟩, prog_13_method_39_code, 2, some .int, 0, 0)
theorem d_Md_less_0 : decode M_Md_less.2.1 0 = .ok (.iload_n 0, 1) := by decide +kernel
theorem d_Md_less_1 : decode M_Md_less.2.1 1 = .ok (.iload_n 1, 1) := by decide +kernel
theorem d_Md_less_2 : decode M_Md_less.2.1 2 = .ok (.if_icmp .ge 7, 3) := by decide +kernel
theorem d_Md_less_5 : decode M_Md_less.2.1 5 = .ok (.iload_n 0, 1) := by decide +kernel
theorem d_Md_less_6 : decode M_Md_less.2.1 6 = .ok (.goto 4, 3) := by decide +kernel
theorem d_Md_less_9 : decode M_Md_less.2.1 9 = .ok (.iload_n 1, 1) := by decide +kernel
theorem d_Md_less_10 : decode M_Md_less.2.1 10 = .ok (.ireturn, 1) := by decide +kernel
def M_Md_go : mj_M := (⟨"MarketTownModel", "go", "(IIII)V"⟩, prog_13_method_40_code, 8, none, 1, 22)
theorem d_Md_go_0 : decode M_Md_go.2.1 0 = .ok (.iload_n 3, 1) := by decide +kernel
theorem d_Md_go_1 : decode M_Md_go.2.1 1 = .ok (.istore 5, 2) := by decide +kernel
theorem d_Md_go_3 : decode M_Md_go.2.1 3 = .ok (.bipush 9, 2) := by decide +kernel
theorem d_Md_go_5 : decode M_Md_go.2.1 5 = .ok (.istore 6, 2) := by decide +kernel
theorem d_Md_go_7 : decode M_Md_go.2.1 7 = .ok (.iload 6, 2) := by decide +kernel
theorem d_Md_go_9 : decode M_Md_go.2.1 9 = .ok (.ifCond .lt 66, 3) := by decide +kernel
theorem d_Md_go_12 : decode M_Md_go.2.1 12 = .ok (.iload 5, 2) := by decide +kernel
theorem d_Md_go_14 : decode M_Md_go.2.1 14 = .ok (.aload_n 0, 1) := by decide +kernel
theorem d_Md_go_15 : decode M_Md_go.2.1 15 = .ok (.getfield 7, 3) := by decide +kernel
theorem d_Md_go_18 : decode M_Md_go.2.1 18 = .ok (.iload_n 1, 1) := by decide +kernel
theorem d_Md_go_19 : decode M_Md_go.2.1 19 = .ok (.iload_n 2, 1) := by decide +kernel
theorem d_Md_go_20 : decode M_Md_go.2.1 20 = .ok (.iload 6, 2) := by decide +kernel
theorem d_Md_go_22 : decode M_Md_go.2.1 22 = .ok (.invokestatic 57, 3) := by decide +kernel
theorem d_Md_go_25 : decode M_Md_go.2.1 25 = .ok (.iaload, 1) := by decide +kernel
theorem d_Md_go_26 : decode M_Md_go.2.1 26 = .ok (.invokestatic 159, 3) := by decide +kernel
theorem d_Md_go_29 : decode M_Md_go.2.1 29 = .ok (.istore 7, 2) := by decide +kernel
theorem d_Md_go_31 : decode M_Md_go.2.1 31 = .ok (.aload_n 0, 1) := by decide +kernel
theorem d_Md_go_32 : decode M_Md_go.2.1 32 = .ok (.getfield 7, 3) := by decide +kernel
theorem d_Md_go_35 : decode M_Md_go.2.1 35 = .ok (.iload_n 1, 1) := by decide +kernel
theorem d_Md_go_36 : decode M_Md_go.2.1 36 = .ok (.iload_n 2, 1) := by decide +kernel
theorem d_Md_go_37 : decode M_Md_go.2.1 37 = .ok (.iload 6, 2) := by decide +kernel
theorem d_Md_go_39 : decode M_Md_go.2.1 39 = .ok (.invokestatic 57, 3) := by decide +kernel
theorem d_Md_go_42 : decode M_Md_go.2.1 42 = .ok (.dup2, 1) := by decide +kernel
theorem d_Md_go_43 : decode M_Md_go.2.1 43 = .ok (.iaload, 1) := by decide +kernel
theorem d_Md_go_44 : decode M_Md_go.2.1 44 = .ok (.iload 7, 2) := by decide +kernel
theorem d_Md_go_46 : decode M_Md_go.2.1 46 = .ok (.isub, 1) := by decide +kernel
theorem d_Md_go_47 : decode M_Md_go.2.1 47 = .ok (.iastore, 1) := by decide +kernel
theorem d_Md_go_48 : decode M_Md_go.2.1 48 = .ok (.iload 4, 2) := by decide +kernel
theorem d_Md_go_50 : decode M_Md_go.2.1 50 = .ok (.ifCond .lt 12, 3) := by decide +kernel
theorem d_Md_go_53 : decode M_Md_go.2.1 53 = .ok (.aload_n 0, 1) := by decide +kernel
theorem d_Md_go_54 : decode M_Md_go.2.1 54 = .ok (.getfield 47, 3) := by decide +kernel
theorem d_Md_go_57 : decode M_Md_go.2.1 57 = .ok (.iload 6, 2) := by decide +kernel
theorem d_Md_go_59 : decode M_Md_go.2.1 59 = .ok (.iload 7, 2) := by decide +kernel
theorem d_Md_go_61 : decode M_Md_go.2.1 61 = .ok (.iastore, 1) := by decide +kernel
theorem d_Md_go_62 : decode M_Md_go.2.1 62 = .ok (.iload 5, 2) := by decide +kernel
theorem d_Md_go_64 : decode M_Md_go.2.1 64 = .ok (.iload 7, 2) := by decide +kernel
theorem d_Md_go_66 : decode M_Md_go.2.1 66 = .ok (.isub, 1) := by decide +kernel
theorem d_Md_go_67 : decode M_Md_go.2.1 67 = .ok (.istore 5, 2) := by decide +kernel
theorem d_Md_go_69 : decode M_Md_go.2.1 69 = .ok (.iinc 6 (-1), 3) := by decide +kernel
theorem d_Md_go_72 : decode M_Md_go.2.1 72 = .ok (.goto (-65), 3) := by decide +kernel
theorem d_Md_go_75 : decode M_Md_go.2.1 75 = .ok (.iconst 0, 1) := by decide +kernel
theorem d_Md_go_76 : decode M_Md_go.2.1 76 = .ok (.istore 6, 2) := by decide +kernel
theorem d_Md_go_78 : decode M_Md_go.2.1 78 = .ok (.iload 6, 2) := by decide +kernel
theorem d_Md_go_80 : decode M_Md_go.2.1 80 = .ok (.bipush 10, 2) := by decide +kernel
theorem d_Md_go_82 : decode M_Md_go.2.1 82 = .ok (.if_icmp .ge 37, 3) := by decide +kernel
theorem d_Md_go_85 : decode M_Md_go.2.1 85 = .ok (.iload 4, 2) := by decide +kernel
theorem d_Md_go_87 : decode M_Md_go.2.1 87 = .ok (.ifCond .lt 32, 3) := by decide +kernel
theorem d_Md_go_90 : decode M_Md_go.2.1 90 = .ok (.aload_n 0, 1) := by decide +kernel
theorem d_Md_go_91 : decode M_Md_go.2.1 91 = .ok (.getfield 7, 3) := by decide +kernel
theorem d_Md_go_94 : decode M_Md_go.2.1 94 = .ok (.iload 4, 2) := by decide +kernel
theorem d_Md_go_96 : decode M_Md_go.2.1 96 = .ok (.iload_n 2, 1) := by decide +kernel
theorem d_Md_go_97 : decode M_Md_go.2.1 97 = .ok (.iload 6, 2) := by decide +kernel
theorem d_Md_go_99 : decode M_Md_go.2.1 99 = .ok (.invokestatic 57, 3) := by decide +kernel
theorem d_Md_go_102 : decode M_Md_go.2.1 102 = .ok (.dup2, 1) := by decide +kernel
theorem d_Md_go_103 : decode M_Md_go.2.1 103 = .ok (.iaload, 1) := by decide +kernel
theorem d_Md_go_104 : decode M_Md_go.2.1 104 = .ok (.aload_n 0, 1) := by decide +kernel
theorem d_Md_go_105 : decode M_Md_go.2.1 105 = .ok (.getfield 47, 3) := by decide +kernel
theorem d_Md_go_108 : decode M_Md_go.2.1 108 = .ok (.iload 6, 2) := by decide +kernel
theorem d_Md_go_110 : decode M_Md_go.2.1 110 = .ok (.iaload, 1) := by decide +kernel
theorem d_Md_go_111 : decode M_Md_go.2.1 111 = .ok (.iadd, 1) := by decide +kernel
theorem d_Md_go_112 : decode M_Md_go.2.1 112 = .ok (.iastore, 1) := by decide +kernel
theorem d_Md_go_113 : decode M_Md_go.2.1 113 = .ok (.iinc 6 1, 3) := by decide +kernel
theorem d_Md_go_116 : decode M_Md_go.2.1 116 = .ok (.goto (-38), 3) := by decide +kernel
theorem d_Md_go_119 : decode M_Md_go.2.1 119 = .ok (.return_, 1) := by decide +kernel
def M_Md_addGood : mj_M := (⟨"MarketTownModel", "addGood", "(III)V"⟩, prog_13_method_12_code, 4, none, 0, 0)
theorem d_Md_addGood_0 : decode M_Md_addGood.2.1 0 = .ok (.aload_n 0, 1) := by decide +kernel
theorem d_Md_addGood_1 : decode M_Md_addGood.2.1 1 = .ok (.getfield 7, 3) := by decide +kernel
theorem d_Md_addGood_4 : decode M_Md_addGood.2.1 4 = .ok (.sipush 1308, 3) := by decide +kernel
theorem d_Md_addGood_7 : decode M_Md_addGood.2.1 7 = .ok (.bipush 11, 2) := by decide +kernel
theorem d_Md_addGood_9 : decode M_Md_addGood.2.1 9 = .ok (.iload_n 1, 1) := by decide +kernel
theorem d_Md_addGood_10 : decode M_Md_addGood.2.1 10 = .ok (.imul, 1) := by decide +kernel
theorem d_Md_addGood_11 : decode M_Md_addGood.2.1 11 = .ok (.iadd, 1) := by decide +kernel
theorem d_Md_addGood_12 : decode M_Md_addGood.2.1 12 = .ok (.iload_n 2, 1) := by decide +kernel
theorem d_Md_addGood_13 : decode M_Md_addGood.2.1 13 = .ok (.iadd, 1) := by decide +kernel
theorem d_Md_addGood_14 : decode M_Md_addGood.2.1 14 = .ok (.dup2, 1) := by decide +kernel
theorem d_Md_addGood_15 : decode M_Md_addGood.2.1 15 = .ok (.iaload, 1) := by decide +kernel
theorem d_Md_addGood_16 : decode M_Md_addGood.2.1 16 = .ok (.iload_n 3, 1) := by decide +kernel
theorem d_Md_addGood_17 : decode M_Md_addGood.2.1 17 = .ok (.iadd, 1) := by decide +kernel
theorem d_Md_addGood_18 : decode M_Md_addGood.2.1 18 = .ok (.iastore, 1) := by decide +kernel
theorem d_Md_addGood_19 : decode M_Md_addGood.2.1 19 = .ok (.return_, 1) := by decide +kernel
def M_Md_offer : mj_M := (⟨"MarketTownModel", "offer", "(IIIIZ)V"⟩, prog_13_method_43_code, 6, none, 0, 0)
theorem d_Md_offer_0 : decode M_Md_offer.2.1 0 = .ok (.iload_n 3, 1) := by decide +kernel
theorem d_Md_offer_1 : decode M_Md_offer.2.1 1 = .ok (.ifCond .ne 4, 3) := by decide +kernel
theorem d_Md_offer_4 : decode M_Md_offer.2.1 4 = .ok (.return_, 1) := by decide +kernel
theorem d_Md_offer_5 : decode M_Md_offer.2.1 5 = .ok (.aload_n 0, 1) := by decide +kernel
theorem d_Md_offer_6 : decode M_Md_offer.2.1 6 = .ok (.getfield 23, 3) := by decide +kernel
theorem d_Md_offer_9 : decode M_Md_offer.2.1 9 = .ok (.aload_n 0, 1) := by decide +kernel
theorem d_Md_offer_10 : decode M_Md_offer.2.1 10 = .ok (.getfield 156, 3) := by decide +kernel
theorem d_Md_offer_13 : decode M_Md_offer.2.1 13 = .ok (.iload_n 1, 1) := by decide +kernel
theorem d_Md_offer_14 : decode M_Md_offer.2.1 14 = .ok (.iastore, 1) := by decide +kernel
theorem d_Md_offer_15 : decode M_Md_offer.2.1 15 = .ok (.aload_n 0, 1) := by decide +kernel
theorem d_Md_offer_16 : decode M_Md_offer.2.1 16 = .ok (.getfield 26, 3) := by decide +kernel
theorem d_Md_offer_19 : decode M_Md_offer.2.1 19 = .ok (.aload_n 0, 1) := by decide +kernel
theorem d_Md_offer_20 : decode M_Md_offer.2.1 20 = .ok (.getfield 156, 3) := by decide +kernel
theorem d_Md_offer_23 : decode M_Md_offer.2.1 23 = .ok (.iload_n 2, 1) := by decide +kernel
theorem d_Md_offer_24 : decode M_Md_offer.2.1 24 = .ok (.iastore, 1) := by decide +kernel
theorem d_Md_offer_25 : decode M_Md_offer.2.1 25 = .ok (.aload_n 0, 1) := by decide +kernel
theorem d_Md_offer_26 : decode M_Md_offer.2.1 26 = .ok (.getfield 29, 3) := by decide +kernel
theorem d_Md_offer_29 : decode M_Md_offer.2.1 29 = .ok (.aload_n 0, 1) := by decide +kernel
theorem d_Md_offer_30 : decode M_Md_offer.2.1 30 = .ok (.getfield 156, 3) := by decide +kernel
theorem d_Md_offer_33 : decode M_Md_offer.2.1 33 = .ok (.iload_n 3, 1) := by decide +kernel
theorem d_Md_offer_34 : decode M_Md_offer.2.1 34 = .ok (.iastore, 1) := by decide +kernel
theorem d_Md_offer_35 : decode M_Md_offer.2.1 35 = .ok (.aload_n 0, 1) := by decide +kernel
theorem d_Md_offer_36 : decode M_Md_offer.2.1 36 = .ok (.getfield 38, 3) := by decide +kernel
theorem d_Md_offer_39 : decode M_Md_offer.2.1 39 = .ok (.aload_n 0, 1) := by decide +kernel
theorem d_Md_offer_40 : decode M_Md_offer.2.1 40 = .ok (.getfield 156, 3) := by decide +kernel
theorem d_Md_offer_43 : decode M_Md_offer.2.1 43 = .ok (.iload_n 3, 1) := by decide +kernel
theorem d_Md_offer_44 : decode M_Md_offer.2.1 44 = .ok (.iastore, 1) := by decide +kernel
theorem d_Md_offer_45 : decode M_Md_offer.2.1 45 = .ok (.aload_n 0, 1) := by decide +kernel
theorem d_Md_offer_46 : decode M_Md_offer.2.1 46 = .ok (.getfield 32, 3) := by decide +kernel
theorem d_Md_offer_49 : decode M_Md_offer.2.1 49 = .ok (.aload_n 0, 1) := by decide +kernel
theorem d_Md_offer_50 : decode M_Md_offer.2.1 50 = .ok (.getfield 156, 3) := by decide +kernel
theorem d_Md_offer_53 : decode M_Md_offer.2.1 53 = .ok (.iload 4, 2) := by decide +kernel
theorem d_Md_offer_55 : decode M_Md_offer.2.1 55 = .ok (.iastore, 1) := by decide +kernel
theorem d_Md_offer_56 : decode M_Md_offer.2.1 56 = .ok (.aload_n 0, 1) := by decide +kernel
theorem d_Md_offer_57 : decode M_Md_offer.2.1 57 = .ok (.getfield 35, 3) := by decide +kernel
theorem d_Md_offer_60 : decode M_Md_offer.2.1 60 = .ok (.aload_n 0, 1) := by decide +kernel
theorem d_Md_offer_61 : decode M_Md_offer.2.1 61 = .ok (.getfield 156, 3) := by decide +kernel
theorem d_Md_offer_64 : decode M_Md_offer.2.1 64 = .ok (.iload 5, 2) := by decide +kernel
theorem d_Md_offer_66 : decode M_Md_offer.2.1 66 = .ok (.bastore, 1) := by decide +kernel
theorem d_Md_offer_67 : decode M_Md_offer.2.1 67 = .ok (.aload_n 0, 1) := by decide +kernel
theorem d_Md_offer_68 : decode M_Md_offer.2.1 68 = .ok (.dup, 1) := by decide +kernel
theorem d_Md_offer_69 : decode M_Md_offer.2.1 69 = .ok (.getfield 156, 3) := by decide +kernel
theorem d_Md_offer_72 : decode M_Md_offer.2.1 72 = .ok (.iconst 1, 1) := by decide +kernel
theorem d_Md_offer_73 : decode M_Md_offer.2.1 73 = .ok (.iadd, 1) := by decide +kernel
theorem d_Md_offer_74 : decode M_Md_offer.2.1 74 = .ok (.putfield 156, 3) := by decide +kernel
theorem d_Md_offer_77 : decode M_Md_offer.2.1 77 = .ok (.return_, 1) := by decide +kernel
def M_Md_freeCash : mj_M := (⟨"MarketTownModel", "freeCash", "(I)I"⟩, prog_13_method_38_code, 4, some .int, 1, 21)
theorem d_Md_freeCash_0 : decode M_Md_freeCash.2.1 0 = .ok (.aload_n 0, 1) := by decide +kernel
theorem d_Md_freeCash_1 : decode M_Md_freeCash.2.1 1 = .ok (.iload_n 1, 1) := by decide +kernel
theorem d_Md_freeCash_2 : decode M_Md_freeCash.2.1 2 = .ok (.invokevirtual 150, 3) := by decide +kernel
theorem d_Md_freeCash_5 : decode M_Md_freeCash.2.1 5 = .ok (.istore_n 2, 1) := by decide +kernel
theorem d_Md_freeCash_6 : decode M_Md_freeCash.2.1 6 = .ok (.iconst 0, 1) := by decide +kernel
theorem d_Md_freeCash_7 : decode M_Md_freeCash.2.1 7 = .ok (.istore_n 3, 1) := by decide +kernel
theorem d_Md_freeCash_8 : decode M_Md_freeCash.2.1 8 = .ok (.iload_n 3, 1) := by decide +kernel
theorem d_Md_freeCash_9 : decode M_Md_freeCash.2.1 9 = .ok (.aload_n 0, 1) := by decide +kernel
theorem d_Md_freeCash_10 : decode M_Md_freeCash.2.1 10 = .ok (.getfield 156, 3) := by decide +kernel
theorem d_Md_freeCash_13 : decode M_Md_freeCash.2.1 13 = .ok (.if_icmp .ge 48, 3) := by decide +kernel
theorem d_Md_freeCash_16 : decode M_Md_freeCash.2.1 16 = .ok (.iload_n 2, 1) := by decide +kernel
theorem d_Md_freeCash_17 : decode M_Md_freeCash.2.1 17 = .ok (.aload_n 0, 1) := by decide +kernel
theorem d_Md_freeCash_18 : decode M_Md_freeCash.2.1 18 = .ok (.getfield 35, 3) := by decide +kernel
theorem d_Md_freeCash_21 : decode M_Md_freeCash.2.1 21 = .ok (.iload_n 3, 1) := by decide +kernel
theorem d_Md_freeCash_22 : decode M_Md_freeCash.2.1 22 = .ok (.baload, 1) := by decide +kernel
theorem d_Md_freeCash_23 : decode M_Md_freeCash.2.1 23 = .ok (.ifCond .eq 29, 3) := by decide +kernel
theorem d_Md_freeCash_26 : decode M_Md_freeCash.2.1 26 = .ok (.aload_n 0, 1) := by decide +kernel
theorem d_Md_freeCash_27 : decode M_Md_freeCash.2.1 27 = .ok (.getfield 23, 3) := by decide +kernel
theorem d_Md_freeCash_30 : decode M_Md_freeCash.2.1 30 = .ok (.iload_n 3, 1) := by decide +kernel
theorem d_Md_freeCash_31 : decode M_Md_freeCash.2.1 31 = .ok (.iaload, 1) := by decide +kernel
theorem d_Md_freeCash_32 : decode M_Md_freeCash.2.1 32 = .ok (.iload_n 1, 1) := by decide +kernel
theorem d_Md_freeCash_33 : decode M_Md_freeCash.2.1 33 = .ok (.if_icmp .ne 19, 3) := by decide +kernel
theorem d_Md_freeCash_36 : decode M_Md_freeCash.2.1 36 = .ok (.aload_n 0, 1) := by decide +kernel
theorem d_Md_freeCash_37 : decode M_Md_freeCash.2.1 37 = .ok (.getfield 29, 3) := by decide +kernel
theorem d_Md_freeCash_40 : decode M_Md_freeCash.2.1 40 = .ok (.iload_n 3, 1) := by decide +kernel
theorem d_Md_freeCash_41 : decode M_Md_freeCash.2.1 41 = .ok (.iaload, 1) := by decide +kernel
theorem d_Md_freeCash_42 : decode M_Md_freeCash.2.1 42 = .ok (.aload_n 0, 1) := by decide +kernel
theorem d_Md_freeCash_43 : decode M_Md_freeCash.2.1 43 = .ok (.getfield 32, 3) := by decide +kernel
theorem d_Md_freeCash_46 : decode M_Md_freeCash.2.1 46 = .ok (.iload_n 3, 1) := by decide +kernel
theorem d_Md_freeCash_47 : decode M_Md_freeCash.2.1 47 = .ok (.iaload, 1) := by decide +kernel
theorem d_Md_freeCash_48 : decode M_Md_freeCash.2.1 48 = .ok (.imul, 1) := by decide +kernel
theorem d_Md_freeCash_49 : decode M_Md_freeCash.2.1 49 = .ok (.goto 4, 3) := by decide +kernel
theorem d_Md_freeCash_52 : decode M_Md_freeCash.2.1 52 = .ok (.iconst 0, 1) := by decide +kernel
theorem d_Md_freeCash_53 : decode M_Md_freeCash.2.1 53 = .ok (.isub, 1) := by decide +kernel
theorem d_Md_freeCash_54 : decode M_Md_freeCash.2.1 54 = .ok (.istore_n 2, 1) := by decide +kernel
theorem d_Md_freeCash_55 : decode M_Md_freeCash.2.1 55 = .ok (.iinc 3 1, 3) := by decide +kernel
theorem d_Md_freeCash_58 : decode M_Md_freeCash.2.1 58 = .ok (.goto (-50), 3) := by decide +kernel
theorem d_Md_freeCash_61 : decode M_Md_freeCash.2.1 61 = .ok (.iload_n 2, 1) := by decide +kernel
theorem d_Md_freeCash_62 : decode M_Md_freeCash.2.1 62 = .ok (.ireturn, 1) := by decide +kernel
def M_Md_pays : mj_M := (⟨"MarketTownModel", "pays", "(IIII)V"⟩, prog_13_method_41_code, 5, none, 0, 0)
theorem d_Md_pays_0 : decode M_Md_pays.2.1 0 = .ok (.aload_n 0, 1) := by decide +kernel
theorem d_Md_pays_1 : decode M_Md_pays.2.1 1 = .ok (.getfield 7, 3) := by decide +kernel
theorem d_Md_pays_4 : decode M_Md_pays.2.1 4 = .ok (.iconst 0, 1) := by decide +kernel
theorem d_Md_pays_5 : decode M_Md_pays.2.1 5 = .ok (.iconst 5, 1) := by decide +kernel
theorem d_Md_pays_6 : decode M_Md_pays.2.1 6 = .ok (.iload_n 1, 1) := by decide +kernel
theorem d_Md_pays_7 : decode M_Md_pays.2.1 7 = .ok (.imul, 1) := by decide +kernel
theorem d_Md_pays_8 : decode M_Md_pays.2.1 8 = .ok (.iadd, 1) := by decide +kernel
theorem d_Md_pays_9 : decode M_Md_pays.2.1 9 = .ok (.iconst 1, 1) := by decide +kernel
theorem d_Md_pays_10 : decode M_Md_pays.2.1 10 = .ok (.iadd, 1) := by decide +kernel
theorem d_Md_pays_11 : decode M_Md_pays.2.1 11 = .ok (.dup2, 1) := by decide +kernel
theorem d_Md_pays_12 : decode M_Md_pays.2.1 12 = .ok (.iaload, 1) := by decide +kernel
theorem d_Md_pays_13 : decode M_Md_pays.2.1 13 = .ok (.iload_n 3, 1) := by decide +kernel
theorem d_Md_pays_14 : decode M_Md_pays.2.1 14 = .ok (.isub, 1) := by decide +kernel
theorem d_Md_pays_15 : decode M_Md_pays.2.1 15 = .ok (.iastore, 1) := by decide +kernel
theorem d_Md_pays_16 : decode M_Md_pays.2.1 16 = .ok (.aload_n 0, 1) := by decide +kernel
theorem d_Md_pays_17 : decode M_Md_pays.2.1 17 = .ok (.getfield 7, 3) := by decide +kernel
theorem d_Md_pays_20 : decode M_Md_pays.2.1 20 = .ok (.iconst 0, 1) := by decide +kernel
theorem d_Md_pays_21 : decode M_Md_pays.2.1 21 = .ok (.iconst 5, 1) := by decide +kernel
theorem d_Md_pays_22 : decode M_Md_pays.2.1 22 = .ok (.iload_n 2, 1) := by decide +kernel
theorem d_Md_pays_23 : decode M_Md_pays.2.1 23 = .ok (.imul, 1) := by decide +kernel
theorem d_Md_pays_24 : decode M_Md_pays.2.1 24 = .ok (.iadd, 1) := by decide +kernel
theorem d_Md_pays_25 : decode M_Md_pays.2.1 25 = .ok (.iconst 1, 1) := by decide +kernel
theorem d_Md_pays_26 : decode M_Md_pays.2.1 26 = .ok (.iadd, 1) := by decide +kernel
theorem d_Md_pays_27 : decode M_Md_pays.2.1 27 = .ok (.dup2, 1) := by decide +kernel
theorem d_Md_pays_28 : decode M_Md_pays.2.1 28 = .ok (.iaload, 1) := by decide +kernel
theorem d_Md_pays_29 : decode M_Md_pays.2.1 29 = .ok (.iload_n 3, 1) := by decide +kernel
theorem d_Md_pays_30 : decode M_Md_pays.2.1 30 = .ok (.iadd, 1) := by decide +kernel
theorem d_Md_pays_31 : decode M_Md_pays.2.1 31 = .ok (.iastore, 1) := by decide +kernel
theorem d_Md_pays_32 : decode M_Md_pays.2.1 32 = .ok (.aload_n 0, 1) := by decide +kernel
theorem d_Md_pays_33 : decode M_Md_pays.2.1 33 = .ok (.getfield 7, 3) := by decide +kernel
theorem d_Md_pays_36 : decode M_Md_pays.2.1 36 = .ok (.sipush 1443, 3) := by decide +kernel
theorem d_Md_pays_39 : decode M_Md_pays.2.1 39 = .ok (.iconst 5, 1) := by decide +kernel
theorem d_Md_pays_40 : decode M_Md_pays.2.1 40 = .ok (.bipush 12, 2) := by decide +kernel
theorem d_Md_pays_42 : decode M_Md_pays.2.1 42 = .ok (.iload_n 1, 1) := by decide +kernel
theorem d_Md_pays_43 : decode M_Md_pays.2.1 43 = .ok (.imul, 1) := by decide +kernel
theorem d_Md_pays_44 : decode M_Md_pays.2.1 44 = .ok (.iload_n 2, 1) := by decide +kernel
theorem d_Md_pays_45 : decode M_Md_pays.2.1 45 = .ok (.iadd, 1) := by decide +kernel
theorem d_Md_pays_46 : decode M_Md_pays.2.1 46 = .ok (.imul, 1) := by decide +kernel
theorem d_Md_pays_47 : decode M_Md_pays.2.1 47 = .ok (.iadd, 1) := by decide +kernel
theorem d_Md_pays_48 : decode M_Md_pays.2.1 48 = .ok (.iload 4, 2) := by decide +kernel
theorem d_Md_pays_50 : decode M_Md_pays.2.1 50 = .ok (.iadd, 1) := by decide +kernel
theorem d_Md_pays_51 : decode M_Md_pays.2.1 51 = .ok (.dup2, 1) := by decide +kernel
theorem d_Md_pays_52 : decode M_Md_pays.2.1 52 = .ok (.iaload, 1) := by decide +kernel
theorem d_Md_pays_53 : decode M_Md_pays.2.1 53 = .ok (.iload_n 3, 1) := by decide +kernel
theorem d_Md_pays_54 : decode M_Md_pays.2.1 54 = .ok (.iadd, 1) := by decide +kernel
theorem d_Md_pays_55 : decode M_Md_pays.2.1 55 = .ok (.iastore, 1) := by decide +kernel
theorem d_Md_pays_56 : decode M_Md_pays.2.1 56 = .ok (.return_, 1) := by decide +kernel
def M_Md_lend : mj_M := (⟨"MarketTownModel", "lend", "(IIII)V"⟩, prog_13_method_44_code, 7, none, 2, 44)
theorem d_Md_lend_0 : decode M_Md_lend.2.1 0 = .ok (.iload_n 3, 1) := by decide +kernel
theorem d_Md_lend_1 : decode M_Md_lend.2.1 1 = .ok (.aload_n 0, 1) := by decide +kernel
theorem d_Md_lend_2 : decode M_Md_lend.2.1 2 = .ok (.iload_n 1, 1) := by decide +kernel
theorem d_Md_lend_3 : decode M_Md_lend.2.1 3 = .ok (.invokevirtual 173, 3) := by decide +kernel
theorem d_Md_lend_6 : decode M_Md_lend.2.1 6 = .ok (.invokestatic 159, 3) := by decide +kernel
theorem d_Md_lend_9 : decode M_Md_lend.2.1 9 = .ok (.istore 5, 2) := by decide +kernel
theorem d_Md_lend_11 : decode M_Md_lend.2.1 11 = .ok (.iload 5, 2) := by decide +kernel
theorem d_Md_lend_13 : decode M_Md_lend.2.1 13 = .ok (.ifCond .eq 16, 3) := by decide +kernel
theorem d_Md_lend_16 : decode M_Md_lend.2.1 16 = .ok (.aload_n 0, 1) := by decide +kernel
theorem d_Md_lend_17 : decode M_Md_lend.2.1 17 = .ok (.getfield 7, 3) := by decide +kernel
theorem d_Md_lend_20 : decode M_Md_lend.2.1 20 = .ok (.sipush 2168, 3) := by decide +kernel
theorem d_Md_lend_23 : decode M_Md_lend.2.1 23 = .ok (.iaload, 1) := by decide +kernel
theorem d_Md_lend_24 : decode M_Md_lend.2.1 24 = .ok (.bipush 20, 2) := by decide +kernel
theorem d_Md_lend_26 : decode M_Md_lend.2.1 26 = .ok (.if_icmp .ne 4, 3) := by decide +kernel
theorem d_Md_lend_29 : decode M_Md_lend.2.1 29 = .ok (.return_, 1) := by decide +kernel
theorem d_Md_lend_30 : decode M_Md_lend.2.1 30 = .ok (.aload_n 0, 1) := by decide +kernel
theorem d_Md_lend_31 : decode M_Md_lend.2.1 31 = .ok (.iload_n 1, 1) := by decide +kernel
theorem d_Md_lend_32 : decode M_Md_lend.2.1 32 = .ok (.iload_n 2, 1) := by decide +kernel
theorem d_Md_lend_33 : decode M_Md_lend.2.1 33 = .ok (.iload 5, 2) := by decide +kernel
theorem d_Md_lend_35 : decode M_Md_lend.2.1 35 = .ok (.iconst 3, 1) := by decide +kernel
theorem d_Md_lend_36 : decode M_Md_lend.2.1 36 = .ok (.invokevirtual 176, 3) := by decide +kernel
theorem d_Md_lend_39 : decode M_Md_lend.2.1 39 = .ok (.sipush 1363, 3) := by decide +kernel
theorem d_Md_lend_42 : decode M_Md_lend.2.1 42 = .ok (.iconst 4, 1) := by decide +kernel
theorem d_Md_lend_43 : decode M_Md_lend.2.1 43 = .ok (.aload_n 0, 1) := by decide +kernel
theorem d_Md_lend_44 : decode M_Md_lend.2.1 44 = .ok (.getfield 7, 3) := by decide +kernel
theorem d_Md_lend_47 : decode M_Md_lend.2.1 47 = .ok (.sipush 2168, 3) := by decide +kernel
theorem d_Md_lend_50 : decode M_Md_lend.2.1 50 = .ok (.iaload, 1) := by decide +kernel
theorem d_Md_lend_51 : decode M_Md_lend.2.1 51 = .ok (.imul, 1) := by decide +kernel
theorem d_Md_lend_52 : decode M_Md_lend.2.1 52 = .ok (.iadd, 1) := by decide +kernel
theorem d_Md_lend_53 : decode M_Md_lend.2.1 53 = .ok (.istore 6, 2) := by decide +kernel
theorem d_Md_lend_55 : decode M_Md_lend.2.1 55 = .ok (.aload_n 0, 1) := by decide +kernel
theorem d_Md_lend_56 : decode M_Md_lend.2.1 56 = .ok (.getfield 7, 3) := by decide +kernel
theorem d_Md_lend_59 : decode M_Md_lend.2.1 59 = .ok (.iload 6, 2) := by decide +kernel
theorem d_Md_lend_61 : decode M_Md_lend.2.1 61 = .ok (.iload_n 1, 1) := by decide +kernel
theorem d_Md_lend_62 : decode M_Md_lend.2.1 62 = .ok (.iastore, 1) := by decide +kernel
theorem d_Md_lend_63 : decode M_Md_lend.2.1 63 = .ok (.aload_n 0, 1) := by decide +kernel
theorem d_Md_lend_64 : decode M_Md_lend.2.1 64 = .ok (.getfield 7, 3) := by decide +kernel
theorem d_Md_lend_67 : decode M_Md_lend.2.1 67 = .ok (.iload 6, 2) := by decide +kernel
theorem d_Md_lend_69 : decode M_Md_lend.2.1 69 = .ok (.iconst 1, 1) := by decide +kernel
theorem d_Md_lend_70 : decode M_Md_lend.2.1 70 = .ok (.iadd, 1) := by decide +kernel
theorem d_Md_lend_71 : decode M_Md_lend.2.1 71 = .ok (.iload_n 2, 1) := by decide +kernel
theorem d_Md_lend_72 : decode M_Md_lend.2.1 72 = .ok (.iastore, 1) := by decide +kernel
theorem d_Md_lend_73 : decode M_Md_lend.2.1 73 = .ok (.aload_n 0, 1) := by decide +kernel
theorem d_Md_lend_74 : decode M_Md_lend.2.1 74 = .ok (.getfield 7, 3) := by decide +kernel
theorem d_Md_lend_77 : decode M_Md_lend.2.1 77 = .ok (.iload 6, 2) := by decide +kernel
theorem d_Md_lend_79 : decode M_Md_lend.2.1 79 = .ok (.iconst 2, 1) := by decide +kernel
theorem d_Md_lend_80 : decode M_Md_lend.2.1 80 = .ok (.iadd, 1) := by decide +kernel
theorem d_Md_lend_81 : decode M_Md_lend.2.1 81 = .ok (.iload 5, 2) := by decide +kernel
theorem d_Md_lend_83 : decode M_Md_lend.2.1 83 = .ok (.iload 5, 2) := by decide +kernel
theorem d_Md_lend_85 : decode M_Md_lend.2.1 85 = .ok (.aload_n 0, 1) := by decide +kernel
theorem d_Md_lend_86 : decode M_Md_lend.2.1 86 = .ok (.getfield 7, 3) := by decide +kernel
theorem d_Md_lend_89 : decode M_Md_lend.2.1 89 = .ok (.sipush 2167, 3) := by decide +kernel
theorem d_Md_lend_92 : decode M_Md_lend.2.1 92 = .ok (.iaload, 1) := by decide +kernel
theorem d_Md_lend_93 : decode M_Md_lend.2.1 93 = .ok (.imul, 1) := by decide +kernel
theorem d_Md_lend_94 : decode M_Md_lend.2.1 94 = .ok (.bipush 100, 2) := by decide +kernel
theorem d_Md_lend_96 : decode M_Md_lend.2.1 96 = .ok (.idiv, 1) := by decide +kernel
theorem d_Md_lend_97 : decode M_Md_lend.2.1 97 = .ok (.iadd, 1) := by decide +kernel
theorem d_Md_lend_98 : decode M_Md_lend.2.1 98 = .ok (.iastore, 1) := by decide +kernel
theorem d_Md_lend_99 : decode M_Md_lend.2.1 99 = .ok (.aload_n 0, 1) := by decide +kernel
theorem d_Md_lend_100 : decode M_Md_lend.2.1 100 = .ok (.getfield 7, 3) := by decide +kernel
theorem d_Md_lend_103 : decode M_Md_lend.2.1 103 = .ok (.iload 6, 2) := by decide +kernel
theorem d_Md_lend_105 : decode M_Md_lend.2.1 105 = .ok (.iconst 3, 1) := by decide +kernel
theorem d_Md_lend_106 : decode M_Md_lend.2.1 106 = .ok (.iadd, 1) := by decide +kernel
theorem d_Md_lend_107 : decode M_Md_lend.2.1 107 = .ok (.aload_n 0, 1) := by decide +kernel
theorem d_Md_lend_108 : decode M_Md_lend.2.1 108 = .ok (.getfield 7, 3) := by decide +kernel
theorem d_Md_lend_111 : decode M_Md_lend.2.1 111 = .ok (.sipush 2164, 3) := by decide +kernel
theorem d_Md_lend_114 : decode M_Md_lend.2.1 114 = .ok (.iaload, 1) := by decide +kernel
theorem d_Md_lend_115 : decode M_Md_lend.2.1 115 = .ok (.iload 4, 2) := by decide +kernel
theorem d_Md_lend_117 : decode M_Md_lend.2.1 117 = .ok (.iadd, 1) := by decide +kernel
theorem d_Md_lend_118 : decode M_Md_lend.2.1 118 = .ok (.iastore, 1) := by decide +kernel
theorem d_Md_lend_119 : decode M_Md_lend.2.1 119 = .ok (.aload_n 0, 1) := by decide +kernel
theorem d_Md_lend_120 : decode M_Md_lend.2.1 120 = .ok (.getfield 7, 3) := by decide +kernel
theorem d_Md_lend_123 : decode M_Md_lend.2.1 123 = .ok (.sipush 2168, 3) := by decide +kernel
theorem d_Md_lend_126 : decode M_Md_lend.2.1 126 = .ok (.dup2, 1) := by decide +kernel
theorem d_Md_lend_127 : decode M_Md_lend.2.1 127 = .ok (.iaload, 1) := by decide +kernel
theorem d_Md_lend_128 : decode M_Md_lend.2.1 128 = .ok (.iconst 1, 1) := by decide +kernel
theorem d_Md_lend_129 : decode M_Md_lend.2.1 129 = .ok (.iadd, 1) := by decide +kernel
theorem d_Md_lend_130 : decode M_Md_lend.2.1 130 = .ok (.iastore, 1) := by decide +kernel
theorem d_Md_lend_131 : decode M_Md_lend.2.1 131 = .ok (.return_, 1) := by decide +kernel
def M_Md_haggled : mj_M := (⟨"MarketTownModel", "haggled", "(I)V"⟩, prog_13_method_55_code, 5, none, 3, 77)
theorem d_Md_haggled_0 : decode M_Md_haggled.2.1 0 = .ok (.iconst 1, 1) := by decide +kernel
theorem d_Md_haggled_1 : decode M_Md_haggled.2.1 1 = .ok (.istore_n 2, 1) := by decide +kernel
theorem d_Md_haggled_2 : decode M_Md_haggled.2.1 2 = .ok (.iload_n 2, 1) := by decide +kernel
theorem d_Md_haggled_3 : decode M_Md_haggled.2.1 3 = .ok (.ifCond .eq 93, 3) := by decide +kernel
theorem d_Md_haggled_6 : decode M_Md_haggled.2.1 6 = .ok (.aload_n 0, 1) := by decide +kernel
theorem d_Md_haggled_7 : decode M_Md_haggled.2.1 7 = .ok (.iload_n 1, 1) := by decide +kernel
theorem d_Md_haggled_8 : decode M_Md_haggled.2.1 8 = .ok (.invokevirtual 217, 3) := by decide +kernel
theorem d_Md_haggled_11 : decode M_Md_haggled.2.1 11 = .ok (.istore_n 3, 1) := by decide +kernel
theorem d_Md_haggled_12 : decode M_Md_haggled.2.1 12 = .ok (.aload_n 0, 1) := by decide +kernel
theorem d_Md_haggled_13 : decode M_Md_haggled.2.1 13 = .ok (.iload_n 1, 1) := by decide +kernel
theorem d_Md_haggled_14 : decode M_Md_haggled.2.1 14 = .ok (.invokevirtual 208, 3) := by decide +kernel
theorem d_Md_haggled_17 : decode M_Md_haggled.2.1 17 = .ok (.istore 4, 2) := by decide +kernel
theorem d_Md_haggled_19 : decode M_Md_haggled.2.1 19 = .ok (.iload_n 3, 1) := by decide +kernel
theorem d_Md_haggled_20 : decode M_Md_haggled.2.1 20 = .ok (.ifCond .lt 28, 3) := by decide +kernel
theorem d_Md_haggled_23 : decode M_Md_haggled.2.1 23 = .ok (.iload 4, 2) := by decide +kernel
theorem d_Md_haggled_25 : decode M_Md_haggled.2.1 25 = .ok (.ifCond .lt 23, 3) := by decide +kernel
theorem d_Md_haggled_28 : decode M_Md_haggled.2.1 28 = .ok (.aload_n 0, 1) := by decide +kernel
theorem d_Md_haggled_29 : decode M_Md_haggled.2.1 29 = .ok (.getfield 32, 3) := by decide +kernel
theorem d_Md_haggled_32 : decode M_Md_haggled.2.1 32 = .ok (.iload_n 3, 1) := by decide +kernel
theorem d_Md_haggled_33 : decode M_Md_haggled.2.1 33 = .ok (.iaload, 1) := by decide +kernel
theorem d_Md_haggled_34 : decode M_Md_haggled.2.1 34 = .ok (.aload_n 0, 1) := by decide +kernel
theorem d_Md_haggled_35 : decode M_Md_haggled.2.1 35 = .ok (.getfield 32, 3) := by decide +kernel
theorem d_Md_haggled_38 : decode M_Md_haggled.2.1 38 = .ok (.iload 4, 2) := by decide +kernel
theorem d_Md_haggled_40 : decode M_Md_haggled.2.1 40 = .ok (.iaload, 1) := by decide +kernel
theorem d_Md_haggled_41 : decode M_Md_haggled.2.1 41 = .ok (.if_icmp .lt 7, 3) := by decide +kernel
theorem d_Md_haggled_44 : decode M_Md_haggled.2.1 44 = .ok (.iconst 1, 1) := by decide +kernel
theorem d_Md_haggled_45 : decode M_Md_haggled.2.1 45 = .ok (.goto 4, 3) := by decide +kernel
theorem d_Md_haggled_48 : decode M_Md_haggled.2.1 48 = .ok (.iconst 0, 1) := by decide +kernel
theorem d_Md_haggled_49 : decode M_Md_haggled.2.1 49 = .ok (.istore_n 2, 1) := by decide +kernel
theorem d_Md_haggled_50 : decode M_Md_haggled.2.1 50 = .ok (.iload_n 2, 1) := by decide +kernel
theorem d_Md_haggled_51 : decode M_Md_haggled.2.1 51 = .ok (.ifCond .eq 42, 3) := by decide +kernel
theorem d_Md_haggled_54 : decode M_Md_haggled.2.1 54 = .ok (.aload_n 0, 1) := by decide +kernel
theorem d_Md_haggled_55 : decode M_Md_haggled.2.1 55 = .ok (.iload_n 3, 1) := by decide +kernel
theorem d_Md_haggled_56 : decode M_Md_haggled.2.1 56 = .ok (.iload 4, 2) := by decide +kernel
theorem d_Md_haggled_58 : decode M_Md_haggled.2.1 58 = .ok (.aload_n 0, 1) := by decide +kernel
theorem d_Md_haggled_59 : decode M_Md_haggled.2.1 59 = .ok (.getfield 38, 3) := by decide +kernel
theorem d_Md_haggled_62 : decode M_Md_haggled.2.1 62 = .ok (.iload_n 3, 1) := by decide +kernel
theorem d_Md_haggled_63 : decode M_Md_haggled.2.1 63 = .ok (.iaload, 1) := by decide +kernel
theorem d_Md_haggled_64 : decode M_Md_haggled.2.1 64 = .ok (.aload_n 0, 1) := by decide +kernel
theorem d_Md_haggled_65 : decode M_Md_haggled.2.1 65 = .ok (.getfield 38, 3) := by decide +kernel
theorem d_Md_haggled_68 : decode M_Md_haggled.2.1 68 = .ok (.iload 4, 2) := by decide +kernel
theorem d_Md_haggled_70 : decode M_Md_haggled.2.1 70 = .ok (.iaload, 1) := by decide +kernel
theorem d_Md_haggled_71 : decode M_Md_haggled.2.1 71 = .ok (.invokestatic 159, 3) := by decide +kernel
theorem d_Md_haggled_74 : decode M_Md_haggled.2.1 74 = .ok (.aload_n 0, 1) := by decide +kernel
theorem d_Md_haggled_75 : decode M_Md_haggled.2.1 75 = .ok (.getfield 32, 3) := by decide +kernel
theorem d_Md_haggled_78 : decode M_Md_haggled.2.1 78 = .ok (.iload_n 3, 1) := by decide +kernel
theorem d_Md_haggled_79 : decode M_Md_haggled.2.1 79 = .ok (.iaload, 1) := by decide +kernel
theorem d_Md_haggled_80 : decode M_Md_haggled.2.1 80 = .ok (.aload_n 0, 1) := by decide +kernel
theorem d_Md_haggled_81 : decode M_Md_haggled.2.1 81 = .ok (.getfield 32, 3) := by decide +kernel
theorem d_Md_haggled_84 : decode M_Md_haggled.2.1 84 = .ok (.iload 4, 2) := by decide +kernel
theorem d_Md_haggled_86 : decode M_Md_haggled.2.1 86 = .ok (.iaload, 1) := by decide +kernel
theorem d_Md_haggled_87 : decode M_Md_haggled.2.1 87 = .ok (.iadd, 1) := by decide +kernel
theorem d_Md_haggled_88 : decode M_Md_haggled.2.1 88 = .ok (.iconst 2, 1) := by decide +kernel
theorem d_Md_haggled_89 : decode M_Md_haggled.2.1 89 = .ok (.idiv, 1) := by decide +kernel
theorem d_Md_haggled_90 : decode M_Md_haggled.2.1 90 = .ok (.invokevirtual 211, 3) := by decide +kernel
theorem d_Md_haggled_93 : decode M_Md_haggled.2.1 93 = .ok (.goto (-91), 3) := by decide +kernel
theorem d_Md_haggled_96 : decode M_Md_haggled.2.1 96 = .ok (.return_, 1) := by decide +kernel
def M_Md_highestBid : mj_M := (⟨"MarketTownModel", "highestBid", "(I)I"⟩, prog_13_method_51_code, 4, some .int, 1, 23)
theorem d_Md_highestBid_0 : decode M_Md_highestBid.2.1 0 = .ok (.iconst (-1), 1) := by decide +kernel
theorem d_Md_highestBid_1 : decode M_Md_highestBid.2.1 1 = .ok (.istore_n 2, 1) := by decide +kernel
theorem d_Md_highestBid_2 : decode M_Md_highestBid.2.1 2 = .ok (.iconst 0, 1) := by decide +kernel
theorem d_Md_highestBid_3 : decode M_Md_highestBid.2.1 3 = .ok (.istore_n 3, 1) := by decide +kernel
theorem d_Md_highestBid_4 : decode M_Md_highestBid.2.1 4 = .ok (.iload_n 3, 1) := by decide +kernel
theorem d_Md_highestBid_5 : decode M_Md_highestBid.2.1 5 = .ok (.aload_n 0, 1) := by decide +kernel
theorem d_Md_highestBid_6 : decode M_Md_highestBid.2.1 6 = .ok (.getfield 156, 3) := by decide +kernel
theorem d_Md_highestBid_9 : decode M_Md_highestBid.2.1 9 = .ok (.if_icmp .ge 40, 3) := by decide +kernel
theorem d_Md_highestBid_12 : decode M_Md_highestBid.2.1 12 = .ok (.aload_n 0, 1) := by decide +kernel
theorem d_Md_highestBid_13 : decode M_Md_highestBid.2.1 13 = .ok (.iload_n 3, 1) := by decide +kernel
theorem d_Md_highestBid_14 : decode M_Md_highestBid.2.1 14 = .ok (.iload_n 1, 1) := by decide +kernel
theorem d_Md_highestBid_15 : decode M_Md_highestBid.2.1 15 = .ok (.iconst 1, 1) := by decide +kernel
theorem d_Md_highestBid_16 : decode M_Md_highestBid.2.1 16 = .ok (.invokevirtual 204, 3) := by decide +kernel
theorem d_Md_highestBid_19 : decode M_Md_highestBid.2.1 19 = .ok (.ifCond .eq 24, 3) := by decide +kernel
theorem d_Md_highestBid_22 : decode M_Md_highestBid.2.1 22 = .ok (.iload_n 2, 1) := by decide +kernel
theorem d_Md_highestBid_23 : decode M_Md_highestBid.2.1 23 = .ok (.ifCond .lt 18, 3) := by decide +kernel
theorem d_Md_highestBid_26 : decode M_Md_highestBid.2.1 26 = .ok (.aload_n 0, 1) := by decide +kernel
theorem d_Md_highestBid_27 : decode M_Md_highestBid.2.1 27 = .ok (.getfield 32, 3) := by decide +kernel
theorem d_Md_highestBid_30 : decode M_Md_highestBid.2.1 30 = .ok (.iload_n 3, 1) := by decide +kernel
theorem d_Md_highestBid_31 : decode M_Md_highestBid.2.1 31 = .ok (.iaload, 1) := by decide +kernel
theorem d_Md_highestBid_32 : decode M_Md_highestBid.2.1 32 = .ok (.aload_n 0, 1) := by decide +kernel
theorem d_Md_highestBid_33 : decode M_Md_highestBid.2.1 33 = .ok (.getfield 32, 3) := by decide +kernel
theorem d_Md_highestBid_36 : decode M_Md_highestBid.2.1 36 = .ok (.iload_n 2, 1) := by decide +kernel
theorem d_Md_highestBid_37 : decode M_Md_highestBid.2.1 37 = .ok (.iaload, 1) := by decide +kernel
theorem d_Md_highestBid_38 : decode M_Md_highestBid.2.1 38 = .ok (.if_icmp .le 5, 3) := by decide +kernel
theorem d_Md_highestBid_41 : decode M_Md_highestBid.2.1 41 = .ok (.iload_n 3, 1) := by decide +kernel
theorem d_Md_highestBid_42 : decode M_Md_highestBid.2.1 42 = .ok (.istore_n 2, 1) := by decide +kernel
theorem d_Md_highestBid_43 : decode M_Md_highestBid.2.1 43 = .ok (.iinc 3 1, 3) := by decide +kernel
theorem d_Md_highestBid_46 : decode M_Md_highestBid.2.1 46 = .ok (.goto (-42), 3) := by decide +kernel
theorem d_Md_highestBid_49 : decode M_Md_highestBid.2.1 49 = .ok (.iload_n 2, 1) := by decide +kernel
theorem d_Md_highestBid_50 : decode M_Md_highestBid.2.1 50 = .ok (.ireturn, 1) := by decide +kernel
def M_Md_isOpen : mj_M := (⟨"MarketTownModel", "isOpen", "(IIZ)Z"⟩, prog_13_method_49_code, 4, some .boolean, 0, 0)
theorem d_Md_isOpen_0 : decode M_Md_isOpen.2.1 0 = .ok (.aload_n 0, 1) := by decide +kernel
theorem d_Md_isOpen_1 : decode M_Md_isOpen.2.1 1 = .ok (.getfield 35, 3) := by decide +kernel
theorem d_Md_isOpen_4 : decode M_Md_isOpen.2.1 4 = .ok (.iload_n 1, 1) := by decide +kernel
theorem d_Md_isOpen_5 : decode M_Md_isOpen.2.1 5 = .ok (.baload, 1) := by decide +kernel
theorem d_Md_isOpen_6 : decode M_Md_isOpen.2.1 6 = .ok (.iload_n 3, 1) := by decide +kernel
theorem d_Md_isOpen_7 : decode M_Md_isOpen.2.1 7 = .ok (.if_icmp .ne 26, 3) := by decide +kernel
theorem d_Md_isOpen_10 : decode M_Md_isOpen.2.1 10 = .ok (.aload_n 0, 1) := by decide +kernel
theorem d_Md_isOpen_11 : decode M_Md_isOpen.2.1 11 = .ok (.getfield 26, 3) := by decide +kernel
theorem d_Md_isOpen_14 : decode M_Md_isOpen.2.1 14 = .ok (.iload_n 1, 1) := by decide +kernel
theorem d_Md_isOpen_15 : decode M_Md_isOpen.2.1 15 = .ok (.iaload, 1) := by decide +kernel
theorem d_Md_isOpen_16 : decode M_Md_isOpen.2.1 16 = .ok (.iload_n 2, 1) := by decide +kernel
theorem d_Md_isOpen_17 : decode M_Md_isOpen.2.1 17 = .ok (.if_icmp .ne 16, 3) := by decide +kernel
theorem d_Md_isOpen_20 : decode M_Md_isOpen.2.1 20 = .ok (.aload_n 0, 1) := by decide +kernel
theorem d_Md_isOpen_21 : decode M_Md_isOpen.2.1 21 = .ok (.getfield 38, 3) := by decide +kernel
theorem d_Md_isOpen_24 : decode M_Md_isOpen.2.1 24 = .ok (.iload_n 1, 1) := by decide +kernel
theorem d_Md_isOpen_25 : decode M_Md_isOpen.2.1 25 = .ok (.iaload, 1) := by decide +kernel
theorem d_Md_isOpen_26 : decode M_Md_isOpen.2.1 26 = .ok (.ifCond .le 7, 3) := by decide +kernel
theorem d_Md_isOpen_29 : decode M_Md_isOpen.2.1 29 = .ok (.iconst 1, 1) := by decide +kernel
theorem d_Md_isOpen_30 : decode M_Md_isOpen.2.1 30 = .ok (.goto 4, 3) := by decide +kernel
theorem d_Md_isOpen_33 : decode M_Md_isOpen.2.1 33 = .ok (.iconst 0, 1) := by decide +kernel
theorem d_Md_isOpen_34 : decode M_Md_isOpen.2.1 34 = .ok (.ireturn, 1) := by decide +kernel
def M_Md_lowestAsk : mj_M := (⟨"MarketTownModel", "lowestAsk", "(I)I"⟩, prog_13_method_50_code, 4, some .int, 1, 23)
theorem d_Md_lowestAsk_0 : decode M_Md_lowestAsk.2.1 0 = .ok (.iconst (-1), 1) := by decide +kernel
theorem d_Md_lowestAsk_1 : decode M_Md_lowestAsk.2.1 1 = .ok (.istore_n 2, 1) := by decide +kernel
theorem d_Md_lowestAsk_2 : decode M_Md_lowestAsk.2.1 2 = .ok (.iconst 0, 1) := by decide +kernel
theorem d_Md_lowestAsk_3 : decode M_Md_lowestAsk.2.1 3 = .ok (.istore_n 3, 1) := by decide +kernel
theorem d_Md_lowestAsk_4 : decode M_Md_lowestAsk.2.1 4 = .ok (.iload_n 3, 1) := by decide +kernel
theorem d_Md_lowestAsk_5 : decode M_Md_lowestAsk.2.1 5 = .ok (.aload_n 0, 1) := by decide +kernel
theorem d_Md_lowestAsk_6 : decode M_Md_lowestAsk.2.1 6 = .ok (.getfield 156, 3) := by decide +kernel
theorem d_Md_lowestAsk_9 : decode M_Md_lowestAsk.2.1 9 = .ok (.if_icmp .ge 40, 3) := by decide +kernel
theorem d_Md_lowestAsk_12 : decode M_Md_lowestAsk.2.1 12 = .ok (.aload_n 0, 1) := by decide +kernel
theorem d_Md_lowestAsk_13 : decode M_Md_lowestAsk.2.1 13 = .ok (.iload_n 3, 1) := by decide +kernel
theorem d_Md_lowestAsk_14 : decode M_Md_lowestAsk.2.1 14 = .ok (.iload_n 1, 1) := by decide +kernel
theorem d_Md_lowestAsk_15 : decode M_Md_lowestAsk.2.1 15 = .ok (.iconst 0, 1) := by decide +kernel
theorem d_Md_lowestAsk_16 : decode M_Md_lowestAsk.2.1 16 = .ok (.invokevirtual 204, 3) := by decide +kernel
theorem d_Md_lowestAsk_19 : decode M_Md_lowestAsk.2.1 19 = .ok (.ifCond .eq 24, 3) := by decide +kernel
theorem d_Md_lowestAsk_22 : decode M_Md_lowestAsk.2.1 22 = .ok (.iload_n 2, 1) := by decide +kernel
theorem d_Md_lowestAsk_23 : decode M_Md_lowestAsk.2.1 23 = .ok (.ifCond .lt 18, 3) := by decide +kernel
theorem d_Md_lowestAsk_26 : decode M_Md_lowestAsk.2.1 26 = .ok (.aload_n 0, 1) := by decide +kernel
theorem d_Md_lowestAsk_27 : decode M_Md_lowestAsk.2.1 27 = .ok (.getfield 32, 3) := by decide +kernel
theorem d_Md_lowestAsk_30 : decode M_Md_lowestAsk.2.1 30 = .ok (.iload_n 3, 1) := by decide +kernel
theorem d_Md_lowestAsk_31 : decode M_Md_lowestAsk.2.1 31 = .ok (.iaload, 1) := by decide +kernel
theorem d_Md_lowestAsk_32 : decode M_Md_lowestAsk.2.1 32 = .ok (.aload_n 0, 1) := by decide +kernel
theorem d_Md_lowestAsk_33 : decode M_Md_lowestAsk.2.1 33 = .ok (.getfield 32, 3) := by decide +kernel
theorem d_Md_lowestAsk_36 : decode M_Md_lowestAsk.2.1 36 = .ok (.iload_n 2, 1) := by decide +kernel
theorem d_Md_lowestAsk_37 : decode M_Md_lowestAsk.2.1 37 = .ok (.iaload, 1) := by decide +kernel
theorem d_Md_lowestAsk_38 : decode M_Md_lowestAsk.2.1 38 = .ok (.if_icmp .ge 5, 3) := by decide +kernel
theorem d_Md_lowestAsk_41 : decode M_Md_lowestAsk.2.1 41 = .ok (.iload_n 3, 1) := by decide +kernel
theorem d_Md_lowestAsk_42 : decode M_Md_lowestAsk.2.1 42 = .ok (.istore_n 2, 1) := by decide +kernel
theorem d_Md_lowestAsk_43 : decode M_Md_lowestAsk.2.1 43 = .ok (.iinc 3 1, 3) := by decide +kernel
theorem d_Md_lowestAsk_46 : decode M_Md_lowestAsk.2.1 46 = .ok (.goto (-42), 3) := by decide +kernel
theorem d_Md_lowestAsk_49 : decode M_Md_lowestAsk.2.1 49 = .ok (.iload_n 2, 1) := by decide +kernel
theorem d_Md_lowestAsk_50 : decode M_Md_lowestAsk.2.1 50 = .ok (.ireturn, 1) := by decide +kernel
def M_Md_sell : mj_M := (⟨"MarketTownModel", "sell", "(IIII)V"⟩, prog_13_method_48_code, 9, none, 2, 49)
theorem d_Md_sell_0 : decode M_Md_sell.2.1 0 = .ok (.aload_n 0, 1) := by decide +kernel
theorem d_Md_sell_1 : decode M_Md_sell.2.1 1 = .ok (.getfield 23, 3) := by decide +kernel
theorem d_Md_sell_4 : decode M_Md_sell.2.1 4 = .ok (.iload_n 2, 1) := by decide +kernel
theorem d_Md_sell_5 : decode M_Md_sell.2.1 5 = .ok (.iaload, 1) := by decide +kernel
theorem d_Md_sell_6 : decode M_Md_sell.2.1 6 = .ok (.istore 5, 2) := by decide +kernel
theorem d_Md_sell_8 : decode M_Md_sell.2.1 8 = .ok (.aload_n 0, 1) := by decide +kernel
theorem d_Md_sell_9 : decode M_Md_sell.2.1 9 = .ok (.getfield 23, 3) := by decide +kernel
theorem d_Md_sell_12 : decode M_Md_sell.2.1 12 = .ok (.iload_n 1, 1) := by decide +kernel
theorem d_Md_sell_13 : decode M_Md_sell.2.1 13 = .ok (.iaload, 1) := by decide +kernel
theorem d_Md_sell_14 : decode M_Md_sell.2.1 14 = .ok (.istore 6, 2) := by decide +kernel
theorem d_Md_sell_16 : decode M_Md_sell.2.1 16 = .ok (.aload_n 0, 1) := by decide +kernel
theorem d_Md_sell_17 : decode M_Md_sell.2.1 17 = .ok (.getfield 26, 3) := by decide +kernel
theorem d_Md_sell_20 : decode M_Md_sell.2.1 20 = .ok (.iload_n 2, 1) := by decide +kernel
theorem d_Md_sell_21 : decode M_Md_sell.2.1 21 = .ok (.iaload, 1) := by decide +kernel
theorem d_Md_sell_22 : decode M_Md_sell.2.1 22 = .ok (.istore 7, 2) := by decide +kernel
theorem d_Md_sell_24 : decode M_Md_sell.2.1 24 = .ok (.aload_n 0, 1) := by decide +kernel
theorem d_Md_sell_25 : decode M_Md_sell.2.1 25 = .ok (.getfield 38, 3) := by decide +kernel
theorem d_Md_sell_28 : decode M_Md_sell.2.1 28 = .ok (.iload_n 1, 1) := by decide +kernel
theorem d_Md_sell_29 : decode M_Md_sell.2.1 29 = .ok (.dup2, 1) := by decide +kernel
theorem d_Md_sell_30 : decode M_Md_sell.2.1 30 = .ok (.iaload, 1) := by decide +kernel
theorem d_Md_sell_31 : decode M_Md_sell.2.1 31 = .ok (.iload_n 3, 1) := by decide +kernel
theorem d_Md_sell_32 : decode M_Md_sell.2.1 32 = .ok (.isub, 1) := by decide +kernel
theorem d_Md_sell_33 : decode M_Md_sell.2.1 33 = .ok (.iastore, 1) := by decide +kernel
theorem d_Md_sell_34 : decode M_Md_sell.2.1 34 = .ok (.aload_n 0, 1) := by decide +kernel
theorem d_Md_sell_35 : decode M_Md_sell.2.1 35 = .ok (.getfield 38, 3) := by decide +kernel
theorem d_Md_sell_38 : decode M_Md_sell.2.1 38 = .ok (.iload_n 2, 1) := by decide +kernel
theorem d_Md_sell_39 : decode M_Md_sell.2.1 39 = .ok (.dup2, 1) := by decide +kernel
theorem d_Md_sell_40 : decode M_Md_sell.2.1 40 = .ok (.iaload, 1) := by decide +kernel
theorem d_Md_sell_41 : decode M_Md_sell.2.1 41 = .ok (.iload_n 3, 1) := by decide +kernel
theorem d_Md_sell_42 : decode M_Md_sell.2.1 42 = .ok (.isub, 1) := by decide +kernel
theorem d_Md_sell_43 : decode M_Md_sell.2.1 43 = .ok (.iastore, 1) := by decide +kernel
theorem d_Md_sell_44 : decode M_Md_sell.2.1 44 = .ok (.aload_n 0, 1) := by decide +kernel
theorem d_Md_sell_45 : decode M_Md_sell.2.1 45 = .ok (.iload 5, 2) := by decide +kernel
theorem d_Md_sell_47 : decode M_Md_sell.2.1 47 = .ok (.iload 7, 2) := by decide +kernel
theorem d_Md_sell_49 : decode M_Md_sell.2.1 49 = .ok (.iload_n 3, 1) := by decide +kernel
theorem d_Md_sell_50 : decode M_Md_sell.2.1 50 = .ok (.iload 6, 2) := by decide +kernel
theorem d_Md_sell_52 : decode M_Md_sell.2.1 52 = .ok (.invokevirtual 165, 3) := by decide +kernel
theorem d_Md_sell_55 : decode M_Md_sell.2.1 55 = .ok (.aload_n 0, 1) := by decide +kernel
theorem d_Md_sell_56 : decode M_Md_sell.2.1 56 = .ok (.iload 6, 2) := by decide +kernel
theorem d_Md_sell_58 : decode M_Md_sell.2.1 58 = .ok (.iload 5, 2) := by decide +kernel
theorem d_Md_sell_60 : decode M_Md_sell.2.1 60 = .ok (.iload 4, 2) := by decide +kernel
theorem d_Md_sell_62 : decode M_Md_sell.2.1 62 = .ok (.iload_n 3, 1) := by decide +kernel
theorem d_Md_sell_63 : decode M_Md_sell.2.1 63 = .ok (.imul, 1) := by decide +kernel
theorem d_Md_sell_64 : decode M_Md_sell.2.1 64 = .ok (.iconst 0, 1) := by decide +kernel
theorem d_Md_sell_65 : decode M_Md_sell.2.1 65 = .ok (.invokevirtual 176, 3) := by decide +kernel
theorem d_Md_sell_68 : decode M_Md_sell.2.1 68 = .ok (.aload_n 0, 1) := by decide +kernel
theorem d_Md_sell_69 : decode M_Md_sell.2.1 69 = .ok (.invokevirtual 199, 3) := by decide +kernel
theorem d_Md_sell_72 : decode M_Md_sell.2.1 72 = .ok (.istore 8, 2) := by decide +kernel
theorem d_Md_sell_74 : decode M_Md_sell.2.1 74 = .ok (.iload 8, 2) := by decide +kernel
theorem d_Md_sell_76 : decode M_Md_sell.2.1 76 = .ok (.ifCond .lt 33, 3) := by decide +kernel
theorem d_Md_sell_79 : decode M_Md_sell.2.1 79 = .ok (.aload_n 0, 1) := by decide +kernel
theorem d_Md_sell_80 : decode M_Md_sell.2.1 80 = .ok (.iload 5, 2) := by decide +kernel
theorem d_Md_sell_82 : decode M_Md_sell.2.1 82 = .ok (.iload 8, 2) := by decide +kernel
theorem d_Md_sell_84 : decode M_Md_sell.2.1 84 = .ok (.iload 4, 2) := by decide +kernel
theorem d_Md_sell_86 : decode M_Md_sell.2.1 86 = .ok (.i2l, 1) := by decide +kernel
theorem d_Md_sell_87 : decode M_Md_sell.2.1 87 = .ok (.iload_n 3, 1) := by decide +kernel
theorem d_Md_sell_88 : decode M_Md_sell.2.1 88 = .ok (.i2l, 1) := by decide +kernel
theorem d_Md_sell_89 : decode M_Md_sell.2.1 89 = .ok (.lmul, 1) := by decide +kernel
theorem d_Md_sell_90 : decode M_Md_sell.2.1 90 = .ok (.aload_n 0, 1) := by decide +kernel
theorem d_Md_sell_91 : decode M_Md_sell.2.1 91 = .ok (.getfield 7, 3) := by decide +kernel
theorem d_Md_sell_94 : decode M_Md_sell.2.1 94 = .ok (.sipush 2166, 3) := by decide +kernel
theorem d_Md_sell_97 : decode M_Md_sell.2.1 97 = .ok (.iaload, 1) := by decide +kernel
theorem d_Md_sell_98 : decode M_Md_sell.2.1 98 = .ok (.i2l, 1) := by decide +kernel
theorem d_Md_sell_99 : decode M_Md_sell.2.1 99 = .ok (.lmul, 1) := by decide +kernel
theorem d_Md_sell_100 : decode M_Md_sell.2.1 100 = .ok (.ldc2_w 202, 3) := by decide +kernel
theorem d_Md_sell_103 : decode M_Md_sell.2.1 103 = .ok (.ldiv, 1) := by decide +kernel
theorem d_Md_sell_104 : decode M_Md_sell.2.1 104 = .ok (.l2i, 1) := by decide +kernel
theorem d_Md_sell_105 : decode M_Md_sell.2.1 105 = .ok (.iconst 1, 1) := by decide +kernel
theorem d_Md_sell_106 : decode M_Md_sell.2.1 106 = .ok (.invokevirtual 176, 3) := by decide +kernel
theorem d_Md_sell_109 : decode M_Md_sell.2.1 109 = .ok (.aload_n 0, 1) := by decide +kernel
theorem d_Md_sell_110 : decode M_Md_sell.2.1 110 = .ok (.getfield 7, 3) := by decide +kernel
theorem d_Md_sell_113 : decode M_Md_sell.2.1 113 = .ok (.sipush 1308, 3) := by decide +kernel
theorem d_Md_sell_116 : decode M_Md_sell.2.1 116 = .ok (.bipush 11, 2) := by decide +kernel
theorem d_Md_sell_118 : decode M_Md_sell.2.1 118 = .ok (.iload 7, 2) := by decide +kernel
theorem d_Md_sell_120 : decode M_Md_sell.2.1 120 = .ok (.imul, 1) := by decide +kernel
theorem d_Md_sell_121 : decode M_Md_sell.2.1 121 = .ok (.iadd, 1) := by decide +kernel
theorem d_Md_sell_122 : decode M_Md_sell.2.1 122 = .ok (.iconst 2, 1) := by decide +kernel
theorem d_Md_sell_123 : decode M_Md_sell.2.1 123 = .ok (.iadd, 1) := by decide +kernel
theorem d_Md_sell_124 : decode M_Md_sell.2.1 124 = .ok (.iload 4, 2) := by decide +kernel
theorem d_Md_sell_126 : decode M_Md_sell.2.1 126 = .ok (.iastore, 1) := by decide +kernel
theorem d_Md_sell_127 : decode M_Md_sell.2.1 127 = .ok (.aload_n 0, 1) := by decide +kernel
theorem d_Md_sell_128 : decode M_Md_sell.2.1 128 = .ok (.iload 7, 2) := by decide +kernel
theorem d_Md_sell_130 : decode M_Md_sell.2.1 130 = .ok (.iconst 3, 1) := by decide +kernel
theorem d_Md_sell_131 : decode M_Md_sell.2.1 131 = .ok (.iload_n 3, 1) := by decide +kernel
theorem d_Md_sell_132 : decode M_Md_sell.2.1 132 = .ok (.invokevirtual 169, 3) := by decide +kernel
theorem d_Md_sell_135 : decode M_Md_sell.2.1 135 = .ok (.return_, 1) := by decide +kernel
def M_Md_council : mj_M := (⟨"MarketTownModel", "council", "()I"⟩, prog_13_method_47_code, 2, some .int, 1, 21)
theorem d_Md_council_0 : decode M_Md_council.2.1 0 = .ok (.iconst 0, 1) := by decide +kernel
theorem d_Md_council_1 : decode M_Md_council.2.1 1 = .ok (.istore_n 1, 1) := by decide +kernel
theorem d_Md_council_2 : decode M_Md_council.2.1 2 = .ok (.iload_n 1, 1) := by decide +kernel
theorem d_Md_council_3 : decode M_Md_council.2.1 3 = .ok (.aload_n 0, 1) := by decide +kernel
theorem d_Md_council_4 : decode M_Md_council.2.1 4 = .ok (.getfield 7, 3) := by decide +kernel
theorem d_Md_council_7 : decode M_Md_council.2.1 7 = .ok (.sipush 2163, 3) := by decide +kernel
theorem d_Md_council_10 : decode M_Md_council.2.1 10 = .ok (.iaload, 1) := by decide +kernel
theorem d_Md_council_11 : decode M_Md_council.2.1 11 = .ok (.if_icmp .ge 20, 3) := by decide +kernel
theorem d_Md_council_14 : decode M_Md_council.2.1 14 = .ok (.aload_n 0, 1) := by decide +kernel
theorem d_Md_council_15 : decode M_Md_council.2.1 15 = .ok (.iload_n 1, 1) := by decide +kernel
theorem d_Md_council_16 : decode M_Md_council.2.1 16 = .ok (.invokevirtual 61, 3) := by decide +kernel
theorem d_Md_council_19 : decode M_Md_council.2.1 19 = .ok (.iconst 5, 1) := by decide +kernel
theorem d_Md_council_20 : decode M_Md_council.2.1 20 = .ok (.if_icmp .ne 5, 3) := by decide +kernel
theorem d_Md_council_23 : decode M_Md_council.2.1 23 = .ok (.iload_n 1, 1) := by decide +kernel
theorem d_Md_council_24 : decode M_Md_council.2.1 24 = .ok (.ireturn, 1) := by decide +kernel
theorem d_Md_council_25 : decode M_Md_council.2.1 25 = .ok (.iinc 1 1, 3) := by decide +kernel
theorem d_Md_council_28 : decode M_Md_council.2.1 28 = .ok (.goto (-26), 3) := by decide +kernel
theorem d_Md_council_31 : decode M_Md_council.2.1 31 = .ok (.iconst (-1), 1) := by decide +kernel
theorem d_Md_council_32 : decode M_Md_council.2.1 32 = .ok (.ireturn, 1) := by decide +kernel
def M_Md_called : mj_M := (⟨"MarketTownModel", "called", "(I)V"⟩, prog_13_method_54_code, 7, none, 3, 77)
theorem d_Md_called_0 : decode M_Md_called.2.1 0 = .ok (.iconst 0, 1) := by decide +kernel
theorem d_Md_called_1 : decode M_Md_called.2.1 1 = .ok (.istore_n 2, 1) := by decide +kernel
theorem d_Md_called_2 : decode M_Md_called.2.1 2 = .ok (.iconst 0, 1) := by decide +kernel
theorem d_Md_called_3 : decode M_Md_called.2.1 3 = .ok (.istore_n 3, 1) := by decide +kernel
theorem d_Md_called_4 : decode M_Md_called.2.1 4 = .ok (.iconst 0, 1) := by decide +kernel
theorem d_Md_called_5 : decode M_Md_called.2.1 5 = .ok (.istore 4, 2) := by decide +kernel
theorem d_Md_called_7 : decode M_Md_called.2.1 7 = .ok (.iload 4, 2) := by decide +kernel
theorem d_Md_called_9 : decode M_Md_called.2.1 9 = .ok (.aload_n 0, 1) := by decide +kernel
theorem d_Md_called_10 : decode M_Md_called.2.1 10 = .ok (.getfield 156, 3) := by decide +kernel
theorem d_Md_called_13 : decode M_Md_called.2.1 13 = .ok (.if_icmp .ge 73, 3) := by decide +kernel
theorem d_Md_called_16 : decode M_Md_called.2.1 16 = .ok (.aload_n 0, 1) := by decide +kernel
theorem d_Md_called_17 : decode M_Md_called.2.1 17 = .ok (.getfield 26, 3) := by decide +kernel
theorem d_Md_called_20 : decode M_Md_called.2.1 20 = .ok (.iload 4, 2) := by decide +kernel
theorem d_Md_called_22 : decode M_Md_called.2.1 22 = .ok (.iaload, 1) := by decide +kernel
theorem d_Md_called_23 : decode M_Md_called.2.1 23 = .ok (.iload_n 1, 1) := by decide +kernel
theorem d_Md_called_24 : decode M_Md_called.2.1 24 = .ok (.if_icmp .ne 56, 3) := by decide +kernel
theorem d_Md_called_27 : decode M_Md_called.2.1 27 = .ok (.aload_n 0, 1) := by decide +kernel
theorem d_Md_called_28 : decode M_Md_called.2.1 28 = .ok (.iload_n 1, 1) := by decide +kernel
theorem d_Md_called_29 : decode M_Md_called.2.1 29 = .ok (.aload_n 0, 1) := by decide +kernel
theorem d_Md_called_30 : decode M_Md_called.2.1 30 = .ok (.getfield 32, 3) := by decide +kernel
theorem d_Md_called_33 : decode M_Md_called.2.1 33 = .ok (.iload 4, 2) := by decide +kernel
theorem d_Md_called_35 : decode M_Md_called.2.1 35 = .ok (.iaload, 1) := by decide +kernel
theorem d_Md_called_36 : decode M_Md_called.2.1 36 = .ok (.invokevirtual 214, 3) := by decide +kernel
theorem d_Md_called_39 : decode M_Md_called.2.1 39 = .ok (.istore 5, 2) := by decide +kernel
theorem d_Md_called_41 : decode M_Md_called.2.1 41 = .ok (.iload 5, 2) := by decide +kernel
theorem d_Md_called_43 : decode M_Md_called.2.1 43 = .ok (.iload_n 3, 1) := by decide +kernel
theorem d_Md_called_44 : decode M_Md_called.2.1 44 = .ok (.if_icmp .gt 25, 3) := by decide +kernel
theorem d_Md_called_47 : decode M_Md_called.2.1 47 = .ok (.iload 5, 2) := by decide +kernel
theorem d_Md_called_49 : decode M_Md_called.2.1 49 = .ok (.iload_n 3, 1) := by decide +kernel
theorem d_Md_called_50 : decode M_Md_called.2.1 50 = .ok (.if_icmp .ne 30, 3) := by decide +kernel
theorem d_Md_called_53 : decode M_Md_called.2.1 53 = .ok (.iload 5, 2) := by decide +kernel
theorem d_Md_called_55 : decode M_Md_called.2.1 55 = .ok (.ifCond .le 25, 3) := by decide +kernel
theorem d_Md_called_58 : decode M_Md_called.2.1 58 = .ok (.aload_n 0, 1) := by decide +kernel
theorem d_Md_called_59 : decode M_Md_called.2.1 59 = .ok (.getfield 32, 3) := by decide +kernel
theorem d_Md_called_62 : decode M_Md_called.2.1 62 = .ok (.iload 4, 2) := by decide +kernel
theorem d_Md_called_64 : decode M_Md_called.2.1 64 = .ok (.iaload, 1) := by decide +kernel
theorem d_Md_called_65 : decode M_Md_called.2.1 65 = .ok (.iload_n 2, 1) := by decide +kernel
theorem d_Md_called_66 : decode M_Md_called.2.1 66 = .ok (.if_icmp .ge 14, 3) := by decide +kernel
theorem d_Md_called_69 : decode M_Md_called.2.1 69 = .ok (.iload 5, 2) := by decide +kernel
theorem d_Md_called_71 : decode M_Md_called.2.1 71 = .ok (.istore_n 3, 1) := by decide +kernel
theorem d_Md_called_72 : decode M_Md_called.2.1 72 = .ok (.aload_n 0, 1) := by decide +kernel
theorem d_Md_called_73 : decode M_Md_called.2.1 73 = .ok (.getfield 32, 3) := by decide +kernel
theorem d_Md_called_76 : decode M_Md_called.2.1 76 = .ok (.iload 4, 2) := by decide +kernel
theorem d_Md_called_78 : decode M_Md_called.2.1 78 = .ok (.iaload, 1) := by decide +kernel
theorem d_Md_called_79 : decode M_Md_called.2.1 79 = .ok (.istore_n 2, 1) := by decide +kernel
theorem d_Md_called_80 : decode M_Md_called.2.1 80 = .ok (.iinc 4 1, 3) := by decide +kernel
theorem d_Md_called_83 : decode M_Md_called.2.1 83 = .ok (.goto (-76), 3) := by decide +kernel
theorem d_Md_called_86 : decode M_Md_called.2.1 86 = .ok (.iload_n 3, 1) := by decide +kernel
theorem d_Md_called_87 : decode M_Md_called.2.1 87 = .ok (.ifCond .le 59, 3) := by decide +kernel
theorem d_Md_called_90 : decode M_Md_called.2.1 90 = .ok (.aload_n 0, 1) := by decide +kernel
theorem d_Md_called_91 : decode M_Md_called.2.1 91 = .ok (.iload_n 1, 1) := by decide +kernel
theorem d_Md_called_92 : decode M_Md_called.2.1 92 = .ok (.invokevirtual 217, 3) := by decide +kernel
theorem d_Md_called_95 : decode M_Md_called.2.1 95 = .ok (.istore 4, 2) := by decide +kernel
theorem d_Md_called_97 : decode M_Md_called.2.1 97 = .ok (.aload_n 0, 1) := by decide +kernel
theorem d_Md_called_98 : decode M_Md_called.2.1 98 = .ok (.iload_n 1, 1) := by decide +kernel
theorem d_Md_called_99 : decode M_Md_called.2.1 99 = .ok (.invokevirtual 208, 3) := by decide +kernel
theorem d_Md_called_102 : decode M_Md_called.2.1 102 = .ok (.istore 5, 2) := by decide +kernel
theorem d_Md_called_104 : decode M_Md_called.2.1 104 = .ok (.iload_n 3, 1) := by decide +kernel
theorem d_Md_called_105 : decode M_Md_called.2.1 105 = .ok (.aload_n 0, 1) := by decide +kernel
theorem d_Md_called_106 : decode M_Md_called.2.1 106 = .ok (.getfield 38, 3) := by decide +kernel
theorem d_Md_called_109 : decode M_Md_called.2.1 109 = .ok (.iload 4, 2) := by decide +kernel
theorem d_Md_called_111 : decode M_Md_called.2.1 111 = .ok (.iaload, 1) := by decide +kernel
theorem d_Md_called_112 : decode M_Md_called.2.1 112 = .ok (.aload_n 0, 1) := by decide +kernel
theorem d_Md_called_113 : decode M_Md_called.2.1 113 = .ok (.getfield 38, 3) := by decide +kernel
theorem d_Md_called_116 : decode M_Md_called.2.1 116 = .ok (.iload 5, 2) := by decide +kernel
theorem d_Md_called_118 : decode M_Md_called.2.1 118 = .ok (.iaload, 1) := by decide +kernel
theorem d_Md_called_119 : decode M_Md_called.2.1 119 = .ok (.invokestatic 159, 3) := by decide +kernel
theorem d_Md_called_122 : decode M_Md_called.2.1 122 = .ok (.invokestatic 159, 3) := by decide +kernel
theorem d_Md_called_125 : decode M_Md_called.2.1 125 = .ok (.istore 6, 2) := by decide +kernel
theorem d_Md_called_127 : decode M_Md_called.2.1 127 = .ok (.aload_n 0, 1) := by decide +kernel
theorem d_Md_called_128 : decode M_Md_called.2.1 128 = .ok (.iload 4, 2) := by decide +kernel
theorem d_Md_called_130 : decode M_Md_called.2.1 130 = .ok (.iload 5, 2) := by decide +kernel
theorem d_Md_called_132 : decode M_Md_called.2.1 132 = .ok (.iload 6, 2) := by decide +kernel
theorem d_Md_called_134 : decode M_Md_called.2.1 134 = .ok (.iload_n 2, 1) := by decide +kernel
theorem d_Md_called_135 : decode M_Md_called.2.1 135 = .ok (.invokevirtual 211, 3) := by decide +kernel
theorem d_Md_called_138 : decode M_Md_called.2.1 138 = .ok (.iload_n 3, 1) := by decide +kernel
theorem d_Md_called_139 : decode M_Md_called.2.1 139 = .ok (.iload 6, 2) := by decide +kernel
theorem d_Md_called_141 : decode M_Md_called.2.1 141 = .ok (.isub, 1) := by decide +kernel
theorem d_Md_called_142 : decode M_Md_called.2.1 142 = .ok (.istore_n 3, 1) := by decide +kernel
theorem d_Md_called_143 : decode M_Md_called.2.1 143 = .ok (.goto (-57), 3) := by decide +kernel
theorem d_Md_called_146 : decode M_Md_called.2.1 146 = .ok (.return_, 1) := by decide +kernel
def M_Md_movesAt : mj_M := (⟨"MarketTownModel", "movesAt", "(II)I"⟩, prog_13_method_53_code, 6, some .int, 1, 23)
theorem d_Md_movesAt_0 : decode M_Md_movesAt.2.1 0 = .ok (.iconst 0, 1) := by decide +kernel
theorem d_Md_movesAt_1 : decode M_Md_movesAt.2.1 1 = .ok (.istore_n 3, 1) := by decide +kernel
theorem d_Md_movesAt_2 : decode M_Md_movesAt.2.1 2 = .ok (.iconst 0, 1) := by decide +kernel
theorem d_Md_movesAt_3 : decode M_Md_movesAt.2.1 3 = .ok (.istore 4, 2) := by decide +kernel
theorem d_Md_movesAt_5 : decode M_Md_movesAt.2.1 5 = .ok (.iconst 0, 1) := by decide +kernel
theorem d_Md_movesAt_6 : decode M_Md_movesAt.2.1 6 = .ok (.istore 5, 2) := by decide +kernel
theorem d_Md_movesAt_8 : decode M_Md_movesAt.2.1 8 = .ok (.iload 5, 2) := by decide +kernel
theorem d_Md_movesAt_10 : decode M_Md_movesAt.2.1 10 = .ok (.aload_n 0, 1) := by decide +kernel
theorem d_Md_movesAt_11 : decode M_Md_movesAt.2.1 11 = .ok (.getfield 156, 3) := by decide +kernel
theorem d_Md_movesAt_14 : decode M_Md_movesAt.2.1 14 = .ok (.if_icmp .ge 83, 3) := by decide +kernel
theorem d_Md_movesAt_17 : decode M_Md_movesAt.2.1 17 = .ok (.iload_n 3, 1) := by decide +kernel
theorem d_Md_movesAt_18 : decode M_Md_movesAt.2.1 18 = .ok (.aload_n 0, 1) := by decide +kernel
theorem d_Md_movesAt_19 : decode M_Md_movesAt.2.1 19 = .ok (.iload 5, 2) := by decide +kernel
theorem d_Md_movesAt_21 : decode M_Md_movesAt.2.1 21 = .ok (.iload_n 1, 1) := by decide +kernel
theorem d_Md_movesAt_22 : decode M_Md_movesAt.2.1 22 = .ok (.iconst 1, 1) := by decide +kernel
theorem d_Md_movesAt_23 : decode M_Md_movesAt.2.1 23 = .ok (.invokevirtual 204, 3) := by decide +kernel
theorem d_Md_movesAt_26 : decode M_Md_movesAt.2.1 26 = .ok (.ifCond .eq 24, 3) := by decide +kernel
theorem d_Md_movesAt_29 : decode M_Md_movesAt.2.1 29 = .ok (.aload_n 0, 1) := by decide +kernel
theorem d_Md_movesAt_30 : decode M_Md_movesAt.2.1 30 = .ok (.getfield 32, 3) := by decide +kernel
theorem d_Md_movesAt_33 : decode M_Md_movesAt.2.1 33 = .ok (.iload 5, 2) := by decide +kernel
theorem d_Md_movesAt_35 : decode M_Md_movesAt.2.1 35 = .ok (.iaload, 1) := by decide +kernel
theorem d_Md_movesAt_36 : decode M_Md_movesAt.2.1 36 = .ok (.iload_n 2, 1) := by decide +kernel
theorem d_Md_movesAt_37 : decode M_Md_movesAt.2.1 37 = .ok (.if_icmp .lt 13, 3) := by decide +kernel
theorem d_Md_movesAt_40 : decode M_Md_movesAt.2.1 40 = .ok (.aload_n 0, 1) := by decide +kernel
theorem d_Md_movesAt_41 : decode M_Md_movesAt.2.1 41 = .ok (.getfield 38, 3) := by decide +kernel
theorem d_Md_movesAt_44 : decode M_Md_movesAt.2.1 44 = .ok (.iload 5, 2) := by decide +kernel
theorem d_Md_movesAt_46 : decode M_Md_movesAt.2.1 46 = .ok (.iaload, 1) := by decide +kernel
theorem d_Md_movesAt_47 : decode M_Md_movesAt.2.1 47 = .ok (.goto 4, 3) := by decide +kernel
theorem d_Md_movesAt_50 : decode M_Md_movesAt.2.1 50 = .ok (.iconst 0, 1) := by decide +kernel
theorem d_Md_movesAt_51 : decode M_Md_movesAt.2.1 51 = .ok (.iadd, 1) := by decide +kernel
theorem d_Md_movesAt_52 : decode M_Md_movesAt.2.1 52 = .ok (.istore_n 3, 1) := by decide +kernel
theorem d_Md_movesAt_53 : decode M_Md_movesAt.2.1 53 = .ok (.iload 4, 2) := by decide +kernel
theorem d_Md_movesAt_55 : decode M_Md_movesAt.2.1 55 = .ok (.aload_n 0, 1) := by decide +kernel
theorem d_Md_movesAt_56 : decode M_Md_movesAt.2.1 56 = .ok (.iload 5, 2) := by decide +kernel
theorem d_Md_movesAt_58 : decode M_Md_movesAt.2.1 58 = .ok (.iload_n 1, 1) := by decide +kernel
theorem d_Md_movesAt_59 : decode M_Md_movesAt.2.1 59 = .ok (.iconst 0, 1) := by decide +kernel
theorem d_Md_movesAt_60 : decode M_Md_movesAt.2.1 60 = .ok (.invokevirtual 204, 3) := by decide +kernel
theorem d_Md_movesAt_63 : decode M_Md_movesAt.2.1 63 = .ok (.ifCond .eq 24, 3) := by decide +kernel
theorem d_Md_movesAt_66 : decode M_Md_movesAt.2.1 66 = .ok (.aload_n 0, 1) := by decide +kernel
theorem d_Md_movesAt_67 : decode M_Md_movesAt.2.1 67 = .ok (.getfield 32, 3) := by decide +kernel
theorem d_Md_movesAt_70 : decode M_Md_movesAt.2.1 70 = .ok (.iload 5, 2) := by decide +kernel
theorem d_Md_movesAt_72 : decode M_Md_movesAt.2.1 72 = .ok (.iaload, 1) := by decide +kernel
theorem d_Md_movesAt_73 : decode M_Md_movesAt.2.1 73 = .ok (.iload_n 2, 1) := by decide +kernel
theorem d_Md_movesAt_74 : decode M_Md_movesAt.2.1 74 = .ok (.if_icmp .gt 13, 3) := by decide +kernel
theorem d_Md_movesAt_77 : decode M_Md_movesAt.2.1 77 = .ok (.aload_n 0, 1) := by decide +kernel
theorem d_Md_movesAt_78 : decode M_Md_movesAt.2.1 78 = .ok (.getfield 38, 3) := by decide +kernel
theorem d_Md_movesAt_81 : decode M_Md_movesAt.2.1 81 = .ok (.iload 5, 2) := by decide +kernel
theorem d_Md_movesAt_83 : decode M_Md_movesAt.2.1 83 = .ok (.iaload, 1) := by decide +kernel
theorem d_Md_movesAt_84 : decode M_Md_movesAt.2.1 84 = .ok (.goto 4, 3) := by decide +kernel
theorem d_Md_movesAt_87 : decode M_Md_movesAt.2.1 87 = .ok (.iconst 0, 1) := by decide +kernel
theorem d_Md_movesAt_88 : decode M_Md_movesAt.2.1 88 = .ok (.iadd, 1) := by decide +kernel
theorem d_Md_movesAt_89 : decode M_Md_movesAt.2.1 89 = .ok (.istore 4, 2) := by decide +kernel
theorem d_Md_movesAt_91 : decode M_Md_movesAt.2.1 91 = .ok (.iinc 5 1, 3) := by decide +kernel
theorem d_Md_movesAt_94 : decode M_Md_movesAt.2.1 94 = .ok (.goto (-86), 3) := by decide +kernel
theorem d_Md_movesAt_97 : decode M_Md_movesAt.2.1 97 = .ok (.iload_n 3, 1) := by decide +kernel
theorem d_Md_movesAt_98 : decode M_Md_movesAt.2.1 98 = .ok (.iload 4, 2) := by decide +kernel
theorem d_Md_movesAt_100 : decode M_Md_movesAt.2.1 100 = .ok (.invokestatic 159, 3) := by decide +kernel
theorem d_Md_movesAt_103 : decode M_Md_movesAt.2.1 103 = .ok (.ireturn, 1) := by decide +kernel
def M_Md_posted : mj_M := (⟨"MarketTownModel", "posted", "(I)V"⟩, prog_13_method_52_code, 5, none, 3, 77)
theorem d_Md_posted_0 : decode M_Md_posted.2.1 0 = .ok (.iconst 0, 1) := by decide +kernel
theorem d_Md_posted_1 : decode M_Md_posted.2.1 1 = .ok (.istore_n 2, 1) := by decide +kernel
theorem d_Md_posted_2 : decode M_Md_posted.2.1 2 = .ok (.iload_n 2, 1) := by decide +kernel
theorem d_Md_posted_3 : decode M_Md_posted.2.1 3 = .ok (.aload_n 0, 1) := by decide +kernel
theorem d_Md_posted_4 : decode M_Md_posted.2.1 4 = .ok (.getfield 156, 3) := by decide +kernel
theorem d_Md_posted_7 : decode M_Md_posted.2.1 7 = .ok (.if_icmp .ge 107, 3) := by decide +kernel
theorem d_Md_posted_10 : decode M_Md_posted.2.1 10 = .ok (.aload_n 0, 1) := by decide +kernel
theorem d_Md_posted_11 : decode M_Md_posted.2.1 11 = .ok (.iload_n 2, 1) := by decide +kernel
theorem d_Md_posted_12 : decode M_Md_posted.2.1 12 = .ok (.iload_n 1, 1) := by decide +kernel
theorem d_Md_posted_13 : decode M_Md_posted.2.1 13 = .ok (.iconst 1, 1) := by decide +kernel
theorem d_Md_posted_14 : decode M_Md_posted.2.1 14 = .ok (.invokevirtual 204, 3) := by decide +kernel
theorem d_Md_posted_17 : decode M_Md_posted.2.1 17 = .ok (.istore_n 3, 1) := by decide +kernel
theorem d_Md_posted_18 : decode M_Md_posted.2.1 18 = .ok (.iload_n 3, 1) := by decide +kernel
theorem d_Md_posted_19 : decode M_Md_posted.2.1 19 = .ok (.ifCond .eq 89, 3) := by decide +kernel
theorem d_Md_posted_22 : decode M_Md_posted.2.1 22 = .ok (.aload_n 0, 1) := by decide +kernel
theorem d_Md_posted_23 : decode M_Md_posted.2.1 23 = .ok (.iload_n 1, 1) := by decide +kernel
theorem d_Md_posted_24 : decode M_Md_posted.2.1 24 = .ok (.invokevirtual 208, 3) := by decide +kernel
theorem d_Md_posted_27 : decode M_Md_posted.2.1 27 = .ok (.istore 4, 2) := by decide +kernel
theorem d_Md_posted_29 : decode M_Md_posted.2.1 29 = .ok (.iload 4, 2) := by decide +kernel
theorem d_Md_posted_31 : decode M_Md_posted.2.1 31 = .ok (.ifCond .lt 23, 3) := by decide +kernel
theorem d_Md_posted_34 : decode M_Md_posted.2.1 34 = .ok (.aload_n 0, 1) := by decide +kernel
theorem d_Md_posted_35 : decode M_Md_posted.2.1 35 = .ok (.getfield 32, 3) := by decide +kernel
theorem d_Md_posted_38 : decode M_Md_posted.2.1 38 = .ok (.iload 4, 2) := by decide +kernel
theorem d_Md_posted_40 : decode M_Md_posted.2.1 40 = .ok (.iaload, 1) := by decide +kernel
theorem d_Md_posted_41 : decode M_Md_posted.2.1 41 = .ok (.aload_n 0, 1) := by decide +kernel
theorem d_Md_posted_42 : decode M_Md_posted.2.1 42 = .ok (.getfield 32, 3) := by decide +kernel
theorem d_Md_posted_45 : decode M_Md_posted.2.1 45 = .ok (.iload_n 2, 1) := by decide +kernel
theorem d_Md_posted_46 : decode M_Md_posted.2.1 46 = .ok (.iaload, 1) := by decide +kernel
theorem d_Md_posted_47 : decode M_Md_posted.2.1 47 = .ok (.if_icmp .gt 7, 3) := by decide +kernel
theorem d_Md_posted_50 : decode M_Md_posted.2.1 50 = .ok (.iconst 1, 1) := by decide +kernel
theorem d_Md_posted_51 : decode M_Md_posted.2.1 51 = .ok (.goto 4, 3) := by decide +kernel
theorem d_Md_posted_54 : decode M_Md_posted.2.1 54 = .ok (.iconst 0, 1) := by decide +kernel
theorem d_Md_posted_55 : decode M_Md_posted.2.1 55 = .ok (.istore_n 3, 1) := by decide +kernel
theorem d_Md_posted_56 : decode M_Md_posted.2.1 56 = .ok (.iload_n 3, 1) := by decide +kernel
theorem d_Md_posted_57 : decode M_Md_posted.2.1 57 = .ok (.ifCond .eq 48, 3) := by decide +kernel
theorem d_Md_posted_60 : decode M_Md_posted.2.1 60 = .ok (.aload_n 0, 1) := by decide +kernel
theorem d_Md_posted_61 : decode M_Md_posted.2.1 61 = .ok (.iload_n 2, 1) := by decide +kernel
theorem d_Md_posted_62 : decode M_Md_posted.2.1 62 = .ok (.iload 4, 2) := by decide +kernel
theorem d_Md_posted_64 : decode M_Md_posted.2.1 64 = .ok (.aload_n 0, 1) := by decide +kernel
theorem d_Md_posted_65 : decode M_Md_posted.2.1 65 = .ok (.getfield 38, 3) := by decide +kernel
theorem d_Md_posted_68 : decode M_Md_posted.2.1 68 = .ok (.iload_n 2, 1) := by decide +kernel
theorem d_Md_posted_69 : decode M_Md_posted.2.1 69 = .ok (.iaload, 1) := by decide +kernel
theorem d_Md_posted_70 : decode M_Md_posted.2.1 70 = .ok (.aload_n 0, 1) := by decide +kernel
theorem d_Md_posted_71 : decode M_Md_posted.2.1 71 = .ok (.getfield 38, 3) := by decide +kernel
theorem d_Md_posted_74 : decode M_Md_posted.2.1 74 = .ok (.iload 4, 2) := by decide +kernel
theorem d_Md_posted_76 : decode M_Md_posted.2.1 76 = .ok (.iaload, 1) := by decide +kernel
theorem d_Md_posted_77 : decode M_Md_posted.2.1 77 = .ok (.invokestatic 159, 3) := by decide +kernel
theorem d_Md_posted_80 : decode M_Md_posted.2.1 80 = .ok (.aload_n 0, 1) := by decide +kernel
theorem d_Md_posted_81 : decode M_Md_posted.2.1 81 = .ok (.getfield 32, 3) := by decide +kernel
theorem d_Md_posted_84 : decode M_Md_posted.2.1 84 = .ok (.iload 4, 2) := by decide +kernel
theorem d_Md_posted_86 : decode M_Md_posted.2.1 86 = .ok (.iaload, 1) := by decide +kernel
theorem d_Md_posted_87 : decode M_Md_posted.2.1 87 = .ok (.invokevirtual 211, 3) := by decide +kernel
theorem d_Md_posted_90 : decode M_Md_posted.2.1 90 = .ok (.aload_n 0, 1) := by decide +kernel
theorem d_Md_posted_91 : decode M_Md_posted.2.1 91 = .ok (.getfield 38, 3) := by decide +kernel
theorem d_Md_posted_94 : decode M_Md_posted.2.1 94 = .ok (.iload_n 2, 1) := by decide +kernel
theorem d_Md_posted_95 : decode M_Md_posted.2.1 95 = .ok (.iaload, 1) := by decide +kernel
theorem d_Md_posted_96 : decode M_Md_posted.2.1 96 = .ok (.ifCond .le 7, 3) := by decide +kernel
theorem d_Md_posted_99 : decode M_Md_posted.2.1 99 = .ok (.iconst 1, 1) := by decide +kernel
theorem d_Md_posted_100 : decode M_Md_posted.2.1 100 = .ok (.goto 4, 3) := by decide +kernel
theorem d_Md_posted_103 : decode M_Md_posted.2.1 103 = .ok (.iconst 0, 1) := by decide +kernel
theorem d_Md_posted_104 : decode M_Md_posted.2.1 104 = .ok (.istore_n 3, 1) := by decide +kernel
theorem d_Md_posted_105 : decode M_Md_posted.2.1 105 = .ok (.goto (-87), 3) := by decide +kernel
theorem d_Md_posted_108 : decode M_Md_posted.2.1 108 = .ok (.iinc 2 1, 3) := by decide +kernel
theorem d_Md_posted_111 : decode M_Md_posted.2.1 111 = .ok (.goto (-109), 3) := by decide +kernel
theorem d_Md_posted_114 : decode M_Md_posted.2.1 114 = .ok (.return_, 1) := by decide +kernel
def M_Md_settle : mj_M := (⟨"MarketTownModel", "settle", "()V"⟩, prog_13_method_60_code, 4, none, 2, 50)
theorem d_Md_settle_0 : decode M_Md_settle.2.1 0 = .ok (.aload_n 0, 1) := by decide +kernel
theorem d_Md_settle_1 : decode M_Md_settle.2.1 1 = .ok (.invokevirtual 226, 3) := by decide +kernel
theorem d_Md_settle_4 : decode M_Md_settle.2.1 4 = .ok (.istore_n 1, 1) := by decide +kernel
theorem d_Md_settle_5 : decode M_Md_settle.2.1 5 = .ok (.iload_n 1, 1) := by decide +kernel
theorem d_Md_settle_6 : decode M_Md_settle.2.1 6 = .ok (.ifCond .lt 82, 3) := by decide +kernel
theorem d_Md_settle_9 : decode M_Md_settle.2.1 9 = .ok (.aload_n 0, 1) := by decide +kernel
theorem d_Md_settle_10 : decode M_Md_settle.2.1 10 = .ok (.getfield 7, 3) := by decide +kernel
theorem d_Md_settle_13 : decode M_Md_settle.2.1 13 = .ok (.sipush 1363, 3) := by decide +kernel
theorem d_Md_settle_16 : decode M_Md_settle.2.1 16 = .ok (.iconst 4, 1) := by decide +kernel
theorem d_Md_settle_17 : decode M_Md_settle.2.1 17 = .ok (.iload_n 1, 1) := by decide +kernel
theorem d_Md_settle_18 : decode M_Md_settle.2.1 18 = .ok (.imul, 1) := by decide +kernel
theorem d_Md_settle_19 : decode M_Md_settle.2.1 19 = .ok (.iadd, 1) := by decide +kernel
theorem d_Md_settle_20 : decode M_Md_settle.2.1 20 = .ok (.iconst 1, 1) := by decide +kernel
theorem d_Md_settle_21 : decode M_Md_settle.2.1 21 = .ok (.iadd, 1) := by decide +kernel
theorem d_Md_settle_22 : decode M_Md_settle.2.1 22 = .ok (.iaload, 1) := by decide +kernel
theorem d_Md_settle_23 : decode M_Md_settle.2.1 23 = .ok (.istore_n 2, 1) := by decide +kernel
theorem d_Md_settle_24 : decode M_Md_settle.2.1 24 = .ok (.aload_n 0, 1) := by decide +kernel
theorem d_Md_settle_25 : decode M_Md_settle.2.1 25 = .ok (.getfield 7, 3) := by decide +kernel
theorem d_Md_settle_28 : decode M_Md_settle.2.1 28 = .ok (.sipush 1363, 3) := by decide +kernel
theorem d_Md_settle_31 : decode M_Md_settle.2.1 31 = .ok (.iconst 4, 1) := by decide +kernel
theorem d_Md_settle_32 : decode M_Md_settle.2.1 32 = .ok (.iload_n 1, 1) := by decide +kernel
theorem d_Md_settle_33 : decode M_Md_settle.2.1 33 = .ok (.imul, 1) := by decide +kernel
theorem d_Md_settle_34 : decode M_Md_settle.2.1 34 = .ok (.iadd, 1) := by decide +kernel
theorem d_Md_settle_35 : decode M_Md_settle.2.1 35 = .ok (.iconst 2, 1) := by decide +kernel
theorem d_Md_settle_36 : decode M_Md_settle.2.1 36 = .ok (.iadd, 1) := by decide +kernel
theorem d_Md_settle_37 : decode M_Md_settle.2.1 37 = .ok (.iaload, 1) := by decide +kernel
theorem d_Md_settle_38 : decode M_Md_settle.2.1 38 = .ok (.istore_n 3, 1) := by decide +kernel
theorem d_Md_settle_39 : decode M_Md_settle.2.1 39 = .ok (.aload_n 0, 1) := by decide +kernel
theorem d_Md_settle_40 : decode M_Md_settle.2.1 40 = .ok (.iload_n 2, 1) := by decide +kernel
theorem d_Md_settle_41 : decode M_Md_settle.2.1 41 = .ok (.invokevirtual 150, 3) := by decide +kernel
theorem d_Md_settle_44 : decode M_Md_settle.2.1 44 = .ok (.iload_n 3, 1) := by decide +kernel
theorem d_Md_settle_45 : decode M_Md_settle.2.1 45 = .ok (.if_icmp .lt 30, 3) := by decide +kernel
theorem d_Md_settle_48 : decode M_Md_settle.2.1 48 = .ok (.aload_n 0, 1) := by decide +kernel
theorem d_Md_settle_49 : decode M_Md_settle.2.1 49 = .ok (.iload_n 2, 1) := by decide +kernel
theorem d_Md_settle_50 : decode M_Md_settle.2.1 50 = .ok (.aload_n 0, 1) := by decide +kernel
theorem d_Md_settle_51 : decode M_Md_settle.2.1 51 = .ok (.getfield 7, 3) := by decide +kernel
theorem d_Md_settle_54 : decode M_Md_settle.2.1 54 = .ok (.sipush 1363, 3) := by decide +kernel
theorem d_Md_settle_57 : decode M_Md_settle.2.1 57 = .ok (.iconst 4, 1) := by decide +kernel
theorem d_Md_settle_58 : decode M_Md_settle.2.1 58 = .ok (.iload_n 1, 1) := by decide +kernel
theorem d_Md_settle_59 : decode M_Md_settle.2.1 59 = .ok (.imul, 1) := by decide +kernel
theorem d_Md_settle_60 : decode M_Md_settle.2.1 60 = .ok (.iadd, 1) := by decide +kernel
theorem d_Md_settle_61 : decode M_Md_settle.2.1 61 = .ok (.iaload, 1) := by decide +kernel
theorem d_Md_settle_62 : decode M_Md_settle.2.1 62 = .ok (.iload_n 3, 1) := by decide +kernel
theorem d_Md_settle_63 : decode M_Md_settle.2.1 63 = .ok (.iconst 4, 1) := by decide +kernel
theorem d_Md_settle_64 : decode M_Md_settle.2.1 64 = .ok (.invokevirtual 176, 3) := by decide +kernel
theorem d_Md_settle_67 : decode M_Md_settle.2.1 67 = .ok (.aload_n 0, 1) := by decide +kernel
theorem d_Md_settle_68 : decode M_Md_settle.2.1 68 = .ok (.iload_n 1, 1) := by decide +kernel
theorem d_Md_settle_69 : decode M_Md_settle.2.1 69 = .ok (.invokevirtual 223, 3) := by decide +kernel
theorem d_Md_settle_72 : decode M_Md_settle.2.1 72 = .ok (.goto 8, 3) := by decide +kernel
theorem d_Md_settle_75 : decode M_Md_settle.2.1 75 = .ok (.aload_n 0, 1) := by decide +kernel
theorem d_Md_settle_76 : decode M_Md_settle.2.1 76 = .ok (.iload_n 2, 1) := by decide +kernel
theorem d_Md_settle_77 : decode M_Md_settle.2.1 77 = .ok (.invokevirtual 229, 3) := by decide +kernel
theorem d_Md_settle_80 : decode M_Md_settle.2.1 80 = .ok (.aload_n 0, 1) := by decide +kernel
theorem d_Md_settle_81 : decode M_Md_settle.2.1 81 = .ok (.invokevirtual 226, 3) := by decide +kernel
theorem d_Md_settle_84 : decode M_Md_settle.2.1 84 = .ok (.istore_n 1, 1) := by decide +kernel
theorem d_Md_settle_85 : decode M_Md_settle.2.1 85 = .ok (.goto (-80), 3) := by decide +kernel
theorem d_Md_settle_88 : decode M_Md_settle.2.1 88 = .ok (.return_, 1) := by decide +kernel
