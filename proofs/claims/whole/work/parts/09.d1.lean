def M_Mt_freeOf : mj_M := (⟨"MarketTown$Market", "freeOf", "(LMarketTown$Town;II)I"⟩, prog_4_method_3_code, 4, some .int, 1, 22)
theorem d_Mt_freeOf_0 : decode M_Mt_freeOf.2.1 0 = .ok (.aload_n 1, 1) := by decide +kernel
theorem d_Mt_freeOf_1 : decode M_Mt_freeOf.2.1 1 = .ok (.getfield 31, 3) := by decide +kernel
theorem d_Mt_freeOf_4 : decode M_Mt_freeOf.2.1 4 = .ok (.iload_n 2, 1) := by decide +kernel
theorem d_Mt_freeOf_5 : decode M_Mt_freeOf.2.1 5 = .ok (.iload_n 3, 1) := by decide +kernel
theorem d_Mt_freeOf_6 : decode M_Mt_freeOf.2.1 6 = .ok (.invokevirtual 37, 3) := by decide +kernel
theorem d_Mt_freeOf_9 : decode M_Mt_freeOf.2.1 9 = .ok (.aload_n 0, 1) := by decide +kernel
theorem d_Mt_freeOf_10 : decode M_Mt_freeOf.2.1 10 = .ok (.getfield 21, 3) := by decide +kernel
theorem d_Mt_freeOf_13 : decode M_Mt_freeOf.2.1 13 = .ok (.iload_n 2, 1) := by decide +kernel
theorem d_Mt_freeOf_14 : decode M_Mt_freeOf.2.1 14 = .ok (.iconst 5, 1) := by decide +kernel
theorem d_Mt_freeOf_15 : decode M_Mt_freeOf.2.1 15 = .ok (.imul, 1) := by decide +kernel
theorem d_Mt_freeOf_16 : decode M_Mt_freeOf.2.1 16 = .ok (.iload_n 3, 1) := by decide +kernel
theorem d_Mt_freeOf_17 : decode M_Mt_freeOf.2.1 17 = .ok (.iadd, 1) := by decide +kernel
theorem d_Mt_freeOf_18 : decode M_Mt_freeOf.2.1 18 = .ok (.iaload, 1) := by decide +kernel
theorem d_Mt_freeOf_19 : decode M_Mt_freeOf.2.1 19 = .ok (.isub, 1) := by decide +kernel
theorem d_Mt_freeOf_20 : decode M_Mt_freeOf.2.1 20 = .ok (.ireturn, 1) := by decide +kernel
def M_Dy_allowed : mj_M := (⟨"MarketTown$Day", "allowed", "(III)I"⟩, prog_2_method_11_code, 3, some .int, 1, 21)
theorem d_Dy_allowed_0 : decode M_Dy_allowed.2.1 0 = .ok (.iload_n 1, 1) := by decide +kernel
theorem d_Dy_allowed_1 : decode M_Dy_allowed.2.1 1 = .ok (.ifCond .le 13, 3) := by decide +kernel
theorem d_Dy_allowed_4 : decode M_Dy_allowed.2.1 4 = .ok (.iload_n 0, 1) := by decide +kernel
theorem d_Dy_allowed_5 : decode M_Dy_allowed.2.1 5 = .ok (.iload_n 2, 1) := by decide +kernel
theorem d_Dy_allowed_6 : decode M_Dy_allowed.2.1 6 = .ok (.iload_n 1, 1) := by decide +kernel
theorem d_Dy_allowed_7 : decode M_Dy_allowed.2.1 7 = .ok (.idiv, 1) := by decide +kernel
theorem d_Dy_allowed_8 : decode M_Dy_allowed.2.1 8 = .ok (.invokestatic 156, 3) := by decide +kernel
theorem d_Dy_allowed_11 : decode M_Dy_allowed.2.1 11 = .ok (.goto 4, 3) := by decide +kernel
theorem d_Dy_allowed_14 : decode M_Dy_allowed.2.1 14 = .ok (.iload_n 0, 1) := by decide +kernel
theorem d_Dy_allowed_15 : decode M_Dy_allowed.2.1 15 = .ok (.ireturn, 1) := by decide +kernel
def M_Jm_min : mj_M := (⟨"java/lang/Math", "min", "(II)I"⟩, prog_14_method_69_code, 2, some .int, 0, 0)
theorem d_Jm_min_0 : decode M_Jm_min.2.1 0 = .ok (.iload_n 0, 1) := by decide +kernel
theorem d_Jm_min_1 : decode M_Jm_min.2.1 1 = .ok (.iload_n 1, 1) := by decide +kernel
theorem d_Jm_min_2 : decode M_Jm_min.2.1 2 = .ok (.if_icmp .gt 7, 3) := by decide +kernel
theorem d_Jm_min_5 : decode M_Jm_min.2.1 5 = .ok (.iload_n 0, 1) := by decide +kernel
theorem d_Jm_min_6 : decode M_Jm_min.2.1 6 = .ok (.goto 4, 3) := by decide +kernel
theorem d_Jm_min_9 : decode M_Jm_min.2.1 9 = .ok (.iload_n 1, 1) := by decide +kernel
theorem d_Jm_min_10 : decode M_Jm_min.2.1 10 = .ok (.ireturn, 1) := by decide +kernel
def M_Sk_use : mj_M := (⟨"MarketTown$Stock", "use", "(III)V"⟩, prog_8_method_6_code, 8, none, 1, 21)
theorem d_Sk_use_0 : decode M_Sk_use.2.1 0 = .ok (.iload_n 1, 1) := by decide +kernel
theorem d_Sk_use_1 : decode M_Sk_use.2.1 1 = .ok (.iconst 5, 1) := by decide +kernel
theorem d_Sk_use_2 : decode M_Sk_use.2.1 2 = .ok (.imul, 1) := by decide +kernel
theorem d_Sk_use_3 : decode M_Sk_use.2.1 3 = .ok (.iload_n 2, 1) := by decide +kernel
theorem d_Sk_use_4 : decode M_Sk_use.2.1 4 = .ok (.iadd, 1) := by decide +kernel
theorem d_Sk_use_5 : decode M_Sk_use.2.1 5 = .ok (.istore 4, 2) := by decide +kernel
theorem d_Sk_use_7 : decode M_Sk_use.2.1 7 = .ok (.iload_n 3, 1) := by decide +kernel
theorem d_Sk_use_8 : decode M_Sk_use.2.1 8 = .ok (.istore 5, 2) := by decide +kernel
theorem d_Sk_use_10 : decode M_Sk_use.2.1 10 = .ok (.bipush 9, 2) := by decide +kernel
theorem d_Sk_use_12 : decode M_Sk_use.2.1 12 = .ok (.istore 6, 2) := by decide +kernel
theorem d_Sk_use_14 : decode M_Sk_use.2.1 14 = .ok (.iload 6, 2) := by decide +kernel
theorem d_Sk_use_16 : decode M_Sk_use.2.1 16 = .ok (.ifCond .lt 59, 3) := by decide +kernel
theorem d_Sk_use_19 : decode M_Sk_use.2.1 19 = .ok (.iload 5, 2) := by decide +kernel
theorem d_Sk_use_21 : decode M_Sk_use.2.1 21 = .ok (.ifCond .le 54, 3) := by decide +kernel
theorem d_Sk_use_24 : decode M_Sk_use.2.1 24 = .ok (.iload 5, 2) := by decide +kernel
theorem d_Sk_use_26 : decode M_Sk_use.2.1 26 = .ok (.aload_n 0, 1) := by decide +kernel
theorem d_Sk_use_27 : decode M_Sk_use.2.1 27 = .ok (.getfield 9, 3) := by decide +kernel
theorem d_Sk_use_30 : decode M_Sk_use.2.1 30 = .ok (.iload 4, 2) := by decide +kernel
theorem d_Sk_use_32 : decode M_Sk_use.2.1 32 = .ok (.bipush 10, 2) := by decide +kernel
theorem d_Sk_use_34 : decode M_Sk_use.2.1 34 = .ok (.imul, 1) := by decide +kernel
theorem d_Sk_use_35 : decode M_Sk_use.2.1 35 = .ok (.iload 6, 2) := by decide +kernel
theorem d_Sk_use_37 : decode M_Sk_use.2.1 37 = .ok (.iadd, 1) := by decide +kernel
theorem d_Sk_use_38 : decode M_Sk_use.2.1 38 = .ok (.iaload, 1) := by decide +kernel
theorem d_Sk_use_39 : decode M_Sk_use.2.1 39 = .ok (.invokestatic 22, 3) := by decide +kernel
theorem d_Sk_use_42 : decode M_Sk_use.2.1 42 = .ok (.istore 7, 2) := by decide +kernel
theorem d_Sk_use_44 : decode M_Sk_use.2.1 44 = .ok (.aload_n 0, 1) := by decide +kernel
theorem d_Sk_use_45 : decode M_Sk_use.2.1 45 = .ok (.getfield 9, 3) := by decide +kernel
theorem d_Sk_use_48 : decode M_Sk_use.2.1 48 = .ok (.iload 4, 2) := by decide +kernel
theorem d_Sk_use_50 : decode M_Sk_use.2.1 50 = .ok (.bipush 10, 2) := by decide +kernel
theorem d_Sk_use_52 : decode M_Sk_use.2.1 52 = .ok (.imul, 1) := by decide +kernel
theorem d_Sk_use_53 : decode M_Sk_use.2.1 53 = .ok (.iload 6, 2) := by decide +kernel
theorem d_Sk_use_55 : decode M_Sk_use.2.1 55 = .ok (.iadd, 1) := by decide +kernel
theorem d_Sk_use_56 : decode M_Sk_use.2.1 56 = .ok (.dup2, 1) := by decide +kernel
theorem d_Sk_use_57 : decode M_Sk_use.2.1 57 = .ok (.iaload, 1) := by decide +kernel
theorem d_Sk_use_58 : decode M_Sk_use.2.1 58 = .ok (.iload 7, 2) := by decide +kernel
theorem d_Sk_use_60 : decode M_Sk_use.2.1 60 = .ok (.isub, 1) := by decide +kernel
theorem d_Sk_use_61 : decode M_Sk_use.2.1 61 = .ok (.iastore, 1) := by decide +kernel
theorem d_Sk_use_62 : decode M_Sk_use.2.1 62 = .ok (.iload 5, 2) := by decide +kernel
theorem d_Sk_use_64 : decode M_Sk_use.2.1 64 = .ok (.iload 7, 2) := by decide +kernel
theorem d_Sk_use_66 : decode M_Sk_use.2.1 66 = .ok (.isub, 1) := by decide +kernel
theorem d_Sk_use_67 : decode M_Sk_use.2.1 67 = .ok (.istore 5, 2) := by decide +kernel
theorem d_Sk_use_69 : decode M_Sk_use.2.1 69 = .ok (.iinc 6 (-1), 3) := by decide +kernel
theorem d_Sk_use_72 : decode M_Sk_use.2.1 72 = .ok (.goto (-58), 3) := by decide +kernel
theorem d_Sk_use_75 : decode M_Sk_use.2.1 75 = .ok (.aload_n 0, 1) := by decide +kernel
theorem d_Sk_use_76 : decode M_Sk_use.2.1 76 = .ok (.getfield 15, 3) := by decide +kernel
theorem d_Sk_use_79 : decode M_Sk_use.2.1 79 = .ok (.iload 4, 2) := by decide +kernel
theorem d_Sk_use_81 : decode M_Sk_use.2.1 81 = .ok (.dup2, 1) := by decide +kernel
theorem d_Sk_use_82 : decode M_Sk_use.2.1 82 = .ok (.iaload, 1) := by decide +kernel
theorem d_Sk_use_83 : decode M_Sk_use.2.1 83 = .ok (.iload_n 3, 1) := by decide +kernel
theorem d_Sk_use_84 : decode M_Sk_use.2.1 84 = .ok (.iload 5, 2) := by decide +kernel
theorem d_Sk_use_86 : decode M_Sk_use.2.1 86 = .ok (.isub, 1) := by decide +kernel
theorem d_Sk_use_87 : decode M_Sk_use.2.1 87 = .ok (.isub, 1) := by decide +kernel
theorem d_Sk_use_88 : decode M_Sk_use.2.1 88 = .ok (.iastore, 1) := by decide +kernel
theorem d_Sk_use_89 : decode M_Sk_use.2.1 89 = .ok (.return_, 1) := by decide +kernel
def M_Wr_increase : mj_M := (⟨"MarketTown$Wares", "increase", "(III)V"⟩, prog_11_method_4_code, 4, none, 0, 0)
theorem d_Wr_increase_0 : decode M_Wr_increase.2.1 0 = .ok (.aload_n 0, 1) := by decide +kernel
theorem d_Wr_increase_1 : decode M_Wr_increase.2.1 1 = .ok (.getfield 11, 3) := by decide +kernel
theorem d_Wr_increase_4 : decode M_Wr_increase.2.1 4 = .ok (.iload_n 1, 1) := by decide +kernel
theorem d_Wr_increase_5 : decode M_Wr_increase.2.1 5 = .ok (.bipush 11, 2) := by decide +kernel
theorem d_Wr_increase_7 : decode M_Wr_increase.2.1 7 = .ok (.imul, 1) := by decide +kernel
theorem d_Wr_increase_8 : decode M_Wr_increase.2.1 8 = .ok (.iload_n 2, 1) := by decide +kernel
theorem d_Wr_increase_9 : decode M_Wr_increase.2.1 9 = .ok (.iadd, 1) := by decide +kernel
theorem d_Wr_increase_10 : decode M_Wr_increase.2.1 10 = .ok (.dup2, 1) := by decide +kernel
theorem d_Wr_increase_11 : decode M_Wr_increase.2.1 11 = .ok (.iaload, 1) := by decide +kernel
theorem d_Wr_increase_12 : decode M_Wr_increase.2.1 12 = .ok (.iload_n 3, 1) := by decide +kernel
theorem d_Wr_increase_13 : decode M_Wr_increase.2.1 13 = .ok (.iadd, 1) := by decide +kernel
theorem d_Wr_increase_14 : decode M_Wr_increase.2.1 14 = .ok (.iastore, 1) := by decide +kernel
theorem d_Wr_increase_15 : decode M_Wr_increase.2.1 15 = .ok (.return_, 1) := by decide +kernel
def M_Dy_eat : mj_M := (⟨"MarketTown$Day", "eat", "(LMarketTown$Town;III)V"⟩, prog_2_method_12_code, 6, none, 2, 48)
theorem d_Dy_eat_0 : decode M_Dy_eat.2.1 0 = .ok (.iload 4, 2) := by decide +kernel
theorem d_Dy_eat_2 : decode M_Dy_eat.2.1 2 = .ok (.aload_n 0, 1) := by decide +kernel
theorem d_Dy_eat_3 : decode M_Dy_eat.2.1 3 = .ok (.getfield 18, 3) := by decide +kernel
theorem d_Dy_eat_6 : decode M_Dy_eat.2.1 6 = .ok (.aload_n 1, 1) := by decide +kernel
theorem d_Dy_eat_7 : decode M_Dy_eat.2.1 7 = .ok (.iload_n 2, 1) := by decide +kernel
theorem d_Dy_eat_8 : decode M_Dy_eat.2.1 8 = .ok (.iload_n 3, 1) := by decide +kernel
theorem d_Dy_eat_9 : decode M_Dy_eat.2.1 9 = .ok (.invokevirtual 168, 3) := by decide +kernel
theorem d_Dy_eat_12 : decode M_Dy_eat.2.1 12 = .ok (.invokestatic 156, 3) := by decide +kernel
theorem d_Dy_eat_15 : decode M_Dy_eat.2.1 15 = .ok (.istore 5, 2) := by decide +kernel
theorem d_Dy_eat_17 : decode M_Dy_eat.2.1 17 = .ok (.aload_n 1, 1) := by decide +kernel
theorem d_Dy_eat_18 : decode M_Dy_eat.2.1 18 = .ok (.getfield 54, 3) := by decide +kernel
theorem d_Dy_eat_21 : decode M_Dy_eat.2.1 21 = .ok (.iload_n 2, 1) := by decide +kernel
theorem d_Dy_eat_22 : decode M_Dy_eat.2.1 22 = .ok (.iload_n 3, 1) := by decide +kernel
theorem d_Dy_eat_23 : decode M_Dy_eat.2.1 23 = .ok (.iload 5, 2) := by decide +kernel
theorem d_Dy_eat_25 : decode M_Dy_eat.2.1 25 = .ok (.invokevirtual 175, 3) := by decide +kernel
theorem d_Dy_eat_28 : decode M_Dy_eat.2.1 28 = .ok (.aload_n 1, 1) := by decide +kernel
theorem d_Dy_eat_29 : decode M_Dy_eat.2.1 29 = .ok (.getfield 58, 3) := by decide +kernel
theorem d_Dy_eat_32 : decode M_Dy_eat.2.1 32 = .ok (.iload_n 3, 1) := by decide +kernel
theorem d_Dy_eat_33 : decode M_Dy_eat.2.1 33 = .ok (.iconst 4, 1) := by decide +kernel
theorem d_Dy_eat_34 : decode M_Dy_eat.2.1 34 = .ok (.iload 5, 2) := by decide +kernel
theorem d_Dy_eat_36 : decode M_Dy_eat.2.1 36 = .ok (.invokevirtual 73, 3) := by decide +kernel
theorem d_Dy_eat_39 : decode M_Dy_eat.2.1 39 = .ok (.return_, 1) := by decide +kernel
def M_Mt_ask : mj_M := (⟨"MarketTown$Market", "ask", "(LMarketTown$Town;IIII)V"⟩, prog_4_method_5_code, 7, none, 2, 45)
theorem d_Mt_ask_0 : decode M_Mt_ask.2.1 0 = .ok (.iload 4, 2) := by decide +kernel
theorem d_Mt_ask_2 : decode M_Mt_ask.2.1 2 = .ok (.aload_n 0, 1) := by decide +kernel
theorem d_Mt_ask_3 : decode M_Mt_ask.2.1 3 = .ok (.aload_n 1, 1) := by decide +kernel
theorem d_Mt_ask_4 : decode M_Mt_ask.2.1 4 = .ok (.iload_n 2, 1) := by decide +kernel
theorem d_Mt_ask_5 : decode M_Mt_ask.2.1 5 = .ok (.iload_n 3, 1) := by decide +kernel
theorem d_Mt_ask_6 : decode M_Mt_ask.2.1 6 = .ok (.invokevirtual 46, 3) := by decide +kernel
theorem d_Mt_ask_9 : decode M_Mt_ask.2.1 9 = .ok (.invokestatic 50, 3) := by decide +kernel
theorem d_Mt_ask_12 : decode M_Mt_ask.2.1 12 = .ok (.istore 6, 2) := by decide +kernel
theorem d_Mt_ask_14 : decode M_Mt_ask.2.1 14 = .ok (.iload 6, 2) := by decide +kernel
theorem d_Mt_ask_16 : decode M_Mt_ask.2.1 16 = .ok (.ifCond .le 31, 3) := by decide +kernel
theorem d_Mt_ask_19 : decode M_Mt_ask.2.1 19 = .ok (.aload_n 0, 1) := by decide +kernel
theorem d_Mt_ask_20 : decode M_Mt_ask.2.1 20 = .ok (.getfield 12, 3) := by decide +kernel
theorem d_Mt_ask_23 : decode M_Mt_ask.2.1 23 = .ok (.iload_n 2, 1) := by decide +kernel
theorem d_Mt_ask_24 : decode M_Mt_ask.2.1 24 = .ok (.iload_n 3, 1) := by decide +kernel
theorem d_Mt_ask_25 : decode M_Mt_ask.2.1 25 = .ok (.iload 6, 2) := by decide +kernel
theorem d_Mt_ask_27 : decode M_Mt_ask.2.1 27 = .ok (.iload 5, 2) := by decide +kernel
theorem d_Mt_ask_29 : decode M_Mt_ask.2.1 29 = .ok (.invokevirtual 55, 3) := by decide +kernel
theorem d_Mt_ask_32 : decode M_Mt_ask.2.1 32 = .ok (.aload_n 0, 1) := by decide +kernel
theorem d_Mt_ask_33 : decode M_Mt_ask.2.1 33 = .ok (.getfield 21, 3) := by decide +kernel
theorem d_Mt_ask_36 : decode M_Mt_ask.2.1 36 = .ok (.iload_n 2, 1) := by decide +kernel
theorem d_Mt_ask_37 : decode M_Mt_ask.2.1 37 = .ok (.iconst 5, 1) := by decide +kernel
theorem d_Mt_ask_38 : decode M_Mt_ask.2.1 38 = .ok (.imul, 1) := by decide +kernel
theorem d_Mt_ask_39 : decode M_Mt_ask.2.1 39 = .ok (.iload_n 3, 1) := by decide +kernel
theorem d_Mt_ask_40 : decode M_Mt_ask.2.1 40 = .ok (.iadd, 1) := by decide +kernel
theorem d_Mt_ask_41 : decode M_Mt_ask.2.1 41 = .ok (.dup2, 1) := by decide +kernel
theorem d_Mt_ask_42 : decode M_Mt_ask.2.1 42 = .ok (.iaload, 1) := by decide +kernel
theorem d_Mt_ask_43 : decode M_Mt_ask.2.1 43 = .ok (.iload 6, 2) := by decide +kernel
theorem d_Mt_ask_45 : decode M_Mt_ask.2.1 45 = .ok (.iadd, 1) := by decide +kernel
theorem d_Mt_ask_46 : decode M_Mt_ask.2.1 46 = .ok (.iastore, 1) := by decide +kernel
theorem d_Mt_ask_47 : decode M_Mt_ask.2.1 47 = .ok (.return_, 1) := by decide +kernel
def M_Of_append : mj_M := (⟨"MarketTown$Offers", "append", "(IIII)V"⟩, prog_5_method_3_code, 5, none, 0, 0)
theorem d_Of_append_0 : decode M_Of_append.2.1 0 = .ok (.aload_n 0, 1) := by decide +kernel
theorem d_Of_append_1 : decode M_Of_append.2.1 1 = .ok (.getfield 27, 3) := by decide +kernel
theorem d_Of_append_4 : decode M_Of_append.2.1 4 = .ok (.bipush 72, 2) := by decide +kernel
theorem d_Of_append_6 : decode M_Of_append.2.1 6 = .ok (.if_icmp .lt 4, 3) := by decide +kernel
theorem d_Of_append_9 : decode M_Of_append.2.1 9 = .ok (.return_, 1) := by decide +kernel
theorem d_Of_append_10 : decode M_Of_append.2.1 10 = .ok (.aload_n 0, 1) := by decide +kernel
theorem d_Of_append_11 : decode M_Of_append.2.1 11 = .ok (.getfield 11, 3) := by decide +kernel
theorem d_Of_append_14 : decode M_Of_append.2.1 14 = .ok (.aload_n 0, 1) := by decide +kernel
theorem d_Of_append_15 : decode M_Of_append.2.1 15 = .ok (.getfield 27, 3) := by decide +kernel
theorem d_Of_append_18 : decode M_Of_append.2.1 18 = .ok (.iload_n 1, 1) := by decide +kernel
theorem d_Of_append_19 : decode M_Of_append.2.1 19 = .ok (.iastore, 1) := by decide +kernel
theorem d_Of_append_20 : decode M_Of_append.2.1 20 = .ok (.aload_n 0, 1) := by decide +kernel
theorem d_Of_append_21 : decode M_Of_append.2.1 21 = .ok (.getfield 24, 3) := by decide +kernel
theorem d_Of_append_24 : decode M_Of_append.2.1 24 = .ok (.aload_n 0, 1) := by decide +kernel
theorem d_Of_append_25 : decode M_Of_append.2.1 25 = .ok (.getfield 27, 3) := by decide +kernel
theorem d_Of_append_28 : decode M_Of_append.2.1 28 = .ok (.iload_n 2, 1) := by decide +kernel
theorem d_Of_append_29 : decode M_Of_append.2.1 29 = .ok (.iastore, 1) := by decide +kernel
theorem d_Of_append_30 : decode M_Of_append.2.1 30 = .ok (.aload_n 0, 1) := by decide +kernel
theorem d_Of_append_31 : decode M_Of_append.2.1 31 = .ok (.getfield 18, 3) := by decide +kernel
theorem d_Of_append_34 : decode M_Of_append.2.1 34 = .ok (.aload_n 0, 1) := by decide +kernel
theorem d_Of_append_35 : decode M_Of_append.2.1 35 = .ok (.getfield 27, 3) := by decide +kernel
theorem d_Of_append_38 : decode M_Of_append.2.1 38 = .ok (.iload_n 3, 1) := by decide +kernel
theorem d_Of_append_39 : decode M_Of_append.2.1 39 = .ok (.iastore, 1) := by decide +kernel
theorem d_Of_append_40 : decode M_Of_append.2.1 40 = .ok (.aload_n 0, 1) := by decide +kernel
theorem d_Of_append_41 : decode M_Of_append.2.1 41 = .ok (.getfield 15, 3) := by decide +kernel
theorem d_Of_append_44 : decode M_Of_append.2.1 44 = .ok (.aload_n 0, 1) := by decide +kernel
theorem d_Of_append_45 : decode M_Of_append.2.1 45 = .ok (.getfield 27, 3) := by decide +kernel
theorem d_Of_append_48 : decode M_Of_append.2.1 48 = .ok (.iload 4, 2) := by decide +kernel
theorem d_Of_append_50 : decode M_Of_append.2.1 50 = .ok (.iastore, 1) := by decide +kernel
theorem d_Of_append_51 : decode M_Of_append.2.1 51 = .ok (.aload_n 0, 1) := by decide +kernel
theorem d_Of_append_52 : decode M_Of_append.2.1 52 = .ok (.dup, 1) := by decide +kernel
theorem d_Of_append_53 : decode M_Of_append.2.1 53 = .ok (.getfield 27, 3) := by decide +kernel
theorem d_Of_append_56 : decode M_Of_append.2.1 56 = .ok (.iconst 1, 1) := by decide +kernel
theorem d_Of_append_57 : decode M_Of_append.2.1 57 = .ok (.iadd, 1) := by decide +kernel
theorem d_Of_append_58 : decode M_Of_append.2.1 58 = .ok (.putfield 27, 3) := by decide +kernel
theorem d_Of_append_61 : decode M_Of_append.2.1 61 = .ok (.return_, 1) := by decide +kernel
def M_Mt_bid : mj_M := (⟨"MarketTown$Market", "bid", "(LMarketTown$Town;IIII)V"⟩, prog_4_method_6_code, 7, none, 1, 24)
theorem d_Mt_bid_0 : decode M_Mt_bid.2.1 0 = .ok (.iload 5, 2) := by decide +kernel
theorem d_Mt_bid_2 : decode M_Mt_bid.2.1 2 = .ok (.ifCond .le 20, 3) := by decide +kernel
theorem d_Mt_bid_5 : decode M_Mt_bid.2.1 5 = .ok (.iload 4, 2) := by decide +kernel
theorem d_Mt_bid_7 : decode M_Mt_bid.2.1 7 = .ok (.aload_n 0, 1) := by decide +kernel
theorem d_Mt_bid_8 : decode M_Mt_bid.2.1 8 = .ok (.aload_n 1, 1) := by decide +kernel
theorem d_Mt_bid_9 : decode M_Mt_bid.2.1 9 = .ok (.iload_n 2, 1) := by decide +kernel
theorem d_Mt_bid_10 : decode M_Mt_bid.2.1 10 = .ok (.invokevirtual 59, 3) := by decide +kernel
theorem d_Mt_bid_13 : decode M_Mt_bid.2.1 13 = .ok (.iload 5, 2) := by decide +kernel
theorem d_Mt_bid_15 : decode M_Mt_bid.2.1 15 = .ok (.idiv, 1) := by decide +kernel
theorem d_Mt_bid_16 : decode M_Mt_bid.2.1 16 = .ok (.invokestatic 50, 3) := by decide +kernel
theorem d_Mt_bid_19 : decode M_Mt_bid.2.1 19 = .ok (.goto 4, 3) := by decide +kernel
theorem d_Mt_bid_22 : decode M_Mt_bid.2.1 22 = .ok (.iconst 0, 1) := by decide +kernel
theorem d_Mt_bid_23 : decode M_Mt_bid.2.1 23 = .ok (.istore 6, 2) := by decide +kernel
theorem d_Mt_bid_25 : decode M_Mt_bid.2.1 25 = .ok (.iload 6, 2) := by decide +kernel
theorem d_Mt_bid_27 : decode M_Mt_bid.2.1 27 = .ok (.ifCond .le 30, 3) := by decide +kernel
theorem d_Mt_bid_30 : decode M_Mt_bid.2.1 30 = .ok (.aload_n 0, 1) := by decide +kernel
theorem d_Mt_bid_31 : decode M_Mt_bid.2.1 31 = .ok (.getfield 18, 3) := by decide +kernel
theorem d_Mt_bid_34 : decode M_Mt_bid.2.1 34 = .ok (.iload_n 2, 1) := by decide +kernel
theorem d_Mt_bid_35 : decode M_Mt_bid.2.1 35 = .ok (.iload_n 3, 1) := by decide +kernel
theorem d_Mt_bid_36 : decode M_Mt_bid.2.1 36 = .ok (.iload 6, 2) := by decide +kernel
theorem d_Mt_bid_38 : decode M_Mt_bid.2.1 38 = .ok (.iload 5, 2) := by decide +kernel
theorem d_Mt_bid_40 : decode M_Mt_bid.2.1 40 = .ok (.invokevirtual 55, 3) := by decide +kernel
theorem d_Mt_bid_43 : decode M_Mt_bid.2.1 43 = .ok (.aload_n 0, 1) := by decide +kernel
theorem d_Mt_bid_44 : decode M_Mt_bid.2.1 44 = .ok (.getfield 25, 3) := by decide +kernel
theorem d_Mt_bid_47 : decode M_Mt_bid.2.1 47 = .ok (.iload_n 2, 1) := by decide +kernel
theorem d_Mt_bid_48 : decode M_Mt_bid.2.1 48 = .ok (.dup2, 1) := by decide +kernel
theorem d_Mt_bid_49 : decode M_Mt_bid.2.1 49 = .ok (.iaload, 1) := by decide +kernel
theorem d_Mt_bid_50 : decode M_Mt_bid.2.1 50 = .ok (.iload 6, 2) := by decide +kernel
theorem d_Mt_bid_52 : decode M_Mt_bid.2.1 52 = .ok (.iload 5, 2) := by decide +kernel
theorem d_Mt_bid_54 : decode M_Mt_bid.2.1 54 = .ok (.imul, 1) := by decide +kernel
theorem d_Mt_bid_55 : decode M_Mt_bid.2.1 55 = .ok (.iadd, 1) := by decide +kernel
theorem d_Mt_bid_56 : decode M_Mt_bid.2.1 56 = .ok (.iastore, 1) := by decide +kernel
theorem d_Mt_bid_57 : decode M_Mt_bid.2.1 57 = .ok (.return_, 1) := by decide +kernel
def M_Mt_freeCash : mj_M := (⟨"MarketTown$Market", "freeCash", "(LMarketTown$Town;I)I"⟩, prog_4_method_4_code, 3, some .int, 0, 0)
theorem d_Mt_freeCash_0 : decode M_Mt_freeCash.2.1 0 = .ok (.aload_n 1, 1) := by decide +kernel
theorem d_Mt_freeCash_1 : decode M_Mt_freeCash.2.1 1 = .ok (.getfield 43, 3) := by decide +kernel
theorem d_Mt_freeCash_4 : decode M_Mt_freeCash.2.1 4 = .ok (.iload_n 2, 1) := by decide +kernel
theorem d_Mt_freeCash_5 : decode M_Mt_freeCash.2.1 5 = .ok (.iaload, 1) := by decide +kernel
theorem d_Mt_freeCash_6 : decode M_Mt_freeCash.2.1 6 = .ok (.aload_n 0, 1) := by decide +kernel
theorem d_Mt_freeCash_7 : decode M_Mt_freeCash.2.1 7 = .ok (.getfield 25, 3) := by decide +kernel
theorem d_Mt_freeCash_10 : decode M_Mt_freeCash.2.1 10 = .ok (.iload_n 2, 1) := by decide +kernel
theorem d_Mt_freeCash_11 : decode M_Mt_freeCash.2.1 11 = .ok (.iaload, 1) := by decide +kernel
theorem d_Mt_freeCash_12 : decode M_Mt_freeCash.2.1 12 = .ok (.isub, 1) := by decide +kernel
theorem d_Mt_freeCash_13 : decode M_Mt_freeCash.2.1 13 = .ok (.ireturn, 1) := by decide +kernel
def M_Tw_hand : mj_M := (⟨"MarketTown$Town", "hand", "(IIII)V"⟩, prog_10_method_7_code, 5, none, 1, 22)
theorem d_Tw_hand_0 : decode M_Tw_hand.2.1 0 = .ok (.aload_n 0, 1) := by decide +kernel
theorem d_Tw_hand_1 : decode M_Tw_hand.2.1 1 = .ok (.getfield 19, 3) := by decide +kernel
theorem d_Tw_hand_4 : decode M_Tw_hand.2.1 4 = .ok (.iload_n 1, 1) := by decide +kernel
theorem d_Tw_hand_5 : decode M_Tw_hand.2.1 5 = .ok (.dup2, 1) := by decide +kernel
theorem d_Tw_hand_6 : decode M_Tw_hand.2.1 6 = .ok (.iaload, 1) := by decide +kernel
theorem d_Tw_hand_7 : decode M_Tw_hand.2.1 7 = .ok (.iload 4, 2) := by decide +kernel
theorem d_Tw_hand_9 : decode M_Tw_hand.2.1 9 = .ok (.isub, 1) := by decide +kernel
theorem d_Tw_hand_10 : decode M_Tw_hand.2.1 10 = .ok (.iastore, 1) := by decide +kernel
theorem d_Tw_hand_11 : decode M_Tw_hand.2.1 11 = .ok (.aload_n 0, 1) := by decide +kernel
theorem d_Tw_hand_12 : decode M_Tw_hand.2.1 12 = .ok (.getfield 19, 3) := by decide +kernel
theorem d_Tw_hand_15 : decode M_Tw_hand.2.1 15 = .ok (.iload_n 2, 1) := by decide +kernel
theorem d_Tw_hand_16 : decode M_Tw_hand.2.1 16 = .ok (.dup2, 1) := by decide +kernel
theorem d_Tw_hand_17 : decode M_Tw_hand.2.1 17 = .ok (.iaload, 1) := by decide +kernel
theorem d_Tw_hand_18 : decode M_Tw_hand.2.1 18 = .ok (.iload 4, 2) := by decide +kernel
theorem d_Tw_hand_20 : decode M_Tw_hand.2.1 20 = .ok (.iadd, 1) := by decide +kernel
theorem d_Tw_hand_21 : decode M_Tw_hand.2.1 21 = .ok (.iastore, 1) := by decide +kernel
theorem d_Tw_hand_22 : decode M_Tw_hand.2.1 22 = .ok (.aload_n 0, 1) := by decide +kernel
theorem d_Tw_hand_23 : decode M_Tw_hand.2.1 23 = .ok (.getfield 28, 3) := by decide +kernel
theorem d_Tw_hand_26 : decode M_Tw_hand.2.1 26 = .ok (.iload_n 1, 1) := by decide +kernel
theorem d_Tw_hand_27 : decode M_Tw_hand.2.1 27 = .ok (.iload_n 2, 1) := by decide +kernel
theorem d_Tw_hand_28 : decode M_Tw_hand.2.1 28 = .ok (.iload_n 3, 1) := by decide +kernel
theorem d_Tw_hand_29 : decode M_Tw_hand.2.1 29 = .ok (.invokestatic 67, 3) := by decide +kernel
theorem d_Tw_hand_32 : decode M_Tw_hand.2.1 32 = .ok (.dup2, 1) := by decide +kernel
theorem d_Tw_hand_33 : decode M_Tw_hand.2.1 33 = .ok (.iaload, 1) := by decide +kernel
theorem d_Tw_hand_34 : decode M_Tw_hand.2.1 34 = .ok (.iload 4, 2) := by decide +kernel
theorem d_Tw_hand_36 : decode M_Tw_hand.2.1 36 = .ok (.iadd, 1) := by decide +kernel
theorem d_Tw_hand_37 : decode M_Tw_hand.2.1 37 = .ok (.iastore, 1) := by decide +kernel
theorem d_Tw_hand_38 : decode M_Tw_hand.2.1 38 = .ok (.return_, 1) := by decide +kernel
def M_Tw_entry : mj_M := (⟨"MarketTown$Town", "entry", "(III)I"⟩, prog_10_method_6_code, 3, some .int, 0, 0)
theorem d_Tw_entry_0 : decode M_Tw_entry.2.1 0 = .ok (.iload_n 0, 1) := by decide +kernel
theorem d_Tw_entry_1 : decode M_Tw_entry.2.1 1 = .ok (.bipush 12, 2) := by decide +kernel
theorem d_Tw_entry_3 : decode M_Tw_entry.2.1 3 = .ok (.imul, 1) := by decide +kernel
theorem d_Tw_entry_4 : decode M_Tw_entry.2.1 4 = .ok (.iload_n 1, 1) := by decide +kernel
theorem d_Tw_entry_5 : decode M_Tw_entry.2.1 5 = .ok (.iadd, 1) := by decide +kernel
theorem d_Tw_entry_6 : decode M_Tw_entry.2.1 6 = .ok (.iconst 5, 1) := by decide +kernel
theorem d_Tw_entry_7 : decode M_Tw_entry.2.1 7 = .ok (.imul, 1) := by decide +kernel
theorem d_Tw_entry_8 : decode M_Tw_entry.2.1 8 = .ok (.iload_n 2, 1) := by decide +kernel
theorem d_Tw_entry_9 : decode M_Tw_entry.2.1 9 = .ok (.iadd, 1) := by decide +kernel
theorem d_Tw_entry_10 : decode M_Tw_entry.2.1 10 = .ok (.ireturn, 1) := by decide +kernel
def M_Dy_lend : mj_M := (⟨"MarketTown$Day", "lend", "(LMarketTown$Town;IIII)V"⟩, prog_2_method_13_code, 7, none, 2, 46)
theorem d_Dy_lend_0 : decode M_Dy_lend.2.1 0 = .ok (.iload 4, 2) := by decide +kernel
theorem d_Dy_lend_2 : decode M_Dy_lend.2.1 2 = .ok (.aload_n 0, 1) := by decide +kernel
theorem d_Dy_lend_3 : decode M_Dy_lend.2.1 3 = .ok (.getfield 18, 3) := by decide +kernel
theorem d_Dy_lend_6 : decode M_Dy_lend.2.1 6 = .ok (.aload_n 1, 1) := by decide +kernel
theorem d_Dy_lend_7 : decode M_Dy_lend.2.1 7 = .ok (.iload_n 2, 1) := by decide +kernel
theorem d_Dy_lend_8 : decode M_Dy_lend.2.1 8 = .ok (.invokevirtual 152, 3) := by decide +kernel
theorem d_Dy_lend_11 : decode M_Dy_lend.2.1 11 = .ok (.invokestatic 156, 3) := by decide +kernel
theorem d_Dy_lend_14 : decode M_Dy_lend.2.1 14 = .ok (.istore 6, 2) := by decide +kernel
theorem d_Dy_lend_16 : decode M_Dy_lend.2.1 16 = .ok (.iload 6, 2) := by decide +kernel
theorem d_Dy_lend_18 : decode M_Dy_lend.2.1 18 = .ok (.ifCond .le 51, 3) := by decide +kernel
theorem d_Dy_lend_21 : decode M_Dy_lend.2.1 21 = .ok (.aload_n 1, 1) := by decide +kernel
theorem d_Dy_lend_22 : decode M_Dy_lend.2.1 22 = .ok (.getfield 45, 3) := by decide +kernel
theorem d_Dy_lend_25 : decode M_Dy_lend.2.1 25 = .ok (.invokevirtual 181, 3) := by decide +kernel
theorem d_Dy_lend_28 : decode M_Dy_lend.2.1 28 = .ok (.ifCond .eq 41, 3) := by decide +kernel
theorem d_Dy_lend_31 : decode M_Dy_lend.2.1 31 = .ok (.aload_n 1, 1) := by decide +kernel
theorem d_Dy_lend_32 : decode M_Dy_lend.2.1 32 = .ok (.iload_n 2, 1) := by decide +kernel
theorem d_Dy_lend_33 : decode M_Dy_lend.2.1 33 = .ok (.iload_n 3, 1) := by decide +kernel
theorem d_Dy_lend_34 : decode M_Dy_lend.2.1 34 = .ok (.iconst 3, 1) := by decide +kernel
theorem d_Dy_lend_35 : decode M_Dy_lend.2.1 35 = .ok (.iload 6, 2) := by decide +kernel
theorem d_Dy_lend_37 : decode M_Dy_lend.2.1 37 = .ok (.invokevirtual 161, 3) := by decide +kernel
theorem d_Dy_lend_40 : decode M_Dy_lend.2.1 40 = .ok (.aload_n 1, 1) := by decide +kernel
theorem d_Dy_lend_41 : decode M_Dy_lend.2.1 41 = .ok (.getfield 45, 3) := by decide +kernel
theorem d_Dy_lend_44 : decode M_Dy_lend.2.1 44 = .ok (.iload_n 2, 1) := by decide +kernel
theorem d_Dy_lend_45 : decode M_Dy_lend.2.1 45 = .ok (.iload_n 3, 1) := by decide +kernel
theorem d_Dy_lend_46 : decode M_Dy_lend.2.1 46 = .ok (.iload 6, 2) := by decide +kernel
theorem d_Dy_lend_48 : decode M_Dy_lend.2.1 48 = .ok (.iload 6, 2) := by decide +kernel
theorem d_Dy_lend_50 : decode M_Dy_lend.2.1 50 = .ok (.aload_n 1, 1) := by decide +kernel
theorem d_Dy_lend_51 : decode M_Dy_lend.2.1 51 = .ok (.getfield 185, 3) := by decide +kernel
theorem d_Dy_lend_54 : decode M_Dy_lend.2.1 54 = .ok (.imul, 1) := by decide +kernel
theorem d_Dy_lend_55 : decode M_Dy_lend.2.1 55 = .ok (.bipush 100, 2) := by decide +kernel
theorem d_Dy_lend_57 : decode M_Dy_lend.2.1 57 = .ok (.idiv, 1) := by decide +kernel
theorem d_Dy_lend_58 : decode M_Dy_lend.2.1 58 = .ok (.iadd, 1) := by decide +kernel
theorem d_Dy_lend_59 : decode M_Dy_lend.2.1 59 = .ok (.aload_n 1, 1) := by decide +kernel
theorem d_Dy_lend_60 : decode M_Dy_lend.2.1 60 = .ok (.getfield 77, 3) := by decide +kernel
theorem d_Dy_lend_63 : decode M_Dy_lend.2.1 63 = .ok (.iload 5, 2) := by decide +kernel
theorem d_Dy_lend_65 : decode M_Dy_lend.2.1 65 = .ok (.iadd, 1) := by decide +kernel
theorem d_Dy_lend_66 : decode M_Dy_lend.2.1 66 = .ok (.invokevirtual 188, 3) := by decide +kernel
theorem d_Dy_lend_69 : decode M_Dy_lend.2.1 69 = .ok (.return_, 1) := by decide +kernel
def M_Ln_hasRoom : mj_M := (⟨"MarketTown$Loans", "hasRoom", "()Z"⟩, prog_3_method_3_code, 1, some .boolean, 0, 0)
theorem d_Ln_hasRoom_0 : decode M_Ln_hasRoom.2.1 0 = .ok (.aload_n 0, 1) := by decide +kernel
theorem d_Ln_hasRoom_1 : decode M_Ln_hasRoom.2.1 1 = .ok (.getfield 15, 3) := by decide +kernel
theorem d_Ln_hasRoom_4 : decode M_Ln_hasRoom.2.1 4 = .ok (.bipush 20, 2) := by decide +kernel
theorem d_Ln_hasRoom_6 : decode M_Ln_hasRoom.2.1 6 = .ok (.if_icmp .ge 7, 3) := by decide +kernel
theorem d_Ln_hasRoom_9 : decode M_Ln_hasRoom.2.1 9 = .ok (.iconst 1, 1) := by decide +kernel
theorem d_Ln_hasRoom_10 : decode M_Ln_hasRoom.2.1 10 = .ok (.goto 4, 3) := by decide +kernel
theorem d_Ln_hasRoom_13 : decode M_Ln_hasRoom.2.1 13 = .ok (.iconst 0, 1) := by decide +kernel
theorem d_Ln_hasRoom_14 : decode M_Ln_hasRoom.2.1 14 = .ok (.ireturn, 1) := by decide +kernel
def M_Ln_append : mj_M := (⟨"MarketTown$Loans", "append", "(IIII)V"⟩, prog_3_method_4_code, 6, none, 1, 20)
theorem d_Ln_append_0 : decode M_Ln_append.2.1 0 = .ok (.aload_n 0, 1) := by decide +kernel
theorem d_Ln_append_1 : decode M_Ln_append.2.1 1 = .ok (.invokevirtual 19, 3) := by decide +kernel
theorem d_Ln_append_4 : decode M_Ln_append.2.1 4 = .ok (.ifCond .ne 4, 3) := by decide +kernel
theorem d_Ln_append_7 : decode M_Ln_append.2.1 7 = .ok (.return_, 1) := by decide +kernel
theorem d_Ln_append_8 : decode M_Ln_append.2.1 8 = .ok (.aload_n 0, 1) := by decide +kernel
theorem d_Ln_append_9 : decode M_Ln_append.2.1 9 = .ok (.getfield 15, 3) := by decide +kernel
theorem d_Ln_append_12 : decode M_Ln_append.2.1 12 = .ok (.iconst 4, 1) := by decide +kernel
theorem d_Ln_append_13 : decode M_Ln_append.2.1 13 = .ok (.imul, 1) := by decide +kernel
theorem d_Ln_append_14 : decode M_Ln_append.2.1 14 = .ok (.istore 5, 2) := by decide +kernel
theorem d_Ln_append_16 : decode M_Ln_append.2.1 16 = .ok (.aload_n 0, 1) := by decide +kernel
theorem d_Ln_append_17 : decode M_Ln_append.2.1 17 = .ok (.getfield 11, 3) := by decide +kernel
theorem d_Ln_append_20 : decode M_Ln_append.2.1 20 = .ok (.iload 5, 2) := by decide +kernel
theorem d_Ln_append_22 : decode M_Ln_append.2.1 22 = .ok (.iconst 0, 1) := by decide +kernel
theorem d_Ln_append_23 : decode M_Ln_append.2.1 23 = .ok (.iadd, 1) := by decide +kernel
theorem d_Ln_append_24 : decode M_Ln_append.2.1 24 = .ok (.iload_n 1, 1) := by decide +kernel
theorem d_Ln_append_25 : decode M_Ln_append.2.1 25 = .ok (.iastore, 1) := by decide +kernel
theorem d_Ln_append_26 : decode M_Ln_append.2.1 26 = .ok (.aload_n 0, 1) := by decide +kernel
theorem d_Ln_append_27 : decode M_Ln_append.2.1 27 = .ok (.getfield 11, 3) := by decide +kernel
theorem d_Ln_append_30 : decode M_Ln_append.2.1 30 = .ok (.iload 5, 2) := by decide +kernel
theorem d_Ln_append_32 : decode M_Ln_append.2.1 32 = .ok (.iconst 1, 1) := by decide +kernel
theorem d_Ln_append_33 : decode M_Ln_append.2.1 33 = .ok (.iadd, 1) := by decide +kernel
theorem d_Ln_append_34 : decode M_Ln_append.2.1 34 = .ok (.iload_n 2, 1) := by decide +kernel
theorem d_Ln_append_35 : decode M_Ln_append.2.1 35 = .ok (.iastore, 1) := by decide +kernel
theorem d_Ln_append_36 : decode M_Ln_append.2.1 36 = .ok (.aload_n 0, 1) := by decide +kernel
theorem d_Ln_append_37 : decode M_Ln_append.2.1 37 = .ok (.getfield 11, 3) := by decide +kernel
theorem d_Ln_append_40 : decode M_Ln_append.2.1 40 = .ok (.iload 5, 2) := by decide +kernel
theorem d_Ln_append_42 : decode M_Ln_append.2.1 42 = .ok (.iconst 2, 1) := by decide +kernel
theorem d_Ln_append_43 : decode M_Ln_append.2.1 43 = .ok (.iadd, 1) := by decide +kernel
theorem d_Ln_append_44 : decode M_Ln_append.2.1 44 = .ok (.iload_n 3, 1) := by decide +kernel
theorem d_Ln_append_45 : decode M_Ln_append.2.1 45 = .ok (.iastore, 1) := by decide +kernel
theorem d_Ln_append_46 : decode M_Ln_append.2.1 46 = .ok (.aload_n 0, 1) := by decide +kernel
theorem d_Ln_append_47 : decode M_Ln_append.2.1 47 = .ok (.getfield 11, 3) := by decide +kernel
theorem d_Ln_append_50 : decode M_Ln_append.2.1 50 = .ok (.iload 5, 2) := by decide +kernel
theorem d_Ln_append_52 : decode M_Ln_append.2.1 52 = .ok (.iconst 3, 1) := by decide +kernel
theorem d_Ln_append_53 : decode M_Ln_append.2.1 53 = .ok (.iadd, 1) := by decide +kernel
theorem d_Ln_append_54 : decode M_Ln_append.2.1 54 = .ok (.iload 4, 2) := by decide +kernel
theorem d_Ln_append_56 : decode M_Ln_append.2.1 56 = .ok (.iastore, 1) := by decide +kernel
theorem d_Ln_append_57 : decode M_Ln_append.2.1 57 = .ok (.aload_n 0, 1) := by decide +kernel
theorem d_Ln_append_58 : decode M_Ln_append.2.1 58 = .ok (.dup, 1) := by decide +kernel
theorem d_Ln_append_59 : decode M_Ln_append.2.1 59 = .ok (.getfield 15, 3) := by decide +kernel
theorem d_Ln_append_62 : decode M_Ln_append.2.1 62 = .ok (.iconst 1, 1) := by decide +kernel
theorem d_Ln_append_63 : decode M_Ln_append.2.1 63 = .ok (.iadd, 1) := by decide +kernel
theorem d_Ln_append_64 : decode M_Ln_append.2.1 64 = .ok (.putfield 15, 3) := by decide +kernel
theorem d_Ln_append_67 : decode M_Ln_append.2.1 67 = .ok (.return_, 1) := by decide +kernel
def M_Mt_open : mj_M := (⟨"MarketTown$Market", "open", "(LMarketTown$Town;)V"⟩, prog_4_method_7_code, 4, none, 4, 106)
theorem d_Mt_open_0 : decode M_Mt_open.2.1 0 = .ok (.aload_n 0, 1) := by decide +kernel
theorem d_Mt_open_1 : decode M_Mt_open.2.1 1 = .ok (.aload_n 1, 1) := by decide +kernel
theorem d_Mt_open_2 : decode M_Mt_open.2.1 2 = .ok (.invokevirtual 63, 3) := by decide +kernel
theorem d_Mt_open_5 : decode M_Mt_open.2.1 5 = .ok (.putfield 67, 3) := by decide +kernel
theorem d_Mt_open_8 : decode M_Mt_open.2.1 8 = .ok (.iconst 0, 1) := by decide +kernel
theorem d_Mt_open_9 : decode M_Mt_open.2.1 9 = .ok (.istore_n 2, 1) := by decide +kernel
theorem d_Mt_open_10 : decode M_Mt_open.2.1 10 = .ok (.iload_n 2, 1) := by decide +kernel
theorem d_Mt_open_11 : decode M_Mt_open.2.1 11 = .ok (.iconst 5, 1) := by decide +kernel
theorem d_Mt_open_12 : decode M_Mt_open.2.1 12 = .ok (.if_icmp .ge 65, 3) := by decide +kernel
theorem d_Mt_open_15 : decode M_Mt_open.2.1 15 = .ok (.aload_n 1, 1) := by decide +kernel
theorem d_Mt_open_16 : decode M_Mt_open.2.1 16 = .ok (.getfield 71, 3) := by decide +kernel
theorem d_Mt_open_19 : decode M_Mt_open.2.1 19 = .ok (.iload_n 2, 1) := by decide +kernel
theorem d_Mt_open_20 : decode M_Mt_open.2.1 20 = .ok (.iconst 1, 1) := by decide +kernel
theorem d_Mt_open_21 : decode M_Mt_open.2.1 21 = .ok (.invokevirtual 77, 3) := by decide +kernel
theorem d_Mt_open_24 : decode M_Mt_open.2.1 24 = .ok (.istore_n 3, 1) := by decide +kernel
theorem d_Mt_open_25 : decode M_Mt_open.2.1 25 = .ok (.aload_n 0, 1) := by decide +kernel
theorem d_Mt_open_26 : decode M_Mt_open.2.1 26 = .ok (.getfield 12, 3) := by decide +kernel
theorem d_Mt_open_29 : decode M_Mt_open.2.1 29 = .ok (.iload_n 2, 1) := by decide +kernel
theorem d_Mt_open_30 : decode M_Mt_open.2.1 30 = .ok (.iconst 1, 1) := by decide +kernel
theorem d_Mt_open_31 : decode M_Mt_open.2.1 31 = .ok (.invokevirtual 80, 3) := by decide +kernel
theorem d_Mt_open_34 : decode M_Mt_open.2.1 34 = .ok (.aload_n 0, 1) := by decide +kernel
theorem d_Mt_open_35 : decode M_Mt_open.2.1 35 = .ok (.getfield 18, 3) := by decide +kernel
theorem d_Mt_open_38 : decode M_Mt_open.2.1 38 = .ok (.iload_n 2, 1) := by decide +kernel
theorem d_Mt_open_39 : decode M_Mt_open.2.1 39 = .ok (.iload_n 3, 1) := by decide +kernel
theorem d_Mt_open_40 : decode M_Mt_open.2.1 40 = .ok (.ifCond .ne 7, 3) := by decide +kernel
theorem d_Mt_open_43 : decode M_Mt_open.2.1 43 = .ok (.iconst 0, 1) := by decide +kernel
theorem d_Mt_open_44 : decode M_Mt_open.2.1 44 = .ok (.goto 4, 3) := by decide +kernel
theorem d_Mt_open_47 : decode M_Mt_open.2.1 47 = .ok (.iconst (-1), 1) := by decide +kernel
theorem d_Mt_open_48 : decode M_Mt_open.2.1 48 = .ok (.invokevirtual 80, 3) := by decide +kernel
theorem d_Mt_open_51 : decode M_Mt_open.2.1 51 = .ok (.aload_n 0, 1) := by decide +kernel
theorem d_Mt_open_52 : decode M_Mt_open.2.1 52 = .ok (.aload_n 1, 1) := by decide +kernel
theorem d_Mt_open_53 : decode M_Mt_open.2.1 53 = .ok (.iload_n 2, 1) := by decide +kernel
theorem d_Mt_open_54 : decode M_Mt_open.2.1 54 = .ok (.iload_n 3, 1) := by decide +kernel
theorem d_Mt_open_55 : decode M_Mt_open.2.1 55 = .ok (.iload_n 3, 1) := by decide +kernel
theorem d_Mt_open_56 : decode M_Mt_open.2.1 56 = .ok (.iconst 1, 1) := by decide +kernel
theorem d_Mt_open_57 : decode M_Mt_open.2.1 57 = .ok (.if_icmp .ne 10, 3) := by decide +kernel
theorem d_Mt_open_60 : decode M_Mt_open.2.1 60 = .ok (.aload_n 0, 1) := by decide +kernel
theorem d_Mt_open_61 : decode M_Mt_open.2.1 61 = .ok (.invokevirtual 84, 3) := by decide +kernel
theorem d_Mt_open_64 : decode M_Mt_open.2.1 64 = .ok (.goto 4, 3) := by decide +kernel
theorem d_Mt_open_67 : decode M_Mt_open.2.1 67 = .ok (.iconst 0, 1) := by decide +kernel
theorem d_Mt_open_68 : decode M_Mt_open.2.1 68 = .ok (.invokevirtual 87, 3) := by decide +kernel
theorem d_Mt_open_71 : decode M_Mt_open.2.1 71 = .ok (.iinc 2 1, 3) := by decide +kernel
theorem d_Mt_open_74 : decode M_Mt_open.2.1 74 = .ok (.goto (-64), 3) := by decide +kernel
theorem d_Mt_open_77 : decode M_Mt_open.2.1 77 = .ok (.return_, 1) := by decide +kernel
def M_Tw_firstCouncil : mj_M := (⟨"MarketTown$Town", "firstCouncil", "()I"⟩, prog_10_method_5_code, 2, some .int, 0, 0)
theorem d_Tw_firstCouncil_0 : decode M_Tw_firstCouncil.2.1 0 = .ok (.iconst 0, 1) := by decide +kernel
theorem d_Tw_firstCouncil_1 : decode M_Tw_firstCouncil.2.1 1 = .ok (.istore_n 1, 1) := by decide +kernel
theorem d_Tw_firstCouncil_2 : decode M_Tw_firstCouncil.2.1 2 = .ok (.iload_n 1, 1) := by decide +kernel
theorem d_Tw_firstCouncil_3 : decode M_Tw_firstCouncil.2.1 3 = .ok (.aload_n 0, 1) := by decide +kernel
theorem d_Tw_firstCouncil_4 : decode M_Tw_firstCouncil.2.1 4 = .ok (.getfield 59, 3) := by decide +kernel
theorem d_Tw_firstCouncil_7 : decode M_Tw_firstCouncil.2.1 7 = .ok (.if_icmp .ge 21, 3) := by decide +kernel
theorem d_Tw_firstCouncil_10 : decode M_Tw_firstCouncil.2.1 10 = .ok (.aload_n 0, 1) := by decide +kernel
theorem d_Tw_firstCouncil_11 : decode M_Tw_firstCouncil.2.1 11 = .ok (.getfield 15, 3) := by decide +kernel
theorem d_Tw_firstCouncil_14 : decode M_Tw_firstCouncil.2.1 14 = .ok (.iload_n 1, 1) := by decide +kernel
theorem d_Tw_firstCouncil_15 : decode M_Tw_firstCouncil.2.1 15 = .ok (.iaload, 1) := by decide +kernel
theorem d_Tw_firstCouncil_16 : decode M_Tw_firstCouncil.2.1 16 = .ok (.iconst 5, 1) := by decide +kernel
theorem d_Tw_firstCouncil_17 : decode M_Tw_firstCouncil.2.1 17 = .ok (.if_icmp .ne 5, 3) := by decide +kernel
theorem d_Tw_firstCouncil_20 : decode M_Tw_firstCouncil.2.1 20 = .ok (.iload_n 1, 1) := by decide +kernel
theorem d_Tw_firstCouncil_21 : decode M_Tw_firstCouncil.2.1 21 = .ok (.ireturn, 1) := by decide +kernel
theorem d_Tw_firstCouncil_22 : decode M_Tw_firstCouncil.2.1 22 = .ok (.iinc 1 1, 3) := by decide +kernel
theorem d_Tw_firstCouncil_25 : decode M_Tw_firstCouncil.2.1 25 = .ok (.goto (-23), 3) := by decide +kernel
theorem d_Tw_firstCouncil_28 : decode M_Tw_firstCouncil.2.1 28 = .ok (.ldc 66, 2) := by decide +kernel
theorem d_Tw_firstCouncil_30 : decode M_Tw_firstCouncil.2.1 30 = .ok (.ireturn, 1) := by decide +kernel
def M_Of_pick : mj_M := (⟨"MarketTown$Offers", "pick", "(II)V"⟩, prog_5_method_4_code, 4, none, 1, 23)
theorem d_Of_pick_0 : decode M_Of_pick.2.1 0 = .ok (.aload_n 0, 1) := by decide +kernel
theorem d_Of_pick_1 : decode M_Of_pick.2.1 1 = .ok (.iconst 0, 1) := by decide +kernel
theorem d_Of_pick_2 : decode M_Of_pick.2.1 2 = .ok (.putfield 31, 3) := by decide +kernel
theorem d_Of_pick_5 : decode M_Of_pick.2.1 5 = .ok (.iconst 0, 1) := by decide +kernel
theorem d_Of_pick_6 : decode M_Of_pick.2.1 6 = .ok (.istore_n 3, 1) := by decide +kernel
theorem d_Of_pick_7 : decode M_Of_pick.2.1 7 = .ok (.iload_n 3, 1) := by decide +kernel
theorem d_Of_pick_8 : decode M_Of_pick.2.1 8 = .ok (.aload_n 0, 1) := by decide +kernel
theorem d_Of_pick_9 : decode M_Of_pick.2.1 9 = .ok (.getfield 27, 3) := by decide +kernel
theorem d_Of_pick_12 : decode M_Of_pick.2.1 12 = .ok (.if_icmp .ge 25, 3) := by decide +kernel
theorem d_Of_pick_15 : decode M_Of_pick.2.1 15 = .ok (.aload_n 0, 1) := by decide +kernel
theorem d_Of_pick_16 : decode M_Of_pick.2.1 16 = .ok (.getfield 24, 3) := by decide +kernel
theorem d_Of_pick_19 : decode M_Of_pick.2.1 19 = .ok (.iload_n 3, 1) := by decide +kernel
theorem d_Of_pick_20 : decode M_Of_pick.2.1 20 = .ok (.iaload, 1) := by decide +kernel
theorem d_Of_pick_21 : decode M_Of_pick.2.1 21 = .ok (.iload_n 1, 1) := by decide +kernel
theorem d_Of_pick_22 : decode M_Of_pick.2.1 22 = .ok (.if_icmp .ne 9, 3) := by decide +kernel
theorem d_Of_pick_25 : decode M_Of_pick.2.1 25 = .ok (.aload_n 0, 1) := by decide +kernel
theorem d_Of_pick_26 : decode M_Of_pick.2.1 26 = .ok (.iload_n 3, 1) := by decide +kernel
theorem d_Of_pick_27 : decode M_Of_pick.2.1 27 = .ok (.iload_n 2, 1) := by decide +kernel
theorem d_Of_pick_28 : decode M_Of_pick.2.1 28 = .ok (.invokevirtual 34, 3) := by decide +kernel
theorem d_Of_pick_31 : decode M_Of_pick.2.1 31 = .ok (.iinc 3 1, 3) := by decide +kernel
theorem d_Of_pick_34 : decode M_Of_pick.2.1 34 = .ok (.goto (-27), 3) := by decide +kernel
theorem d_Of_pick_37 : decode M_Of_pick.2.1 37 = .ok (.return_, 1) := by decide +kernel
def M_Of_insert : mj_M := (⟨"MarketTown$Offers", "insert", "(II)V"⟩, prog_5_method_5_code, 4, none, 0, 0)
theorem d_Of_insert_0 : decode M_Of_insert.2.1 0 = .ok (.aload_n 0, 1) := by decide +kernel
theorem d_Of_insert_1 : decode M_Of_insert.2.1 1 = .ok (.getfield 31, 3) := by decide +kernel
theorem d_Of_insert_4 : decode M_Of_insert.2.1 4 = .ok (.istore_n 3, 1) := by decide +kernel
theorem d_Of_insert_5 : decode M_Of_insert.2.1 5 = .ok (.iload_n 3, 1) := by decide +kernel
theorem d_Of_insert_6 : decode M_Of_insert.2.1 6 = .ok (.ifCond .le 49, 3) := by decide +kernel
theorem d_Of_insert_9 : decode M_Of_insert.2.1 9 = .ok (.iload_n 2, 1) := by decide +kernel
theorem d_Of_insert_10 : decode M_Of_insert.2.1 10 = .ok (.aload_n 0, 1) := by decide +kernel
theorem d_Of_insert_11 : decode M_Of_insert.2.1 11 = .ok (.getfield 15, 3) := by decide +kernel
theorem d_Of_insert_14 : decode M_Of_insert.2.1 14 = .ok (.aload_n 0, 1) := by decide +kernel
theorem d_Of_insert_15 : decode M_Of_insert.2.1 15 = .ok (.getfield 21, 3) := by decide +kernel
theorem d_Of_insert_18 : decode M_Of_insert.2.1 18 = .ok (.iload_n 3, 1) := by decide +kernel
theorem d_Of_insert_19 : decode M_Of_insert.2.1 19 = .ok (.iconst 1, 1) := by decide +kernel
theorem d_Of_insert_20 : decode M_Of_insert.2.1 20 = .ok (.isub, 1) := by decide +kernel
theorem d_Of_insert_21 : decode M_Of_insert.2.1 21 = .ok (.iaload, 1) := by decide +kernel
theorem d_Of_insert_22 : decode M_Of_insert.2.1 22 = .ok (.iaload, 1) := by decide +kernel
theorem d_Of_insert_23 : decode M_Of_insert.2.1 23 = .ok (.imul, 1) := by decide +kernel
theorem d_Of_insert_24 : decode M_Of_insert.2.1 24 = .ok (.iload_n 2, 1) := by decide +kernel
theorem d_Of_insert_25 : decode M_Of_insert.2.1 25 = .ok (.aload_n 0, 1) := by decide +kernel
theorem d_Of_insert_26 : decode M_Of_insert.2.1 26 = .ok (.getfield 15, 3) := by decide +kernel
theorem d_Of_insert_29 : decode M_Of_insert.2.1 29 = .ok (.iload_n 1, 1) := by decide +kernel
theorem d_Of_insert_30 : decode M_Of_insert.2.1 30 = .ok (.iaload, 1) := by decide +kernel
theorem d_Of_insert_31 : decode M_Of_insert.2.1 31 = .ok (.imul, 1) := by decide +kernel
theorem d_Of_insert_32 : decode M_Of_insert.2.1 32 = .ok (.if_icmp .le 23, 3) := by decide +kernel
theorem d_Of_insert_35 : decode M_Of_insert.2.1 35 = .ok (.aload_n 0, 1) := by decide +kernel
theorem d_Of_insert_36 : decode M_Of_insert.2.1 36 = .ok (.getfield 21, 3) := by decide +kernel
theorem d_Of_insert_39 : decode M_Of_insert.2.1 39 = .ok (.iload_n 3, 1) := by decide +kernel
theorem d_Of_insert_40 : decode M_Of_insert.2.1 40 = .ok (.aload_n 0, 1) := by decide +kernel
theorem d_Of_insert_41 : decode M_Of_insert.2.1 41 = .ok (.getfield 21, 3) := by decide +kernel
theorem d_Of_insert_44 : decode M_Of_insert.2.1 44 = .ok (.iload_n 3, 1) := by decide +kernel
theorem d_Of_insert_45 : decode M_Of_insert.2.1 45 = .ok (.iconst 1, 1) := by decide +kernel
theorem d_Of_insert_46 : decode M_Of_insert.2.1 46 = .ok (.isub, 1) := by decide +kernel
theorem d_Of_insert_47 : decode M_Of_insert.2.1 47 = .ok (.iaload, 1) := by decide +kernel
theorem d_Of_insert_48 : decode M_Of_insert.2.1 48 = .ok (.iastore, 1) := by decide +kernel
theorem d_Of_insert_49 : decode M_Of_insert.2.1 49 = .ok (.iinc 3 (-1), 3) := by decide +kernel
theorem d_Of_insert_52 : decode M_Of_insert.2.1 52 = .ok (.goto (-47), 3) := by decide +kernel
theorem d_Of_insert_55 : decode M_Of_insert.2.1 55 = .ok (.aload_n 0, 1) := by decide +kernel
theorem d_Of_insert_56 : decode M_Of_insert.2.1 56 = .ok (.getfield 21, 3) := by decide +kernel
theorem d_Of_insert_59 : decode M_Of_insert.2.1 59 = .ok (.iload_n 3, 1) := by decide +kernel
theorem d_Of_insert_60 : decode M_Of_insert.2.1 60 = .ok (.iload_n 1, 1) := by decide +kernel
theorem d_Of_insert_61 : decode M_Of_insert.2.1 61 = .ok (.iastore, 1) := by decide +kernel
theorem d_Of_insert_62 : decode M_Of_insert.2.1 62 = .ok (.aload_n 0, 1) := by decide +kernel
theorem d_Of_insert_63 : decode M_Of_insert.2.1 63 = .ok (.dup, 1) := by decide +kernel
theorem d_Of_insert_64 : decode M_Of_insert.2.1 64 = .ok (.getfield 31, 3) := by decide +kernel
theorem d_Of_insert_67 : decode M_Of_insert.2.1 67 = .ok (.iconst 1, 1) := by decide +kernel
theorem d_Of_insert_68 : decode M_Of_insert.2.1 68 = .ok (.iadd, 1) := by decide +kernel
theorem d_Of_insert_69 : decode M_Of_insert.2.1 69 = .ok (.putfield 31, 3) := by decide +kernel
theorem d_Of_insert_72 : decode M_Of_insert.2.1 72 = .ok (.return_, 1) := by decide +kernel
def M_Mt_calledPrice : mj_M := (⟨"MarketTown$Market", "calledPrice", "()I"⟩, prog_4_method_8_code, 8, some .int, 1, 22)
theorem d_Mt_calledPrice_0 : decode M_Mt_calledPrice.2.1 0 = .ok (.iconst 0, 1) := by decide +kernel
theorem d_Mt_calledPrice_1 : decode M_Mt_calledPrice.2.1 1 = .ok (.istore_n 1, 1) := by decide +kernel
theorem d_Mt_calledPrice_2 : decode M_Mt_calledPrice.2.1 2 = .ok (.iconst 0, 1) := by decide +kernel
theorem d_Mt_calledPrice_3 : decode M_Mt_calledPrice.2.1 3 = .ok (.istore_n 2, 1) := by decide +kernel
theorem d_Mt_calledPrice_4 : decode M_Mt_calledPrice.2.1 4 = .ok (.iconst 0, 1) := by decide +kernel
theorem d_Mt_calledPrice_5 : decode M_Mt_calledPrice.2.1 5 = .ok (.istore_n 3, 1) := by decide +kernel
theorem d_Mt_calledPrice_6 : decode M_Mt_calledPrice.2.1 6 = .ok (.iconst 0, 1) := by decide +kernel
theorem d_Mt_calledPrice_7 : decode M_Mt_calledPrice.2.1 7 = .ok (.istore 4, 2) := by decide +kernel
theorem d_Mt_calledPrice_9 : decode M_Mt_calledPrice.2.1 9 = .ok (.iconst 0, 1) := by decide +kernel
theorem d_Mt_calledPrice_10 : decode M_Mt_calledPrice.2.1 10 = .ok (.istore 5, 2) := by decide +kernel
theorem d_Mt_calledPrice_12 : decode M_Mt_calledPrice.2.1 12 = .ok (.iload_n 2, 1) := by decide +kernel
theorem d_Mt_calledPrice_13 : decode M_Mt_calledPrice.2.1 13 = .ok (.aload_n 0, 1) := by decide +kernel
theorem d_Mt_calledPrice_14 : decode M_Mt_calledPrice.2.1 14 = .ok (.getfield 12, 3) := by decide +kernel
theorem d_Mt_calledPrice_17 : decode M_Mt_calledPrice.2.1 17 = .ok (.getfield 91, 3) := by decide +kernel
theorem d_Mt_calledPrice_20 : decode M_Mt_calledPrice.2.1 20 = .ok (.if_icmp .ge 112, 3) := by decide +kernel
theorem d_Mt_calledPrice_23 : decode M_Mt_calledPrice.2.1 23 = .ok (.iload_n 3, 1) := by decide +kernel
theorem d_Mt_calledPrice_24 : decode M_Mt_calledPrice.2.1 24 = .ok (.aload_n 0, 1) := by decide +kernel
theorem d_Mt_calledPrice_25 : decode M_Mt_calledPrice.2.1 25 = .ok (.getfield 18, 3) := by decide +kernel
theorem d_Mt_calledPrice_28 : decode M_Mt_calledPrice.2.1 28 = .ok (.getfield 91, 3) := by decide +kernel
theorem d_Mt_calledPrice_31 : decode M_Mt_calledPrice.2.1 31 = .ok (.if_icmp .ge 101, 3) := by decide +kernel
theorem d_Mt_calledPrice_34 : decode M_Mt_calledPrice.2.1 34 = .ok (.aload_n 0, 1) := by decide +kernel
theorem d_Mt_calledPrice_35 : decode M_Mt_calledPrice.2.1 35 = .ok (.iload_n 2, 1) := by decide +kernel
theorem d_Mt_calledPrice_36 : decode M_Mt_calledPrice.2.1 36 = .ok (.iload_n 3, 1) := by decide +kernel
theorem d_Mt_calledPrice_37 : decode M_Mt_calledPrice.2.1 37 = .ok (.invokevirtual 94, 3) := by decide +kernel
theorem d_Mt_calledPrice_40 : decode M_Mt_calledPrice.2.1 40 = .ok (.ifCond .eq 92, 3) := by decide +kernel
theorem d_Mt_calledPrice_43 : decode M_Mt_calledPrice.2.1 43 = .ok (.aload_n 0, 1) := by decide +kernel
theorem d_Mt_calledPrice_44 : decode M_Mt_calledPrice.2.1 44 = .ok (.getfield 12, 3) := by decide +kernel
theorem d_Mt_calledPrice_47 : decode M_Mt_calledPrice.2.1 47 = .ok (.getfield 98, 3) := by decide +kernel
theorem d_Mt_calledPrice_50 : decode M_Mt_calledPrice.2.1 50 = .ok (.aload_n 0, 1) := by decide +kernel
theorem d_Mt_calledPrice_51 : decode M_Mt_calledPrice.2.1 51 = .ok (.getfield 12, 3) := by decide +kernel
theorem d_Mt_calledPrice_54 : decode M_Mt_calledPrice.2.1 54 = .ok (.getfield 101, 3) := by decide +kernel
theorem d_Mt_calledPrice_57 : decode M_Mt_calledPrice.2.1 57 = .ok (.iload_n 2, 1) := by decide +kernel
theorem d_Mt_calledPrice_58 : decode M_Mt_calledPrice.2.1 58 = .ok (.iaload, 1) := by decide +kernel
theorem d_Mt_calledPrice_59 : decode M_Mt_calledPrice.2.1 59 = .ok (.iaload, 1) := by decide +kernel
theorem d_Mt_calledPrice_60 : decode M_Mt_calledPrice.2.1 60 = .ok (.istore_n 1, 1) := by decide +kernel
theorem d_Mt_calledPrice_61 : decode M_Mt_calledPrice.2.1 61 = .ok (.iload 4, 2) := by decide +kernel
theorem d_Mt_calledPrice_63 : decode M_Mt_calledPrice.2.1 63 = .ok (.aload_n 0, 1) := by decide +kernel
theorem d_Mt_calledPrice_64 : decode M_Mt_calledPrice.2.1 64 = .ok (.getfield 12, 3) := by decide +kernel
theorem d_Mt_calledPrice_67 : decode M_Mt_calledPrice.2.1 67 = .ok (.getfield 104, 3) := by decide +kernel
theorem d_Mt_calledPrice_70 : decode M_Mt_calledPrice.2.1 70 = .ok (.aload_n 0, 1) := by decide +kernel
theorem d_Mt_calledPrice_71 : decode M_Mt_calledPrice.2.1 71 = .ok (.getfield 12, 3) := by decide +kernel
theorem d_Mt_calledPrice_74 : decode M_Mt_calledPrice.2.1 74 = .ok (.getfield 101, 3) := by decide +kernel
theorem d_Mt_calledPrice_77 : decode M_Mt_calledPrice.2.1 77 = .ok (.iload_n 2, 1) := by decide +kernel
theorem d_Mt_calledPrice_78 : decode M_Mt_calledPrice.2.1 78 = .ok (.iaload, 1) := by decide +kernel
theorem d_Mt_calledPrice_79 : decode M_Mt_calledPrice.2.1 79 = .ok (.iaload, 1) := by decide +kernel
theorem d_Mt_calledPrice_80 : decode M_Mt_calledPrice.2.1 80 = .ok (.iadd, 1) := by decide +kernel
theorem d_Mt_calledPrice_81 : decode M_Mt_calledPrice.2.1 81 = .ok (.istore 6, 2) := by decide +kernel
theorem d_Mt_calledPrice_83 : decode M_Mt_calledPrice.2.1 83 = .ok (.iload 5, 2) := by decide +kernel
theorem d_Mt_calledPrice_85 : decode M_Mt_calledPrice.2.1 85 = .ok (.aload_n 0, 1) := by decide +kernel
theorem d_Mt_calledPrice_86 : decode M_Mt_calledPrice.2.1 86 = .ok (.getfield 18, 3) := by decide +kernel
theorem d_Mt_calledPrice_89 : decode M_Mt_calledPrice.2.1 89 = .ok (.getfield 104, 3) := by decide +kernel
theorem d_Mt_calledPrice_92 : decode M_Mt_calledPrice.2.1 92 = .ok (.aload_n 0, 1) := by decide +kernel
theorem d_Mt_calledPrice_93 : decode M_Mt_calledPrice.2.1 93 = .ok (.getfield 18, 3) := by decide +kernel
theorem d_Mt_calledPrice_96 : decode M_Mt_calledPrice.2.1 96 = .ok (.getfield 101, 3) := by decide +kernel
theorem d_Mt_calledPrice_99 : decode M_Mt_calledPrice.2.1 99 = .ok (.iload_n 3, 1) := by decide +kernel
theorem d_Mt_calledPrice_100 : decode M_Mt_calledPrice.2.1 100 = .ok (.iaload, 1) := by decide +kernel
theorem d_Mt_calledPrice_101 : decode M_Mt_calledPrice.2.1 101 = .ok (.iaload, 1) := by decide +kernel
theorem d_Mt_calledPrice_102 : decode M_Mt_calledPrice.2.1 102 = .ok (.iadd, 1) := by decide +kernel
theorem d_Mt_calledPrice_103 : decode M_Mt_calledPrice.2.1 103 = .ok (.istore 7, 2) := by decide +kernel
theorem d_Mt_calledPrice_105 : decode M_Mt_calledPrice.2.1 105 = .ok (.iload 6, 2) := by decide +kernel
theorem d_Mt_calledPrice_107 : decode M_Mt_calledPrice.2.1 107 = .ok (.iload 7, 2) := by decide +kernel
theorem d_Mt_calledPrice_109 : decode M_Mt_calledPrice.2.1 109 = .ok (.if_icmp .ge 13, 3) := by decide +kernel
theorem d_Mt_calledPrice_112 : decode M_Mt_calledPrice.2.1 112 = .ok (.iload 6, 2) := by decide +kernel
theorem d_Mt_calledPrice_114 : decode M_Mt_calledPrice.2.1 114 = .ok (.istore 4, 2) := by decide +kernel
theorem d_Mt_calledPrice_116 : decode M_Mt_calledPrice.2.1 116 = .ok (.iinc 2 1, 3) := by decide +kernel
theorem d_Mt_calledPrice_119 : decode M_Mt_calledPrice.2.1 119 = .ok (.goto 10, 3) := by decide +kernel
theorem d_Mt_calledPrice_122 : decode M_Mt_calledPrice.2.1 122 = .ok (.iload 7, 2) := by decide +kernel
theorem d_Mt_calledPrice_124 : decode M_Mt_calledPrice.2.1 124 = .ok (.istore 5, 2) := by decide +kernel
theorem d_Mt_calledPrice_126 : decode M_Mt_calledPrice.2.1 126 = .ok (.iinc 3 1, 3) := by decide +kernel
theorem d_Mt_calledPrice_129 : decode M_Mt_calledPrice.2.1 129 = .ok (.goto (-117), 3) := by decide +kernel
theorem d_Mt_calledPrice_132 : decode M_Mt_calledPrice.2.1 132 = .ok (.iload_n 1, 1) := by decide +kernel
theorem d_Mt_calledPrice_133 : decode M_Mt_calledPrice.2.1 133 = .ok (.ireturn, 1) := by decide +kernel
def M_Mt_agree : mj_M := (⟨"MarketTown$Market", "agree", "(II)Z"⟩, prog_4_method_9_code, 3, some .boolean, 0, 0)
theorem d_Mt_agree_0 : decode M_Mt_agree.2.1 0 = .ok (.aload_n 0, 1) := by decide +kernel
theorem d_Mt_agree_1 : decode M_Mt_agree.2.1 1 = .ok (.getfield 12, 3) := by decide +kernel
theorem d_Mt_agree_4 : decode M_Mt_agree.2.1 4 = .ok (.getfield 98, 3) := by decide +kernel
theorem d_Mt_agree_7 : decode M_Mt_agree.2.1 7 = .ok (.aload_n 0, 1) := by decide +kernel
theorem d_Mt_agree_8 : decode M_Mt_agree.2.1 8 = .ok (.getfield 12, 3) := by decide +kernel
theorem d_Mt_agree_11 : decode M_Mt_agree.2.1 11 = .ok (.getfield 101, 3) := by decide +kernel
theorem d_Mt_agree_14 : decode M_Mt_agree.2.1 14 = .ok (.iload_n 1, 1) := by decide +kernel
theorem d_Mt_agree_15 : decode M_Mt_agree.2.1 15 = .ok (.iaload, 1) := by decide +kernel
theorem d_Mt_agree_16 : decode M_Mt_agree.2.1 16 = .ok (.iaload, 1) := by decide +kernel
theorem d_Mt_agree_17 : decode M_Mt_agree.2.1 17 = .ok (.aload_n 0, 1) := by decide +kernel
theorem d_Mt_agree_18 : decode M_Mt_agree.2.1 18 = .ok (.getfield 18, 3) := by decide +kernel
theorem d_Mt_agree_21 : decode M_Mt_agree.2.1 21 = .ok (.getfield 98, 3) := by decide +kernel
theorem d_Mt_agree_24 : decode M_Mt_agree.2.1 24 = .ok (.aload_n 0, 1) := by decide +kernel
theorem d_Mt_agree_25 : decode M_Mt_agree.2.1 25 = .ok (.getfield 18, 3) := by decide +kernel
theorem d_Mt_agree_28 : decode M_Mt_agree.2.1 28 = .ok (.getfield 101, 3) := by decide +kernel
theorem d_Mt_agree_31 : decode M_Mt_agree.2.1 31 = .ok (.iload_n 2, 1) := by decide +kernel
theorem d_Mt_agree_32 : decode M_Mt_agree.2.1 32 = .ok (.iaload, 1) := by decide +kernel
theorem d_Mt_agree_33 : decode M_Mt_agree.2.1 33 = .ok (.iaload, 1) := by decide +kernel
theorem d_Mt_agree_34 : decode M_Mt_agree.2.1 34 = .ok (.if_icmp .gt 7, 3) := by decide +kernel
theorem d_Mt_agree_37 : decode M_Mt_agree.2.1 37 = .ok (.iconst 1, 1) := by decide +kernel
theorem d_Mt_agree_38 : decode M_Mt_agree.2.1 38 = .ok (.goto 4, 3) := by decide +kernel
theorem d_Mt_agree_41 : decode M_Mt_agree.2.1 41 = .ok (.iconst 0, 1) := by decide +kernel
theorem d_Mt_agree_42 : decode M_Mt_agree.2.1 42 = .ok (.ireturn, 1) := by decide +kernel
def M_Mt_serve : mj_M := (⟨"MarketTown$Market", "serve", "(LMarketTown$Town;III)V"⟩, prog_4_method_10_code, 9, none, 3, 78)
theorem d_Mt_serve_0 : decode M_Mt_serve.2.1 0 = .ok (.iconst 0, 1) := by decide +kernel
theorem d_Mt_serve_1 : decode M_Mt_serve.2.1 1 = .ok (.istore 5, 2) := by decide +kernel
theorem d_Mt_serve_3 : decode M_Mt_serve.2.1 3 = .ok (.iconst 0, 1) := by decide +kernel
theorem d_Mt_serve_4 : decode M_Mt_serve.2.1 4 = .ok (.istore 6, 2) := by decide +kernel
theorem d_Mt_serve_6 : decode M_Mt_serve.2.1 6 = .ok (.iload 5, 2) := by decide +kernel
theorem d_Mt_serve_8 : decode M_Mt_serve.2.1 8 = .ok (.aload_n 0, 1) := by decide +kernel
theorem d_Mt_serve_9 : decode M_Mt_serve.2.1 9 = .ok (.getfield 12, 3) := by decide +kernel
theorem d_Mt_serve_12 : decode M_Mt_serve.2.1 12 = .ok (.getfield 91, 3) := by decide +kernel
theorem d_Mt_serve_15 : decode M_Mt_serve.2.1 15 = .ok (.if_icmp .ge 96, 3) := by decide +kernel
theorem d_Mt_serve_18 : decode M_Mt_serve.2.1 18 = .ok (.iload 6, 2) := by decide +kernel
theorem d_Mt_serve_20 : decode M_Mt_serve.2.1 20 = .ok (.aload_n 0, 1) := by decide +kernel
theorem d_Mt_serve_21 : decode M_Mt_serve.2.1 21 = .ok (.getfield 18, 3) := by decide +kernel
theorem d_Mt_serve_24 : decode M_Mt_serve.2.1 24 = .ok (.getfield 91, 3) := by decide +kernel
theorem d_Mt_serve_27 : decode M_Mt_serve.2.1 27 = .ok (.if_icmp .ge 84, 3) := by decide +kernel
theorem d_Mt_serve_30 : decode M_Mt_serve.2.1 30 = .ok (.aload_n 0, 1) := by decide +kernel
theorem d_Mt_serve_31 : decode M_Mt_serve.2.1 31 = .ok (.getfield 12, 3) := by decide +kernel
theorem d_Mt_serve_34 : decode M_Mt_serve.2.1 34 = .ok (.getfield 101, 3) := by decide +kernel
theorem d_Mt_serve_37 : decode M_Mt_serve.2.1 37 = .ok (.iload 5, 2) := by decide +kernel
theorem d_Mt_serve_39 : decode M_Mt_serve.2.1 39 = .ok (.iaload, 1) := by decide +kernel
theorem d_Mt_serve_40 : decode M_Mt_serve.2.1 40 = .ok (.istore 7, 2) := by decide +kernel
theorem d_Mt_serve_42 : decode M_Mt_serve.2.1 42 = .ok (.aload_n 0, 1) := by decide +kernel
theorem d_Mt_serve_43 : decode M_Mt_serve.2.1 43 = .ok (.getfield 18, 3) := by decide +kernel
theorem d_Mt_serve_46 : decode M_Mt_serve.2.1 46 = .ok (.getfield 101, 3) := by decide +kernel
theorem d_Mt_serve_49 : decode M_Mt_serve.2.1 49 = .ok (.iload 6, 2) := by decide +kernel
theorem d_Mt_serve_51 : decode M_Mt_serve.2.1 51 = .ok (.iaload, 1) := by decide +kernel
theorem d_Mt_serve_52 : decode M_Mt_serve.2.1 52 = .ok (.istore 8, 2) := by decide +kernel
theorem d_Mt_serve_54 : decode M_Mt_serve.2.1 54 = .ok (.aload_n 0, 1) := by decide +kernel
theorem d_Mt_serve_55 : decode M_Mt_serve.2.1 55 = .ok (.iload 5, 2) := by decide +kernel
theorem d_Mt_serve_57 : decode M_Mt_serve.2.1 57 = .ok (.iload 6, 2) := by decide +kernel
theorem d_Mt_serve_59 : decode M_Mt_serve.2.1 59 = .ok (.invokevirtual 94, 3) := by decide +kernel
theorem d_Mt_serve_62 : decode M_Mt_serve.2.1 62 = .ok (.ifCond .eq 24, 3) := by decide +kernel
theorem d_Mt_serve_65 : decode M_Mt_serve.2.1 65 = .ok (.aload_n 0, 1) := by decide +kernel
theorem d_Mt_serve_66 : decode M_Mt_serve.2.1 66 = .ok (.aload_n 1, 1) := by decide +kernel
theorem d_Mt_serve_67 : decode M_Mt_serve.2.1 67 = .ok (.iload_n 2, 1) := by decide +kernel
theorem d_Mt_serve_68 : decode M_Mt_serve.2.1 68 = .ok (.iload 7, 2) := by decide +kernel
theorem d_Mt_serve_70 : decode M_Mt_serve.2.1 70 = .ok (.iload 8, 2) := by decide +kernel
theorem d_Mt_serve_72 : decode M_Mt_serve.2.1 72 = .ok (.aload_n 0, 1) := by decide +kernel
theorem d_Mt_serve_73 : decode M_Mt_serve.2.1 73 = .ok (.iload_n 3, 1) := by decide +kernel
theorem d_Mt_serve_74 : decode M_Mt_serve.2.1 74 = .ok (.iload 7, 2) := by decide +kernel
theorem d_Mt_serve_76 : decode M_Mt_serve.2.1 76 = .ok (.iload 8, 2) := by decide +kernel
theorem d_Mt_serve_78 : decode M_Mt_serve.2.1 78 = .ok (.iload 4, 2) := by decide +kernel
theorem d_Mt_serve_80 : decode M_Mt_serve.2.1 80 = .ok (.invokevirtual 107, 3) := by decide +kernel
theorem d_Mt_serve_83 : decode M_Mt_serve.2.1 83 = .ok (.invokevirtual 111, 3) := by decide +kernel
theorem d_Mt_serve_86 : decode M_Mt_serve.2.1 86 = .ok (.aload_n 0, 1) := by decide +kernel
theorem d_Mt_serve_87 : decode M_Mt_serve.2.1 87 = .ok (.getfield 12, 3) := by decide +kernel
theorem d_Mt_serve_90 : decode M_Mt_serve.2.1 90 = .ok (.getfield 104, 3) := by decide +kernel
theorem d_Mt_serve_93 : decode M_Mt_serve.2.1 93 = .ok (.iload 7, 2) := by decide +kernel
theorem d_Mt_serve_95 : decode M_Mt_serve.2.1 95 = .ok (.iaload, 1) := by decide +kernel
theorem d_Mt_serve_96 : decode M_Mt_serve.2.1 96 = .ok (.ifCond .ne 9, 3) := by decide +kernel
theorem d_Mt_serve_99 : decode M_Mt_serve.2.1 99 = .ok (.iinc 5 1, 3) := by decide +kernel
theorem d_Mt_serve_102 : decode M_Mt_serve.2.1 102 = .ok (.goto 6, 3) := by decide +kernel
theorem d_Mt_serve_105 : decode M_Mt_serve.2.1 105 = .ok (.iinc 6 1, 3) := by decide +kernel
theorem d_Mt_serve_108 : decode M_Mt_serve.2.1 108 = .ok (.goto (-102), 3) := by decide +kernel
theorem d_Mt_serve_111 : decode M_Mt_serve.2.1 111 = .ok (.return_, 1) := by decide +kernel
def M_Mt_priceOf : mj_M := (⟨"MarketTown$Market", "priceOf", "(IIII)I"⟩, prog_4_method_11_code, 5, some .int, 0, 0)
theorem d_Mt_priceOf_0 : decode M_Mt_priceOf.2.1 0 = .ok (.iload_n 1, 1) := by decide +kernel
theorem d_Mt_priceOf_1 : decode M_Mt_priceOf.2.1 1 = .ok (.lookupswitch 52 #[(1, 27), (2, 30)], 27) := by decide +kernel
theorem d_Mt_priceOf_28 : decode M_Mt_priceOf.2.1 28 = .ok (.iload 4, 2) := by decide +kernel
theorem d_Mt_priceOf_30 : decode M_Mt_priceOf.2.1 30 = .ok (.ireturn, 1) := by decide +kernel
theorem d_Mt_priceOf_31 : decode M_Mt_priceOf.2.1 31 = .ok (.aload_n 0, 1) := by decide +kernel
theorem d_Mt_priceOf_32 : decode M_Mt_priceOf.2.1 32 = .ok (.getfield 18, 3) := by decide +kernel
theorem d_Mt_priceOf_35 : decode M_Mt_priceOf.2.1 35 = .ok (.getfield 98, 3) := by decide +kernel
theorem d_Mt_priceOf_38 : decode M_Mt_priceOf.2.1 38 = .ok (.iload_n 3, 1) := by decide +kernel
theorem d_Mt_priceOf_39 : decode M_Mt_priceOf.2.1 39 = .ok (.iaload, 1) := by decide +kernel
theorem d_Mt_priceOf_40 : decode M_Mt_priceOf.2.1 40 = .ok (.aload_n 0, 1) := by decide +kernel
theorem d_Mt_priceOf_41 : decode M_Mt_priceOf.2.1 41 = .ok (.getfield 12, 3) := by decide +kernel
theorem d_Mt_priceOf_44 : decode M_Mt_priceOf.2.1 44 = .ok (.getfield 98, 3) := by decide +kernel
theorem d_Mt_priceOf_47 : decode M_Mt_priceOf.2.1 47 = .ok (.iload_n 2, 1) := by decide +kernel
theorem d_Mt_priceOf_48 : decode M_Mt_priceOf.2.1 48 = .ok (.iaload, 1) := by decide +kernel
theorem d_Mt_priceOf_49 : decode M_Mt_priceOf.2.1 49 = .ok (.iadd, 1) := by decide +kernel
theorem d_Mt_priceOf_50 : decode M_Mt_priceOf.2.1 50 = .ok (.iconst 2, 1) := by decide +kernel
theorem d_Mt_priceOf_51 : decode M_Mt_priceOf.2.1 51 = .ok (.idiv, 1) := by decide +kernel
theorem d_Mt_priceOf_52 : decode M_Mt_priceOf.2.1 52 = .ok (.ireturn, 1) := by decide +kernel
theorem d_Mt_priceOf_53 : decode M_Mt_priceOf.2.1 53 = .ok (.aload_n 0, 1) := by decide +kernel
theorem d_Mt_priceOf_54 : decode M_Mt_priceOf.2.1 54 = .ok (.getfield 12, 3) := by decide +kernel
theorem d_Mt_priceOf_57 : decode M_Mt_priceOf.2.1 57 = .ok (.getfield 98, 3) := by decide +kernel
theorem d_Mt_priceOf_60 : decode M_Mt_priceOf.2.1 60 = .ok (.iload_n 2, 1) := by decide +kernel
theorem d_Mt_priceOf_61 : decode M_Mt_priceOf.2.1 61 = .ok (.iaload, 1) := by decide +kernel
theorem d_Mt_priceOf_62 : decode M_Mt_priceOf.2.1 62 = .ok (.ireturn, 1) := by decide +kernel
def M_Mt_trade : mj_M := (⟨"MarketTown$Market", "trade", "(LMarketTown$Town;IIII)V"⟩, prog_4_method_12_code, 9, none, 2, 50)
theorem d_Mt_trade_0 : decode M_Mt_trade.2.1 0 = .ok (.aload_n 0, 1) := by decide +kernel
theorem d_Mt_trade_1 : decode M_Mt_trade.2.1 1 = .ok (.getfield 12, 3) := by decide +kernel
theorem d_Mt_trade_4 : decode M_Mt_trade.2.1 4 = .ok (.getfield 104, 3) := by decide +kernel
theorem d_Mt_trade_7 : decode M_Mt_trade.2.1 7 = .ok (.iload_n 3, 1) := by decide +kernel
theorem d_Mt_trade_8 : decode M_Mt_trade.2.1 8 = .ok (.iaload, 1) := by decide +kernel
theorem d_Mt_trade_9 : decode M_Mt_trade.2.1 9 = .ok (.aload_n 0, 1) := by decide +kernel
theorem d_Mt_trade_10 : decode M_Mt_trade.2.1 10 = .ok (.getfield 18, 3) := by decide +kernel
theorem d_Mt_trade_13 : decode M_Mt_trade.2.1 13 = .ok (.getfield 104, 3) := by decide +kernel
theorem d_Mt_trade_16 : decode M_Mt_trade.2.1 16 = .ok (.iload 4, 2) := by decide +kernel
theorem d_Mt_trade_18 : decode M_Mt_trade.2.1 18 = .ok (.iaload, 1) := by decide +kernel
theorem d_Mt_trade_19 : decode M_Mt_trade.2.1 19 = .ok (.invokestatic 50, 3) := by decide +kernel
theorem d_Mt_trade_22 : decode M_Mt_trade.2.1 22 = .ok (.istore 6, 2) := by decide +kernel
theorem d_Mt_trade_24 : decode M_Mt_trade.2.1 24 = .ok (.iload 6, 2) := by decide +kernel
theorem d_Mt_trade_26 : decode M_Mt_trade.2.1 26 = .ok (.ifCond .gt 4, 3) := by decide +kernel
theorem d_Mt_trade_29 : decode M_Mt_trade.2.1 29 = .ok (.return_, 1) := by decide +kernel
theorem d_Mt_trade_30 : decode M_Mt_trade.2.1 30 = .ok (.aload_n 0, 1) := by decide +kernel
theorem d_Mt_trade_31 : decode M_Mt_trade.2.1 31 = .ok (.getfield 12, 3) := by decide +kernel
theorem d_Mt_trade_34 : decode M_Mt_trade.2.1 34 = .ok (.getfield 104, 3) := by decide +kernel
theorem d_Mt_trade_37 : decode M_Mt_trade.2.1 37 = .ok (.iload_n 3, 1) := by decide +kernel
theorem d_Mt_trade_38 : decode M_Mt_trade.2.1 38 = .ok (.dup2, 1) := by decide +kernel
theorem d_Mt_trade_39 : decode M_Mt_trade.2.1 39 = .ok (.iaload, 1) := by decide +kernel
theorem d_Mt_trade_40 : decode M_Mt_trade.2.1 40 = .ok (.iload 6, 2) := by decide +kernel
theorem d_Mt_trade_42 : decode M_Mt_trade.2.1 42 = .ok (.isub, 1) := by decide +kernel
theorem d_Mt_trade_43 : decode M_Mt_trade.2.1 43 = .ok (.iastore, 1) := by decide +kernel
theorem d_Mt_trade_44 : decode M_Mt_trade.2.1 44 = .ok (.aload_n 0, 1) := by decide +kernel
theorem d_Mt_trade_45 : decode M_Mt_trade.2.1 45 = .ok (.getfield 18, 3) := by decide +kernel
theorem d_Mt_trade_48 : decode M_Mt_trade.2.1 48 = .ok (.getfield 104, 3) := by decide +kernel
theorem d_Mt_trade_51 : decode M_Mt_trade.2.1 51 = .ok (.iload 4, 2) := by decide +kernel
theorem d_Mt_trade_53 : decode M_Mt_trade.2.1 53 = .ok (.dup2, 1) := by decide +kernel
theorem d_Mt_trade_54 : decode M_Mt_trade.2.1 54 = .ok (.iaload, 1) := by decide +kernel
theorem d_Mt_trade_55 : decode M_Mt_trade.2.1 55 = .ok (.iload 6, 2) := by decide +kernel
theorem d_Mt_trade_57 : decode M_Mt_trade.2.1 57 = .ok (.isub, 1) := by decide +kernel
theorem d_Mt_trade_58 : decode M_Mt_trade.2.1 58 = .ok (.iastore, 1) := by decide +kernel
theorem d_Mt_trade_59 : decode M_Mt_trade.2.1 59 = .ok (.iload 5, 2) := by decide +kernel
theorem d_Mt_trade_61 : decode M_Mt_trade.2.1 61 = .ok (.iload 6, 2) := by decide +kernel
theorem d_Mt_trade_63 : decode M_Mt_trade.2.1 63 = .ok (.imul, 1) := by decide +kernel
theorem d_Mt_trade_64 : decode M_Mt_trade.2.1 64 = .ok (.istore 7, 2) := by decide +kernel
theorem d_Mt_trade_66 : decode M_Mt_trade.2.1 66 = .ok (.aload_n 0, 1) := by decide +kernel
theorem d_Mt_trade_67 : decode M_Mt_trade.2.1 67 = .ok (.getfield 12, 3) := by decide +kernel
theorem d_Mt_trade_70 : decode M_Mt_trade.2.1 70 = .ok (.getfield 115, 3) := by decide +kernel
theorem d_Mt_trade_73 : decode M_Mt_trade.2.1 73 = .ok (.iload_n 3, 1) := by decide +kernel
theorem d_Mt_trade_74 : decode M_Mt_trade.2.1 74 = .ok (.iaload, 1) := by decide +kernel
theorem d_Mt_trade_75 : decode M_Mt_trade.2.1 75 = .ok (.istore 8, 2) := by decide +kernel
theorem d_Mt_trade_77 : decode M_Mt_trade.2.1 77 = .ok (.aload_n 1, 1) := by decide +kernel
theorem d_Mt_trade_78 : decode M_Mt_trade.2.1 78 = .ok (.aload_n 0, 1) := by decide +kernel
theorem d_Mt_trade_79 : decode M_Mt_trade.2.1 79 = .ok (.getfield 18, 3) := by decide +kernel
theorem d_Mt_trade_82 : decode M_Mt_trade.2.1 82 = .ok (.getfield 115, 3) := by decide +kernel
theorem d_Mt_trade_85 : decode M_Mt_trade.2.1 85 = .ok (.iload 4, 2) := by decide +kernel
theorem d_Mt_trade_87 : decode M_Mt_trade.2.1 87 = .ok (.iaload, 1) := by decide +kernel
theorem d_Mt_trade_88 : decode M_Mt_trade.2.1 88 = .ok (.iload 8, 2) := by decide +kernel
theorem d_Mt_trade_90 : decode M_Mt_trade.2.1 90 = .ok (.iconst 0, 1) := by decide +kernel
theorem d_Mt_trade_91 : decode M_Mt_trade.2.1 91 = .ok (.iload 7, 2) := by decide +kernel
theorem d_Mt_trade_93 : decode M_Mt_trade.2.1 93 = .ok (.invokevirtual 118, 3) := by decide +kernel
theorem d_Mt_trade_96 : decode M_Mt_trade.2.1 96 = .ok (.aload_n 0, 1) := by decide +kernel
theorem d_Mt_trade_97 : decode M_Mt_trade.2.1 97 = .ok (.getfield 67, 3) := by decide +kernel
theorem d_Mt_trade_100 : decode M_Mt_trade.2.1 100 = .ok (.ldc 121, 2) := by decide +kernel
theorem d_Mt_trade_102 : decode M_Mt_trade.2.1 102 = .ok (.if_icmp .eq 28, 3) := by decide +kernel
theorem d_Mt_trade_105 : decode M_Mt_trade.2.1 105 = .ok (.aload_n 1, 1) := by decide +kernel
theorem d_Mt_trade_106 : decode M_Mt_trade.2.1 106 = .ok (.iload 8, 2) := by decide +kernel
theorem d_Mt_trade_108 : decode M_Mt_trade.2.1 108 = .ok (.aload_n 0, 1) := by decide +kernel
theorem d_Mt_trade_109 : decode M_Mt_trade.2.1 109 = .ok (.getfield 67, 3) := by decide +kernel
theorem d_Mt_trade_112 : decode M_Mt_trade.2.1 112 = .ok (.iconst 1, 1) := by decide +kernel
theorem d_Mt_trade_113 : decode M_Mt_trade.2.1 113 = .ok (.iload 7, 2) := by decide +kernel
theorem d_Mt_trade_115 : decode M_Mt_trade.2.1 115 = .ok (.i2l, 1) := by decide +kernel
theorem d_Mt_trade_116 : decode M_Mt_trade.2.1 116 = .ok (.aload_n 1, 1) := by decide +kernel
theorem d_Mt_trade_117 : decode M_Mt_trade.2.1 117 = .ok (.getfield 122, 3) := by decide +kernel
theorem d_Mt_trade_120 : decode M_Mt_trade.2.1 120 = .ok (.i2l, 1) := by decide +kernel
theorem d_Mt_trade_121 : decode M_Mt_trade.2.1 121 = .ok (.lmul, 1) := by decide +kernel
theorem d_Mt_trade_122 : decode M_Mt_trade.2.1 122 = .ok (.ldc2_w 125, 3) := by decide +kernel
theorem d_Mt_trade_125 : decode M_Mt_trade.2.1 125 = .ok (.ldiv, 1) := by decide +kernel
theorem d_Mt_trade_126 : decode M_Mt_trade.2.1 126 = .ok (.l2i, 1) := by decide +kernel
theorem d_Mt_trade_127 : decode M_Mt_trade.2.1 127 = .ok (.invokevirtual 118, 3) := by decide +kernel
theorem d_Mt_trade_130 : decode M_Mt_trade.2.1 130 = .ok (.aload_n 1, 1) := by decide +kernel
theorem d_Mt_trade_131 : decode M_Mt_trade.2.1 131 = .ok (.getfield 31, 3) := by decide +kernel
theorem d_Mt_trade_134 : decode M_Mt_trade.2.1 134 = .ok (.iload 8, 2) := by decide +kernel
theorem d_Mt_trade_136 : decode M_Mt_trade.2.1 136 = .ok (.aload_n 0, 1) := by decide +kernel
theorem d_Mt_trade_137 : decode M_Mt_trade.2.1 137 = .ok (.getfield 18, 3) := by decide +kernel
theorem d_Mt_trade_140 : decode M_Mt_trade.2.1 140 = .ok (.getfield 115, 3) := by decide +kernel
theorem d_Mt_trade_143 : decode M_Mt_trade.2.1 143 = .ok (.iload 4, 2) := by decide +kernel
theorem d_Mt_trade_145 : decode M_Mt_trade.2.1 145 = .ok (.iaload, 1) := by decide +kernel
theorem d_Mt_trade_146 : decode M_Mt_trade.2.1 146 = .ok (.iload_n 2, 1) := by decide +kernel
theorem d_Mt_trade_147 : decode M_Mt_trade.2.1 147 = .ok (.iload 6, 2) := by decide +kernel
theorem d_Mt_trade_149 : decode M_Mt_trade.2.1 149 = .ok (.invokevirtual 127, 3) := by decide +kernel
theorem d_Mt_trade_152 : decode M_Mt_trade.2.1 152 = .ok (.aload_n 1, 1) := by decide +kernel
theorem d_Mt_trade_153 : decode M_Mt_trade.2.1 153 = .ok (.getfield 71, 3) := by decide +kernel
theorem d_Mt_trade_156 : decode M_Mt_trade.2.1 156 = .ok (.iload_n 2, 1) := by decide +kernel
theorem d_Mt_trade_157 : decode M_Mt_trade.2.1 157 = .ok (.iconst 2, 1) := by decide +kernel
theorem d_Mt_trade_158 : decode M_Mt_trade.2.1 158 = .ok (.iload 5, 2) := by decide +kernel
theorem d_Mt_trade_160 : decode M_Mt_trade.2.1 160 = .ok (.invokevirtual 130, 3) := by decide +kernel
theorem d_Mt_trade_163 : decode M_Mt_trade.2.1 163 = .ok (.aload_n 1, 1) := by decide +kernel
theorem d_Mt_trade_164 : decode M_Mt_trade.2.1 164 = .ok (.getfield 71, 3) := by decide +kernel
theorem d_Mt_trade_167 : decode M_Mt_trade.2.1 167 = .ok (.iload_n 2, 1) := by decide +kernel
theorem d_Mt_trade_168 : decode M_Mt_trade.2.1 168 = .ok (.iconst 3, 1) := by decide +kernel
theorem d_Mt_trade_169 : decode M_Mt_trade.2.1 169 = .ok (.iload 6, 2) := by decide +kernel
theorem d_Mt_trade_171 : decode M_Mt_trade.2.1 171 = .ok (.invokevirtual 134, 3) := by decide +kernel
theorem d_Mt_trade_174 : decode M_Mt_trade.2.1 174 = .ok (.return_, 1) := by decide +kernel
def M_Sk_carry : mj_M := (⟨"MarketTown$Stock", "carry", "(IIII)V"⟩, prog_8_method_7_code, 10, none, 1, 21)
theorem d_Sk_carry_0 : decode M_Sk_carry.2.1 0 = .ok (.iload_n 1, 1) := by decide +kernel
theorem d_Sk_carry_1 : decode M_Sk_carry.2.1 1 = .ok (.iconst 5, 1) := by decide +kernel
theorem d_Sk_carry_2 : decode M_Sk_carry.2.1 2 = .ok (.imul, 1) := by decide +kernel
theorem d_Sk_carry_3 : decode M_Sk_carry.2.1 3 = .ok (.iload_n 3, 1) := by decide +kernel
theorem d_Sk_carry_4 : decode M_Sk_carry.2.1 4 = .ok (.iadd, 1) := by decide +kernel
theorem d_Sk_carry_5 : decode M_Sk_carry.2.1 5 = .ok (.istore 5, 2) := by decide +kernel
theorem d_Sk_carry_7 : decode M_Sk_carry.2.1 7 = .ok (.iload_n 2, 1) := by decide +kernel
theorem d_Sk_carry_8 : decode M_Sk_carry.2.1 8 = .ok (.iconst 5, 1) := by decide +kernel
theorem d_Sk_carry_9 : decode M_Sk_carry.2.1 9 = .ok (.imul, 1) := by decide +kernel
theorem d_Sk_carry_10 : decode M_Sk_carry.2.1 10 = .ok (.iload_n 3, 1) := by decide +kernel
theorem d_Sk_carry_11 : decode M_Sk_carry.2.1 11 = .ok (.iadd, 1) := by decide +kernel
theorem d_Sk_carry_12 : decode M_Sk_carry.2.1 12 = .ok (.istore 6, 2) := by decide +kernel
theorem d_Sk_carry_14 : decode M_Sk_carry.2.1 14 = .ok (.iload 4, 2) := by decide +kernel
theorem d_Sk_carry_16 : decode M_Sk_carry.2.1 16 = .ok (.istore 7, 2) := by decide +kernel
theorem d_Sk_carry_18 : decode M_Sk_carry.2.1 18 = .ok (.bipush 9, 2) := by decide +kernel
theorem d_Sk_carry_20 : decode M_Sk_carry.2.1 20 = .ok (.istore 8, 2) := by decide +kernel
theorem d_Sk_carry_22 : decode M_Sk_carry.2.1 22 = .ok (.iload 8, 2) := by decide +kernel
theorem d_Sk_carry_24 : decode M_Sk_carry.2.1 24 = .ok (.ifCond .lt 77, 3) := by decide +kernel
theorem d_Sk_carry_27 : decode M_Sk_carry.2.1 27 = .ok (.iload 7, 2) := by decide +kernel
theorem d_Sk_carry_29 : decode M_Sk_carry.2.1 29 = .ok (.ifCond .le 72, 3) := by decide +kernel
theorem d_Sk_carry_32 : decode M_Sk_carry.2.1 32 = .ok (.iload 7, 2) := by decide +kernel
theorem d_Sk_carry_34 : decode M_Sk_carry.2.1 34 = .ok (.aload_n 0, 1) := by decide +kernel
theorem d_Sk_carry_35 : decode M_Sk_carry.2.1 35 = .ok (.getfield 9, 3) := by decide +kernel
theorem d_Sk_carry_38 : decode M_Sk_carry.2.1 38 = .ok (.iload 5, 2) := by decide +kernel
theorem d_Sk_carry_40 : decode M_Sk_carry.2.1 40 = .ok (.bipush 10, 2) := by decide +kernel
theorem d_Sk_carry_42 : decode M_Sk_carry.2.1 42 = .ok (.imul, 1) := by decide +kernel
theorem d_Sk_carry_43 : decode M_Sk_carry.2.1 43 = .ok (.iload 8, 2) := by decide +kernel
theorem d_Sk_carry_45 : decode M_Sk_carry.2.1 45 = .ok (.iadd, 1) := by decide +kernel
theorem d_Sk_carry_46 : decode M_Sk_carry.2.1 46 = .ok (.iaload, 1) := by decide +kernel
theorem d_Sk_carry_47 : decode M_Sk_carry.2.1 47 = .ok (.invokestatic 22, 3) := by decide +kernel
theorem d_Sk_carry_50 : decode M_Sk_carry.2.1 50 = .ok (.istore 9, 2) := by decide +kernel
theorem d_Sk_carry_52 : decode M_Sk_carry.2.1 52 = .ok (.aload_n 0, 1) := by decide +kernel
theorem d_Sk_carry_53 : decode M_Sk_carry.2.1 53 = .ok (.getfield 9, 3) := by decide +kernel
theorem d_Sk_carry_56 : decode M_Sk_carry.2.1 56 = .ok (.iload 5, 2) := by decide +kernel
theorem d_Sk_carry_58 : decode M_Sk_carry.2.1 58 = .ok (.bipush 10, 2) := by decide +kernel
theorem d_Sk_carry_60 : decode M_Sk_carry.2.1 60 = .ok (.imul, 1) := by decide +kernel
theorem d_Sk_carry_61 : decode M_Sk_carry.2.1 61 = .ok (.iload 8, 2) := by decide +kernel
theorem d_Sk_carry_63 : decode M_Sk_carry.2.1 63 = .ok (.iadd, 1) := by decide +kernel
theorem d_Sk_carry_64 : decode M_Sk_carry.2.1 64 = .ok (.dup2, 1) := by decide +kernel
theorem d_Sk_carry_65 : decode M_Sk_carry.2.1 65 = .ok (.iaload, 1) := by decide +kernel
theorem d_Sk_carry_66 : decode M_Sk_carry.2.1 66 = .ok (.iload 9, 2) := by decide +kernel
theorem d_Sk_carry_68 : decode M_Sk_carry.2.1 68 = .ok (.isub, 1) := by decide +kernel
theorem d_Sk_carry_69 : decode M_Sk_carry.2.1 69 = .ok (.iastore, 1) := by decide +kernel
theorem d_Sk_carry_70 : decode M_Sk_carry.2.1 70 = .ok (.aload_n 0, 1) := by decide +kernel
theorem d_Sk_carry_71 : decode M_Sk_carry.2.1 71 = .ok (.getfield 9, 3) := by decide +kernel
theorem d_Sk_carry_74 : decode M_Sk_carry.2.1 74 = .ok (.iload 6, 2) := by decide +kernel
theorem d_Sk_carry_76 : decode M_Sk_carry.2.1 76 = .ok (.bipush 10, 2) := by decide +kernel
theorem d_Sk_carry_78 : decode M_Sk_carry.2.1 78 = .ok (.imul, 1) := by decide +kernel
theorem d_Sk_carry_79 : decode M_Sk_carry.2.1 79 = .ok (.iload 8, 2) := by decide +kernel
theorem d_Sk_carry_81 : decode M_Sk_carry.2.1 81 = .ok (.iadd, 1) := by decide +kernel
theorem d_Sk_carry_82 : decode M_Sk_carry.2.1 82 = .ok (.dup2, 1) := by decide +kernel
theorem d_Sk_carry_83 : decode M_Sk_carry.2.1 83 = .ok (.iaload, 1) := by decide +kernel
theorem d_Sk_carry_84 : decode M_Sk_carry.2.1 84 = .ok (.iload 9, 2) := by decide +kernel
theorem d_Sk_carry_86 : decode M_Sk_carry.2.1 86 = .ok (.iadd, 1) := by decide +kernel
theorem d_Sk_carry_87 : decode M_Sk_carry.2.1 87 = .ok (.iastore, 1) := by decide +kernel
theorem d_Sk_carry_88 : decode M_Sk_carry.2.1 88 = .ok (.iload 7, 2) := by decide +kernel
theorem d_Sk_carry_90 : decode M_Sk_carry.2.1 90 = .ok (.iload 9, 2) := by decide +kernel
theorem d_Sk_carry_92 : decode M_Sk_carry.2.1 92 = .ok (.isub, 1) := by decide +kernel
theorem d_Sk_carry_93 : decode M_Sk_carry.2.1 93 = .ok (.istore 7, 2) := by decide +kernel
theorem d_Sk_carry_95 : decode M_Sk_carry.2.1 95 = .ok (.iinc 8 (-1), 3) := by decide +kernel
theorem d_Sk_carry_98 : decode M_Sk_carry.2.1 98 = .ok (.goto (-76), 3) := by decide +kernel
theorem d_Sk_carry_101 : decode M_Sk_carry.2.1 101 = .ok (.aload_n 0, 1) := by decide +kernel
theorem d_Sk_carry_102 : decode M_Sk_carry.2.1 102 = .ok (.getfield 15, 3) := by decide +kernel
theorem d_Sk_carry_105 : decode M_Sk_carry.2.1 105 = .ok (.iload 5, 2) := by decide +kernel
theorem d_Sk_carry_107 : decode M_Sk_carry.2.1 107 = .ok (.dup2, 1) := by decide +kernel
theorem d_Sk_carry_108 : decode M_Sk_carry.2.1 108 = .ok (.iaload, 1) := by decide +kernel
theorem d_Sk_carry_109 : decode M_Sk_carry.2.1 109 = .ok (.iload 4, 2) := by decide +kernel
theorem d_Sk_carry_111 : decode M_Sk_carry.2.1 111 = .ok (.iload 7, 2) := by decide +kernel
theorem d_Sk_carry_113 : decode M_Sk_carry.2.1 113 = .ok (.isub, 1) := by decide +kernel
theorem d_Sk_carry_114 : decode M_Sk_carry.2.1 114 = .ok (.isub, 1) := by decide +kernel
theorem d_Sk_carry_115 : decode M_Sk_carry.2.1 115 = .ok (.iastore, 1) := by decide +kernel
theorem d_Sk_carry_116 : decode M_Sk_carry.2.1 116 = .ok (.aload_n 0, 1) := by decide +kernel
theorem d_Sk_carry_117 : decode M_Sk_carry.2.1 117 = .ok (.getfield 15, 3) := by decide +kernel
theorem d_Sk_carry_120 : decode M_Sk_carry.2.1 120 = .ok (.iload 6, 2) := by decide +kernel
theorem d_Sk_carry_122 : decode M_Sk_carry.2.1 122 = .ok (.dup2, 1) := by decide +kernel
theorem d_Sk_carry_123 : decode M_Sk_carry.2.1 123 = .ok (.iaload, 1) := by decide +kernel
theorem d_Sk_carry_124 : decode M_Sk_carry.2.1 124 = .ok (.iload 4, 2) := by decide +kernel
theorem d_Sk_carry_126 : decode M_Sk_carry.2.1 126 = .ok (.iload 7, 2) := by decide +kernel
theorem d_Sk_carry_128 : decode M_Sk_carry.2.1 128 = .ok (.isub, 1) := by decide +kernel
theorem d_Sk_carry_129 : decode M_Sk_carry.2.1 129 = .ok (.iadd, 1) := by decide +kernel
theorem d_Sk_carry_130 : decode M_Sk_carry.2.1 130 = .ok (.iastore, 1) := by decide +kernel
theorem d_Sk_carry_131 : decode M_Sk_carry.2.1 131 = .ok (.return_, 1) := by decide +kernel
def M_Ln_fallDue : mj_M := (⟨"MarketTown$Loans", "fallDue", "(LMarketTown$Town;)V"⟩, prog_3_method_6_code, 3, none, 4, 97)
theorem d_Ln_fallDue_0 : decode M_Ln_fallDue.2.1 0 = .ok (.iconst 0, 1) := by decide +kernel
theorem d_Ln_fallDue_1 : decode M_Ln_fallDue.2.1 1 = .ok (.istore_n 2, 1) := by decide +kernel
theorem d_Ln_fallDue_2 : decode M_Ln_fallDue.2.1 2 = .ok (.iload_n 2, 1) := by decide +kernel
theorem d_Ln_fallDue_3 : decode M_Ln_fallDue.2.1 3 = .ok (.aload_n 0, 1) := by decide +kernel
theorem d_Ln_fallDue_4 : decode M_Ln_fallDue.2.1 4 = .ok (.getfield 15, 3) := by decide +kernel
theorem d_Ln_fallDue_7 : decode M_Ln_fallDue.2.1 7 = .ok (.if_icmp .ge 43, 3) := by decide +kernel
theorem d_Ln_fallDue_10 : decode M_Ln_fallDue.2.1 10 = .ok (.aload_n 0, 1) := by decide +kernel
theorem d_Ln_fallDue_11 : decode M_Ln_fallDue.2.1 11 = .ok (.iload_n 2, 1) := by decide +kernel
theorem d_Ln_fallDue_12 : decode M_Ln_fallDue.2.1 12 = .ok (.iconst 2, 1) := by decide +kernel
theorem d_Ln_fallDue_13 : decode M_Ln_fallDue.2.1 13 = .ok (.invokevirtual 23, 3) := by decide +kernel
theorem d_Ln_fallDue_16 : decode M_Ln_fallDue.2.1 16 = .ok (.ifCond .eq 28, 3) := by decide +kernel
theorem d_Ln_fallDue_19 : decode M_Ln_fallDue.2.1 19 = .ok (.aload_n 0, 1) := by decide +kernel
theorem d_Ln_fallDue_20 : decode M_Ln_fallDue.2.1 20 = .ok (.iload_n 2, 1) := by decide +kernel
theorem d_Ln_fallDue_21 : decode M_Ln_fallDue.2.1 21 = .ok (.iconst 3, 1) := by decide +kernel
theorem d_Ln_fallDue_22 : decode M_Ln_fallDue.2.1 22 = .ok (.invokevirtual 23, 3) := by decide +kernel
theorem d_Ln_fallDue_25 : decode M_Ln_fallDue.2.1 25 = .ok (.aload_n 1, 1) := by decide +kernel
theorem d_Ln_fallDue_26 : decode M_Ln_fallDue.2.1 26 = .ok (.getfield 27, 3) := by decide +kernel
theorem d_Ln_fallDue_29 : decode M_Ln_fallDue.2.1 29 = .ok (.if_icmp .ne 15, 3) := by decide +kernel
theorem d_Ln_fallDue_32 : decode M_Ln_fallDue.2.1 32 = .ok (.aload_n 0, 1) := by decide +kernel
theorem d_Ln_fallDue_33 : decode M_Ln_fallDue.2.1 33 = .ok (.aload_n 1, 1) := by decide +kernel
theorem d_Ln_fallDue_34 : decode M_Ln_fallDue.2.1 34 = .ok (.iload_n 2, 1) := by decide +kernel
theorem d_Ln_fallDue_35 : decode M_Ln_fallDue.2.1 35 = .ok (.aload_n 0, 1) := by decide +kernel
theorem d_Ln_fallDue_36 : decode M_Ln_fallDue.2.1 36 = .ok (.iload_n 2, 1) := by decide +kernel
theorem d_Ln_fallDue_37 : decode M_Ln_fallDue.2.1 37 = .ok (.iconst 1, 1) := by decide +kernel
theorem d_Ln_fallDue_38 : decode M_Ln_fallDue.2.1 38 = .ok (.invokevirtual 23, 3) := by decide +kernel
theorem d_Ln_fallDue_41 : decode M_Ln_fallDue.2.1 41 = .ok (.invokevirtual 32, 3) := by decide +kernel
theorem d_Ln_fallDue_44 : decode M_Ln_fallDue.2.1 44 = .ok (.iinc 2 1, 3) := by decide +kernel
theorem d_Ln_fallDue_47 : decode M_Ln_fallDue.2.1 47 = .ok (.goto (-45), 3) := by decide +kernel
theorem d_Ln_fallDue_50 : decode M_Ln_fallDue.2.1 50 = .ok (.aload_n 0, 1) := by decide +kernel
theorem d_Ln_fallDue_51 : decode M_Ln_fallDue.2.1 51 = .ok (.invokevirtual 36, 3) := by decide +kernel
theorem d_Ln_fallDue_54 : decode M_Ln_fallDue.2.1 54 = .ok (.return_, 1) := by decide +kernel
def M_Ln_get : mj_M := (⟨"MarketTown$Loans", "get", "(II)I"⟩, prog_3_method_2_code, 3, some .int, 0, 0)
theorem d_Ln_get_0 : decode M_Ln_get.2.1 0 = .ok (.aload_n 0, 1) := by decide +kernel
theorem d_Ln_get_1 : decode M_Ln_get.2.1 1 = .ok (.getfield 11, 3) := by decide +kernel
theorem d_Ln_get_4 : decode M_Ln_get.2.1 4 = .ok (.iload_n 1, 1) := by decide +kernel
theorem d_Ln_get_5 : decode M_Ln_get.2.1 5 = .ok (.iconst 4, 1) := by decide +kernel
theorem d_Ln_get_6 : decode M_Ln_get.2.1 6 = .ok (.imul, 1) := by decide +kernel
theorem d_Ln_get_7 : decode M_Ln_get.2.1 7 = .ok (.iload_n 2, 1) := by decide +kernel
theorem d_Ln_get_8 : decode M_Ln_get.2.1 8 = .ok (.iadd, 1) := by decide +kernel
theorem d_Ln_get_9 : decode M_Ln_get.2.1 9 = .ok (.iaload, 1) := by decide +kernel
theorem d_Ln_get_10 : decode M_Ln_get.2.1 10 = .ok (.ireturn, 1) := by decide +kernel
def M_Ln_settle : mj_M := (⟨"MarketTown$Loans", "settle", "(LMarketTown$Town;II)V"⟩, prog_3_method_7_code, 4, none, 3, 74)
theorem d_Ln_settle_0 : decode M_Ln_settle.2.1 0 = .ok (.aload_n 1, 1) := by decide +kernel
theorem d_Ln_settle_1 : decode M_Ln_settle.2.1 1 = .ok (.getfield 39, 3) := by decide +kernel
theorem d_Ln_settle_4 : decode M_Ln_settle.2.1 4 = .ok (.iload_n 3, 1) := by decide +kernel
theorem d_Ln_settle_5 : decode M_Ln_settle.2.1 5 = .ok (.iaload, 1) := by decide +kernel
theorem d_Ln_settle_6 : decode M_Ln_settle.2.1 6 = .ok (.aload_n 0, 1) := by decide +kernel
theorem d_Ln_settle_7 : decode M_Ln_settle.2.1 7 = .ok (.iload_n 2, 1) := by decide +kernel
theorem d_Ln_settle_8 : decode M_Ln_settle.2.1 8 = .ok (.iconst 2, 1) := by decide +kernel
theorem d_Ln_settle_9 : decode M_Ln_settle.2.1 9 = .ok (.invokevirtual 23, 3) := by decide +kernel
theorem d_Ln_settle_12 : decode M_Ln_settle.2.1 12 = .ok (.if_icmp .lt 29, 3) := by decide +kernel
theorem d_Ln_settle_15 : decode M_Ln_settle.2.1 15 = .ok (.aload_n 1, 1) := by decide +kernel
theorem d_Ln_settle_16 : decode M_Ln_settle.2.1 16 = .ok (.iload_n 3, 1) := by decide +kernel
theorem d_Ln_settle_17 : decode M_Ln_settle.2.1 17 = .ok (.aload_n 0, 1) := by decide +kernel
theorem d_Ln_settle_18 : decode M_Ln_settle.2.1 18 = .ok (.iload_n 2, 1) := by decide +kernel
theorem d_Ln_settle_19 : decode M_Ln_settle.2.1 19 = .ok (.iconst 0, 1) := by decide +kernel
theorem d_Ln_settle_20 : decode M_Ln_settle.2.1 20 = .ok (.invokevirtual 23, 3) := by decide +kernel
theorem d_Ln_settle_23 : decode M_Ln_settle.2.1 23 = .ok (.iconst 4, 1) := by decide +kernel
theorem d_Ln_settle_24 : decode M_Ln_settle.2.1 24 = .ok (.aload_n 0, 1) := by decide +kernel
theorem d_Ln_settle_25 : decode M_Ln_settle.2.1 25 = .ok (.iload_n 2, 1) := by decide +kernel
theorem d_Ln_settle_26 : decode M_Ln_settle.2.1 26 = .ok (.iconst 2, 1) := by decide +kernel
theorem d_Ln_settle_27 : decode M_Ln_settle.2.1 27 = .ok (.invokevirtual 23, 3) := by decide +kernel
theorem d_Ln_settle_30 : decode M_Ln_settle.2.1 30 = .ok (.invokevirtual 42, 3) := by decide +kernel
theorem d_Ln_settle_33 : decode M_Ln_settle.2.1 33 = .ok (.aload_n 0, 1) := by decide +kernel
theorem d_Ln_settle_34 : decode M_Ln_settle.2.1 34 = .ok (.iload_n 2, 1) := by decide +kernel
theorem d_Ln_settle_35 : decode M_Ln_settle.2.1 35 = .ok (.invokevirtual 46, 3) := by decide +kernel
theorem d_Ln_settle_38 : decode M_Ln_settle.2.1 38 = .ok (.goto 36, 3) := by decide +kernel
theorem d_Ln_settle_41 : decode M_Ln_settle.2.1 41 = .ok (.aload_n 1, 1) := by decide +kernel
theorem d_Ln_settle_42 : decode M_Ln_settle.2.1 42 = .ok (.getfield 50, 3) := by decide +kernel
theorem d_Ln_settle_45 : decode M_Ln_settle.2.1 45 = .ok (.iload_n 3, 1) := by decide +kernel
theorem d_Ln_settle_46 : decode M_Ln_settle.2.1 46 = .ok (.iconst 1, 1) := by decide +kernel
theorem d_Ln_settle_47 : decode M_Ln_settle.2.1 47 = .ok (.iastore, 1) := by decide +kernel
theorem d_Ln_settle_48 : decode M_Ln_settle.2.1 48 = .ok (.aload_n 0, 1) := by decide +kernel
theorem d_Ln_settle_49 : decode M_Ln_settle.2.1 49 = .ok (.aload_n 1, 1) := by decide +kernel
theorem d_Ln_settle_50 : decode M_Ln_settle.2.1 50 = .ok (.iload_n 3, 1) := by decide +kernel
theorem d_Ln_settle_51 : decode M_Ln_settle.2.1 51 = .ok (.aload_n 1, 1) := by decide +kernel
theorem d_Ln_settle_52 : decode M_Ln_settle.2.1 52 = .ok (.getfield 39, 3) := by decide +kernel
theorem d_Ln_settle_55 : decode M_Ln_settle.2.1 55 = .ok (.iload_n 3, 1) := by decide +kernel
theorem d_Ln_settle_56 : decode M_Ln_settle.2.1 56 = .ok (.iaload, 1) := by decide +kernel
theorem d_Ln_settle_57 : decode M_Ln_settle.2.1 57 = .ok (.i2l, 1) := by decide +kernel
theorem d_Ln_settle_58 : decode M_Ln_settle.2.1 58 = .ok (.aload_n 0, 1) := by decide +kernel
theorem d_Ln_settle_59 : decode M_Ln_settle.2.1 59 = .ok (.iconst 1, 1) := by decide +kernel
theorem d_Ln_settle_60 : decode M_Ln_settle.2.1 60 = .ok (.iload_n 3, 1) := by decide +kernel
theorem d_Ln_settle_61 : decode M_Ln_settle.2.1 61 = .ok (.invokevirtual 53, 3) := by decide +kernel
theorem d_Ln_settle_64 : decode M_Ln_settle.2.1 64 = .ok (.i2l, 1) := by decide +kernel
theorem d_Ln_settle_65 : decode M_Ln_settle.2.1 65 = .ok (.invokevirtual 56, 3) := by decide +kernel
theorem d_Ln_settle_68 : decode M_Ln_settle.2.1 68 = .ok (.aload_n 0, 1) := by decide +kernel
theorem d_Ln_settle_69 : decode M_Ln_settle.2.1 69 = .ok (.aload_n 1, 1) := by decide +kernel
theorem d_Ln_settle_70 : decode M_Ln_settle.2.1 70 = .ok (.iload_n 3, 1) := by decide +kernel
theorem d_Ln_settle_71 : decode M_Ln_settle.2.1 71 = .ok (.invokevirtual 60, 3) := by decide +kernel
theorem d_Ln_settle_74 : decode M_Ln_settle.2.1 74 = .ok (.return_, 1) := by decide +kernel
def M_Ln_owedWhere : mj_M := (⟨"MarketTown$Loans", "owedWhere", "(II)I"⟩, prog_3_method_5_code, 5, some .int, 1, 22)
theorem d_Ln_owedWhere_0 : decode M_Ln_owedWhere.2.1 0 = .ok (.iconst 0, 1) := by decide +kernel
theorem d_Ln_owedWhere_1 : decode M_Ln_owedWhere.2.1 1 = .ok (.istore_n 3, 1) := by decide +kernel
theorem d_Ln_owedWhere_2 : decode M_Ln_owedWhere.2.1 2 = .ok (.iconst 0, 1) := by decide +kernel
theorem d_Ln_owedWhere_3 : decode M_Ln_owedWhere.2.1 3 = .ok (.istore 4, 2) := by decide +kernel
theorem d_Ln_owedWhere_5 : decode M_Ln_owedWhere.2.1 5 = .ok (.iload 4, 2) := by decide +kernel
theorem d_Ln_owedWhere_7 : decode M_Ln_owedWhere.2.1 7 = .ok (.aload_n 0, 1) := by decide +kernel
theorem d_Ln_owedWhere_8 : decode M_Ln_owedWhere.2.1 8 = .ok (.getfield 15, 3) := by decide +kernel
theorem d_Ln_owedWhere_11 : decode M_Ln_owedWhere.2.1 11 = .ok (.if_icmp .ge 30, 3) := by decide +kernel
theorem d_Ln_owedWhere_14 : decode M_Ln_owedWhere.2.1 14 = .ok (.aload_n 0, 1) := by decide +kernel
theorem d_Ln_owedWhere_15 : decode M_Ln_owedWhere.2.1 15 = .ok (.iload 4, 2) := by decide +kernel
theorem d_Ln_owedWhere_17 : decode M_Ln_owedWhere.2.1 17 = .ok (.iload_n 1, 1) := by decide +kernel
theorem d_Ln_owedWhere_18 : decode M_Ln_owedWhere.2.1 18 = .ok (.invokevirtual 23, 3) := by decide +kernel
theorem d_Ln_owedWhere_21 : decode M_Ln_owedWhere.2.1 21 = .ok (.iload_n 2, 1) := by decide +kernel
theorem d_Ln_owedWhere_22 : decode M_Ln_owedWhere.2.1 22 = .ok (.if_icmp .ne 13, 3) := by decide +kernel
theorem d_Ln_owedWhere_25 : decode M_Ln_owedWhere.2.1 25 = .ok (.iload_n 3, 1) := by decide +kernel
theorem d_Ln_owedWhere_26 : decode M_Ln_owedWhere.2.1 26 = .ok (.aload_n 0, 1) := by decide +kernel
theorem d_Ln_owedWhere_27 : decode M_Ln_owedWhere.2.1 27 = .ok (.iload 4, 2) := by decide +kernel
theorem d_Ln_owedWhere_29 : decode M_Ln_owedWhere.2.1 29 = .ok (.iconst 2, 1) := by decide +kernel
theorem d_Ln_owedWhere_30 : decode M_Ln_owedWhere.2.1 30 = .ok (.invokevirtual 23, 3) := by decide +kernel
theorem d_Ln_owedWhere_33 : decode M_Ln_owedWhere.2.1 33 = .ok (.iadd, 1) := by decide +kernel
theorem d_Ln_owedWhere_34 : decode M_Ln_owedWhere.2.1 34 = .ok (.istore_n 3, 1) := by decide +kernel
theorem d_Ln_owedWhere_35 : decode M_Ln_owedWhere.2.1 35 = .ok (.iinc 4 1, 3) := by decide +kernel
theorem d_Ln_owedWhere_38 : decode M_Ln_owedWhere.2.1 38 = .ok (.goto (-33), 3) := by decide +kernel
theorem d_Ln_owedWhere_41 : decode M_Ln_owedWhere.2.1 41 = .ok (.iload_n 3, 1) := by decide +kernel
theorem d_Ln_owedWhere_42 : decode M_Ln_owedWhere.2.1 42 = .ok (.ireturn, 1) := by decide +kernel
def M_Ln_shareOut : mj_M := (⟨"MarketTown$Loans", "shareOut", "(LMarketTown$Town;IJJ)V"⟩, prog_3_method_9_code, 9, none, 2, 46)
theorem d_Ln_shareOut_0 : decode M_Ln_shareOut.2.1 0 = .ok (.iconst 0, 1) := by decide +kernel
theorem d_Ln_shareOut_1 : decode M_Ln_shareOut.2.1 1 = .ok (.istore 7, 2) := by decide +kernel
theorem d_Ln_shareOut_3 : decode M_Ln_shareOut.2.1 3 = .ok (.iload 7, 2) := by decide +kernel
theorem d_Ln_shareOut_5 : decode M_Ln_shareOut.2.1 5 = .ok (.aload_n 0, 1) := by decide +kernel
theorem d_Ln_shareOut_6 : decode M_Ln_shareOut.2.1 6 = .ok (.getfield 15, 3) := by decide +kernel
theorem d_Ln_shareOut_9 : decode M_Ln_shareOut.2.1 9 = .ok (.if_icmp .ge 58, 3) := by decide +kernel
theorem d_Ln_shareOut_12 : decode M_Ln_shareOut.2.1 12 = .ok (.aload_n 0, 1) := by decide +kernel
theorem d_Ln_shareOut_13 : decode M_Ln_shareOut.2.1 13 = .ok (.iload 7, 2) := by decide +kernel
theorem d_Ln_shareOut_15 : decode M_Ln_shareOut.2.1 15 = .ok (.iconst 1, 1) := by decide +kernel
theorem d_Ln_shareOut_16 : decode M_Ln_shareOut.2.1 16 = .ok (.invokevirtual 23, 3) := by decide +kernel
theorem d_Ln_shareOut_19 : decode M_Ln_shareOut.2.1 19 = .ok (.iload_n 2, 1) := by decide +kernel
theorem d_Ln_shareOut_20 : decode M_Ln_shareOut.2.1 20 = .ok (.if_icmp .ne 41, 3) := by decide +kernel
theorem d_Ln_shareOut_23 : decode M_Ln_shareOut.2.1 23 = .ok (.lload 5, 2) := by decide +kernel
theorem d_Ln_shareOut_25 : decode M_Ln_shareOut.2.1 25 = .ok (.lconst 0, 1) := by decide +kernel
theorem d_Ln_shareOut_26 : decode M_Ln_shareOut.2.1 26 = .ok (.lcmp, 1) := by decide +kernel
theorem d_Ln_shareOut_27 : decode M_Ln_shareOut.2.1 27 = .ok (.ifCond .le 34, 3) := by decide +kernel
theorem d_Ln_shareOut_30 : decode M_Ln_shareOut.2.1 30 = .ok (.lload_n 3, 1) := by decide +kernel
theorem d_Ln_shareOut_31 : decode M_Ln_shareOut.2.1 31 = .ok (.aload_n 0, 1) := by decide +kernel
theorem d_Ln_shareOut_32 : decode M_Ln_shareOut.2.1 32 = .ok (.iload 7, 2) := by decide +kernel
theorem d_Ln_shareOut_34 : decode M_Ln_shareOut.2.1 34 = .ok (.iconst 2, 1) := by decide +kernel
theorem d_Ln_shareOut_35 : decode M_Ln_shareOut.2.1 35 = .ok (.invokevirtual 23, 3) := by decide +kernel
theorem d_Ln_shareOut_38 : decode M_Ln_shareOut.2.1 38 = .ok (.i2l, 1) := by decide +kernel
theorem d_Ln_shareOut_39 : decode M_Ln_shareOut.2.1 39 = .ok (.lmul, 1) := by decide +kernel
theorem d_Ln_shareOut_40 : decode M_Ln_shareOut.2.1 40 = .ok (.lload 5, 2) := by decide +kernel
theorem d_Ln_shareOut_42 : decode M_Ln_shareOut.2.1 42 = .ok (.ldiv, 1) := by decide +kernel
theorem d_Ln_shareOut_43 : decode M_Ln_shareOut.2.1 43 = .ok (.l2i, 1) := by decide +kernel
theorem d_Ln_shareOut_44 : decode M_Ln_shareOut.2.1 44 = .ok (.istore 8, 2) := by decide +kernel
theorem d_Ln_shareOut_46 : decode M_Ln_shareOut.2.1 46 = .ok (.aload_n 1, 1) := by decide +kernel
theorem d_Ln_shareOut_47 : decode M_Ln_shareOut.2.1 47 = .ok (.iload_n 2, 1) := by decide +kernel
theorem d_Ln_shareOut_48 : decode M_Ln_shareOut.2.1 48 = .ok (.aload_n 0, 1) := by decide +kernel
theorem d_Ln_shareOut_49 : decode M_Ln_shareOut.2.1 49 = .ok (.iload 7, 2) := by decide +kernel
theorem d_Ln_shareOut_51 : decode M_Ln_shareOut.2.1 51 = .ok (.iconst 0, 1) := by decide +kernel
theorem d_Ln_shareOut_52 : decode M_Ln_shareOut.2.1 52 = .ok (.invokevirtual 23, 3) := by decide +kernel
theorem d_Ln_shareOut_55 : decode M_Ln_shareOut.2.1 55 = .ok (.iconst 4, 1) := by decide +kernel
theorem d_Ln_shareOut_56 : decode M_Ln_shareOut.2.1 56 = .ok (.iload 8, 2) := by decide +kernel
theorem d_Ln_shareOut_58 : decode M_Ln_shareOut.2.1 58 = .ok (.invokevirtual 42, 3) := by decide +kernel
theorem d_Ln_shareOut_61 : decode M_Ln_shareOut.2.1 61 = .ok (.iinc 7 1, 3) := by decide +kernel
theorem d_Ln_shareOut_64 : decode M_Ln_shareOut.2.1 64 = .ok (.goto (-61), 3) := by decide +kernel
theorem d_Ln_shareOut_67 : decode M_Ln_shareOut.2.1 67 = .ok (.return_, 1) := by decide +kernel
def M_Ln_handOutRest : mj_M := (⟨"MarketTown$Loans", "handOutRest", "(LMarketTown$Town;I)V"⟩, prog_3_method_10_code, 4, none, 2, 46)
theorem d_Ln_handOutRest_0 : decode M_Ln_handOutRest.2.1 0 = .ok (.iconst 0, 1) := by decide +kernel
theorem d_Ln_handOutRest_1 : decode M_Ln_handOutRest.2.1 1 = .ok (.istore_n 3, 1) := by decide +kernel
theorem d_Ln_handOutRest_2 : decode M_Ln_handOutRest.2.1 2 = .ok (.iload_n 3, 1) := by decide +kernel
theorem d_Ln_handOutRest_3 : decode M_Ln_handOutRest.2.1 3 = .ok (.aload_n 0, 1) := by decide +kernel
theorem d_Ln_handOutRest_4 : decode M_Ln_handOutRest.2.1 4 = .ok (.getfield 15, 3) := by decide +kernel
theorem d_Ln_handOutRest_7 : decode M_Ln_handOutRest.2.1 7 = .ok (.if_icmp .ge 55, 3) := by decide +kernel
theorem d_Ln_handOutRest_10 : decode M_Ln_handOutRest.2.1 10 = .ok (.aload_n 0, 1) := by decide +kernel
theorem d_Ln_handOutRest_11 : decode M_Ln_handOutRest.2.1 11 = .ok (.iload_n 3, 1) := by decide +kernel
theorem d_Ln_handOutRest_12 : decode M_Ln_handOutRest.2.1 12 = .ok (.iconst 1, 1) := by decide +kernel
theorem d_Ln_handOutRest_13 : decode M_Ln_handOutRest.2.1 13 = .ok (.invokevirtual 23, 3) := by decide +kernel
theorem d_Ln_handOutRest_16 : decode M_Ln_handOutRest.2.1 16 = .ok (.iload_n 2, 1) := by decide +kernel
theorem d_Ln_handOutRest_17 : decode M_Ln_handOutRest.2.1 17 = .ok (.if_icmp .ne 39, 3) := by decide +kernel
theorem d_Ln_handOutRest_20 : decode M_Ln_handOutRest.2.1 20 = .ok (.aload_n 0, 1) := by decide +kernel
theorem d_Ln_handOutRest_21 : decode M_Ln_handOutRest.2.1 21 = .ok (.iload_n 3, 1) := by decide +kernel
theorem d_Ln_handOutRest_22 : decode M_Ln_handOutRest.2.1 22 = .ok (.iconst 2, 1) := by decide +kernel
theorem d_Ln_handOutRest_23 : decode M_Ln_handOutRest.2.1 23 = .ok (.invokevirtual 23, 3) := by decide +kernel
theorem d_Ln_handOutRest_26 : decode M_Ln_handOutRest.2.1 26 = .ok (.ifCond .eq 30, 3) := by decide +kernel
theorem d_Ln_handOutRest_29 : decode M_Ln_handOutRest.2.1 29 = .ok (.aload_n 1, 1) := by decide +kernel
theorem d_Ln_handOutRest_30 : decode M_Ln_handOutRest.2.1 30 = .ok (.iload_n 2, 1) := by decide +kernel
theorem d_Ln_handOutRest_31 : decode M_Ln_handOutRest.2.1 31 = .ok (.aload_n 0, 1) := by decide +kernel
theorem d_Ln_handOutRest_32 : decode M_Ln_handOutRest.2.1 32 = .ok (.iload_n 3, 1) := by decide +kernel
theorem d_Ln_handOutRest_33 : decode M_Ln_handOutRest.2.1 33 = .ok (.iconst 0, 1) := by decide +kernel
theorem d_Ln_handOutRest_34 : decode M_Ln_handOutRest.2.1 34 = .ok (.invokevirtual 23, 3) := by decide +kernel
theorem d_Ln_handOutRest_37 : decode M_Ln_handOutRest.2.1 37 = .ok (.iconst 4, 1) := by decide +kernel
theorem d_Ln_handOutRest_38 : decode M_Ln_handOutRest.2.1 38 = .ok (.iconst 1, 1) := by decide +kernel
theorem d_Ln_handOutRest_39 : decode M_Ln_handOutRest.2.1 39 = .ok (.aload_n 1, 1) := by decide +kernel
theorem d_Ln_handOutRest_40 : decode M_Ln_handOutRest.2.1 40 = .ok (.getfield 39, 3) := by decide +kernel
theorem d_Ln_handOutRest_43 : decode M_Ln_handOutRest.2.1 43 = .ok (.iload_n 2, 1) := by decide +kernel
theorem d_Ln_handOutRest_44 : decode M_Ln_handOutRest.2.1 44 = .ok (.iaload, 1) := by decide +kernel
theorem d_Ln_handOutRest_45 : decode M_Ln_handOutRest.2.1 45 = .ok (.invokestatic 64, 3) := by decide +kernel
theorem d_Ln_handOutRest_48 : decode M_Ln_handOutRest.2.1 48 = .ok (.invokevirtual 42, 3) := by decide +kernel
theorem d_Ln_handOutRest_51 : decode M_Ln_handOutRest.2.1 51 = .ok (.aload_n 0, 1) := by decide +kernel
theorem d_Ln_handOutRest_52 : decode M_Ln_handOutRest.2.1 52 = .ok (.iload_n 3, 1) := by decide +kernel
theorem d_Ln_handOutRest_53 : decode M_Ln_handOutRest.2.1 53 = .ok (.invokevirtual 46, 3) := by decide +kernel
theorem d_Ln_handOutRest_56 : decode M_Ln_handOutRest.2.1 56 = .ok (.iinc 3 1, 3) := by decide +kernel
theorem d_Ln_handOutRest_59 : decode M_Ln_handOutRest.2.1 59 = .ok (.goto (-57), 3) := by decide +kernel
theorem d_Ln_handOutRest_62 : decode M_Ln_handOutRest.2.1 62 = .ok (.return_, 1) := by decide +kernel
def M_Ln_close : mj_M := (⟨"MarketTown$Loans", "close", "(I)V"⟩, prog_3_method_8_code, 2, none, 0, 0)
theorem d_Ln_close_0 : decode M_Ln_close.2.1 0 = .ok (.aload_n 0, 1) := by decide +kernel
theorem d_Ln_close_1 : decode M_Ln_close.2.1 1 = .ok (.getfield 11, 3) := by decide +kernel
theorem d_Ln_close_4 : decode M_Ln_close.2.1 4 = .ok (.iload_n 1, 1) := by decide +kernel
theorem d_Ln_close_5 : decode M_Ln_close.2.1 5 = .ok (.iconst 4, 1) := by decide +kernel
theorem d_Ln_close_6 : decode M_Ln_close.2.1 6 = .ok (.imul, 1) := by decide +kernel
theorem d_Ln_close_7 : decode M_Ln_close.2.1 7 = .ok (.iconst 2, 1) := by decide +kernel
theorem d_Ln_close_8 : decode M_Ln_close.2.1 8 = .ok (.iadd, 1) := by decide +kernel
theorem d_Ln_close_9 : decode M_Ln_close.2.1 9 = .ok (.iconst 0, 1) := by decide +kernel
theorem d_Ln_close_10 : decode M_Ln_close.2.1 10 = .ok (.iastore, 1) := by decide +kernel
theorem d_Ln_close_11 : decode M_Ln_close.2.1 11 = .ok (.return_, 1) := by decide +kernel
def M_Ln_forgetClosed : mj_M := (⟨"MarketTown$Loans", "forgetClosed", "()V"⟩, prog_3_method_11_code, 3, none, 1, 64)
theorem d_Ln_forgetClosed_0 : decode M_Ln_forgetClosed.2.1 0 = .ok (.iconst 0, 1) := by decide +kernel
theorem d_Ln_forgetClosed_1 : decode M_Ln_forgetClosed.2.1 1 = .ok (.istore_n 1, 1) := by decide +kernel
theorem d_Ln_forgetClosed_2 : decode M_Ln_forgetClosed.2.1 2 = .ok (.iconst 0, 1) := by decide +kernel
theorem d_Ln_forgetClosed_3 : decode M_Ln_forgetClosed.2.1 3 = .ok (.istore_n 2, 1) := by decide +kernel
theorem d_Ln_forgetClosed_4 : decode M_Ln_forgetClosed.2.1 4 = .ok (.iload_n 2, 1) := by decide +kernel
theorem d_Ln_forgetClosed_5 : decode M_Ln_forgetClosed.2.1 5 = .ok (.aload_n 0, 1) := by decide +kernel
theorem d_Ln_forgetClosed_6 : decode M_Ln_forgetClosed.2.1 6 = .ok (.getfield 15, 3) := by decide +kernel
theorem d_Ln_forgetClosed_9 : decode M_Ln_forgetClosed.2.1 9 = .ok (.if_icmp .ge 39, 3) := by decide +kernel
theorem d_Ln_forgetClosed_12 : decode M_Ln_forgetClosed.2.1 12 = .ok (.aload_n 0, 1) := by decide +kernel
theorem d_Ln_forgetClosed_13 : decode M_Ln_forgetClosed.2.1 13 = .ok (.iload_n 2, 1) := by decide +kernel
theorem d_Ln_forgetClosed_14 : decode M_Ln_forgetClosed.2.1 14 = .ok (.iconst 2, 1) := by decide +kernel
theorem d_Ln_forgetClosed_15 : decode M_Ln_forgetClosed.2.1 15 = .ok (.invokevirtual 23, 3) := by decide +kernel
theorem d_Ln_forgetClosed_18 : decode M_Ln_forgetClosed.2.1 18 = .ok (.ifCond .eq 24, 3) := by decide +kernel
theorem d_Ln_forgetClosed_21 : decode M_Ln_forgetClosed.2.1 21 = .ok (.aload_n 0, 1) := by decide +kernel
theorem d_Ln_forgetClosed_22 : decode M_Ln_forgetClosed.2.1 22 = .ok (.getfield 11, 3) := by decide +kernel
theorem d_Ln_forgetClosed_25 : decode M_Ln_forgetClosed.2.1 25 = .ok (.iload_n 2, 1) := by decide +kernel
theorem d_Ln_forgetClosed_26 : decode M_Ln_forgetClosed.2.1 26 = .ok (.iconst 4, 1) := by decide +kernel
theorem d_Ln_forgetClosed_27 : decode M_Ln_forgetClosed.2.1 27 = .ok (.imul, 1) := by decide +kernel
theorem d_Ln_forgetClosed_28 : decode M_Ln_forgetClosed.2.1 28 = .ok (.aload_n 0, 1) := by decide +kernel
theorem d_Ln_forgetClosed_29 : decode M_Ln_forgetClosed.2.1 29 = .ok (.getfield 11, 3) := by decide +kernel
theorem d_Ln_forgetClosed_32 : decode M_Ln_forgetClosed.2.1 32 = .ok (.iload_n 1, 1) := by decide +kernel
theorem d_Ln_forgetClosed_33 : decode M_Ln_forgetClosed.2.1 33 = .ok (.iconst 4, 1) := by decide +kernel
theorem d_Ln_forgetClosed_34 : decode M_Ln_forgetClosed.2.1 34 = .ok (.imul, 1) := by decide +kernel
theorem d_Ln_forgetClosed_35 : decode M_Ln_forgetClosed.2.1 35 = .ok (.iconst 4, 1) := by decide +kernel
theorem d_Ln_forgetClosed_36 : decode M_Ln_forgetClosed.2.1 36 = .ok (.invokestatic 69, 3) := by decide +kernel
theorem d_Ln_forgetClosed_39 : decode M_Ln_forgetClosed.2.1 39 = .ok (.iinc 1 1, 3) := by decide +kernel
theorem d_Ln_forgetClosed_42 : decode M_Ln_forgetClosed.2.1 42 = .ok (.iinc 2 1, 3) := by decide +kernel
theorem d_Ln_forgetClosed_45 : decode M_Ln_forgetClosed.2.1 45 = .ok (.goto (-41), 3) := by decide +kernel
theorem d_Ln_forgetClosed_48 : decode M_Ln_forgetClosed.2.1 48 = .ok (.aload_n 0, 1) := by decide +kernel
theorem d_Ln_forgetClosed_49 : decode M_Ln_forgetClosed.2.1 49 = .ok (.iload_n 1, 1) := by decide +kernel
theorem d_Ln_forgetClosed_50 : decode M_Ln_forgetClosed.2.1 50 = .ok (.putfield 15, 3) := by decide +kernel
theorem d_Ln_forgetClosed_53 : decode M_Ln_forgetClosed.2.1 53 = .ok (.return_, 1) := by decide +kernel
def M_Sk_grow : mj_M := (⟨"MarketTown$Stock", "grow", "(II)I"⟩, prog_8_method_8_code, 7, some .int, 1, 24)
theorem d_Sk_grow_0 : decode M_Sk_grow.2.1 0 = .ok (.iconst 0, 1) := by decide +kernel
theorem d_Sk_grow_1 : decode M_Sk_grow.2.1 1 = .ok (.istore_n 3, 1) := by decide +kernel
theorem d_Sk_grow_2 : decode M_Sk_grow.2.1 2 = .ok (.iconst 0, 1) := by decide +kernel
theorem d_Sk_grow_3 : decode M_Sk_grow.2.1 3 = .ok (.istore 4, 2) := by decide +kernel
theorem d_Sk_grow_5 : decode M_Sk_grow.2.1 5 = .ok (.iload 4, 2) := by decide +kernel
theorem d_Sk_grow_7 : decode M_Sk_grow.2.1 7 = .ok (.bipush 12, 2) := by decide +kernel
theorem d_Sk_grow_9 : decode M_Sk_grow.2.1 9 = .ok (.if_icmp .ge 73, 3) := by decide +kernel
theorem d_Sk_grow_12 : decode M_Sk_grow.2.1 12 = .ok (.iload 4, 2) := by decide +kernel
theorem d_Sk_grow_14 : decode M_Sk_grow.2.1 14 = .ok (.iconst 5, 1) := by decide +kernel
theorem d_Sk_grow_15 : decode M_Sk_grow.2.1 15 = .ok (.imul, 1) := by decide +kernel
theorem d_Sk_grow_16 : decode M_Sk_grow.2.1 16 = .ok (.iload_n 1, 1) := by decide +kernel
theorem d_Sk_grow_17 : decode M_Sk_grow.2.1 17 = .ok (.iadd, 1) := by decide +kernel
theorem d_Sk_grow_18 : decode M_Sk_grow.2.1 18 = .ok (.istore 5, 2) := by decide +kernel
theorem d_Sk_grow_20 : decode M_Sk_grow.2.1 20 = .ok (.aload_n 0, 1) := by decide +kernel
theorem d_Sk_grow_21 : decode M_Sk_grow.2.1 21 = .ok (.getfield 15, 3) := by decide +kernel
theorem d_Sk_grow_24 : decode M_Sk_grow.2.1 24 = .ok (.iload 5, 2) := by decide +kernel
theorem d_Sk_grow_26 : decode M_Sk_grow.2.1 26 = .ok (.iaload, 1) := by decide +kernel
theorem d_Sk_grow_27 : decode M_Sk_grow.2.1 27 = .ok (.ifCond .le 49, 3) := by decide +kernel
theorem d_Sk_grow_30 : decode M_Sk_grow.2.1 30 = .ok (.aload_n 0, 1) := by decide +kernel
theorem d_Sk_grow_31 : decode M_Sk_grow.2.1 31 = .ok (.iload 5, 2) := by decide +kernel
theorem d_Sk_grow_33 : decode M_Sk_grow.2.1 33 = .ok (.bipush 10, 2) := by decide +kernel
theorem d_Sk_grow_35 : decode M_Sk_grow.2.1 35 = .ok (.imul, 1) := by decide +kernel
theorem d_Sk_grow_36 : decode M_Sk_grow.2.1 36 = .ok (.invokevirtual 27, 3) := by decide +kernel
theorem d_Sk_grow_39 : decode M_Sk_grow.2.1 39 = .ok (.iload_n 2, 1) := by decide +kernel
theorem d_Sk_grow_40 : decode M_Sk_grow.2.1 40 = .ok (.ifCond .le 16, 3) := by decide +kernel
theorem d_Sk_grow_43 : decode M_Sk_grow.2.1 43 = .ok (.aload_n 0, 1) := by decide +kernel
theorem d_Sk_grow_44 : decode M_Sk_grow.2.1 44 = .ok (.iload 5, 2) := by decide +kernel
theorem d_Sk_grow_46 : decode M_Sk_grow.2.1 46 = .ok (.bipush 10, 2) := by decide +kernel
theorem d_Sk_grow_48 : decode M_Sk_grow.2.1 48 = .ok (.imul, 1) := by decide +kernel
theorem d_Sk_grow_49 : decode M_Sk_grow.2.1 49 = .ok (.iload_n 2, 1) := by decide +kernel
theorem d_Sk_grow_50 : decode M_Sk_grow.2.1 50 = .ok (.invokevirtual 31, 3) := by decide +kernel
theorem d_Sk_grow_53 : decode M_Sk_grow.2.1 53 = .ok (.goto 4, 3) := by decide +kernel
theorem d_Sk_grow_56 : decode M_Sk_grow.2.1 56 = .ok (.iconst 0, 1) := by decide +kernel
theorem d_Sk_grow_57 : decode M_Sk_grow.2.1 57 = .ok (.istore 6, 2) := by decide +kernel
theorem d_Sk_grow_59 : decode M_Sk_grow.2.1 59 = .ok (.aload_n 0, 1) := by decide +kernel
theorem d_Sk_grow_60 : decode M_Sk_grow.2.1 60 = .ok (.getfield 15, 3) := by decide +kernel
theorem d_Sk_grow_63 : decode M_Sk_grow.2.1 63 = .ok (.iload 5, 2) := by decide +kernel
theorem d_Sk_grow_65 : decode M_Sk_grow.2.1 65 = .ok (.dup2, 1) := by decide +kernel
theorem d_Sk_grow_66 : decode M_Sk_grow.2.1 66 = .ok (.iaload, 1) := by decide +kernel
theorem d_Sk_grow_67 : decode M_Sk_grow.2.1 67 = .ok (.iload 6, 2) := by decide +kernel
theorem d_Sk_grow_69 : decode M_Sk_grow.2.1 69 = .ok (.isub, 1) := by decide +kernel
theorem d_Sk_grow_70 : decode M_Sk_grow.2.1 70 = .ok (.iastore, 1) := by decide +kernel
theorem d_Sk_grow_71 : decode M_Sk_grow.2.1 71 = .ok (.iload_n 3, 1) := by decide +kernel
theorem d_Sk_grow_72 : decode M_Sk_grow.2.1 72 = .ok (.iload 6, 2) := by decide +kernel
theorem d_Sk_grow_74 : decode M_Sk_grow.2.1 74 = .ok (.iadd, 1) := by decide +kernel
theorem d_Sk_grow_75 : decode M_Sk_grow.2.1 75 = .ok (.istore_n 3, 1) := by decide +kernel
theorem d_Sk_grow_76 : decode M_Sk_grow.2.1 76 = .ok (.iinc 4 1, 3) := by decide +kernel
theorem d_Sk_grow_79 : decode M_Sk_grow.2.1 79 = .ok (.goto (-74), 3) := by decide +kernel
theorem d_Sk_grow_82 : decode M_Sk_grow.2.1 82 = .ok (.iload_n 3, 1) := by decide +kernel
theorem d_Sk_grow_83 : decode M_Sk_grow.2.1 83 = .ok (.ireturn, 1) := by decide +kernel
def M_Sk_shiftAges : mj_M := (⟨"MarketTown$Stock", "shiftAges", "(I)V"⟩, prog_8_method_9_code, 4, none, 0, 0)
theorem d_Sk_shiftAges_0 : decode M_Sk_shiftAges.2.1 0 = .ok (.iload_n 1, 1) := by decide +kernel
theorem d_Sk_shiftAges_1 : decode M_Sk_shiftAges.2.1 1 = .ok (.bipush 10, 2) := by decide +kernel
theorem d_Sk_shiftAges_3 : decode M_Sk_shiftAges.2.1 3 = .ok (.iadd, 1) := by decide +kernel
theorem d_Sk_shiftAges_4 : decode M_Sk_shiftAges.2.1 4 = .ok (.iconst 1, 1) := by decide +kernel
theorem d_Sk_shiftAges_5 : decode M_Sk_shiftAges.2.1 5 = .ok (.isub, 1) := by decide +kernel
theorem d_Sk_shiftAges_6 : decode M_Sk_shiftAges.2.1 6 = .ok (.istore_n 2, 1) := by decide +kernel
theorem d_Sk_shiftAges_7 : decode M_Sk_shiftAges.2.1 7 = .ok (.aload_n 0, 1) := by decide +kernel
theorem d_Sk_shiftAges_8 : decode M_Sk_shiftAges.2.1 8 = .ok (.getfield 9, 3) := by decide +kernel
theorem d_Sk_shiftAges_11 : decode M_Sk_shiftAges.2.1 11 = .ok (.iload_n 2, 1) := by decide +kernel
theorem d_Sk_shiftAges_12 : decode M_Sk_shiftAges.2.1 12 = .ok (.dup2, 1) := by decide +kernel
theorem d_Sk_shiftAges_13 : decode M_Sk_shiftAges.2.1 13 = .ok (.iaload, 1) := by decide +kernel
theorem d_Sk_shiftAges_14 : decode M_Sk_shiftAges.2.1 14 = .ok (.aload_n 0, 1) := by decide +kernel
theorem d_Sk_shiftAges_15 : decode M_Sk_shiftAges.2.1 15 = .ok (.getfield 9, 3) := by decide +kernel
theorem d_Sk_shiftAges_18 : decode M_Sk_shiftAges.2.1 18 = .ok (.iload_n 2, 1) := by decide +kernel
theorem d_Sk_shiftAges_19 : decode M_Sk_shiftAges.2.1 19 = .ok (.iconst 1, 1) := by decide +kernel
theorem d_Sk_shiftAges_20 : decode M_Sk_shiftAges.2.1 20 = .ok (.isub, 1) := by decide +kernel
theorem d_Sk_shiftAges_21 : decode M_Sk_shiftAges.2.1 21 = .ok (.iaload, 1) := by decide +kernel
theorem d_Sk_shiftAges_22 : decode M_Sk_shiftAges.2.1 22 = .ok (.iadd, 1) := by decide +kernel
theorem d_Sk_shiftAges_23 : decode M_Sk_shiftAges.2.1 23 = .ok (.iastore, 1) := by decide +kernel
theorem d_Sk_shiftAges_24 : decode M_Sk_shiftAges.2.1 24 = .ok (.iload_n 2, 1) := by decide +kernel
theorem d_Sk_shiftAges_25 : decode M_Sk_shiftAges.2.1 25 = .ok (.iconst 1, 1) := by decide +kernel
theorem d_Sk_shiftAges_26 : decode M_Sk_shiftAges.2.1 26 = .ok (.isub, 1) := by decide +kernel
theorem d_Sk_shiftAges_27 : decode M_Sk_shiftAges.2.1 27 = .ok (.istore_n 3, 1) := by decide +kernel
theorem d_Sk_shiftAges_28 : decode M_Sk_shiftAges.2.1 28 = .ok (.iload_n 3, 1) := by decide +kernel
theorem d_Sk_shiftAges_29 : decode M_Sk_shiftAges.2.1 29 = .ok (.iload_n 1, 1) := by decide +kernel
theorem d_Sk_shiftAges_30 : decode M_Sk_shiftAges.2.1 30 = .ok (.if_icmp .le 23, 3) := by decide +kernel
theorem d_Sk_shiftAges_33 : decode M_Sk_shiftAges.2.1 33 = .ok (.aload_n 0, 1) := by decide +kernel
theorem d_Sk_shiftAges_34 : decode M_Sk_shiftAges.2.1 34 = .ok (.getfield 9, 3) := by decide +kernel
theorem d_Sk_shiftAges_37 : decode M_Sk_shiftAges.2.1 37 = .ok (.iload_n 3, 1) := by decide +kernel
theorem d_Sk_shiftAges_38 : decode M_Sk_shiftAges.2.1 38 = .ok (.aload_n 0, 1) := by decide +kernel
theorem d_Sk_shiftAges_39 : decode M_Sk_shiftAges.2.1 39 = .ok (.getfield 9, 3) := by decide +kernel
theorem d_Sk_shiftAges_42 : decode M_Sk_shiftAges.2.1 42 = .ok (.iload_n 3, 1) := by decide +kernel
theorem d_Sk_shiftAges_43 : decode M_Sk_shiftAges.2.1 43 = .ok (.iconst 1, 1) := by decide +kernel
theorem d_Sk_shiftAges_44 : decode M_Sk_shiftAges.2.1 44 = .ok (.isub, 1) := by decide +kernel
theorem d_Sk_shiftAges_45 : decode M_Sk_shiftAges.2.1 45 = .ok (.iaload, 1) := by decide +kernel
theorem d_Sk_shiftAges_46 : decode M_Sk_shiftAges.2.1 46 = .ok (.iastore, 1) := by decide +kernel
theorem d_Sk_shiftAges_47 : decode M_Sk_shiftAges.2.1 47 = .ok (.iinc 3 (-1), 3) := by decide +kernel
theorem d_Sk_shiftAges_50 : decode M_Sk_shiftAges.2.1 50 = .ok (.goto (-22), 3) := by decide +kernel
theorem d_Sk_shiftAges_53 : decode M_Sk_shiftAges.2.1 53 = .ok (.aload_n 0, 1) := by decide +kernel
theorem d_Sk_shiftAges_54 : decode M_Sk_shiftAges.2.1 54 = .ok (.getfield 9, 3) := by decide +kernel
theorem d_Sk_shiftAges_57 : decode M_Sk_shiftAges.2.1 57 = .ok (.iload_n 1, 1) := by decide +kernel
theorem d_Sk_shiftAges_58 : decode M_Sk_shiftAges.2.1 58 = .ok (.iconst 0, 1) := by decide +kernel
theorem d_Sk_shiftAges_59 : decode M_Sk_shiftAges.2.1 59 = .ok (.iastore, 1) := by decide +kernel
theorem d_Sk_shiftAges_60 : decode M_Sk_shiftAges.2.1 60 = .ok (.return_, 1) := by decide +kernel
def M_Sk_takeFromAge : mj_M := (⟨"MarketTown$Stock", "takeFromAge", "(II)I"⟩, prog_8_method_10_code, 5, some .int, 0, 0)
theorem d_Sk_takeFromAge_0 : decode M_Sk_takeFromAge.2.1 0 = .ok (.iconst 0, 1) := by decide +kernel
theorem d_Sk_takeFromAge_1 : decode M_Sk_takeFromAge.2.1 1 = .ok (.istore_n 3, 1) := by decide +kernel
theorem d_Sk_takeFromAge_2 : decode M_Sk_takeFromAge.2.1 2 = .ok (.iload_n 2, 1) := by decide +kernel
theorem d_Sk_takeFromAge_3 : decode M_Sk_takeFromAge.2.1 3 = .ok (.istore 4, 2) := by decide +kernel
theorem d_Sk_takeFromAge_5 : decode M_Sk_takeFromAge.2.1 5 = .ok (.iload 4, 2) := by decide +kernel
theorem d_Sk_takeFromAge_7 : decode M_Sk_takeFromAge.2.1 7 = .ok (.bipush 10, 2) := by decide +kernel
theorem d_Sk_takeFromAge_9 : decode M_Sk_takeFromAge.2.1 9 = .ok (.if_icmp .ge 31, 3) := by decide +kernel
theorem d_Sk_takeFromAge_12 : decode M_Sk_takeFromAge.2.1 12 = .ok (.iload_n 3, 1) := by decide +kernel
theorem d_Sk_takeFromAge_13 : decode M_Sk_takeFromAge.2.1 13 = .ok (.aload_n 0, 1) := by decide +kernel
theorem d_Sk_takeFromAge_14 : decode M_Sk_takeFromAge.2.1 14 = .ok (.getfield 9, 3) := by decide +kernel
theorem d_Sk_takeFromAge_17 : decode M_Sk_takeFromAge.2.1 17 = .ok (.iload_n 1, 1) := by decide +kernel
theorem d_Sk_takeFromAge_18 : decode M_Sk_takeFromAge.2.1 18 = .ok (.iload 4, 2) := by decide +kernel
theorem d_Sk_takeFromAge_20 : decode M_Sk_takeFromAge.2.1 20 = .ok (.iadd, 1) := by decide +kernel
theorem d_Sk_takeFromAge_21 : decode M_Sk_takeFromAge.2.1 21 = .ok (.iaload, 1) := by decide +kernel
theorem d_Sk_takeFromAge_22 : decode M_Sk_takeFromAge.2.1 22 = .ok (.iadd, 1) := by decide +kernel
theorem d_Sk_takeFromAge_23 : decode M_Sk_takeFromAge.2.1 23 = .ok (.istore_n 3, 1) := by decide +kernel
theorem d_Sk_takeFromAge_24 : decode M_Sk_takeFromAge.2.1 24 = .ok (.aload_n 0, 1) := by decide +kernel
theorem d_Sk_takeFromAge_25 : decode M_Sk_takeFromAge.2.1 25 = .ok (.getfield 9, 3) := by decide +kernel
theorem d_Sk_takeFromAge_28 : decode M_Sk_takeFromAge.2.1 28 = .ok (.iload_n 1, 1) := by decide +kernel
theorem d_Sk_takeFromAge_29 : decode M_Sk_takeFromAge.2.1 29 = .ok (.iload 4, 2) := by decide +kernel
theorem d_Sk_takeFromAge_31 : decode M_Sk_takeFromAge.2.1 31 = .ok (.iadd, 1) := by decide +kernel
theorem d_Sk_takeFromAge_32 : decode M_Sk_takeFromAge.2.1 32 = .ok (.iconst 0, 1) := by decide +kernel
theorem d_Sk_takeFromAge_33 : decode M_Sk_takeFromAge.2.1 33 = .ok (.iastore, 1) := by decide +kernel
theorem d_Sk_takeFromAge_34 : decode M_Sk_takeFromAge.2.1 34 = .ok (.iinc 4 1, 3) := by decide +kernel
theorem d_Sk_takeFromAge_37 : decode M_Sk_takeFromAge.2.1 37 = .ok (.goto (-32), 3) := by decide +kernel
theorem d_Sk_takeFromAge_40 : decode M_Sk_takeFromAge.2.1 40 = .ok (.iload_n 3, 1) := by decide +kernel
theorem d_Sk_takeFromAge_41 : decode M_Sk_takeFromAge.2.1 41 = .ok (.ireturn, 1) := by decide +kernel
def M_Mk_about : mj_M := (⟨"MarketTown", "about", "(II)I"⟩, prog_1_method_14_code, 3, some .int, 2, 46)
theorem d_Mk_about_0 : decode M_Mk_about.2.1 0 = .ok (.aload_n 0, 1) := by decide +kernel
theorem d_Mk_about_1 : decode M_Mk_about.2.1 1 = .ok (.getfield 12, 3) := by decide +kernel
theorem d_Mk_about_4 : decode M_Mk_about.2.1 4 = .ok (.iload_n 1, 1) := by decide +kernel
theorem d_Mk_about_5 : decode M_Mk_about.2.1 5 = .ok (.invokevirtual 64, 3) := by decide +kernel
theorem d_Mk_about_8 : decode M_Mk_about.2.1 8 = .ok (.ifCond .ne 6, 3) := by decide +kernel
theorem d_Mk_about_11 : decode M_Mk_about.2.1 11 = .ok (.ldc 54, 2) := by decide +kernel
theorem d_Mk_about_13 : decode M_Mk_about.2.1 13 = .ok (.ireturn, 1) := by decide +kernel
theorem d_Mk_about_14 : decode M_Mk_about.2.1 14 = .ok (.iload_n 2, 1) := by decide +kernel
theorem d_Mk_about_15 : decode M_Mk_about.2.1 15 = .ok (.tableswitch 120 0 6 #[41, 51, 61, 71, 84, 97, 110], 41) := by decide +kernel
theorem d_Mk_about_56 : decode M_Mk_about.2.1 56 = .ok (.aload_n 0, 1) := by decide +kernel
theorem d_Mk_about_57 : decode M_Mk_about.2.1 57 = .ok (.getfield 12, 3) := by decide +kernel
theorem d_Mk_about_60 : decode M_Mk_about.2.1 60 = .ok (.getfield 146, 3) := by decide +kernel
theorem d_Mk_about_63 : decode M_Mk_about.2.1 63 = .ok (.iload_n 1, 1) := by decide +kernel
theorem d_Mk_about_64 : decode M_Mk_about.2.1 64 = .ok (.iaload, 1) := by decide +kernel
theorem d_Mk_about_65 : decode M_Mk_about.2.1 65 = .ok (.ireturn, 1) := by decide +kernel
theorem d_Mk_about_66 : decode M_Mk_about.2.1 66 = .ok (.aload_n 0, 1) := by decide +kernel
theorem d_Mk_about_67 : decode M_Mk_about.2.1 67 = .ok (.getfield 12, 3) := by decide +kernel
theorem d_Mk_about_70 : decode M_Mk_about.2.1 70 = .ok (.getfield 149, 3) := by decide +kernel
theorem d_Mk_about_73 : decode M_Mk_about.2.1 73 = .ok (.iload_n 1, 1) := by decide +kernel
theorem d_Mk_about_74 : decode M_Mk_about.2.1 74 = .ok (.iaload, 1) := by decide +kernel
theorem d_Mk_about_75 : decode M_Mk_about.2.1 75 = .ok (.ireturn, 1) := by decide +kernel
theorem d_Mk_about_76 : decode M_Mk_about.2.1 76 = .ok (.aload_n 0, 1) := by decide +kernel
theorem d_Mk_about_77 : decode M_Mk_about.2.1 77 = .ok (.getfield 12, 3) := by decide +kernel
theorem d_Mk_about_80 : decode M_Mk_about.2.1 80 = .ok (.getfield 152, 3) := by decide +kernel
theorem d_Mk_about_83 : decode M_Mk_about.2.1 83 = .ok (.iload_n 1, 1) := by decide +kernel
theorem d_Mk_about_84 : decode M_Mk_about.2.1 84 = .ok (.iaload, 1) := by decide +kernel
theorem d_Mk_about_85 : decode M_Mk_about.2.1 85 = .ok (.ireturn, 1) := by decide +kernel
theorem d_Mk_about_86 : decode M_Mk_about.2.1 86 = .ok (.aload_n 0, 1) := by decide +kernel
theorem d_Mk_about_87 : decode M_Mk_about.2.1 87 = .ok (.getfield 12, 3) := by decide +kernel
theorem d_Mk_about_90 : decode M_Mk_about.2.1 90 = .ok (.getfield 123, 3) := by decide +kernel
theorem d_Mk_about_93 : decode M_Mk_about.2.1 93 = .ok (.getfield 155, 3) := by decide +kernel
theorem d_Mk_about_96 : decode M_Mk_about.2.1 96 = .ok (.iload_n 1, 1) := by decide +kernel
theorem d_Mk_about_97 : decode M_Mk_about.2.1 97 = .ok (.iaload, 1) := by decide +kernel
theorem d_Mk_about_98 : decode M_Mk_about.2.1 98 = .ok (.ireturn, 1) := by decide +kernel
theorem d_Mk_about_99 : decode M_Mk_about.2.1 99 = .ok (.aload_n 0, 1) := by decide +kernel
theorem d_Mk_about_100 : decode M_Mk_about.2.1 100 = .ok (.getfield 12, 3) := by decide +kernel
theorem d_Mk_about_103 : decode M_Mk_about.2.1 103 = .ok (.getfield 158, 3) := by decide +kernel
theorem d_Mk_about_106 : decode M_Mk_about.2.1 106 = .ok (.iconst 1, 1) := by decide +kernel
theorem d_Mk_about_107 : decode M_Mk_about.2.1 107 = .ok (.iload_n 1, 1) := by decide +kernel
theorem d_Mk_about_108 : decode M_Mk_about.2.1 108 = .ok (.invokevirtual 164, 3) := by decide +kernel
theorem d_Mk_about_111 : decode M_Mk_about.2.1 111 = .ok (.ireturn, 1) := by decide +kernel
theorem d_Mk_about_112 : decode M_Mk_about.2.1 112 = .ok (.aload_n 0, 1) := by decide +kernel
theorem d_Mk_about_113 : decode M_Mk_about.2.1 113 = .ok (.getfield 12, 3) := by decide +kernel
theorem d_Mk_about_116 : decode M_Mk_about.2.1 116 = .ok (.getfield 158, 3) := by decide +kernel
theorem d_Mk_about_119 : decode M_Mk_about.2.1 119 = .ok (.iconst 0, 1) := by decide +kernel
theorem d_Mk_about_120 : decode M_Mk_about.2.1 120 = .ok (.iload_n 1, 1) := by decide +kernel
theorem d_Mk_about_121 : decode M_Mk_about.2.1 121 = .ok (.invokevirtual 164, 3) := by decide +kernel
theorem d_Mk_about_124 : decode M_Mk_about.2.1 124 = .ok (.ireturn, 1) := by decide +kernel
theorem d_Mk_about_125 : decode M_Mk_about.2.1 125 = .ok (.aload_n 0, 1) := by decide +kernel
theorem d_Mk_about_126 : decode M_Mk_about.2.1 126 = .ok (.getfield 12, 3) := by decide +kernel
theorem d_Mk_about_129 : decode M_Mk_about.2.1 129 = .ok (.getfield 167, 3) := by decide +kernel
theorem d_Mk_about_132 : decode M_Mk_about.2.1 132 = .ok (.iload_n 1, 1) := by decide +kernel
theorem d_Mk_about_133 : decode M_Mk_about.2.1 133 = .ok (.iaload, 1) := by decide +kernel
theorem d_Mk_about_134 : decode M_Mk_about.2.1 134 = .ok (.ireturn, 1) := by decide +kernel
theorem d_Mk_about_135 : decode M_Mk_about.2.1 135 = .ok (.ldc 54, 2) := by decide +kernel
theorem d_Mk_about_137 : decode M_Mk_about.2.1 137 = .ok (.ireturn, 1) := by decide +kernel
def M_Mk_isOf : mj_M := (⟨"MarketTown", "isOf", "(II)I"⟩, prog_1_method_15_code, 3, some .int, 2, 43)
theorem d_Mk_isOf_0 : decode M_Mk_isOf.2.1 0 = .ok (.aload_n 0, 1) := by decide +kernel
theorem d_Mk_isOf_1 : decode M_Mk_isOf.2.1 1 = .ok (.getfield 12, 3) := by decide +kernel
theorem d_Mk_isOf_4 : decode M_Mk_isOf.2.1 4 = .ok (.iload_n 1, 1) := by decide +kernel
theorem d_Mk_isOf_5 : decode M_Mk_isOf.2.1 5 = .ok (.invokevirtual 64, 3) := by decide +kernel
theorem d_Mk_isOf_8 : decode M_Mk_isOf.2.1 8 = .ok (.ifCond .eq 10, 3) := by decide +kernel
theorem d_Mk_isOf_11 : decode M_Mk_isOf.2.1 11 = .ok (.iload_n 2, 1) := by decide +kernel
theorem d_Mk_isOf_12 : decode M_Mk_isOf.2.1 12 = .ok (.invokestatic 45, 3) := by decide +kernel
theorem d_Mk_isOf_15 : decode M_Mk_isOf.2.1 15 = .ok (.ifCond .ne 6, 3) := by decide +kernel
theorem d_Mk_isOf_18 : decode M_Mk_isOf.2.1 18 = .ok (.ldc 54, 2) := by decide +kernel
theorem d_Mk_isOf_20 : decode M_Mk_isOf.2.1 20 = .ok (.ireturn, 1) := by decide +kernel
theorem d_Mk_isOf_21 : decode M_Mk_isOf.2.1 21 = .ok (.aload_n 0, 1) := by decide +kernel
theorem d_Mk_isOf_22 : decode M_Mk_isOf.2.1 22 = .ok (.getfield 12, 3) := by decide +kernel
theorem d_Mk_isOf_25 : decode M_Mk_isOf.2.1 25 = .ok (.iload_n 1, 1) := by decide +kernel
theorem d_Mk_isOf_26 : decode M_Mk_isOf.2.1 26 = .ok (.iload_n 2, 1) := by decide +kernel
theorem d_Mk_isOf_27 : decode M_Mk_isOf.2.1 27 = .ok (.invokevirtual 170, 3) := by decide +kernel
theorem d_Mk_isOf_30 : decode M_Mk_isOf.2.1 30 = .ok (.ifCond .eq 7, 3) := by decide +kernel
theorem d_Mk_isOf_33 : decode M_Mk_isOf.2.1 33 = .ok (.iconst 1, 1) := by decide +kernel
theorem d_Mk_isOf_34 : decode M_Mk_isOf.2.1 34 = .ok (.goto 4, 3) := by decide +kernel
theorem d_Mk_isOf_37 : decode M_Mk_isOf.2.1 37 = .ok (.iconst 0, 1) := by decide +kernel
theorem d_Mk_isOf_38 : decode M_Mk_isOf.2.1 38 = .ok (.ireturn, 1) := by decide +kernel
def M_Mk_has : mj_M := (⟨"MarketTown", "has", "(III)I"⟩, prog_1_method_16_code, 4, some .int, 2, 43)
theorem d_Mk_has_0 : decode M_Mk_has.2.1 0 = .ok (.aload_n 0, 1) := by decide +kernel
theorem d_Mk_has_1 : decode M_Mk_has.2.1 1 = .ok (.getfield 12, 3) := by decide +kernel
theorem d_Mk_has_4 : decode M_Mk_has.2.1 4 = .ok (.iload_n 1, 1) := by decide +kernel
theorem d_Mk_has_5 : decode M_Mk_has.2.1 5 = .ok (.invokevirtual 64, 3) := by decide +kernel
theorem d_Mk_has_8 : decode M_Mk_has.2.1 8 = .ok (.ifCond .eq 20, 3) := by decide +kernel
theorem d_Mk_has_11 : decode M_Mk_has.2.1 11 = .ok (.iload_n 2, 1) := by decide +kernel
theorem d_Mk_has_12 : decode M_Mk_has.2.1 12 = .ok (.invokestatic 67, 3) := by decide +kernel
theorem d_Mk_has_15 : decode M_Mk_has.2.1 15 = .ok (.ifCond .eq 13, 3) := by decide +kernel
theorem d_Mk_has_18 : decode M_Mk_has.2.1 18 = .ok (.iload_n 3, 1) := by decide +kernel
theorem d_Mk_has_19 : decode M_Mk_has.2.1 19 = .ok (.iconst (-1), 1) := by decide +kernel
theorem d_Mk_has_20 : decode M_Mk_has.2.1 20 = .ok (.bipush 9, 2) := by decide +kernel
theorem d_Mk_has_22 : decode M_Mk_has.2.1 22 = .ok (.invokestatic 50, 3) := by decide +kernel
theorem d_Mk_has_25 : decode M_Mk_has.2.1 25 = .ok (.ifCond .ne 6, 3) := by decide +kernel
theorem d_Mk_has_28 : decode M_Mk_has.2.1 28 = .ok (.ldc 54, 2) := by decide +kernel
theorem d_Mk_has_30 : decode M_Mk_has.2.1 30 = .ok (.ireturn, 1) := by decide +kernel
theorem d_Mk_has_31 : decode M_Mk_has.2.1 31 = .ok (.iload_n 3, 1) := by decide +kernel
theorem d_Mk_has_32 : decode M_Mk_has.2.1 32 = .ok (.ifCond .ge 18, 3) := by decide +kernel
theorem d_Mk_has_35 : decode M_Mk_has.2.1 35 = .ok (.aload_n 0, 1) := by decide +kernel
theorem d_Mk_has_36 : decode M_Mk_has.2.1 36 = .ok (.getfield 12, 3) := by decide +kernel
theorem d_Mk_has_39 : decode M_Mk_has.2.1 39 = .ok (.getfield 70, 3) := by decide +kernel
theorem d_Mk_has_42 : decode M_Mk_has.2.1 42 = .ok (.iload_n 1, 1) := by decide +kernel
theorem d_Mk_has_43 : decode M_Mk_has.2.1 43 = .ok (.iload_n 2, 1) := by decide +kernel
theorem d_Mk_has_44 : decode M_Mk_has.2.1 44 = .ok (.invokevirtual 80, 3) := by decide +kernel
theorem d_Mk_has_47 : decode M_Mk_has.2.1 47 = .ok (.goto 16, 3) := by decide +kernel
theorem d_Mk_has_50 : decode M_Mk_has.2.1 50 = .ok (.aload_n 0, 1) := by decide +kernel
theorem d_Mk_has_51 : decode M_Mk_has.2.1 51 = .ok (.getfield 12, 3) := by decide +kernel
theorem d_Mk_has_54 : decode M_Mk_has.2.1 54 = .ok (.getfield 70, 3) := by decide +kernel
theorem d_Mk_has_57 : decode M_Mk_has.2.1 57 = .ok (.iload_n 1, 1) := by decide +kernel
theorem d_Mk_has_58 : decode M_Mk_has.2.1 58 = .ok (.iload_n 2, 1) := by decide +kernel
theorem d_Mk_has_59 : decode M_Mk_has.2.1 59 = .ok (.iload_n 3, 1) := by decide +kernel
theorem d_Mk_has_60 : decode M_Mk_has.2.1 60 = .ok (.invokevirtual 174, 3) := by decide +kernel
theorem d_Mk_has_63 : decode M_Mk_has.2.1 63 = .ok (.ireturn, 1) := by decide +kernel
def M_Sk_ofAge : mj_M := (⟨"MarketTown$Stock", "ofAge", "(III)I"⟩, prog_8_method_3_code, 4, some .int, 0, 0)
theorem d_Sk_ofAge_0 : decode M_Sk_ofAge.2.1 0 = .ok (.aload_n 0, 1) := by decide +kernel
theorem d_Sk_ofAge_1 : decode M_Sk_ofAge.2.1 1 = .ok (.getfield 9, 3) := by decide +kernel
theorem d_Sk_ofAge_4 : decode M_Sk_ofAge.2.1 4 = .ok (.iload_n 1, 1) := by decide +kernel
theorem d_Sk_ofAge_5 : decode M_Sk_ofAge.2.1 5 = .ok (.iconst 5, 1) := by decide +kernel
theorem d_Sk_ofAge_6 : decode M_Sk_ofAge.2.1 6 = .ok (.imul, 1) := by decide +kernel
theorem d_Sk_ofAge_7 : decode M_Sk_ofAge.2.1 7 = .ok (.iload_n 2, 1) := by decide +kernel
theorem d_Sk_ofAge_8 : decode M_Sk_ofAge.2.1 8 = .ok (.iadd, 1) := by decide +kernel
theorem d_Sk_ofAge_9 : decode M_Sk_ofAge.2.1 9 = .ok (.bipush 10, 2) := by decide +kernel
theorem d_Sk_ofAge_11 : decode M_Sk_ofAge.2.1 11 = .ok (.imul, 1) := by decide +kernel
theorem d_Sk_ofAge_12 : decode M_Sk_ofAge.2.1 12 = .ok (.iload_n 3, 1) := by decide +kernel
theorem d_Sk_ofAge_13 : decode M_Sk_ofAge.2.1 13 = .ok (.iadd, 1) := by decide +kernel
theorem d_Sk_ofAge_14 : decode M_Sk_ofAge.2.1 14 = .ok (.iaload, 1) := by decide +kernel
theorem d_Sk_ofAge_15 : decode M_Sk_ofAge.2.1 15 = .ok (.ireturn, 1) := by decide +kernel
def M_Mk_told : mj_M := (⟨"MarketTown", "told", "(III)I"⟩, prog_1_method_17_code, 4, some .int, 2, 44)
theorem d_Mk_told_0 : decode M_Mk_told.2.1 0 = .ok (.aload_n 0, 1) := by decide +kernel
theorem d_Mk_told_1 : decode M_Mk_told.2.1 1 = .ok (.getfield 12, 3) := by decide +kernel
theorem d_Mk_told_4 : decode M_Mk_told.2.1 4 = .ok (.iload_n 1, 1) := by decide +kernel
theorem d_Mk_told_5 : decode M_Mk_told.2.1 5 = .ok (.invokevirtual 64, 3) := by decide +kernel
theorem d_Mk_told_8 : decode M_Mk_told.2.1 8 = .ok (.ifCond .eq 13, 3) := by decide +kernel
theorem d_Mk_told_11 : decode M_Mk_told.2.1 11 = .ok (.iload_n 3, 1) := by decide +kernel
theorem d_Mk_told_12 : decode M_Mk_told.2.1 12 = .ok (.iconst 0, 1) := by decide +kernel
theorem d_Mk_told_13 : decode M_Mk_told.2.1 13 = .ok (.bipush 8, 2) := by decide +kernel
theorem d_Mk_told_15 : decode M_Mk_told.2.1 15 = .ok (.invokestatic 50, 3) := by decide +kernel
theorem d_Mk_told_18 : decode M_Mk_told.2.1 18 = .ok (.ifCond .ne 6, 3) := by decide +kernel
theorem d_Mk_told_21 : decode M_Mk_told.2.1 21 = .ok (.ldc 54, 2) := by decide +kernel
theorem d_Mk_told_23 : decode M_Mk_told.2.1 23 = .ok (.ireturn, 1) := by decide +kernel
theorem d_Mk_told_24 : decode M_Mk_told.2.1 24 = .ok (.iload_n 2, 1) := by decide +kernel
theorem d_Mk_told_25 : decode M_Mk_told.2.1 25 = .ok (.iconst 0, 1) := by decide +kernel
theorem d_Mk_told_26 : decode M_Mk_told.2.1 26 = .ok (.aload_n 0, 1) := by decide +kernel
theorem d_Mk_told_27 : decode M_Mk_told.2.1 27 = .ok (.getfield 12, 3) := by decide +kernel
theorem d_Mk_told_30 : decode M_Mk_told.2.1 30 = .ok (.getfield 123, 3) := by decide +kernel
theorem d_Mk_told_33 : decode M_Mk_told.2.1 33 = .ok (.getfield 155, 3) := by decide +kernel
theorem d_Mk_told_36 : decode M_Mk_told.2.1 36 = .ok (.iload_n 1, 1) := by decide +kernel
theorem d_Mk_told_37 : decode M_Mk_told.2.1 37 = .ok (.iaload, 1) := by decide +kernel
theorem d_Mk_told_38 : decode M_Mk_told.2.1 38 = .ok (.iconst 1, 1) := by decide +kernel
theorem d_Mk_told_39 : decode M_Mk_told.2.1 39 = .ok (.isub, 1) := by decide +kernel
theorem d_Mk_told_40 : decode M_Mk_told.2.1 40 = .ok (.invokestatic 50, 3) := by decide +kernel
theorem d_Mk_told_43 : decode M_Mk_told.2.1 43 = .ok (.ifCond .ne 6, 3) := by decide +kernel
theorem d_Mk_told_46 : decode M_Mk_told.2.1 46 = .ok (.ldc 54, 2) := by decide +kernel
theorem d_Mk_told_48 : decode M_Mk_told.2.1 48 = .ok (.ireturn, 1) := by decide +kernel
theorem d_Mk_told_49 : decode M_Mk_told.2.1 49 = .ok (.aload_n 0, 1) := by decide +kernel
theorem d_Mk_told_50 : decode M_Mk_told.2.1 50 = .ok (.getfield 12, 3) := by decide +kernel
theorem d_Mk_told_53 : decode M_Mk_told.2.1 53 = .ok (.getfield 123, 3) := by decide +kernel
theorem d_Mk_told_56 : decode M_Mk_told.2.1 56 = .ok (.iload_n 1, 1) := by decide +kernel
theorem d_Mk_told_57 : decode M_Mk_told.2.1 57 = .ok (.iload_n 2, 1) := by decide +kernel
theorem d_Mk_told_58 : decode M_Mk_told.2.1 58 = .ok (.iload_n 3, 1) := by decide +kernel
theorem d_Mk_told_59 : decode M_Mk_told.2.1 59 = .ok (.invokevirtual 178, 3) := by decide +kernel
theorem d_Mk_told_62 : decode M_Mk_told.2.1 62 = .ok (.ireturn, 1) := by decide +kernel
def M_Mk_goods : mj_M := (⟨"MarketTown", "goods", "(II)I"⟩, prog_1_method_18_code, 3, some .int, 2, 45)
theorem d_Mk_goods_0 : decode M_Mk_goods.2.1 0 = .ok (.iload_n 1, 1) := by decide +kernel
theorem d_Mk_goods_1 : decode M_Mk_goods.2.1 1 = .ok (.invokestatic 67, 3) := by decide +kernel
theorem d_Mk_goods_4 : decode M_Mk_goods.2.1 4 = .ok (.ifCond .eq 13, 3) := by decide +kernel
theorem d_Mk_goods_7 : decode M_Mk_goods.2.1 7 = .ok (.iload_n 2, 1) := by decide +kernel
theorem d_Mk_goods_8 : decode M_Mk_goods.2.1 8 = .ok (.iconst 0, 1) := by decide +kernel
theorem d_Mk_goods_9 : decode M_Mk_goods.2.1 9 = .ok (.bipush 7, 2) := by decide +kernel
theorem d_Mk_goods_11 : decode M_Mk_goods.2.1 11 = .ok (.invokestatic 50, 3) := by decide +kernel
theorem d_Mk_goods_14 : decode M_Mk_goods.2.1 14 = .ok (.ifCond .ne 6, 3) := by decide +kernel
theorem d_Mk_goods_17 : decode M_Mk_goods.2.1 17 = .ok (.ldc 54, 2) := by decide +kernel
theorem d_Mk_goods_19 : decode M_Mk_goods.2.1 19 = .ok (.ireturn, 1) := by decide +kernel
theorem d_Mk_goods_20 : decode M_Mk_goods.2.1 20 = .ok (.iload_n 2, 1) := by decide +kernel
theorem d_Mk_goods_21 : decode M_Mk_goods.2.1 21 = .ok (.bipush 6, 2) := by decide +kernel
theorem d_Mk_goods_23 : decode M_Mk_goods.2.1 23 = .ok (.if_icmp .gt 18, 3) := by decide +kernel
theorem d_Mk_goods_26 : decode M_Mk_goods.2.1 26 = .ok (.aload_n 0, 1) := by decide +kernel
theorem d_Mk_goods_27 : decode M_Mk_goods.2.1 27 = .ok (.getfield 12, 3) := by decide +kernel
theorem d_Mk_goods_30 : decode M_Mk_goods.2.1 30 = .ok (.getfield 83, 3) := by decide +kernel
theorem d_Mk_goods_33 : decode M_Mk_goods.2.1 33 = .ok (.iload_n 1, 1) := by decide +kernel
theorem d_Mk_goods_34 : decode M_Mk_goods.2.1 34 = .ok (.iload_n 2, 1) := by decide +kernel
theorem d_Mk_goods_35 : decode M_Mk_goods.2.1 35 = .ok (.invokevirtual 181, 3) := by decide +kernel
theorem d_Mk_goods_38 : decode M_Mk_goods.2.1 38 = .ok (.goto 14, 3) := by decide +kernel
theorem d_Mk_goods_41 : decode M_Mk_goods.2.1 41 = .ok (.aload_n 0, 1) := by decide +kernel
theorem d_Mk_goods_42 : decode M_Mk_goods.2.1 42 = .ok (.getfield 12, 3) := by decide +kernel
theorem d_Mk_goods_45 : decode M_Mk_goods.2.1 45 = .ok (.getfield 70, 3) := by decide +kernel
theorem d_Mk_goods_48 : decode M_Mk_goods.2.1 48 = .ok (.iload_n 1, 1) := by decide +kernel
theorem d_Mk_goods_49 : decode M_Mk_goods.2.1 49 = .ok (.invokevirtual 183, 3) := by decide +kernel
theorem d_Mk_goods_52 : decode M_Mk_goods.2.1 52 = .ok (.ireturn, 1) := by decide +kernel
def M_Sk_inTown : mj_M := (⟨"MarketTown$Stock", "inTown", "(I)I"⟩, prog_8_method_4_code, 4, some .int, 1, 22)
theorem d_Sk_inTown_0 : decode M_Sk_inTown.2.1 0 = .ok (.iconst 0, 1) := by decide +kernel
theorem d_Sk_inTown_1 : decode M_Sk_inTown.2.1 1 = .ok (.istore_n 2, 1) := by decide +kernel
theorem d_Sk_inTown_2 : decode M_Sk_inTown.2.1 2 = .ok (.iconst 0, 1) := by decide +kernel
theorem d_Sk_inTown_3 : decode M_Sk_inTown.2.1 3 = .ok (.istore_n 3, 1) := by decide +kernel
theorem d_Sk_inTown_4 : decode M_Sk_inTown.2.1 4 = .ok (.iload_n 3, 1) := by decide +kernel
theorem d_Sk_inTown_5 : decode M_Sk_inTown.2.1 5 = .ok (.bipush 12, 2) := by decide +kernel
theorem d_Sk_inTown_7 : decode M_Sk_inTown.2.1 7 = .ok (.if_icmp .ge 18, 3) := by decide +kernel
theorem d_Sk_inTown_10 : decode M_Sk_inTown.2.1 10 = .ok (.iload_n 2, 1) := by decide +kernel
theorem d_Sk_inTown_11 : decode M_Sk_inTown.2.1 11 = .ok (.aload_n 0, 1) := by decide +kernel
theorem d_Sk_inTown_12 : decode M_Sk_inTown.2.1 12 = .ok (.iload_n 3, 1) := by decide +kernel
theorem d_Sk_inTown_13 : decode M_Sk_inTown.2.1 13 = .ok (.iload_n 1, 1) := by decide +kernel
theorem d_Sk_inTown_14 : decode M_Sk_inTown.2.1 14 = .ok (.invokevirtual 18, 3) := by decide +kernel
theorem d_Sk_inTown_17 : decode M_Sk_inTown.2.1 17 = .ok (.iadd, 1) := by decide +kernel
theorem d_Sk_inTown_18 : decode M_Sk_inTown.2.1 18 = .ok (.istore_n 2, 1) := by decide +kernel
theorem d_Sk_inTown_19 : decode M_Sk_inTown.2.1 19 = .ok (.iinc 3 1, 3) := by decide +kernel
theorem d_Sk_inTown_22 : decode M_Sk_inTown.2.1 22 = .ok (.goto (-18), 3) := by decide +kernel
theorem d_Sk_inTown_25 : decode M_Sk_inTown.2.1 25 = .ok (.iload_n 2, 1) := by decide +kernel
theorem d_Sk_inTown_26 : decode M_Sk_inTown.2.1 26 = .ok (.ireturn, 1) := by decide +kernel
def M_Mk_paid : mj_M := (⟨"MarketTown", "paid", "(III)I"⟩, prog_1_method_19_code, 4, some .int, 2, 46)
theorem d_Mk_paid_0 : decode M_Mk_paid.2.1 0 = .ok (.aload_n 0, 1) := by decide +kernel
theorem d_Mk_paid_1 : decode M_Mk_paid.2.1 1 = .ok (.getfield 12, 3) := by decide +kernel
theorem d_Mk_paid_4 : decode M_Mk_paid.2.1 4 = .ok (.iload_n 1, 1) := by decide +kernel
theorem d_Mk_paid_5 : decode M_Mk_paid.2.1 5 = .ok (.invokevirtual 64, 3) := by decide +kernel
theorem d_Mk_paid_8 : decode M_Mk_paid.2.1 8 = .ok (.ifCond .eq 23, 3) := by decide +kernel
theorem d_Mk_paid_11 : decode M_Mk_paid.2.1 11 = .ok (.aload_n 0, 1) := by decide +kernel
theorem d_Mk_paid_12 : decode M_Mk_paid.2.1 12 = .ok (.getfield 12, 3) := by decide +kernel
theorem d_Mk_paid_15 : decode M_Mk_paid.2.1 15 = .ok (.iload_n 2, 1) := by decide +kernel
theorem d_Mk_paid_16 : decode M_Mk_paid.2.1 16 = .ok (.invokevirtual 64, 3) := by decide +kernel
theorem d_Mk_paid_19 : decode M_Mk_paid.2.1 19 = .ok (.ifCond .eq 12, 3) := by decide +kernel
theorem d_Mk_paid_22 : decode M_Mk_paid.2.1 22 = .ok (.iload_n 3, 1) := by decide +kernel
theorem d_Mk_paid_23 : decode M_Mk_paid.2.1 23 = .ok (.iconst (-1), 1) := by decide +kernel
theorem d_Mk_paid_24 : decode M_Mk_paid.2.1 24 = .ok (.iconst 4, 1) := by decide +kernel
theorem d_Mk_paid_25 : decode M_Mk_paid.2.1 25 = .ok (.invokestatic 50, 3) := by decide +kernel
theorem d_Mk_paid_28 : decode M_Mk_paid.2.1 28 = .ok (.ifCond .ne 6, 3) := by decide +kernel
theorem d_Mk_paid_31 : decode M_Mk_paid.2.1 31 = .ok (.ldc 54, 2) := by decide +kernel
theorem d_Mk_paid_33 : decode M_Mk_paid.2.1 33 = .ok (.ireturn, 1) := by decide +kernel
theorem d_Mk_paid_34 : decode M_Mk_paid.2.1 34 = .ok (.iload_n 3, 1) := by decide +kernel
theorem d_Mk_paid_35 : decode M_Mk_paid.2.1 35 = .ok (.ifCond .ge 15, 3) := by decide +kernel
theorem d_Mk_paid_38 : decode M_Mk_paid.2.1 38 = .ok (.aload_n 0, 1) := by decide +kernel
theorem d_Mk_paid_39 : decode M_Mk_paid.2.1 39 = .ok (.getfield 12, 3) := by decide +kernel
theorem d_Mk_paid_42 : decode M_Mk_paid.2.1 42 = .ok (.iload_n 1, 1) := by decide +kernel
theorem d_Mk_paid_43 : decode M_Mk_paid.2.1 43 = .ok (.iload_n 2, 1) := by decide +kernel
theorem d_Mk_paid_44 : decode M_Mk_paid.2.1 44 = .ok (.invokevirtual 186, 3) := by decide +kernel
theorem d_Mk_paid_47 : decode M_Mk_paid.2.1 47 = .ok (.goto 17, 3) := by decide +kernel
theorem d_Mk_paid_50 : decode M_Mk_paid.2.1 50 = .ok (.aload_n 0, 1) := by decide +kernel
theorem d_Mk_paid_51 : decode M_Mk_paid.2.1 51 = .ok (.getfield 12, 3) := by decide +kernel
theorem d_Mk_paid_54 : decode M_Mk_paid.2.1 54 = .ok (.getfield 189, 3) := by decide +kernel
theorem d_Mk_paid_57 : decode M_Mk_paid.2.1 57 = .ok (.iload_n 1, 1) := by decide +kernel
theorem d_Mk_paid_58 : decode M_Mk_paid.2.1 58 = .ok (.iload_n 2, 1) := by decide +kernel
theorem d_Mk_paid_59 : decode M_Mk_paid.2.1 59 = .ok (.iload_n 3, 1) := by decide +kernel
theorem d_Mk_paid_60 : decode M_Mk_paid.2.1 60 = .ok (.invokestatic 192, 3) := by decide +kernel
theorem d_Mk_paid_63 : decode M_Mk_paid.2.1 63 = .ok (.iaload, 1) := by decide +kernel
theorem d_Mk_paid_64 : decode M_Mk_paid.2.1 64 = .ok (.ireturn, 1) := by decide +kernel
def M_Tw_paidInAll : mj_M := (⟨"MarketTown$Town", "paidInAll", "(II)I"⟩, prog_10_method_8_code, 5, some .int, 1, 22)
theorem d_Tw_paidInAll_0 : decode M_Tw_paidInAll.2.1 0 = .ok (.iconst 0, 1) := by decide +kernel
theorem d_Tw_paidInAll_1 : decode M_Tw_paidInAll.2.1 1 = .ok (.istore_n 3, 1) := by decide +kernel
theorem d_Tw_paidInAll_2 : decode M_Tw_paidInAll.2.1 2 = .ok (.iconst 0, 1) := by decide +kernel
theorem d_Tw_paidInAll_3 : decode M_Tw_paidInAll.2.1 3 = .ok (.istore 4, 2) := by decide +kernel
theorem d_Tw_paidInAll_5 : decode M_Tw_paidInAll.2.1 5 = .ok (.iload 4, 2) := by decide +kernel
theorem d_Tw_paidInAll_7 : decode M_Tw_paidInAll.2.1 7 = .ok (.iconst 5, 1) := by decide +kernel
theorem d_Tw_paidInAll_8 : decode M_Tw_paidInAll.2.1 8 = .ok (.if_icmp .ge 24, 3) := by decide +kernel
theorem d_Tw_paidInAll_11 : decode M_Tw_paidInAll.2.1 11 = .ok (.iload_n 3, 1) := by decide +kernel
theorem d_Tw_paidInAll_12 : decode M_Tw_paidInAll.2.1 12 = .ok (.aload_n 0, 1) := by decide +kernel
theorem d_Tw_paidInAll_13 : decode M_Tw_paidInAll.2.1 13 = .ok (.getfield 28, 3) := by decide +kernel
theorem d_Tw_paidInAll_16 : decode M_Tw_paidInAll.2.1 16 = .ok (.iload_n 1, 1) := by decide +kernel
theorem d_Tw_paidInAll_17 : decode M_Tw_paidInAll.2.1 17 = .ok (.iload_n 2, 1) := by decide +kernel
theorem d_Tw_paidInAll_18 : decode M_Tw_paidInAll.2.1 18 = .ok (.iload 4, 2) := by decide +kernel
theorem d_Tw_paidInAll_20 : decode M_Tw_paidInAll.2.1 20 = .ok (.invokestatic 67, 3) := by decide +kernel
theorem d_Tw_paidInAll_23 : decode M_Tw_paidInAll.2.1 23 = .ok (.iaload, 1) := by decide +kernel
theorem d_Tw_paidInAll_24 : decode M_Tw_paidInAll.2.1 24 = .ok (.iadd, 1) := by decide +kernel
theorem d_Tw_paidInAll_25 : decode M_Tw_paidInAll.2.1 25 = .ok (.istore_n 3, 1) := by decide +kernel
theorem d_Tw_paidInAll_26 : decode M_Tw_paidInAll.2.1 26 = .ok (.iinc 4 1, 3) := by decide +kernel
theorem d_Tw_paidInAll_29 : decode M_Tw_paidInAll.2.1 29 = .ok (.goto (-24), 3) := by decide +kernel
theorem d_Tw_paidInAll_32 : decode M_Tw_paidInAll.2.1 32 = .ok (.iload_n 3, 1) := by decide +kernel
theorem d_Tw_paidInAll_33 : decode M_Tw_paidInAll.2.1 33 = .ok (.ireturn, 1) := by decide +kernel
def M_Mk_loan : mj_M := (⟨"MarketTown", "loan", "(II)I"⟩, prog_1_method_20_code, 3, some .int, 1, 22)
theorem d_Mk_loan_0 : decode M_Mk_loan.2.1 0 = .ok (.iload_n 1, 1) := by decide +kernel
theorem d_Mk_loan_1 : decode M_Mk_loan.2.1 1 = .ok (.ifCond .lt 12, 3) := by decide +kernel
theorem d_Mk_loan_4 : decode M_Mk_loan.2.1 4 = .ok (.iload_n 2, 1) := by decide +kernel
theorem d_Mk_loan_5 : decode M_Mk_loan.2.1 5 = .ok (.iconst 0, 1) := by decide +kernel
theorem d_Mk_loan_6 : decode M_Mk_loan.2.1 6 = .ok (.iconst 3, 1) := by decide +kernel
theorem d_Mk_loan_7 : decode M_Mk_loan.2.1 7 = .ok (.invokestatic 50, 3) := by decide +kernel
theorem d_Mk_loan_10 : decode M_Mk_loan.2.1 10 = .ok (.ifCond .ne 6, 3) := by decide +kernel
theorem d_Mk_loan_13 : decode M_Mk_loan.2.1 13 = .ok (.ldc 54, 2) := by decide +kernel
theorem d_Mk_loan_15 : decode M_Mk_loan.2.1 15 = .ok (.ireturn, 1) := by decide +kernel
theorem d_Mk_loan_16 : decode M_Mk_loan.2.1 16 = .ok (.iload_n 1, 1) := by decide +kernel
theorem d_Mk_loan_17 : decode M_Mk_loan.2.1 17 = .ok (.aload_n 0, 1) := by decide +kernel
theorem d_Mk_loan_18 : decode M_Mk_loan.2.1 18 = .ok (.getfield 12, 3) := by decide +kernel
theorem d_Mk_loan_21 : decode M_Mk_loan.2.1 21 = .ok (.getfield 158, 3) := by decide +kernel
theorem d_Mk_loan_24 : decode M_Mk_loan.2.1 24 = .ok (.getfield 195, 3) := by decide +kernel
theorem d_Mk_loan_27 : decode M_Mk_loan.2.1 27 = .ok (.if_icmp .ge 18, 3) := by decide +kernel
theorem d_Mk_loan_30 : decode M_Mk_loan.2.1 30 = .ok (.aload_n 0, 1) := by decide +kernel
theorem d_Mk_loan_31 : decode M_Mk_loan.2.1 31 = .ok (.getfield 12, 3) := by decide +kernel
theorem d_Mk_loan_34 : decode M_Mk_loan.2.1 34 = .ok (.getfield 158, 3) := by decide +kernel
theorem d_Mk_loan_37 : decode M_Mk_loan.2.1 37 = .ok (.iload_n 1, 1) := by decide +kernel
theorem d_Mk_loan_38 : decode M_Mk_loan.2.1 38 = .ok (.iload_n 2, 1) := by decide +kernel
theorem d_Mk_loan_39 : decode M_Mk_loan.2.1 39 = .ok (.invokevirtual 197, 3) := by decide +kernel
theorem d_Mk_loan_42 : decode M_Mk_loan.2.1 42 = .ok (.goto 5, 3) := by decide +kernel
theorem d_Mk_loan_45 : decode M_Mk_loan.2.1 45 = .ok (.ldc 198, 2) := by decide +kernel
theorem d_Mk_loan_47 : decode M_Mk_loan.2.1 47 = .ok (.ireturn, 1) := by decide +kernel
def M_Mk_median : mj_M := (⟨"MarketTown", "median", "(I)I"⟩, prog_1_method_21_code, 2, some .int, 3, 70)
theorem d_Mk_median_0 : decode M_Mk_median.2.1 0 = .ok (.iload_n 1, 1) := by decide +kernel
theorem d_Mk_median_1 : decode M_Mk_median.2.1 1 = .ok (.invokestatic 45, 3) := by decide +kernel
theorem d_Mk_median_4 : decode M_Mk_median.2.1 4 = .ok (.ifCond .eq 14, 3) := by decide +kernel
theorem d_Mk_median_7 : decode M_Mk_median.2.1 7 = .ok (.aload_n 0, 1) := by decide +kernel
theorem d_Mk_median_8 : decode M_Mk_median.2.1 8 = .ok (.getfield 12, 3) := by decide +kernel
theorem d_Mk_median_11 : decode M_Mk_median.2.1 11 = .ok (.iload_n 1, 1) := by decide +kernel
theorem d_Mk_median_12 : decode M_Mk_median.2.1 12 = .ok (.invokevirtual 199, 3) := by decide +kernel
theorem d_Mk_median_15 : decode M_Mk_median.2.1 15 = .ok (.goto 5, 3) := by decide +kernel
theorem d_Mk_median_18 : decode M_Mk_median.2.1 18 = .ok (.ldc 54, 2) := by decide +kernel
theorem d_Mk_median_20 : decode M_Mk_median.2.1 20 = .ok (.ireturn, 1) := by decide +kernel
def M_Tw_middleCash : mj_M := (⟨"MarketTown$Town", "middleCash", "(I)I"⟩, prog_10_method_12_code, 4, some .int, 2, 47)
theorem d_Tw_middleCash_0 : decode M_Tw_middleCash.2.1 0 = .ok (.aload_n 0, 1) := by decide +kernel
theorem d_Tw_middleCash_1 : decode M_Tw_middleCash.2.1 1 = .ok (.iload_n 1, 1) := by decide +kernel
theorem d_Tw_middleCash_2 : decode M_Tw_middleCash.2.1 2 = .ok (.ldc 71, 2) := by decide +kernel
theorem d_Tw_middleCash_4 : decode M_Tw_middleCash.2.1 4 = .ok (.invokevirtual 72, 3) := by decide +kernel
theorem d_Tw_middleCash_7 : decode M_Tw_middleCash.2.1 7 = .ok (.iconst 1, 1) := by decide +kernel
theorem d_Tw_middleCash_8 : decode M_Tw_middleCash.2.1 8 = .ok (.isub, 1) := by decide +kernel
theorem d_Tw_middleCash_9 : decode M_Tw_middleCash.2.1 9 = .ok (.iconst 2, 1) := by decide +kernel
theorem d_Tw_middleCash_10 : decode M_Tw_middleCash.2.1 10 = .ok (.idiv, 1) := by decide +kernel
theorem d_Tw_middleCash_11 : decode M_Tw_middleCash.2.1 11 = .ok (.istore_n 2, 1) := by decide +kernel
theorem d_Tw_middleCash_12 : decode M_Tw_middleCash.2.1 12 = .ok (.iconst 0, 1) := by decide +kernel
theorem d_Tw_middleCash_13 : decode M_Tw_middleCash.2.1 13 = .ok (.istore_n 3, 1) := by decide +kernel
theorem d_Tw_middleCash_14 : decode M_Tw_middleCash.2.1 14 = .ok (.iload_n 3, 1) := by decide +kernel
theorem d_Tw_middleCash_15 : decode M_Tw_middleCash.2.1 15 = .ok (.aload_n 0, 1) := by decide +kernel
theorem d_Tw_middleCash_16 : decode M_Tw_middleCash.2.1 16 = .ok (.getfield 59, 3) := by decide +kernel
theorem d_Tw_middleCash_19 : decode M_Tw_middleCash.2.1 19 = .ok (.if_icmp .ge 57, 3) := by decide +kernel
theorem d_Tw_middleCash_22 : decode M_Tw_middleCash.2.1 22 = .ok (.aload_n 0, 1) := by decide +kernel
theorem d_Tw_middleCash_23 : decode M_Tw_middleCash.2.1 23 = .ok (.iload_n 3, 1) := by decide +kernel
theorem d_Tw_middleCash_24 : decode M_Tw_middleCash.2.1 24 = .ok (.iload_n 1, 1) := by decide +kernel
theorem d_Tw_middleCash_25 : decode M_Tw_middleCash.2.1 25 = .ok (.invokevirtual 76, 3) := by decide +kernel
theorem d_Tw_middleCash_28 : decode M_Tw_middleCash.2.1 28 = .ok (.ifCond .eq 42, 3) := by decide +kernel
theorem d_Tw_middleCash_31 : decode M_Tw_middleCash.2.1 31 = .ok (.aload_n 0, 1) := by decide +kernel
theorem d_Tw_middleCash_32 : decode M_Tw_middleCash.2.1 32 = .ok (.iload_n 1, 1) := by decide +kernel
theorem d_Tw_middleCash_33 : decode M_Tw_middleCash.2.1 33 = .ok (.aload_n 0, 1) := by decide +kernel
theorem d_Tw_middleCash_34 : decode M_Tw_middleCash.2.1 34 = .ok (.getfield 19, 3) := by decide +kernel
theorem d_Tw_middleCash_37 : decode M_Tw_middleCash.2.1 37 = .ok (.iload_n 3, 1) := by decide +kernel
theorem d_Tw_middleCash_38 : decode M_Tw_middleCash.2.1 38 = .ok (.iaload, 1) := by decide +kernel
theorem d_Tw_middleCash_39 : decode M_Tw_middleCash.2.1 39 = .ok (.iconst 1, 1) := by decide +kernel
theorem d_Tw_middleCash_40 : decode M_Tw_middleCash.2.1 40 = .ok (.isub, 1) := by decide +kernel
theorem d_Tw_middleCash_41 : decode M_Tw_middleCash.2.1 41 = .ok (.invokevirtual 72, 3) := by decide +kernel
theorem d_Tw_middleCash_44 : decode M_Tw_middleCash.2.1 44 = .ok (.iload_n 2, 1) := by decide +kernel
theorem d_Tw_middleCash_45 : decode M_Tw_middleCash.2.1 45 = .ok (.if_icmp .gt 25, 3) := by decide +kernel
theorem d_Tw_middleCash_48 : decode M_Tw_middleCash.2.1 48 = .ok (.aload_n 0, 1) := by decide +kernel
theorem d_Tw_middleCash_49 : decode M_Tw_middleCash.2.1 49 = .ok (.iload_n 1, 1) := by decide +kernel
theorem d_Tw_middleCash_50 : decode M_Tw_middleCash.2.1 50 = .ok (.aload_n 0, 1) := by decide +kernel
theorem d_Tw_middleCash_51 : decode M_Tw_middleCash.2.1 51 = .ok (.getfield 19, 3) := by decide +kernel
theorem d_Tw_middleCash_54 : decode M_Tw_middleCash.2.1 54 = .ok (.iload_n 3, 1) := by decide +kernel
theorem d_Tw_middleCash_55 : decode M_Tw_middleCash.2.1 55 = .ok (.iaload, 1) := by decide +kernel
theorem d_Tw_middleCash_56 : decode M_Tw_middleCash.2.1 56 = .ok (.invokevirtual 72, 3) := by decide +kernel
theorem d_Tw_middleCash_59 : decode M_Tw_middleCash.2.1 59 = .ok (.iload_n 2, 1) := by decide +kernel
theorem d_Tw_middleCash_60 : decode M_Tw_middleCash.2.1 60 = .ok (.if_icmp .le 10, 3) := by decide +kernel
theorem d_Tw_middleCash_63 : decode M_Tw_middleCash.2.1 63 = .ok (.aload_n 0, 1) := by decide +kernel
theorem d_Tw_middleCash_64 : decode M_Tw_middleCash.2.1 64 = .ok (.getfield 19, 3) := by decide +kernel
theorem d_Tw_middleCash_67 : decode M_Tw_middleCash.2.1 67 = .ok (.iload_n 3, 1) := by decide +kernel
theorem d_Tw_middleCash_68 : decode M_Tw_middleCash.2.1 68 = .ok (.iaload, 1) := by decide +kernel
theorem d_Tw_middleCash_69 : decode M_Tw_middleCash.2.1 69 = .ok (.ireturn, 1) := by decide +kernel
theorem d_Tw_middleCash_70 : decode M_Tw_middleCash.2.1 70 = .ok (.iinc 3 1, 3) := by decide +kernel
theorem d_Tw_middleCash_73 : decode M_Tw_middleCash.2.1 73 = .ok (.goto (-59), 3) := by decide +kernel
theorem d_Tw_middleCash_76 : decode M_Tw_middleCash.2.1 76 = .ok (.ldc 66, 2) := by decide +kernel
theorem d_Tw_middleCash_78 : decode M_Tw_middleCash.2.1 78 = .ok (.ireturn, 1) := by decide +kernel
