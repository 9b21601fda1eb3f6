def M_Mk_agent : mj_M := (⟨"MarketTown", "agent", "(II)I"⟩, prog_1_method_2_code, 3, some .int, 2, 42)
theorem d_Mk_agent_0 : decode M_Mk_agent.2.1 0 = .ok (.iload_n 1, 1) := by decide +kernel
theorem d_Mk_agent_1 : decode M_Mk_agent.2.1 1 = .ok (.invokestatic 45, 3) := by decide +kernel
theorem d_Mk_agent_4 : decode M_Mk_agent.2.1 4 = .ok (.ifCond .eq 13, 3) := by decide +kernel
theorem d_Mk_agent_7 : decode M_Mk_agent.2.1 7 = .ok (.iload_n 2, 1) := by decide +kernel
theorem d_Mk_agent_8 : decode M_Mk_agent.2.1 8 = .ok (.iconst 0, 1) := by decide +kernel
theorem d_Mk_agent_9 : decode M_Mk_agent.2.1 9 = .ok (.ldc 49, 2) := by decide +kernel
theorem d_Mk_agent_11 : decode M_Mk_agent.2.1 11 = .ok (.invokestatic 50, 3) := by decide +kernel
theorem d_Mk_agent_14 : decode M_Mk_agent.2.1 14 = .ok (.ifCond .ne 6, 3) := by decide +kernel
theorem d_Mk_agent_17 : decode M_Mk_agent.2.1 17 = .ok (.ldc 54, 2) := by decide +kernel
theorem d_Mk_agent_19 : decode M_Mk_agent.2.1 19 = .ok (.ireturn, 1) := by decide +kernel
theorem d_Mk_agent_20 : decode M_Mk_agent.2.1 20 = .ok (.aload_n 0, 1) := by decide +kernel
theorem d_Mk_agent_21 : decode M_Mk_agent.2.1 21 = .ok (.getfield 12, 3) := by decide +kernel
theorem d_Mk_agent_24 : decode M_Mk_agent.2.1 24 = .ok (.getfield 55, 3) := by decide +kernel
theorem d_Mk_agent_27 : decode M_Mk_agent.2.1 27 = .ok (.bipush 12, 2) := by decide +kernel
theorem d_Mk_agent_29 : decode M_Mk_agent.2.1 29 = .ok (.if_icmp .lt 6, 3) := by decide +kernel
theorem d_Mk_agent_32 : decode M_Mk_agent.2.1 32 = .ok (.ldc 59, 2) := by decide +kernel
theorem d_Mk_agent_34 : decode M_Mk_agent.2.1 34 = .ok (.ireturn, 1) := by decide +kernel
theorem d_Mk_agent_35 : decode M_Mk_agent.2.1 35 = .ok (.aload_n 0, 1) := by decide +kernel
theorem d_Mk_agent_36 : decode M_Mk_agent.2.1 36 = .ok (.getfield 12, 3) := by decide +kernel
theorem d_Mk_agent_39 : decode M_Mk_agent.2.1 39 = .ok (.iload_n 1, 1) := by decide +kernel
theorem d_Mk_agent_40 : decode M_Mk_agent.2.1 40 = .ok (.iload_n 2, 1) := by decide +kernel
theorem d_Mk_agent_41 : decode M_Mk_agent.2.1 41 = .ok (.invokevirtual 60, 3) := by decide +kernel
theorem d_Mk_agent_44 : decode M_Mk_agent.2.1 44 = .ok (.ireturn, 1) := by decide +kernel
def M_Mk_isKind : mj_M := (⟨"MarketTown", "isKind", "(I)Z"⟩, prog_1_method_27_code, 1, some .boolean, 1, 22)
theorem d_Mk_isKind_0 : decode M_Mk_isKind.2.1 0 = .ok (.iload_n 0, 1) := by decide +kernel
theorem d_Mk_isKind_1 : decode M_Mk_isKind.2.1 1 = .ok (.iconst 0, 1) := by decide +kernel
theorem d_Mk_isKind_2 : decode M_Mk_isKind.2.1 2 = .ok (.iconst 5, 1) := by decide +kernel
theorem d_Mk_isKind_3 : decode M_Mk_isKind.2.1 3 = .ok (.invokestatic 50, 3) := by decide +kernel
theorem d_Mk_isKind_6 : decode M_Mk_isKind.2.1 6 = .ok (.ireturn, 1) := by decide +kernel
def M_Mk_isWithin : mj_M := (⟨"MarketTown", "isWithin", "(III)Z"⟩, prog_1_method_26_code, 3, some .boolean, 0, 0)
theorem d_Mk_isWithin_0 : decode M_Mk_isWithin.2.1 0 = .ok (.iload_n 1, 1) := by decide +kernel
theorem d_Mk_isWithin_1 : decode M_Mk_isWithin.2.1 1 = .ok (.iload_n 0, 1) := by decide +kernel
theorem d_Mk_isWithin_2 : decode M_Mk_isWithin.2.1 2 = .ok (.if_icmp .gt 12, 3) := by decide +kernel
theorem d_Mk_isWithin_5 : decode M_Mk_isWithin.2.1 5 = .ok (.iload_n 0, 1) := by decide +kernel
theorem d_Mk_isWithin_6 : decode M_Mk_isWithin.2.1 6 = .ok (.iload_n 2, 1) := by decide +kernel
theorem d_Mk_isWithin_7 : decode M_Mk_isWithin.2.1 7 = .ok (.if_icmp .gt 7, 3) := by decide +kernel
theorem d_Mk_isWithin_10 : decode M_Mk_isWithin.2.1 10 = .ok (.iconst 1, 1) := by decide +kernel
theorem d_Mk_isWithin_11 : decode M_Mk_isWithin.2.1 11 = .ok (.goto 4, 3) := by decide +kernel
theorem d_Mk_isWithin_14 : decode M_Mk_isWithin.2.1 14 = .ok (.iconst 0, 1) := by decide +kernel
theorem d_Mk_isWithin_15 : decode M_Mk_isWithin.2.1 15 = .ok (.ireturn, 1) := by decide +kernel
def M_Tw_welcome : mj_M := (⟨"MarketTown$Town", "welcome", "(II)I"⟩, prog_10_method_3_code, 4, some .int, 0, 0)
theorem d_Tw_welcome_0 : decode M_Tw_welcome.2.1 0 = .ok (.aload_n 0, 1) := by decide +kernel
theorem d_Tw_welcome_1 : decode M_Tw_welcome.2.1 1 = .ok (.getfield 59, 3) := by decide +kernel
theorem d_Tw_welcome_4 : decode M_Tw_welcome.2.1 4 = .ok (.istore_n 3, 1) := by decide +kernel
theorem d_Tw_welcome_5 : decode M_Tw_welcome.2.1 5 = .ok (.aload_n 0, 1) := by decide +kernel
theorem d_Tw_welcome_6 : decode M_Tw_welcome.2.1 6 = .ok (.getfield 15, 3) := by decide +kernel
theorem d_Tw_welcome_9 : decode M_Tw_welcome.2.1 9 = .ok (.iload_n 3, 1) := by decide +kernel
theorem d_Tw_welcome_10 : decode M_Tw_welcome.2.1 10 = .ok (.iload_n 1, 1) := by decide +kernel
theorem d_Tw_welcome_11 : decode M_Tw_welcome.2.1 11 = .ok (.iastore, 1) := by decide +kernel
theorem d_Tw_welcome_12 : decode M_Tw_welcome.2.1 12 = .ok (.aload_n 0, 1) := by decide +kernel
theorem d_Tw_welcome_13 : decode M_Tw_welcome.2.1 13 = .ok (.getfield 19, 3) := by decide +kernel
theorem d_Tw_welcome_16 : decode M_Tw_welcome.2.1 16 = .ok (.iload_n 3, 1) := by decide +kernel
theorem d_Tw_welcome_17 : decode M_Tw_welcome.2.1 17 = .ok (.iload_n 2, 1) := by decide +kernel
theorem d_Tw_welcome_18 : decode M_Tw_welcome.2.1 18 = .ok (.iastore, 1) := by decide +kernel
theorem d_Tw_welcome_19 : decode M_Tw_welcome.2.1 19 = .ok (.aload_n 0, 1) := by decide +kernel
theorem d_Tw_welcome_20 : decode M_Tw_welcome.2.1 20 = .ok (.getfield 25, 3) := by decide +kernel
theorem d_Tw_welcome_23 : decode M_Tw_welcome.2.1 23 = .ok (.iload_n 3, 1) := by decide +kernel
theorem d_Tw_welcome_24 : decode M_Tw_welcome.2.1 24 = .ok (.ldc 66, 2) := by decide +kernel
theorem d_Tw_welcome_26 : decode M_Tw_welcome.2.1 26 = .ok (.iastore, 1) := by decide +kernel
theorem d_Tw_welcome_27 : decode M_Tw_welcome.2.1 27 = .ok (.aload_n 0, 1) := by decide +kernel
theorem d_Tw_welcome_28 : decode M_Tw_welcome.2.1 28 = .ok (.dup, 1) := by decide +kernel
theorem d_Tw_welcome_29 : decode M_Tw_welcome.2.1 29 = .ok (.getfield 59, 3) := by decide +kernel
theorem d_Tw_welcome_32 : decode M_Tw_welcome.2.1 32 = .ok (.iconst 1, 1) := by decide +kernel
theorem d_Tw_welcome_33 : decode M_Tw_welcome.2.1 33 = .ok (.iadd, 1) := by decide +kernel
theorem d_Tw_welcome_34 : decode M_Tw_welcome.2.1 34 = .ok (.putfield 59, 3) := by decide +kernel
theorem d_Tw_welcome_37 : decode M_Tw_welcome.2.1 37 = .ok (.iload_n 3, 1) := by decide +kernel
theorem d_Tw_welcome_38 : decode M_Tw_welcome.2.1 38 = .ok (.ireturn, 1) := by decide +kernel
def M_Mk_give : mj_M := (⟨"MarketTown", "give", "(III)I"⟩, prog_1_method_3_code, 4, some .int, 2, 43)
theorem d_Mk_give_0 : decode M_Mk_give.2.1 0 = .ok (.aload_n 0, 1) := by decide +kernel
theorem d_Mk_give_1 : decode M_Mk_give.2.1 1 = .ok (.getfield 12, 3) := by decide +kernel
theorem d_Mk_give_4 : decode M_Mk_give.2.1 4 = .ok (.iload_n 1, 1) := by decide +kernel
theorem d_Mk_give_5 : decode M_Mk_give.2.1 5 = .ok (.invokevirtual 64, 3) := by decide +kernel
theorem d_Mk_give_8 : decode M_Mk_give.2.1 8 = .ok (.ifCond .eq 21, 3) := by decide +kernel
theorem d_Mk_give_11 : decode M_Mk_give.2.1 11 = .ok (.iload_n 2, 1) := by decide +kernel
theorem d_Mk_give_12 : decode M_Mk_give.2.1 12 = .ok (.invokestatic 67, 3) := by decide +kernel
theorem d_Mk_give_15 : decode M_Mk_give.2.1 15 = .ok (.ifCond .eq 14, 3) := by decide +kernel
theorem d_Mk_give_18 : decode M_Mk_give.2.1 18 = .ok (.iload_n 3, 1) := by decide +kernel
theorem d_Mk_give_19 : decode M_Mk_give.2.1 19 = .ok (.iconst 1, 1) := by decide +kernel
theorem d_Mk_give_20 : decode M_Mk_give.2.1 20 = .ok (.sipush 999, 3) := by decide +kernel
theorem d_Mk_give_23 : decode M_Mk_give.2.1 23 = .ok (.invokestatic 50, 3) := by decide +kernel
theorem d_Mk_give_26 : decode M_Mk_give.2.1 26 = .ok (.ifCond .ne 6, 3) := by decide +kernel
theorem d_Mk_give_29 : decode M_Mk_give.2.1 29 = .ok (.ldc 54, 2) := by decide +kernel
theorem d_Mk_give_31 : decode M_Mk_give.2.1 31 = .ok (.ireturn, 1) := by decide +kernel
theorem d_Mk_give_32 : decode M_Mk_give.2.1 32 = .ok (.aload_n 0, 1) := by decide +kernel
theorem d_Mk_give_33 : decode M_Mk_give.2.1 33 = .ok (.getfield 12, 3) := by decide +kernel
theorem d_Mk_give_36 : decode M_Mk_give.2.1 36 = .ok (.getfield 70, 3) := by decide +kernel
theorem d_Mk_give_39 : decode M_Mk_give.2.1 39 = .ok (.iload_n 1, 1) := by decide +kernel
theorem d_Mk_give_40 : decode M_Mk_give.2.1 40 = .ok (.iload_n 2, 1) := by decide +kernel
theorem d_Mk_give_41 : decode M_Mk_give.2.1 41 = .ok (.iload_n 3, 1) := by decide +kernel
theorem d_Mk_give_42 : decode M_Mk_give.2.1 42 = .ok (.invokevirtual 74, 3) := by decide +kernel
theorem d_Mk_give_45 : decode M_Mk_give.2.1 45 = .ok (.aload_n 0, 1) := by decide +kernel
theorem d_Mk_give_46 : decode M_Mk_give.2.1 46 = .ok (.getfield 12, 3) := by decide +kernel
theorem d_Mk_give_49 : decode M_Mk_give.2.1 49 = .ok (.getfield 70, 3) := by decide +kernel
theorem d_Mk_give_52 : decode M_Mk_give.2.1 52 = .ok (.iload_n 1, 1) := by decide +kernel
theorem d_Mk_give_53 : decode M_Mk_give.2.1 53 = .ok (.iload_n 2, 1) := by decide +kernel
theorem d_Mk_give_54 : decode M_Mk_give.2.1 54 = .ok (.invokevirtual 80, 3) := by decide +kernel
theorem d_Mk_give_57 : decode M_Mk_give.2.1 57 = .ok (.ireturn, 1) := by decide +kernel
def M_Tw_isThere : mj_M := (⟨"MarketTown$Town", "isThere", "(I)Z"⟩, prog_10_method_2_code, 2, some .boolean, 1, 22)
theorem d_Tw_isThere_0 : decode M_Tw_isThere.2.1 0 = .ok (.iload_n 1, 1) := by decide +kernel
theorem d_Tw_isThere_1 : decode M_Tw_isThere.2.1 1 = .ok (.iconst 0, 1) := by decide +kernel
theorem d_Tw_isThere_2 : decode M_Tw_isThere.2.1 2 = .ok (.aload_n 0, 1) := by decide +kernel
theorem d_Tw_isThere_3 : decode M_Tw_isThere.2.1 3 = .ok (.getfield 59, 3) := by decide +kernel
theorem d_Tw_isThere_6 : decode M_Tw_isThere.2.1 6 = .ok (.iconst 1, 1) := by decide +kernel
theorem d_Tw_isThere_7 : decode M_Tw_isThere.2.1 7 = .ok (.isub, 1) := by decide +kernel
theorem d_Tw_isThere_8 : decode M_Tw_isThere.2.1 8 = .ok (.invokestatic 62, 3) := by decide +kernel
theorem d_Tw_isThere_11 : decode M_Tw_isThere.2.1 11 = .ok (.ireturn, 1) := by decide +kernel
def M_Mk_isGood : mj_M := (⟨"MarketTown", "isGood", "(I)Z"⟩, prog_1_method_28_code, 1, some .boolean, 1, 22)
theorem d_Mk_isGood_0 : decode M_Mk_isGood.2.1 0 = .ok (.iload_n 0, 1) := by decide +kernel
theorem d_Mk_isGood_1 : decode M_Mk_isGood.2.1 1 = .ok (.iconst 0, 1) := by decide +kernel
theorem d_Mk_isGood_2 : decode M_Mk_isGood.2.1 2 = .ok (.iconst 4, 1) := by decide +kernel
theorem d_Mk_isGood_3 : decode M_Mk_isGood.2.1 3 = .ok (.invokestatic 50, 3) := by decide +kernel
theorem d_Mk_isGood_6 : decode M_Mk_isGood.2.1 6 = .ok (.ireturn, 1) := by decide +kernel
def M_Sk_bring : mj_M := (⟨"MarketTown$Stock", "bring", "(III)V"⟩, prog_8_method_5_code, 5, none, 0, 0)
theorem d_Sk_bring_0 : decode M_Sk_bring.2.1 0 = .ok (.iload_n 1, 1) := by decide +kernel
theorem d_Sk_bring_1 : decode M_Sk_bring.2.1 1 = .ok (.iconst 5, 1) := by decide +kernel
theorem d_Sk_bring_2 : decode M_Sk_bring.2.1 2 = .ok (.imul, 1) := by decide +kernel
theorem d_Sk_bring_3 : decode M_Sk_bring.2.1 3 = .ok (.iload_n 2, 1) := by decide +kernel
theorem d_Sk_bring_4 : decode M_Sk_bring.2.1 4 = .ok (.iadd, 1) := by decide +kernel
theorem d_Sk_bring_5 : decode M_Sk_bring.2.1 5 = .ok (.istore 4, 2) := by decide +kernel
theorem d_Sk_bring_7 : decode M_Sk_bring.2.1 7 = .ok (.aload_n 0, 1) := by decide +kernel
theorem d_Sk_bring_8 : decode M_Sk_bring.2.1 8 = .ok (.getfield 9, 3) := by decide +kernel
theorem d_Sk_bring_11 : decode M_Sk_bring.2.1 11 = .ok (.iload 4, 2) := by decide +kernel
theorem d_Sk_bring_13 : decode M_Sk_bring.2.1 13 = .ok (.bipush 10, 2) := by decide +kernel
theorem d_Sk_bring_15 : decode M_Sk_bring.2.1 15 = .ok (.imul, 1) := by decide +kernel
theorem d_Sk_bring_16 : decode M_Sk_bring.2.1 16 = .ok (.dup2, 1) := by decide +kernel
theorem d_Sk_bring_17 : decode M_Sk_bring.2.1 17 = .ok (.iaload, 1) := by decide +kernel
theorem d_Sk_bring_18 : decode M_Sk_bring.2.1 18 = .ok (.iload_n 3, 1) := by decide +kernel
theorem d_Sk_bring_19 : decode M_Sk_bring.2.1 19 = .ok (.iadd, 1) := by decide +kernel
theorem d_Sk_bring_20 : decode M_Sk_bring.2.1 20 = .ok (.iastore, 1) := by decide +kernel
theorem d_Sk_bring_21 : decode M_Sk_bring.2.1 21 = .ok (.aload_n 0, 1) := by decide +kernel
theorem d_Sk_bring_22 : decode M_Sk_bring.2.1 22 = .ok (.getfield 15, 3) := by decide +kernel
theorem d_Sk_bring_25 : decode M_Sk_bring.2.1 25 = .ok (.iload 4, 2) := by decide +kernel
theorem d_Sk_bring_27 : decode M_Sk_bring.2.1 27 = .ok (.dup2, 1) := by decide +kernel
theorem d_Sk_bring_28 : decode M_Sk_bring.2.1 28 = .ok (.iaload, 1) := by decide +kernel
theorem d_Sk_bring_29 : decode M_Sk_bring.2.1 29 = .ok (.iload_n 3, 1) := by decide +kernel
theorem d_Sk_bring_30 : decode M_Sk_bring.2.1 30 = .ok (.iadd, 1) := by decide +kernel
theorem d_Sk_bring_31 : decode M_Sk_bring.2.1 31 = .ok (.iastore, 1) := by decide +kernel
theorem d_Sk_bring_32 : decode M_Sk_bring.2.1 32 = .ok (.return_, 1) := by decide +kernel
def M_Sk_all : mj_M := (⟨"MarketTown$Stock", "all", "(II)I"⟩, prog_8_method_2_code, 3, some .int, 0, 0)
theorem d_Sk_all_0 : decode M_Sk_all.2.1 0 = .ok (.aload_n 0, 1) := by decide +kernel
theorem d_Sk_all_1 : decode M_Sk_all.2.1 1 = .ok (.getfield 15, 3) := by decide +kernel
theorem d_Sk_all_4 : decode M_Sk_all.2.1 4 = .ok (.iload_n 1, 1) := by decide +kernel
theorem d_Sk_all_5 : decode M_Sk_all.2.1 5 = .ok (.iconst 5, 1) := by decide +kernel
theorem d_Sk_all_6 : decode M_Sk_all.2.1 6 = .ok (.imul, 1) := by decide +kernel
theorem d_Sk_all_7 : decode M_Sk_all.2.1 7 = .ok (.iload_n 2, 1) := by decide +kernel
theorem d_Sk_all_8 : decode M_Sk_all.2.1 8 = .ok (.iadd, 1) := by decide +kernel
theorem d_Sk_all_9 : decode M_Sk_all.2.1 9 = .ok (.iaload, 1) := by decide +kernel
theorem d_Sk_all_10 : decode M_Sk_all.2.1 10 = .ok (.ireturn, 1) := by decide +kernel
def M_Mk_good : mj_M := (⟨"MarketTown", "good", "(III)I"⟩, prog_1_method_4_code, 4, some .int, 2, 42)
theorem d_Mk_good_0 : decode M_Mk_good.2.1 0 = .ok (.iload_n 1, 1) := by decide +kernel
theorem d_Mk_good_1 : decode M_Mk_good.2.1 1 = .ok (.invokestatic 67, 3) := by decide +kernel
theorem d_Mk_good_4 : decode M_Mk_good.2.1 4 = .ok (.ifCond .eq 22, 3) := by decide +kernel
theorem d_Mk_good_7 : decode M_Mk_good.2.1 7 = .ok (.iload_n 2, 1) := by decide +kernel
theorem d_Mk_good_8 : decode M_Mk_good.2.1 8 = .ok (.iconst 0, 1) := by decide +kernel
theorem d_Mk_good_9 : decode M_Mk_good.2.1 9 = .ok (.bipush 9, 2) := by decide +kernel
theorem d_Mk_good_11 : decode M_Mk_good.2.1 11 = .ok (.invokestatic 50, 3) := by decide +kernel
theorem d_Mk_good_14 : decode M_Mk_good.2.1 14 = .ok (.ifCond .eq 12, 3) := by decide +kernel
theorem d_Mk_good_17 : decode M_Mk_good.2.1 17 = .ok (.iload_n 3, 1) := by decide +kernel
theorem d_Mk_good_18 : decode M_Mk_good.2.1 18 = .ok (.iconst 0, 1) := by decide +kernel
theorem d_Mk_good_19 : decode M_Mk_good.2.1 19 = .ok (.iconst 2, 1) := by decide +kernel
theorem d_Mk_good_20 : decode M_Mk_good.2.1 20 = .ok (.invokestatic 50, 3) := by decide +kernel
theorem d_Mk_good_23 : decode M_Mk_good.2.1 23 = .ok (.ifCond .ne 6, 3) := by decide +kernel
theorem d_Mk_good_26 : decode M_Mk_good.2.1 26 = .ok (.ldc 54, 2) := by decide +kernel
theorem d_Mk_good_28 : decode M_Mk_good.2.1 28 = .ok (.ireturn, 1) := by decide +kernel
theorem d_Mk_good_29 : decode M_Mk_good.2.1 29 = .ok (.aload_n 0, 1) := by decide +kernel
theorem d_Mk_good_30 : decode M_Mk_good.2.1 30 = .ok (.getfield 12, 3) := by decide +kernel
theorem d_Mk_good_33 : decode M_Mk_good.2.1 33 = .ok (.getfield 83, 3) := by decide +kernel
theorem d_Mk_good_36 : decode M_Mk_good.2.1 36 = .ok (.iload_n 1, 1) := by decide +kernel
theorem d_Mk_good_37 : decode M_Mk_good.2.1 37 = .ok (.iconst 0, 1) := by decide +kernel
theorem d_Mk_good_38 : decode M_Mk_good.2.1 38 = .ok (.iload_n 2, 1) := by decide +kernel
theorem d_Mk_good_39 : decode M_Mk_good.2.1 39 = .ok (.invokevirtual 89, 3) := by decide +kernel
theorem d_Mk_good_42 : decode M_Mk_good.2.1 42 = .ok (.aload_n 0, 1) := by decide +kernel
theorem d_Mk_good_43 : decode M_Mk_good.2.1 43 = .ok (.getfield 12, 3) := by decide +kernel
theorem d_Mk_good_46 : decode M_Mk_good.2.1 46 = .ok (.getfield 83, 3) := by decide +kernel
theorem d_Mk_good_49 : decode M_Mk_good.2.1 49 = .ok (.iload_n 1, 1) := by decide +kernel
theorem d_Mk_good_50 : decode M_Mk_good.2.1 50 = .ok (.iconst 1, 1) := by decide +kernel
theorem d_Mk_good_51 : decode M_Mk_good.2.1 51 = .ok (.iload_n 3, 1) := by decide +kernel
theorem d_Mk_good_52 : decode M_Mk_good.2.1 52 = .ok (.invokevirtual 89, 3) := by decide +kernel
theorem d_Mk_good_55 : decode M_Mk_good.2.1 55 = .ok (.iconst 0, 1) := by decide +kernel
theorem d_Mk_good_56 : decode M_Mk_good.2.1 56 = .ok (.ireturn, 1) := by decide +kernel
def M_Wr_put : mj_M := (⟨"MarketTown$Wares", "put", "(III)V"⟩, prog_11_method_3_code, 4, none, 0, 0)
theorem d_Wr_put_0 : decode M_Wr_put.2.1 0 = .ok (.aload_n 0, 1) := by decide +kernel
theorem d_Wr_put_1 : decode M_Wr_put.2.1 1 = .ok (.getfield 11, 3) := by decide +kernel
theorem d_Wr_put_4 : decode M_Wr_put.2.1 4 = .ok (.iload_n 1, 1) := by decide +kernel
theorem d_Wr_put_5 : decode M_Wr_put.2.1 5 = .ok (.bipush 11, 2) := by decide +kernel
theorem d_Wr_put_7 : decode M_Wr_put.2.1 7 = .ok (.imul, 1) := by decide +kernel
theorem d_Wr_put_8 : decode M_Wr_put.2.1 8 = .ok (.iload_n 2, 1) := by decide +kernel
theorem d_Wr_put_9 : decode M_Wr_put.2.1 9 = .ok (.iadd, 1) := by decide +kernel
theorem d_Wr_put_10 : decode M_Wr_put.2.1 10 = .ok (.iload_n 3, 1) := by decide +kernel
theorem d_Wr_put_11 : decode M_Wr_put.2.1 11 = .ok (.iastore, 1) := by decide +kernel
theorem d_Wr_put_12 : decode M_Wr_put.2.1 12 = .ok (.return_, 1) := by decide +kernel
def M_Mk_recipe : mj_M := (⟨"MarketTown", "recipe", "(IIIII)I"⟩, prog_1_method_5_code, 6, some .int, 2, 42)
theorem d_Mk_recipe_0 : decode M_Mk_recipe.2.1 0 = .ok (.iload_n 1, 1) := by decide +kernel
theorem d_Mk_recipe_1 : decode M_Mk_recipe.2.1 1 = .ok (.invokestatic 67, 3) := by decide +kernel
theorem d_Mk_recipe_4 : decode M_Mk_recipe.2.1 4 = .ok (.ifCond .eq 18, 3) := by decide +kernel
theorem d_Mk_recipe_7 : decode M_Mk_recipe.2.1 7 = .ok (.iload_n 2, 1) := by decide +kernel
theorem d_Mk_recipe_8 : decode M_Mk_recipe.2.1 8 = .ok (.invokestatic 67, 3) := by decide +kernel
theorem d_Mk_recipe_11 : decode M_Mk_recipe.2.1 11 = .ok (.ifCond .eq 11, 3) := by decide +kernel
theorem d_Mk_recipe_14 : decode M_Mk_recipe.2.1 14 = .ok (.iload 4, 2) := by decide +kernel
theorem d_Mk_recipe_16 : decode M_Mk_recipe.2.1 16 = .ok (.invokestatic 67, 3) := by decide +kernel
theorem d_Mk_recipe_19 : decode M_Mk_recipe.2.1 19 = .ok (.ifCond .ne 6, 3) := by decide +kernel
theorem d_Mk_recipe_22 : decode M_Mk_recipe.2.1 22 = .ok (.ldc 54, 2) := by decide +kernel
theorem d_Mk_recipe_24 : decode M_Mk_recipe.2.1 24 = .ok (.ireturn, 1) := by decide +kernel
theorem d_Mk_recipe_25 : decode M_Mk_recipe.2.1 25 = .ok (.iload_n 3, 1) := by decide +kernel
theorem d_Mk_recipe_26 : decode M_Mk_recipe.2.1 26 = .ok (.iconst (-1), 1) := by decide +kernel
theorem d_Mk_recipe_27 : decode M_Mk_recipe.2.1 27 = .ok (.bipush 9, 2) := by decide +kernel
theorem d_Mk_recipe_29 : decode M_Mk_recipe.2.1 29 = .ok (.invokestatic 50, 3) := by decide +kernel
theorem d_Mk_recipe_32 : decode M_Mk_recipe.2.1 32 = .ok (.ifCond .eq 14, 3) := by decide +kernel
theorem d_Mk_recipe_35 : decode M_Mk_recipe.2.1 35 = .ok (.iload 5, 2) := by decide +kernel
theorem d_Mk_recipe_37 : decode M_Mk_recipe.2.1 37 = .ok (.iconst 0, 1) := by decide +kernel
theorem d_Mk_recipe_38 : decode M_Mk_recipe.2.1 38 = .ok (.bipush 9, 2) := by decide +kernel
theorem d_Mk_recipe_40 : decode M_Mk_recipe.2.1 40 = .ok (.invokestatic 50, 3) := by decide +kernel
theorem d_Mk_recipe_43 : decode M_Mk_recipe.2.1 43 = .ok (.ifCond .ne 6, 3) := by decide +kernel
theorem d_Mk_recipe_46 : decode M_Mk_recipe.2.1 46 = .ok (.ldc 54, 2) := by decide +kernel
theorem d_Mk_recipe_48 : decode M_Mk_recipe.2.1 48 = .ok (.ireturn, 1) := by decide +kernel
theorem d_Mk_recipe_49 : decode M_Mk_recipe.2.1 49 = .ok (.aload_n 0, 1) := by decide +kernel
theorem d_Mk_recipe_50 : decode M_Mk_recipe.2.1 50 = .ok (.getfield 12, 3) := by decide +kernel
theorem d_Mk_recipe_53 : decode M_Mk_recipe.2.1 53 = .ok (.getfield 83, 3) := by decide +kernel
theorem d_Mk_recipe_56 : decode M_Mk_recipe.2.1 56 = .ok (.iload_n 1, 1) := by decide +kernel
theorem d_Mk_recipe_57 : decode M_Mk_recipe.2.1 57 = .ok (.bipush 7, 2) := by decide +kernel
theorem d_Mk_recipe_59 : decode M_Mk_recipe.2.1 59 = .ok (.iload_n 2, 1) := by decide +kernel
theorem d_Mk_recipe_60 : decode M_Mk_recipe.2.1 60 = .ok (.invokevirtual 89, 3) := by decide +kernel
theorem d_Mk_recipe_63 : decode M_Mk_recipe.2.1 63 = .ok (.aload_n 0, 1) := by decide +kernel
theorem d_Mk_recipe_64 : decode M_Mk_recipe.2.1 64 = .ok (.getfield 12, 3) := by decide +kernel
theorem d_Mk_recipe_67 : decode M_Mk_recipe.2.1 67 = .ok (.getfield 83, 3) := by decide +kernel
theorem d_Mk_recipe_70 : decode M_Mk_recipe.2.1 70 = .ok (.iload_n 1, 1) := by decide +kernel
theorem d_Mk_recipe_71 : decode M_Mk_recipe.2.1 71 = .ok (.bipush 8, 2) := by decide +kernel
theorem d_Mk_recipe_73 : decode M_Mk_recipe.2.1 73 = .ok (.iload_n 3, 1) := by decide +kernel
theorem d_Mk_recipe_74 : decode M_Mk_recipe.2.1 74 = .ok (.invokevirtual 89, 3) := by decide +kernel
theorem d_Mk_recipe_77 : decode M_Mk_recipe.2.1 77 = .ok (.aload_n 0, 1) := by decide +kernel
theorem d_Mk_recipe_78 : decode M_Mk_recipe.2.1 78 = .ok (.getfield 12, 3) := by decide +kernel
theorem d_Mk_recipe_81 : decode M_Mk_recipe.2.1 81 = .ok (.getfield 83, 3) := by decide +kernel
theorem d_Mk_recipe_84 : decode M_Mk_recipe.2.1 84 = .ok (.iload_n 1, 1) := by decide +kernel
theorem d_Mk_recipe_85 : decode M_Mk_recipe.2.1 85 = .ok (.bipush 9, 2) := by decide +kernel
theorem d_Mk_recipe_87 : decode M_Mk_recipe.2.1 87 = .ok (.iload 4, 2) := by decide +kernel
theorem d_Mk_recipe_89 : decode M_Mk_recipe.2.1 89 = .ok (.invokevirtual 89, 3) := by decide +kernel
theorem d_Mk_recipe_92 : decode M_Mk_recipe.2.1 92 = .ok (.aload_n 0, 1) := by decide +kernel
theorem d_Mk_recipe_93 : decode M_Mk_recipe.2.1 93 = .ok (.getfield 12, 3) := by decide +kernel
theorem d_Mk_recipe_96 : decode M_Mk_recipe.2.1 96 = .ok (.getfield 83, 3) := by decide +kernel
theorem d_Mk_recipe_99 : decode M_Mk_recipe.2.1 99 = .ok (.iload_n 1, 1) := by decide +kernel
theorem d_Mk_recipe_100 : decode M_Mk_recipe.2.1 100 = .ok (.bipush 10, 2) := by decide +kernel
theorem d_Mk_recipe_102 : decode M_Mk_recipe.2.1 102 = .ok (.iload 5, 2) := by decide +kernel
theorem d_Mk_recipe_104 : decode M_Mk_recipe.2.1 104 = .ok (.invokevirtual 89, 3) := by decide +kernel
theorem d_Mk_recipe_107 : decode M_Mk_recipe.2.1 107 = .ok (.iconst 0, 1) := by decide +kernel
theorem d_Mk_recipe_108 : decode M_Mk_recipe.2.1 108 = .ok (.ireturn, 1) := by decide +kernel
def M_Mk_policy : mj_M := (⟨"MarketTown", "policy", "(II)I"⟩, prog_1_method_6_code, 3, some .int, 1, 22)
theorem d_Mk_policy_0 : decode M_Mk_policy.2.1 0 = .ok (.iload_n 1, 1) := by decide +kernel
theorem d_Mk_policy_1 : decode M_Mk_policy.2.1 1 = .ok (.iconst 0, 1) := by decide +kernel
theorem d_Mk_policy_2 : decode M_Mk_policy.2.1 2 = .ok (.sipush 1000, 3) := by decide +kernel
theorem d_Mk_policy_5 : decode M_Mk_policy.2.1 5 = .ok (.invokestatic 50, 3) := by decide +kernel
theorem d_Mk_policy_8 : decode M_Mk_policy.2.1 8 = .ok (.ifCond .eq 13, 3) := by decide +kernel
theorem d_Mk_policy_11 : decode M_Mk_policy.2.1 11 = .ok (.iload_n 2, 1) := by decide +kernel
theorem d_Mk_policy_12 : decode M_Mk_policy.2.1 12 = .ok (.iconst 0, 1) := by decide +kernel
theorem d_Mk_policy_13 : decode M_Mk_policy.2.1 13 = .ok (.bipush 100, 2) := by decide +kernel
theorem d_Mk_policy_15 : decode M_Mk_policy.2.1 15 = .ok (.invokestatic 50, 3) := by decide +kernel
theorem d_Mk_policy_18 : decode M_Mk_policy.2.1 18 = .ok (.ifCond .ne 6, 3) := by decide +kernel
theorem d_Mk_policy_21 : decode M_Mk_policy.2.1 21 = .ok (.ldc 54, 2) := by decide +kernel
theorem d_Mk_policy_23 : decode M_Mk_policy.2.1 23 = .ok (.ireturn, 1) := by decide +kernel
theorem d_Mk_policy_24 : decode M_Mk_policy.2.1 24 = .ok (.aload_n 0, 1) := by decide +kernel
theorem d_Mk_policy_25 : decode M_Mk_policy.2.1 25 = .ok (.getfield 12, 3) := by decide +kernel
theorem d_Mk_policy_28 : decode M_Mk_policy.2.1 28 = .ok (.iload_n 1, 1) := by decide +kernel
theorem d_Mk_policy_29 : decode M_Mk_policy.2.1 29 = .ok (.putfield 92, 3) := by decide +kernel
theorem d_Mk_policy_32 : decode M_Mk_policy.2.1 32 = .ok (.aload_n 0, 1) := by decide +kernel
theorem d_Mk_policy_33 : decode M_Mk_policy.2.1 33 = .ok (.getfield 12, 3) := by decide +kernel
theorem d_Mk_policy_36 : decode M_Mk_policy.2.1 36 = .ok (.iload_n 2, 1) := by decide +kernel
theorem d_Mk_policy_37 : decode M_Mk_policy.2.1 37 = .ok (.putfield 95, 3) := by decide +kernel
theorem d_Mk_policy_40 : decode M_Mk_policy.2.1 40 = .ok (.iconst 0, 1) := by decide +kernel
theorem d_Mk_policy_41 : decode M_Mk_policy.2.1 41 = .ok (.ireturn, 1) := by decide +kernel
def M_Mk_lots : mj_M := (⟨"MarketTown", "lots", "(I)I"⟩, prog_1_method_7_code, 2, some .int, 0, 0)
theorem d_Mk_lots_0 : decode M_Mk_lots.2.1 0 = .ok (.iload_n 1, 1) := by decide +kernel
theorem d_Mk_lots_1 : decode M_Mk_lots.2.1 1 = .ok (.ifCond .ge 6, 3) := by decide +kernel
theorem d_Mk_lots_4 : decode M_Mk_lots.2.1 4 = .ok (.ldc 54, 2) := by decide +kernel
theorem d_Mk_lots_6 : decode M_Mk_lots.2.1 6 = .ok (.ireturn, 1) := by decide +kernel
theorem d_Mk_lots_7 : decode M_Mk_lots.2.1 7 = .ok (.aload_n 0, 1) := by decide +kernel
theorem d_Mk_lots_8 : decode M_Mk_lots.2.1 8 = .ok (.getfield 12, 3) := by decide +kernel
theorem d_Mk_lots_11 : decode M_Mk_lots.2.1 11 = .ok (.iload_n 1, 1) := by decide +kernel
theorem d_Mk_lots_12 : decode M_Mk_lots.2.1 12 = .ok (.putfield 98, 3) := by decide +kernel
theorem d_Mk_lots_15 : decode M_Mk_lots.2.1 15 = .ok (.iconst 0, 1) := by decide +kernel
theorem d_Mk_lots_16 : decode M_Mk_lots.2.1 16 = .ok (.ireturn, 1) := by decide +kernel
def M_Mk_feed : mj_M := (⟨"MarketTown", "feed", "(IIIII)I"⟩, prog_1_method_8_code, 6, some .int, 1, 22)
theorem d_Mk_feed_0 : decode M_Mk_feed.2.1 0 = .ok (.aload_n 0, 1) := by decide +kernel
theorem d_Mk_feed_1 : decode M_Mk_feed.2.1 1 = .ok (.getfield 27, 3) := by decide +kernel
theorem d_Mk_feed_4 : decode M_Mk_feed.2.1 4 = .ok (.invokevirtual 101, 3) := by decide +kernel
theorem d_Mk_feed_7 : decode M_Mk_feed.2.1 7 = .ok (.ifCond .ne 6, 3) := by decide +kernel
theorem d_Mk_feed_10 : decode M_Mk_feed.2.1 10 = .ok (.ldc 59, 2) := by decide +kernel
theorem d_Mk_feed_12 : decode M_Mk_feed.2.1 12 = .ok (.ireturn, 1) := by decide +kernel
theorem d_Mk_feed_13 : decode M_Mk_feed.2.1 13 = .ok (.aload_n 0, 1) := by decide +kernel
theorem d_Mk_feed_14 : decode M_Mk_feed.2.1 14 = .ok (.getfield 27, 3) := by decide +kernel
theorem d_Mk_feed_17 : decode M_Mk_feed.2.1 17 = .ok (.iload_n 1, 1) := by decide +kernel
theorem d_Mk_feed_18 : decode M_Mk_feed.2.1 18 = .ok (.invokevirtual 105, 3) := by decide +kernel
theorem d_Mk_feed_21 : decode M_Mk_feed.2.1 21 = .ok (.aload_n 0, 1) := by decide +kernel
theorem d_Mk_feed_22 : decode M_Mk_feed.2.1 22 = .ok (.getfield 27, 3) := by decide +kernel
theorem d_Mk_feed_25 : decode M_Mk_feed.2.1 25 = .ok (.iload_n 2, 1) := by decide +kernel
theorem d_Mk_feed_26 : decode M_Mk_feed.2.1 26 = .ok (.invokevirtual 105, 3) := by decide +kernel
theorem d_Mk_feed_29 : decode M_Mk_feed.2.1 29 = .ok (.aload_n 0, 1) := by decide +kernel
theorem d_Mk_feed_30 : decode M_Mk_feed.2.1 30 = .ok (.getfield 27, 3) := by decide +kernel
theorem d_Mk_feed_33 : decode M_Mk_feed.2.1 33 = .ok (.iload_n 3, 1) := by decide +kernel
theorem d_Mk_feed_34 : decode M_Mk_feed.2.1 34 = .ok (.invokevirtual 105, 3) := by decide +kernel
theorem d_Mk_feed_37 : decode M_Mk_feed.2.1 37 = .ok (.aload_n 0, 1) := by decide +kernel
theorem d_Mk_feed_38 : decode M_Mk_feed.2.1 38 = .ok (.getfield 27, 3) := by decide +kernel
theorem d_Mk_feed_41 : decode M_Mk_feed.2.1 41 = .ok (.iload 4, 2) := by decide +kernel
theorem d_Mk_feed_43 : decode M_Mk_feed.2.1 43 = .ok (.invokevirtual 105, 3) := by decide +kernel
theorem d_Mk_feed_46 : decode M_Mk_feed.2.1 46 = .ok (.aload_n 0, 1) := by decide +kernel
theorem d_Mk_feed_47 : decode M_Mk_feed.2.1 47 = .ok (.getfield 27, 3) := by decide +kernel
theorem d_Mk_feed_50 : decode M_Mk_feed.2.1 50 = .ok (.iload 5, 2) := by decide +kernel
theorem d_Mk_feed_52 : decode M_Mk_feed.2.1 52 = .ok (.invokevirtual 105, 3) := by decide +kernel
theorem d_Mk_feed_55 : decode M_Mk_feed.2.1 55 = .ok (.aload_n 0, 1) := by decide +kernel
theorem d_Mk_feed_56 : decode M_Mk_feed.2.1 56 = .ok (.getfield 27, 3) := by decide +kernel
theorem d_Mk_feed_59 : decode M_Mk_feed.2.1 59 = .ok (.getfield 109, 3) := by decide +kernel
theorem d_Mk_feed_62 : decode M_Mk_feed.2.1 62 = .ok (.ireturn, 1) := by decide +kernel
def M_Tp_hasRoom : mj_M := (⟨"MarketTown$Tape", "hasRoom", "()Z"⟩, prog_9_method_2_code, 1, some .boolean, 0, 0)
theorem d_Tp_hasRoom_0 : decode M_Tp_hasRoom.2.1 0 = .ok (.aload_n 0, 1) := by decide +kernel
theorem d_Tp_hasRoom_1 : decode M_Tp_hasRoom.2.1 1 = .ok (.getfield 13, 3) := by decide +kernel
theorem d_Tp_hasRoom_4 : decode M_Tp_hasRoom.2.1 4 = .ok (.bipush 20, 2) := by decide +kernel
theorem d_Tp_hasRoom_6 : decode M_Tp_hasRoom.2.1 6 = .ok (.iadd, 1) := by decide +kernel
theorem d_Tp_hasRoom_7 : decode M_Tp_hasRoom.2.1 7 = .ok (.bipush 60, 2) := by decide +kernel
theorem d_Tp_hasRoom_9 : decode M_Tp_hasRoom.2.1 9 = .ok (.if_icmp .gt 7, 3) := by decide +kernel
theorem d_Tp_hasRoom_12 : decode M_Tp_hasRoom.2.1 12 = .ok (.iconst 1, 1) := by decide +kernel
theorem d_Tp_hasRoom_13 : decode M_Tp_hasRoom.2.1 13 = .ok (.goto 4, 3) := by decide +kernel
theorem d_Tp_hasRoom_16 : decode M_Tp_hasRoom.2.1 16 = .ok (.iconst 0, 1) := by decide +kernel
theorem d_Tp_hasRoom_17 : decode M_Tp_hasRoom.2.1 17 = .ok (.ireturn, 1) := by decide +kernel
def M_Tp_append : mj_M := (⟨"MarketTown$Tape", "append", "(I)V"⟩, prog_9_method_3_code, 3, none, 0, 0)
theorem d_Tp_append_0 : decode M_Tp_append.2.1 0 = .ok (.iconst 3, 1) := by decide +kernel
theorem d_Tp_append_1 : decode M_Tp_append.2.1 1 = .ok (.istore_n 2, 1) := by decide +kernel
theorem d_Tp_append_2 : decode M_Tp_append.2.1 2 = .ok (.iload_n 2, 1) := by decide +kernel
theorem d_Tp_append_3 : decode M_Tp_append.2.1 3 = .ok (.ifCond .lt 47, 3) := by decide +kernel
theorem d_Tp_append_6 : decode M_Tp_append.2.1 6 = .ok (.aload_n 0, 1) := by decide +kernel
theorem d_Tp_append_7 : decode M_Tp_append.2.1 7 = .ok (.getfield 13, 3) := by decide +kernel
theorem d_Tp_append_10 : decode M_Tp_append.2.1 10 = .ok (.bipush 60, 2) := by decide +kernel
theorem d_Tp_append_12 : decode M_Tp_append.2.1 12 = .ok (.if_icmp .ge 38, 3) := by decide +kernel
theorem d_Tp_append_15 : decode M_Tp_append.2.1 15 = .ok (.aload_n 0, 1) := by decide +kernel
theorem d_Tp_append_16 : decode M_Tp_append.2.1 16 = .ok (.getfield 9, 3) := by decide +kernel
theorem d_Tp_append_19 : decode M_Tp_append.2.1 19 = .ok (.aload_n 0, 1) := by decide +kernel
theorem d_Tp_append_20 : decode M_Tp_append.2.1 20 = .ok (.getfield 13, 3) := by decide +kernel
theorem d_Tp_append_23 : decode M_Tp_append.2.1 23 = .ok (.iload_n 1, 1) := by decide +kernel
theorem d_Tp_append_24 : decode M_Tp_append.2.1 24 = .ok (.bipush 8, 2) := by decide +kernel
theorem d_Tp_append_26 : decode M_Tp_append.2.1 26 = .ok (.iload_n 2, 1) := by decide +kernel
theorem d_Tp_append_27 : decode M_Tp_append.2.1 27 = .ok (.imul, 1) := by decide +kernel
theorem d_Tp_append_28 : decode M_Tp_append.2.1 28 = .ok (.iushr, 1) := by decide +kernel
theorem d_Tp_append_29 : decode M_Tp_append.2.1 29 = .ok (.sipush 255, 3) := by decide +kernel
theorem d_Tp_append_32 : decode M_Tp_append.2.1 32 = .ok (.iand, 1) := by decide +kernel
theorem d_Tp_append_33 : decode M_Tp_append.2.1 33 = .ok (.iastore, 1) := by decide +kernel
theorem d_Tp_append_34 : decode M_Tp_append.2.1 34 = .ok (.aload_n 0, 1) := by decide +kernel
theorem d_Tp_append_35 : decode M_Tp_append.2.1 35 = .ok (.dup, 1) := by decide +kernel
theorem d_Tp_append_36 : decode M_Tp_append.2.1 36 = .ok (.getfield 13, 3) := by decide +kernel
theorem d_Tp_append_39 : decode M_Tp_append.2.1 39 = .ok (.iconst 1, 1) := by decide +kernel
theorem d_Tp_append_40 : decode M_Tp_append.2.1 40 = .ok (.iadd, 1) := by decide +kernel
theorem d_Tp_append_41 : decode M_Tp_append.2.1 41 = .ok (.putfield 13, 3) := by decide +kernel
theorem d_Tp_append_44 : decode M_Tp_append.2.1 44 = .ok (.iinc 2 (-1), 3) := by decide +kernel
theorem d_Tp_append_47 : decode M_Tp_append.2.1 47 = .ok (.goto (-45), 3) := by decide +kernel
theorem d_Tp_append_50 : decode M_Tp_append.2.1 50 = .ok (.return_, 1) := by decide +kernel
def M_Mk_trim : mj_M := (⟨"MarketTown", "trim", "(I)I"⟩, prog_1_method_9_code, 2, some .int, 1, 22)
theorem d_Mk_trim_0 : decode M_Mk_trim.2.1 0 = .ok (.iload_n 1, 1) := by decide +kernel
theorem d_Mk_trim_1 : decode M_Mk_trim.2.1 1 = .ok (.iconst 0, 1) := by decide +kernel
theorem d_Mk_trim_2 : decode M_Mk_trim.2.1 2 = .ok (.aload_n 0, 1) := by decide +kernel
theorem d_Mk_trim_3 : decode M_Mk_trim.2.1 3 = .ok (.getfield 27, 3) := by decide +kernel
theorem d_Mk_trim_6 : decode M_Mk_trim.2.1 6 = .ok (.getfield 109, 3) := by decide +kernel
theorem d_Mk_trim_9 : decode M_Mk_trim.2.1 9 = .ok (.invokestatic 50, 3) := by decide +kernel
theorem d_Mk_trim_12 : decode M_Mk_trim.2.1 12 = .ok (.ifCond .ne 6, 3) := by decide +kernel
theorem d_Mk_trim_15 : decode M_Mk_trim.2.1 15 = .ok (.ldc 54, 2) := by decide +kernel
theorem d_Mk_trim_17 : decode M_Mk_trim.2.1 17 = .ok (.ireturn, 1) := by decide +kernel
theorem d_Mk_trim_18 : decode M_Mk_trim.2.1 18 = .ok (.aload_n 0, 1) := by decide +kernel
theorem d_Mk_trim_19 : decode M_Mk_trim.2.1 19 = .ok (.getfield 27, 3) := by decide +kernel
theorem d_Mk_trim_22 : decode M_Mk_trim.2.1 22 = .ok (.iload_n 1, 1) := by decide +kernel
theorem d_Mk_trim_23 : decode M_Mk_trim.2.1 23 = .ok (.putfield 109, 3) := by decide +kernel
theorem d_Mk_trim_26 : decode M_Mk_trim.2.1 26 = .ok (.iload_n 1, 1) := by decide +kernel
theorem d_Mk_trim_27 : decode M_Mk_trim.2.1 27 = .ok (.ireturn, 1) := by decide +kernel
def M_Mk_rule : mj_M := (⟨"MarketTown", "rule", "(I)I"⟩, prog_1_method_10_code, 3, some .int, 10, 219)
theorem d_Mk_rule_0 : decode M_Mk_rule.2.1 0 = .ok (.aload_n 0, 1) := by decide +kernel
theorem d_Mk_rule_1 : decode M_Mk_rule.2.1 1 = .ok (.iload_n 1, 1) := by decide +kernel
theorem d_Mk_rule_2 : decode M_Mk_rule.2.1 2 = .ok (.invokevirtual 112, 3) := by decide +kernel
theorem d_Mk_rule_5 : decode M_Mk_rule.2.1 5 = .ok (.istore_n 2, 1) := by decide +kernel
theorem d_Mk_rule_6 : decode M_Mk_rule.2.1 6 = .ok (.aload_n 0, 1) := by decide +kernel
theorem d_Mk_rule_7 : decode M_Mk_rule.2.1 7 = .ok (.getfield 27, 3) := by decide +kernel
theorem d_Mk_rule_10 : decode M_Mk_rule.2.1 10 = .ok (.iconst 0, 1) := by decide +kernel
theorem d_Mk_rule_11 : decode M_Mk_rule.2.1 11 = .ok (.putfield 109, 3) := by decide +kernel
theorem d_Mk_rule_14 : decode M_Mk_rule.2.1 14 = .ok (.iload_n 2, 1) := by decide +kernel
theorem d_Mk_rule_15 : decode M_Mk_rule.2.1 15 = .ok (.ireturn, 1) := by decide +kernel
def M_Mk_readRule : mj_M := (⟨"MarketTown", "readRule", "(I)I"⟩, prog_1_method_11_code, 2, some .int, 9, 198)
theorem d_Mk_readRule_0 : decode M_Mk_readRule.2.1 0 = .ok (.aload_n 0, 1) := by decide +kernel
theorem d_Mk_readRule_1 : decode M_Mk_readRule.2.1 1 = .ok (.getfield 12, 3) := by decide +kernel
theorem d_Mk_readRule_4 : decode M_Mk_readRule.2.1 4 = .ok (.iload_n 1, 1) := by decide +kernel
theorem d_Mk_readRule_5 : decode M_Mk_readRule.2.1 5 = .ok (.invokevirtual 64, 3) := by decide +kernel
theorem d_Mk_readRule_8 : decode M_Mk_readRule.2.1 8 = .ok (.ifCond .ne 6, 3) := by decide +kernel
theorem d_Mk_readRule_11 : decode M_Mk_readRule.2.1 11 = .ok (.ldc 54, 2) := by decide +kernel
theorem d_Mk_readRule_13 : decode M_Mk_readRule.2.1 13 = .ok (.ireturn, 1) := by decide +kernel
theorem d_Mk_readRule_14 : decode M_Mk_readRule.2.1 14 = .ok (.aload_n 0, 1) := by decide +kernel
theorem d_Mk_readRule_15 : decode M_Mk_readRule.2.1 15 = .ok (.getfield 34, 3) := by decide +kernel
theorem d_Mk_readRule_18 : decode M_Mk_readRule.2.1 18 = .ok (.aload_n 0, 1) := by decide +kernel
theorem d_Mk_readRule_19 : decode M_Mk_readRule.2.1 19 = .ok (.getfield 27, 3) := by decide +kernel
theorem d_Mk_readRule_22 : decode M_Mk_readRule.2.1 22 = .ok (.iload_n 1, 1) := by decide +kernel
theorem d_Mk_readRule_23 : decode M_Mk_readRule.2.1 23 = .ok (.aload_n 0, 1) := by decide +kernel
theorem d_Mk_readRule_24 : decode M_Mk_readRule.2.1 24 = .ok (.getfield 12, 3) := by decide +kernel
theorem d_Mk_readRule_27 : decode M_Mk_readRule.2.1 27 = .ok (.getfield 55, 3) := by decide +kernel
theorem d_Mk_readRule_30 : decode M_Mk_readRule.2.1 30 = .ok (.invokevirtual 116, 3) := by decide +kernel
theorem d_Mk_readRule_33 : decode M_Mk_readRule.2.1 33 = .ok (.ifCond .ne 14, 3) := by decide +kernel
theorem d_Mk_readRule_36 : decode M_Mk_readRule.2.1 36 = .ok (.bipush (-100), 2) := by decide +kernel
theorem d_Mk_readRule_38 : decode M_Mk_readRule.2.1 38 = .ok (.aload_n 0, 1) := by decide +kernel
theorem d_Mk_readRule_39 : decode M_Mk_readRule.2.1 39 = .ok (.getfield 34, 3) := by decide +kernel
theorem d_Mk_readRule_42 : decode M_Mk_readRule.2.1 42 = .ok (.getfield 120, 3) := by decide +kernel
theorem d_Mk_readRule_45 : decode M_Mk_readRule.2.1 45 = .ok (.isub, 1) := by decide +kernel
theorem d_Mk_readRule_46 : decode M_Mk_readRule.2.1 46 = .ok (.ireturn, 1) := by decide +kernel
theorem d_Mk_readRule_47 : decode M_Mk_readRule.2.1 47 = .ok (.aload_n 0, 1) := by decide +kernel
theorem d_Mk_readRule_48 : decode M_Mk_readRule.2.1 48 = .ok (.getfield 12, 3) := by decide +kernel
theorem d_Mk_readRule_51 : decode M_Mk_readRule.2.1 51 = .ok (.getfield 123, 3) := by decide +kernel
theorem d_Mk_readRule_54 : decode M_Mk_readRule.2.1 54 = .ok (.iload_n 1, 1) := by decide +kernel
theorem d_Mk_readRule_55 : decode M_Mk_readRule.2.1 55 = .ok (.aload_n 0, 1) := by decide +kernel
theorem d_Mk_readRule_56 : decode M_Mk_readRule.2.1 56 = .ok (.getfield 34, 3) := by decide +kernel
theorem d_Mk_readRule_59 : decode M_Mk_readRule.2.1 59 = .ok (.getfield 127, 3) := by decide +kernel
theorem d_Mk_readRule_62 : decode M_Mk_readRule.2.1 62 = .ok (.invokevirtual 131, 3) := by decide +kernel
theorem d_Mk_readRule_65 : decode M_Mk_readRule.2.1 65 = .ok (.ireturn, 1) := by decide +kernel
def M_Rr_understands : mj_M := (⟨"MarketTown$RuleReader", "understands", "(LMarketTown$Tape;II)Z"⟩, prog_6_method_2_code, 4, some .boolean, 8, 175)
theorem d_Rr_understands_0 : decode M_Rr_understands.2.1 0 = .ok (.aload_n 0, 1) := by decide +kernel
theorem d_Rr_understands_1 : decode M_Rr_understands.2.1 1 = .ok (.invokevirtual 17, 3) := by decide +kernel
theorem d_Rr_understands_4 : decode M_Rr_understands.2.1 4 = .ok (.aload_n 0, 1) := by decide +kernel
theorem d_Rr_understands_5 : decode M_Rr_understands.2.1 5 = .ok (.iconst 0, 1) := by decide +kernel
theorem d_Rr_understands_6 : decode M_Rr_understands.2.1 6 = .ok (.putfield 20, 3) := by decide +kernel
theorem d_Rr_understands_9 : decode M_Rr_understands.2.1 9 = .ok (.aload_n 0, 1) := by decide +kernel
theorem d_Rr_understands_10 : decode M_Rr_understands.2.1 10 = .ok (.aload_n 1, 1) := by decide +kernel
theorem d_Rr_understands_11 : decode M_Rr_understands.2.1 11 = .ok (.invokevirtual 24, 3) := by decide +kernel
theorem d_Rr_understands_14 : decode M_Rr_understands.2.1 14 = .ok (.pop, 1) := by decide +kernel
theorem d_Rr_understands_15 : decode M_Rr_understands.2.1 15 = .ok (.aload_n 0, 1) := by decide +kernel
theorem d_Rr_understands_16 : decode M_Rr_understands.2.1 16 = .ok (.aload_n 1, 1) := by decide +kernel
theorem d_Rr_understands_17 : decode M_Rr_understands.2.1 17 = .ok (.ldc 28, 2) := by decide +kernel
theorem d_Rr_understands_19 : decode M_Rr_understands.2.1 19 = .ok (.invokevirtual 30, 3) := by decide +kernel
theorem d_Rr_understands_22 : decode M_Rr_understands.2.1 22 = .ok (.ifCond .eq 25, 3) := by decide +kernel
theorem d_Rr_understands_25 : decode M_Rr_understands.2.1 25 = .ok (.aload_n 0, 1) := by decide +kernel
theorem d_Rr_understands_26 : decode M_Rr_understands.2.1 26 = .ok (.aload_n 1, 1) := by decide +kernel
theorem d_Rr_understands_27 : decode M_Rr_understands.2.1 27 = .ok (.iconst 4, 1) := by decide +kernel
theorem d_Rr_understands_28 : decode M_Rr_understands.2.1 28 = .ok (.iconst 1, 1) := by decide +kernel
theorem d_Rr_understands_29 : decode M_Rr_understands.2.1 29 = .ok (.bipush 99, 2) := by decide +kernel
theorem d_Rr_understands_31 : decode M_Rr_understands.2.1 31 = .ok (.invokevirtual 34, 3) := by decide +kernel
theorem d_Rr_understands_34 : decode M_Rr_understands.2.1 34 = .ok (.ifCond .eq 11, 3) := by decide +kernel
theorem d_Rr_understands_37 : decode M_Rr_understands.2.1 37 = .ok (.aload_n 0, 1) := by decide +kernel
theorem d_Rr_understands_38 : decode M_Rr_understands.2.1 38 = .ok (.aload_n 1, 1) := by decide +kernel
theorem d_Rr_understands_39 : decode M_Rr_understands.2.1 39 = .ok (.invokevirtual 24, 3) := by decide +kernel
theorem d_Rr_understands_42 : decode M_Rr_understands.2.1 42 = .ok (.ifCond .ne 5, 3) := by decide +kernel
theorem d_Rr_understands_45 : decode M_Rr_understands.2.1 45 = .ok (.iconst 0, 1) := by decide +kernel
theorem d_Rr_understands_46 : decode M_Rr_understands.2.1 46 = .ok (.ireturn, 1) := by decide +kernel
theorem d_Rr_understands_47 : decode M_Rr_understands.2.1 47 = .ok (.aload_n 0, 1) := by decide +kernel
theorem d_Rr_understands_48 : decode M_Rr_understands.2.1 48 = .ok (.aload_n 1, 1) := by decide +kernel
theorem d_Rr_understands_49 : decode M_Rr_understands.2.1 49 = .ok (.ldc 38, 2) := by decide +kernel
theorem d_Rr_understands_51 : decode M_Rr_understands.2.1 51 = .ok (.invokevirtual 30, 3) := by decide +kernel
theorem d_Rr_understands_54 : decode M_Rr_understands.2.1 54 = .ok (.ifCond .eq 21, 3) := by decide +kernel
theorem d_Rr_understands_57 : decode M_Rr_understands.2.1 57 = .ok (.aload_n 0, 1) := by decide +kernel
theorem d_Rr_understands_58 : decode M_Rr_understands.2.1 58 = .ok (.aload_n 1, 1) := by decide +kernel
theorem d_Rr_understands_59 : decode M_Rr_understands.2.1 59 = .ok (.invokevirtual 40, 3) := by decide +kernel
theorem d_Rr_understands_62 : decode M_Rr_understands.2.1 62 = .ok (.ifCond .eq 11, 3) := by decide +kernel
theorem d_Rr_understands_65 : decode M_Rr_understands.2.1 65 = .ok (.aload_n 0, 1) := by decide +kernel
theorem d_Rr_understands_66 : decode M_Rr_understands.2.1 66 = .ok (.aload_n 1, 1) := by decide +kernel
theorem d_Rr_understands_67 : decode M_Rr_understands.2.1 67 = .ok (.invokevirtual 24, 3) := by decide +kernel
theorem d_Rr_understands_70 : decode M_Rr_understands.2.1 70 = .ok (.ifCond .ne 5, 3) := by decide +kernel
theorem d_Rr_understands_73 : decode M_Rr_understands.2.1 73 = .ok (.iconst 0, 1) := by decide +kernel
theorem d_Rr_understands_74 : decode M_Rr_understands.2.1 74 = .ok (.ireturn, 1) := by decide +kernel
theorem d_Rr_understands_75 : decode M_Rr_understands.2.1 75 = .ok (.aload_n 0, 1) := by decide +kernel
theorem d_Rr_understands_76 : decode M_Rr_understands.2.1 76 = .ok (.aload_n 1, 1) := by decide +kernel
theorem d_Rr_understands_77 : decode M_Rr_understands.2.1 77 = .ok (.iload_n 2, 1) := by decide +kernel
theorem d_Rr_understands_78 : decode M_Rr_understands.2.1 78 = .ok (.iload_n 3, 1) := by decide +kernel
theorem d_Rr_understands_79 : decode M_Rr_understands.2.1 79 = .ok (.invokevirtual 43, 3) := by decide +kernel
theorem d_Rr_understands_82 : decode M_Rr_understands.2.1 82 = .ok (.ifCond .eq 15, 3) := by decide +kernel
theorem d_Rr_understands_85 : decode M_Rr_understands.2.1 85 = .ok (.aload_n 0, 1) := by decide +kernel
theorem d_Rr_understands_86 : decode M_Rr_understands.2.1 86 = .ok (.aload_n 1, 1) := by decide +kernel
theorem d_Rr_understands_87 : decode M_Rr_understands.2.1 87 = .ok (.invokevirtual 24, 3) := by decide +kernel
theorem d_Rr_understands_90 : decode M_Rr_understands.2.1 90 = .ok (.ifCond .ne 7, 3) := by decide +kernel
theorem d_Rr_understands_93 : decode M_Rr_understands.2.1 93 = .ok (.iconst 1, 1) := by decide +kernel
theorem d_Rr_understands_94 : decode M_Rr_understands.2.1 94 = .ok (.goto 4, 3) := by decide +kernel
theorem d_Rr_understands_97 : decode M_Rr_understands.2.1 97 = .ok (.iconst 0, 1) := by decide +kernel
theorem d_Rr_understands_98 : decode M_Rr_understands.2.1 98 = .ok (.ireturn, 1) := by decide +kernel
def M_Rr_clearRow : mj_M := (⟨"MarketTown$RuleReader", "clearRow", "()V"⟩, prog_6_method_3_code, 2, none, 0, 0)
theorem d_Rr_clearRow_0 : decode M_Rr_clearRow.2.1 0 = .ok (.iconst 0, 1) := by decide +kernel
theorem d_Rr_clearRow_1 : decode M_Rr_clearRow.2.1 1 = .ok (.istore_n 1, 1) := by decide +kernel
theorem d_Rr_clearRow_2 : decode M_Rr_clearRow.2.1 2 = .ok (.iload_n 1, 1) := by decide +kernel
theorem d_Rr_clearRow_3 : decode M_Rr_clearRow.2.1 3 = .ok (.bipush 9, 2) := by decide +kernel
theorem d_Rr_clearRow_5 : decode M_Rr_clearRow.2.1 5 = .ok (.if_icmp .ge 17, 3) := by decide +kernel
theorem d_Rr_clearRow_8 : decode M_Rr_clearRow.2.1 8 = .ok (.aload_n 0, 1) := by decide +kernel
theorem d_Rr_clearRow_9 : decode M_Rr_clearRow.2.1 9 = .ok (.getfield 11, 3) := by decide +kernel
theorem d_Rr_clearRow_12 : decode M_Rr_clearRow.2.1 12 = .ok (.iload_n 1, 1) := by decide +kernel
theorem d_Rr_clearRow_13 : decode M_Rr_clearRow.2.1 13 = .ok (.ldc 47, 2) := by decide +kernel
theorem d_Rr_clearRow_15 : decode M_Rr_clearRow.2.1 15 = .ok (.iastore, 1) := by decide +kernel
theorem d_Rr_clearRow_16 : decode M_Rr_clearRow.2.1 16 = .ok (.iinc 1 1, 3) := by decide +kernel
theorem d_Rr_clearRow_19 : decode M_Rr_clearRow.2.1 19 = .ok (.goto (-17), 3) := by decide +kernel
theorem d_Rr_clearRow_22 : decode M_Rr_clearRow.2.1 22 = .ok (.aload_n 0, 1) := by decide +kernel
theorem d_Rr_clearRow_23 : decode M_Rr_clearRow.2.1 23 = .ok (.getfield 11, 3) := by decide +kernel
theorem d_Rr_clearRow_26 : decode M_Rr_clearRow.2.1 26 = .ok (.iconst 4, 1) := by decide +kernel
theorem d_Rr_clearRow_27 : decode M_Rr_clearRow.2.1 27 = .ok (.iconst 1, 1) := by decide +kernel
theorem d_Rr_clearRow_28 : decode M_Rr_clearRow.2.1 28 = .ok (.iastore, 1) := by decide +kernel
theorem d_Rr_clearRow_29 : decode M_Rr_clearRow.2.1 29 = .ok (.aload_n 0, 1) := by decide +kernel
theorem d_Rr_clearRow_30 : decode M_Rr_clearRow.2.1 30 = .ok (.getfield 11, 3) := by decide +kernel
theorem d_Rr_clearRow_33 : decode M_Rr_clearRow.2.1 33 = .ok (.bipush 8, 2) := by decide +kernel
theorem d_Rr_clearRow_35 : decode M_Rr_clearRow.2.1 35 = .ok (.iconst 0, 1) := by decide +kernel
theorem d_Rr_clearRow_36 : decode M_Rr_clearRow.2.1 36 = .ok (.iastore, 1) := by decide +kernel
theorem d_Rr_clearRow_37 : decode M_Rr_clearRow.2.1 37 = .ok (.return_, 1) := by decide +kernel
def M_Rr_nextWord : mj_M := (⟨"MarketTown$RuleReader", "nextWord", "(LMarketTown$Tape;)Z"⟩, prog_6_method_4_code, 2, some .boolean, 1, 23)
theorem d_Rr_nextWord_0 : decode M_Rr_nextWord.2.1 0 = .ok (.aload_n 0, 1) := by decide +kernel
theorem d_Rr_nextWord_1 : decode M_Rr_nextWord.2.1 1 = .ok (.aload_n 1, 1) := by decide +kernel
theorem d_Rr_nextWord_2 : decode M_Rr_nextWord.2.1 2 = .ok (.aload_n 0, 1) := by decide +kernel
theorem d_Rr_nextWord_3 : decode M_Rr_nextWord.2.1 3 = .ok (.getfield 20, 3) := by decide +kernel
theorem d_Rr_nextWord_6 : decode M_Rr_nextWord.2.1 6 = .ok (.iconst 0, 1) := by decide +kernel
theorem d_Rr_nextWord_7 : decode M_Rr_nextWord.2.1 7 = .ok (.invokevirtual 48, 3) := by decide +kernel
theorem d_Rr_nextWord_10 : decode M_Rr_nextWord.2.1 10 = .ok (.putfield 54, 3) := by decide +kernel
theorem d_Rr_nextWord_13 : decode M_Rr_nextWord.2.1 13 = .ok (.aload_n 0, 1) := by decide +kernel
theorem d_Rr_nextWord_14 : decode M_Rr_nextWord.2.1 14 = .ok (.aload_n 1, 1) := by decide +kernel
theorem d_Rr_nextWord_15 : decode M_Rr_nextWord.2.1 15 = .ok (.aload_n 0, 1) := by decide +kernel
theorem d_Rr_nextWord_16 : decode M_Rr_nextWord.2.1 16 = .ok (.getfield 54, 3) := by decide +kernel
theorem d_Rr_nextWord_19 : decode M_Rr_nextWord.2.1 19 = .ok (.iconst 1, 1) := by decide +kernel
theorem d_Rr_nextWord_20 : decode M_Rr_nextWord.2.1 20 = .ok (.invokevirtual 48, 3) := by decide +kernel
theorem d_Rr_nextWord_23 : decode M_Rr_nextWord.2.1 23 = .ok (.putfield 20, 3) := by decide +kernel
theorem d_Rr_nextWord_26 : decode M_Rr_nextWord.2.1 26 = .ok (.aload_n 0, 1) := by decide +kernel
theorem d_Rr_nextWord_27 : decode M_Rr_nextWord.2.1 27 = .ok (.getfield 54, 3) := by decide +kernel
theorem d_Rr_nextWord_30 : decode M_Rr_nextWord.2.1 30 = .ok (.aload_n 0, 1) := by decide +kernel
theorem d_Rr_nextWord_31 : decode M_Rr_nextWord.2.1 31 = .ok (.getfield 20, 3) := by decide +kernel
theorem d_Rr_nextWord_34 : decode M_Rr_nextWord.2.1 34 = .ok (.if_icmp .ge 7, 3) := by decide +kernel
theorem d_Rr_nextWord_37 : decode M_Rr_nextWord.2.1 37 = .ok (.iconst 1, 1) := by decide +kernel
theorem d_Rr_nextWord_38 : decode M_Rr_nextWord.2.1 38 = .ok (.goto 4, 3) := by decide +kernel
theorem d_Rr_nextWord_41 : decode M_Rr_nextWord.2.1 41 = .ok (.iconst 0, 1) := by decide +kernel
theorem d_Rr_nextWord_42 : decode M_Rr_nextWord.2.1 42 = .ok (.ireturn, 1) := by decide +kernel
def M_Tp_next : mj_M := (⟨"MarketTown$Tape", "next", "(IZ)I"⟩, prog_9_method_5_code, 4, some .int, 0, 0)
theorem d_Tp_next_0 : decode M_Tp_next.2.1 0 = .ok (.iload_n 1, 1) := by decide +kernel
theorem d_Tp_next_1 : decode M_Tp_next.2.1 1 = .ok (.istore_n 3, 1) := by decide +kernel
theorem d_Tp_next_2 : decode M_Tp_next.2.1 2 = .ok (.iload_n 3, 1) := by decide +kernel
theorem d_Tp_next_3 : decode M_Tp_next.2.1 3 = .ok (.aload_n 0, 1) := by decide +kernel
theorem d_Tp_next_4 : decode M_Tp_next.2.1 4 = .ok (.getfield 13, 3) := by decide +kernel
theorem d_Tp_next_7 : decode M_Tp_next.2.1 7 = .ok (.if_icmp .ge 29, 3) := by decide +kernel
theorem d_Tp_next_10 : decode M_Tp_next.2.1 10 = .ok (.aload_n 0, 1) := by decide +kernel
theorem d_Tp_next_11 : decode M_Tp_next.2.1 11 = .ok (.getfield 9, 3) := by decide +kernel
theorem d_Tp_next_14 : decode M_Tp_next.2.1 14 = .ok (.iload_n 3, 1) := by decide +kernel
theorem d_Tp_next_15 : decode M_Tp_next.2.1 15 = .ok (.iaload, 1) := by decide +kernel
theorem d_Tp_next_16 : decode M_Tp_next.2.1 16 = .ok (.bipush 32, 2) := by decide +kernel
theorem d_Tp_next_18 : decode M_Tp_next.2.1 18 = .ok (.if_icmp .ne 7, 3) := by decide +kernel
theorem d_Tp_next_21 : decode M_Tp_next.2.1 21 = .ok (.iconst 1, 1) := by decide +kernel
theorem d_Tp_next_22 : decode M_Tp_next.2.1 22 = .ok (.goto 4, 3) := by decide +kernel
theorem d_Tp_next_25 : decode M_Tp_next.2.1 25 = .ok (.iconst 0, 1) := by decide +kernel
theorem d_Tp_next_26 : decode M_Tp_next.2.1 26 = .ok (.iload_n 2, 1) := by decide +kernel
theorem d_Tp_next_27 : decode M_Tp_next.2.1 27 = .ok (.if_icmp .eq 9, 3) := by decide +kernel
theorem d_Tp_next_30 : decode M_Tp_next.2.1 30 = .ok (.iinc 3 1, 3) := by decide +kernel
theorem d_Tp_next_33 : decode M_Tp_next.2.1 33 = .ok (.goto (-31), 3) := by decide +kernel
theorem d_Tp_next_36 : decode M_Tp_next.2.1 36 = .ok (.iload_n 3, 1) := by decide +kernel
theorem d_Tp_next_37 : decode M_Tp_next.2.1 37 = .ok (.ireturn, 1) := by decide +kernel
def M_Rr_isWord : mj_M := (⟨"MarketTown$RuleReader", "isWord", "(LMarketTown$Tape;Ljava/lang/String;)Z"⟩, prog_6_method_5_code, 4, some .boolean, 5, 106)
theorem d_Rr_isWord_0 : decode M_Rr_isWord.2.1 0 = .ok (.aload_n 0, 1) := by decide +kernel
theorem d_Rr_isWord_1 : decode M_Rr_isWord.2.1 1 = .ok (.getfield 20, 3) := by decide +kernel
theorem d_Rr_isWord_4 : decode M_Rr_isWord.2.1 4 = .ok (.aload_n 0, 1) := by decide +kernel
theorem d_Rr_isWord_5 : decode M_Rr_isWord.2.1 5 = .ok (.getfield 54, 3) := by decide +kernel
theorem d_Rr_isWord_8 : decode M_Rr_isWord.2.1 8 = .ok (.isub, 1) := by decide +kernel
theorem d_Rr_isWord_9 : decode M_Rr_isWord.2.1 9 = .ok (.aload_n 2, 1) := by decide +kernel
theorem d_Rr_isWord_10 : decode M_Rr_isWord.2.1 10 = .ok (.invokevirtual 57, 3) := by decide +kernel
theorem d_Rr_isWord_13 : decode M_Rr_isWord.2.1 13 = .ok (.if_icmp .eq 5, 3) := by decide +kernel
theorem d_Rr_isWord_16 : decode M_Rr_isWord.2.1 16 = .ok (.iconst 0, 1) := by decide +kernel
theorem d_Rr_isWord_17 : decode M_Rr_isWord.2.1 17 = .ok (.ireturn, 1) := by decide +kernel
theorem d_Rr_isWord_18 : decode M_Rr_isWord.2.1 18 = .ok (.iconst 0, 1) := by decide +kernel
theorem d_Rr_isWord_19 : decode M_Rr_isWord.2.1 19 = .ok (.istore_n 3, 1) := by decide +kernel
theorem d_Rr_isWord_20 : decode M_Rr_isWord.2.1 20 = .ok (.iload_n 3, 1) := by decide +kernel
theorem d_Rr_isWord_21 : decode M_Rr_isWord.2.1 21 = .ok (.aload_n 2, 1) := by decide +kernel
theorem d_Rr_isWord_22 : decode M_Rr_isWord.2.1 22 = .ok (.invokevirtual 57, 3) := by decide +kernel
theorem d_Rr_isWord_25 : decode M_Rr_isWord.2.1 25 = .ok (.if_icmp .ge 29, 3) := by decide +kernel
theorem d_Rr_isWord_28 : decode M_Rr_isWord.2.1 28 = .ok (.aload_n 1, 1) := by decide +kernel
theorem d_Rr_isWord_29 : decode M_Rr_isWord.2.1 29 = .ok (.aload_n 0, 1) := by decide +kernel
theorem d_Rr_isWord_30 : decode M_Rr_isWord.2.1 30 = .ok (.getfield 54, 3) := by decide +kernel
theorem d_Rr_isWord_33 : decode M_Rr_isWord.2.1 33 = .ok (.iload_n 3, 1) := by decide +kernel
theorem d_Rr_isWord_34 : decode M_Rr_isWord.2.1 34 = .ok (.iadd, 1) := by decide +kernel
theorem d_Rr_isWord_35 : decode M_Rr_isWord.2.1 35 = .ok (.invokevirtual 63, 3) := by decide +kernel
theorem d_Rr_isWord_38 : decode M_Rr_isWord.2.1 38 = .ok (.aload_n 2, 1) := by decide +kernel
theorem d_Rr_isWord_39 : decode M_Rr_isWord.2.1 39 = .ok (.iload_n 3, 1) := by decide +kernel
theorem d_Rr_isWord_40 : decode M_Rr_isWord.2.1 40 = .ok (.invokevirtual 67, 3) := by decide +kernel
theorem d_Rr_isWord_43 : decode M_Rr_isWord.2.1 43 = .ok (.if_icmp .eq 5, 3) := by decide +kernel
theorem d_Rr_isWord_46 : decode M_Rr_isWord.2.1 46 = .ok (.iconst 0, 1) := by decide +kernel
theorem d_Rr_isWord_47 : decode M_Rr_isWord.2.1 47 = .ok (.ireturn, 1) := by decide +kernel
theorem d_Rr_isWord_48 : decode M_Rr_isWord.2.1 48 = .ok (.iinc 3 1, 3) := by decide +kernel
theorem d_Rr_isWord_51 : decode M_Rr_isWord.2.1 51 = .ok (.goto (-31), 3) := by decide +kernel
theorem d_Rr_isWord_54 : decode M_Rr_isWord.2.1 54 = .ok (.iconst 1, 1) := by decide +kernel
theorem d_Rr_isWord_55 : decode M_Rr_isWord.2.1 55 = .ok (.ireturn, 1) := by decide +kernel
def M_Js_length : mj_M := (⟨"java/lang/String", "length", "()I"⟩, prog_15_method_54_code, 1, some .int, 1, 20)
theorem d_Js_length_0 : decode M_Js_length.2.1 0 = .ok (.aload_n 0, 1) := by decide +kernel
theorem d_Js_length_1 : decode M_Js_length.2.1 1 = .ok (.getfield 9, 3) := by decide +kernel
theorem d_Js_length_4 : decode M_Js_length.2.1 4 = .ok (.arraylength, 1) := by decide +kernel
theorem d_Js_length_5 : decode M_Js_length.2.1 5 = .ok (.aload_n 0, 1) := by decide +kernel
theorem d_Js_length_6 : decode M_Js_length.2.1 6 = .ok (.invokevirtual 335, 3) := by decide +kernel
theorem d_Js_length_9 : decode M_Js_length.2.1 9 = .ok (.ishr, 1) := by decide +kernel
theorem d_Js_length_10 : decode M_Js_length.2.1 10 = .ok (.ireturn, 1) := by decide +kernel
def M_Js_coder : mj_M := (⟨"java/lang/String", "coder", "()B"⟩, prog_15_method_152_code, 1, some .byte, 0, 0)
theorem d_Js_coder_0 : decode M_Js_coder.2.1 0 = .ok (.getstatic 38, 3) := by decide +kernel
theorem d_Js_coder_3 : decode M_Js_coder.2.1 3 = .ok (.ifCond .eq 10, 3) := by decide +kernel
theorem d_Js_coder_6 : decode M_Js_coder.2.1 6 = .ok (.aload_n 0, 1) := by decide +kernel
theorem d_Js_coder_7 : decode M_Js_coder.2.1 7 = .ok (.getfield 15, 3) := by decide +kernel
theorem d_Js_coder_10 : decode M_Js_coder.2.1 10 = .ok (.goto 4, 3) := by decide +kernel
theorem d_Js_coder_13 : decode M_Js_coder.2.1 13 = .ok (.iconst 1, 1) := by decide +kernel
theorem d_Js_coder_14 : decode M_Js_coder.2.1 14 = .ok (.ireturn, 1) := by decide +kernel
def M_Tp_byteAt : mj_M := (⟨"MarketTown$Tape", "byteAt", "(I)I"⟩, prog_9_method_4_code, 2, some .int, 0, 0)
theorem d_Tp_byteAt_0 : decode M_Tp_byteAt.2.1 0 = .ok (.iconst 0, 1) := by decide +kernel
theorem d_Tp_byteAt_1 : decode M_Tp_byteAt.2.1 1 = .ok (.iload_n 1, 1) := by decide +kernel
theorem d_Tp_byteAt_2 : decode M_Tp_byteAt.2.1 2 = .ok (.if_icmp .gt 20, 3) := by decide +kernel
theorem d_Tp_byteAt_5 : decode M_Tp_byteAt.2.1 5 = .ok (.iload_n 1, 1) := by decide +kernel
theorem d_Tp_byteAt_6 : decode M_Tp_byteAt.2.1 6 = .ok (.aload_n 0, 1) := by decide +kernel
theorem d_Tp_byteAt_7 : decode M_Tp_byteAt.2.1 7 = .ok (.getfield 13, 3) := by decide +kernel
theorem d_Tp_byteAt_10 : decode M_Tp_byteAt.2.1 10 = .ok (.if_icmp .ge 12, 3) := by decide +kernel
theorem d_Tp_byteAt_13 : decode M_Tp_byteAt.2.1 13 = .ok (.aload_n 0, 1) := by decide +kernel
theorem d_Tp_byteAt_14 : decode M_Tp_byteAt.2.1 14 = .ok (.getfield 9, 3) := by decide +kernel
theorem d_Tp_byteAt_17 : decode M_Tp_byteAt.2.1 17 = .ok (.iload_n 1, 1) := by decide +kernel
theorem d_Tp_byteAt_18 : decode M_Tp_byteAt.2.1 18 = .ok (.iaload, 1) := by decide +kernel
theorem d_Tp_byteAt_19 : decode M_Tp_byteAt.2.1 19 = .ok (.goto 5, 3) := by decide +kernel
theorem d_Tp_byteAt_22 : decode M_Tp_byteAt.2.1 22 = .ok (.bipush 32, 2) := by decide +kernel
theorem d_Tp_byteAt_24 : decode M_Tp_byteAt.2.1 24 = .ok (.ireturn, 1) := by decide +kernel
def M_Js_charAt : mj_M := (⟨"java/lang/String", "charAt", "(I)C"⟩, prog_15_method_56_code, 2, some .char, 4, 85)
theorem d_Js_charAt_0 : decode M_Js_charAt.2.1 0 = .ok (.aload_n 0, 1) := by decide +kernel
theorem d_Js_charAt_1 : decode M_Js_charAt.2.1 1 = .ok (.invokevirtual 492, 3) := by decide +kernel
theorem d_Js_charAt_4 : decode M_Js_charAt.2.1 4 = .ok (.ifCond .eq 12, 3) := by decide +kernel
theorem d_Js_charAt_7 : decode M_Js_charAt.2.1 7 = .ok (.aload_n 0, 1) := by decide +kernel
theorem d_Js_charAt_8 : decode M_Js_charAt.2.1 8 = .ok (.getfield 9, 3) := by decide +kernel
theorem d_Js_charAt_11 : decode M_Js_charAt.2.1 11 = .ok (.iload_n 1, 1) := by decide +kernel
theorem d_Js_charAt_12 : decode M_Js_charAt.2.1 12 = .ok (.invokestatic 495, 3) := by decide +kernel
theorem d_Js_charAt_15 : decode M_Js_charAt.2.1 15 = .ok (.ireturn, 1) := by decide +kernel
theorem d_Js_charAt_16 : decode M_Js_charAt.2.1 16 = .ok (.aload_n 0, 1) := by decide +kernel
theorem d_Js_charAt_17 : decode M_Js_charAt.2.1 17 = .ok (.getfield 9, 3) := by decide +kernel
theorem d_Js_charAt_20 : decode M_Js_charAt.2.1 20 = .ok (.iload_n 1, 1) := by decide +kernel
theorem d_Js_charAt_21 : decode M_Js_charAt.2.1 21 = .ok (.invokestatic 498, 3) := by decide +kernel
theorem d_Js_charAt_24 : decode M_Js_charAt.2.1 24 = .ok (.ireturn, 1) := by decide +kernel
def M_Js_isLatin1 : mj_M := (⟨"java/lang/String", "isLatin1", "()Z"⟩, prog_15_method_154_code, 1, some .boolean, 0, 0)
theorem d_Js_isLatin1_0 : decode M_Js_isLatin1.2.1 0 = .ok (.getstatic 38, 3) := by decide +kernel
theorem d_Js_isLatin1_3 : decode M_Js_isLatin1.2.1 3 = .ok (.ifCond .eq 14, 3) := by decide +kernel
theorem d_Js_isLatin1_6 : decode M_Js_isLatin1.2.1 6 = .ok (.aload_n 0, 1) := by decide +kernel
theorem d_Js_isLatin1_7 : decode M_Js_isLatin1.2.1 7 = .ok (.getfield 15, 3) := by decide +kernel
theorem d_Js_isLatin1_10 : decode M_Js_isLatin1.2.1 10 = .ok (.ifCond .ne 7, 3) := by decide +kernel
theorem d_Js_isLatin1_13 : decode M_Js_isLatin1.2.1 13 = .ok (.iconst 1, 1) := by decide +kernel
theorem d_Js_isLatin1_14 : decode M_Js_isLatin1.2.1 14 = .ok (.goto 4, 3) := by decide +kernel
theorem d_Js_isLatin1_17 : decode M_Js_isLatin1.2.1 17 = .ok (.iconst 0, 1) := by decide +kernel
theorem d_Js_isLatin1_18 : decode M_Js_isLatin1.2.1 18 = .ok (.ireturn, 1) := by decide +kernel
def M_Jl_charAt : mj_M := (⟨"java/lang/StringLatin1", "charAt", "([BI)C"⟩, prog_16_method_2_code, 2, some .char, 2, 43)
theorem d_Jl_charAt_0 : decode M_Jl_charAt.2.1 0 = .ok (.iload_n 1, 1) := by decide +kernel
theorem d_Jl_charAt_1 : decode M_Jl_charAt.2.1 1 = .ok (.aload_n 0, 1) := by decide +kernel
theorem d_Jl_charAt_2 : decode M_Jl_charAt.2.1 2 = .ok (.arraylength, 1) := by decide +kernel
theorem d_Jl_charAt_3 : decode M_Jl_charAt.2.1 3 = .ok (.invokestatic 9, 3) := by decide +kernel
theorem d_Jl_charAt_6 : decode M_Jl_charAt.2.1 6 = .ok (.aload_n 0, 1) := by decide +kernel
theorem d_Jl_charAt_7 : decode M_Jl_charAt.2.1 7 = .ok (.iload_n 1, 1) := by decide +kernel
theorem d_Jl_charAt_8 : decode M_Jl_charAt.2.1 8 = .ok (.baload, 1) := by decide +kernel
theorem d_Jl_charAt_9 : decode M_Jl_charAt.2.1 9 = .ok (.sipush 255, 3) := by decide +kernel
theorem d_Jl_charAt_12 : decode M_Jl_charAt.2.1 12 = .ok (.iand, 1) := by decide +kernel
theorem d_Jl_charAt_13 : decode M_Jl_charAt.2.1 13 = .ok (.i2c, 1) := by decide +kernel
theorem d_Jl_charAt_14 : decode M_Jl_charAt.2.1 14 = .ok (.ireturn, 1) := by decide +kernel
def M_Js_checkIndex : mj_M := (⟨"java/lang/String", "checkIndex", "(II)V"⟩, prog_15_method_155_code, 2, none, 1, 22)
theorem d_Js_checkIndex_0 : decode M_Js_checkIndex.2.1 0 = .ok (.iload_n 0, 1) := by decide +kernel
theorem d_Js_checkIndex_1 : decode M_Js_checkIndex.2.1 1 = .ok (.iload_n 1, 1) := by decide +kernel
theorem d_Js_checkIndex_2 : decode M_Js_checkIndex.2.1 2 = .ok (.getstatic 1053, 3) := by decide +kernel
theorem d_Js_checkIndex_5 : decode M_Js_checkIndex.2.1 5 = .ok (.invokestatic 1059, 3) := by decide +kernel
theorem d_Js_checkIndex_8 : decode M_Js_checkIndex.2.1 8 = .ok (.pop, 1) := by decide +kernel
theorem d_Js_checkIndex_9 : decode M_Js_checkIndex.2.1 9 = .ok (.return_, 1) := by decide +kernel
def M_Jp_checkIndex : mj_M := (⟨"jdk/internal/util/Preconditions", "checkIndex", "(IILjava/util/function/BiFunction;)I"⟩, prog_19_method_11_code, 3, some .int, 0, 0)
theorem d_Jp_checkIndex_0 : decode M_Jp_checkIndex.2.1 0 = .ok (.iload_n 0, 1) := by decide +kernel
theorem d_Jp_checkIndex_1 : decode M_Jp_checkIndex.2.1 1 = .ok (.ifCond .lt 8, 3) := by decide +kernel
theorem d_Jp_checkIndex_4 : decode M_Jp_checkIndex.2.1 4 = .ok (.iload_n 0, 1) := by decide +kernel
theorem d_Jp_checkIndex_5 : decode M_Jp_checkIndex.2.1 5 = .ok (.iload_n 1, 1) := by decide +kernel
theorem d_Jp_checkIndex_6 : decode M_Jp_checkIndex.2.1 6 = .ok (.if_icmp .lt 10, 3) := by decide +kernel
theorem d_Jp_checkIndex_9 : decode M_Jp_checkIndex.2.1 9 = .ok (.aload_n 2, 1) := by decide +kernel
theorem d_Jp_checkIndex_10 : decode M_Jp_checkIndex.2.1 10 = .ok (.iload_n 0, 1) := by decide +kernel
theorem d_Jp_checkIndex_11 : decode M_Jp_checkIndex.2.1 11 = .ok (.iload_n 1, 1) := by decide +kernel
theorem d_Jp_checkIndex_12 : decode M_Jp_checkIndex.2.1 12 = .ok (.invokestatic 95, 3) := by decide +kernel
theorem d_Jp_checkIndex_15 : decode M_Jp_checkIndex.2.1 15 = .ok (.athrow, 1) := by decide +kernel
theorem d_Jp_checkIndex_16 : decode M_Jp_checkIndex.2.1 16 = .ok (.iload_n 0, 1) := by decide +kernel
theorem d_Jp_checkIndex_17 : decode M_Jp_checkIndex.2.1 17 = .ok (.ireturn, 1) := by decide +kernel
def M_Rr_readsAct : mj_M := (⟨"MarketTown$RuleReader", "readsAct", "(LMarketTown$Tape;II)Z"⟩, prog_6_method_8_code, 6, some .boolean, 7, 150)
theorem d_Rr_readsAct_0 : decode M_Rr_readsAct.2.1 0 = .ok (.aload_n 0, 1) := by decide +kernel
theorem d_Rr_readsAct_1 : decode M_Rr_readsAct.2.1 1 = .ok (.aload_n 1, 1) := by decide +kernel
theorem d_Rr_readsAct_2 : decode M_Rr_readsAct.2.1 2 = .ok (.invokevirtual 87, 3) := by decide +kernel
theorem d_Rr_readsAct_5 : decode M_Rr_readsAct.2.1 5 = .ok (.istore 4, 2) := by decide +kernel
theorem d_Rr_readsAct_7 : decode M_Rr_readsAct.2.1 7 = .ok (.iload 4, 2) := by decide +kernel
theorem d_Rr_readsAct_9 : decode M_Rr_readsAct.2.1 9 = .ok (.iconst (-1), 1) := by decide +kernel
theorem d_Rr_readsAct_10 : decode M_Rr_readsAct.2.1 10 = .ok (.if_icmp .ne 5, 3) := by decide +kernel
theorem d_Rr_readsAct_13 : decode M_Rr_readsAct.2.1 13 = .ok (.iconst 0, 1) := by decide +kernel
theorem d_Rr_readsAct_14 : decode M_Rr_readsAct.2.1 14 = .ok (.ireturn, 1) := by decide +kernel
theorem d_Rr_readsAct_15 : decode M_Rr_readsAct.2.1 15 = .ok (.aload_n 0, 1) := by decide +kernel
theorem d_Rr_readsAct_16 : decode M_Rr_readsAct.2.1 16 = .ok (.getfield 11, 3) := by decide +kernel
theorem d_Rr_readsAct_19 : decode M_Rr_readsAct.2.1 19 = .ok (.iconst 0, 1) := by decide +kernel
theorem d_Rr_readsAct_20 : decode M_Rr_readsAct.2.1 20 = .ok (.iload 4, 2) := by decide +kernel
theorem d_Rr_readsAct_22 : decode M_Rr_readsAct.2.1 22 = .ok (.iastore, 1) := by decide +kernel
theorem d_Rr_readsAct_23 : decode M_Rr_readsAct.2.1 23 = .ok (.iload 4, 2) := by decide +kernel
theorem d_Rr_readsAct_25 : decode M_Rr_readsAct.2.1 25 = .ok (.iconst 4, 1) := by decide +kernel
theorem d_Rr_readsAct_26 : decode M_Rr_readsAct.2.1 26 = .ok (.if_icmp .eq 9, 3) := by decide +kernel
theorem d_Rr_readsAct_29 : decode M_Rr_readsAct.2.1 29 = .ok (.iload 4, 2) := by decide +kernel
theorem d_Rr_readsAct_31 : decode M_Rr_readsAct.2.1 31 = .ok (.iconst 5, 1) := by decide +kernel
theorem d_Rr_readsAct_32 : decode M_Rr_readsAct.2.1 32 = .ok (.if_icmp .ne 7, 3) := by decide +kernel
theorem d_Rr_readsAct_35 : decode M_Rr_readsAct.2.1 35 = .ok (.iconst 1, 1) := by decide +kernel
theorem d_Rr_readsAct_36 : decode M_Rr_readsAct.2.1 36 = .ok (.goto 4, 3) := by decide +kernel
theorem d_Rr_readsAct_39 : decode M_Rr_readsAct.2.1 39 = .ok (.iconst 0, 1) := by decide +kernel
theorem d_Rr_readsAct_40 : decode M_Rr_readsAct.2.1 40 = .ok (.istore 5, 2) := by decide +kernel
theorem d_Rr_readsAct_42 : decode M_Rr_readsAct.2.1 42 = .ok (.aload_n 0, 1) := by decide +kernel
theorem d_Rr_readsAct_43 : decode M_Rr_readsAct.2.1 43 = .ok (.aload_n 1, 1) := by decide +kernel
theorem d_Rr_readsAct_44 : decode M_Rr_readsAct.2.1 44 = .ok (.iconst 1, 1) := by decide +kernel
theorem d_Rr_readsAct_45 : decode M_Rr_readsAct.2.1 45 = .ok (.iconst 0, 1) := by decide +kernel
theorem d_Rr_readsAct_46 : decode M_Rr_readsAct.2.1 46 = .ok (.iload 5, 2) := by decide +kernel
theorem d_Rr_readsAct_48 : decode M_Rr_readsAct.2.1 48 = .ok (.ifCond .eq 9, 3) := by decide +kernel
theorem d_Rr_readsAct_51 : decode M_Rr_readsAct.2.1 51 = .ok (.iload_n 3, 1) := by decide +kernel
theorem d_Rr_readsAct_52 : decode M_Rr_readsAct.2.1 52 = .ok (.iconst 1, 1) := by decide +kernel
theorem d_Rr_readsAct_53 : decode M_Rr_readsAct.2.1 53 = .ok (.isub, 1) := by decide +kernel
theorem d_Rr_readsAct_54 : decode M_Rr_readsAct.2.1 54 = .ok (.goto 4, 3) := by decide +kernel
theorem d_Rr_readsAct_57 : decode M_Rr_readsAct.2.1 57 = .ok (.iconst 4, 1) := by decide +kernel
theorem d_Rr_readsAct_58 : decode M_Rr_readsAct.2.1 58 = .ok (.invokevirtual 34, 3) := by decide +kernel
theorem d_Rr_readsAct_61 : decode M_Rr_readsAct.2.1 61 = .ok (.ifCond .ne 5, 3) := by decide +kernel
theorem d_Rr_readsAct_64 : decode M_Rr_readsAct.2.1 64 = .ok (.iconst 0, 1) := by decide +kernel
theorem d_Rr_readsAct_65 : decode M_Rr_readsAct.2.1 65 = .ok (.ireturn, 1) := by decide +kernel
theorem d_Rr_readsAct_66 : decode M_Rr_readsAct.2.1 66 = .ok (.iload 5, 2) := by decide +kernel
theorem d_Rr_readsAct_68 : decode M_Rr_readsAct.2.1 68 = .ok (.ifCond .eq 15, 3) := by decide +kernel
theorem d_Rr_readsAct_71 : decode M_Rr_readsAct.2.1 71 = .ok (.aload_n 0, 1) := by decide +kernel
theorem d_Rr_readsAct_72 : decode M_Rr_readsAct.2.1 72 = .ok (.getfield 11, 3) := by decide +kernel
theorem d_Rr_readsAct_75 : decode M_Rr_readsAct.2.1 75 = .ok (.iconst 1, 1) := by decide +kernel
theorem d_Rr_readsAct_76 : decode M_Rr_readsAct.2.1 76 = .ok (.iaload, 1) := by decide +kernel
theorem d_Rr_readsAct_77 : decode M_Rr_readsAct.2.1 77 = .ok (.iload_n 2, 1) := by decide +kernel
theorem d_Rr_readsAct_78 : decode M_Rr_readsAct.2.1 78 = .ok (.if_icmp .ne 5, 3) := by decide +kernel
theorem d_Rr_readsAct_81 : decode M_Rr_readsAct.2.1 81 = .ok (.iconst 0, 1) := by decide +kernel
theorem d_Rr_readsAct_82 : decode M_Rr_readsAct.2.1 82 = .ok (.ireturn, 1) := by decide +kernel
theorem d_Rr_readsAct_83 : decode M_Rr_readsAct.2.1 83 = .ok (.aload_n 0, 1) := by decide +kernel
theorem d_Rr_readsAct_84 : decode M_Rr_readsAct.2.1 84 = .ok (.aload_n 1, 1) := by decide +kernel
theorem d_Rr_readsAct_85 : decode M_Rr_readsAct.2.1 85 = .ok (.iconst 2, 1) := by decide +kernel
theorem d_Rr_readsAct_86 : decode M_Rr_readsAct.2.1 86 = .ok (.iconst 1, 1) := by decide +kernel
theorem d_Rr_readsAct_87 : decode M_Rr_readsAct.2.1 87 = .ok (.sipush 999, 3) := by decide +kernel
theorem d_Rr_readsAct_90 : decode M_Rr_readsAct.2.1 90 = .ok (.invokevirtual 34, 3) := by decide +kernel
theorem d_Rr_readsAct_93 : decode M_Rr_readsAct.2.1 93 = .ok (.ifCond .ne 5, 3) := by decide +kernel
theorem d_Rr_readsAct_96 : decode M_Rr_readsAct.2.1 96 = .ok (.iconst 0, 1) := by decide +kernel
theorem d_Rr_readsAct_97 : decode M_Rr_readsAct.2.1 97 = .ok (.ireturn, 1) := by decide +kernel
theorem d_Rr_readsAct_98 : decode M_Rr_readsAct.2.1 98 = .ok (.iload 4, 2) := by decide +kernel
theorem d_Rr_readsAct_100 : decode M_Rr_readsAct.2.1 100 = .ok (.tableswitch 53 2 5 #[32, 32, 53, 43], 32) := by decide +kernel
theorem d_Rr_readsAct_132 : decode M_Rr_readsAct.2.1 132 = .ok (.aload_n 0, 1) := by decide +kernel
theorem d_Rr_readsAct_133 : decode M_Rr_readsAct.2.1 133 = .ok (.aload_n 1, 1) := by decide +kernel
theorem d_Rr_readsAct_134 : decode M_Rr_readsAct.2.1 134 = .ok (.iconst 3, 1) := by decide +kernel
theorem d_Rr_readsAct_135 : decode M_Rr_readsAct.2.1 135 = .ok (.iconst 1, 1) := by decide +kernel
theorem d_Rr_readsAct_136 : decode M_Rr_readsAct.2.1 136 = .ok (.sipush 999, 3) := by decide +kernel
theorem d_Rr_readsAct_139 : decode M_Rr_readsAct.2.1 139 = .ok (.invokevirtual 34, 3) := by decide +kernel
theorem d_Rr_readsAct_142 : decode M_Rr_readsAct.2.1 142 = .ok (.ireturn, 1) := by decide +kernel
theorem d_Rr_readsAct_143 : decode M_Rr_readsAct.2.1 143 = .ok (.aload_n 0, 1) := by decide +kernel
theorem d_Rr_readsAct_144 : decode M_Rr_readsAct.2.1 144 = .ok (.aload_n 1, 1) := by decide +kernel
theorem d_Rr_readsAct_145 : decode M_Rr_readsAct.2.1 145 = .ok (.iconst 3, 1) := by decide +kernel
theorem d_Rr_readsAct_146 : decode M_Rr_readsAct.2.1 146 = .ok (.iconst 1, 1) := by decide +kernel
theorem d_Rr_readsAct_147 : decode M_Rr_readsAct.2.1 147 = .ok (.bipush 30, 2) := by decide +kernel
theorem d_Rr_readsAct_149 : decode M_Rr_readsAct.2.1 149 = .ok (.invokevirtual 34, 3) := by decide +kernel
theorem d_Rr_readsAct_152 : decode M_Rr_readsAct.2.1 152 = .ok (.ireturn, 1) := by decide +kernel
theorem d_Rr_readsAct_153 : decode M_Rr_readsAct.2.1 153 = .ok (.iconst 1, 1) := by decide +kernel
theorem d_Rr_readsAct_154 : decode M_Rr_readsAct.2.1 154 = .ok (.ireturn, 1) := by decide +kernel
def M_Rr_actOf : mj_M := (⟨"MarketTown$RuleReader", "actOf", "(LMarketTown$Tape;)I"⟩, prog_6_method_9_code, 2, some .int, 6, 129)
theorem d_Rr_actOf_0 : decode M_Rr_actOf.2.1 0 = .ok (.aload_n 0, 1) := by decide +kernel
theorem d_Rr_actOf_1 : decode M_Rr_actOf.2.1 1 = .ok (.aload_n 1, 1) := by decide +kernel
theorem d_Rr_actOf_2 : decode M_Rr_actOf.2.1 2 = .ok (.ldc 90, 2) := by decide +kernel
theorem d_Rr_actOf_4 : decode M_Rr_actOf.2.1 4 = .ok (.invokevirtual 30, 3) := by decide +kernel
theorem d_Rr_actOf_7 : decode M_Rr_actOf.2.1 7 = .ok (.ifCond .eq 5, 3) := by decide +kernel
theorem d_Rr_actOf_10 : decode M_Rr_actOf.2.1 10 = .ok (.iconst 0, 1) := by decide +kernel
theorem d_Rr_actOf_11 : decode M_Rr_actOf.2.1 11 = .ok (.ireturn, 1) := by decide +kernel
theorem d_Rr_actOf_12 : decode M_Rr_actOf.2.1 12 = .ok (.aload_n 0, 1) := by decide +kernel
theorem d_Rr_actOf_13 : decode M_Rr_actOf.2.1 13 = .ok (.aload_n 1, 1) := by decide +kernel
theorem d_Rr_actOf_14 : decode M_Rr_actOf.2.1 14 = .ok (.ldc 92, 2) := by decide +kernel
theorem d_Rr_actOf_16 : decode M_Rr_actOf.2.1 16 = .ok (.invokevirtual 30, 3) := by decide +kernel
theorem d_Rr_actOf_19 : decode M_Rr_actOf.2.1 19 = .ok (.ifCond .eq 5, 3) := by decide +kernel
theorem d_Rr_actOf_22 : decode M_Rr_actOf.2.1 22 = .ok (.iconst 1, 1) := by decide +kernel
theorem d_Rr_actOf_23 : decode M_Rr_actOf.2.1 23 = .ok (.ireturn, 1) := by decide +kernel
theorem d_Rr_actOf_24 : decode M_Rr_actOf.2.1 24 = .ok (.aload_n 0, 1) := by decide +kernel
theorem d_Rr_actOf_25 : decode M_Rr_actOf.2.1 25 = .ok (.aload_n 1, 1) := by decide +kernel
theorem d_Rr_actOf_26 : decode M_Rr_actOf.2.1 26 = .ok (.ldc 94, 2) := by decide +kernel
theorem d_Rr_actOf_28 : decode M_Rr_actOf.2.1 28 = .ok (.invokevirtual 30, 3) := by decide +kernel
theorem d_Rr_actOf_31 : decode M_Rr_actOf.2.1 31 = .ok (.ifCond .eq 5, 3) := by decide +kernel
theorem d_Rr_actOf_34 : decode M_Rr_actOf.2.1 34 = .ok (.iconst 2, 1) := by decide +kernel
theorem d_Rr_actOf_35 : decode M_Rr_actOf.2.1 35 = .ok (.ireturn, 1) := by decide +kernel
theorem d_Rr_actOf_36 : decode M_Rr_actOf.2.1 36 = .ok (.aload_n 0, 1) := by decide +kernel
theorem d_Rr_actOf_37 : decode M_Rr_actOf.2.1 37 = .ok (.aload_n 1, 1) := by decide +kernel
theorem d_Rr_actOf_38 : decode M_Rr_actOf.2.1 38 = .ok (.ldc 96, 2) := by decide +kernel
theorem d_Rr_actOf_40 : decode M_Rr_actOf.2.1 40 = .ok (.invokevirtual 30, 3) := by decide +kernel
theorem d_Rr_actOf_43 : decode M_Rr_actOf.2.1 43 = .ok (.ifCond .eq 5, 3) := by decide +kernel
theorem d_Rr_actOf_46 : decode M_Rr_actOf.2.1 46 = .ok (.iconst 3, 1) := by decide +kernel
theorem d_Rr_actOf_47 : decode M_Rr_actOf.2.1 47 = .ok (.ireturn, 1) := by decide +kernel
theorem d_Rr_actOf_48 : decode M_Rr_actOf.2.1 48 = .ok (.aload_n 0, 1) := by decide +kernel
theorem d_Rr_actOf_49 : decode M_Rr_actOf.2.1 49 = .ok (.aload_n 1, 1) := by decide +kernel
theorem d_Rr_actOf_50 : decode M_Rr_actOf.2.1 50 = .ok (.ldc 98, 2) := by decide +kernel
theorem d_Rr_actOf_52 : decode M_Rr_actOf.2.1 52 = .ok (.invokevirtual 30, 3) := by decide +kernel
theorem d_Rr_actOf_55 : decode M_Rr_actOf.2.1 55 = .ok (.ifCond .eq 5, 3) := by decide +kernel
theorem d_Rr_actOf_58 : decode M_Rr_actOf.2.1 58 = .ok (.iconst 4, 1) := by decide +kernel
theorem d_Rr_actOf_59 : decode M_Rr_actOf.2.1 59 = .ok (.ireturn, 1) := by decide +kernel
theorem d_Rr_actOf_60 : decode M_Rr_actOf.2.1 60 = .ok (.aload_n 0, 1) := by decide +kernel
theorem d_Rr_actOf_61 : decode M_Rr_actOf.2.1 61 = .ok (.aload_n 1, 1) := by decide +kernel
theorem d_Rr_actOf_62 : decode M_Rr_actOf.2.1 62 = .ok (.ldc 100, 2) := by decide +kernel
theorem d_Rr_actOf_64 : decode M_Rr_actOf.2.1 64 = .ok (.invokevirtual 30, 3) := by decide +kernel
theorem d_Rr_actOf_67 : decode M_Rr_actOf.2.1 67 = .ok (.ifCond .eq 7, 3) := by decide +kernel
theorem d_Rr_actOf_70 : decode M_Rr_actOf.2.1 70 = .ok (.iconst 5, 1) := by decide +kernel
theorem d_Rr_actOf_71 : decode M_Rr_actOf.2.1 71 = .ok (.goto 4, 3) := by decide +kernel
theorem d_Rr_actOf_74 : decode M_Rr_actOf.2.1 74 = .ok (.iconst (-1), 1) := by decide +kernel
theorem d_Rr_actOf_75 : decode M_Rr_actOf.2.1 75 = .ok (.ireturn, 1) := by decide +kernel
def M_Rr_reads : mj_M := (⟨"MarketTown$RuleReader", "reads", "(LMarketTown$Tape;III)Z"⟩, prog_6_method_10_code, 6, some .boolean, 2, 46)
theorem d_Rr_reads_0 : decode M_Rr_reads.2.1 0 = .ok (.aload_n 0, 1) := by decide +kernel
theorem d_Rr_reads_1 : decode M_Rr_reads.2.1 1 = .ok (.aload_n 1, 1) := by decide +kernel
theorem d_Rr_reads_2 : decode M_Rr_reads.2.1 2 = .ok (.invokevirtual 24, 3) := by decide +kernel
theorem d_Rr_reads_5 : decode M_Rr_reads.2.1 5 = .ok (.ifCond .eq 11, 3) := by decide +kernel
theorem d_Rr_reads_8 : decode M_Rr_reads.2.1 8 = .ok (.aload_n 0, 1) := by decide +kernel
theorem d_Rr_reads_9 : decode M_Rr_reads.2.1 9 = .ok (.aload_n 1, 1) := by decide +kernel
theorem d_Rr_reads_10 : decode M_Rr_reads.2.1 10 = .ok (.invokevirtual 102, 3) := by decide +kernel
theorem d_Rr_reads_13 : decode M_Rr_reads.2.1 13 = .ok (.goto 4, 3) := by decide +kernel
theorem d_Rr_reads_16 : decode M_Rr_reads.2.1 16 = .ok (.iconst (-1), 1) := by decide +kernel
theorem d_Rr_reads_17 : decode M_Rr_reads.2.1 17 = .ok (.istore 5, 2) := by decide +kernel
theorem d_Rr_reads_19 : decode M_Rr_reads.2.1 19 = .ok (.iload 5, 2) := by decide +kernel
theorem d_Rr_reads_21 : decode M_Rr_reads.2.1 21 = .ok (.iload_n 3, 1) := by decide +kernel
theorem d_Rr_reads_22 : decode M_Rr_reads.2.1 22 = .ok (.iload 4, 2) := by decide +kernel
theorem d_Rr_reads_24 : decode M_Rr_reads.2.1 24 = .ok (.invokestatic 105, 3) := by decide +kernel
theorem d_Rr_reads_27 : decode M_Rr_reads.2.1 27 = .ok (.ifCond .ne 5, 3) := by decide +kernel
theorem d_Rr_reads_30 : decode M_Rr_reads.2.1 30 = .ok (.iconst 0, 1) := by decide +kernel
theorem d_Rr_reads_31 : decode M_Rr_reads.2.1 31 = .ok (.ireturn, 1) := by decide +kernel
theorem d_Rr_reads_32 : decode M_Rr_reads.2.1 32 = .ok (.aload_n 0, 1) := by decide +kernel
theorem d_Rr_reads_33 : decode M_Rr_reads.2.1 33 = .ok (.getfield 11, 3) := by decide +kernel
theorem d_Rr_reads_36 : decode M_Rr_reads.2.1 36 = .ok (.iload_n 2, 1) := by decide +kernel
theorem d_Rr_reads_37 : decode M_Rr_reads.2.1 37 = .ok (.iload 5, 2) := by decide +kernel
theorem d_Rr_reads_39 : decode M_Rr_reads.2.1 39 = .ok (.iastore, 1) := by decide +kernel
theorem d_Rr_reads_40 : decode M_Rr_reads.2.1 40 = .ok (.iconst 1, 1) := by decide +kernel
theorem d_Rr_reads_41 : decode M_Rr_reads.2.1 41 = .ok (.ireturn, 1) := by decide +kernel
def M_Rr_number : mj_M := (⟨"MarketTown$RuleReader", "number", "(LMarketTown$Tape;)I"⟩, prog_6_method_11_code, 5, some .int, 1, 22)
theorem d_Rr_number_0 : decode M_Rr_number.2.1 0 = .ok (.iconst 0, 1) := by decide +kernel
theorem d_Rr_number_1 : decode M_Rr_number.2.1 1 = .ok (.istore_n 2, 1) := by decide +kernel
theorem d_Rr_number_2 : decode M_Rr_number.2.1 2 = .ok (.aload_n 0, 1) := by decide +kernel
theorem d_Rr_number_3 : decode M_Rr_number.2.1 3 = .ok (.getfield 54, 3) := by decide +kernel
theorem d_Rr_number_6 : decode M_Rr_number.2.1 6 = .ok (.istore_n 3, 1) := by decide +kernel
theorem d_Rr_number_7 : decode M_Rr_number.2.1 7 = .ok (.iload_n 3, 1) := by decide +kernel
theorem d_Rr_number_8 : decode M_Rr_number.2.1 8 = .ok (.aload_n 0, 1) := by decide +kernel
theorem d_Rr_number_9 : decode M_Rr_number.2.1 9 = .ok (.getfield 20, 3) := by decide +kernel
theorem d_Rr_number_12 : decode M_Rr_number.2.1 12 = .ok (.if_icmp .ge 49, 3) := by decide +kernel
theorem d_Rr_number_15 : decode M_Rr_number.2.1 15 = .ok (.aload_n 1, 1) := by decide +kernel
theorem d_Rr_number_16 : decode M_Rr_number.2.1 16 = .ok (.iload_n 3, 1) := by decide +kernel
theorem d_Rr_number_17 : decode M_Rr_number.2.1 17 = .ok (.invokevirtual 63, 3) := by decide +kernel
theorem d_Rr_number_20 : decode M_Rr_number.2.1 20 = .ok (.bipush 48, 2) := by decide +kernel
theorem d_Rr_number_22 : decode M_Rr_number.2.1 22 = .ok (.isub, 1) := by decide +kernel
theorem d_Rr_number_23 : decode M_Rr_number.2.1 23 = .ok (.istore 4, 2) := by decide +kernel
theorem d_Rr_number_25 : decode M_Rr_number.2.1 25 = .ok (.iload 4, 2) := by decide +kernel
theorem d_Rr_number_27 : decode M_Rr_number.2.1 27 = .ok (.iconst 0, 1) := by decide +kernel
theorem d_Rr_number_28 : decode M_Rr_number.2.1 28 = .ok (.bipush 9, 2) := by decide +kernel
theorem d_Rr_number_30 : decode M_Rr_number.2.1 30 = .ok (.invokestatic 105, 3) := by decide +kernel
theorem d_Rr_number_33 : decode M_Rr_number.2.1 33 = .ok (.ifCond .ne 5, 3) := by decide +kernel
theorem d_Rr_number_36 : decode M_Rr_number.2.1 36 = .ok (.iconst (-1), 1) := by decide +kernel
theorem d_Rr_number_37 : decode M_Rr_number.2.1 37 = .ok (.ireturn, 1) := by decide +kernel
theorem d_Rr_number_38 : decode M_Rr_number.2.1 38 = .ok (.iload_n 2, 1) := by decide +kernel
theorem d_Rr_number_39 : decode M_Rr_number.2.1 39 = .ok (.bipush 10, 2) := by decide +kernel
theorem d_Rr_number_41 : decode M_Rr_number.2.1 41 = .ok (.imul, 1) := by decide +kernel
theorem d_Rr_number_42 : decode M_Rr_number.2.1 42 = .ok (.iload 4, 2) := by decide +kernel
theorem d_Rr_number_44 : decode M_Rr_number.2.1 44 = .ok (.iadd, 1) := by decide +kernel
theorem d_Rr_number_45 : decode M_Rr_number.2.1 45 = .ok (.istore_n 2, 1) := by decide +kernel
theorem d_Rr_number_46 : decode M_Rr_number.2.1 46 = .ok (.iload_n 2, 1) := by decide +kernel
theorem d_Rr_number_47 : decode M_Rr_number.2.1 47 = .ok (.sipush 9999, 3) := by decide +kernel
theorem d_Rr_number_50 : decode M_Rr_number.2.1 50 = .ok (.if_icmp .le 5, 3) := by decide +kernel
theorem d_Rr_number_53 : decode M_Rr_number.2.1 53 = .ok (.iconst (-1), 1) := by decide +kernel
theorem d_Rr_number_54 : decode M_Rr_number.2.1 54 = .ok (.ireturn, 1) := by decide +kernel
theorem d_Rr_number_55 : decode M_Rr_number.2.1 55 = .ok (.iinc 3 1, 3) := by decide +kernel
theorem d_Rr_number_58 : decode M_Rr_number.2.1 58 = .ok (.goto (-51), 3) := by decide +kernel
theorem d_Rr_number_61 : decode M_Rr_number.2.1 61 = .ok (.iload_n 2, 1) := by decide +kernel
theorem d_Rr_number_62 : decode M_Rr_number.2.1 62 = .ok (.ireturn, 1) := by decide +kernel
def M_Rr_readsCond : mj_M := (⟨"MarketTown$RuleReader", "readsCond", "(LMarketTown$Tape;)Z"⟩, prog_6_method_6_code, 5, some .boolean, 7, 150)
theorem d_Rr_readsCond_0 : decode M_Rr_readsCond.2.1 0 = .ok (.aload_n 0, 1) := by decide +kernel
theorem d_Rr_readsCond_1 : decode M_Rr_readsCond.2.1 1 = .ok (.aload_n 1, 1) := by decide +kernel
theorem d_Rr_readsCond_2 : decode M_Rr_readsCond.2.1 2 = .ok (.invokevirtual 24, 3) := by decide +kernel
theorem d_Rr_readsCond_5 : decode M_Rr_readsCond.2.1 5 = .ok (.pop, 1) := by decide +kernel
theorem d_Rr_readsCond_6 : decode M_Rr_readsCond.2.1 6 = .ok (.aload_n 0, 1) := by decide +kernel
theorem d_Rr_readsCond_7 : decode M_Rr_readsCond.2.1 7 = .ok (.aload_n 1, 1) := by decide +kernel
theorem d_Rr_readsCond_8 : decode M_Rr_readsCond.2.1 8 = .ok (.invokevirtual 71, 3) := by decide +kernel
theorem d_Rr_readsCond_11 : decode M_Rr_readsCond.2.1 11 = .ok (.istore_n 2, 1) := by decide +kernel
theorem d_Rr_readsCond_12 : decode M_Rr_readsCond.2.1 12 = .ok (.iload_n 2, 1) := by decide +kernel
theorem d_Rr_readsCond_13 : decode M_Rr_readsCond.2.1 13 = .ok (.iconst (-1), 1) := by decide +kernel
theorem d_Rr_readsCond_14 : decode M_Rr_readsCond.2.1 14 = .ok (.if_icmp .ne 5, 3) := by decide +kernel
theorem d_Rr_readsCond_17 : decode M_Rr_readsCond.2.1 17 = .ok (.iconst 0, 1) := by decide +kernel
theorem d_Rr_readsCond_18 : decode M_Rr_readsCond.2.1 18 = .ok (.ireturn, 1) := by decide +kernel
theorem d_Rr_readsCond_19 : decode M_Rr_readsCond.2.1 19 = .ok (.iload_n 2, 1) := by decide +kernel
theorem d_Rr_readsCond_20 : decode M_Rr_readsCond.2.1 20 = .ok (.iconst 1, 1) := by decide +kernel
theorem d_Rr_readsCond_21 : decode M_Rr_readsCond.2.1 21 = .ok (.if_icmp .eq 8, 3) := by decide +kernel
theorem d_Rr_readsCond_24 : decode M_Rr_readsCond.2.1 24 = .ok (.iload_n 2, 1) := by decide +kernel
theorem d_Rr_readsCond_25 : decode M_Rr_readsCond.2.1 25 = .ok (.iconst 3, 1) := by decide +kernel
theorem d_Rr_readsCond_26 : decode M_Rr_readsCond.2.1 26 = .ok (.if_icmp .ne 7, 3) := by decide +kernel
theorem d_Rr_readsCond_29 : decode M_Rr_readsCond.2.1 29 = .ok (.iconst 1, 1) := by decide +kernel
theorem d_Rr_readsCond_30 : decode M_Rr_readsCond.2.1 30 = .ok (.goto 4, 3) := by decide +kernel
theorem d_Rr_readsCond_33 : decode M_Rr_readsCond.2.1 33 = .ok (.iconst 0, 1) := by decide +kernel
theorem d_Rr_readsCond_34 : decode M_Rr_readsCond.2.1 34 = .ok (.istore_n 3, 1) := by decide +kernel
theorem d_Rr_readsCond_35 : decode M_Rr_readsCond.2.1 35 = .ok (.iload_n 3, 1) := by decide +kernel
theorem d_Rr_readsCond_36 : decode M_Rr_readsCond.2.1 36 = .ok (.ifCond .eq 17, 3) := by decide +kernel
theorem d_Rr_readsCond_39 : decode M_Rr_readsCond.2.1 39 = .ok (.aload_n 0, 1) := by decide +kernel
theorem d_Rr_readsCond_40 : decode M_Rr_readsCond.2.1 40 = .ok (.aload_n 1, 1) := by decide +kernel
theorem d_Rr_readsCond_41 : decode M_Rr_readsCond.2.1 41 = .ok (.bipush 6, 2) := by decide +kernel
theorem d_Rr_readsCond_43 : decode M_Rr_readsCond.2.1 43 = .ok (.iconst 0, 1) := by decide +kernel
theorem d_Rr_readsCond_44 : decode M_Rr_readsCond.2.1 44 = .ok (.iconst 4, 1) := by decide +kernel
theorem d_Rr_readsCond_45 : decode M_Rr_readsCond.2.1 45 = .ok (.invokevirtual 34, 3) := by decide +kernel
theorem d_Rr_readsCond_48 : decode M_Rr_readsCond.2.1 48 = .ok (.ifCond .ne 5, 3) := by decide +kernel
theorem d_Rr_readsCond_51 : decode M_Rr_readsCond.2.1 51 = .ok (.iconst 0, 1) := by decide +kernel
theorem d_Rr_readsCond_52 : decode M_Rr_readsCond.2.1 52 = .ok (.ireturn, 1) := by decide +kernel
theorem d_Rr_readsCond_53 : decode M_Rr_readsCond.2.1 53 = .ok (.aload_n 0, 1) := by decide +kernel
theorem d_Rr_readsCond_54 : decode M_Rr_readsCond.2.1 54 = .ok (.aload_n 1, 1) := by decide +kernel
theorem d_Rr_readsCond_55 : decode M_Rr_readsCond.2.1 55 = .ok (.invokevirtual 24, 3) := by decide +kernel
theorem d_Rr_readsCond_58 : decode M_Rr_readsCond.2.1 58 = .ok (.pop, 1) := by decide +kernel
theorem d_Rr_readsCond_59 : decode M_Rr_readsCond.2.1 59 = .ok (.aload_n 0, 1) := by decide +kernel
theorem d_Rr_readsCond_60 : decode M_Rr_readsCond.2.1 60 = .ok (.aload_n 1, 1) := by decide +kernel
theorem d_Rr_readsCond_61 : decode M_Rr_readsCond.2.1 61 = .ok (.ldc 75, 2) := by decide +kernel
theorem d_Rr_readsCond_63 : decode M_Rr_readsCond.2.1 63 = .ok (.invokevirtual 30, 3) := by decide +kernel
theorem d_Rr_readsCond_66 : decode M_Rr_readsCond.2.1 66 = .ok (.istore 4, 2) := by decide +kernel
theorem d_Rr_readsCond_68 : decode M_Rr_readsCond.2.1 68 = .ok (.iload 4, 2) := by decide +kernel
theorem d_Rr_readsCond_70 : decode M_Rr_readsCond.2.1 70 = .ok (.ifCond .ne 15, 3) := by decide +kernel
theorem d_Rr_readsCond_73 : decode M_Rr_readsCond.2.1 73 = .ok (.aload_n 0, 1) := by decide +kernel
theorem d_Rr_readsCond_74 : decode M_Rr_readsCond.2.1 74 = .ok (.aload_n 1, 1) := by decide +kernel
theorem d_Rr_readsCond_75 : decode M_Rr_readsCond.2.1 75 = .ok (.ldc 77, 2) := by decide +kernel
theorem d_Rr_readsCond_77 : decode M_Rr_readsCond.2.1 77 = .ok (.invokevirtual 30, 3) := by decide +kernel
theorem d_Rr_readsCond_80 : decode M_Rr_readsCond.2.1 80 = .ok (.ifCond .ne 5, 3) := by decide +kernel
theorem d_Rr_readsCond_83 : decode M_Rr_readsCond.2.1 83 = .ok (.iconst 0, 1) := by decide +kernel
theorem d_Rr_readsCond_84 : decode M_Rr_readsCond.2.1 84 = .ok (.ireturn, 1) := by decide +kernel
theorem d_Rr_readsCond_85 : decode M_Rr_readsCond.2.1 85 = .ok (.aload_n 0, 1) := by decide +kernel
theorem d_Rr_readsCond_86 : decode M_Rr_readsCond.2.1 86 = .ok (.getfield 11, 3) := by decide +kernel
theorem d_Rr_readsCond_89 : decode M_Rr_readsCond.2.1 89 = .ok (.iconst 5, 1) := by decide +kernel
theorem d_Rr_readsCond_90 : decode M_Rr_readsCond.2.1 90 = .ok (.iload 4, 2) := by decide +kernel
theorem d_Rr_readsCond_92 : decode M_Rr_readsCond.2.1 92 = .ok (.ifCond .eq 9, 3) := by decide +kernel
theorem d_Rr_readsCond_95 : decode M_Rr_readsCond.2.1 95 = .ok (.iload_n 2, 1) := by decide +kernel
theorem d_Rr_readsCond_96 : decode M_Rr_readsCond.2.1 96 = .ok (.iconst 4, 1) := by decide +kernel
theorem d_Rr_readsCond_97 : decode M_Rr_readsCond.2.1 97 = .ok (.iadd, 1) := by decide +kernel
theorem d_Rr_readsCond_98 : decode M_Rr_readsCond.2.1 98 = .ok (.goto 4, 3) := by decide +kernel
theorem d_Rr_readsCond_101 : decode M_Rr_readsCond.2.1 101 = .ok (.iload_n 2, 1) := by decide +kernel
theorem d_Rr_readsCond_102 : decode M_Rr_readsCond.2.1 102 = .ok (.iastore, 1) := by decide +kernel
theorem d_Rr_readsCond_103 : decode M_Rr_readsCond.2.1 103 = .ok (.aload_n 0, 1) := by decide +kernel
theorem d_Rr_readsCond_104 : decode M_Rr_readsCond.2.1 104 = .ok (.aload_n 1, 1) := by decide +kernel
theorem d_Rr_readsCond_105 : decode M_Rr_readsCond.2.1 105 = .ok (.bipush 7, 2) := by decide +kernel
theorem d_Rr_readsCond_107 : decode M_Rr_readsCond.2.1 107 = .ok (.iconst 0, 1) := by decide +kernel
theorem d_Rr_readsCond_108 : decode M_Rr_readsCond.2.1 108 = .ok (.sipush 9999, 3) := by decide +kernel
theorem d_Rr_readsCond_111 : decode M_Rr_readsCond.2.1 111 = .ok (.invokevirtual 34, 3) := by decide +kernel
theorem d_Rr_readsCond_114 : decode M_Rr_readsCond.2.1 114 = .ok (.ireturn, 1) := by decide +kernel
def M_Rr_condOf : mj_M := (⟨"MarketTown$RuleReader", "condOf", "(LMarketTown$Tape;)I"⟩, prog_6_method_7_code, 2, some .int, 6, 129)
theorem d_Rr_condOf_0 : decode M_Rr_condOf.2.1 0 = .ok (.aload_n 0, 1) := by decide +kernel
theorem d_Rr_condOf_1 : decode M_Rr_condOf.2.1 1 = .ok (.aload_n 1, 1) := by decide +kernel
theorem d_Rr_condOf_2 : decode M_Rr_condOf.2.1 2 = .ok (.ldc 79, 2) := by decide +kernel
theorem d_Rr_condOf_4 : decode M_Rr_condOf.2.1 4 = .ok (.invokevirtual 30, 3) := by decide +kernel
theorem d_Rr_condOf_7 : decode M_Rr_condOf.2.1 7 = .ok (.ifCond .eq 5, 3) := by decide +kernel
theorem d_Rr_condOf_10 : decode M_Rr_condOf.2.1 10 = .ok (.iconst 0, 1) := by decide +kernel
theorem d_Rr_condOf_11 : decode M_Rr_condOf.2.1 11 = .ok (.ireturn, 1) := by decide +kernel
theorem d_Rr_condOf_12 : decode M_Rr_condOf.2.1 12 = .ok (.aload_n 0, 1) := by decide +kernel
theorem d_Rr_condOf_13 : decode M_Rr_condOf.2.1 13 = .ok (.aload_n 1, 1) := by decide +kernel
theorem d_Rr_condOf_14 : decode M_Rr_condOf.2.1 14 = .ok (.ldc 81, 2) := by decide +kernel
theorem d_Rr_condOf_16 : decode M_Rr_condOf.2.1 16 = .ok (.invokevirtual 30, 3) := by decide +kernel
theorem d_Rr_condOf_19 : decode M_Rr_condOf.2.1 19 = .ok (.ifCond .eq 5, 3) := by decide +kernel
theorem d_Rr_condOf_22 : decode M_Rr_condOf.2.1 22 = .ok (.iconst 1, 1) := by decide +kernel
theorem d_Rr_condOf_23 : decode M_Rr_condOf.2.1 23 = .ok (.ireturn, 1) := by decide +kernel
theorem d_Rr_condOf_24 : decode M_Rr_condOf.2.1 24 = .ok (.aload_n 0, 1) := by decide +kernel
theorem d_Rr_condOf_25 : decode M_Rr_condOf.2.1 25 = .ok (.aload_n 1, 1) := by decide +kernel
theorem d_Rr_condOf_26 : decode M_Rr_condOf.2.1 26 = .ok (.ldc 83, 2) := by decide +kernel
theorem d_Rr_condOf_28 : decode M_Rr_condOf.2.1 28 = .ok (.invokevirtual 30, 3) := by decide +kernel
theorem d_Rr_condOf_31 : decode M_Rr_condOf.2.1 31 = .ok (.ifCond .eq 5, 3) := by decide +kernel
theorem d_Rr_condOf_34 : decode M_Rr_condOf.2.1 34 = .ok (.iconst 2, 1) := by decide +kernel
theorem d_Rr_condOf_35 : decode M_Rr_condOf.2.1 35 = .ok (.ireturn, 1) := by decide +kernel
theorem d_Rr_condOf_36 : decode M_Rr_condOf.2.1 36 = .ok (.aload_n 0, 1) := by decide +kernel
theorem d_Rr_condOf_37 : decode M_Rr_condOf.2.1 37 = .ok (.aload_n 1, 1) := by decide +kernel
theorem d_Rr_condOf_38 : decode M_Rr_condOf.2.1 38 = .ok (.ldc 85, 2) := by decide +kernel
theorem d_Rr_condOf_40 : decode M_Rr_condOf.2.1 40 = .ok (.invokevirtual 30, 3) := by decide +kernel
theorem d_Rr_condOf_43 : decode M_Rr_condOf.2.1 43 = .ok (.ifCond .eq 7, 3) := by decide +kernel
theorem d_Rr_condOf_46 : decode M_Rr_condOf.2.1 46 = .ok (.iconst 3, 1) := by decide +kernel
theorem d_Rr_condOf_47 : decode M_Rr_condOf.2.1 47 = .ok (.goto 4, 3) := by decide +kernel
theorem d_Rr_condOf_50 : decode M_Rr_condOf.2.1 50 = .ok (.iconst (-1), 1) := by decide +kernel
theorem d_Rr_condOf_51 : decode M_Rr_condOf.2.1 51 = .ok (.ireturn, 1) := by decide +kernel
def M_Rl_append : mj_M := (⟨"MarketTown$Rules", "append", "(I[I)I"⟩, prog_7_method_5_code, 4, some .int, 1, 64)
theorem d_Rl_append_0 : decode M_Rl_append.2.1 0 = .ok (.aload_n 0, 1) := by decide +kernel
theorem d_Rl_append_1 : decode M_Rl_append.2.1 1 = .ok (.getfield 9, 3) := by decide +kernel
theorem d_Rl_append_4 : decode M_Rl_append.2.1 4 = .ok (.iload_n 1, 1) := by decide +kernel
theorem d_Rl_append_5 : decode M_Rl_append.2.1 5 = .ok (.iaload, 1) := by decide +kernel
theorem d_Rl_append_6 : decode M_Rl_append.2.1 6 = .ok (.istore_n 3, 1) := by decide +kernel
theorem d_Rl_append_7 : decode M_Rl_append.2.1 7 = .ok (.iload_n 3, 1) := by decide +kernel
theorem d_Rl_append_8 : decode M_Rl_append.2.1 8 = .ok (.bipush 6, 2) := by decide +kernel
theorem d_Rl_append_10 : decode M_Rl_append.2.1 10 = .ok (.if_icmp .lt 6, 3) := by decide +kernel
theorem d_Rl_append_13 : decode M_Rl_append.2.1 13 = .ok (.ldc 22, 2) := by decide +kernel
theorem d_Rl_append_15 : decode M_Rl_append.2.1 15 = .ok (.ireturn, 1) := by decide +kernel
theorem d_Rl_append_16 : decode M_Rl_append.2.1 16 = .ok (.aload_n 2, 1) := by decide +kernel
theorem d_Rl_append_17 : decode M_Rl_append.2.1 17 = .ok (.iconst 0, 1) := by decide +kernel
theorem d_Rl_append_18 : decode M_Rl_append.2.1 18 = .ok (.aload_n 0, 1) := by decide +kernel
theorem d_Rl_append_19 : decode M_Rl_append.2.1 19 = .ok (.getfield 15, 3) := by decide +kernel
theorem d_Rl_append_22 : decode M_Rl_append.2.1 22 = .ok (.iload_n 1, 1) := by decide +kernel
theorem d_Rl_append_23 : decode M_Rl_append.2.1 23 = .ok (.iload_n 3, 1) := by decide +kernel
theorem d_Rl_append_24 : decode M_Rl_append.2.1 24 = .ok (.invokestatic 18, 3) := by decide +kernel
theorem d_Rl_append_27 : decode M_Rl_append.2.1 27 = .ok (.bipush 9, 2) := by decide +kernel
theorem d_Rl_append_29 : decode M_Rl_append.2.1 29 = .ok (.invokestatic 23, 3) := by decide +kernel
theorem d_Rl_append_32 : decode M_Rl_append.2.1 32 = .ok (.aload_n 0, 1) := by decide +kernel
theorem d_Rl_append_33 : decode M_Rl_append.2.1 33 = .ok (.getfield 9, 3) := by decide +kernel
theorem d_Rl_append_36 : decode M_Rl_append.2.1 36 = .ok (.iload_n 1, 1) := by decide +kernel
theorem d_Rl_append_37 : decode M_Rl_append.2.1 37 = .ok (.dup2, 1) := by decide +kernel
theorem d_Rl_append_38 : decode M_Rl_append.2.1 38 = .ok (.iaload, 1) := by decide +kernel
theorem d_Rl_append_39 : decode M_Rl_append.2.1 39 = .ok (.iconst 1, 1) := by decide +kernel
theorem d_Rl_append_40 : decode M_Rl_append.2.1 40 = .ok (.iadd, 1) := by decide +kernel
theorem d_Rl_append_41 : decode M_Rl_append.2.1 41 = .ok (.iastore, 1) := by decide +kernel
theorem d_Rl_append_42 : decode M_Rl_append.2.1 42 = .ok (.iload_n 3, 1) := by decide +kernel
theorem d_Rl_append_43 : decode M_Rl_append.2.1 43 = .ok (.ireturn, 1) := by decide +kernel
def M_Rl_start : mj_M := (⟨"MarketTown$Rules", "start", "(II)I"⟩, prog_7_method_2_code, 2, some .int, 0, 0)
theorem d_Rl_start_0 : decode M_Rl_start.2.1 0 = .ok (.iload_n 0, 1) := by decide +kernel
theorem d_Rl_start_1 : decode M_Rl_start.2.1 1 = .ok (.bipush 6, 2) := by decide +kernel
theorem d_Rl_start_3 : decode M_Rl_start.2.1 3 = .ok (.imul, 1) := by decide +kernel
theorem d_Rl_start_4 : decode M_Rl_start.2.1 4 = .ok (.iload_n 1, 1) := by decide +kernel
theorem d_Rl_start_5 : decode M_Rl_start.2.1 5 = .ok (.iadd, 1) := by decide +kernel
theorem d_Rl_start_6 : decode M_Rl_start.2.1 6 = .ok (.bipush 9, 2) := by decide +kernel
theorem d_Rl_start_8 : decode M_Rl_start.2.1 8 = .ok (.imul, 1) := by decide +kernel
theorem d_Rl_start_9 : decode M_Rl_start.2.1 9 = .ok (.ireturn, 1) := by decide +kernel
def M_Mk_unrule : mj_M := (⟨"MarketTown", "unrule", "(I)I"⟩, prog_1_method_12_code, 2, some .int, 2, 43)
theorem d_Mk_unrule_0 : decode M_Mk_unrule.2.1 0 = .ok (.aload_n 0, 1) := by decide +kernel
theorem d_Mk_unrule_1 : decode M_Mk_unrule.2.1 1 = .ok (.getfield 12, 3) := by decide +kernel
theorem d_Mk_unrule_4 : decode M_Mk_unrule.2.1 4 = .ok (.iload_n 1, 1) := by decide +kernel
theorem d_Mk_unrule_5 : decode M_Mk_unrule.2.1 5 = .ok (.invokevirtual 64, 3) := by decide +kernel
theorem d_Mk_unrule_8 : decode M_Mk_unrule.2.1 8 = .ok (.ifCond .ne 6, 3) := by decide +kernel
theorem d_Mk_unrule_11 : decode M_Mk_unrule.2.1 11 = .ok (.ldc 54, 2) := by decide +kernel
theorem d_Mk_unrule_13 : decode M_Mk_unrule.2.1 13 = .ok (.ireturn, 1) := by decide +kernel
theorem d_Mk_unrule_14 : decode M_Mk_unrule.2.1 14 = .ok (.aload_n 0, 1) := by decide +kernel
theorem d_Mk_unrule_15 : decode M_Mk_unrule.2.1 15 = .ok (.getfield 12, 3) := by decide +kernel
theorem d_Mk_unrule_18 : decode M_Mk_unrule.2.1 18 = .ok (.getfield 123, 3) := by decide +kernel
theorem d_Mk_unrule_21 : decode M_Mk_unrule.2.1 21 = .ok (.iload_n 1, 1) := by decide +kernel
theorem d_Mk_unrule_22 : decode M_Mk_unrule.2.1 22 = .ok (.invokevirtual 136, 3) := by decide +kernel
theorem d_Mk_unrule_25 : decode M_Mk_unrule.2.1 25 = .ok (.ireturn, 1) := by decide +kernel
def M_Rl_dropLast : mj_M := (⟨"MarketTown$Rules", "dropLast", "(I)I"⟩, prog_7_method_6_code, 2, some .int, 0, 0)
theorem d_Rl_dropLast_0 : decode M_Rl_dropLast.2.1 0 = .ok (.aload_n 0, 1) := by decide +kernel
theorem d_Rl_dropLast_1 : decode M_Rl_dropLast.2.1 1 = .ok (.getfield 9, 3) := by decide +kernel
theorem d_Rl_dropLast_4 : decode M_Rl_dropLast.2.1 4 = .ok (.iload_n 1, 1) := by decide +kernel
theorem d_Rl_dropLast_5 : decode M_Rl_dropLast.2.1 5 = .ok (.iaload, 1) := by decide +kernel
theorem d_Rl_dropLast_6 : decode M_Rl_dropLast.2.1 6 = .ok (.ifCond .gt 6, 3) := by decide +kernel
theorem d_Rl_dropLast_9 : decode M_Rl_dropLast.2.1 9 = .ok (.ldc 29, 2) := by decide +kernel
theorem d_Rl_dropLast_11 : decode M_Rl_dropLast.2.1 11 = .ok (.ireturn, 1) := by decide +kernel
theorem d_Rl_dropLast_12 : decode M_Rl_dropLast.2.1 12 = .ok (.aload_n 0, 1) := by decide +kernel
theorem d_Rl_dropLast_13 : decode M_Rl_dropLast.2.1 13 = .ok (.getfield 9, 3) := by decide +kernel
theorem d_Rl_dropLast_16 : decode M_Rl_dropLast.2.1 16 = .ok (.iload_n 1, 1) := by decide +kernel
theorem d_Rl_dropLast_17 : decode M_Rl_dropLast.2.1 17 = .ok (.dup2, 1) := by decide +kernel
theorem d_Rl_dropLast_18 : decode M_Rl_dropLast.2.1 18 = .ok (.iaload, 1) := by decide +kernel
theorem d_Rl_dropLast_19 : decode M_Rl_dropLast.2.1 19 = .ok (.iconst 1, 1) := by decide +kernel
theorem d_Rl_dropLast_20 : decode M_Rl_dropLast.2.1 20 = .ok (.isub, 1) := by decide +kernel
theorem d_Rl_dropLast_21 : decode M_Rl_dropLast.2.1 21 = .ok (.iastore, 1) := by decide +kernel
theorem d_Rl_dropLast_22 : decode M_Rl_dropLast.2.1 22 = .ok (.aload_n 0, 1) := by decide +kernel
theorem d_Rl_dropLast_23 : decode M_Rl_dropLast.2.1 23 = .ok (.getfield 9, 3) := by decide +kernel
theorem d_Rl_dropLast_26 : decode M_Rl_dropLast.2.1 26 = .ok (.iload_n 1, 1) := by decide +kernel
theorem d_Rl_dropLast_27 : decode M_Rl_dropLast.2.1 27 = .ok (.iaload, 1) := by decide +kernel
theorem d_Rl_dropLast_28 : decode M_Rl_dropLast.2.1 28 = .ok (.ireturn, 1) := by decide +kernel
def M_Mk_live : mj_M := (⟨"MarketTown", "live", "(I)I"⟩, prog_1_method_13_code, 3, some .int, 6, 152)
theorem d_Mk_live_0 : decode M_Mk_live.2.1 0 = .ok (.iload_n 1, 1) := by decide +kernel
theorem d_Mk_live_1 : decode M_Mk_live.2.1 1 = .ok (.iconst 1, 1) := by decide +kernel
theorem d_Mk_live_2 : decode M_Mk_live.2.1 2 = .ok (.bipush 30, 2) := by decide +kernel
theorem d_Mk_live_4 : decode M_Mk_live.2.1 4 = .ok (.invokestatic 50, 3) := by decide +kernel
theorem d_Mk_live_7 : decode M_Mk_live.2.1 7 = .ok (.ifCond .eq 18, 3) := by decide +kernel
theorem d_Mk_live_10 : decode M_Mk_live.2.1 10 = .ok (.aload_n 0, 1) := by decide +kernel
theorem d_Mk_live_11 : decode M_Mk_live.2.1 11 = .ok (.getfield 12, 3) := by decide +kernel
theorem d_Mk_live_14 : decode M_Mk_live.2.1 14 = .ok (.getfield 139, 3) := by decide +kernel
theorem d_Mk_live_17 : decode M_Mk_live.2.1 17 = .ok (.iload_n 1, 1) := by decide +kernel
theorem d_Mk_live_18 : decode M_Mk_live.2.1 18 = .ok (.iadd, 1) := by decide +kernel
theorem d_Mk_live_19 : decode M_Mk_live.2.1 19 = .ok (.sipush 700, 3) := by decide +kernel
theorem d_Mk_live_22 : decode M_Mk_live.2.1 22 = .ok (.if_icmp .le 6, 3) := by decide +kernel
theorem d_Mk_live_25 : decode M_Mk_live.2.1 25 = .ok (.ldc 54, 2) := by decide +kernel
theorem d_Mk_live_27 : decode M_Mk_live.2.1 27 = .ok (.ireturn, 1) := by decide +kernel
theorem d_Mk_live_28 : decode M_Mk_live.2.1 28 = .ok (.iconst 0, 1) := by decide +kernel
theorem d_Mk_live_29 : decode M_Mk_live.2.1 29 = .ok (.istore_n 2, 1) := by decide +kernel
theorem d_Mk_live_30 : decode M_Mk_live.2.1 30 = .ok (.iload_n 2, 1) := by decide +kernel
theorem d_Mk_live_31 : decode M_Mk_live.2.1 31 = .ok (.iload_n 1, 1) := by decide +kernel
theorem d_Mk_live_32 : decode M_Mk_live.2.1 32 = .ok (.if_icmp .ge 20, 3) := by decide +kernel
theorem d_Mk_live_35 : decode M_Mk_live.2.1 35 = .ok (.aload_n 0, 1) := by decide +kernel
theorem d_Mk_live_36 : decode M_Mk_live.2.1 36 = .ok (.getfield 41, 3) := by decide +kernel
theorem d_Mk_live_39 : decode M_Mk_live.2.1 39 = .ok (.aload_n 0, 1) := by decide +kernel
theorem d_Mk_live_40 : decode M_Mk_live.2.1 40 = .ok (.getfield 12, 3) := by decide +kernel
theorem d_Mk_live_43 : decode M_Mk_live.2.1 43 = .ok (.invokevirtual 142, 3) := by decide +kernel
theorem d_Mk_live_46 : decode M_Mk_live.2.1 46 = .ok (.iinc 2 1, 3) := by decide +kernel
theorem d_Mk_live_49 : decode M_Mk_live.2.1 49 = .ok (.goto (-19), 3) := by decide +kernel
theorem d_Mk_live_52 : decode M_Mk_live.2.1 52 = .ok (.aload_n 0, 1) := by decide +kernel
theorem d_Mk_live_53 : decode M_Mk_live.2.1 53 = .ok (.getfield 12, 3) := by decide +kernel
theorem d_Mk_live_56 : decode M_Mk_live.2.1 56 = .ok (.getfield 139, 3) := by decide +kernel
theorem d_Mk_live_59 : decode M_Mk_live.2.1 59 = .ok (.ireturn, 1) := by decide +kernel
def M_Dy_pass : mj_M := (⟨"MarketTown$Day", "pass", "(LMarketTown$Town;)V"⟩, prog_2_method_2_code, 4, none, 5, 129)
theorem d_Dy_pass_0 : decode M_Dy_pass.2.1 0 = .ok (.aload_n 0, 1) := by decide +kernel
theorem d_Dy_pass_1 : decode M_Dy_pass.2.1 1 = .ok (.aload_n 1, 1) := by decide +kernel
theorem d_Dy_pass_2 : decode M_Dy_pass.2.1 2 = .ok (.invokevirtual 22, 3) := by decide +kernel
theorem d_Dy_pass_5 : decode M_Dy_pass.2.1 5 = .ok (.aload_n 0, 1) := by decide +kernel
theorem d_Dy_pass_6 : decode M_Dy_pass.2.1 6 = .ok (.getfield 18, 3) := by decide +kernel
theorem d_Dy_pass_9 : decode M_Dy_pass.2.1 9 = .ok (.invokevirtual 26, 3) := by decide +kernel
theorem d_Dy_pass_12 : decode M_Dy_pass.2.1 12 = .ok (.iconst 0, 1) := by decide +kernel
theorem d_Dy_pass_13 : decode M_Dy_pass.2.1 13 = .ok (.istore_n 2, 1) := by decide +kernel
theorem d_Dy_pass_14 : decode M_Dy_pass.2.1 14 = .ok (.iload_n 2, 1) := by decide +kernel
theorem d_Dy_pass_15 : decode M_Dy_pass.2.1 15 = .ok (.aload_n 1, 1) := by decide +kernel
theorem d_Dy_pass_16 : decode M_Dy_pass.2.1 16 = .ok (.getfield 29, 3) := by decide +kernel
theorem d_Dy_pass_19 : decode M_Dy_pass.2.1 19 = .ok (.if_icmp .ge 34, 3) := by decide +kernel
theorem d_Dy_pass_22 : decode M_Dy_pass.2.1 22 = .ok (.aload_n 1, 1) := by decide +kernel
theorem d_Dy_pass_23 : decode M_Dy_pass.2.1 23 = .ok (.getfield 35, 3) := by decide +kernel
theorem d_Dy_pass_26 : decode M_Dy_pass.2.1 26 = .ok (.aload_n 0, 1) := by decide +kernel
theorem d_Dy_pass_27 : decode M_Dy_pass.2.1 27 = .ok (.getfield 9, 3) := by decide +kernel
theorem d_Dy_pass_30 : decode M_Dy_pass.2.1 30 = .ok (.iload_n 2, 1) := by decide +kernel
theorem d_Dy_pass_31 : decode M_Dy_pass.2.1 31 = .ok (.iaload, 1) := by decide +kernel
theorem d_Dy_pass_32 : decode M_Dy_pass.2.1 32 = .ok (.iaload, 1) := by decide +kernel
theorem d_Dy_pass_33 : decode M_Dy_pass.2.1 33 = .ok (.ifCond .ne 14, 3) := by decide +kernel
theorem d_Dy_pass_36 : decode M_Dy_pass.2.1 36 = .ok (.aload_n 0, 1) := by decide +kernel
theorem d_Dy_pass_37 : decode M_Dy_pass.2.1 37 = .ok (.aload_n 1, 1) := by decide +kernel
theorem d_Dy_pass_38 : decode M_Dy_pass.2.1 38 = .ok (.aload_n 0, 1) := by decide +kernel
theorem d_Dy_pass_39 : decode M_Dy_pass.2.1 39 = .ok (.getfield 9, 3) := by decide +kernel
theorem d_Dy_pass_42 : decode M_Dy_pass.2.1 42 = .ok (.iload_n 2, 1) := by decide +kernel
theorem d_Dy_pass_43 : decode M_Dy_pass.2.1 43 = .ok (.iaload, 1) := by decide +kernel
theorem d_Dy_pass_44 : decode M_Dy_pass.2.1 44 = .ok (.invokevirtual 38, 3) := by decide +kernel
theorem d_Dy_pass_47 : decode M_Dy_pass.2.1 47 = .ok (.iinc 2 1, 3) := by decide +kernel
theorem d_Dy_pass_50 : decode M_Dy_pass.2.1 50 = .ok (.goto (-36), 3) := by decide +kernel
theorem d_Dy_pass_53 : decode M_Dy_pass.2.1 53 = .ok (.aload_n 0, 1) := by decide +kernel
theorem d_Dy_pass_54 : decode M_Dy_pass.2.1 54 = .ok (.getfield 18, 3) := by decide +kernel
theorem d_Dy_pass_57 : decode M_Dy_pass.2.1 57 = .ok (.aload_n 1, 1) := by decide +kernel
theorem d_Dy_pass_58 : decode M_Dy_pass.2.1 58 = .ok (.invokevirtual 42, 3) := by decide +kernel
theorem d_Dy_pass_61 : decode M_Dy_pass.2.1 61 = .ok (.aload_n 1, 1) := by decide +kernel
theorem d_Dy_pass_62 : decode M_Dy_pass.2.1 62 = .ok (.getfield 45, 3) := by decide +kernel
theorem d_Dy_pass_65 : decode M_Dy_pass.2.1 65 = .ok (.aload_n 1, 1) := by decide +kernel
theorem d_Dy_pass_66 : decode M_Dy_pass.2.1 66 = .ok (.invokevirtual 49, 3) := by decide +kernel
theorem d_Dy_pass_69 : decode M_Dy_pass.2.1 69 = .ok (.iconst 0, 1) := by decide +kernel
theorem d_Dy_pass_70 : decode M_Dy_pass.2.1 70 = .ok (.istore_n 2, 1) := by decide +kernel
theorem d_Dy_pass_71 : decode M_Dy_pass.2.1 71 = .ok (.iload_n 2, 1) := by decide +kernel
theorem d_Dy_pass_72 : decode M_Dy_pass.2.1 72 = .ok (.iconst 5, 1) := by decide +kernel
theorem d_Dy_pass_73 : decode M_Dy_pass.2.1 73 = .ok (.if_icmp .ge 38, 3) := by decide +kernel
theorem d_Dy_pass_76 : decode M_Dy_pass.2.1 76 = .ok (.aload_n 1, 1) := by decide +kernel
theorem d_Dy_pass_77 : decode M_Dy_pass.2.1 77 = .ok (.getfield 54, 3) := by decide +kernel
theorem d_Dy_pass_80 : decode M_Dy_pass.2.1 80 = .ok (.iload_n 2, 1) := by decide +kernel
theorem d_Dy_pass_81 : decode M_Dy_pass.2.1 81 = .ok (.aload_n 1, 1) := by decide +kernel
theorem d_Dy_pass_82 : decode M_Dy_pass.2.1 82 = .ok (.getfield 58, 3) := by decide +kernel
theorem d_Dy_pass_85 : decode M_Dy_pass.2.1 85 = .ok (.iload_n 2, 1) := by decide +kernel
theorem d_Dy_pass_86 : decode M_Dy_pass.2.1 86 = .ok (.iconst 0, 1) := by decide +kernel
theorem d_Dy_pass_87 : decode M_Dy_pass.2.1 87 = .ok (.invokevirtual 64, 3) := by decide +kernel
theorem d_Dy_pass_90 : decode M_Dy_pass.2.1 90 = .ok (.invokevirtual 68, 3) := by decide +kernel
theorem d_Dy_pass_93 : decode M_Dy_pass.2.1 93 = .ok (.istore_n 3, 1) := by decide +kernel
theorem d_Dy_pass_94 : decode M_Dy_pass.2.1 94 = .ok (.aload_n 1, 1) := by decide +kernel
theorem d_Dy_pass_95 : decode M_Dy_pass.2.1 95 = .ok (.getfield 58, 3) := by decide +kernel
theorem d_Dy_pass_98 : decode M_Dy_pass.2.1 98 = .ok (.iload_n 2, 1) := by decide +kernel
theorem d_Dy_pass_99 : decode M_Dy_pass.2.1 99 = .ok (.bipush 6, 2) := by decide +kernel
theorem d_Dy_pass_101 : decode M_Dy_pass.2.1 101 = .ok (.iload_n 3, 1) := by decide +kernel
theorem d_Dy_pass_102 : decode M_Dy_pass.2.1 102 = .ok (.invokevirtual 73, 3) := by decide +kernel
theorem d_Dy_pass_105 : decode M_Dy_pass.2.1 105 = .ok (.iinc 2 1, 3) := by decide +kernel
theorem d_Dy_pass_108 : decode M_Dy_pass.2.1 108 = .ok (.goto (-37), 3) := by decide +kernel
theorem d_Dy_pass_111 : decode M_Dy_pass.2.1 111 = .ok (.aload_n 1, 1) := by decide +kernel
theorem d_Dy_pass_112 : decode M_Dy_pass.2.1 112 = .ok (.dup, 1) := by decide +kernel
theorem d_Dy_pass_113 : decode M_Dy_pass.2.1 113 = .ok (.getfield 77, 3) := by decide +kernel
theorem d_Dy_pass_116 : decode M_Dy_pass.2.1 116 = .ok (.iconst 1, 1) := by decide +kernel
theorem d_Dy_pass_117 : decode M_Dy_pass.2.1 117 = .ok (.iadd, 1) := by decide +kernel
theorem d_Dy_pass_118 : decode M_Dy_pass.2.1 118 = .ok (.putfield 77, 3) := by decide +kernel
theorem d_Dy_pass_121 : decode M_Dy_pass.2.1 121 = .ok (.return_, 1) := by decide +kernel
def M_Dy_drawOrder : mj_M := (⟨"MarketTown$Day", "drawOrder", "(LMarketTown$Town;)V"⟩, prog_2_method_3_code, 5, none, 0, 0)
theorem d_Dy_drawOrder_0 : decode M_Dy_drawOrder.2.1 0 = .ok (.iconst 0, 1) := by decide +kernel
theorem d_Dy_drawOrder_1 : decode M_Dy_drawOrder.2.1 1 = .ok (.istore_n 2, 1) := by decide +kernel
theorem d_Dy_drawOrder_2 : decode M_Dy_drawOrder.2.1 2 = .ok (.iload_n 2, 1) := by decide +kernel
theorem d_Dy_drawOrder_3 : decode M_Dy_drawOrder.2.1 3 = .ok (.aload_n 1, 1) := by decide +kernel
theorem d_Dy_drawOrder_4 : decode M_Dy_drawOrder.2.1 4 = .ok (.getfield 29, 3) := by decide +kernel
theorem d_Dy_drawOrder_7 : decode M_Dy_drawOrder.2.1 7 = .ok (.if_icmp .ge 16, 3) := by decide +kernel
theorem d_Dy_drawOrder_10 : decode M_Dy_drawOrder.2.1 10 = .ok (.aload_n 0, 1) := by decide +kernel
theorem d_Dy_drawOrder_11 : decode M_Dy_drawOrder.2.1 11 = .ok (.getfield 9, 3) := by decide +kernel
theorem d_Dy_drawOrder_14 : decode M_Dy_drawOrder.2.1 14 = .ok (.iload_n 2, 1) := by decide +kernel
theorem d_Dy_drawOrder_15 : decode M_Dy_drawOrder.2.1 15 = .ok (.iload_n 2, 1) := by decide +kernel
theorem d_Dy_drawOrder_16 : decode M_Dy_drawOrder.2.1 16 = .ok (.iastore, 1) := by decide +kernel
theorem d_Dy_drawOrder_17 : decode M_Dy_drawOrder.2.1 17 = .ok (.iinc 2 1, 3) := by decide +kernel
theorem d_Dy_drawOrder_20 : decode M_Dy_drawOrder.2.1 20 = .ok (.goto (-18), 3) := by decide +kernel
theorem d_Dy_drawOrder_23 : decode M_Dy_drawOrder.2.1 23 = .ok (.aload_n 1, 1) := by decide +kernel
theorem d_Dy_drawOrder_24 : decode M_Dy_drawOrder.2.1 24 = .ok (.getfield 29, 3) := by decide +kernel
theorem d_Dy_drawOrder_27 : decode M_Dy_drawOrder.2.1 27 = .ok (.iconst 1, 1) := by decide +kernel
theorem d_Dy_drawOrder_28 : decode M_Dy_drawOrder.2.1 28 = .ok (.isub, 1) := by decide +kernel
theorem d_Dy_drawOrder_29 : decode M_Dy_drawOrder.2.1 29 = .ok (.istore_n 2, 1) := by decide +kernel
theorem d_Dy_drawOrder_30 : decode M_Dy_drawOrder.2.1 30 = .ok (.iload_n 2, 1) := by decide +kernel
theorem d_Dy_drawOrder_31 : decode M_Dy_drawOrder.2.1 31 = .ok (.iconst 1, 1) := by decide +kernel
theorem d_Dy_drawOrder_32 : decode M_Dy_drawOrder.2.1 32 = .ok (.if_icmp .lt 71, 3) := by decide +kernel
theorem d_Dy_drawOrder_35 : decode M_Dy_drawOrder.2.1 35 = .ok (.aload_n 1, 1) := by decide +kernel
theorem d_Dy_drawOrder_36 : decode M_Dy_drawOrder.2.1 36 = .ok (.aload_n 1, 1) := by decide +kernel
theorem d_Dy_drawOrder_37 : decode M_Dy_drawOrder.2.1 37 = .ok (.getfield 80, 3) := by decide +kernel
theorem d_Dy_drawOrder_40 : decode M_Dy_drawOrder.2.1 40 = .ok (.i2l, 1) := by decide +kernel
theorem d_Dy_drawOrder_41 : decode M_Dy_drawOrder.2.1 41 = .ok (.ldc2_w 83, 3) := by decide +kernel
theorem d_Dy_drawOrder_44 : decode M_Dy_drawOrder.2.1 44 = .ok (.lmul, 1) := by decide +kernel
theorem d_Dy_drawOrder_45 : decode M_Dy_drawOrder.2.1 45 = .ok (.ldc2_w 85, 3) := by decide +kernel
theorem d_Dy_drawOrder_48 : decode M_Dy_drawOrder.2.1 48 = .ok (.ladd, 1) := by decide +kernel
theorem d_Dy_drawOrder_49 : decode M_Dy_drawOrder.2.1 49 = .ok (.ldc2_w 87, 3) := by decide +kernel
theorem d_Dy_drawOrder_52 : decode M_Dy_drawOrder.2.1 52 = .ok (.lrem, 1) := by decide +kernel
theorem d_Dy_drawOrder_53 : decode M_Dy_drawOrder.2.1 53 = .ok (.l2i, 1) := by decide +kernel
theorem d_Dy_drawOrder_54 : decode M_Dy_drawOrder.2.1 54 = .ok (.putfield 80, 3) := by decide +kernel
theorem d_Dy_drawOrder_57 : decode M_Dy_drawOrder.2.1 57 = .ok (.aload_n 1, 1) := by decide +kernel
theorem d_Dy_drawOrder_58 : decode M_Dy_drawOrder.2.1 58 = .ok (.getfield 80, 3) := by decide +kernel
theorem d_Dy_drawOrder_61 : decode M_Dy_drawOrder.2.1 61 = .ok (.ldc 89, 2) := by decide +kernel
theorem d_Dy_drawOrder_63 : decode M_Dy_drawOrder.2.1 63 = .ok (.idiv, 1) := by decide +kernel
theorem d_Dy_drawOrder_64 : decode M_Dy_drawOrder.2.1 64 = .ok (.iload_n 2, 1) := by decide +kernel
theorem d_Dy_drawOrder_65 : decode M_Dy_drawOrder.2.1 65 = .ok (.iconst 1, 1) := by decide +kernel
theorem d_Dy_drawOrder_66 : decode M_Dy_drawOrder.2.1 66 = .ok (.iadd, 1) := by decide +kernel
theorem d_Dy_drawOrder_67 : decode M_Dy_drawOrder.2.1 67 = .ok (.irem, 1) := by decide +kernel
theorem d_Dy_drawOrder_68 : decode M_Dy_drawOrder.2.1 68 = .ok (.istore_n 3, 1) := by decide +kernel
theorem d_Dy_drawOrder_69 : decode M_Dy_drawOrder.2.1 69 = .ok (.aload_n 0, 1) := by decide +kernel
theorem d_Dy_drawOrder_70 : decode M_Dy_drawOrder.2.1 70 = .ok (.getfield 9, 3) := by decide +kernel
theorem d_Dy_drawOrder_73 : decode M_Dy_drawOrder.2.1 73 = .ok (.iload_n 3, 1) := by decide +kernel
theorem d_Dy_drawOrder_74 : decode M_Dy_drawOrder.2.1 74 = .ok (.iaload, 1) := by decide +kernel
theorem d_Dy_drawOrder_75 : decode M_Dy_drawOrder.2.1 75 = .ok (.istore 4, 2) := by decide +kernel
theorem d_Dy_drawOrder_77 : decode M_Dy_drawOrder.2.1 77 = .ok (.aload_n 0, 1) := by decide +kernel
theorem d_Dy_drawOrder_78 : decode M_Dy_drawOrder.2.1 78 = .ok (.getfield 9, 3) := by decide +kernel
theorem d_Dy_drawOrder_81 : decode M_Dy_drawOrder.2.1 81 = .ok (.iload_n 3, 1) := by decide +kernel
theorem d_Dy_drawOrder_82 : decode M_Dy_drawOrder.2.1 82 = .ok (.aload_n 0, 1) := by decide +kernel
theorem d_Dy_drawOrder_83 : decode M_Dy_drawOrder.2.1 83 = .ok (.getfield 9, 3) := by decide +kernel
theorem d_Dy_drawOrder_86 : decode M_Dy_drawOrder.2.1 86 = .ok (.iload_n 2, 1) := by decide +kernel
theorem d_Dy_drawOrder_87 : decode M_Dy_drawOrder.2.1 87 = .ok (.iaload, 1) := by decide +kernel
theorem d_Dy_drawOrder_88 : decode M_Dy_drawOrder.2.1 88 = .ok (.iastore, 1) := by decide +kernel
theorem d_Dy_drawOrder_89 : decode M_Dy_drawOrder.2.1 89 = .ok (.aload_n 0, 1) := by decide +kernel
theorem d_Dy_drawOrder_90 : decode M_Dy_drawOrder.2.1 90 = .ok (.getfield 9, 3) := by decide +kernel
theorem d_Dy_drawOrder_93 : decode M_Dy_drawOrder.2.1 93 = .ok (.iload_n 2, 1) := by decide +kernel
theorem d_Dy_drawOrder_94 : decode M_Dy_drawOrder.2.1 94 = .ok (.iload 4, 2) := by decide +kernel
theorem d_Dy_drawOrder_96 : decode M_Dy_drawOrder.2.1 96 = .ok (.iastore, 1) := by decide +kernel
theorem d_Dy_drawOrder_97 : decode M_Dy_drawOrder.2.1 97 = .ok (.iinc 2 (-1), 3) := by decide +kernel
theorem d_Dy_drawOrder_100 : decode M_Dy_drawOrder.2.1 100 = .ok (.goto (-70), 3) := by decide +kernel
theorem d_Dy_drawOrder_103 : decode M_Dy_drawOrder.2.1 103 = .ok (.iconst 0, 1) := by decide +kernel
theorem d_Dy_drawOrder_104 : decode M_Dy_drawOrder.2.1 104 = .ok (.istore_n 2, 1) := by decide +kernel
theorem d_Dy_drawOrder_105 : decode M_Dy_drawOrder.2.1 105 = .ok (.iload_n 2, 1) := by decide +kernel
theorem d_Dy_drawOrder_106 : decode M_Dy_drawOrder.2.1 106 = .ok (.aload_n 1, 1) := by decide +kernel
theorem d_Dy_drawOrder_107 : decode M_Dy_drawOrder.2.1 107 = .ok (.getfield 29, 3) := by decide +kernel
theorem d_Dy_drawOrder_110 : decode M_Dy_drawOrder.2.1 110 = .ok (.if_icmp .ge 21, 3) := by decide +kernel
theorem d_Dy_drawOrder_113 : decode M_Dy_drawOrder.2.1 113 = .ok (.aload_n 1, 1) := by decide +kernel
theorem d_Dy_drawOrder_114 : decode M_Dy_drawOrder.2.1 114 = .ok (.getfield 90, 3) := by decide +kernel
theorem d_Dy_drawOrder_117 : decode M_Dy_drawOrder.2.1 117 = .ok (.aload_n 0, 1) := by decide +kernel
theorem d_Dy_drawOrder_118 : decode M_Dy_drawOrder.2.1 118 = .ok (.getfield 9, 3) := by decide +kernel
theorem d_Dy_drawOrder_121 : decode M_Dy_drawOrder.2.1 121 = .ok (.iload_n 2, 1) := by decide +kernel
theorem d_Dy_drawOrder_122 : decode M_Dy_drawOrder.2.1 122 = .ok (.iaload, 1) := by decide +kernel
theorem d_Dy_drawOrder_123 : decode M_Dy_drawOrder.2.1 123 = .ok (.iload_n 2, 1) := by decide +kernel
theorem d_Dy_drawOrder_124 : decode M_Dy_drawOrder.2.1 124 = .ok (.iastore, 1) := by decide +kernel
theorem d_Dy_drawOrder_125 : decode M_Dy_drawOrder.2.1 125 = .ok (.iinc 2 1, 3) := by decide +kernel
theorem d_Dy_drawOrder_128 : decode M_Dy_drawOrder.2.1 128 = .ok (.goto (-23), 3) := by decide +kernel
theorem d_Dy_drawOrder_131 : decode M_Dy_drawOrder.2.1 131 = .ok (.return_, 1) := by decide +kernel
def M_Mt_clear : mj_M := (⟨"MarketTown$Market", "clear", "()V"⟩, prog_4_method_2_code, 2, none, 1, 20)
theorem d_Mt_clear_0 : decode M_Mt_clear.2.1 0 = .ok (.aload_n 0, 1) := by decide +kernel
theorem d_Mt_clear_1 : decode M_Mt_clear.2.1 1 = .ok (.getfield 12, 3) := by decide +kernel
theorem d_Mt_clear_4 : decode M_Mt_clear.2.1 4 = .ok (.invokevirtual 28, 3) := by decide +kernel
theorem d_Mt_clear_7 : decode M_Mt_clear.2.1 7 = .ok (.aload_n 0, 1) := by decide +kernel
theorem d_Mt_clear_8 : decode M_Mt_clear.2.1 8 = .ok (.getfield 18, 3) := by decide +kernel
theorem d_Mt_clear_11 : decode M_Mt_clear.2.1 11 = .ok (.invokevirtual 28, 3) := by decide +kernel
theorem d_Mt_clear_14 : decode M_Mt_clear.2.1 14 = .ok (.iconst 0, 1) := by decide +kernel
theorem d_Mt_clear_15 : decode M_Mt_clear.2.1 15 = .ok (.istore_n 1, 1) := by decide +kernel
theorem d_Mt_clear_16 : decode M_Mt_clear.2.1 16 = .ok (.iload_n 1, 1) := by decide +kernel
theorem d_Mt_clear_17 : decode M_Mt_clear.2.1 17 = .ok (.aload_n 0, 1) := by decide +kernel
theorem d_Mt_clear_18 : decode M_Mt_clear.2.1 18 = .ok (.getfield 21, 3) := by decide +kernel
theorem d_Mt_clear_21 : decode M_Mt_clear.2.1 21 = .ok (.arraylength, 1) := by decide +kernel
theorem d_Mt_clear_22 : decode M_Mt_clear.2.1 22 = .ok (.if_icmp .ge 16, 3) := by decide +kernel
theorem d_Mt_clear_25 : decode M_Mt_clear.2.1 25 = .ok (.aload_n 0, 1) := by decide +kernel
theorem d_Mt_clear_26 : decode M_Mt_clear.2.1 26 = .ok (.getfield 21, 3) := by decide +kernel
theorem d_Mt_clear_29 : decode M_Mt_clear.2.1 29 = .ok (.iload_n 1, 1) := by decide +kernel
theorem d_Mt_clear_30 : decode M_Mt_clear.2.1 30 = .ok (.iconst 0, 1) := by decide +kernel
theorem d_Mt_clear_31 : decode M_Mt_clear.2.1 31 = .ok (.iastore, 1) := by decide +kernel
theorem d_Mt_clear_32 : decode M_Mt_clear.2.1 32 = .ok (.iinc 1 1, 3) := by decide +kernel
theorem d_Mt_clear_35 : decode M_Mt_clear.2.1 35 = .ok (.goto (-19), 3) := by decide +kernel
theorem d_Mt_clear_38 : decode M_Mt_clear.2.1 38 = .ok (.iconst 0, 1) := by decide +kernel
theorem d_Mt_clear_39 : decode M_Mt_clear.2.1 39 = .ok (.istore_n 1, 1) := by decide +kernel
theorem d_Mt_clear_40 : decode M_Mt_clear.2.1 40 = .ok (.iload_n 1, 1) := by decide +kernel
theorem d_Mt_clear_41 : decode M_Mt_clear.2.1 41 = .ok (.aload_n 0, 1) := by decide +kernel
theorem d_Mt_clear_42 : decode M_Mt_clear.2.1 42 = .ok (.getfield 25, 3) := by decide +kernel
theorem d_Mt_clear_45 : decode M_Mt_clear.2.1 45 = .ok (.arraylength, 1) := by decide +kernel
theorem d_Mt_clear_46 : decode M_Mt_clear.2.1 46 = .ok (.if_icmp .ge 16, 3) := by decide +kernel
theorem d_Mt_clear_49 : decode M_Mt_clear.2.1 49 = .ok (.aload_n 0, 1) := by decide +kernel
theorem d_Mt_clear_50 : decode M_Mt_clear.2.1 50 = .ok (.getfield 25, 3) := by decide +kernel
theorem d_Mt_clear_53 : decode M_Mt_clear.2.1 53 = .ok (.iload_n 1, 1) := by decide +kernel
theorem d_Mt_clear_54 : decode M_Mt_clear.2.1 54 = .ok (.iconst 0, 1) := by decide +kernel
theorem d_Mt_clear_55 : decode M_Mt_clear.2.1 55 = .ok (.iastore, 1) := by decide +kernel
theorem d_Mt_clear_56 : decode M_Mt_clear.2.1 56 = .ok (.iinc 1 1, 3) := by decide +kernel
theorem d_Mt_clear_59 : decode M_Mt_clear.2.1 59 = .ok (.goto (-19), 3) := by decide +kernel
theorem d_Mt_clear_62 : decode M_Mt_clear.2.1 62 = .ok (.return_, 1) := by decide +kernel
def M_Of_clear : mj_M := (⟨"MarketTown$Offers", "clear", "()V"⟩, prog_5_method_2_code, 1, none, 0, 0)
theorem d_Of_clear_0 : decode M_Of_clear.2.1 0 = .ok (.aload_n 0, 1) := by decide +kernel
theorem d_Of_clear_1 : decode M_Of_clear.2.1 1 = .ok (.iconst 0, 1) := by decide +kernel
theorem d_Of_clear_2 : decode M_Of_clear.2.1 2 = .ok (.putfield 27, 3) := by decide +kernel
theorem d_Of_clear_5 : decode M_Of_clear.2.1 5 = .ok (.aload_n 0, 1) := by decide +kernel
theorem d_Of_clear_6 : decode M_Of_clear.2.1 6 = .ok (.iconst 0, 1) := by decide +kernel
theorem d_Of_clear_7 : decode M_Of_clear.2.1 7 = .ok (.putfield 31, 3) := by decide +kernel
theorem d_Of_clear_10 : decode M_Of_clear.2.1 10 = .ok (.return_, 1) := by decide +kernel
def M_Dy_followRules : mj_M := (⟨"MarketTown$Day", "followRules", "(LMarketTown$Town;I)V"⟩, prog_2_method_4_code, 4, none, 4, 103)
theorem d_Dy_followRules_0 : decode M_Dy_followRules.2.1 0 = .ok (.iconst 0, 1) := by decide +kernel
theorem d_Dy_followRules_1 : decode M_Dy_followRules.2.1 1 = .ok (.istore_n 3, 1) := by decide +kernel
theorem d_Dy_followRules_2 : decode M_Dy_followRules.2.1 2 = .ok (.iload_n 3, 1) := by decide +kernel
theorem d_Dy_followRules_3 : decode M_Dy_followRules.2.1 3 = .ok (.aload_n 1, 1) := by decide +kernel
theorem d_Dy_followRules_4 : decode M_Dy_followRules.2.1 4 = .ok (.getfield 93, 3) := by decide +kernel
theorem d_Dy_followRules_7 : decode M_Dy_followRules.2.1 7 = .ok (.getfield 97, 3) := by decide +kernel
theorem d_Dy_followRules_10 : decode M_Dy_followRules.2.1 10 = .ok (.iload_n 2, 1) := by decide +kernel
theorem d_Dy_followRules_11 : decode M_Dy_followRules.2.1 11 = .ok (.iaload, 1) := by decide +kernel
theorem d_Dy_followRules_12 : decode M_Dy_followRules.2.1 12 = .ok (.if_icmp .ge 34, 3) := by decide +kernel
theorem d_Dy_followRules_15 : decode M_Dy_followRules.2.1 15 = .ok (.aload_n 1, 1) := by decide +kernel
theorem d_Dy_followRules_16 : decode M_Dy_followRules.2.1 16 = .ok (.iload_n 2, 1) := by decide +kernel
theorem d_Dy_followRules_17 : decode M_Dy_followRules.2.1 17 = .ok (.iload_n 3, 1) := by decide +kernel
theorem d_Dy_followRules_18 : decode M_Dy_followRules.2.1 18 = .ok (.invokestatic 102, 3) := by decide +kernel
theorem d_Dy_followRules_21 : decode M_Dy_followRules.2.1 21 = .ok (.ifCond .eq 19, 3) := by decide +kernel
theorem d_Dy_followRules_24 : decode M_Dy_followRules.2.1 24 = .ok (.aload_n 1, 1) := by decide +kernel
theorem d_Dy_followRules_25 : decode M_Dy_followRules.2.1 25 = .ok (.getfield 93, 3) := by decide +kernel
theorem d_Dy_followRules_28 : decode M_Dy_followRules.2.1 28 = .ok (.iload_n 2, 1) := by decide +kernel
theorem d_Dy_followRules_29 : decode M_Dy_followRules.2.1 29 = .ok (.iload_n 3, 1) := by decide +kernel
theorem d_Dy_followRules_30 : decode M_Dy_followRules.2.1 30 = .ok (.invokevirtual 106, 3) := by decide +kernel
theorem d_Dy_followRules_33 : decode M_Dy_followRules.2.1 33 = .ok (.aload_n 0, 1) := by decide +kernel
theorem d_Dy_followRules_34 : decode M_Dy_followRules.2.1 34 = .ok (.aload_n 1, 1) := by decide +kernel
theorem d_Dy_followRules_35 : decode M_Dy_followRules.2.1 35 = .ok (.iload_n 2, 1) := by decide +kernel
theorem d_Dy_followRules_36 : decode M_Dy_followRules.2.1 36 = .ok (.iload_n 3, 1) := by decide +kernel
theorem d_Dy_followRules_37 : decode M_Dy_followRules.2.1 37 = .ok (.invokevirtual 110, 3) := by decide +kernel
theorem d_Dy_followRules_40 : decode M_Dy_followRules.2.1 40 = .ok (.iinc 3 1, 3) := by decide +kernel
theorem d_Dy_followRules_43 : decode M_Dy_followRules.2.1 43 = .ok (.goto (-41), 3) := by decide +kernel
theorem d_Dy_followRules_46 : decode M_Dy_followRules.2.1 46 = .ok (.return_, 1) := by decide +kernel
def M_Dy_fires : mj_M := (⟨"MarketTown$Day", "fires", "(LMarketTown$Town;II)Z"⟩, prog_2_method_5_code, 4, some .boolean, 3, 72)
theorem d_Dy_fires_0 : decode M_Dy_fires.2.1 0 = .ok (.aload_n 0, 1) := by decide +kernel
theorem d_Dy_fires_1 : decode M_Dy_fires.2.1 1 = .ok (.getfield 93, 3) := by decide +kernel
theorem d_Dy_fires_4 : decode M_Dy_fires.2.1 4 = .ok (.iload_n 1, 1) := by decide +kernel
theorem d_Dy_fires_5 : decode M_Dy_fires.2.1 5 = .ok (.iload_n 2, 1) := by decide +kernel
theorem d_Dy_fires_6 : decode M_Dy_fires.2.1 6 = .ok (.iconst 4, 1) := by decide +kernel
theorem d_Dy_fires_7 : decode M_Dy_fires.2.1 7 = .ok (.invokevirtual 114, 3) := by decide +kernel
theorem d_Dy_fires_10 : decode M_Dy_fires.2.1 10 = .ok (.istore_n 3, 1) := by decide +kernel
theorem d_Dy_fires_11 : decode M_Dy_fires.2.1 11 = .ok (.aload_n 0, 1) := by decide +kernel
theorem d_Dy_fires_12 : decode M_Dy_fires.2.1 12 = .ok (.iload_n 1, 1) := by decide +kernel
theorem d_Dy_fires_13 : decode M_Dy_fires.2.1 13 = .ok (.aload_n 0, 1) := by decide +kernel
theorem d_Dy_fires_14 : decode M_Dy_fires.2.1 14 = .ok (.getfield 93, 3) := by decide +kernel
theorem d_Dy_fires_17 : decode M_Dy_fires.2.1 17 = .ok (.iload_n 1, 1) := by decide +kernel
theorem d_Dy_fires_18 : decode M_Dy_fires.2.1 18 = .ok (.iload_n 2, 1) := by decide +kernel
theorem d_Dy_fires_19 : decode M_Dy_fires.2.1 19 = .ok (.iconst 0, 1) := by decide +kernel
theorem d_Dy_fires_20 : decode M_Dy_fires.2.1 20 = .ok (.invokevirtual 114, 3) := by decide +kernel
theorem d_Dy_fires_23 : decode M_Dy_fires.2.1 23 = .ok (.invokestatic 117, 3) := by decide +kernel
theorem d_Dy_fires_26 : decode M_Dy_fires.2.1 26 = .ok (.ifCond .eq 29, 3) := by decide +kernel
theorem d_Dy_fires_29 : decode M_Dy_fires.2.1 29 = .ok (.iload_n 3, 1) := by decide +kernel
theorem d_Dy_fires_30 : decode M_Dy_fires.2.1 30 = .ok (.ifCond .le 25, 3) := by decide +kernel
theorem d_Dy_fires_33 : decode M_Dy_fires.2.1 33 = .ok (.aload_n 0, 1) := by decide +kernel
theorem d_Dy_fires_34 : decode M_Dy_fires.2.1 34 = .ok (.getfield 77, 3) := by decide +kernel
theorem d_Dy_fires_37 : decode M_Dy_fires.2.1 37 = .ok (.iload_n 3, 1) := by decide +kernel
theorem d_Dy_fires_38 : decode M_Dy_fires.2.1 38 = .ok (.irem, 1) := by decide +kernel
theorem d_Dy_fires_39 : decode M_Dy_fires.2.1 39 = .ok (.ifCond .ne 16, 3) := by decide +kernel
theorem d_Dy_fires_42 : decode M_Dy_fires.2.1 42 = .ok (.aload_n 0, 1) := by decide +kernel
theorem d_Dy_fires_43 : decode M_Dy_fires.2.1 43 = .ok (.iload_n 1, 1) := by decide +kernel
theorem d_Dy_fires_44 : decode M_Dy_fires.2.1 44 = .ok (.iload_n 2, 1) := by decide +kernel
theorem d_Dy_fires_45 : decode M_Dy_fires.2.1 45 = .ok (.invokestatic 120, 3) := by decide +kernel
theorem d_Dy_fires_48 : decode M_Dy_fires.2.1 48 = .ok (.ifCond .eq 7, 3) := by decide +kernel
theorem d_Dy_fires_51 : decode M_Dy_fires.2.1 51 = .ok (.iconst 1, 1) := by decide +kernel
theorem d_Dy_fires_52 : decode M_Dy_fires.2.1 52 = .ok (.goto 4, 3) := by decide +kernel
theorem d_Dy_fires_55 : decode M_Dy_fires.2.1 55 = .ok (.iconst 0, 1) := by decide +kernel
theorem d_Dy_fires_56 : decode M_Dy_fires.2.1 56 = .ok (.ireturn, 1) := by decide +kernel
def M_Rl_get : mj_M := (⟨"MarketTown$Rules", "get", "(III)I"⟩, prog_7_method_3_code, 4, some .int, 1, 21)
theorem d_Rl_get_0 : decode M_Rl_get.2.1 0 = .ok (.aload_n 0, 1) := by decide +kernel
theorem d_Rl_get_1 : decode M_Rl_get.2.1 1 = .ok (.getfield 15, 3) := by decide +kernel
theorem d_Rl_get_4 : decode M_Rl_get.2.1 4 = .ok (.iload_n 1, 1) := by decide +kernel
theorem d_Rl_get_5 : decode M_Rl_get.2.1 5 = .ok (.iload_n 2, 1) := by decide +kernel
theorem d_Rl_get_6 : decode M_Rl_get.2.1 6 = .ok (.invokestatic 18, 3) := by decide +kernel
theorem d_Rl_get_9 : decode M_Rl_get.2.1 9 = .ok (.iload_n 3, 1) := by decide +kernel
theorem d_Rl_get_10 : decode M_Rl_get.2.1 10 = .ok (.iadd, 1) := by decide +kernel
theorem d_Rl_get_11 : decode M_Rl_get.2.1 11 = .ok (.iaload, 1) := by decide +kernel
theorem d_Rl_get_12 : decode M_Rl_get.2.1 12 = .ok (.ireturn, 1) := by decide +kernel
def M_Dy_mayAct : mj_M := (⟨"MarketTown$Day", "mayAct", "(LMarketTown$Town;II)Z"⟩, prog_2_method_6_code, 3, some .boolean, 1, 23)
theorem d_Dy_mayAct_0 : decode M_Dy_mayAct.2.1 0 = .ok (.iload_n 2, 1) := by decide +kernel
theorem d_Dy_mayAct_1 : decode M_Dy_mayAct.2.1 1 = .ok (.lookupswitch 73 #[(0, 35), (1, 42), (5, 49)], 35) := by decide +kernel
theorem d_Dy_mayAct_36 : decode M_Dy_mayAct.2.1 36 = .ok (.aload_n 0, 1) := by decide +kernel
theorem d_Dy_mayAct_37 : decode M_Dy_mayAct.2.1 37 = .ok (.iload_n 1, 1) := by decide +kernel
theorem d_Dy_mayAct_38 : decode M_Dy_mayAct.2.1 38 = .ok (.iconst 2, 1) := by decide +kernel
theorem d_Dy_mayAct_39 : decode M_Dy_mayAct.2.1 39 = .ok (.invokevirtual 123, 3) := by decide +kernel
theorem d_Dy_mayAct_42 : decode M_Dy_mayAct.2.1 42 = .ok (.ireturn, 1) := by decide +kernel
theorem d_Dy_mayAct_43 : decode M_Dy_mayAct.2.1 43 = .ok (.aload_n 0, 1) := by decide +kernel
theorem d_Dy_mayAct_44 : decode M_Dy_mayAct.2.1 44 = .ok (.iload_n 1, 1) := by decide +kernel
theorem d_Dy_mayAct_45 : decode M_Dy_mayAct.2.1 45 = .ok (.iconst 1, 1) := by decide +kernel
theorem d_Dy_mayAct_46 : decode M_Dy_mayAct.2.1 46 = .ok (.invokevirtual 123, 3) := by decide +kernel
theorem d_Dy_mayAct_49 : decode M_Dy_mayAct.2.1 49 = .ok (.ireturn, 1) := by decide +kernel
theorem d_Dy_mayAct_50 : decode M_Dy_mayAct.2.1 50 = .ok (.aload_n 0, 1) := by decide +kernel
theorem d_Dy_mayAct_51 : decode M_Dy_mayAct.2.1 51 = .ok (.iload_n 1, 1) := by decide +kernel
theorem d_Dy_mayAct_52 : decode M_Dy_mayAct.2.1 52 = .ok (.iconst 4, 1) := by decide +kernel
theorem d_Dy_mayAct_53 : decode M_Dy_mayAct.2.1 53 = .ok (.invokevirtual 123, 3) := by decide +kernel
theorem d_Dy_mayAct_56 : decode M_Dy_mayAct.2.1 56 = .ok (.ifCond .ne 12, 3) := by decide +kernel
theorem d_Dy_mayAct_59 : decode M_Dy_mayAct.2.1 59 = .ok (.aload_n 0, 1) := by decide +kernel
theorem d_Dy_mayAct_60 : decode M_Dy_mayAct.2.1 60 = .ok (.iload_n 1, 1) := by decide +kernel
theorem d_Dy_mayAct_61 : decode M_Dy_mayAct.2.1 61 = .ok (.iconst 5, 1) := by decide +kernel
theorem d_Dy_mayAct_62 : decode M_Dy_mayAct.2.1 62 = .ok (.invokevirtual 123, 3) := by decide +kernel
theorem d_Dy_mayAct_65 : decode M_Dy_mayAct.2.1 65 = .ok (.ifCond .eq 7, 3) := by decide +kernel
theorem d_Dy_mayAct_68 : decode M_Dy_mayAct.2.1 68 = .ok (.iconst 1, 1) := by decide +kernel
theorem d_Dy_mayAct_69 : decode M_Dy_mayAct.2.1 69 = .ok (.goto 4, 3) := by decide +kernel
theorem d_Dy_mayAct_72 : decode M_Dy_mayAct.2.1 72 = .ok (.iconst 0, 1) := by decide +kernel
theorem d_Dy_mayAct_73 : decode M_Dy_mayAct.2.1 73 = .ok (.ireturn, 1) := by decide +kernel
theorem d_Dy_mayAct_74 : decode M_Dy_mayAct.2.1 74 = .ok (.iconst 1, 1) := by decide +kernel
theorem d_Dy_mayAct_75 : decode M_Dy_mayAct.2.1 75 = .ok (.ireturn, 1) := by decide +kernel
def M_Tw_belongs : mj_M := (⟨"MarketTown$Town", "belongs", "(II)Z"⟩, prog_10_method_4_code, 4, some .boolean, 0, 0)
theorem d_Tw_belongs_0 : decode M_Tw_belongs.2.1 0 = .ok (.aload_n 0, 1) := by decide +kernel
theorem d_Tw_belongs_1 : decode M_Tw_belongs.2.1 1 = .ok (.getfield 15, 3) := by decide +kernel
theorem d_Tw_belongs_4 : decode M_Tw_belongs.2.1 4 = .ok (.iload_n 1, 1) := by decide +kernel
theorem d_Tw_belongs_5 : decode M_Tw_belongs.2.1 5 = .ok (.iaload, 1) := by decide +kernel
theorem d_Tw_belongs_6 : decode M_Tw_belongs.2.1 6 = .ok (.istore_n 3, 1) := by decide +kernel
theorem d_Tw_belongs_7 : decode M_Tw_belongs.2.1 7 = .ok (.iload_n 2, 1) := by decide +kernel
theorem d_Tw_belongs_8 : decode M_Tw_belongs.2.1 8 = .ok (.ifCond .eq 18, 3) := by decide +kernel
theorem d_Tw_belongs_11 : decode M_Tw_belongs.2.1 11 = .ok (.iload_n 3, 1) := by decide +kernel
theorem d_Tw_belongs_12 : decode M_Tw_belongs.2.1 12 = .ok (.iload_n 2, 1) := by decide +kernel
theorem d_Tw_belongs_13 : decode M_Tw_belongs.2.1 13 = .ok (.if_icmp .eq 13, 3) := by decide +kernel
theorem d_Tw_belongs_16 : decode M_Tw_belongs.2.1 16 = .ok (.iload_n 2, 1) := by decide +kernel
theorem d_Tw_belongs_17 : decode M_Tw_belongs.2.1 17 = .ok (.iconst 2, 1) := by decide +kernel
theorem d_Tw_belongs_18 : decode M_Tw_belongs.2.1 18 = .ok (.if_icmp .ne 12, 3) := by decide +kernel
theorem d_Tw_belongs_21 : decode M_Tw_belongs.2.1 21 = .ok (.iload_n 3, 1) := by decide +kernel
theorem d_Tw_belongs_22 : decode M_Tw_belongs.2.1 22 = .ok (.iconst 3, 1) := by decide +kernel
theorem d_Tw_belongs_23 : decode M_Tw_belongs.2.1 23 = .ok (.if_icmp .ne 7, 3) := by decide +kernel
theorem d_Tw_belongs_26 : decode M_Tw_belongs.2.1 26 = .ok (.iconst 1, 1) := by decide +kernel
theorem d_Tw_belongs_27 : decode M_Tw_belongs.2.1 27 = .ok (.goto 4, 3) := by decide +kernel
theorem d_Tw_belongs_30 : decode M_Tw_belongs.2.1 30 = .ok (.iconst 0, 1) := by decide +kernel
theorem d_Tw_belongs_31 : decode M_Tw_belongs.2.1 31 = .ok (.ireturn, 1) := by decide +kernel
def M_Dy_condHolds : mj_M := (⟨"MarketTown$Day", "condHolds", "(LMarketTown$Town;II)Z"⟩, prog_2_method_7_code, 8, some .boolean, 2, 45)
theorem d_Dy_condHolds_0 : decode M_Dy_condHolds.2.1 0 = .ok (.aload_n 0, 1) := by decide +kernel
theorem d_Dy_condHolds_1 : decode M_Dy_condHolds.2.1 1 = .ok (.getfield 93, 3) := by decide +kernel
theorem d_Dy_condHolds_4 : decode M_Dy_condHolds.2.1 4 = .ok (.iload_n 1, 1) := by decide +kernel
theorem d_Dy_condHolds_5 : decode M_Dy_condHolds.2.1 5 = .ok (.iload_n 2, 1) := by decide +kernel
theorem d_Dy_condHolds_6 : decode M_Dy_condHolds.2.1 6 = .ok (.iconst 5, 1) := by decide +kernel
theorem d_Dy_condHolds_7 : decode M_Dy_condHolds.2.1 7 = .ok (.invokevirtual 114, 3) := by decide +kernel
theorem d_Dy_condHolds_10 : decode M_Dy_condHolds.2.1 10 = .ok (.istore_n 3, 1) := by decide +kernel
theorem d_Dy_condHolds_11 : decode M_Dy_condHolds.2.1 11 = .ok (.iload_n 3, 1) := by decide +kernel
theorem d_Dy_condHolds_12 : decode M_Dy_condHolds.2.1 12 = .ok (.ldc 127, 2) := by decide +kernel
theorem d_Dy_condHolds_14 : decode M_Dy_condHolds.2.1 14 = .ok (.if_icmp .ne 5, 3) := by decide +kernel
theorem d_Dy_condHolds_17 : decode M_Dy_condHolds.2.1 17 = .ok (.iconst 1, 1) := by decide +kernel
theorem d_Dy_condHolds_18 : decode M_Dy_condHolds.2.1 18 = .ok (.ireturn, 1) := by decide +kernel
theorem d_Dy_condHolds_19 : decode M_Dy_condHolds.2.1 19 = .ok (.iload_n 3, 1) := by decide +kernel
theorem d_Dy_condHolds_20 : decode M_Dy_condHolds.2.1 20 = .ok (.iconst 4, 1) := by decide +kernel
theorem d_Dy_condHolds_21 : decode M_Dy_condHolds.2.1 21 = .ok (.if_icmp .lt 7, 3) := by decide +kernel
theorem d_Dy_condHolds_24 : decode M_Dy_condHolds.2.1 24 = .ok (.iconst 1, 1) := by decide +kernel
theorem d_Dy_condHolds_25 : decode M_Dy_condHolds.2.1 25 = .ok (.goto 4, 3) := by decide +kernel
theorem d_Dy_condHolds_28 : decode M_Dy_condHolds.2.1 28 = .ok (.iconst 0, 1) := by decide +kernel
theorem d_Dy_condHolds_29 : decode M_Dy_condHolds.2.1 29 = .ok (.istore 4, 2) := by decide +kernel
theorem d_Dy_condHolds_31 : decode M_Dy_condHolds.2.1 31 = .ok (.iload 4, 2) := by decide +kernel
theorem d_Dy_condHolds_33 : decode M_Dy_condHolds.2.1 33 = .ok (.ifCond .eq 9, 3) := by decide +kernel
theorem d_Dy_condHolds_36 : decode M_Dy_condHolds.2.1 36 = .ok (.iload_n 3, 1) := by decide +kernel
theorem d_Dy_condHolds_37 : decode M_Dy_condHolds.2.1 37 = .ok (.iconst 4, 1) := by decide +kernel
theorem d_Dy_condHolds_38 : decode M_Dy_condHolds.2.1 38 = .ok (.isub, 1) := by decide +kernel
theorem d_Dy_condHolds_39 : decode M_Dy_condHolds.2.1 39 = .ok (.goto 4, 3) := by decide +kernel
theorem d_Dy_condHolds_42 : decode M_Dy_condHolds.2.1 42 = .ok (.iload_n 3, 1) := by decide +kernel
theorem d_Dy_condHolds_43 : decode M_Dy_condHolds.2.1 43 = .ok (.istore 5, 2) := by decide +kernel
theorem d_Dy_condHolds_45 : decode M_Dy_condHolds.2.1 45 = .ok (.aload_n 0, 1) := by decide +kernel
theorem d_Dy_condHolds_46 : decode M_Dy_condHolds.2.1 46 = .ok (.iload_n 1, 1) := by decide +kernel
theorem d_Dy_condHolds_47 : decode M_Dy_condHolds.2.1 47 = .ok (.iload 5, 2) := by decide +kernel
theorem d_Dy_condHolds_49 : decode M_Dy_condHolds.2.1 49 = .ok (.aload_n 0, 1) := by decide +kernel
theorem d_Dy_condHolds_50 : decode M_Dy_condHolds.2.1 50 = .ok (.getfield 93, 3) := by decide +kernel
theorem d_Dy_condHolds_53 : decode M_Dy_condHolds.2.1 53 = .ok (.iload_n 1, 1) := by decide +kernel
theorem d_Dy_condHolds_54 : decode M_Dy_condHolds.2.1 54 = .ok (.iload_n 2, 1) := by decide +kernel
theorem d_Dy_condHolds_55 : decode M_Dy_condHolds.2.1 55 = .ok (.bipush 6, 2) := by decide +kernel
theorem d_Dy_condHolds_57 : decode M_Dy_condHolds.2.1 57 = .ok (.invokevirtual 114, 3) := by decide +kernel
theorem d_Dy_condHolds_60 : decode M_Dy_condHolds.2.1 60 = .ok (.invokestatic 128, 3) := by decide +kernel
theorem d_Dy_condHolds_63 : decode M_Dy_condHolds.2.1 63 = .ok (.istore 6, 2) := by decide +kernel
theorem d_Dy_condHolds_65 : decode M_Dy_condHolds.2.1 65 = .ok (.aload_n 0, 1) := by decide +kernel
theorem d_Dy_condHolds_66 : decode M_Dy_condHolds.2.1 66 = .ok (.getfield 93, 3) := by decide +kernel
theorem d_Dy_condHolds_69 : decode M_Dy_condHolds.2.1 69 = .ok (.iload_n 1, 1) := by decide +kernel
theorem d_Dy_condHolds_70 : decode M_Dy_condHolds.2.1 70 = .ok (.iload_n 2, 1) := by decide +kernel
theorem d_Dy_condHolds_71 : decode M_Dy_condHolds.2.1 71 = .ok (.bipush 7, 2) := by decide +kernel
theorem d_Dy_condHolds_73 : decode M_Dy_condHolds.2.1 73 = .ok (.invokevirtual 114, 3) := by decide +kernel
theorem d_Dy_condHolds_76 : decode M_Dy_condHolds.2.1 76 = .ok (.istore 7, 2) := by decide +kernel
theorem d_Dy_condHolds_78 : decode M_Dy_condHolds.2.1 78 = .ok (.iload 4, 2) := by decide +kernel
theorem d_Dy_condHolds_80 : decode M_Dy_condHolds.2.1 80 = .ok (.ifCond .eq 18, 3) := by decide +kernel
theorem d_Dy_condHolds_83 : decode M_Dy_condHolds.2.1 83 = .ok (.iload 6, 2) := by decide +kernel
theorem d_Dy_condHolds_85 : decode M_Dy_condHolds.2.1 85 = .ok (.iload 7, 2) := by decide +kernel
theorem d_Dy_condHolds_87 : decode M_Dy_condHolds.2.1 87 = .ok (.if_icmp .le 7, 3) := by decide +kernel
theorem d_Dy_condHolds_90 : decode M_Dy_condHolds.2.1 90 = .ok (.iconst 1, 1) := by decide +kernel
theorem d_Dy_condHolds_91 : decode M_Dy_condHolds.2.1 91 = .ok (.goto 19, 3) := by decide +kernel
theorem d_Dy_condHolds_94 : decode M_Dy_condHolds.2.1 94 = .ok (.iconst 0, 1) := by decide +kernel
theorem d_Dy_condHolds_95 : decode M_Dy_condHolds.2.1 95 = .ok (.goto 15, 3) := by decide +kernel
theorem d_Dy_condHolds_98 : decode M_Dy_condHolds.2.1 98 = .ok (.iload 6, 2) := by decide +kernel
theorem d_Dy_condHolds_100 : decode M_Dy_condHolds.2.1 100 = .ok (.iload 7, 2) := by decide +kernel
theorem d_Dy_condHolds_102 : decode M_Dy_condHolds.2.1 102 = .ok (.if_icmp .ge 7, 3) := by decide +kernel
theorem d_Dy_condHolds_105 : decode M_Dy_condHolds.2.1 105 = .ok (.iconst 1, 1) := by decide +kernel
theorem d_Dy_condHolds_106 : decode M_Dy_condHolds.2.1 106 = .ok (.goto 4, 3) := by decide +kernel
theorem d_Dy_condHolds_109 : decode M_Dy_condHolds.2.1 109 = .ok (.iconst 0, 1) := by decide +kernel
theorem d_Dy_condHolds_110 : decode M_Dy_condHolds.2.1 110 = .ok (.ireturn, 1) := by decide +kernel
def M_Dy_subjectOf : mj_M := (⟨"MarketTown$Day", "subjectOf", "(LMarketTown$Town;III)I"⟩, prog_2_method_8_code, 4, some .int, 1, 22)
theorem d_Dy_subjectOf_0 : decode M_Dy_subjectOf.2.1 0 = .ok (.iload_n 2, 1) := by decide +kernel
theorem d_Dy_subjectOf_1 : decode M_Dy_subjectOf.2.1 1 = .ok (.tableswitch 49 0 2 #[27, 34, 44], 27) := by decide +kernel
theorem d_Dy_subjectOf_28 : decode M_Dy_subjectOf.2.1 28 = .ok (.aload_n 0, 1) := by decide +kernel
theorem d_Dy_subjectOf_29 : decode M_Dy_subjectOf.2.1 29 = .ok (.getfield 132, 3) := by decide +kernel
theorem d_Dy_subjectOf_32 : decode M_Dy_subjectOf.2.1 32 = .ok (.iload_n 1, 1) := by decide +kernel
theorem d_Dy_subjectOf_33 : decode M_Dy_subjectOf.2.1 33 = .ok (.iaload, 1) := by decide +kernel
theorem d_Dy_subjectOf_34 : decode M_Dy_subjectOf.2.1 34 = .ok (.ireturn, 1) := by decide +kernel
theorem d_Dy_subjectOf_35 : decode M_Dy_subjectOf.2.1 35 = .ok (.aload_n 0, 1) := by decide +kernel
theorem d_Dy_subjectOf_36 : decode M_Dy_subjectOf.2.1 36 = .ok (.getfield 54, 3) := by decide +kernel
theorem d_Dy_subjectOf_39 : decode M_Dy_subjectOf.2.1 39 = .ok (.iload_n 1, 1) := by decide +kernel
theorem d_Dy_subjectOf_40 : decode M_Dy_subjectOf.2.1 40 = .ok (.iload_n 3, 1) := by decide +kernel
theorem d_Dy_subjectOf_41 : decode M_Dy_subjectOf.2.1 41 = .ok (.invokevirtual 135, 3) := by decide +kernel
theorem d_Dy_subjectOf_44 : decode M_Dy_subjectOf.2.1 44 = .ok (.ireturn, 1) := by decide +kernel
theorem d_Dy_subjectOf_45 : decode M_Dy_subjectOf.2.1 45 = .ok (.aload_n 0, 1) := by decide +kernel
theorem d_Dy_subjectOf_46 : decode M_Dy_subjectOf.2.1 46 = .ok (.getfield 77, 3) := by decide +kernel
theorem d_Dy_subjectOf_49 : decode M_Dy_subjectOf.2.1 49 = .ok (.ireturn, 1) := by decide +kernel
theorem d_Dy_subjectOf_50 : decode M_Dy_subjectOf.2.1 50 = .ok (.aload_n 0, 1) := by decide +kernel
theorem d_Dy_subjectOf_51 : decode M_Dy_subjectOf.2.1 51 = .ok (.getfield 58, 3) := by decide +kernel
theorem d_Dy_subjectOf_54 : decode M_Dy_subjectOf.2.1 54 = .ok (.iload_n 3, 1) := by decide +kernel
theorem d_Dy_subjectOf_55 : decode M_Dy_subjectOf.2.1 55 = .ok (.iconst 2, 1) := by decide +kernel
theorem d_Dy_subjectOf_56 : decode M_Dy_subjectOf.2.1 56 = .ok (.invokevirtual 64, 3) := by decide +kernel
theorem d_Dy_subjectOf_59 : decode M_Dy_subjectOf.2.1 59 = .ok (.ireturn, 1) := by decide +kernel
def M_Wr_get : mj_M := (⟨"MarketTown$Wares", "get", "(II)I"⟩, prog_11_method_2_code, 3, some .int, 0, 0)
theorem d_Wr_get_0 : decode M_Wr_get.2.1 0 = .ok (.aload_n 0, 1) := by decide +kernel
theorem d_Wr_get_1 : decode M_Wr_get.2.1 1 = .ok (.getfield 11, 3) := by decide +kernel
theorem d_Wr_get_4 : decode M_Wr_get.2.1 4 = .ok (.iload_n 1, 1) := by decide +kernel
theorem d_Wr_get_5 : decode M_Wr_get.2.1 5 = .ok (.bipush 11, 2) := by decide +kernel
theorem d_Wr_get_7 : decode M_Wr_get.2.1 7 = .ok (.imul, 1) := by decide +kernel
theorem d_Wr_get_8 : decode M_Wr_get.2.1 8 = .ok (.iload_n 2, 1) := by decide +kernel
theorem d_Wr_get_9 : decode M_Wr_get.2.1 9 = .ok (.iadd, 1) := by decide +kernel
theorem d_Wr_get_10 : decode M_Wr_get.2.1 10 = .ok (.iaload, 1) := by decide +kernel
theorem d_Wr_get_11 : decode M_Wr_get.2.1 11 = .ok (.ireturn, 1) := by decide +kernel
def M_Rl_countFire : mj_M := (⟨"MarketTown$Rules", "countFire", "(II)V"⟩, prog_7_method_4_code, 3, none, 1, 21)
theorem d_Rl_countFire_0 : decode M_Rl_countFire.2.1 0 = .ok (.aload_n 0, 1) := by decide +kernel
theorem d_Rl_countFire_1 : decode M_Rl_countFire.2.1 1 = .ok (.getfield 15, 3) := by decide +kernel
theorem d_Rl_countFire_4 : decode M_Rl_countFire.2.1 4 = .ok (.iload_n 1, 1) := by decide +kernel
theorem d_Rl_countFire_5 : decode M_Rl_countFire.2.1 5 = .ok (.iload_n 2, 1) := by decide +kernel
theorem d_Rl_countFire_6 : decode M_Rl_countFire.2.1 6 = .ok (.invokestatic 18, 3) := by decide +kernel
theorem d_Rl_countFire_9 : decode M_Rl_countFire.2.1 9 = .ok (.bipush 8, 2) := by decide +kernel
theorem d_Rl_countFire_11 : decode M_Rl_countFire.2.1 11 = .ok (.iadd, 1) := by decide +kernel
theorem d_Rl_countFire_12 : decode M_Rl_countFire.2.1 12 = .ok (.dup2, 1) := by decide +kernel
theorem d_Rl_countFire_13 : decode M_Rl_countFire.2.1 13 = .ok (.iaload, 1) := by decide +kernel
theorem d_Rl_countFire_14 : decode M_Rl_countFire.2.1 14 = .ok (.iconst 1, 1) := by decide +kernel
theorem d_Rl_countFire_15 : decode M_Rl_countFire.2.1 15 = .ok (.iadd, 1) := by decide +kernel
theorem d_Rl_countFire_16 : decode M_Rl_countFire.2.1 16 = .ok (.iastore, 1) := by decide +kernel
theorem d_Rl_countFire_17 : decode M_Rl_countFire.2.1 17 = .ok (.return_, 1) := by decide +kernel
def M_Dy_act : mj_M := (⟨"MarketTown$Day", "act", "(LMarketTown$Town;II)V"⟩, prog_2_method_9_code, 7, none, 3, 77)
theorem d_Dy_act_0 : decode M_Dy_act.2.1 0 = .ok (.aload_n 1, 1) := by decide +kernel
theorem d_Dy_act_1 : decode M_Dy_act.2.1 1 = .ok (.getfield 93, 3) := by decide +kernel
theorem d_Dy_act_4 : decode M_Dy_act.2.1 4 = .ok (.iload_n 2, 1) := by decide +kernel
theorem d_Dy_act_5 : decode M_Dy_act.2.1 5 = .ok (.iload_n 3, 1) := by decide +kernel
theorem d_Dy_act_6 : decode M_Dy_act.2.1 6 = .ok (.iconst 1, 1) := by decide +kernel
theorem d_Dy_act_7 : decode M_Dy_act.2.1 7 = .ok (.invokevirtual 114, 3) := by decide +kernel
theorem d_Dy_act_10 : decode M_Dy_act.2.1 10 = .ok (.istore 4, 2) := by decide +kernel
theorem d_Dy_act_12 : decode M_Dy_act.2.1 12 = .ok (.aload_n 1, 1) := by decide +kernel
theorem d_Dy_act_13 : decode M_Dy_act.2.1 13 = .ok (.getfield 93, 3) := by decide +kernel
theorem d_Dy_act_16 : decode M_Dy_act.2.1 16 = .ok (.iload_n 2, 1) := by decide +kernel
theorem d_Dy_act_17 : decode M_Dy_act.2.1 17 = .ok (.iload_n 3, 1) := by decide +kernel
theorem d_Dy_act_18 : decode M_Dy_act.2.1 18 = .ok (.iconst 2, 1) := by decide +kernel
theorem d_Dy_act_19 : decode M_Dy_act.2.1 19 = .ok (.invokevirtual 114, 3) := by decide +kernel
theorem d_Dy_act_22 : decode M_Dy_act.2.1 22 = .ok (.istore 5, 2) := by decide +kernel
theorem d_Dy_act_24 : decode M_Dy_act.2.1 24 = .ok (.aload_n 1, 1) := by decide +kernel
theorem d_Dy_act_25 : decode M_Dy_act.2.1 25 = .ok (.getfield 93, 3) := by decide +kernel
theorem d_Dy_act_28 : decode M_Dy_act.2.1 28 = .ok (.iload_n 2, 1) := by decide +kernel
theorem d_Dy_act_29 : decode M_Dy_act.2.1 29 = .ok (.iload_n 3, 1) := by decide +kernel
theorem d_Dy_act_30 : decode M_Dy_act.2.1 30 = .ok (.iconst 3, 1) := by decide +kernel
theorem d_Dy_act_31 : decode M_Dy_act.2.1 31 = .ok (.invokevirtual 114, 3) := by decide +kernel
theorem d_Dy_act_34 : decode M_Dy_act.2.1 34 = .ok (.istore 6, 2) := by decide +kernel
theorem d_Dy_act_36 : decode M_Dy_act.2.1 36 = .ok (.aload_n 1, 1) := by decide +kernel
theorem d_Dy_act_37 : decode M_Dy_act.2.1 37 = .ok (.getfield 93, 3) := by decide +kernel
theorem d_Dy_act_40 : decode M_Dy_act.2.1 40 = .ok (.iload_n 2, 1) := by decide +kernel
theorem d_Dy_act_41 : decode M_Dy_act.2.1 41 = .ok (.iload_n 3, 1) := by decide +kernel
theorem d_Dy_act_42 : decode M_Dy_act.2.1 42 = .ok (.iconst 0, 1) := by decide +kernel
theorem d_Dy_act_43 : decode M_Dy_act.2.1 43 = .ok (.invokevirtual 114, 3) := by decide +kernel
theorem d_Dy_act_46 : decode M_Dy_act.2.1 46 = .ok (.tableswitch 121 0 4 #[34, 47, 60, 78, 96], 34) := by decide +kernel
theorem d_Dy_act_80 : decode M_Dy_act.2.1 80 = .ok (.aload_n 0, 1) := by decide +kernel
theorem d_Dy_act_81 : decode M_Dy_act.2.1 81 = .ok (.aload_n 1, 1) := by decide +kernel
theorem d_Dy_act_82 : decode M_Dy_act.2.1 82 = .ok (.iload_n 2, 1) := by decide +kernel
theorem d_Dy_act_83 : decode M_Dy_act.2.1 83 = .ok (.iload 4, 2) := by decide +kernel
theorem d_Dy_act_85 : decode M_Dy_act.2.1 85 = .ok (.iload 5, 2) := by decide +kernel
theorem d_Dy_act_87 : decode M_Dy_act.2.1 87 = .ok (.invokevirtual 138, 3) := by decide +kernel
theorem d_Dy_act_90 : decode M_Dy_act.2.1 90 = .ok (.goto 89, 3) := by decide +kernel
theorem d_Dy_act_93 : decode M_Dy_act.2.1 93 = .ok (.aload_n 0, 1) := by decide +kernel
theorem d_Dy_act_94 : decode M_Dy_act.2.1 94 = .ok (.aload_n 1, 1) := by decide +kernel
theorem d_Dy_act_95 : decode M_Dy_act.2.1 95 = .ok (.iload_n 2, 1) := by decide +kernel
theorem d_Dy_act_96 : decode M_Dy_act.2.1 96 = .ok (.iload 4, 2) := by decide +kernel
theorem d_Dy_act_98 : decode M_Dy_act.2.1 98 = .ok (.iload 5, 2) := by decide +kernel
theorem d_Dy_act_100 : decode M_Dy_act.2.1 100 = .ok (.invokevirtual 142, 3) := by decide +kernel
theorem d_Dy_act_103 : decode M_Dy_act.2.1 103 = .ok (.goto 76, 3) := by decide +kernel
theorem d_Dy_act_106 : decode M_Dy_act.2.1 106 = .ok (.aload_n 0, 1) := by decide +kernel
theorem d_Dy_act_107 : decode M_Dy_act.2.1 107 = .ok (.getfield 18, 3) := by decide +kernel
theorem d_Dy_act_110 : decode M_Dy_act.2.1 110 = .ok (.aload_n 1, 1) := by decide +kernel
theorem d_Dy_act_111 : decode M_Dy_act.2.1 111 = .ok (.iload_n 2, 1) := by decide +kernel
theorem d_Dy_act_112 : decode M_Dy_act.2.1 112 = .ok (.iload 4, 2) := by decide +kernel
theorem d_Dy_act_114 : decode M_Dy_act.2.1 114 = .ok (.iload 5, 2) := by decide +kernel
theorem d_Dy_act_116 : decode M_Dy_act.2.1 116 = .ok (.iload 6, 2) := by decide +kernel
theorem d_Dy_act_118 : decode M_Dy_act.2.1 118 = .ok (.invokevirtual 145, 3) := by decide +kernel
theorem d_Dy_act_121 : decode M_Dy_act.2.1 121 = .ok (.goto 58, 3) := by decide +kernel
theorem d_Dy_act_124 : decode M_Dy_act.2.1 124 = .ok (.aload_n 0, 1) := by decide +kernel
theorem d_Dy_act_125 : decode M_Dy_act.2.1 125 = .ok (.getfield 18, 3) := by decide +kernel
theorem d_Dy_act_128 : decode M_Dy_act.2.1 128 = .ok (.aload_n 1, 1) := by decide +kernel
theorem d_Dy_act_129 : decode M_Dy_act.2.1 129 = .ok (.iload_n 2, 1) := by decide +kernel
theorem d_Dy_act_130 : decode M_Dy_act.2.1 130 = .ok (.iload 4, 2) := by decide +kernel
theorem d_Dy_act_132 : decode M_Dy_act.2.1 132 = .ok (.iload 5, 2) := by decide +kernel
theorem d_Dy_act_134 : decode M_Dy_act.2.1 134 = .ok (.iload 6, 2) := by decide +kernel
theorem d_Dy_act_136 : decode M_Dy_act.2.1 136 = .ok (.invokevirtual 149, 3) := by decide +kernel
theorem d_Dy_act_139 : decode M_Dy_act.2.1 139 = .ok (.goto 40, 3) := by decide +kernel
theorem d_Dy_act_142 : decode M_Dy_act.2.1 142 = .ok (.aload_n 1, 1) := by decide +kernel
theorem d_Dy_act_143 : decode M_Dy_act.2.1 143 = .ok (.iload_n 2, 1) := by decide +kernel
theorem d_Dy_act_144 : decode M_Dy_act.2.1 144 = .ok (.iload 4, 2) := by decide +kernel
theorem d_Dy_act_146 : decode M_Dy_act.2.1 146 = .ok (.iconst 2, 1) := by decide +kernel
theorem d_Dy_act_147 : decode M_Dy_act.2.1 147 = .ok (.iload 5, 2) := by decide +kernel
theorem d_Dy_act_149 : decode M_Dy_act.2.1 149 = .ok (.aload_n 0, 1) := by decide +kernel
theorem d_Dy_act_150 : decode M_Dy_act.2.1 150 = .ok (.getfield 18, 3) := by decide +kernel
theorem d_Dy_act_153 : decode M_Dy_act.2.1 153 = .ok (.aload_n 1, 1) := by decide +kernel
theorem d_Dy_act_154 : decode M_Dy_act.2.1 154 = .ok (.iload_n 2, 1) := by decide +kernel
theorem d_Dy_act_155 : decode M_Dy_act.2.1 155 = .ok (.invokevirtual 152, 3) := by decide +kernel
theorem d_Dy_act_158 : decode M_Dy_act.2.1 158 = .ok (.invokestatic 156, 3) := by decide +kernel
theorem d_Dy_act_161 : decode M_Dy_act.2.1 161 = .ok (.invokevirtual 161, 3) := by decide +kernel
theorem d_Dy_act_164 : decode M_Dy_act.2.1 164 = .ok (.goto 15, 3) := by decide +kernel
theorem d_Dy_act_167 : decode M_Dy_act.2.1 167 = .ok (.aload_n 0, 1) := by decide +kernel
theorem d_Dy_act_168 : decode M_Dy_act.2.1 168 = .ok (.aload_n 1, 1) := by decide +kernel
theorem d_Dy_act_169 : decode M_Dy_act.2.1 169 = .ok (.iload_n 2, 1) := by decide +kernel
theorem d_Dy_act_170 : decode M_Dy_act.2.1 170 = .ok (.iload 4, 2) := by decide +kernel
theorem d_Dy_act_172 : decode M_Dy_act.2.1 172 = .ok (.iload 5, 2) := by decide +kernel
theorem d_Dy_act_174 : decode M_Dy_act.2.1 174 = .ok (.iload 6, 2) := by decide +kernel
theorem d_Dy_act_176 : decode M_Dy_act.2.1 176 = .ok (.invokevirtual 165, 3) := by decide +kernel
theorem d_Dy_act_179 : decode M_Dy_act.2.1 179 = .ok (.return_, 1) := by decide +kernel
def M_Dy_make : mj_M := (⟨"MarketTown$Day", "make", "(LMarketTown$Town;III)V"⟩, prog_2_method_10_code, 10, none, 2, 48)
theorem d_Dy_make_0 : decode M_Dy_make.2.1 0 = .ok (.aload_n 1, 1) := by decide +kernel
theorem d_Dy_make_1 : decode M_Dy_make.2.1 1 = .ok (.getfield 58, 3) := by decide +kernel
theorem d_Dy_make_4 : decode M_Dy_make.2.1 4 = .ok (.iload_n 3, 1) := by decide +kernel
theorem d_Dy_make_5 : decode M_Dy_make.2.1 5 = .ok (.bipush 7, 2) := by decide +kernel
theorem d_Dy_make_7 : decode M_Dy_make.2.1 7 = .ok (.invokevirtual 64, 3) := by decide +kernel
theorem d_Dy_make_10 : decode M_Dy_make.2.1 10 = .ok (.istore 5, 2) := by decide +kernel
theorem d_Dy_make_12 : decode M_Dy_make.2.1 12 = .ok (.aload_n 1, 1) := by decide +kernel
theorem d_Dy_make_13 : decode M_Dy_make.2.1 13 = .ok (.getfield 58, 3) := by decide +kernel
theorem d_Dy_make_16 : decode M_Dy_make.2.1 16 = .ok (.iload_n 3, 1) := by decide +kernel
theorem d_Dy_make_17 : decode M_Dy_make.2.1 17 = .ok (.bipush 9, 2) := by decide +kernel
theorem d_Dy_make_19 : decode M_Dy_make.2.1 19 = .ok (.invokevirtual 64, 3) := by decide +kernel
theorem d_Dy_make_22 : decode M_Dy_make.2.1 22 = .ok (.istore 6, 2) := by decide +kernel
theorem d_Dy_make_24 : decode M_Dy_make.2.1 24 = .ok (.aload_n 1, 1) := by decide +kernel
theorem d_Dy_make_25 : decode M_Dy_make.2.1 25 = .ok (.getfield 58, 3) := by decide +kernel
theorem d_Dy_make_28 : decode M_Dy_make.2.1 28 = .ok (.iload_n 3, 1) := by decide +kernel
theorem d_Dy_make_29 : decode M_Dy_make.2.1 29 = .ok (.bipush 8, 2) := by decide +kernel
theorem d_Dy_make_31 : decode M_Dy_make.2.1 31 = .ok (.invokevirtual 64, 3) := by decide +kernel
theorem d_Dy_make_34 : decode M_Dy_make.2.1 34 = .ok (.istore 7, 2) := by decide +kernel
theorem d_Dy_make_36 : decode M_Dy_make.2.1 36 = .ok (.aload_n 1, 1) := by decide +kernel
theorem d_Dy_make_37 : decode M_Dy_make.2.1 37 = .ok (.getfield 58, 3) := by decide +kernel
theorem d_Dy_make_40 : decode M_Dy_make.2.1 40 = .ok (.iload_n 3, 1) := by decide +kernel
theorem d_Dy_make_41 : decode M_Dy_make.2.1 41 = .ok (.bipush 10, 2) := by decide +kernel
theorem d_Dy_make_43 : decode M_Dy_make.2.1 43 = .ok (.invokevirtual 64, 3) := by decide +kernel
theorem d_Dy_make_46 : decode M_Dy_make.2.1 46 = .ok (.istore 8, 2) := by decide +kernel
theorem d_Dy_make_48 : decode M_Dy_make.2.1 48 = .ok (.iload 7, 2) := by decide +kernel
theorem d_Dy_make_50 : decode M_Dy_make.2.1 50 = .ok (.iconst (-1), 1) := by decide +kernel
theorem d_Dy_make_51 : decode M_Dy_make.2.1 51 = .ok (.if_icmp .ne 4, 3) := by decide +kernel
theorem d_Dy_make_54 : decode M_Dy_make.2.1 54 = .ok (.return_, 1) := by decide +kernel
theorem d_Dy_make_55 : decode M_Dy_make.2.1 55 = .ok (.iload 5, 2) := by decide +kernel
theorem d_Dy_make_57 : decode M_Dy_make.2.1 57 = .ok (.iload 6, 2) := by decide +kernel
theorem d_Dy_make_59 : decode M_Dy_make.2.1 59 = .ok (.if_icmp .ne 13, 3) := by decide +kernel
theorem d_Dy_make_62 : decode M_Dy_make.2.1 62 = .ok (.iload 7, 2) := by decide +kernel
theorem d_Dy_make_64 : decode M_Dy_make.2.1 64 = .ok (.iload 8, 2) := by decide +kernel
theorem d_Dy_make_66 : decode M_Dy_make.2.1 66 = .ok (.iadd, 1) := by decide +kernel
theorem d_Dy_make_67 : decode M_Dy_make.2.1 67 = .ok (.istore 7, 2) := by decide +kernel
theorem d_Dy_make_69 : decode M_Dy_make.2.1 69 = .ok (.iconst 0, 1) := by decide +kernel
theorem d_Dy_make_70 : decode M_Dy_make.2.1 70 = .ok (.istore 8, 2) := by decide +kernel
theorem d_Dy_make_72 : decode M_Dy_make.2.1 72 = .ok (.iload 4, 2) := by decide +kernel
theorem d_Dy_make_74 : decode M_Dy_make.2.1 74 = .ok (.iload 7, 2) := by decide +kernel
theorem d_Dy_make_76 : decode M_Dy_make.2.1 76 = .ok (.aload_n 0, 1) := by decide +kernel
theorem d_Dy_make_77 : decode M_Dy_make.2.1 77 = .ok (.getfield 18, 3) := by decide +kernel
theorem d_Dy_make_80 : decode M_Dy_make.2.1 80 = .ok (.aload_n 1, 1) := by decide +kernel
theorem d_Dy_make_81 : decode M_Dy_make.2.1 81 = .ok (.iload_n 2, 1) := by decide +kernel
theorem d_Dy_make_82 : decode M_Dy_make.2.1 82 = .ok (.iload 5, 2) := by decide +kernel
theorem d_Dy_make_84 : decode M_Dy_make.2.1 84 = .ok (.invokevirtual 168, 3) := by decide +kernel
theorem d_Dy_make_87 : decode M_Dy_make.2.1 87 = .ok (.invokestatic 172, 3) := by decide +kernel
theorem d_Dy_make_90 : decode M_Dy_make.2.1 90 = .ok (.iload 4, 2) := by decide +kernel
theorem d_Dy_make_92 : decode M_Dy_make.2.1 92 = .ok (.iload 8, 2) := by decide +kernel
theorem d_Dy_make_94 : decode M_Dy_make.2.1 94 = .ok (.aload_n 0, 1) := by decide +kernel
theorem d_Dy_make_95 : decode M_Dy_make.2.1 95 = .ok (.getfield 18, 3) := by decide +kernel
theorem d_Dy_make_98 : decode M_Dy_make.2.1 98 = .ok (.aload_n 1, 1) := by decide +kernel
theorem d_Dy_make_99 : decode M_Dy_make.2.1 99 = .ok (.iload_n 2, 1) := by decide +kernel
theorem d_Dy_make_100 : decode M_Dy_make.2.1 100 = .ok (.iload 6, 2) := by decide +kernel
theorem d_Dy_make_102 : decode M_Dy_make.2.1 102 = .ok (.invokevirtual 168, 3) := by decide +kernel
theorem d_Dy_make_105 : decode M_Dy_make.2.1 105 = .ok (.invokestatic 172, 3) := by decide +kernel
theorem d_Dy_make_108 : decode M_Dy_make.2.1 108 = .ok (.invokestatic 156, 3) := by decide +kernel
theorem d_Dy_make_111 : decode M_Dy_make.2.1 111 = .ok (.istore 9, 2) := by decide +kernel
theorem d_Dy_make_113 : decode M_Dy_make.2.1 113 = .ok (.aload_n 1, 1) := by decide +kernel
theorem d_Dy_make_114 : decode M_Dy_make.2.1 114 = .ok (.getfield 54, 3) := by decide +kernel
theorem d_Dy_make_117 : decode M_Dy_make.2.1 117 = .ok (.iload_n 2, 1) := by decide +kernel
theorem d_Dy_make_118 : decode M_Dy_make.2.1 118 = .ok (.iload 5, 2) := by decide +kernel
theorem d_Dy_make_120 : decode M_Dy_make.2.1 120 = .ok (.iload 9, 2) := by decide +kernel
theorem d_Dy_make_122 : decode M_Dy_make.2.1 122 = .ok (.iload 7, 2) := by decide +kernel
theorem d_Dy_make_124 : decode M_Dy_make.2.1 124 = .ok (.imul, 1) := by decide +kernel
theorem d_Dy_make_125 : decode M_Dy_make.2.1 125 = .ok (.invokevirtual 175, 3) := by decide +kernel
theorem d_Dy_make_128 : decode M_Dy_make.2.1 128 = .ok (.aload_n 1, 1) := by decide +kernel
theorem d_Dy_make_129 : decode M_Dy_make.2.1 129 = .ok (.getfield 54, 3) := by decide +kernel
theorem d_Dy_make_132 : decode M_Dy_make.2.1 132 = .ok (.iload_n 2, 1) := by decide +kernel
theorem d_Dy_make_133 : decode M_Dy_make.2.1 133 = .ok (.iload 6, 2) := by decide +kernel
theorem d_Dy_make_135 : decode M_Dy_make.2.1 135 = .ok (.iload 9, 2) := by decide +kernel
theorem d_Dy_make_137 : decode M_Dy_make.2.1 137 = .ok (.iload 8, 2) := by decide +kernel
theorem d_Dy_make_139 : decode M_Dy_make.2.1 139 = .ok (.imul, 1) := by decide +kernel
theorem d_Dy_make_140 : decode M_Dy_make.2.1 140 = .ok (.invokevirtual 175, 3) := by decide +kernel
theorem d_Dy_make_143 : decode M_Dy_make.2.1 143 = .ok (.aload_n 1, 1) := by decide +kernel
theorem d_Dy_make_144 : decode M_Dy_make.2.1 144 = .ok (.getfield 54, 3) := by decide +kernel
theorem d_Dy_make_147 : decode M_Dy_make.2.1 147 = .ok (.iload_n 2, 1) := by decide +kernel
theorem d_Dy_make_148 : decode M_Dy_make.2.1 148 = .ok (.iload_n 3, 1) := by decide +kernel
theorem d_Dy_make_149 : decode M_Dy_make.2.1 149 = .ok (.iload 9, 2) := by decide +kernel
theorem d_Dy_make_151 : decode M_Dy_make.2.1 151 = .ok (.invokevirtual 178, 3) := by decide +kernel
theorem d_Dy_make_154 : decode M_Dy_make.2.1 154 = .ok (.aload_n 1, 1) := by decide +kernel
theorem d_Dy_make_155 : decode M_Dy_make.2.1 155 = .ok (.getfield 58, 3) := by decide +kernel
theorem d_Dy_make_158 : decode M_Dy_make.2.1 158 = .ok (.iload_n 3, 1) := by decide +kernel
theorem d_Dy_make_159 : decode M_Dy_make.2.1 159 = .ok (.iconst 5, 1) := by decide +kernel
theorem d_Dy_make_160 : decode M_Dy_make.2.1 160 = .ok (.iload 9, 2) := by decide +kernel
theorem d_Dy_make_162 : decode M_Dy_make.2.1 162 = .ok (.invokevirtual 73, 3) := by decide +kernel
theorem d_Dy_make_165 : decode M_Dy_make.2.1 165 = .ok (.return_, 1) := by decide +kernel
