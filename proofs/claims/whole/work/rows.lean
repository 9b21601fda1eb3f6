section
-- ===== PART A: goes FIRST, ahead of the names: the tables' words, and 'selects' of the private methods out of them =====
/-- a private method of a class that the tables say can be made, by its rows of tables_1 -/
def lw_okq (q : MethodName × Nat) : Prop := (q.1.cls ≠ "java/lang/invoke/MethodHandle" ∧ q.1.cls ≠ "java/lang/invoke/VarHandle") ∧ Cond.instantiable q.1.cls q.2 ∈ tables_1 ∧ Cond.privateMethod q.1 ∈ tables_1 ∧ Cond.instanceMethod q.1 ∈ tables_1
theorem lw_p0 : lw_okq (⟨"MarketTown", "readRule", "(I)I"⟩, 6) := ⟨⟨by decide +kernel, by decide +kernel⟩, List.mem_of_getElem? (i := 20) (by decide +kernel), List.mem_of_getElem? (i := 361) (by decide +kernel), List.mem_of_getElem? (i := 362) (by decide +kernel)⟩
theorem lw_p1 : lw_okq (⟨"MarketTown$RuleReader", "clearRow", "()V"⟩, 3) := ⟨⟨by decide +kernel, by decide +kernel⟩, List.mem_of_getElem? (i := 178) (by decide +kernel), List.mem_of_getElem? (i := 369) (by decide +kernel), List.mem_of_getElem? (i := 370) (by decide +kernel)⟩
theorem lw_p2 : lw_okq (⟨"MarketTown$RuleReader", "nextWord", "(LMarketTown$Tape;)Z"⟩, 3) := ⟨⟨by decide +kernel, by decide +kernel⟩, List.mem_of_getElem? (i := 178) (by decide +kernel), List.mem_of_getElem? (i := 374) (by decide +kernel), List.mem_of_getElem? (i := 375) (by decide +kernel)⟩
theorem lw_p3 : lw_okq (⟨"MarketTown$RuleReader", "isWord", "(LMarketTown$Tape;Ljava/lang/String;)Z"⟩, 3) := ⟨⟨by decide +kernel, by decide +kernel⟩, List.mem_of_getElem? (i := 178) (by decide +kernel), List.mem_of_getElem? (i := 383) (by decide +kernel), List.mem_of_getElem? (i := 384) (by decide +kernel)⟩
theorem lw_p4 : lw_okq (⟨"MarketTown$RuleReader", "reads", "(LMarketTown$Tape;III)Z"⟩, 3) := ⟨⟨by decide +kernel, by decide +kernel⟩, List.mem_of_getElem? (i := 178) (by decide +kernel), List.mem_of_getElem? (i := 439) (by decide +kernel), List.mem_of_getElem? (i := 440) (by decide +kernel)⟩
theorem lw_p5 : lw_okq (⟨"MarketTown$RuleReader", "number", "(LMarketTown$Tape;)I"⟩, 3) := ⟨⟨by decide +kernel, by decide +kernel⟩, List.mem_of_getElem? (i := 178) (by decide +kernel), List.mem_of_getElem? (i := 443) (by decide +kernel), List.mem_of_getElem? (i := 444) (by decide +kernel)⟩
theorem lw_p6 : lw_okq (⟨"MarketTown$RuleReader", "readsCond", "(LMarketTown$Tape;)Z"⟩, 3) := ⟨⟨by decide +kernel, by decide +kernel⟩, List.mem_of_getElem? (i := 178) (by decide +kernel), List.mem_of_getElem? (i := 449) (by decide +kernel), List.mem_of_getElem? (i := 450) (by decide +kernel)⟩
theorem lw_p7 : lw_okq (⟨"MarketTown$RuleReader", "condOf", "(LMarketTown$Tape;)I"⟩, 3) := ⟨⟨by decide +kernel, by decide +kernel⟩, List.mem_of_getElem? (i := 178) (by decide +kernel), List.mem_of_getElem? (i := 453) (by decide +kernel), List.mem_of_getElem? (i := 454) (by decide +kernel)⟩
theorem lw_p8 : lw_okq (⟨"MarketTown$RuleReader", "readsAct", "(LMarketTown$Tape;II)Z"⟩, 3) := ⟨⟨by decide +kernel, by decide +kernel⟩, List.mem_of_getElem? (i := 178) (by decide +kernel), List.mem_of_getElem? (i := 463) (by decide +kernel), List.mem_of_getElem? (i := 464) (by decide +kernel)⟩
theorem lw_p9 : lw_okq (⟨"MarketTown$RuleReader", "actOf", "(LMarketTown$Tape;)I"⟩, 3) := ⟨⟨by decide +kernel, by decide +kernel⟩, List.mem_of_getElem? (i := 178) (by decide +kernel), List.mem_of_getElem? (i := 467) (by decide +kernel), List.mem_of_getElem? (i := 468) (by decide +kernel)⟩
theorem lw_p10 : lw_okq (⟨"MarketTown$Day", "drawOrder", "(LMarketTown$Town;)V"⟩, 2) := ⟨⟨by decide +kernel, by decide +kernel⟩, List.mem_of_getElem? (i := 196) (by decide +kernel), List.mem_of_getElem? (i := 506) (by decide +kernel), List.mem_of_getElem? (i := 507) (by decide +kernel)⟩
theorem lw_p11 : lw_okq (⟨"MarketTown$Day", "followRules", "(LMarketTown$Town;I)V"⟩, 2) := ⟨⟨by decide +kernel, by decide +kernel⟩, List.mem_of_getElem? (i := 196) (by decide +kernel), List.mem_of_getElem? (i := 522) (by decide +kernel), List.mem_of_getElem? (i := 523) (by decide +kernel)⟩
theorem lw_p12 : lw_okq (⟨"MarketTown$Day", "act", "(LMarketTown$Town;II)V"⟩, 2) := ⟨⟨by decide +kernel, by decide +kernel⟩, List.mem_of_getElem? (i := 196) (by decide +kernel), List.mem_of_getElem? (i := 556) (by decide +kernel), List.mem_of_getElem? (i := 557) (by decide +kernel)⟩
theorem lw_p13 : lw_okq (⟨"MarketTown$Day", "make", "(LMarketTown$Town;III)V"⟩, 2) := ⟨⟨by decide +kernel, by decide +kernel⟩, List.mem_of_getElem? (i := 196) (by decide +kernel), List.mem_of_getElem? (i := 560) (by decide +kernel), List.mem_of_getElem? (i := 561) (by decide +kernel)⟩
theorem lw_p14 : lw_okq (⟨"MarketTown$Day", "eat", "(LMarketTown$Town;III)V"⟩, 2) := ⟨⟨by decide +kernel, by decide +kernel⟩, List.mem_of_getElem? (i := 196) (by decide +kernel), List.mem_of_getElem? (i := 585) (by decide +kernel), List.mem_of_getElem? (i := 586) (by decide +kernel)⟩
theorem lw_p15 : lw_okq (⟨"MarketTown$Day", "lend", "(LMarketTown$Town;IIII)V"⟩, 2) := ⟨⟨by decide +kernel, by decide +kernel⟩, List.mem_of_getElem? (i := 196) (by decide +kernel), List.mem_of_getElem? (i := 615) (by decide +kernel), List.mem_of_getElem? (i := 616) (by decide +kernel)⟩
def lw_privs_1 : List (MethodName × Nat) := [(⟨"MarketTown", "readRule", "(I)I"⟩, 6), (⟨"MarketTown$RuleReader", "clearRow", "()V"⟩, 3), (⟨"MarketTown$RuleReader", "nextWord", "(LMarketTown$Tape;)Z"⟩, 3), (⟨"MarketTown$RuleReader", "isWord", "(LMarketTown$Tape;Ljava/lang/String;)Z"⟩, 3), (⟨"MarketTown$RuleReader", "reads", "(LMarketTown$Tape;III)Z"⟩, 3), (⟨"MarketTown$RuleReader", "number", "(LMarketTown$Tape;)I"⟩, 3), (⟨"MarketTown$RuleReader", "readsCond", "(LMarketTown$Tape;)Z"⟩, 3), (⟨"MarketTown$RuleReader", "condOf", "(LMarketTown$Tape;)I"⟩, 3), (⟨"MarketTown$RuleReader", "readsAct", "(LMarketTown$Tape;II)Z"⟩, 3), (⟨"MarketTown$RuleReader", "actOf", "(LMarketTown$Tape;)I"⟩, 3), (⟨"MarketTown$Day", "drawOrder", "(LMarketTown$Town;)V"⟩, 2), (⟨"MarketTown$Day", "followRules", "(LMarketTown$Town;I)V"⟩, 2), (⟨"MarketTown$Day", "act", "(LMarketTown$Town;II)V"⟩, 2), (⟨"MarketTown$Day", "make", "(LMarketTown$Town;III)V"⟩, 2), (⟨"MarketTown$Day", "eat", "(LMarketTown$Town;III)V"⟩, 2), (⟨"MarketTown$Day", "lend", "(LMarketTown$Town;IIII)V"⟩, 2)]
theorem lw_r1 : ∀ q ∈ lw_privs_1, lw_okq q := List.forall_mem_cons.mpr ⟨lw_p0, List.forall_mem_cons.mpr ⟨lw_p1, List.forall_mem_cons.mpr ⟨lw_p2, List.forall_mem_cons.mpr ⟨lw_p3, List.forall_mem_cons.mpr ⟨lw_p4, List.forall_mem_cons.mpr ⟨lw_p5, List.forall_mem_cons.mpr ⟨lw_p6, List.forall_mem_cons.mpr ⟨lw_p7, List.forall_mem_cons.mpr ⟨lw_p8, List.forall_mem_cons.mpr ⟨lw_p9, List.forall_mem_cons.mpr ⟨lw_p10, List.forall_mem_cons.mpr ⟨lw_p11, List.forall_mem_cons.mpr ⟨lw_p12, List.forall_mem_cons.mpr ⟨lw_p13, List.forall_mem_cons.mpr ⟨lw_p14, List.forall_mem_cons.mpr ⟨lw_p15, fun _ h => absurd h List.not_mem_nil⟩⟩⟩⟩⟩⟩⟩⟩⟩⟩⟩⟩⟩⟩⟩⟩
theorem lw_p16 : lw_okq (⟨"MarketTown$Offers", "insert", "(II)V"⟩, 7) := ⟨⟨by decide +kernel, by decide +kernel⟩, List.mem_of_getElem? (i := 208) (by decide +kernel), List.mem_of_getElem? (i := 641) (by decide +kernel), List.mem_of_getElem? (i := 642) (by decide +kernel)⟩
theorem lw_p17 : lw_okq (⟨"MarketTown$Market", "calledPrice", "()I"⟩, 5) := ⟨⟨by decide +kernel, by decide +kernel⟩, List.mem_of_getElem? (i := 202) (by decide +kernel), List.mem_of_getElem? (i := 645) (by decide +kernel), List.mem_of_getElem? (i := 646) (by decide +kernel)⟩
theorem lw_p18 : lw_okq (⟨"MarketTown$Market", "agree", "(II)Z"⟩, 5) := ⟨⟨by decide +kernel, by decide +kernel⟩, List.mem_of_getElem? (i := 202) (by decide +kernel), List.mem_of_getElem? (i := 649) (by decide +kernel), List.mem_of_getElem? (i := 650) (by decide +kernel)⟩
theorem lw_p19 : lw_okq (⟨"MarketTown$Market", "serve", "(LMarketTown$Town;III)V"⟩, 5) := ⟨⟨by decide +kernel, by decide +kernel⟩, List.mem_of_getElem? (i := 202) (by decide +kernel), List.mem_of_getElem? (i := 653) (by decide +kernel), List.mem_of_getElem? (i := 654) (by decide +kernel)⟩
theorem lw_p20 : lw_okq (⟨"MarketTown$Market", "priceOf", "(IIII)I"⟩, 5) := ⟨⟨by decide +kernel, by decide +kernel⟩, List.mem_of_getElem? (i := 202) (by decide +kernel), List.mem_of_getElem? (i := 657) (by decide +kernel), List.mem_of_getElem? (i := 658) (by decide +kernel)⟩
theorem lw_p21 : lw_okq (⟨"MarketTown$Market", "trade", "(LMarketTown$Town;IIII)V"⟩, 5) := ⟨⟨by decide +kernel, by decide +kernel⟩, List.mem_of_getElem? (i := 202) (by decide +kernel), List.mem_of_getElem? (i := 661) (by decide +kernel), List.mem_of_getElem? (i := 662) (by decide +kernel)⟩
theorem lw_p22 : lw_okq (⟨"MarketTown$Loans", "settle", "(LMarketTown$Town;II)V"⟩, 2) := ⟨⟨by decide +kernel, by decide +kernel⟩, List.mem_of_getElem? (i := 73) (by decide +kernel), List.mem_of_getElem? (i := 682) (by decide +kernel), List.mem_of_getElem? (i := 683) (by decide +kernel)⟩
theorem lw_p23 : lw_okq (⟨"MarketTown$Loans", "close", "(I)V"⟩, 2) := ⟨⟨by decide +kernel, by decide +kernel⟩, List.mem_of_getElem? (i := 73) (by decide +kernel), List.mem_of_getElem? (i := 687) (by decide +kernel), List.mem_of_getElem? (i := 688) (by decide +kernel)⟩
theorem lw_p24 : lw_okq (⟨"MarketTown$Loans", "shareOut", "(LMarketTown$Town;IJJ)V"⟩, 2) := ⟨⟨by decide +kernel, by decide +kernel⟩, List.mem_of_getElem? (i := 73) (by decide +kernel), List.mem_of_getElem? (i := 695) (by decide +kernel), List.mem_of_getElem? (i := 696) (by decide +kernel)⟩
theorem lw_p25 : lw_okq (⟨"MarketTown$Loans", "handOutRest", "(LMarketTown$Town;I)V"⟩, 2) := ⟨⟨by decide +kernel, by decide +kernel⟩, List.mem_of_getElem? (i := 73) (by decide +kernel), List.mem_of_getElem? (i := 699) (by decide +kernel), List.mem_of_getElem? (i := 700) (by decide +kernel)⟩
theorem lw_p26 : lw_okq (⟨"MarketTown$Loans", "forgetClosed", "()V"⟩, 2) := ⟨⟨by decide +kernel, by decide +kernel⟩, List.mem_of_getElem? (i := 73) (by decide +kernel), List.mem_of_getElem? (i := 704) (by decide +kernel), List.mem_of_getElem? (i := 705) (by decide +kernel)⟩
theorem lw_p27 : lw_okq (⟨"MarketTown$Stock", "shiftAges", "(I)V"⟩, 2) := ⟨⟨by decide +kernel, by decide +kernel⟩, List.mem_of_getElem? (i := 34) (by decide +kernel), List.mem_of_getElem? (i := 713) (by decide +kernel), List.mem_of_getElem? (i := 714) (by decide +kernel)⟩
theorem lw_p28 : lw_okq (⟨"MarketTown$Stock", "takeFromAge", "(II)I"⟩, 2) := ⟨⟨by decide +kernel, by decide +kernel⟩, List.mem_of_getElem? (i := 34) (by decide +kernel), List.mem_of_getElem? (i := 717) (by decide +kernel), List.mem_of_getElem? (i := 718) (by decide +kernel)⟩
theorem lw_p29 : lw_okq (⟨"MarketTown$Town", "cashNotAbove", "(II)I"⟩, 14) := ⟨⟨by decide +kernel, by decide +kernel⟩, List.mem_of_getElem? (i := 28) (by decide +kernel), List.mem_of_getElem? (i := 778) (by decide +kernel), List.mem_of_getElem? (i := 779) (by decide +kernel)⟩
theorem lw_p30 : lw_okq (⟨"MarketTownModel", "isAgent", "(I)Z"⟩, 21) := ⟨⟨by decide +kernel, by decide +kernel⟩, List.mem_of_getElem? (i := 844) (by decide +kernel), List.mem_of_getElem? (i := 929) (by decide +kernel), List.mem_of_getElem? (i := 930) (by decide +kernel)⟩
theorem lw_p31 : lw_okq (⟨"MarketTownModel", "hasAll", "(II)I"⟩, 21) := ⟨⟨by decide +kernel, by decide +kernel⟩, List.mem_of_getElem? (i := 844) (by decide +kernel), List.mem_of_getElem? (i := 939) (by decide +kernel), List.mem_of_getElem? (i := 940) (by decide +kernel)⟩
def lw_privs_2 : List (MethodName × Nat) := [(⟨"MarketTown$Offers", "insert", "(II)V"⟩, 7), (⟨"MarketTown$Market", "calledPrice", "()I"⟩, 5), (⟨"MarketTown$Market", "agree", "(II)Z"⟩, 5), (⟨"MarketTown$Market", "serve", "(LMarketTown$Town;III)V"⟩, 5), (⟨"MarketTown$Market", "priceOf", "(IIII)I"⟩, 5), (⟨"MarketTown$Market", "trade", "(LMarketTown$Town;IIII)V"⟩, 5), (⟨"MarketTown$Loans", "settle", "(LMarketTown$Town;II)V"⟩, 2), (⟨"MarketTown$Loans", "close", "(I)V"⟩, 2), (⟨"MarketTown$Loans", "shareOut", "(LMarketTown$Town;IJJ)V"⟩, 2), (⟨"MarketTown$Loans", "handOutRest", "(LMarketTown$Town;I)V"⟩, 2), (⟨"MarketTown$Loans", "forgetClosed", "()V"⟩, 2), (⟨"MarketTown$Stock", "shiftAges", "(I)V"⟩, 2), (⟨"MarketTown$Stock", "takeFromAge", "(II)I"⟩, 2), (⟨"MarketTown$Town", "cashNotAbove", "(II)I"⟩, 14), (⟨"MarketTownModel", "isAgent", "(I)Z"⟩, 21), (⟨"MarketTownModel", "hasAll", "(II)I"⟩, 21)]
theorem lw_r2 : ∀ q ∈ lw_privs_2, lw_okq q := List.forall_mem_cons.mpr ⟨lw_p16, List.forall_mem_cons.mpr ⟨lw_p17, List.forall_mem_cons.mpr ⟨lw_p18, List.forall_mem_cons.mpr ⟨lw_p19, List.forall_mem_cons.mpr ⟨lw_p20, List.forall_mem_cons.mpr ⟨lw_p21, List.forall_mem_cons.mpr ⟨lw_p22, List.forall_mem_cons.mpr ⟨lw_p23, List.forall_mem_cons.mpr ⟨lw_p24, List.forall_mem_cons.mpr ⟨lw_p25, List.forall_mem_cons.mpr ⟨lw_p26, List.forall_mem_cons.mpr ⟨lw_p27, List.forall_mem_cons.mpr ⟨lw_p28, List.forall_mem_cons.mpr ⟨lw_p29, List.forall_mem_cons.mpr ⟨lw_p30, List.forall_mem_cons.mpr ⟨lw_p31, fun _ h => absurd h List.not_mem_nil⟩⟩⟩⟩⟩⟩⟩⟩⟩⟩⟩⟩⟩⟩⟩⟩
theorem lw_p32 : lw_okq (⟨"MarketTownModel", "lay", "(I)V"⟩, 21) := ⟨⟨by decide +kernel, by decide +kernel⟩, List.mem_of_getElem? (i := 844) (by decide +kernel), List.mem_of_getElem? (i := 963) (by decide +kernel), List.mem_of_getElem? (i := 964) (by decide +kernel)⟩
theorem lw_p33 : lw_okq (⟨"MarketTownModel", "read", "(I)I"⟩, 21) := ⟨⟨by decide +kernel, by decide +kernel⟩, List.mem_of_getElem? (i := 844) (by decide +kernel), List.mem_of_getElem? (i := 975) (by decide +kernel), List.mem_of_getElem? (i := 976) (by decide +kernel)⟩
theorem lw_p34 : lw_okq (⟨"MarketTownModel", "next", "()V"⟩, 21) := ⟨⟨by decide +kernel, by decide +kernel⟩, List.mem_of_getElem? (i := 844) (by decide +kernel), List.mem_of_getElem? (i := 979) (by decide +kernel), List.mem_of_getElem? (i := 980) (by decide +kernel)⟩
theorem lw_p35 : lw_okq (⟨"MarketTownModel", "reads", "(IIIII)Z"⟩, 21) := ⟨⟨by decide +kernel, by decide +kernel⟩, List.mem_of_getElem? (i := 844) (by decide +kernel), List.mem_of_getElem? (i := 983) (by decide +kernel), List.mem_of_getElem? (i := 984) (by decide +kernel)⟩
theorem lw_p36 : lw_okq (⟨"MarketTownModel", "number", "(II)I"⟩, 21) := ⟨⟨by decide +kernel, by decide +kernel⟩, List.mem_of_getElem? (i := 844) (by decide +kernel), List.mem_of_getElem? (i := 987) (by decide +kernel), List.mem_of_getElem? (i := 988) (by decide +kernel)⟩
theorem lw_p37 : lw_okq (⟨"MarketTownModel", "fail", "()V"⟩, 21) := ⟨⟨by decide +kernel, by decide +kernel⟩, List.mem_of_getElem? (i := 844) (by decide +kernel), List.mem_of_getElem? (i := 991) (by decide +kernel), List.mem_of_getElem? (i := 992) (by decide +kernel)⟩
theorem lw_p38 : lw_okq (⟨"MarketTownModel", "readCond", "()V"⟩, 21) := ⟨⟨by decide +kernel, by decide +kernel⟩, List.mem_of_getElem? (i := 844) (by decide +kernel), List.mem_of_getElem? (i := 995) (by decide +kernel), List.mem_of_getElem? (i := 996) (by decide +kernel)⟩
theorem lw_p39 : lw_okq (⟨"MarketTownModel", "readAct", "(I)V"⟩, 21) := ⟨⟨by decide +kernel, by decide +kernel⟩, List.mem_of_getElem? (i := 844) (by decide +kernel), List.mem_of_getElem? (i := 999) (by decide +kernel), List.mem_of_getElem? (i := 1000) (by decide +kernel)⟩
theorem lw_p40 : lw_okq (⟨"MarketTownModel", "actAtHand", "()I"⟩, 21) := ⟨⟨by decide +kernel, by decide +kernel⟩, List.mem_of_getElem? (i := 844) (by decide +kernel), List.mem_of_getElem? (i := 1003) (by decide +kernel), List.mem_of_getElem? (i := 1004) (by decide +kernel)⟩
theorem lw_p41 : lw_okq (⟨"MarketTownModel", "ruleMany", "(I)I"⟩, 21) := ⟨⟨by decide +kernel, by decide +kernel⟩, List.mem_of_getElem? (i := 844) (by decide +kernel), List.mem_of_getElem? (i := 1007) (by decide +kernel), List.mem_of_getElem? (i := 1008) (by decide +kernel)⟩
theorem lw_p42 : lw_okq (⟨"MarketTownModel", "liveDay", "()V"⟩, 21) := ⟨⟨by decide +kernel, by decide +kernel⟩, List.mem_of_getElem? (i := 844) (by decide +kernel), List.mem_of_getElem? (i := 1020) (by decide +kernel), List.mem_of_getElem? (i := 1021) (by decide +kernel)⟩
theorem lw_p43 : lw_okq (⟨"MarketTownModel", "drawOrder", "()V"⟩, 21) := ⟨⟨by decide +kernel, by decide +kernel⟩, List.mem_of_getElem? (i := 844) (by decide +kernel), List.mem_of_getElem? (i := 1024) (by decide +kernel), List.mem_of_getElem? (i := 1025) (by decide +kernel)⟩
theorem lw_p44 : lw_okq (⟨"MarketTownModel", "actAll", "()V"⟩, 21) := ⟨⟨by decide +kernel, by decide +kernel⟩, List.mem_of_getElem? (i := 844) (by decide +kernel), List.mem_of_getElem? (i := 1032) (by decide +kernel), List.mem_of_getElem? (i := 1033) (by decide +kernel)⟩
theorem lw_p45 : lw_okq (⟨"MarketTownModel", "isBroke", "(I)Z"⟩, 21) := ⟨⟨by decide +kernel, by decide +kernel⟩, List.mem_of_getElem? (i := 844) (by decide +kernel), List.mem_of_getElem? (i := 1036) (by decide +kernel), List.mem_of_getElem? (i := 1037) (by decide +kernel)⟩
theorem lw_p46 : lw_okq (⟨"MarketTownModel", "fires", "(II)Z"⟩, 21) := ⟨⟨by decide +kernel, by decide +kernel⟩, List.mem_of_getElem? (i := 844) (by decide +kernel), List.mem_of_getElem? (i := 1040) (by decide +kernel), List.mem_of_getElem? (i := 1041) (by decide +kernel)⟩
theorem lw_p47 : lw_okq (⟨"MarketTownModel", "ruleIs", "(III)I"⟩, 21) := ⟨⟨by decide +kernel, by decide +kernel⟩, List.mem_of_getElem? (i := 844) (by decide +kernel), List.mem_of_getElem? (i := 1044) (by decide +kernel), List.mem_of_getElem? (i := 1045) (by decide +kernel)⟩
def lw_privs_3 : List (MethodName × Nat) := [(⟨"MarketTownModel", "lay", "(I)V"⟩, 21), (⟨"MarketTownModel", "read", "(I)I"⟩, 21), (⟨"MarketTownModel", "next", "()V"⟩, 21), (⟨"MarketTownModel", "reads", "(IIIII)Z"⟩, 21), (⟨"MarketTownModel", "number", "(II)I"⟩, 21), (⟨"MarketTownModel", "fail", "()V"⟩, 21), (⟨"MarketTownModel", "readCond", "()V"⟩, 21), (⟨"MarketTownModel", "readAct", "(I)V"⟩, 21), (⟨"MarketTownModel", "actAtHand", "()I"⟩, 21), (⟨"MarketTownModel", "ruleMany", "(I)I"⟩, 21), (⟨"MarketTownModel", "liveDay", "()V"⟩, 21), (⟨"MarketTownModel", "drawOrder", "()V"⟩, 21), (⟨"MarketTownModel", "actAll", "()V"⟩, 21), (⟨"MarketTownModel", "isBroke", "(I)Z"⟩, 21), (⟨"MarketTownModel", "fires", "(II)Z"⟩, 21), (⟨"MarketTownModel", "ruleIs", "(III)I"⟩, 21)]
theorem lw_r3 : ∀ q ∈ lw_privs_3, lw_okq q := List.forall_mem_cons.mpr ⟨lw_p32, List.forall_mem_cons.mpr ⟨lw_p33, List.forall_mem_cons.mpr ⟨lw_p34, List.forall_mem_cons.mpr ⟨lw_p35, List.forall_mem_cons.mpr ⟨lw_p36, List.forall_mem_cons.mpr ⟨lw_p37, List.forall_mem_cons.mpr ⟨lw_p38, List.forall_mem_cons.mpr ⟨lw_p39, List.forall_mem_cons.mpr ⟨lw_p40, List.forall_mem_cons.mpr ⟨lw_p41, List.forall_mem_cons.mpr ⟨lw_p42, List.forall_mem_cons.mpr ⟨lw_p43, List.forall_mem_cons.mpr ⟨lw_p44, List.forall_mem_cons.mpr ⟨lw_p45, List.forall_mem_cons.mpr ⟨lw_p46, List.forall_mem_cons.mpr ⟨lw_p47, fun _ h => absurd h List.not_mem_nil⟩⟩⟩⟩⟩⟩⟩⟩⟩⟩⟩⟩⟩⟩⟩⟩
theorem lw_p48 : lw_okq (⟨"MarketTownModel", "mayDo", "(II)Z"⟩, 21) := ⟨⟨by decide +kernel, by decide +kernel⟩, List.mem_of_getElem? (i := 844) (by decide +kernel), List.mem_of_getElem? (i := 1048) (by decide +kernel), List.mem_of_getElem? (i := 1049) (by decide +kernel)⟩
theorem lw_p49 : lw_okq (⟨"MarketTownModel", "isKind", "(II)Z"⟩, 21) := ⟨⟨by decide +kernel, by decide +kernel⟩, List.mem_of_getElem? (i := 844) (by decide +kernel), List.mem_of_getElem? (i := 1052) (by decide +kernel), List.mem_of_getElem? (i := 1053) (by decide +kernel)⟩
theorem lw_p50 : lw_okq (⟨"MarketTownModel", "kind", "(I)I"⟩, 21) := ⟨⟨by decide +kernel, by decide +kernel⟩, List.mem_of_getElem? (i := 844) (by decide +kernel), List.mem_of_getElem? (i := 1056) (by decide +kernel), List.mem_of_getElem? (i := 1057) (by decide +kernel)⟩
theorem lw_p51 : lw_okq (⟨"MarketTownModel", "cash", "(I)I"⟩, 21) := ⟨⟨by decide +kernel, by decide +kernel⟩, List.mem_of_getElem? (i := 844) (by decide +kernel), List.mem_of_getElem? (i := 1060) (by decide +kernel), List.mem_of_getElem? (i := 1061) (by decide +kernel)⟩
theorem lw_p52 : lw_okq (⟨"MarketTownModel", "goodIs", "(II)I"⟩, 21) := ⟨⟨by decide +kernel, by decide +kernel⟩, List.mem_of_getElem? (i := 844) (by decide +kernel), List.mem_of_getElem? (i := 1064) (by decide +kernel), List.mem_of_getElem? (i := 1065) (by decide +kernel)⟩
theorem lw_p53 : lw_okq (⟨"MarketTownModel", "act", "(II)V"⟩, 21) := ⟨⟨by decide +kernel, by decide +kernel⟩, List.mem_of_getElem? (i := 844) (by decide +kernel), List.mem_of_getElem? (i := 1068) (by decide +kernel), List.mem_of_getElem? (i := 1069) (by decide +kernel)⟩
theorem lw_p54 : lw_okq (⟨"MarketTownModel", "make", "(III)V"⟩, 21) := ⟨⟨by decide +kernel, by decide +kernel⟩, List.mem_of_getElem? (i := 844) (by decide +kernel), List.mem_of_getElem? (i := 1072) (by decide +kernel), List.mem_of_getElem? (i := 1073) (by decide +kernel)⟩
theorem lw_p55 : lw_okq (⟨"MarketTownModel", "freeOf", "(II)I"⟩, 21) := ⟨⟨by decide +kernel, by decide +kernel⟩, List.mem_of_getElem? (i := 844) (by decide +kernel), List.mem_of_getElem? (i := 1076) (by decide +kernel), List.mem_of_getElem? (i := 1077) (by decide +kernel)⟩
theorem lw_p56 : lw_okq (⟨"MarketTownModel", "go", "(IIII)V"⟩, 21) := ⟨⟨by decide +kernel, by decide +kernel⟩, List.mem_of_getElem? (i := 844) (by decide +kernel), List.mem_of_getElem? (i := 1083) (by decide +kernel), List.mem_of_getElem? (i := 1084) (by decide +kernel)⟩
theorem lw_p57 : lw_okq (⟨"MarketTownModel", "addGood", "(III)V"⟩, 21) := ⟨⟨by decide +kernel, by decide +kernel⟩, List.mem_of_getElem? (i := 844) (by decide +kernel), List.mem_of_getElem? (i := 1087) (by decide +kernel), List.mem_of_getElem? (i := 1088) (by decide +kernel)⟩
theorem lw_p58 : lw_okq (⟨"MarketTownModel", "offer", "(IIIIZ)V"⟩, 21) := ⟨⟨by decide +kernel, by decide +kernel⟩, List.mem_of_getElem? (i := 844) (by decide +kernel), List.mem_of_getElem? (i := 1091) (by decide +kernel), List.mem_of_getElem? (i := 1092) (by decide +kernel)⟩
theorem lw_p59 : lw_okq (⟨"MarketTownModel", "freeCash", "(I)I"⟩, 21) := ⟨⟨by decide +kernel, by decide +kernel⟩, List.mem_of_getElem? (i := 844) (by decide +kernel), List.mem_of_getElem? (i := 1095) (by decide +kernel), List.mem_of_getElem? (i := 1096) (by decide +kernel)⟩
theorem lw_p60 : lw_okq (⟨"MarketTownModel", "pays", "(IIII)V"⟩, 21) := ⟨⟨by decide +kernel, by decide +kernel⟩, List.mem_of_getElem? (i := 844) (by decide +kernel), List.mem_of_getElem? (i := 1099) (by decide +kernel), List.mem_of_getElem? (i := 1100) (by decide +kernel)⟩
theorem lw_p61 : lw_okq (⟨"MarketTownModel", "lend", "(IIII)V"⟩, 21) := ⟨⟨by decide +kernel, by decide +kernel⟩, List.mem_of_getElem? (i := 844) (by decide +kernel), List.mem_of_getElem? (i := 1103) (by decide +kernel), List.mem_of_getElem? (i := 1104) (by decide +kernel)⟩
theorem lw_p62 : lw_okq (⟨"MarketTownModel", "posted", "(I)V"⟩, 21) := ⟨⟨by decide +kernel, by decide +kernel⟩, List.mem_of_getElem? (i := 844) (by decide +kernel), List.mem_of_getElem? (i := 1107) (by decide +kernel), List.mem_of_getElem? (i := 1108) (by decide +kernel)⟩
theorem lw_p63 : lw_okq (⟨"MarketTownModel", "isOpen", "(IIZ)Z"⟩, 21) := ⟨⟨by decide +kernel, by decide +kernel⟩, List.mem_of_getElem? (i := 844) (by decide +kernel), List.mem_of_getElem? (i := 1111) (by decide +kernel), List.mem_of_getElem? (i := 1112) (by decide +kernel)⟩
def lw_privs_4 : List (MethodName × Nat) := [(⟨"MarketTownModel", "mayDo", "(II)Z"⟩, 21), (⟨"MarketTownModel", "isKind", "(II)Z"⟩, 21), (⟨"MarketTownModel", "kind", "(I)I"⟩, 21), (⟨"MarketTownModel", "cash", "(I)I"⟩, 21), (⟨"MarketTownModel", "goodIs", "(II)I"⟩, 21), (⟨"MarketTownModel", "act", "(II)V"⟩, 21), (⟨"MarketTownModel", "make", "(III)V"⟩, 21), (⟨"MarketTownModel", "freeOf", "(II)I"⟩, 21), (⟨"MarketTownModel", "go", "(IIII)V"⟩, 21), (⟨"MarketTownModel", "addGood", "(III)V"⟩, 21), (⟨"MarketTownModel", "offer", "(IIIIZ)V"⟩, 21), (⟨"MarketTownModel", "freeCash", "(I)I"⟩, 21), (⟨"MarketTownModel", "pays", "(IIII)V"⟩, 21), (⟨"MarketTownModel", "lend", "(IIII)V"⟩, 21), (⟨"MarketTownModel", "posted", "(I)V"⟩, 21), (⟨"MarketTownModel", "isOpen", "(IIZ)Z"⟩, 21)]
theorem lw_r4 : ∀ q ∈ lw_privs_4, lw_okq q := List.forall_mem_cons.mpr ⟨lw_p48, List.forall_mem_cons.mpr ⟨lw_p49, List.forall_mem_cons.mpr ⟨lw_p50, List.forall_mem_cons.mpr ⟨lw_p51, List.forall_mem_cons.mpr ⟨lw_p52, List.forall_mem_cons.mpr ⟨lw_p53, List.forall_mem_cons.mpr ⟨lw_p54, List.forall_mem_cons.mpr ⟨lw_p55, List.forall_mem_cons.mpr ⟨lw_p56, List.forall_mem_cons.mpr ⟨lw_p57, List.forall_mem_cons.mpr ⟨lw_p58, List.forall_mem_cons.mpr ⟨lw_p59, List.forall_mem_cons.mpr ⟨lw_p60, List.forall_mem_cons.mpr ⟨lw_p61, List.forall_mem_cons.mpr ⟨lw_p62, List.forall_mem_cons.mpr ⟨lw_p63, fun _ h => absurd h List.not_mem_nil⟩⟩⟩⟩⟩⟩⟩⟩⟩⟩⟩⟩⟩⟩⟩⟩
theorem lw_p64 : lw_okq (⟨"MarketTownModel", "lowestAsk", "(I)I"⟩, 21) := ⟨⟨by decide +kernel, by decide +kernel⟩, List.mem_of_getElem? (i := 844) (by decide +kernel), List.mem_of_getElem? (i := 1115) (by decide +kernel), List.mem_of_getElem? (i := 1116) (by decide +kernel)⟩
theorem lw_p65 : lw_okq (⟨"MarketTownModel", "sell", "(IIII)V"⟩, 21) := ⟨⟨by decide +kernel, by decide +kernel⟩, List.mem_of_getElem? (i := 844) (by decide +kernel), List.mem_of_getElem? (i := 1119) (by decide +kernel), List.mem_of_getElem? (i := 1120) (by decide +kernel)⟩
theorem lw_p66 : lw_okq (⟨"MarketTownModel", "council", "()I"⟩, 21) := ⟨⟨by decide +kernel, by decide +kernel⟩, List.mem_of_getElem? (i := 844) (by decide +kernel), List.mem_of_getElem? (i := 1123) (by decide +kernel), List.mem_of_getElem? (i := 1124) (by decide +kernel)⟩
theorem lw_p67 : lw_okq (⟨"MarketTownModel", "called", "(I)V"⟩, 21) := ⟨⟨by decide +kernel, by decide +kernel⟩, List.mem_of_getElem? (i := 844) (by decide +kernel), List.mem_of_getElem? (i := 1128) (by decide +kernel), List.mem_of_getElem? (i := 1129) (by decide +kernel)⟩
theorem lw_p68 : lw_okq (⟨"MarketTownModel", "movesAt", "(II)I"⟩, 21) := ⟨⟨by decide +kernel, by decide +kernel⟩, List.mem_of_getElem? (i := 844) (by decide +kernel), List.mem_of_getElem? (i := 1132) (by decide +kernel), List.mem_of_getElem? (i := 1133) (by decide +kernel)⟩
theorem lw_p69 : lw_okq (⟨"MarketTownModel", "highestBid", "(I)I"⟩, 21) := ⟨⟨by decide +kernel, by decide +kernel⟩, List.mem_of_getElem? (i := 844) (by decide +kernel), List.mem_of_getElem? (i := 1136) (by decide +kernel), List.mem_of_getElem? (i := 1137) (by decide +kernel)⟩
theorem lw_p70 : lw_okq (⟨"MarketTownModel", "haggled", "(I)V"⟩, 21) := ⟨⟨by decide +kernel, by decide +kernel⟩, List.mem_of_getElem? (i := 844) (by decide +kernel), List.mem_of_getElem? (i := 1140) (by decide +kernel), List.mem_of_getElem? (i := 1141) (by decide +kernel)⟩
theorem lw_p71 : lw_okq (⟨"MarketTownModel", "settle", "()V"⟩, 21) := ⟨⟨by decide +kernel, by decide +kernel⟩, List.mem_of_getElem? (i := 844) (by decide +kernel), List.mem_of_getElem? (i := 1144) (by decide +kernel), List.mem_of_getElem? (i := 1145) (by decide +kernel)⟩
theorem lw_p72 : lw_okq (⟨"MarketTownModel", "firstDue", "()I"⟩, 21) := ⟨⟨by decide +kernel, by decide +kernel⟩, List.mem_of_getElem? (i := 844) (by decide +kernel), List.mem_of_getElem? (i := 1148) (by decide +kernel), List.mem_of_getElem? (i := 1149) (by decide +kernel)⟩
theorem lw_p73 : lw_okq (⟨"MarketTownModel", "closeLoan", "(I)V"⟩, 21) := ⟨⟨by decide +kernel, by decide +kernel⟩, List.mem_of_getElem? (i := 844) (by decide +kernel), List.mem_of_getElem? (i := 1152) (by decide +kernel), List.mem_of_getElem? (i := 1153) (by decide +kernel)⟩
theorem lw_p74 : lw_okq (⟨"MarketTownModel", "breaks", "(I)V"⟩, 21) := ⟨⟨by decide +kernel, by decide +kernel⟩, List.mem_of_getElem? (i := 844) (by decide +kernel), List.mem_of_getElem? (i := 1156) (by decide +kernel), List.mem_of_getElem? (i := 1157) (by decide +kernel)⟩
theorem lw_p75 : lw_okq (⟨"MarketTownModel", "owes", "(I)I"⟩, 21) := ⟨⟨by decide +kernel, by decide +kernel⟩, List.mem_of_getElem? (i := 844) (by decide +kernel), List.mem_of_getElem? (i := 1160) (by decide +kernel), List.mem_of_getElem? (i := 1161) (by decide +kernel)⟩
theorem lw_p76 : lw_okq (⟨"MarketTownModel", "age", "(II)V"⟩, 21) := ⟨⟨by decide +kernel, by decide +kernel⟩, List.mem_of_getElem? (i := 844) (by decide +kernel), List.mem_of_getElem? (i := 1164) (by decide +kernel), List.mem_of_getElem? (i := 1165) (by decide +kernel)⟩
theorem lw_p77 : lw_okq (⟨"MarketTownModel", "owed", "(I)I"⟩, 21) := ⟨⟨by decide +kernel, by decide +kernel⟩, List.mem_of_getElem? (i := 844) (by decide +kernel), List.mem_of_getElem? (i := 1172) (by decide +kernel), List.mem_of_getElem? (i := 1173) (by decide +kernel)⟩
def lw_privs_5 : List (MethodName × Nat) := [(⟨"MarketTownModel", "lowestAsk", "(I)I"⟩, 21), (⟨"MarketTownModel", "sell", "(IIII)V"⟩, 21), (⟨"MarketTownModel", "council", "()I"⟩, 21), (⟨"MarketTownModel", "called", "(I)V"⟩, 21), (⟨"MarketTownModel", "movesAt", "(II)I"⟩, 21), (⟨"MarketTownModel", "highestBid", "(I)I"⟩, 21), (⟨"MarketTownModel", "haggled", "(I)V"⟩, 21), (⟨"MarketTownModel", "settle", "()V"⟩, 21), (⟨"MarketTownModel", "firstDue", "()I"⟩, 21), (⟨"MarketTownModel", "closeLoan", "(I)V"⟩, 21), (⟨"MarketTownModel", "breaks", "(I)V"⟩, 21), (⟨"MarketTownModel", "owes", "(I)I"⟩, 21), (⟨"MarketTownModel", "age", "(II)V"⟩, 21), (⟨"MarketTownModel", "owed", "(I)I"⟩, 21)]
theorem lw_r5 : ∀ q ∈ lw_privs_5, lw_okq q := List.forall_mem_cons.mpr ⟨lw_p64, List.forall_mem_cons.mpr ⟨lw_p65, List.forall_mem_cons.mpr ⟨lw_p66, List.forall_mem_cons.mpr ⟨lw_p67, List.forall_mem_cons.mpr ⟨lw_p68, List.forall_mem_cons.mpr ⟨lw_p69, List.forall_mem_cons.mpr ⟨lw_p70, List.forall_mem_cons.mpr ⟨lw_p71, List.forall_mem_cons.mpr ⟨lw_p72, List.forall_mem_cons.mpr ⟨lw_p73, List.forall_mem_cons.mpr ⟨lw_p74, List.forall_mem_cons.mpr ⟨lw_p75, List.forall_mem_cons.mpr ⟨lw_p76, List.forall_mem_cons.mpr ⟨lw_p77, fun _ h => absurd h List.not_mem_nil⟩⟩⟩⟩⟩⟩⟩⟩⟩⟩⟩⟩⟩⟩
def lw_privs : List (MethodName × Nat) := lw_privs_1 ++ (lw_privs_2 ++ (lw_privs_3 ++ (lw_privs_4 ++ (lw_privs_5))))
def lw_tbl : List Cond := k2_sels lw_privs ++ tables_1
theorem lw_privs_ok : ∀ q ∈ lw_privs, lw_okq q := by
  show ∀ q ∈ lw_privs_1 ++ (lw_privs_2 ++ (lw_privs_3 ++ (lw_privs_4 ++ (lw_privs_5)))), lw_okq q
  exact List.forall_mem_append.mpr ⟨lw_r1, List.forall_mem_append.mpr ⟨lw_r2, List.forall_mem_append.mpr ⟨lw_r3, List.forall_mem_append.mpr ⟨lw_r4, lw_r5⟩⟩⟩⟩
-- ===== end of PART A; then your names; then what follows =====
end
section
def TB : List Cond := lw_tbl.filter goodWord
theorem tb_at (i : Nat) {w : Cond} (h : lw_tbl[i]? = some w) (g : goodWord w = true) : w ∈ TB := List.mem_filter.mpr ⟨List.mem_of_getElem? h, g⟩
/-- MarketTown -/
def kT0 : u_T := fun k => match k with
  | 0 => ("MarketTown", "town", "LMarketTown$Town;", true)
  | 1 => ("MarketTown", "worlds", "[LMarketTown$Town;", true)
  | 2 => ("MarketTown", "laidAside", "[Z", true)
  | 3 => ("MarketTown", "tape", "LMarketTown$Tape;", true)
  | 4 => ("MarketTown", "reader", "LMarketTown$RuleReader;", true)
  | _ => ("MarketTown", "days", "LMarketTown$Day;", true)
def kY0 : Nat → FieldType := fun k => match k with
  | 0 => (.object "MarketTown$Town")
  | 1 => (.array (.object "MarketTown$Town"))
  | 2 => (.array .boolean)
  | 3 => (.object "MarketTown$Tape")
  | 4 => (.object "MarketTown$RuleReader")
  | _ => (.object "MarketTown$Day")
theorem kW0 : ∀ w ∈ u_ws "MarketTown" kT0 6, w ∈ TB := by
  intro w hw
  obtain ⟨k, hk, rfl⟩ := List.mem_map.mp hw
  have hk := List.mem_range.mp hk
  rcases (show k = 0 ∨ k = 1 ∨ k = 2 ∨ k = 3 ∨ k = 4 ∨ k = 5 by omega) with rfl | rfl | rfl | rfl | rfl | rfl
  · exact tb_at 347 (by decide +kernel) (by decide +kernel)
  · exact tb_at 349 (by decide +kernel) (by decide +kernel)
  · exact tb_at 351 (by decide +kernel) (by decide +kernel)
  · exact tb_at 353 (by decide +kernel) (by decide +kernel)
  · exact tb_at 355 (by decide +kernel) (by decide +kernel)
  · exact tb_at 357 (by decide +kernel) (by decide +kernel)
theorem kN0 : ∀ a, a < 6 → ∀ b, b < 6 → a ≠ b → (kT0 a).2.1 ≠ (kT0 b).2.1 := by decide +kernel
theorem kP0 : ∀ k, k < 6 → parseFieldDescriptor (kT0 k).2.2.1 = some (kY0 k) := by decide +kernel
theorem kD0 : ∀ k, k < 6 → (kT0 k).1 = "MarketTown" := by decide +kernel
/-- MarketTown$Day -/
def kT1 : u_T := fun k => match k with
  | 0 => ("MarketTown$Day", "order", "[I", true)
  | _ => ("MarketTown$Day", "market", "LMarketTown$Market;", true)
def kY1 : Nat → FieldType := fun k => match k with
  | 0 => (.array .int)
  | _ => (.object "MarketTown$Market")
theorem kW1 : ∀ w ∈ u_ws "MarketTown$Day" kT1 2, w ∈ TB := by
  intro w hw
  obtain ⟨k, hk, rfl⟩ := List.mem_map.mp hw
  have hk := List.mem_range.mp hk
  rcases (show k = 0 ∨ k = 1 by omega) with rfl | rfl
  · exact tb_at 336 (by decide +kernel) (by decide +kernel)
  · exact tb_at 338 (by decide +kernel) (by decide +kernel)
theorem kN1 : ∀ a, a < 2 → ∀ b, b < 2 → a ≠ b → (kT1 a).2.1 ≠ (kT1 b).2.1 := by decide +kernel
theorem kP1 : ∀ k, k < 2 → parseFieldDescriptor (kT1 k).2.2.1 = some (kY1 k) := by decide +kernel
theorem kD1 : ∀ k, k < 2 → (kT1 k).1 = "MarketTown$Day" := by decide +kernel
/-- MarketTown$Loans -/
def kT2 : u_T := fun k => match k with
  | 0 => ("MarketTown$Loans", "size", "I", false)
  | _ => ("MarketTown$Loans", "cells", "[I", true)
def kY2 : Nat → FieldType := fun k => match k with
  | 0 => .int
  | _ => (.array .int)
theorem kW2 : ∀ w ∈ u_ws "MarketTown$Loans" kT2 2, w ∈ TB := by
  intro w hw
  obtain ⟨k, hk, rfl⟩ := List.mem_map.mp hw
  have hk := List.mem_range.mp hk
  rcases (show k = 0 ∨ k = 1 by omega) with rfl | rfl
  · exact tb_at 159 (by decide +kernel) (by decide +kernel)
  · exact tb_at 161 (by decide +kernel) (by decide +kernel)
theorem kN2 : ∀ a, a < 2 → ∀ b, b < 2 → a ≠ b → (kT2 a).2.1 ≠ (kT2 b).2.1 := by decide +kernel
theorem kP2 : ∀ k, k < 2 → parseFieldDescriptor (kT2 k).2.2.1 = some (kY2 k) := by decide +kernel
theorem kD2 : ∀ k, k < 2 → (kT2 k).1 = "MarketTown$Loans" := by decide +kernel
/-- MarketTown$Market -/
def kT3 : u_T := fun k => match k with
  | 0 => ("MarketTown$Market", "asks", "LMarketTown$Offers;", true)
  | 1 => ("MarketTown$Market", "bids", "LMarketTown$Offers;", true)
  | 2 => ("MarketTown$Market", "offered", "[I", true)
  | 3 => ("MarketTown$Market", "held", "[I", true)
  | _ => ("MarketTown$Market", "council", "I", false)
def kY3 : Nat → FieldType := fun k => match k with
  | 0 => (.object "MarketTown$Offers")
  | 1 => (.object "MarketTown$Offers")
  | 2 => (.array .int)
  | 3 => (.array .int)
  | _ => .int
theorem kW3 : ∀ w ∈ u_ws "MarketTown$Market" kT3 5, w ∈ TB := by
  intro w hw
  obtain ⟨k, hk, rfl⟩ := List.mem_map.mp hw
  have hk := List.mem_range.mp hk
  rcases (show k = 0 ∨ k = 1 ∨ k = 2 ∨ k = 3 ∨ k = 4 by omega) with rfl | rfl | rfl | rfl | rfl
  · exact tb_at 323 (by decide +kernel) (by decide +kernel)
  · exact tb_at 325 (by decide +kernel) (by decide +kernel)
  · exact tb_at 327 (by decide +kernel) (by decide +kernel)
  · exact tb_at 329 (by decide +kernel) (by decide +kernel)
  · exact tb_at 331 (by decide +kernel) (by decide +kernel)
theorem kN3 : ∀ a, a < 5 → ∀ b, b < 5 → a ≠ b → (kT3 a).2.1 ≠ (kT3 b).2.1 := by decide +kernel
theorem kP3 : ∀ k, k < 5 → parseFieldDescriptor (kT3 k).2.2.1 = some (kY3 k) := by decide +kernel
theorem kD3 : ∀ k, k < 5 → (kT3 k).1 = "MarketTown$Market" := by decide +kernel
/-- MarketTown$Offers -/
def kT4 : u_T := fun k => match k with
  | 0 => ("MarketTown$Offers", "agent", "[I", true)
  | 1 => ("MarketTown$Offers", "price", "[I", true)
  | 2 => ("MarketTown$Offers", "left", "[I", true)
  | 3 => ("MarketTown$Offers", "picked", "[I", true)
  | 4 => ("MarketTown$Offers", "picks", "I", false)
  | 5 => ("MarketTown$Offers", "ware", "[I", true)
  | _ => ("MarketTown$Offers", "size", "I", false)
def kY4 : Nat → FieldType := fun k => match k with
  | 0 => (.array .int)
  | 1 => (.array .int)
  | 2 => (.array .int)
  | 3 => (.array .int)
  | 4 => .int
  | 5 => (.array .int)
  | _ => .int
theorem kW4 : ∀ w ∈ u_ws "MarketTown$Offers" kT4 7, w ∈ TB := by
  intro w hw
  obtain ⟨k, hk, rfl⟩ := List.mem_map.mp hw
  have hk := List.mem_range.mp hk
  rcases (show k = 0 ∨ k = 1 ∨ k = 2 ∨ k = 3 ∨ k = 4 ∨ k = 5 ∨ k = 6 by omega) with rfl | rfl | rfl | rfl | rfl | rfl | rfl
  · exact tb_at 303 (by decide +kernel) (by decide +kernel)
  · exact tb_at 305 (by decide +kernel) (by decide +kernel)
  · exact tb_at 307 (by decide +kernel) (by decide +kernel)
  · exact tb_at 309 (by decide +kernel) (by decide +kernel)
  · exact tb_at 311 (by decide +kernel) (by decide +kernel)
  · exact tb_at 313 (by decide +kernel) (by decide +kernel)
  · exact tb_at 315 (by decide +kernel) (by decide +kernel)
theorem kN4 : ∀ a, a < 7 → ∀ b, b < 7 → a ≠ b → (kT4 a).2.1 ≠ (kT4 b).2.1 := by decide +kernel
theorem kP4 : ∀ k, k < 7 → parseFieldDescriptor (kT4 k).2.2.1 = some (kY4 k) := by decide +kernel
theorem kD4 : ∀ k, k < 7 → (kT4 k).1 = "MarketTown$Offers" := by decide +kernel
/-- MarketTown$RuleReader -/
def kT5 : u_T := fun k => match k with
  | 0 => ("MarketTown$RuleReader", "row", "[I", true)
  | 1 => ("MarketTown$RuleReader", "start", "I", false)
  | _ => ("MarketTown$RuleReader", "end", "I", false)
def kY5 : Nat → FieldType := fun k => match k with
  | 0 => (.array .int)
  | 1 => .int
  | _ => .int
theorem kW5 : ∀ w ∈ u_ws "MarketTown$RuleReader" kT5 3, w ∈ TB := by
  intro w hw
  obtain ⟨k, hk, rfl⟩ := List.mem_map.mp hw
  have hk := List.mem_range.mp hk
  rcases (show k = 0 ∨ k = 1 ∨ k = 2 by omega) with rfl | rfl | rfl
  · exact tb_at 266 (by decide +kernel) (by decide +kernel)
  · exact tb_at 268 (by decide +kernel) (by decide +kernel)
  · exact tb_at 270 (by decide +kernel) (by decide +kernel)
theorem kN5 : ∀ a, a < 3 → ∀ b, b < 3 → a ≠ b → (kT5 a).2.1 ≠ (kT5 b).2.1 := by decide +kernel
theorem kP5 : ∀ k, k < 3 → parseFieldDescriptor (kT5 k).2.2.1 = some (kY5 k) := by decide +kernel
theorem kD5 : ∀ k, k < 3 → (kT5 k).1 = "MarketTown$RuleReader" := by decide +kernel
/-- MarketTown$Rules -/
def kT6 : u_T := fun k => match k with
  | 0 => ("MarketTown$Rules", "size", "[I", true)
  | _ => ("MarketTown$Rules", "cells", "[I", true)
def kY6 : Nat → FieldType := fun k => match k with
  | 0 => (.array .int)
  | _ => (.array .int)
theorem kW6 : ∀ w ∈ u_ws "MarketTown$Rules" kT6 2, w ∈ TB := by
  intro w hw
  obtain ⟨k, hk, rfl⟩ := List.mem_map.mp hw
  have hk := List.mem_range.mp hk
  rcases (show k = 0 ∨ k = 1 by omega) with rfl | rfl
  · exact tb_at 145 (by decide +kernel) (by decide +kernel)
  · exact tb_at 147 (by decide +kernel) (by decide +kernel)
theorem kN6 : ∀ a, a < 2 → ∀ b, b < 2 → a ≠ b → (kT6 a).2.1 ≠ (kT6 b).2.1 := by decide +kernel
theorem kP6 : ∀ k, k < 2 → parseFieldDescriptor (kT6 k).2.2.1 = some (kY6 k) := by decide +kernel
theorem kD6 : ∀ k, k < 2 → (kT6 k).1 = "MarketTown$Rules" := by decide +kernel
/-- MarketTown$Stock -/
def kT7 : u_T := fun k => match k with
  | 0 => ("MarketTown$Stock", "pieces", "[I", true)
  | _ => ("MarketTown$Stock", "sums", "[I", true)
def kY7 : Nat → FieldType := fun k => match k with
  | 0 => (.array .int)
  | _ => (.array .int)
theorem kW7 : ∀ w ∈ u_ws "MarketTown$Stock" kT7 2, w ∈ TB := by
  intro w hw
  obtain ⟨k, hk, rfl⟩ := List.mem_map.mp hw
  have hk := List.mem_range.mp hk
  rcases (show k = 0 ∨ k = 1 by omega) with rfl | rfl
  · exact tb_at 119 (by decide +kernel) (by decide +kernel)
  · exact tb_at 121 (by decide +kernel) (by decide +kernel)
theorem kN7 : ∀ a, a < 2 → ∀ b, b < 2 → a ≠ b → (kT7 a).2.1 ≠ (kT7 b).2.1 := by decide +kernel
theorem kP7 : ∀ k, k < 2 → parseFieldDescriptor (kT7 k).2.2.1 = some (kY7 k) := by decide +kernel
theorem kD7 : ∀ k, k < 2 → (kT7 k).1 = "MarketTown$Stock" := by decide +kernel
/-- MarketTown$Tape -/
def kT8 : u_T := fun k => match k with
  | 0 => ("MarketTown$Tape", "length", "I", false)
  | _ => ("MarketTown$Tape", "bytes", "[I", true)
def kY8 : Nat → FieldType := fun k => match k with
  | 0 => .int
  | _ => (.array .int)
theorem kW8 : ∀ w ∈ u_ws "MarketTown$Tape" kT8 2, w ∈ TB := by
  intro w hw
  obtain ⟨k, hk, rfl⟩ := List.mem_map.mp hw
  have hk := List.mem_range.mp hk
  rcases (show k = 0 ∨ k = 1 by omega) with rfl | rfl
  · exact tb_at 249 (by decide +kernel) (by decide +kernel)
  · exact tb_at 251 (by decide +kernel) (by decide +kernel)
theorem kN8 : ∀ a, a < 2 → ∀ b, b < 2 → a ≠ b → (kT8 a).2.1 ≠ (kT8 b).2.1 := by decide +kernel
theorem kP8 : ∀ k, k < 2 → parseFieldDescriptor (kT8 k).2.2.1 = some (kY8 k) := by decide +kernel
theorem kD8 : ∀ k, k < 2 → (kT8 k).1 = "MarketTown$Tape" := by decide +kernel
/-- MarketTown$Town -/
def kT9 : u_T := fun k => match k with
  | 0 => ("MarketTown$Town", "agents", "I", false)
  | 1 => ("MarketTown$Town", "day", "I", false)
  | 2 => ("MarketTown$Town", "lots", "I", false)
  | 3 => ("MarketTown$Town", "tax", "I", false)
  | 4 => ("MarketTown$Town", "interest", "I", false)
  | 5 => ("MarketTown$Town", "kind", "[I", true)
  | 6 => ("MarketTown$Town", "cash", "[I", true)
  | 7 => ("MarketTown$Town", "broke", "[I", true)
  | 8 => ("MarketTown$Town", "place", "[I", true)
  | 9 => ("MarketTown$Town", "payments", "[I", true)
  | 10 => ("MarketTown$Town", "stock", "LMarketTown$Stock;", true)
  | 11 => ("MarketTown$Town", "wares", "LMarketTown$Wares;", true)
  | 12 => ("MarketTown$Town", "rules", "LMarketTown$Rules;", true)
  | _ => ("MarketTown$Town", "loans", "LMarketTown$Loans;", true)
def kY9 : Nat → FieldType := fun k => match k with
  | 0 => .int
  | 1 => .int
  | 2 => .int
  | 3 => .int
  | 4 => .int
  | 5 => (.array .int)
  | 6 => (.array .int)
  | 7 => (.array .int)
  | 8 => (.array .int)
  | 9 => (.array .int)
  | 10 => (.object "MarketTown$Stock")
  | 11 => (.object "MarketTown$Wares")
  | 12 => (.object "MarketTown$Rules")
  | _ => (.object "MarketTown$Loans")
theorem kW9 : ∀ w ∈ u_ws "MarketTown$Town" kT9 14, w ∈ TB := by
  intro w hw
  obtain ⟨k, hk, rfl⟩ := List.mem_map.mp hw
  have hk := List.mem_range.mp hk
  rcases (show k = 0 ∨ k = 1 ∨ k = 2 ∨ k = 3 ∨ k = 4 ∨ k = 5 ∨ k = 6 ∨ k = 7 ∨ k = 8 ∨ k = 9 ∨ k = 10 ∨ k = 11 ∨ k = 12 ∨ k = 13 by omega) with rfl | rfl | rfl | rfl | rfl | rfl | rfl | rfl | rfl | rfl | rfl | rfl | rfl | rfl
  · exact tb_at 210 (by decide +kernel) (by decide +kernel)
  · exact tb_at 212 (by decide +kernel) (by decide +kernel)
  · exact tb_at 214 (by decide +kernel) (by decide +kernel)
  · exact tb_at 216 (by decide +kernel) (by decide +kernel)
  · exact tb_at 218 (by decide +kernel) (by decide +kernel)
  · exact tb_at 220 (by decide +kernel) (by decide +kernel)
  · exact tb_at 222 (by decide +kernel) (by decide +kernel)
  · exact tb_at 224 (by decide +kernel) (by decide +kernel)
  · exact tb_at 226 (by decide +kernel) (by decide +kernel)
  · exact tb_at 228 (by decide +kernel) (by decide +kernel)
  · exact tb_at 230 (by decide +kernel) (by decide +kernel)
  · exact tb_at 232 (by decide +kernel) (by decide +kernel)
  · exact tb_at 234 (by decide +kernel) (by decide +kernel)
  · exact tb_at 236 (by decide +kernel) (by decide +kernel)
theorem kN9 : ∀ a, a < 14 → ∀ b, b < 14 → a ≠ b → (kT9 a).2.1 ≠ (kT9 b).2.1 := by decide +kernel
theorem kP9 : ∀ k, k < 14 → parseFieldDescriptor (kT9 k).2.2.1 = some (kY9 k) := by decide +kernel
theorem kD9 : ∀ k, k < 14 → (kT9 k).1 = "MarketTown$Town" := by decide +kernel
/-- MarketTown$Wares -/
def kT10 : u_T := fun k => match k with
  | _ => ("MarketTown$Wares", "cells", "[I", true)
def kY10 : Nat → FieldType := fun k => match k with
  | _ => (.array .int)
theorem kW10 : ∀ w ∈ u_ws "MarketTown$Wares" kT10 1, w ∈ TB := by
  intro w hw
  obtain ⟨k, hk, rfl⟩ := List.mem_map.mp hw
  have hk := List.mem_range.mp hk
  rcases (show k = 0 by omega) with rfl
  · exact tb_at 132 (by decide +kernel) (by decide +kernel)
theorem kN10 : ∀ a, a < 1 → ∀ b, b < 1 → a ≠ b → (kT10 a).2.1 ≠ (kT10 b).2.1 := by decide +kernel
theorem kP10 : ∀ k, k < 1 → parseFieldDescriptor (kT10 k).2.2.1 = some (kY10 k) := by decide +kernel
theorem kD10 : ∀ k, k < 1 → (kT10 k).1 = "MarketTown$Wares" := by decide +kernel
/-- MarketTownModel -/
def kT11 : u_T := fun k => match k with
  | 0 => ("MarketTownModel", "s", "[I", true)
  | 1 => ("MarketTownModel", "worlds", "[I", true)
  | 2 => ("MarketTownModel", "isWorld", "[Z", true)
  | 3 => ("MarketTownModel", "tape", "[I", true)
  | 4 => ("MarketTownModel", "taped", "I", false)
  | 5 => ("MarketTownModel", "who", "[I", true)
  | 6 => ("MarketTownModel", "what", "[I", true)
  | 7 => ("MarketTownModel", "told", "[I", true)
  | 8 => ("MarketTownModel", "price", "[I", true)
  | 9 => ("MarketTownModel", "isBid", "[Z", true)
  | 10 => ("MarketTownModel", "left", "[I", true)
  | 11 => ("MarketTownModel", "offers", "I", false)
  | 12 => ("MarketTownModel", "length", "I", false)
  | 13 => ("MarketTownModel", "at", "I", false)
  | 14 => ("MarketTownModel", "from", "I", false)
  | 15 => ("MarketTownModel", "to", "I", false)
  | 16 => ("MarketTownModel", "fault", "I", false)
  | 17 => ("MarketTownModel", "row", "[I", true)
  | 18 => ("MarketTownModel", "order", "[I", true)
  | 19 => ("MarketTownModel", "moving", "[I", true)
  | _ => ("MarketTownModel", "shares", "[I", true)
def kY11 : Nat → FieldType := fun k => match k with
  | 0 => (.array .int)
  | 1 => (.array .int)
  | 2 => (.array .boolean)
  | 3 => (.array .int)
  | 4 => .int
  | 5 => (.array .int)
  | 6 => (.array .int)
  | 7 => (.array .int)
  | 8 => (.array .int)
  | 9 => (.array .boolean)
  | 10 => (.array .int)
  | 11 => .int
  | 12 => .int
  | 13 => .int
  | 14 => .int
  | 15 => .int
  | 16 => .int
  | 17 => (.array .int)
  | 18 => (.array .int)
  | 19 => (.array .int)
  | _ => (.array .int)
theorem kW11 : ∀ w ∈ u_ws "MarketTownModel" kT11 21, w ∈ TB := by
  intro w hw
  obtain ⟨k, hk, rfl⟩ := List.mem_map.mp hw
  have hk := List.mem_range.mp hk
  rcases (show k = 0 ∨ k = 1 ∨ k = 2 ∨ k = 3 ∨ k = 4 ∨ k = 5 ∨ k = 6 ∨ k = 7 ∨ k = 8 ∨ k = 9 ∨ k = 10 ∨ k = 11 ∨ k = 12 ∨ k = 13 ∨ k = 14 ∨ k = 15 ∨ k = 16 ∨ k = 17 ∨ k = 18 ∨ k = 19 ∨ k = 20 by omega) with rfl | rfl | rfl | rfl | rfl | rfl | rfl | rfl | rfl | rfl | rfl | rfl | rfl | rfl | rfl | rfl | rfl | rfl | rfl | rfl | rfl
  · exact tb_at 948 (by decide +kernel) (by decide +kernel)
  · exact tb_at 950 (by decide +kernel) (by decide +kernel)
  · exact tb_at 952 (by decide +kernel) (by decide +kernel)
  · exact tb_at 954 (by decide +kernel) (by decide +kernel)
  · exact tb_at 956 (by decide +kernel) (by decide +kernel)
  · exact tb_at 958 (by decide +kernel) (by decide +kernel)
  · exact tb_at 960 (by decide +kernel) (by decide +kernel)
  · exact tb_at 962 (by decide +kernel) (by decide +kernel)
  · exact tb_at 964 (by decide +kernel) (by decide +kernel)
  · exact tb_at 966 (by decide +kernel) (by decide +kernel)
  · exact tb_at 968 (by decide +kernel) (by decide +kernel)
  · exact tb_at 970 (by decide +kernel) (by decide +kernel)
  · exact tb_at 972 (by decide +kernel) (by decide +kernel)
  · exact tb_at 974 (by decide +kernel) (by decide +kernel)
  · exact tb_at 976 (by decide +kernel) (by decide +kernel)
  · exact tb_at 978 (by decide +kernel) (by decide +kernel)
  · exact tb_at 980 (by decide +kernel) (by decide +kernel)
  · exact tb_at 982 (by decide +kernel) (by decide +kernel)
  · exact tb_at 984 (by decide +kernel) (by decide +kernel)
  · exact tb_at 986 (by decide +kernel) (by decide +kernel)
  · exact tb_at 988 (by decide +kernel) (by decide +kernel)
theorem kN11 : ∀ a, a < 21 → ∀ b, b < 21 → a ≠ b → (kT11 a).2.1 ≠ (kT11 b).2.1 := by decide +kernel
theorem kP11 : ∀ k, k < 21 → parseFieldDescriptor (kT11 k).2.2.1 = some (kY11 k) := by decide +kernel
theorem kD11 : ∀ k, k < 21 → (kT11 k).1 = "MarketTownModel" := by decide +kernel
abbrev kCls : List vw_C := [("MarketTown", kT0, 6), ("MarketTown$Day", kT1, 2), ("MarketTown$Loans", kT2, 2), ("MarketTown$Market", kT3, 5), ("MarketTown$Offers", kT4, 7), ("MarketTown$RuleReader", kT5, 3), ("MarketTown$Rules", kT6, 2), ("MarketTown$Stock", kT7, 2), ("MarketTown$Tape", kT8, 2), ("MarketTown$Town", kT9, 14), ("MarketTown$Wares", kT10, 1), ("MarketTownModel", kT11, 21)]
def kTy : Nat → Nat → FieldType := fun c => match c with
  | 0 => kY0
  | 1 => kY1
  | 2 => kY2
  | 3 => kY3
  | 4 => kY4
  | 5 => kY5
  | 6 => kY6
  | 7 => kY7
  | 8 => kY8
  | 9 => kY9
  | 10 => kY10
  | _ => kY11
def kFty (t : FieldType) : Bool := match t with
  | .object _ => true
  | .array _ => true
  | _ => false
def kRf (c k : Nat) : Bool := kFty (kTy c k)
theorem kOk {ci N : Nat} {C : String} {T : u_T} (h : kCls[ci]? = some (C, T, N)) : (∀ w ∈ u_ws C T N, w ∈ TB) ∧ (∀ a, a < N → ∀ b, b < N → a ≠ b → (T a).2.1 ≠ (T b).2.1) ∧ (∀ k, k < N → parseFieldDescriptor (T k).2.2.1 = some (kTy ci k)) ∧ (∀ k, k < N → (T k).1 = C) := by
  match ci, h with
  | 0, h => cases h; exact ⟨kW0, kN0, kP0, kD0⟩
  | 1, h => cases h; exact ⟨kW1, kN1, kP1, kD1⟩
  | 2, h => cases h; exact ⟨kW2, kN2, kP2, kD2⟩
  | 3, h => cases h; exact ⟨kW3, kN3, kP3, kD3⟩
  | 4, h => cases h; exact ⟨kW4, kN4, kP4, kD4⟩
  | 5, h => cases h; exact ⟨kW5, kN5, kP5, kD5⟩
  | 6, h => cases h; exact ⟨kW6, kN6, kP6, kD6⟩
  | 7, h => cases h; exact ⟨kW7, kN7, kP7, kD7⟩
  | 8, h => cases h; exact ⟨kW8, kN8, kP8, kD8⟩
  | 9, h => cases h; exact ⟨kW9, kN9, kP9, kD9⟩
  | 10, h => cases h; exact ⟨kW10, kN10, kP10, kD10⟩
  | 11, h => cases h; exact ⟨kW11, kN11, kP11, kD11⟩
  | n + 12, h => simp [kCls] at h
def kNest : List (String × Nat × MethodName × String) := [("MarketTown", 9, ⟨"MarketTown$Town", "<init>", "()V"⟩, "MarketTown"), ("MarketTown$Town", 33, ⟨"MarketTown$Stock", "<init>", "()V"⟩, "MarketTown"), ("MarketTown$Town", 47, ⟨"MarketTown$Rules", "<init>", "()V"⟩, "MarketTown"), ("MarketTown$Town", 54, ⟨"MarketTown$Loans", "<init>", "()V"⟩, "MarketTown"), ("MarketTown", 26, ⟨"MarketTown$Tape", "<init>", "()V"⟩, "MarketTown"), ("MarketTown", 33, ⟨"MarketTown$RuleReader", "<init>", "()V"⟩, "MarketTown"), ("MarketTown", 40, ⟨"MarketTown$Day", "<init>", "()V"⟩, "MarketTown"), ("MarketTown$Day", 17, ⟨"MarketTown$Market", "<init>", "()V"⟩, "MarketTown"), ("MarketTown$Market", 11, ⟨"MarketTown$Offers", "<init>", "()V"⟩, "MarketTown"), ("MarketTown$Town", 62, ⟨"MarketTown", "isWithin", "(III)Z"⟩, "MarketTown"), ("MarketTown$RuleReader", 105, ⟨"MarketTown", "isWithin", "(III)Z"⟩, "MarketTown")]
def kSix : List Nat := [28, 38, 79, 81, 83, 85, 75, 77, 90, 92, 94, 96, 98, 100]
def kStx : List String := ["every", "if", "cash", "have", "day", "price", ">", "<", "make", "eat", "ask", "bid", "pay", "lend"]
def kSln : List Nat := [5, 2, 4, 4, 3, 5, 1, 1, 4, 3, 3, 3, 3, 4]
def kSby : List (List Int32) := [[101, 118, 101, 114, 121], [105, 102], [99, 97, 115, 104], [104, 97, 118, 101], [100, 97, 121], [112, 114, 105, 99, 101], [62], [60], [109, 97, 107, 101], [101, 97, 116], [97, 115, 107], [98, 105, 100], [112, 97, 121], [108, 101, 110, 100]]
end
section
/-! THE LAYER: memory of a fixed shape and whole numbers, one judgement mj_R a method, a row an instruction. -/
/-- the shape of each cell (0 int[], 1 boolean[], 2 Town[], 3 + c an object of class c; its size; its references), and the whole numbers in it -/
abbrev mj_Mem : Type := List (Nat × Nat × (Nat → Option Nat)) × (Nat → Nat → Int32)
/-- a method: name, bytes, locals, result, frames and words of room -/
abbrev mj_M : Type := MethodName × ByteArray × Nat × Option FieldType × Nat × Nat
/-- what is fixed for a run: classes, array classes, the first cell's address, the Strings' and their bytes' addresses, a static -/
abbrev mj_E : Type := va_G × (Nat → ClassId) × Nat × (Nat → Nat) × (Nat → Nat) × Value
def mj_ad (E : mj_E) (i : Nat) : Value := if i < 1000000 then .ref (E.2.2.1 + i) else if i < 2000000 then .ref (E.2.2.2.1 (i - 1000000)) else if i < 3000000 then .ref (E.2.2.2.2.1 (i - 2000000)) else E.2.2.2.2.2
def mj_cv (E : mj_E) (v : Value) : Value := match v with
  | .ref i => mj_ad E i
  | .int x => .int x
  | .long x => .long x
  | v => v
def mj_cell (E : mj_E) (c : Nat × Nat × (Nat → Option Nat)) (f : Nat → Int32) : va_E := match c.1 with
  | 0 => .inl (E.2.1 0, c.2.1, .inl f)
  | 1 => .inl (E.2.1 1, c.2.1, .inl f)
  | 2 => .inl (E.2.1 2, c.2.1, .inr (.inr (.inr (.inr (fun j => (c.2.2 j).map (fun i => E.2.2.1 + i))))))
  | k + 3 => .inr (k, (List.range c.2.1).map (fun j => if kRf k j then va_rf ((c.2.2 j).map (fun i => E.2.2.1 + i)) else .int (f j)))
def mj_wl (E : mj_E) (mem : mj_Mem) : va_W := mem.1.mapIdx (fun i c => (E.2.2.1 + i, mj_cell E c (mem.2 i)))
def mj_H (E : mj_E) (mem : mj_Mem) (H : Heap) : Prop := va_P E.1 kCls (mj_wl E mem) H
def mj_A (E : mj_E) : Nat → Prop := fun q => E.2.2.1 ≤ q
def mj_sz (mem : mj_Mem) : Nat := (mem.1.map (fun c => c.2.1)).sum
def mj_wr (f : Nat → Nat → Int32) (b k : Nat) (x : Int32) : Nat → Nat → Int32 := fun i j => if i = b ∧ j = k then x else f i j
abbrev mj_tys (E : mj_E) : List (ClassId × FieldType) := [(E.2.1 0, .int), (E.2.1 1, .boolean), (E.2.1 2, .object "MarketTown$Town")]
/-- what holds of every state of the run -/
def mj_G (E : mj_E) (U : State) : Prop :=
  va_K E.1 kCls (mj_tys E) U ∧ (∀ q ∈ kNest, va_Nw (.methodLinkNest q.1 q.2.1 q.2.2.1 q.2.2.2) U) ∧
  (∀ i : Nat, i < 14 → vk_R "MarketTown$RuleReader" (kSix.getD i 0) (kStx.getD i "") (E.2.2.2.1 i) U) ∧ vk_S 14 kSln kSby E.2.2.2.1 E.2.2.2.2.1 (mj_A E) U U.heap ∧
  va_Z "java/lang/String" "COMPACT_STRINGS" "Z" (.int 1) (mj_A E) U U.heap ∧ va_Z "jdk/internal/util/Preconditions" "SIOOBE_FORMATTER" "Ljava/util/function/BiFunction;" E.2.2.2.2.2 (mj_A E) U U.heap ∧ E.2.2.2.2.2.category = 1 ∧ va_AO "MarketTown$Town" U
theorem mj_G.moved {E : mj_E} {s U : State} {H : Heap} {locs : List Loc} (h : mj_G E s) (hW : s.WarmedH U.vm) (hU : U.heap = H) (hS : va_S (mj_A E) s.heap H locs) : mj_G E U := by
  obtain ⟨h1, h2, h3, h4, h5, h6, h7, h8⟩ := h
  subst hU
  exact ⟨va_K.moved hW.alike h1, fun q hq => va_Nw.warmM hW (h2 q hq), fun i hi => (h3 i hi).warm hW, (vk_S.moved hW.alike h4).kept hS.2.1, (va_Z.moved hW.alike h5).kept hS.2.1, (va_Z.moved hW.alike h6).kept hS.2.1, h7, h8.moved hW.alike⟩
theorem mj_G.same {E : mj_E} {s U : State} (h : mj_G E s) (hv : U.vm = s.vm) (hh : U.heap = s.heap) : mj_G E U := by
  obtain ⟨h1, h2, h3, h4, h5, h6, h7, h8⟩ := h
  have ha : s.vm.Alike U.vm := by rw [hv]; exact Vm.Alike.refl _
  exact ⟨va_K.moved ha h1, fun q hq => va_Nw.same rfl hv.symm (h2 q hq), fun i hi => (h3 i hi).same hv, by rw [hh]; exact vk_S.moved ha h4, by rw [hh]; exact va_Z.moved ha h5, by rw [hh]; exact va_Z.moved ha h6, h7, h8.moved ha⟩
def mj_L (E : mj_E) (ls : Array Slot) (n : Nat) (lv : List (Option Value)) : Prop := ls.size = n ∧ lv_wf ls ∧ ∀ (i : Nat) (v : Value), lv[i]? = some (some v) → ls[i]? = some (.val (mj_cv E v))
def mj_Cx (E : mj_E) (M : mj_M) (p : Program) (s : State) (m : MethodId) (args : Array Value) (meth : Method) (c : Code) (L0 : Nat) : Prop :=
  p.tables.exec = Jvm.exec ∧ c.code = M.2.1 ∧ c.maxLocals = M.2.2.1 ∧ s.vm.findClass M.1.cls = some m.cls ∧ (∀ w ∈ TB, w.before args s = true) ∧ meth.sig.returnType = M.2.2.2.1 ∧ meth.locks = false ∧ meth.name = M.1.name ∧ mj_G E s ∧ s.heap.size = E.2.2.1 + L0
def mj_Q (E : mj_E) (r : Option Value) (mem' : mj_Mem) : Array Value → State → Outcome → State → Prop := fun _ st oc t => oc = .returned (r.map (mj_cv E)) ∧ mj_H E mem' t.heap ∧ va_F (mj_A E) st t
/-- from this frame of method M, memory mem, the method comes to its end with the answer r and memory mem' -/
def mj_R (M : mj_M) (pc : Nat) (lv : List (Option Value)) (st : List Value) (mem : mj_Mem) (r : Option Value) (mem' : mj_Mem) : Prop :=
  (mem.1.length ≤ mem'.1.length ∧ mj_sz mem ≤ mj_sz mem') ∧
  ∀ (E : mj_E) (l : Launch) (p : Program) (e : Env) (s : State) (m : MethodId) (args : Array Value) (below : List Frame) (meth : Method) (c : Code) (L0 S0 : Nat), mj_Cx E M p s m args meth c L0 → L0 ≤ mem.1.length → S0 ≤ mj_sz mem →
    ∀ (H : Heap) (locs : List Loc) (ls : Array Slot), mj_H E mem H → va_S (mj_A E) s.heap H locs → mj_L E ls M.2.2.1 lv →
      W p l e { frames := M.2.2.2.2.1, cells := mem'.1.length - L0, slots := mj_sz mem' - S0, locals := M.2.2.2.2.2 } s m args below meth c H locs (mem.1.length - L0) (mj_sz mem - S0) (MQ below (mj_Q E r mem') args s (mem'.1.length - L0) (mj_sz mem' - S0) (mj_A E)) (F0 m pc ls (st.map (mj_cv E)))
theorem mj_adw {E : mj_E} {b : Nat} (h : b < 1000000) : mj_cv E (.ref b) = .ref (E.2.2.1 + b) := by
  show mj_ad E b = _
  unfold mj_ad
  rw [if_pos h]
theorem mj_adr {E : mj_E} {b : Nat} (h : b < 3000000) : ∃ a : Nat, mj_cv E (.ref b) = .ref a := by
  show ∃ a : Nat, mj_ad E b = .ref a
  unfold mj_ad
  by_cases h1 : b < 1000000
  · exact ⟨_, if_pos h1⟩
  · rw [if_neg h1]
    by_cases h2 : b < 2000000
    · exact ⟨_, if_pos h2⟩
    · exact ⟨_, by rw [if_neg h2, if_pos h]⟩
theorem mj_cat {E : mj_E} (hE : E.2.2.2.2.2.category = 1) (v : Value) : (mj_cv E v).category = v.category := by
  cases v <;> try rfl
  rename_i a
  show (mj_ad E a).category = 1
  unfold mj_ad
  split
  · rfl
  · split
    · rfl
    · split
      · rfl
      · exact hE
theorem mj_cats {E : mj_E} (hE : E.2.2.2.2.2.category = 1) (st : List Value) : ((st.map (mj_cv E)).map fun v => v.category).sum = (st.map fun v => v.category).sum := by
  rw [List.map_map]
  congr 1
  exact List.map_congr_left fun v _ => mj_cat hE v
theorem mj_wl_at (E : mj_E) (mem : mj_Mem) (i : Nat) : (mj_wl E mem)[i]? = (mem.1[i]?).map (fun c => (E.2.2.1 + i, mj_cell E c (mem.2 i))) := by
  unfold mj_wl
  rw [List.getElem?_mapIdx]
theorem mj_wl_get {E : mj_E} {mem : mj_Mem} {b : Nat} {c : Nat × Nat × (Nat → Option Nat)} (h : mem.1[b]? = some c) : (mj_wl E mem)[b]? = some (E.2.2.1 + b, mj_cell E c (mem.2 b)) := by
  rw [mj_wl_at, h]
  rfl
theorem mj_wl_inv {E : mj_E} {mem : mj_Mem} {b : Nat} {q : Nat × va_E} (h : (mj_wl E mem)[b]? = some q) : ∃ c, mem.1[b]? = some c ∧ q = (E.2.2.1 + b, mj_cell E c (mem.2 b)) := by
  rw [mj_wl_at] at h
  cases hc : mem.1[b]? with
  | none => rw [hc] at h; cases h
  | some c => rw [hc] at h; exact ⟨c, rfl, (Option.some.inj h).symm⟩
theorem mj_D (E : mj_E) (mem : mj_Mem) : va_D (mj_A E) (mj_wl E mem) := by
  refine ⟨fun i j p q hp hq hpq => ?_, fun k q hq => ?_⟩
  · obtain ⟨_, _, rfl⟩ := mj_wl_inv hp
    obtain ⟨_, _, rfl⟩ := mj_wl_inv hq
    have : E.2.2.1 + i = E.2.2.1 + j := hpq
    omega
  · obtain ⟨_, _, rfl⟩ := mj_wl_inv hq
    exact Nat.le_add_right _ _
theorem mj_wr_same (f : Nat → Nat → Int32) (b k : Nat) (x : Int32) : mj_wr f b k x b = upd (f b) k x := by
  funext j
  simp [mj_wr, upd]
theorem mj_wr_ne (f : Nat → Nat → Int32) {b k i : Nat} (x : Int32) (h : i ≠ b) : mj_wr f b k x i = f i := by
  funext j
  simp [mj_wr, h]
/-- the world behind a change of one cell's numbers -/
theorem mj_wl_set {E : mj_E} {mem : mj_Mem} {b : Nat} {c : Nat × Nat × (Nat → Option Nat)} {g : Nat → Nat → Int32} (h : mem.1[b]? = some c) (hg : ∀ i, i ≠ b → g i = mem.2 i) : (mj_wl E mem).set b (E.2.2.1 + b, mj_cell E c (g b)) = mj_wl E (mem.1, g) := by
  apply List.ext_getElem?
  intro i
  have hb : b < (mj_wl E mem).length := (List.getElem?_eq_some_iff.mp (mj_wl_get (E := E) h)).1
  by_cases hi : i = b
  · subst hi
    rw [List.getElem?_set_self hb, mj_wl_get (mem := (mem.1, g)) h]
  · rw [List.getElem?_set_ne (Ne.symm hi), mj_wl_at, mj_wl_at]
    show Option.map _ _ = Option.map (fun c => (E.2.2.1 + i, mj_cell E c (g i))) _
    rw [hg i hi]
/-- the world behind a change of one cell's references -/
theorem mj_wl_setr {E : mj_E} {mem : mj_Mem} {b : Nat} {c c' : Nat × Nat × (Nat → Option Nat)} (h : mem.1[b]? = some c) : (mj_wl E mem).set b (E.2.2.1 + b, mj_cell E c' (mem.2 b)) = mj_wl E (mem.1.set b c', mem.2) := by
  apply List.ext_getElem?
  intro i
  have hb : b < (mj_wl E mem).length := (List.getElem?_eq_some_iff.mp (mj_wl_get (E := E) h)).1
  have hb' : b < mem.1.length := (List.getElem?_eq_some_iff.mp h).1
  by_cases hi : i = b
  · subst hi
    rw [List.getElem?_set_self hb, mj_wl_at]
    show _ = Option.map _ ((mem.1.set i c')[i]?)
    rw [List.getElem?_set_self hb']
    rfl
  · rw [List.getElem?_set_ne (Ne.symm hi), mj_wl_at, mj_wl_at]
    show _ = Option.map _ ((mem.1.set b c')[i]?)
    rw [List.getElem?_set_ne (Ne.symm hi)]
theorem mj_wl_push {E : mj_E} {mem : mj_Mem} (c : Nat × Nat × (Nat → Option Nat)) : mj_wl E (mem.1 ++ [c], mem.2) = mj_wl E mem ++ [(E.2.2.1 + mem.1.length, mj_cell E c (mem.2 mem.1.length))] := by
  unfold mj_wl
  simp [List.mapIdx_append]
theorem mj_L.set {E : mj_E} {ls : Array Slot} {n : Nat} {lv : List (Option Value)} (h : mj_L E ls n lv) : ∃ l : List (Nat × Value), lv_has ls n l ∧ ∀ (i : Nat) (v : Value), lv[i]? = some (some v) → (i, mj_cv E v) ∈ l := by
  refine ⟨lv.zipIdx.filterMap (fun q => q.1.map (fun v => (q.2, mj_cv E v))), ⟨h.1, h.2.1, fun q hq => ?_⟩, fun i v hv => ?_⟩
  · obtain ⟨⟨o, i⟩, h1, h2⟩ := List.mem_filterMap.mp hq
    have h3 : lv[i]? = some o := List.mem_zipIdx_iff_getElem?.mp h1
    cases o with
    | none => cases h2
    | some v =>
      cases h2
      exact h.2.2 i v h3
  · exact List.mem_filterMap.mpr ⟨(some v, i), List.mem_zipIdx_iff_getElem?.mpr hv, rfl⟩
/-- a place that may be stored into: no long stands ahead of it -/
def mj_ok (lv : List (Option Value)) (i : Nat) : Bool := match i with
  | 0 => true
  | j + 1 => match lv[j]? with
    | some (some (.long _)) => false
    | some (some (.double _)) => false
    | _ => true
theorem mj_L.stored {E : mj_E} {ls' : Array Slot} {n i : Nat} {lv : List (Option Value)} {l : List (Nat × Value)} {v : Value} (hE : E.2.2.2.2.2.category = 1) (hl : ∀ (i : Nat) (v : Value), lv[i]? = some (some v) → (i, mj_cv E v) ∈ l) (hok : mj_ok lv i = true)
    (h : lv_has ls' n ((i, mj_cv E v) :: l.filter (fun q => !(q.1 == i) && !(q.1 + 1 == i && q.2.category == 2)))) : mj_L E ls' n (lv.set i (some v)) := by
  refine ⟨h.1, h.2.1, fun j w hw => ?_⟩
  by_cases hj : j = i
  · subst hj
    rw [List.getElem?_set] at hw
    simp at hw
    obtain ⟨_, hw⟩ := hw
    subst hw
    exact h.2.2 (j, mj_cv E v) List.mem_cons_self
  · rw [List.getElem?_set_ne (Ne.symm hj)] at hw
    refine h.2.2 (j, mj_cv E w) (List.mem_cons_of_mem _ (List.mem_filter.mpr ⟨hl j w hw, ?_⟩))
    have h2 : ¬ (j + 1 = i ∧ (mj_cv E w).category = 2) := by
      rintro ⟨rfl, hc⟩
      rw [mj_cat hE] at hc
      unfold mj_ok at hok
      dsimp only at hok
      rw [hw] at hok
      cases w <;> simp [Value.category] at hc hok
    have e2 : (!(j + 1 == i && (mj_cv E w).category == 2)) = true := by
      rw [Bool.not_eq_true', ← Bool.not_eq_true, Bool.and_eq_true, beq_iff_eq, beq_iff_eq]
      exact h2
    have e1 : (!(j == i)) = true := by
      rw [Bool.not_eq_true', beq_eq_false_iff_ne]
      exact hj
    show (!(j == i) && !(j + 1 == i && (mj_cv E w).category == 2)) = true
    rw [e1, e2]
    rfl
end
section
section MJ
variable {M : mj_M} {pc : Nat} {lv : List (Option Value)} {st : List Value} {mem mem' : mj_Mem} {r : Option Value}
theorem mj_iconst {n : Int} {v : Int32} (hd : decode M.2.1 pc = .ok (.iconst n, 1)) (hv : Int32.ofInt n = v)
    (k : mj_R M (pc + 1) lv (.int v :: st) mem r mem') : mj_R M pc lv (st) mem r mem' :=
  ⟨k.1, fun E l p e s m args below meth c L0 S0 C h1 h2 H locs ls hH hS hL => lv_iconst C.1 C.2.1 hd hv (k.2 E l p e s m args below meth c L0 S0 C h1 h2 H locs ls hH hS hL)⟩
theorem mj_bipush {n : Int} {v : Int32} (hd : decode M.2.1 pc = .ok (.bipush n, 2)) (hv : (Int8.ofInt n).toInt32 = v)
    (k : mj_R M (pc + 2) lv (.int v :: st) mem r mem') : mj_R M pc lv (st) mem r mem' :=
  ⟨k.1, fun E l p e s m args below meth c L0 S0 C h1 h2 H locs ls hH hS hL => lv_bipush C.1 C.2.1 hd hv (k.2 E l p e s m args below meth c L0 S0 C h1 h2 H locs ls hH hS hL)⟩
theorem mj_sipush {n : Int} {v : Int32} (hd : decode M.2.1 pc = .ok (.sipush n, 3)) (hv : (Int16.ofInt n).toInt32 = v)
    (k : mj_R M (pc + 3) lv (.int v :: st) mem r mem') : mj_R M pc lv (st) mem r mem' :=
  ⟨k.1, fun E l p e s m args below meth c L0 S0 C h1 h2 H locs ls hH hS hL => lv_sipush C.1 C.2.1 hd hv (k.2 E l p e s m args below meth c L0 S0 C h1 h2 H locs ls hH hS hL)⟩
theorem mj_lconst {n : Fin 2} {v : Int64} (hd : decode M.2.1 pc = .ok (.lconst n, 1)) (hv : Int64.ofNat (n : Nat) = v)
    (k : mj_R M (pc + 1) lv (.long v :: st) mem r mem') : mj_R M pc lv (st) mem r mem' :=
  ⟨k.1, fun E l p e s m args below meth c L0 S0 C h1 h2 H locs ls hH hS hL => lv_lconst C.1 C.2.1 hd hv (k.2 E l p e s m args below meth c L0 S0 C h1 h2 H locs ls hH hS hL)⟩
theorem mj_ldc {i : Nat} {v : Int32} (hd : decode M.2.1 pc = .ok (.ldc i, 2)) (hw : Cond.constant M.1.cls i v ∈ TB)
    (k : mj_R M (pc + 2) lv (.int v :: st) mem r mem') : mj_R M pc lv (st) mem r mem' :=
  ⟨k.1, fun E l p e s m args below meth c L0 S0 C h1 h2 H locs ls hH hS hL => lv_ldc C.1 C.2.1 C.2.2.2.1 (C.2.2.2.2.1 _ hw) hd (k.2 E l p e s m args below meth c L0 S0 C h1 h2 H locs ls hH hS hL)⟩
theorem mj_ldc2 {i : Nat} {v : Int64} (hd : decode M.2.1 pc = .ok (.ldc2_w i, 3)) (hw : Cond.constantLong M.1.cls i v ∈ TB)
    (k : mj_R M (pc + 3) lv (.long v :: st) mem r mem') : mj_R M pc lv (st) mem r mem' :=
  ⟨k.1, fun E l p e s m args below meth c L0 S0 C h1 h2 H locs ls hH hS hL => lv_ldc2 C.1 C.2.1 C.2.2.2.1 (C.2.2.2.2.1 _ hw) hd (k.2 E l p e s m args below meth c L0 S0 C h1 h2 H locs ls hH hS hL)⟩
theorem mj_iload_n {n : Fin 4} {i : Nat} {x : Int32} (hd : decode M.2.1 pc = .ok (.iload_n n, 1)) (hi : (n : Nat) = i) (hv : lv[i]? = some (some (.int x)))
    (k : mj_R M (pc + 1) lv (.int x :: st) mem r mem') : mj_R M pc lv (st) mem r mem' :=
  ⟨k.1, fun E l p e s m args below meth c L0 S0 C h1 h2 H locs ls hH hS hL => lv_iload_n C.1 C.2.1 hd hi (hL.2.2 _ _ hv) (k.2 E l p e s m args below meth c L0 S0 C h1 h2 H locs ls hH hS hL)⟩
theorem mj_iload {i : Nat} {x : Int32} (hd : decode M.2.1 pc = .ok (.iload i, 2)) (hv : lv[i]? = some (some (.int x)))
    (k : mj_R M (pc + 2) lv (.int x :: st) mem r mem') : mj_R M pc lv (st) mem r mem' :=
  ⟨k.1, fun E l p e s m args below meth c L0 S0 C h1 h2 H locs ls hH hS hL => lv_iload C.1 C.2.1 hd (hL.2.2 _ _ hv) (k.2 E l p e s m args below meth c L0 S0 C h1 h2 H locs ls hH hS hL)⟩
theorem mj_lload_n {n : Fin 4} {i : Nat} {x : Int64} (hd : decode M.2.1 pc = .ok (.lload_n n, 1)) (hi : (n : Nat) = i) (hv : lv[i]? = some (some (.long x)))
    (k : mj_R M (pc + 1) lv (.long x :: st) mem r mem') : mj_R M pc lv (st) mem r mem' :=
  ⟨k.1, fun E l p e s m args below meth c L0 S0 C h1 h2 H locs ls hH hS hL => lv_lload_n C.1 C.2.1 hd hi (hL.2.2 _ _ hv) (k.2 E l p e s m args below meth c L0 S0 C h1 h2 H locs ls hH hS hL)⟩
theorem mj_lload {i : Nat} {x : Int64} (hd : decode M.2.1 pc = .ok (.lload i, 2)) (hv : lv[i]? = some (some (.long x)))
    (k : mj_R M (pc + 2) lv (.long x :: st) mem r mem') : mj_R M pc lv (st) mem r mem' :=
  ⟨k.1, fun E l p e s m args below meth c L0 S0 C h1 h2 H locs ls hH hS hL => lv_lload C.1 C.2.1 hd (hL.2.2 _ _ hv) (k.2 E l p e s m args below meth c L0 S0 C h1 h2 H locs ls hH hS hL)⟩
theorem mj_aload_n {n : Fin 4} {i b : Nat} (hd : decode M.2.1 pc = .ok (.aload_n n, 1)) (hi : (n : Nat) = i) (hv : lv[i]? = some (some (.ref b))) (hb : b < 3000000)
    (k : mj_R M (pc + 1) lv (.ref b :: st) mem r mem') : mj_R M pc lv st mem r mem' :=
  ⟨k.1, fun E l p e s m args below meth c L0 S0 C h1 h2 H locs ls hH hS hL => by
    obtain ⟨a, ha⟩ := mj_adr (E := E) hb
    have hx := hL.2.2 _ _ hv
    have kk := (k.2 E l p e s m args below meth c L0 S0 C h1 h2 H locs ls hH hS hL)
    rw [List.map_cons, ha] at kk
    rw [ha] at hx
    exact lv_aload_n C.1 C.2.1 hd hi hx kk⟩
theorem mj_aload {i b : Nat} (hd : decode M.2.1 pc = .ok (.aload i, 2)) (hv : lv[i]? = some (some (.ref b))) (hb : b < 3000000)
    (k : mj_R M (pc + 2) lv (.ref b :: st) mem r mem') : mj_R M pc lv st mem r mem' :=
  ⟨k.1, fun E l p e s m args below meth c L0 S0 C h1 h2 H locs ls hH hS hL => by
    obtain ⟨a, ha⟩ := mj_adr (E := E) hb
    have hx := hL.2.2 _ _ hv
    have kk := (k.2 E l p e s m args below meth c L0 S0 C h1 h2 H locs ls hH hS hL)
    rw [List.map_cons, ha] at kk
    rw [ha] at hx
    exact lv_aload C.1 C.2.1 hd hx kk⟩
theorem mj_istore_n {n : Fin 4} {i : Nat} {x : Int32} (hd : decode M.2.1 pc = .ok (.istore_n n, 1)) (hi : (n : Nat) = i) (hok : mj_ok lv i = true) (hn : i < M.2.2.1)
    (k : mj_R M (pc + 1) (lv.set i (some (.int x))) st mem r mem') : mj_R M pc lv (.int x :: st) mem r mem' :=
  ⟨k.1, fun E l p e s m args below meth c L0 S0 C h1 h2 H locs ls hH hS hL => by
    obtain ⟨q, hq, hin⟩ := hL.set
    exact lv_istore_n C.1 C.2.1 hd hi hq hn rfl (fun ls' hl' => k.2 E l p e s m args below meth c L0 S0 C h1 h2 H locs ls' hH hS (mj_L.stored (v := .int x) C.2.2.2.2.2.2.2.2.1.2.2.2.2.2.2.1 hin hok hl'))⟩
theorem mj_istore {i : Nat} {x : Int32} (hd : decode M.2.1 pc = .ok (.istore i, 2)) (hok : mj_ok lv i = true) (hn : i < M.2.2.1)
    (k : mj_R M (pc + 2) (lv.set i (some (.int x))) st mem r mem') : mj_R M pc lv (.int x :: st) mem r mem' :=
  ⟨k.1, fun E l p e s m args below meth c L0 S0 C h1 h2 H locs ls hH hS hL => by
    obtain ⟨q, hq, hin⟩ := hL.set
    exact lv_istore C.1 C.2.1 hd hq hn rfl (fun ls' hl' => k.2 E l p e s m args below meth c L0 S0 C h1 h2 H locs ls' hH hS (mj_L.stored (v := .int x) C.2.2.2.2.2.2.2.2.1.2.2.2.2.2.2.1 hin hok hl'))⟩
theorem mj_iinc {i : Nat} {n : Int} {x v : Int32} (hd : decode M.2.1 pc = .ok (.iinc i n, 3)) (hv : lv[i]? = some (some (.int x))) (hx : x + Int32.ofInt n = v) (hok : mj_ok lv i = true) (hn : i < M.2.2.1)
    (k : mj_R M (pc + 3) (lv.set i (some (.int v))) st mem r mem') : mj_R M pc lv st mem r mem' :=
  ⟨k.1, fun E l p e s m args below meth c L0 S0 C h1 h2 H locs ls hH hS hL => by
    obtain ⟨q, hq, hin⟩ := hL.set
    obtain ⟨j, hj⟩ := List.getElem?_of_mem (hin _ _ hv)
    exact lv_iinc C.1 C.2.1 hd hq hj hx hn rfl (fun ls' hl' => k.2 E l p e s m args below meth c L0 S0 C h1 h2 H locs ls' hH hS (mj_L.stored (v := .int v) C.2.2.2.2.2.2.2.2.1.2.2.2.2.2.2.1 hin hok hl'))⟩
theorem mj_astore_n {n : Fin 4} {i b : Nat} (hd : decode M.2.1 pc = .ok (.astore_n n, 1)) (hi : (n : Nat) = i) (hb : b < 3000000) (hok : mj_ok lv i = true) (hn : i < M.2.2.1)
    (k : mj_R M (pc + 1) (lv.set i (some (.ref b))) st mem r mem') : mj_R M pc lv (.ref b :: st) mem r mem' :=
  ⟨k.1, fun E l p e s m args below meth c L0 S0 C h1 h2 H locs ls hH hS hL => by
    obtain ⟨q, hq, hin⟩ := hL.set
    obtain ⟨a, ha⟩ := mj_adr (E := E) hb
    rw [List.map_cons, ha]
    exact lv_astore_n C.1 C.2.1 hd hi hq hn rfl (fun ls' hl' => k.2 E l p e s m args below meth c L0 S0 C h1 h2 H locs ls' hH hS (mj_L.stored (v := .ref b) C.2.2.2.2.2.2.2.2.1.2.2.2.2.2.2.1 hin hok (by rw [ha]; exact hl')))⟩
theorem mj_iadd {x y : Int32} (hd : decode M.2.1 pc = .ok (.iadd, 1))
    (k : mj_R M (pc + 1) lv (.int (x + y) :: st) mem r mem') : mj_R M pc lv (.int y :: .int x :: st) mem r mem' :=
  ⟨k.1, fun E l p e s m args below meth c L0 S0 C h1 h2 H locs ls hH hS hL => lv_iadd C.1 C.2.1 hd (k.2 E l p e s m args below meth c L0 S0 C h1 h2 H locs ls hH hS hL)⟩
theorem mj_isub {x y : Int32} (hd : decode M.2.1 pc = .ok (.isub, 1))
    (k : mj_R M (pc + 1) lv (.int (x - y) :: st) mem r mem') : mj_R M pc lv (.int y :: .int x :: st) mem r mem' :=
  ⟨k.1, fun E l p e s m args below meth c L0 S0 C h1 h2 H locs ls hH hS hL => lv_isub C.1 C.2.1 hd (k.2 E l p e s m args below meth c L0 S0 C h1 h2 H locs ls hH hS hL)⟩
theorem mj_imul {x y : Int32} (hd : decode M.2.1 pc = .ok (.imul, 1))
    (k : mj_R M (pc + 1) lv (.int (x * y) :: st) mem r mem') : mj_R M pc lv (.int y :: .int x :: st) mem r mem' :=
  ⟨k.1, fun E l p e s m args below meth c L0 S0 C h1 h2 H locs ls hH hS hL => lv_imul C.1 C.2.1 hd (k.2 E l p e s m args below meth c L0 S0 C h1 h2 H locs ls hH hS hL)⟩
theorem mj_iand {x y : Int32} (hd : decode M.2.1 pc = .ok (.iand, 1))
    (k : mj_R M (pc + 1) lv (.int (x &&& y) :: st) mem r mem') : mj_R M pc lv (.int y :: .int x :: st) mem r mem' :=
  ⟨k.1, fun E l p e s m args below meth c L0 S0 C h1 h2 H locs ls hH hS hL => lv_iand C.1 C.2.1 hd (k.2 E l p e s m args below meth c L0 S0 C h1 h2 H locs ls hH hS hL)⟩
theorem mj_ishr {x y : Int32} (hd : decode M.2.1 pc = .ok (.ishr, 1))
    (k : mj_R M (pc + 1) lv (.int (x >>> (y &&& 31)) :: st) mem r mem') : mj_R M pc lv (.int y :: .int x :: st) mem r mem' :=
  ⟨k.1, fun E l p e s m args below meth c L0 S0 C h1 h2 H locs ls hH hS hL => lv_ishr C.1 C.2.1 hd (k.2 E l p e s m args below meth c L0 S0 C h1 h2 H locs ls hH hS hL)⟩
theorem mj_iushr {x y : Int32} (hd : decode M.2.1 pc = .ok (.iushr, 1))
    (k : mj_R M (pc + 1) lv (.int (x.toUInt32 >>> (y.toUInt32 &&& Int32.toUInt32 31)).toInt32 :: st) mem r mem') : mj_R M pc lv (.int y :: .int x :: st) mem r mem' :=
  ⟨k.1, fun E l p e s m args below meth c L0 S0 C h1 h2 H locs ls hH hS hL => lv_iushr C.1 C.2.1 hd rfl (k.2 E l p e s m args below meth c L0 S0 C h1 h2 H locs ls hH hS hL)⟩
theorem mj_idiv {x y : Int32} (hd : decode M.2.1 pc = .ok (.idiv, 1)) (hy : ¬ y = 0)
    (k : mj_R M (pc + 1) lv (.int (x / y) :: st) mem r mem') : mj_R M pc lv (.int y :: .int x :: st) mem r mem' :=
  ⟨k.1, fun E l p e s m args below meth c L0 S0 C h1 h2 H locs ls hH hS hL => lv_idiv C.1 C.2.1 hd hy (k.2 E l p e s m args below meth c L0 S0 C h1 h2 H locs ls hH hS hL)⟩
theorem mj_irem {x y : Int32} (hd : decode M.2.1 pc = .ok (.irem, 1)) (hy : ¬ y = 0)
    (k : mj_R M (pc + 1) lv (.int (x - x / y * y) :: st) mem r mem') : mj_R M pc lv (.int y :: .int x :: st) mem r mem' :=
  ⟨k.1, fun E l p e s m args below meth c L0 S0 C h1 h2 H locs ls hH hS hL => lv_irem C.1 C.2.1 hd hy (k.2 E l p e s m args below meth c L0 S0 C h1 h2 H locs ls hH hS hL)⟩
theorem mj_ladd {x y : Int64} (hd : decode M.2.1 pc = .ok (.ladd, 1))
    (k : mj_R M (pc + 1) lv (.long (x + y) :: st) mem r mem') : mj_R M pc lv (.long y :: .long x :: st) mem r mem' :=
  ⟨k.1, fun E l p e s m args below meth c L0 S0 C h1 h2 H locs ls hH hS hL => lv_ladd C.1 C.2.1 hd (k.2 E l p e s m args below meth c L0 S0 C h1 h2 H locs ls hH hS hL)⟩
theorem mj_lmul {x y : Int64} (hd : decode M.2.1 pc = .ok (.lmul, 1))
    (k : mj_R M (pc + 1) lv (.long (x * y) :: st) mem r mem') : mj_R M pc lv (.long y :: .long x :: st) mem r mem' :=
  ⟨k.1, fun E l p e s m args below meth c L0 S0 C h1 h2 H locs ls hH hS hL => lv_lmul C.1 C.2.1 hd (k.2 E l p e s m args below meth c L0 S0 C h1 h2 H locs ls hH hS hL)⟩
theorem mj_ldiv {x y : Int64} (hd : decode M.2.1 pc = .ok (.ldiv, 1)) (hy : ¬ y = 0)
    (k : mj_R M (pc + 1) lv (.long (x / y) :: st) mem r mem') : mj_R M pc lv (.long y :: .long x :: st) mem r mem' :=
  ⟨k.1, fun E l p e s m args below meth c L0 S0 C h1 h2 H locs ls hH hS hL => lv_ldiv C.1 C.2.1 hd hy (k.2 E l p e s m args below meth c L0 S0 C h1 h2 H locs ls hH hS hL)⟩
theorem mj_lrem {x y : Int64} (hd : decode M.2.1 pc = .ok (.lrem, 1)) (hy : ¬ y = 0)
    (k : mj_R M (pc + 1) lv (.long (x - x / y * y) :: st) mem r mem') : mj_R M pc lv (.long y :: .long x :: st) mem r mem' :=
  ⟨k.1, fun E l p e s m args below meth c L0 S0 C h1 h2 H locs ls hH hS hL => lv_lrem C.1 C.2.1 hd hy (k.2 E l p e s m args below meth c L0 S0 C h1 h2 H locs ls hH hS hL)⟩
theorem mj_lcmp {x y : Int64} (hd : decode M.2.1 pc = .ok (.lcmp, 1))
    (k : mj_R M (pc + 1) lv (.int (lg_cmp x y) :: st) mem r mem') : mj_R M pc lv (.long y :: .long x :: st) mem r mem' :=
  ⟨k.1, fun E l p e s m args below meth c L0 S0 C h1 h2 H locs ls hH hS hL => W.lcmp C.1 C.2.1 hd (k.2 E l p e s m args below meth c L0 S0 C h1 h2 H locs ls hH hS hL)⟩
theorem mj_i2l {x : Int32} (hd : decode M.2.1 pc = .ok (.i2l, 1))
    (k : mj_R M (pc + 1) lv (.long x.toInt64 :: st) mem r mem') : mj_R M pc lv (.int x :: st) mem r mem' :=
  ⟨k.1, fun E l p e s m args below meth c L0 S0 C h1 h2 H locs ls hH hS hL => lv_i2l C.1 C.2.1 hd rfl (k.2 E l p e s m args below meth c L0 S0 C h1 h2 H locs ls hH hS hL)⟩
theorem mj_l2i {x : Int64} (hd : decode M.2.1 pc = .ok (.l2i, 1))
    (k : mj_R M (pc + 1) lv (.int x.toInt32 :: st) mem r mem') : mj_R M pc lv (.long x :: st) mem r mem' :=
  ⟨k.1, fun E l p e s m args below meth c L0 S0 C h1 h2 H locs ls hH hS hL => lv_l2i C.1 C.2.1 hd rfl (k.2 E l p e s m args below meth c L0 S0 C h1 h2 H locs ls hH hS hL)⟩
theorem mj_i2c {x : Int32} (hd : decode M.2.1 pc = .ok (.i2c, 1))
    (k : mj_R M (pc + 1) lv (.int (x.toUInt32 % 65536).toInt32 :: st) mem r mem') : mj_R M pc lv (.int x :: st) mem r mem' :=
  ⟨k.1, fun E l p e s m args below meth c L0 S0 C h1 h2 H locs ls hH hS hL => lv_i2c C.1 C.2.1 hd rfl (k.2 E l p e s m args below meth c L0 S0 C h1 h2 H locs ls hH hS hL)⟩
theorem mj_popI {x : Int32} (hd : decode M.2.1 pc = .ok (.pop, 1))
    (k : mj_R M (pc + 1) lv (st) mem r mem') : mj_R M pc lv (.int x :: st) mem r mem' :=
  ⟨k.1, fun E l p e s m args below meth c L0 S0 C h1 h2 H locs ls hH hS hL => lv_pop C.1 C.2.1 hd rfl (k.2 E l p e s m args below meth c L0 S0 C h1 h2 H locs ls hH hS hL)⟩
theorem mj_dup {v : Value} (hd : decode M.2.1 pc = .ok (.dup, 1)) (hc : v.category = 1)
    (k : mj_R M (pc + 1) lv (v :: v :: st) mem r mem') : mj_R M pc lv (v :: st) mem r mem' :=
  ⟨k.1, fun E l p e s m args below meth c L0 S0 C h1 h2 H locs ls hH hS hL => lv_dup C.1 C.2.1 hd ((mj_cat C.2.2.2.2.2.2.2.2.1.2.2.2.2.2.2.1 v).trans hc) (k.2 E l p e s m args below meth c L0 S0 C h1 h2 H locs ls hH hS hL)⟩
theorem mj_dup2 {v w : Value} (hd : decode M.2.1 pc = .ok (.dup2, 1)) (hc : v.category = 1) (hc2 : w.category = 1)
    (k : mj_R M (pc + 1) lv (v :: w :: v :: w :: st) mem r mem') : mj_R M pc lv (v :: w :: st) mem r mem' :=
  ⟨k.1, fun E l p e s m args below meth c L0 S0 C h1 h2 H locs ls hH hS hL => lv_dup2_11 C.1 C.2.1 hd ((mj_cat C.2.2.2.2.2.2.2.2.1.2.2.2.2.2.2.1 v).trans hc) ((mj_cat C.2.2.2.2.2.2.2.2.1.2.2.2.2.2.2.1 w).trans hc2) (k.2 E l p e s m args below meth c L0 S0 C h1 h2 H locs ls hH hS hL)⟩
theorem mj_goto {off : Int} {tgt : Nat} (hd : decode M.2.1 pc = .ok (.goto off, 3)) (ht : (pc : Int) + off = (tgt : Int))
    (k : mj_R M tgt lv (st) mem r mem') : mj_R M pc lv (st) mem r mem' :=
  ⟨k.1, fun E l p e s m args below meth c L0 S0 C h1 h2 H locs ls hH hS hL => lv_goto C.1 C.2.1 hd ht (k.2 E l p e s m args below meth c L0 S0 C h1 h2 H locs ls hH hS hL)⟩
theorem mj_if_eq {x y : Int32} {off : Int} {tgt : Nat} (hd : decode M.2.1 pc = .ok (.ifCond .eq off, 3)) (ht : (pc : Int) + off = (tgt : Int)) (hs : mem.1.length ≤ mem'.1.length ∧ mj_sz mem ≤ mj_sz mem')
    (kt : x = 0 → mj_R M tgt lv st mem r mem') (kf : ¬ x = 0 → mj_R M (pc + 3) lv st mem r mem') : mj_R M pc lv (.int x :: st) mem r mem' :=
  ⟨hs, fun E l p e s m args below meth c L0 S0 C h1 h2 H locs ls hH hS hL => lv_if_eq C.1 C.2.1 hd ht (fun hc => (kt hc).2 E l p e s m args below meth c L0 S0 C h1 h2 H locs ls hH hS hL) (fun hc => (kf hc).2 E l p e s m args below meth c L0 S0 C h1 h2 H locs ls hH hS hL)⟩
theorem mj_icmp_eq {x y : Int32} {off : Int} {tgt : Nat} (hd : decode M.2.1 pc = .ok (.if_icmp .eq off, 3)) (ht : (pc : Int) + off = (tgt : Int)) (hs : mem.1.length ≤ mem'.1.length ∧ mj_sz mem ≤ mj_sz mem')
    (kt : x = y → mj_R M tgt lv st mem r mem') (kf : ¬ x = y → mj_R M (pc + 3) lv st mem r mem') : mj_R M pc lv (.int y :: .int x :: st) mem r mem' :=
  ⟨hs, fun E l p e s m args below meth c L0 S0 C h1 h2 H locs ls hH hS hL => lv_icmp_eq C.1 C.2.1 hd ht (fun hc => (kt hc).2 E l p e s m args below meth c L0 S0 C h1 h2 H locs ls hH hS hL) (fun hc => (kf hc).2 E l p e s m args below meth c L0 S0 C h1 h2 H locs ls hH hS hL)⟩
theorem mj_if_ne {x y : Int32} {off : Int} {tgt : Nat} (hd : decode M.2.1 pc = .ok (.ifCond .ne off, 3)) (ht : (pc : Int) + off = (tgt : Int)) (hs : mem.1.length ≤ mem'.1.length ∧ mj_sz mem ≤ mj_sz mem')
    (kt : ¬ x = 0 → mj_R M tgt lv st mem r mem') (kf : x = 0 → mj_R M (pc + 3) lv st mem r mem') : mj_R M pc lv (.int x :: st) mem r mem' :=
  ⟨hs, fun E l p e s m args below meth c L0 S0 C h1 h2 H locs ls hH hS hL => lv_if_ne C.1 C.2.1 hd ht (fun hc => (kt hc).2 E l p e s m args below meth c L0 S0 C h1 h2 H locs ls hH hS hL) (fun hc => (kf hc).2 E l p e s m args below meth c L0 S0 C h1 h2 H locs ls hH hS hL)⟩
theorem mj_icmp_ne {x y : Int32} {off : Int} {tgt : Nat} (hd : decode M.2.1 pc = .ok (.if_icmp .ne off, 3)) (ht : (pc : Int) + off = (tgt : Int)) (hs : mem.1.length ≤ mem'.1.length ∧ mj_sz mem ≤ mj_sz mem')
    (kt : ¬ x = y → mj_R M tgt lv st mem r mem') (kf : x = y → mj_R M (pc + 3) lv st mem r mem') : mj_R M pc lv (.int y :: .int x :: st) mem r mem' :=
  ⟨hs, fun E l p e s m args below meth c L0 S0 C h1 h2 H locs ls hH hS hL => lv_icmp_ne C.1 C.2.1 hd ht (fun hc => (kt hc).2 E l p e s m args below meth c L0 S0 C h1 h2 H locs ls hH hS hL) (fun hc => (kf hc).2 E l p e s m args below meth c L0 S0 C h1 h2 H locs ls hH hS hL)⟩
theorem mj_if_lt {x y : Int32} {off : Int} {tgt : Nat} (hd : decode M.2.1 pc = .ok (.ifCond .lt off, 3)) (ht : (pc : Int) + off = (tgt : Int)) (hs : mem.1.length ≤ mem'.1.length ∧ mj_sz mem ≤ mj_sz mem')
    (kt : x < 0 → mj_R M tgt lv st mem r mem') (kf : ¬ x < 0 → mj_R M (pc + 3) lv st mem r mem') : mj_R M pc lv (.int x :: st) mem r mem' :=
  ⟨hs, fun E l p e s m args below meth c L0 S0 C h1 h2 H locs ls hH hS hL => lv_if_lt C.1 C.2.1 hd ht (fun hc => (kt hc).2 E l p e s m args below meth c L0 S0 C h1 h2 H locs ls hH hS hL) (fun hc => (kf hc).2 E l p e s m args below meth c L0 S0 C h1 h2 H locs ls hH hS hL)⟩
theorem mj_icmp_lt {x y : Int32} {off : Int} {tgt : Nat} (hd : decode M.2.1 pc = .ok (.if_icmp .lt off, 3)) (ht : (pc : Int) + off = (tgt : Int)) (hs : mem.1.length ≤ mem'.1.length ∧ mj_sz mem ≤ mj_sz mem')
    (kt : x < y → mj_R M tgt lv st mem r mem') (kf : ¬ x < y → mj_R M (pc + 3) lv st mem r mem') : mj_R M pc lv (.int y :: .int x :: st) mem r mem' :=
  ⟨hs, fun E l p e s m args below meth c L0 S0 C h1 h2 H locs ls hH hS hL => lv_icmp_lt C.1 C.2.1 hd ht (fun hc => (kt hc).2 E l p e s m args below meth c L0 S0 C h1 h2 H locs ls hH hS hL) (fun hc => (kf hc).2 E l p e s m args below meth c L0 S0 C h1 h2 H locs ls hH hS hL)⟩
theorem mj_if_ge {x y : Int32} {off : Int} {tgt : Nat} (hd : decode M.2.1 pc = .ok (.ifCond .ge off, 3)) (ht : (pc : Int) + off = (tgt : Int)) (hs : mem.1.length ≤ mem'.1.length ∧ mj_sz mem ≤ mj_sz mem')
    (kt : 0 ≤ x → mj_R M tgt lv st mem r mem') (kf : ¬ 0 ≤ x → mj_R M (pc + 3) lv st mem r mem') : mj_R M pc lv (.int x :: st) mem r mem' :=
  ⟨hs, fun E l p e s m args below meth c L0 S0 C h1 h2 H locs ls hH hS hL => lv_if_ge C.1 C.2.1 hd ht (fun hc => (kt hc).2 E l p e s m args below meth c L0 S0 C h1 h2 H locs ls hH hS hL) (fun hc => (kf hc).2 E l p e s m args below meth c L0 S0 C h1 h2 H locs ls hH hS hL)⟩
theorem mj_icmp_ge {x y : Int32} {off : Int} {tgt : Nat} (hd : decode M.2.1 pc = .ok (.if_icmp .ge off, 3)) (ht : (pc : Int) + off = (tgt : Int)) (hs : mem.1.length ≤ mem'.1.length ∧ mj_sz mem ≤ mj_sz mem')
    (kt : y ≤ x → mj_R M tgt lv st mem r mem') (kf : ¬ y ≤ x → mj_R M (pc + 3) lv st mem r mem') : mj_R M pc lv (.int y :: .int x :: st) mem r mem' :=
  ⟨hs, fun E l p e s m args below meth c L0 S0 C h1 h2 H locs ls hH hS hL => lv_icmp_ge C.1 C.2.1 hd ht (fun hc => (kt hc).2 E l p e s m args below meth c L0 S0 C h1 h2 H locs ls hH hS hL) (fun hc => (kf hc).2 E l p e s m args below meth c L0 S0 C h1 h2 H locs ls hH hS hL)⟩
theorem mj_if_gt {x y : Int32} {off : Int} {tgt : Nat} (hd : decode M.2.1 pc = .ok (.ifCond .gt off, 3)) (ht : (pc : Int) + off = (tgt : Int)) (hs : mem.1.length ≤ mem'.1.length ∧ mj_sz mem ≤ mj_sz mem')
    (kt : 0 < x → mj_R M tgt lv st mem r mem') (kf : ¬ 0 < x → mj_R M (pc + 3) lv st mem r mem') : mj_R M pc lv (.int x :: st) mem r mem' :=
  ⟨hs, fun E l p e s m args below meth c L0 S0 C h1 h2 H locs ls hH hS hL => lv_if_gt C.1 C.2.1 hd ht (fun hc => (kt hc).2 E l p e s m args below meth c L0 S0 C h1 h2 H locs ls hH hS hL) (fun hc => (kf hc).2 E l p e s m args below meth c L0 S0 C h1 h2 H locs ls hH hS hL)⟩
theorem mj_icmp_gt {x y : Int32} {off : Int} {tgt : Nat} (hd : decode M.2.1 pc = .ok (.if_icmp .gt off, 3)) (ht : (pc : Int) + off = (tgt : Int)) (hs : mem.1.length ≤ mem'.1.length ∧ mj_sz mem ≤ mj_sz mem')
    (kt : y < x → mj_R M tgt lv st mem r mem') (kf : ¬ y < x → mj_R M (pc + 3) lv st mem r mem') : mj_R M pc lv (.int y :: .int x :: st) mem r mem' :=
  ⟨hs, fun E l p e s m args below meth c L0 S0 C h1 h2 H locs ls hH hS hL => lv_icmp_gt C.1 C.2.1 hd ht (fun hc => (kt hc).2 E l p e s m args below meth c L0 S0 C h1 h2 H locs ls hH hS hL) (fun hc => (kf hc).2 E l p e s m args below meth c L0 S0 C h1 h2 H locs ls hH hS hL)⟩
theorem mj_if_le {x y : Int32} {off : Int} {tgt : Nat} (hd : decode M.2.1 pc = .ok (.ifCond .le off, 3)) (ht : (pc : Int) + off = (tgt : Int)) (hs : mem.1.length ≤ mem'.1.length ∧ mj_sz mem ≤ mj_sz mem')
    (kt : x ≤ 0 → mj_R M tgt lv st mem r mem') (kf : ¬ x ≤ 0 → mj_R M (pc + 3) lv st mem r mem') : mj_R M pc lv (.int x :: st) mem r mem' :=
  ⟨hs, fun E l p e s m args below meth c L0 S0 C h1 h2 H locs ls hH hS hL => lv_if_le C.1 C.2.1 hd ht (fun hc => (kt hc).2 E l p e s m args below meth c L0 S0 C h1 h2 H locs ls hH hS hL) (fun hc => (kf hc).2 E l p e s m args below meth c L0 S0 C h1 h2 H locs ls hH hS hL)⟩
theorem mj_icmp_le {x y : Int32} {off : Int} {tgt : Nat} (hd : decode M.2.1 pc = .ok (.if_icmp .le off, 3)) (ht : (pc : Int) + off = (tgt : Int)) (hs : mem.1.length ≤ mem'.1.length ∧ mj_sz mem ≤ mj_sz mem')
    (kt : x ≤ y → mj_R M tgt lv st mem r mem') (kf : ¬ x ≤ y → mj_R M (pc + 3) lv st mem r mem') : mj_R M pc lv (.int y :: .int x :: st) mem r mem' :=
  ⟨hs, fun E l p e s m args below meth c L0 S0 C h1 h2 H locs ls hH hS hL => lv_icmp_le C.1 C.2.1 hd ht (fun hc => (kt hc).2 E l p e s m args below meth c L0 S0 C h1 h2 H locs ls hH hS hL) (fun hc => (kf hc).2 E l p e s m args below meth c L0 S0 C h1 h2 H locs ls hH hS hL)⟩
theorem mj_lookup {dflt : Int} {ps : Array (Int × Int)} {len : Nat} {x : Int32} {off : Int} {tgt : Nat} (hd : decode M.2.1 pc = .ok (.lookupswitch dflt ps, len)) (hp : (ps.toList.zip (ps.toList.drop 1)).all (fun (a, next) => a.1 < next.1) = true) (ho : Op.lookupswitch.offset ps.toList dflt x.toInt = off) (ht : (pc : Int) + off = (tgt : Int))
    (k : mj_R M tgt lv (st) mem r mem') : mj_R M pc lv (.int x :: st) mem r mem' :=
  ⟨k.1, fun E l p e s m args below meth c L0 S0 C h1 h2 H locs ls hH hS hL => lv_lookup C.1 C.2.1 hd hp ho ht (k.2 E l p e s m args below meth c L0 S0 C h1 h2 H locs ls hH hS hL)⟩
theorem mj_tableIn {dflt lo hi : Int} {offs : Array Int} {len : Nat} {x : Int32} {off : Int} {tgt : Nat} (hd : decode M.2.1 pc = .ok (.tableswitch dflt lo hi offs, len)) (hl : ¬ x.toInt < lo) (hh : ¬ hi < x.toInt) (ho : offs[(x.toInt - lo).toNat]? = some off) (ht : (pc : Int) + off = (tgt : Int))
    (k : mj_R M tgt lv (st) mem r mem') : mj_R M pc lv (.int x :: st) mem r mem' :=
  ⟨k.1, fun E l p e s m args below meth c L0 S0 C h1 h2 H locs ls hH hS hL => lv_tableIn C.1 C.2.1 hd hl hh ho ht (k.2 E l p e s m args below meth c L0 S0 C h1 h2 H locs ls hH hS hL)⟩
theorem mj_tableOut {dflt lo hi : Int} {offs : Array Int} {len : Nat} {x : Int32} {tgt : Nat} (hd : decode M.2.1 pc = .ok (.tableswitch dflt lo hi offs, len)) (hx : x.toInt < lo ∨ hi < x.toInt) (ht : (pc : Int) + dflt = (tgt : Int))
    (k : mj_R M tgt lv (st) mem r mem') : mj_R M pc lv (.int x :: st) mem r mem' :=
  ⟨k.1, fun E l p e s m args below meth c L0 S0 C h1 h2 H locs ls hH hS hL => lv_tableOut C.1 C.2.1 hd hx ht (k.2 E l p e s m args below meth c L0 S0 C h1 h2 H locs ls hH hS hL)⟩
end MJ
end
section
section MJH
variable {M : mj_M} {pc : Nat} {lv : List (Option Value)} {st : List Value} {mem mem' : mj_Mem} {r : Option Value}
/-- the heap's size, by the room's own count -/
theorem mj_size {E : mj_E} {p : Program} {l : Launch} {e : Env} {R : Room} {s : State} {m : MethodId} {args : Array Value} {below : List Frame} {meth : Method} {c : Code} {H : Heap} {locs : List Loc} {slots L0 : Nat} {Q : State → Prop} {g : JFrame} (hH : mj_H E mem H) (hs : s.heap.size = E.2.2.1 + L0) (h1 : L0 ≤ mem.1.length)
    (k : H.size = E.2.2.1 + mem.1.length → W p l e R s m args below meth c H locs (mem.1.length - L0) slots Q g) : W p l e R s m args below meth c H locs (mem.1.length - L0) slots Q g := by
  intro T hT X
  refine k ?_ T hT X
  have h2 : T.heap.size ≤ s.heap.size + (mem.1.length - L0) := X.same.2.2.1
  have h3 : s.heap.size ≤ T.heap.size := X.same.2.1
  rw [hT] at h2 h3
  by_cases hz : mem.1.length = 0
  · omega
  · have hlt : mem.1.length - 1 < mem.1.length := by omega
    have hg : mem.1[mem.1.length - 1]? = some mem.1[mem.1.length - 1] := List.getElem?_eq_getElem hlt
    have h4 := (hH _ _ (mj_wl_get (E := E) hg)).lt
    have h5 : E.2.2.1 + (mem.1.length - 1) < H.size := h4
    omega
/-- a field of class ci, by a method of class own -/
def mj_F (own : String) (idx ci k : Nat) : Prop := ∃ (C : String) (T : u_T) (N : Nat), kCls[ci]? = some (C, T, N) ∧ k < N ∧ Cond.fieldLink own idx C (T k).2.1 (T k).2.2.1 ∈ TB
theorem mj_fs {E : mj_E} {ci n k : Nat} {rs : Nat → Option Nat} {f : Nat → Int32} (hk : k < n) : ((List.range n).map (fun j => if kRf ci j then va_rf ((rs j).map (fun i => E.2.2.1 + i)) else Value.int (f j)))[k]? = some (if kRf ci k then va_rf ((rs k).map (fun i => E.2.2.1 + i)) else Value.int (f k)) := by
  rw [List.getElem?_map, List.getElem?_range hk]
  rfl
theorem mj_getI {ci k b n idx : Nat} {rs : Nat → Option Nat} (hd : decode M.2.1 pc = .ok (.getfield idx, 3)) (hf : mj_F M.1.cls idx ci k) (hc : mem.1[b]? = some (ci + 3, n, rs)) (hr : kRf ci k = false) (hb : b < 1000000) (hk : k < n)
    (kk : mj_R M (pc + 3) lv (.int (mem.2 b k) :: st) mem r mem') : mj_R M pc lv (.ref b :: st) mem r mem' :=
  ⟨kk.1, fun E l p e s m args below meth c L0 S0 C h1 h2 H locs ls hH hS hL => by
    have k1 := kk.2 E l p e s m args below meth c L0 S0 C h1 h2 H locs ls hH hS hL
    obtain ⟨Cn, T, N, e1, e2, e3⟩ := hf
    obtain ⟨w1, w2, w3, w4⟩ := kOk e1
    rw [List.map_cons, mj_adw hb]
    exact va_get C.1 C.2.1 C.2.2.2.2.1 w1 C.2.2.2.1 C.2.2.2.2.2.2.2.2.1.1 hH b (mj_wl_get hc) e1 k e2 (C.2.2.2.2.1 _ e3) (by rw [w4 k e2]; exact fun x h => h) (v := .int (mem.2 b k)) (by rw [mj_fs hk, hr]; rfl) hd k1⟩
theorem mj_getR {ci k b j n idx : Nat} {rs : Nat → Option Nat} (hd : decode M.2.1 pc = .ok (.getfield idx, 3)) (hf : mj_F M.1.cls idx ci k) (hc : mem.1[b]? = some (ci + 3, n, rs)) (hr : kRf ci k = true) (hj : rs k = some j) (hb : b < 1000000) (hk : k < n) (hj2 : j < 1000000)
    (kk : mj_R M (pc + 3) lv (.ref j :: st) mem r mem') : mj_R M pc lv (.ref b :: st) mem r mem' :=
  ⟨kk.1, fun E l p e s m args below meth c L0 S0 C h1 h2 H locs ls hH hS hL => by
    have k1 := kk.2 E l p e s m args below meth c L0 S0 C h1 h2 H locs ls hH hS hL
    obtain ⟨Cn, T, N, e1, e2, e3⟩ := hf
    obtain ⟨w1, w2, w3, w4⟩ := kOk e1
    rw [List.map_cons, mj_adw hj2] at k1
    rw [List.map_cons, mj_adw hb]
    exact va_get C.1 C.2.1 C.2.2.2.2.1 w1 C.2.2.2.1 C.2.2.2.2.2.2.2.2.1.1 hH b (mj_wl_get hc) e1 k e2 (C.2.2.2.2.1 _ e3) (by rw [w4 k e2]; exact fun x h => h) (v := .ref (E.2.2.1 + j)) (by rw [mj_fs hk, hr]; show some (va_rf ((rs k).map _)) = _; rw [hj]; rfl) hd k1⟩
theorem mj_set_fs {E : mj_E} {ci n k : Nat} {rs : Nat → Option Nat} {f : Nat → Int32} {x : Int32} (hr : kRf ci k = false) : ((List.range n).map (fun j => if kRf ci j then va_rf ((rs j).map (fun i => E.2.2.1 + i)) else Value.int (f j))).set k (.int x) = (List.range n).map (fun j => if kRf ci j then va_rf ((rs j).map (fun i => E.2.2.1 + i)) else Value.int (upd f k x j)) := by
  apply List.ext_getElem?
  intro j
  rw [List.getElem?_set]
  by_cases hj : k = j
  · subst hj
    rw [if_pos rfl]
    by_cases hk : k < n
    · rw [if_pos (by simpa using hk), mj_fs hk, hr]
      simp [upd]
    · rw [if_neg (by simpa using hk), List.getElem?_eq_none (by simpa using hk)]
  · rw [if_neg hj]
    by_cases hn : j < n
    · rw [mj_fs hn, mj_fs hn]
      show _ = some (if kRf ci j then _ else Value.int (if j = k then x else f j))
      rw [if_neg (Ne.symm hj)]
    · rw [List.getElem?_eq_none (by simpa using hn), List.getElem?_eq_none (by simpa using hn)]
theorem mj_putI {ci k b n idx : Nat} {rs : Nat → Option Nat} {x : Int32} (hd : decode M.2.1 pc = .ok (.putfield idx, 3)) (hf : mj_F M.1.cls idx ci k) (hc : mem.1[b]? = some (ci + 3, n, rs)) (hr : kTy ci k = .int) (hfin : ∀ (C : String) (T : u_T) (N : Nat), kCls[ci]? = some (C, T, N) → (T k).2.2.2 = false) (hb : b < 1000000) (hk : k < n)
    (kk : mj_R M (pc + 3) lv st (mem.1, mj_wr mem.2 b k x) r mem') : mj_R M pc lv (.int x :: .ref b :: st) mem r mem' :=
  ⟨kk.1, fun E l p e s m args below meth c L0 S0 C h1 h2 H locs ls hH hS hL => by
    obtain ⟨Cn, T, N, e1, e2, e3⟩ := hf
    obtain ⟨w1, w2, w3, w4⟩ := kOk e1
    have hr2 : kRf ci k = false := by unfold kRf; rw [hr]; rfl
    rw [List.map_cons, List.map_cons, mj_adw hb]
    refine va_put C.1 C.2.1 C.2.2.2.2.1 w1 (kTy ci) w3 w2 C.2.2.2.1 C.2.2.2.2.2.2.2.2.1.1 hH (mj_D E mem) hS b (mj_wl_get hc) e1 k e2 (C.2.2.2.2.1 _ e3) (by rw [w4 k e2]; exact fun x h => h) (hfin _ _ _ e1) (by rw [w3 k e2, hr]) (vp_nar_int x) rfl (by simpa using hk) hd fun H1 locs1 a1 a2 a3 => ?_
    refine kk.2 E l p e s m args below meth c L0 S0 C h1 h2 H1 locs1 ls ?_ a3 hL
    have e4 := mj_wl_set (E := E) (g := mj_wr mem.2 b k x) hc (fun i hi => mj_wr_ne mem.2 x hi)
    unfold mj_H
    rw [← e4]
    have e5 : mj_cell E (ci + 3, n, rs) (mj_wr mem.2 b k x b) = .inr (ci, ((List.range n).map (fun j => if kRf ci j then va_rf ((rs j).map (fun i => E.2.2.1 + i)) else Value.int (mem.2 b j))).set k (.int x)) := by
      rw [mj_wr_same, mj_set_fs hr2]
      rfl
    rw [e5]
    exact a1⟩
theorem mj_set_eq {l : List Nat} {b x : Nat} (h : l[b]? = some x) : l.set b x = l := by
  apply List.ext_getElem?
  intro i
  by_cases hi : i = b
  · subst hi
    rw [List.getElem?_set_self (List.getElem?_eq_some_iff.mp h).1, h]
  · rw [List.getElem?_set_ne (Ne.symm hi)]
/-- references put, in constructors -/
theorem mj_set_rs {E : mj_E} {ci n k j : Nat} {rs : Nat → Option Nat} {f : Nat → Int32} (hr : kRf ci k = true) : ((List.range n).map (fun j => if kRf ci j then va_rf ((rs j).map (fun i => E.2.2.1 + i)) else Value.int (f j))).set k (.ref (E.2.2.1 + j)) = (List.range n).map (fun i => if kRf ci i then va_rf ((va_up rs k (some j) i).map (fun i => E.2.2.1 + i)) else Value.int (f i)) := by
  apply List.ext_getElem?
  intro i
  rw [List.getElem?_set]
  by_cases hj : k = i
  · subst hj
    rw [if_pos rfl]
    by_cases hk : k < n
    · rw [if_pos (by simpa using hk), mj_fs (rs := va_up rs k (some j)) hk, hr]
      show _ = some (va_rf ((if k = k then some j else rs k).map _))
      rw [if_pos rfl]
      rfl
    · rw [if_neg (by simpa using hk), List.getElem?_eq_none (by simpa using hk)]
  · rw [if_neg hj]
    by_cases hn : i < n
    · rw [mj_fs hn, mj_fs (rs := va_up rs k (some j)) hn]
      show _ = some (if kRf ci i then va_rf ((if i = k then some j else rs i).map _) else _)
      rw [if_neg (Ne.symm hj)]
    · rw [List.getElem?_eq_none (by simpa using hn), List.getElem?_eq_none (by simpa using hn)]
theorem mj_rfk {t : FieldType} (h : kFty t = true) (a : Nat) : narrow t (.ref a) = .ref a ∧ fits t (.ref a) = true := by
  cases t <;> first | exact ⟨rfl, rfl⟩ | cases h
theorem mj_putR {ci k b j n idx : Nat} {rs : Nat → Option Nat} (hd : decode M.2.1 pc = .ok (.putfield idx, 3)) (hf : mj_F M.1.cls idx ci k) (hc : mem.1[b]? = some (ci + 3, n, rs)) (hr : kRf ci k = true) (hfin : ∀ (C : String) (T : u_T) (N : Nat), kCls[ci]? = some (C, T, N) → (T k).2.2.2 = true ∧ C = M.1.cls) (hi : M.1.name = "<init>") (hb : b < 1000000) (hk : k < n) (hj : j < 1000000)
    (kk : mj_R M (pc + 3) lv st (mem.1.set b (ci + 3, n, va_up rs k (some j)), mem.2) r mem') : mj_R M pc lv (.ref j :: .ref b :: st) mem r mem' := by
  have hlen : (mem.1.set b (ci + 3, n, va_up rs k (some j))).length = mem.1.length := List.length_set
  have hsz : mj_sz (mem.1.set b (ci + 3, n, va_up rs k (some j)), mem.2) = mj_sz mem := by
    unfold mj_sz
    show ((mem.1.set b (ci + 3, n, va_up rs k (some j))).map (fun c => c.2.1)).sum = _
    rw [List.map_set, mj_set_eq (by rw [List.getElem?_map, hc]; rfl)]
  refine ⟨by rw [← hsz]; exact ⟨hlen ▸ kk.1.1, kk.1.2⟩, fun E l p e s m args below meth c L0 S0 C h1 h2 H locs ls hH hS hL => ?_⟩
  obtain ⟨Cn, T, N, e1, e2, e3⟩ := hf
  obtain ⟨w1, w2, w3, w4⟩ := kOk e1
  rw [List.map_cons, List.map_cons, mj_adw hb, mj_adw hj]
  obtain ⟨n1, n2⟩ := mj_rfk hr (E.2.2.1 + j)
  refine va_putF C.1 C.2.1 C.2.2.2.2.1 w1 (kTy ci) w3 w2 C.2.2.2.1 C.2.2.2.2.2.2.2.2.1.1 hH (mj_D E mem) hS b (mj_wl_get hc) e1 k e2 (C.2.2.2.2.1 _ e3) (by rw [w4 k e2]; exact fun x h => h) (hfin _ _ _ e1).1 (C.2.2.2.2.2.2.2.1.trans hi) ((w4 k e2).trans (hfin _ _ _ e1).2) (w3 k e2) n1 n2 (by simpa using hk) hd fun H1 locs1 a1 a2 a3 => ?_
  have k1 := kk.2 E l p e s m args below meth c L0 S0 C (by rw [show (mem.1.set b (ci + 3, n, va_up rs k (some j)), mem.2).1.length = mem.1.length from hlen]; exact h1) (by rw [hsz]; exact h2) H1 locs1 ls ?_ a3 hL
  · rw [hsz, show (mem.1.set b (ci + 3, n, va_up rs k (some j)), mem.2).1.length = mem.1.length from hlen] at k1
    exact k1
  · have e4 := mj_wl_setr (E := E) (c' := (ci + 3, n, va_up rs k (some j))) hc
    unfold mj_H
    rw [← e4]
    have e5 : mj_cell E (ci + 3, n, va_up rs k (some j)) (mem.2 b) = .inr (ci, ((List.range n).map (fun j => if kRf ci j then va_rf ((rs j).map (fun i => E.2.2.1 + i)) else Value.int (mem.2 b j))).set k (.ref (E.2.2.1 + j))) := by
      rw [mj_set_rs hr]
      rfl
    rw [e5]
    exact a1
/-- arrays of ints, of booleans, of Towns -/
theorem mj_iald {b n : Nat} {rs : Nat → Option Nat} {i : Int32} (hd : decode M.2.1 pc = .ok (.iaload, 1)) (hc : mem.1[b]? = some (0, n, rs)) (hb : b < 1000000) (hi : vp_in i n)
    (kk : mj_R M (pc + 1) lv (.int (mem.2 b i.toNatClampNeg) :: st) mem r mem') : mj_R M pc lv (.int i :: .ref b :: st) mem r mem' :=
  ⟨kk.1, fun E l p e s m args below meth c L0 S0 C h1 h2 H locs ls hH hS hL => by
    rw [List.map_cons, List.map_cons, mj_adw hb]
    exact va_iald C.1 C.2.1 C.2.2.2.2.2.2.2.2.1.1 hH b 0 (mj_wl_get hc) rfl hi hd (kk.2 E l p e s m args below meth c L0 S0 C h1 h2 H locs ls hH hS hL)⟩
theorem mj_zald {b n : Nat} {rs : Nat → Option Nat} {i : Int32} (hd : decode M.2.1 pc = .ok (.baload, 1)) (hc : mem.1[b]? = some (1, n, rs)) (hb : b < 1000000) (hi : vp_in i n)
    (kk : mj_R M (pc + 1) lv (.int (mem.2 b i.toNatClampNeg) :: st) mem r mem') : mj_R M pc lv (.int i :: .ref b :: st) mem r mem' :=
  ⟨kk.1, fun E l p e s m args below meth c L0 S0 C h1 h2 H locs ls hH hS hL => by
    rw [List.map_cons, List.map_cons, mj_adw hb]
    exact va_zald C.1 C.2.1 C.2.2.2.2.2.2.2.2.1.1 hH b 1 (mj_wl_get hc) rfl hi hd (kk.2 E l p e s m args below meth c L0 S0 C h1 h2 H locs ls hH hS hL)⟩
theorem mj_aald {b n j : Nat} {rs : Nat → Option Nat} {i : Int32} (hd : decode M.2.1 pc = .ok (.aaload, 1)) (hc : mem.1[b]? = some (2, n, rs)) (hb : b < 1000000) (hi : vp_in i n) (hj : rs i.toNatClampNeg = some j) (hj2 : j < 1000000)
    (kk : mj_R M (pc + 1) lv (.ref j :: st) mem r mem') : mj_R M pc lv (.int i :: .ref b :: st) mem r mem' :=
  ⟨kk.1, fun E l p e s m args below meth c L0 S0 C h1 h2 H locs ls hH hS hL => by
    have k1 := kk.2 E l p e s m args below meth c L0 S0 C h1 h2 H locs ls hH hS hL
    rw [List.map_cons, mj_adw hj2] at k1
    rw [List.map_cons, List.map_cons, mj_adw hb]
    refine va_aldq C.1 C.2.1 C.2.2.2.2.2.2.2.2.1.1 hH b 2 (mj_wl_get hc) rfl hi hd ?_
    show W _ _ _ _ _ _ _ _ _ _ _ _ _ _ _ (F0 m (pc + 1) ls (va_rf ((rs i.toNatClampNeg).map (fun i => E.2.2.1 + i)) :: _))
    rw [hj]
    exact k1⟩
theorem mj_iast {b n : Nat} {rs : Nat → Option Nat} {i x : Int32} (hd : decode M.2.1 pc = .ok (.iastore, 1)) (hc : mem.1[b]? = some (0, n, rs)) (hb : b < 1000000) (hi : vp_in i n)
    (kk : mj_R M (pc + 1) lv st (mem.1, mj_wr mem.2 b i.toNatClampNeg x) r mem') : mj_R M pc lv (.int x :: .int i :: .ref b :: st) mem r mem' :=
  ⟨kk.1, fun E l p e s m args below meth c L0 S0 C h1 h2 H locs ls hH hS hL => by
    rw [List.map_cons, List.map_cons, List.map_cons, mj_adw hb]
    refine va_iast C.1 C.2.1 C.2.2.2.2.2.2.2.2.1.1 hH (mj_D E mem) hS b 0 (mj_wl_get hc) rfl hi hd fun H1 locs1 a1 a2 a3 => ?_
    refine kk.2 E l p e s m args below meth c L0 S0 C h1 h2 H1 locs1 ls ?_ a3 hL
    unfold mj_H
    rw [← mj_wl_set (E := E) (g := mj_wr mem.2 b i.toNatClampNeg x) hc (fun i hi => mj_wr_ne mem.2 x hi), mj_wr_same]
    exact a1⟩
theorem mj_zast {b n : Nat} {rs : Nat → Option Nat} {i x : Int32} (hd : decode M.2.1 pc = .ok (.bastore, 1)) (hc : mem.1[b]? = some (1, n, rs)) (hb : b < 1000000) (hi : vp_in i n)
    (kk : mj_R M (pc + 1) lv st (mem.1, mj_wr mem.2 b i.toNatClampNeg (vp_nar .boolean x)) r mem') : mj_R M pc lv (.int x :: .int i :: .ref b :: st) mem r mem' :=
  ⟨kk.1, fun E l p e s m args below meth c L0 S0 C h1 h2 H locs ls hH hS hL => by
    rw [List.map_cons, List.map_cons, List.map_cons, mj_adw hb]
    refine va_zast C.1 C.2.1 C.2.2.2.2.2.2.2.2.1.1 hH (mj_D E mem) hS b 1 (mj_wl_get hc) rfl hi hd fun H1 locs1 a1 a2 a3 => ?_
    refine kk.2 E l p e s m args below meth c L0 S0 C h1 h2 H1 locs1 ls ?_ a3 hL
    unfold mj_H
    rw [← mj_wl_set (E := E) (g := mj_wr mem.2 b i.toNatClampNeg (vp_nar .boolean x)) hc (fun i hi => mj_wr_ne mem.2 _ hi), mj_wr_same]
    exact a1⟩
theorem mj_alen {b n : Nat} {rs : Nat → Option Nat} {v : Int32} (hd : decode M.2.1 pc = .ok (.arraylength, 1)) (hc : mem.1[b]? = some (0, n, rs)) (hb : b < 1000000) (hv : Int32.ofNat n = v)
    (kk : mj_R M (pc + 1) lv (.int v :: st) mem r mem') : mj_R M pc lv (.ref b :: st) mem r mem' :=
  ⟨kk.1, fun E l p e s m args below meth c L0 S0 C h1 h2 H locs ls hH hS hL => by
    rw [List.map_cons, mj_adw hb]
    exact va_alen C.1 C.2.1 C.2.2.2.2.2.2.2.2.1.1 hH b 0 (mj_wl_get hc) rfl hv hd (kk.2 E l p e s m args below meth c L0 S0 C h1 h2 H locs ls hH hS hL)⟩
/-- a reference stored into an array of Towns -/
theorem mj_aast {b n j n2 : Nat} {rs rs2 : Nat → Option Nat} {i : Int32} (hd : decode M.2.1 pc = .ok (.aastore, 1)) (hc : mem.1[b]? = some (2, n, rs)) (hb : b < 1000000) (hi : vp_in i n) (hj : mem.1[j]? = some (12, n2, rs2)) (hj2 : j < 1000000)
    (kk : mj_R M (pc + 1) lv st (mem.1.set b (2, n, va_up rs i.toNatClampNeg (some j)), mem.2) r mem') : mj_R M pc lv (.ref j :: .int i :: .ref b :: st) mem r mem' := by
  have hlen : (mem.1.set b (2, n, va_up rs i.toNatClampNeg (some j))).length = mem.1.length := List.length_set
  have hsz : mj_sz (mem.1.set b (2, n, va_up rs i.toNatClampNeg (some j)), mem.2) = mj_sz mem := by
    unfold mj_sz
    show ((mem.1.set b (2, n, va_up rs i.toNatClampNeg (some j))).map (fun c => c.2.1)).sum = _
    rw [List.map_set, mj_set_eq (by rw [List.getElem?_map, hc]; rfl)]
  refine ⟨by rw [← hsz]; exact ⟨hlen ▸ kk.1.1, kk.1.2⟩, fun E l p e s m args below meth c L0 S0 C h1 h2 H locs ls hH hS hL => ?_⟩
  rw [List.map_cons, List.map_cons, List.map_cons, mj_adw hb, mj_adw hj2]
  refine va_astq C.1 C.2.1 C.2.2.2.2.2.2.2.2.1.1 hH (mj_D E mem) hS b 2 j 9 (mj_wl_get hc) rfl (mj_wl_get hj) rfl hi hd fun H1 locs1 a1 a2 a3 => ?_
  have k1 := kk.2 E l p e s m args below meth c L0 S0 C (by rw [show (mem.1.set b (2, n, va_up rs i.toNatClampNeg (some j)), mem.2).1.length = mem.1.length from hlen]; exact h1) (by rw [hsz]; exact h2) H1 locs1 ls ?_ a3 hL
  · rw [hsz, show (mem.1.set b (2, n, va_up rs i.toNatClampNeg (some j)), mem.2).1.length = mem.1.length from hlen] at k1
    exact k1
  · unfold mj_H
    rw [← mj_wl_setr (E := E) (c' := (2, n, va_up rs i.toNatClampNeg (some j))) hc]
    have e5 : mj_cell E (2, n, va_up rs i.toNatClampNeg (some j)) (mem.2 b) = .inl (E.2.1 2, n, .inr (.inr (.inr (.inr (va_up (fun j => (rs j).map (fun i => E.2.2.1 + i)) i.toNatClampNeg (some (E.2.2.1 + j))))))) := by
      show (Sum.inl (E.2.1 2, n, .inr (.inr (.inr (.inr (fun q => (va_up rs i.toNatClampNeg (some j) q).map (fun i => E.2.2.1 + i)))))) : va_E) = _
      congr 7
      funext q
      unfold va_up
      by_cases hq : q = i.toNatClampNeg
      · simp [hq]
      · simp [hq]
    rw [e5]
    exact a1
/-- the ends -/
theorem mj_iret {x : Int32} (hd : decode M.2.1 pc = .ok (.ireturn, 1)) (hr : M.2.2.2.1 = some .int) : mj_R M pc lv [.int x] mem (some (.int x)) mem :=
  ⟨⟨Nat.le_refl _, Nat.le_refl _⟩, fun E l p e s m args below meth c L0 S0 C h1 h2 H locs ls hH hS hL =>
    W.iret C.1 C.2.1 (C.2.2.2.2.2.1.trans hr) (fun t ht hW => ⟨rfl, by rw [ht]; exact hH, hS.F ht⟩) hS.2.2 hd C.2.2.2.2.2.2.1⟩
theorem mj_zret {x : Int32} {ty : FieldType} (hd : decode M.2.1 pc = .ok (.ireturn, 1)) (hr : M.2.2.2.1 = some ty) (hn : narrow ty (.int x) = .int x) : mj_R M pc lv [.int x] mem (some (.int x)) mem :=
  ⟨⟨Nat.le_refl _, Nat.le_refl _⟩, fun E l p e s m args below meth c L0 S0 C h1 h2 H locs ls hH hS hL =>
    W.zret C.1 C.2.1 (C.2.2.2.2.2.1.trans hr) hn (fun t ht hW => ⟨rfl, by rw [ht]; exact hH, hS.F ht⟩) hS.2.2 hd C.2.2.2.2.2.2.1⟩
theorem mj_vret (hd : decode M.2.1 pc = .ok (.return_, 1)) (hr : M.2.2.2.1 = none) : mj_R M pc lv [] mem none mem :=
  ⟨⟨Nat.le_refl _, Nat.le_refl _⟩, fun E l p e s m args below meth c L0 S0 C h1 h2 H locs ls hH hS hL =>
    W.vret C.1 C.2.1 (C.2.2.2.2.2.1.trans hr) (fun t ht hW => ⟨rfl, by rw [ht]; exact hH, hS.F ht⟩) hS.2.2 hd C.2.2.2.2.2.2.1⟩
end MJH
end
section
section MJC
variable {M : mj_M} {pc : Nat} {lv : List (Option Value)} {st : List Value} {mem mem' : mj_Mem} {r : Option Value}
/-- the locals at a method's entry -/
def mj_ent : List Value → List (Option Value)
  | [] => []
  | v :: vs => if v.category = 2 then some v :: none :: mj_ent vs else some v :: mj_ent vs
theorem mj_ent_at (E : mj_E) (hE : E.2.2.2.2.2.category = 1) (vs : List Value) : ∀ (i j : Nat) (v : Value), (mj_ent vs)[j]? = some (some v) → (i + j, mj_cv E v) ∈ lv_args i (vs.map (mj_cv E)) := by
  induction vs with
  | nil => intro i j v h; simp [mj_ent] at h
  | cons a vs ih =>
    intro i j v h
    unfold mj_ent at h
    show _ ∈ (i, mj_cv E a) :: lv_args (if (mj_cv E a).category = 2 then i + 2 else i + 1) (vs.map (mj_cv E))
    rw [mj_cat hE]
    by_cases hc : a.category = 2
    · rw [if_pos hc] at h ⊢
      match j, h with
      | 0, h => simp at h; subst h; exact List.mem_cons_self
      | 1, h => simp at h
      | j + 2, h =>
        have h' : (mj_ent vs)[j]? = some (some v) := by simpa using h
        have := ih (i + 2) j v h'
        rw [show i + (j + 2) = i + 2 + j by omega]
        exact List.mem_cons_of_mem _ this
    · rw [if_neg hc] at h ⊢
      match j, h with
      | 0, h => simp at h; subst h; exact List.mem_cons_self
      | j + 1, h =>
        have h' : (mj_ent vs)[j]? = some (some v) := by simpa using h
        have := ih (i + 1) j v h'
        rw [show i + (j + 1) = i + 1 + j by omega]
        exact List.mem_cons_of_mem _ this
theorem mj_sl_len (E : mj_E) (hE : E.2.2.2.2.2.category = 1) (vs : List Value) : (lg_sl (vs.map (mj_cv E))).length = (mj_ent vs).length := by
  induction vs with
  | nil => rfl
  | cons a vs ih =>
    have e1 : (lg_sl ((a :: vs).map (mj_cv E))).length = (if (mj_cv E a).category = 2 then [Slot.val (mj_cv E a), Slot.second] else [Slot.val (mj_cv E a)]).length + (lg_sl (vs.map (mj_cv E))).length := by
      simp [lg_sl]
    rw [e1, ih, mj_cat hE]
    show _ = (if a.category = 2 then some a :: none :: mj_ent vs else some a :: mj_ent vs).length
    by_cases hc : a.category = 2
    · rw [if_pos hc, if_pos hc]; simp; omega
    · rw [if_neg hc, if_neg hc]; simp; omega
def mj_lv (n : Nat) (vs : List Value) : List (Option Value) := mj_ent vs ++ List.replicate (n - (mj_ent vs).length) none
def mj_ws (M : mj_M) : List Cond := Cond.code M.1 M.2.1 M.2.2.1 M.2.2.2.1 :: TB
def mj_P (E : mj_E) (vs : List Value) (mem : mj_Mem) : Array Value → State → Prop := fun a U => a = (vs.map (mj_cv E)).toArray ∧ mj_H E mem U.heap ∧ U.heap.size = E.2.2.1 + mem.1.length ∧ mj_G E U
theorem mj_blind (E : mj_E) (vs : List Value) (mem : mj_Mem) : FrameBlind (mj_P E vs mem) := fun a U g mk h => ⟨h.1, h.2.1, h.2.2.1, h.2.2.2.same rfl rfl⟩
/-- a judgement at a method's entry is a contract -/
theorem mj_met {vs : List Value} (hR : mj_R M 0 (mj_lv M.2.2.1 vs) [] mem r mem') (hn : plainName M.1.cls = true) (hl : (mj_ent vs).length ≤ M.2.2.1) (E : mj_E) (l : Launch) :
    Met l M.1 (mj_ws M) { frames := M.2.2.2.2.1, cells := mem'.1.length - mem.1.length, slots := mj_sz mem' - mj_sz mem, locals := M.2.2.2.2.2 } (mj_P E vs mem) (mj_Q E r mem') (mem'.1.length - mem.1.length) (mj_sz mem' - mj_sz mem) (mj_A E) := by
  refine Met.ofW (cc := M.2.1) (maxL := M.2.2.1) (ret := M.2.2.2.1) hn rfl ?_
  intro p e s m args below meth c s₁ B hml hv
  obtain ⟨ha, hH, hsz, hG⟩ := hv
  have hE : E.2.2.2.2.2.category = 1 := hG.2.2.2.2.2.2.1
  have hts := atoms_spec (ws := mj_ws M) B.pre
  have hown : s.vm.findClass M.1.cls = some m.cls := findClass_of_methodNamed B.named
  have hin : meth.name = M.1.name := (name_of_methodNamed B.named B.method).1
  have C : mj_Cx E M p s m args meth c mem.1.length := ⟨B.exec, B.bytes, hml, hown, fun w hw => hts w (List.mem_cons_of_mem _ hw), B.returns, B.notSynchronized, hin, hG, hsz⟩
  rw [ha, lg_entry_eq]
  have hls := lv_entry (vs.map (mj_cv E)) (n := M.2.2.1) (by rw [mj_sl_len E hE]; exact hl)
  have k1 := hR.2 E l p e s m args below meth c mem.1.length (mj_sz mem) C (Nat.le_refl _) (Nat.le_refl _) s.heap [] _ hH va_S.rf ⟨hls.1, hls.2.1, fun i v hi => ?_⟩
  · rw [Nat.sub_self, Nat.sub_self, ha] at k1
    exact k1
  · refine hls.2.2 (i, mj_cv E v) ?_
    unfold mj_lv at hi
    by_cases hlt : i < (mj_ent vs).length
    · rw [List.getElem?_append_left hlt] at hi
      have := mj_ent_at E hE vs 0 i v hi
      rw [Nat.zero_add] at this
      exact this
    · rw [List.getElem?_append_right (by omega), List.getElem?_replicate] at hi
      split at hi <;> cases hi
/-- behind a call -/
theorem mj_go {E : mj_E} {p : Program} {l : Launch} {e : Env} {R : Room} {s : State} {m : MethodId} {args : Array Value} {below : List Frame} {meth : Method} {c : Code} {H : Heap} {locs : List Loc} {cells slots mc ms : Nat} {Q : State → Prop} {ls : Array Slot} {st0 rest : List Value} {a : Array Value} {r1 : Option Value} {mem1 : mj_Mem}
    (hr : va_Run p l e R s m args below meth c H locs cells slots mc ms (F0 m pc ls st0) rest (mj_Q E r1 mem1 a) (mj_A E)) (hS : va_S (mj_A E) s.heap H locs)
    (kk : ∀ (H1 : Heap) (locs1 : List Loc), mj_H E mem1 H1 → va_S (mj_A E) s.heap H1 locs1 → W p l e R s m args below meth c H1 locs1 (cells + mc) (slots + ms) Q (F0 m (pc + 3) ls ((r1.map (mj_cv E)).toList ++ rest))) : W p l e R s m args below meth c H locs cells slots Q (F0 m pc ls st0) := by
  intro T hT X
  obtain ⟨v, st₀, t, T', L, h0, X', hL, e1, e2, ⟨hv, hm, hz, hk⟩, st⟩ := hr T hT X
  cases hv
  rw [h0] at hz hk
  obtain ⟨t2, a1, b1⟩ := kk T'.heap (locs ++ L) (by rw [e1]; exact hm) ⟨Nat.le_trans hS.1 (by rw [e1]; exact hz), fun q h1 h2 => by rw [e1, hk q (Nat.lt_of_lt_of_le h1 hS.1) h2]; exact hS.2.1 q h1 h2, fun q hq => by
      rcases List.mem_append.mp hq with h | h
      · exact hS.2.2 q h
      · exact hL q h⟩ T' rfl X'
  exact ⟨t2, st t2 a1, b1⟩
/-- what the tables say of a call from class own to method M2: by a link of its own class, or of a nest mate -/
def mj_B (M M2 : mj_M) (n : Nat) : Prop := (Cond.code M2.1 M2.2.1 M2.2.2.1 M2.2.2.2.1 ∈ TB) ∧ Cond.initialized M2.1.cls ∈ TB ∧ (M2.1.cls ≠ "java/lang/invoke/MethodHandle" ∧ M2.1.cls ≠ "java/lang/invoke/VarHandle") ∧ (parseMethodDescriptor M2.1.desc).map (fun d => d.parameters.length) = some n ∧ plainName M2.1.cls = true ∧ M2.2.2.2.2.1 + 1 ≤ M.2.2.2.2.1 ∧ 8 + (M2.2.2.1 + 11) + M2.2.2.2.2.2 ≤ M.2.2.2.2.2
def mj_lk (own : String) (idx : Nat) (y : MethodName) : Prop := Cond.methodLink own idx y ∈ TB ∨ ∃ h : String, (own, idx, y, h) ∈ kNest
theorem mj_good {M2 : mj_M} (h : Cond.code M2.1 M2.2.1 M2.2.2.1 M2.2.2.2.1 ∈ TB) : GoodIn TB (mj_ws M2) := by
  intro w hw
  have hm : w ∈ TB := by
    rcases List.mem_cons.mp hw with rfl | h1
    · exact h
    · exact h1
  exact ⟨hm, good_of_word (List.mem_filter.mp hm).2⟩
section call
variable {M2 : mj_M} {n idx : Nat} {vs : List Value} {r1 : Option Value} {mem1 : mj_Mem}
theorem mj_callS (hd : decode M.2.1 pc = .ok (.invokestatic idx, 3)) (hB : mj_B M M2 n) (hl : mj_lk M.1.cls idx M2.1) (hst : Cond.static M2.1 ∈ TB) (hvs : vs.length = n) (hen : (mj_ent vs).length ≤ M2.2.2.1) (hw : (st.map fun v => v.category).sum ≤ 8)
    (hR : mj_R M2 0 (mj_lv M2.2.2.1 vs) [] mem r1 mem1) (kk : mj_R M (pc + 3) lv (r1.toList ++ st) mem1 r mem') : mj_R M pc lv (vs.reverse ++ st) mem r mem' := by
  refine ⟨⟨Nat.le_trans hR.1.1 kk.1.1, Nat.le_trans hR.1.2 kk.1.2⟩, fun E l p e s m args below meth c L0 S0 C h1 h2 H locs ls hH hS hL => ?_⟩
  obtain ⟨b1, b2, b3, b4, b5, b6, b7⟩ := hB
  have hE : E.2.2.2.2.2.category = 1 := C.2.2.2.2.2.2.2.2.1.2.2.2.2.2.2.1
  have hM := mj_met hR b5 hen E l
  refine mj_size hH C.2.2.2.2.2.2.2.2.2 h1 fun hsz => ?_
  have hf : mem.1.length - L0 + (mem1.1.length - mem.1.length) ≤ mem'.1.length - L0 ∧ mj_sz mem - S0 + (mj_sz mem1 - mj_sz mem) ≤ mj_sz mem' - S0 := by
    have a1 := hR.1.1; have a2 := hR.1.2; have a3 := kk.1.1; have a4 := kk.1.2
    omega
  have hpre : PreS s H (mj_P E vs mem) (vs.map (mj_cv E)) := ⟨mj_blind E vs mem, fun U hU hW => ⟨rfl, by rw [hU]; exact hH, by rw [hU]; exact hsz, C.2.2.2.2.2.2.2.2.1.moved hW hU hS⟩⟩
  have fix : CallFix p m c M.2.1 M.2.2.1 s args TB M.1.cls := ⟨C.1, C.2.1, C.2.2.1, C.2.2.2.1, C.2.2.2.2.1⟩
  have hst0 : (vs.reverse ++ st).map (mj_cv E) = (vs.map (mj_cv E)).reverse ++ st.map (mj_cv E) := by rw [List.map_append, List.map_reverse]
  have hroom : 2 * (F0 m pc ls ((vs.reverse ++ st).map (mj_cv E))).monitorRoom + ((st.map (mj_cv E)).map fun v => v.category).sum ≤ 8 := lv_room (by rw [mj_cats hE]; exact hw)
  have run : va_Run p l e { frames := M.2.2.2.2.1, cells := mem'.1.length - L0, slots := mj_sz mem' - S0, locals := M.2.2.2.2.2 } s m args below meth c H locs (mem.1.length - L0) (mj_sz mem - S0) (mem1.1.length - mem.1.length) (mj_sz mem1 - mj_sz mem) (F0 m pc ls ((vs.reverse ++ st).map (mj_cv E))) (st.map (mj_cv E)) (mj_Q E r1 mem1 (vs.map (mj_cv E)).toArray) (mj_A E) := by
    rcases hl with hl | ⟨h, hl⟩
    · exact va_runS (n := n) fix hM ⟨callB_of n C.2.2.2.2.1 (mj_good b1) rfl rfl rfl (C.2.2.2.2.1 _ b2) (C.2.2.2.2.1 _ hl) ⟨b3.1, b3.2, b4⟩ ⟨b6, b7⟩, C.2.2.2.2.1 _ hst⟩ hpre rfl (by rw [List.length_map]; exact hvs) hL.1 hst0 hroom hd hf
    · exact va_runSN (n := n) (host := h) fix hM ⟨va_cnB n C.2.2.2.2.1 (mj_good b1) rfl rfl rfl (C.2.2.2.2.2.2.2.2.1.2.1 _ hl) (C.2.2.2.2.1 _ b2) ⟨b3.1, b3.2, b4⟩ ⟨b6, b7⟩, C.2.2.2.2.1 _ hst, trivial⟩ hpre rfl (by rw [List.length_map]; exact hvs) hL.1 hst0 hroom hd hf
  refine mj_go run hS fun H1 locs1 hH1 hS1 => ?_
  have k1 := kk.2 E l p e s m args below meth c L0 S0 C (Nat.le_trans h1 hR.1.1) (Nat.le_trans h2 hR.1.2) H1 locs1 ls hH1 hS1 hL
  have e1 : mem.1.length - L0 + (mem1.1.length - mem.1.length) = mem1.1.length - L0 := by have a1 := hR.1.1; omega
  have e2 : mj_sz mem - S0 + (mj_sz mem1 - mj_sz mem) = mj_sz mem1 - S0 := by have a1 := hR.1.2; omega
  have e3 : (r1.map (mj_cv E)).toList ++ st.map (mj_cv E) = (r1.toList ++ st).map (mj_cv E) := by cases r1 <;> rfl
  rw [e1, e2, e3]
  exact k1
/-- a receiver: an object of our own, or a String -/
def mj_rc (mem : mj_Mem) (b : Nat) (C : String) : Prop := (b < 1000000 ∧ ∃ (ci n : Nat) (rs : Nat → Option Nat) (T : u_T) (N : Nat), mem.1[b]? = some (ci + 3, n, rs) ∧ kCls[ci]? = some (C, T, N)) ∨ ∃ j : Nat, j < 14 ∧ b = 1000000 + j ∧ C = "java/lang/String"
theorem mj_recv {E : mj_E} {s : State} {H : Heap} {locs : List Loc} {b : Nat} {C : String} (h : mj_rc mem b C) (hG : mj_G E s) (hH : mj_H E mem H) (hS : va_S (mj_A E) s.heap H locs) : ∃ a : Nat, mj_cv E (.ref b) = .ref a ∧ ∃ cell : Cell, H[a]? = some cell ∧ cell.vm.isStatics = false ∧ s.vm.findClass C = some cell.cls := by
  rcases h with ⟨hb, ci, n, rs, T, N, h1, h2⟩ | ⟨j, hj, rfl, rfl⟩
  · exact ⟨_, mj_adw hb, va_recv hG.1 hH h2 (mj_wl_get h1)⟩
  · refine ⟨E.2.2.2.1 j, ?_, vk_recv hG.2.2.2.1 hj hS⟩
    show mj_ad E (1000000 + j) = _
    unfold mj_ad
    rw [if_neg (by omega), if_pos (by omega), Nat.add_sub_cancel_left]
theorem mj_callV {b : Nat} (hd : decode M.2.1 pc = .ok (.invokevirtual idx, 3)) (hB : mj_B M M2 n) (hl : mj_lk M.1.cls idx M2.1) (hst : Cond.instanceMethod M2.1 ∈ TB ∧ Cond.selects M2.1.cls M2.1 M2.1 ∈ TB) (hrc : mj_rc mem b M2.1.cls) (hvs : vs.length = n) (hen : (mj_ent (.ref b :: vs)).length ≤ M2.2.2.1) (hw : (st.map fun v => v.category).sum ≤ 8)
    (hR : mj_R M2 0 (mj_lv M2.2.2.1 (.ref b :: vs)) [] mem r1 mem1) (kk : mj_R M (pc + 3) lv (r1.toList ++ st) mem1 r mem') : mj_R M pc lv (vs.reverse ++ .ref b :: st) mem r mem' := by
  refine ⟨⟨Nat.le_trans hR.1.1 kk.1.1, Nat.le_trans hR.1.2 kk.1.2⟩, fun E l p e s m args below meth c L0 S0 C h1 h2 H locs ls hH hS hL => ?_⟩
  obtain ⟨b1, b2, b3, b4, b5, b6, b7⟩ := hB
  have hE : E.2.2.2.2.2.category = 1 := C.2.2.2.2.2.2.2.2.1.2.2.2.2.2.2.1
  have hM := mj_met hR b5 hen E l
  obtain ⟨a, ha, hcell⟩ := mj_recv hrc C.2.2.2.2.2.2.2.2.1 hH hS
  refine mj_size hH C.2.2.2.2.2.2.2.2.2 h1 fun hsz => ?_
  have hf : mem.1.length - L0 + (mem1.1.length - mem.1.length) ≤ mem'.1.length - L0 ∧ mj_sz mem - S0 + (mj_sz mem1 - mj_sz mem) ≤ mj_sz mem' - S0 := by
    have a1 := hR.1.1; have a2 := hR.1.2; have a3 := kk.1.1; have a4 := kk.1.2
    omega
  have hargs : (.ref b :: vs).map (mj_cv E) = .ref a :: vs.map (mj_cv E) := by rw [List.map_cons, ha]
  have hpre : PreV s H M2.1.cls a (mj_P E (.ref b :: vs) mem) (vs.map (mj_cv E)) := ⟨mj_blind E _ mem, hcell, fun U hU hW => ⟨by rw [hargs], by rw [hU]; exact hH, by rw [hU]; exact hsz, C.2.2.2.2.2.2.2.2.1.moved hW hU hS⟩⟩
  have fix : CallFix p m c M.2.1 M.2.2.1 s args TB M.1.cls := ⟨C.1, C.2.1, C.2.2.1, C.2.2.2.1, C.2.2.2.2.1⟩
  have hst0 : (vs.reverse ++ .ref b :: st).map (mj_cv E) = (vs.map (mj_cv E)).reverse ++ .ref a :: st.map (mj_cv E) := by rw [List.map_append, List.map_reverse, List.map_cons, ha]
  have hroom : 2 * (F0 m pc ls ((vs.reverse ++ .ref b :: st).map (mj_cv E))).monitorRoom + ((st.map (mj_cv E)).map fun v => v.category).sum ≤ 8 := lv_room (by rw [mj_cats hE]; exact hw)
  have run : va_Run p l e { frames := M.2.2.2.2.1, cells := mem'.1.length - L0, slots := mj_sz mem' - S0, locals := M.2.2.2.2.2 } s m args below meth c H locs (mem.1.length - L0) (mj_sz mem - S0) (mem1.1.length - mem.1.length) (mj_sz mem1 - mj_sz mem) (F0 m pc ls ((vs.reverse ++ .ref b :: st).map (mj_cv E))) (st.map (mj_cv E)) (mj_Q E r1 mem1 (Value.ref a :: vs.map (mj_cv E)).toArray) (mj_A E) := by
    rcases hl with hl | ⟨h, hl⟩
    · exact va_runV (n := n) fix hM ⟨callB_of n C.2.2.2.2.1 (mj_good b1) rfl rfl rfl (C.2.2.2.2.1 _ b2) (C.2.2.2.2.1 _ hl) ⟨b3.1, b3.2, b4⟩ ⟨b6, b7⟩, C.2.2.2.2.1 _ hst.1, C.2.2.2.2.1 _ hst.2⟩ hpre rfl (by rw [List.length_map]; exact hvs) hL.1 hst0 hroom hd hf
    · exact va_runVN (n := n) (host := h) fix hM ⟨va_cnB n C.2.2.2.2.1 (mj_good b1) rfl rfl rfl (C.2.2.2.2.2.2.2.2.1.2.1 _ hl) (C.2.2.2.2.1 _ b2) ⟨b3.1, b3.2, b4⟩ ⟨b6, b7⟩, C.2.2.2.2.1 _ hst.1, C.2.2.2.2.1 _ hst.2⟩ hpre rfl (by rw [List.length_map]; exact hvs) hL.1 hst0 hroom hd hf
  refine mj_go run hS fun H1 locs1 hH1 hS1 => ?_
  have k1 := kk.2 E l p e s m args below meth c L0 S0 C (Nat.le_trans h1 hR.1.1) (Nat.le_trans h2 hR.1.2) H1 locs1 ls hH1 hS1 hL
  have e1 : mem.1.length - L0 + (mem1.1.length - mem.1.length) = mem1.1.length - L0 := by have a1 := hR.1.1; omega
  have e2 : mj_sz mem - S0 + (mj_sz mem1 - mj_sz mem) = mj_sz mem1 - S0 := by have a1 := hR.1.2; omega
  have e3 : (r1.map (mj_cv E)).toList ++ st.map (mj_cv E) = (r1.toList ++ st).map (mj_cv E) := by cases r1 <;> rfl
  rw [e1, e2, e3]
  exact k1
theorem mj_callI {b : Nat} (hd : decode M.2.1 pc = .ok (.invokespecial idx, 3)) (hB : mj_B M M2 n) (hl : mj_lk M.1.cls idx M2.1) (hst : Cond.instanceMethod M2.1 ∈ TB) (hin : M2.1.name = "<init>") (hre : M2.2.2.2.1 = none) (hb : b < 1000000) (hvs : vs.length = n) (hen : (mj_ent (.ref b :: vs)).length ≤ M2.2.2.1) (hw : (st.map fun v => v.category).sum ≤ 8)
    (hR : mj_R M2 0 (mj_lv M2.2.2.1 (.ref b :: vs)) [] mem r1 mem1) (kk : mj_R M (pc + 3) lv (r1.toList ++ st) mem1 r mem') : mj_R M pc lv (vs.reverse ++ .ref b :: st) mem r mem' := by
  refine ⟨⟨Nat.le_trans hR.1.1 kk.1.1, Nat.le_trans hR.1.2 kk.1.2⟩, fun E l p e s m args below meth c L0 S0 C h1 h2 H locs ls hH hS hL => ?_⟩
  obtain ⟨b1, b2, b3, b4, b5, b6, b7⟩ := hB
  have hE : E.2.2.2.2.2.category = 1 := C.2.2.2.2.2.2.2.2.1.2.2.2.2.2.2.1
  have hM := mj_met hR b5 hen E l
  have ha : mj_cv E (.ref b) = .ref (E.2.2.1 + b) := mj_adw hb
  refine mj_size hH C.2.2.2.2.2.2.2.2.2 h1 fun hsz => ?_
  have hf : mem.1.length - L0 + (mem1.1.length - mem.1.length) ≤ mem'.1.length - L0 ∧ mj_sz mem - S0 + (mj_sz mem1 - mj_sz mem) ≤ mj_sz mem' - S0 := by
    have a1 := hR.1.1; have a2 := hR.1.2; have a3 := kk.1.1; have a4 := kk.1.2
    omega
  have hargs : (.ref b :: vs).map (mj_cv E) = .ref (E.2.2.1 + b) :: vs.map (mj_cv E) := by rw [List.map_cons, ha]
  have hpre : PreS s H (mj_P E (.ref b :: vs) mem) (.ref (E.2.2.1 + b) :: vs.map (mj_cv E)) := ⟨mj_blind E _ mem, fun U hU hW => ⟨by rw [hargs], by rw [hU]; exact hH, by rw [hU]; exact hsz, C.2.2.2.2.2.2.2.2.1.moved hW hU hS⟩⟩
  have fix : CallFix p m c M.2.1 M.2.2.1 s args TB M.1.cls := ⟨C.1, C.2.1, C.2.2.1, C.2.2.2.1, C.2.2.2.2.1⟩
  have hst0 : (vs.reverse ++ .ref b :: st).map (mj_cv E) = (vs.map (mj_cv E)).reverse ++ .ref (E.2.2.1 + b) :: st.map (mj_cv E) := by rw [List.map_append, List.map_reverse, List.map_cons, ha]
  have hroom : 2 * (F0 m pc ls ((vs.reverse ++ .ref b :: st).map (mj_cv E))).monitorRoom + ((st.map (mj_cv E)).map fun v => v.category).sum ≤ 8 := lv_room (by rw [mj_cats hE]; exact hw)
  have hwsn : mj_ws M2 = Cond.code M2.1 M2.2.1 M2.2.2.1 none :: TB := by unfold mj_ws; rw [hre]
  have run : va_Run p l e { frames := M.2.2.2.2.1, cells := mem'.1.length - L0, slots := mj_sz mem' - S0, locals := M.2.2.2.2.2 } s m args below meth c H locs (mem.1.length - L0) (mj_sz mem - S0) (mem1.1.length - mem.1.length) (mj_sz mem1 - mj_sz mem) (F0 m pc ls ((vs.reverse ++ .ref b :: st).map (mj_cv E))) (st.map (mj_cv E)) (mj_Q E r1 mem1 (Value.ref (E.2.2.1 + b) :: vs.map (mj_cv E)).toArray) (mj_A E) := by
    rcases hl with hl | ⟨h, hl⟩
    · exact va_runI (n := n) (maxL := M2.2.2.1) (bytes := M2.2.1) fix hM ⟨callB_of n C.2.2.2.2.1 (mj_good b1) hwsn rfl rfl (C.2.2.2.2.1 _ b2) (C.2.2.2.2.1 _ hl) ⟨b3.1, b3.2, b4⟩ ⟨b6, b7⟩, hin, C.2.2.2.2.1 _ hst⟩ hpre rfl (by rw [List.length_map]; exact hvs) hL.1 hst0 hroom hd hf
    · exact va_runIN (n := n) (host := h) (maxL := M2.2.2.1) (bytes := M2.2.1) fix hM ⟨va_cnB n C.2.2.2.2.1 (mj_good b1) hwsn rfl rfl (C.2.2.2.2.2.2.2.2.1.2.1 _ hl) (C.2.2.2.2.1 _ b2) ⟨b3.1, b3.2, b4⟩ ⟨b6, b7⟩, hin, C.2.2.2.2.1 _ hst⟩ hpre rfl (by rw [List.length_map]; exact hvs) hL.1 hst0 hroom hd hf
  refine mj_go run hS fun H1 locs1 hH1 hS1 => ?_
  have k1 := kk.2 E l p e s m args below meth c L0 S0 C (Nat.le_trans h1 hR.1.1) (Nat.le_trans h2 hR.1.2) H1 locs1 ls hH1 hS1 hL
  have e1 : mem.1.length - L0 + (mem1.1.length - mem.1.length) = mem1.1.length - L0 := by have a1 := hR.1.1; omega
  have e2 : mj_sz mem - S0 + (mj_sz mem1 - mj_sz mem) = mj_sz mem1 - S0 := by have a1 := hR.1.2; omega
  have e3 : (r1.map (mj_cv E)).toList ++ st.map (mj_cv E) = (r1.toList ++ st).map (mj_cv E) := by cases r1 <;> rfl
  rw [e1, e2, e3]
  exact k1
end call
end MJC
end
section
section MJN
variable {M : mj_M} {pc : Nat} {lv : List (Option Value)} {st : List Value} {mem mem' : mj_Mem} {r : Option Value}
/-- the address of a new cell, by the room's own count -/
theorem mj_newq {E : mj_E} {q : Nat} {e : va_E} {H1 : Heap} (hP : va_P E.1 kCls (mj_wl E mem ++ [(q, e)]) H1) (hD : va_D (mj_A E) (mj_wl E mem ++ [(q, e)])) (hz : H1.size ≤ E.2.2.1 + mem.1.length + 1) : q = E.2.2.1 + mem.1.length := by
  have hl : (mj_wl E mem).length = mem.1.length := by unfold mj_wl; exact List.length_mapIdx
  have hq : (mj_wl E mem ++ [(q, e)])[mem.1.length]? = some (q, e) := by
    rw [List.getElem?_append_right (by omega), hl, Nat.sub_self]
    rfl
  have h1 : q < H1.size := (hP _ _ hq).lt
  have h2 : E.2.2.1 ≤ q := hD.2 _ _ hq
  by_cases hx : q = E.2.2.1 + mem.1.length
  · exact hx
  · have hi : q - E.2.2.1 < mem.1.length := by omega
    have hg : mem.1[q - E.2.2.1]? = some mem.1[q - E.2.2.1] := List.getElem?_eq_getElem hi
    have h3 : (mj_wl E mem ++ [(q, e)])[q - E.2.2.1]? = some (E.2.2.1 + (q - E.2.2.1), mj_cell E mem.1[q - E.2.2.1] (mem.2 (q - E.2.2.1))) := by
      rw [List.getElem?_append_left (by omega)]
      exact mj_wl_get hg
    have h4 := hD.1 _ _ _ _ h3 hq (by show E.2.2.1 + (q - E.2.2.1) = q; omega)
    omega
theorem mj_sz_push (c : Nat × Nat × (Nat → Option Nat)) : mj_sz (mem.1 ++ [c], mem.2) = mj_sz mem + c.2.1 := by
  unfold mj_sz
  simp
theorem mj_push_le {c : Nat × Nat × (Nat → Option Nat)} (h : (mem.1 ++ [c], mem.2).1.length ≤ mem'.1.length ∧ mj_sz (mem.1 ++ [c], mem.2) ≤ mj_sz mem') : mem.1.length + 1 ≤ mem'.1.length ∧ mj_sz mem + c.2.1 ≤ mj_sz mem' := by
  rw [mj_sz_push] at h
  refine ⟨?_, h.2⟩
  have := h.1
  simpa using this
/-- behind the making of a cell -/
theorem mj_born {c0 : Nat × Nat × (Nat → Option Nat)} {N k : Nat} (hN : c0.2.1 = N) (hlen : mem.1.length < 1000000) (kk : mj_R M k lv (.ref mem.1.length :: st) (mem.1 ++ [c0], mem.2) r mem')
    {E : mj_E} {l : Launch} {p : Program} {e : Env} {s : State} {m : MethodId} {args : Array Value} {below : List Frame} {meth : Method} {c : Code} {L0 S0 : Nat} (C : mj_Cx E M p s m args meth c L0) (h1 : L0 ≤ mem.1.length) (h2 : S0 ≤ mj_sz mem) {H1 : Heap} {locs : List Loc} {ls : Array Slot} {q : Nat} (hP : va_P E.1 kCls (mj_wl E mem ++ [(q, mj_cell E c0 (mem.2 mem.1.length))]) H1) (hD : va_D (mj_A E) (mj_wl E mem ++ [(q, mj_cell E c0 (mem.2 mem.1.length))])) (hS : va_S (mj_A E) s.heap H1 locs) (hL : mj_L E ls M.2.2.1 lv) :
    W p l e { frames := M.2.2.2.2.1, cells := mem'.1.length - L0, slots := mj_sz mem' - S0, locals := M.2.2.2.2.2 } s m args below meth c H1 locs (mem.1.length - L0 + 1) (mj_sz mem - S0 + N) (MQ below (mj_Q E r mem') args s (mem'.1.length - L0) (mj_sz mem' - S0) (mj_A E)) (F0 m k ls (.ref q :: st.map (mj_cv E))) := by
  intro T hT X
  have hz : T.heap.size ≤ s.heap.size + (mem.1.length - L0 + 1) := X.same.2.2.1
  have hs := C.2.2.2.2.2.2.2.2.2
  rw [hT] at hz
  have hq : q = E.2.2.1 + mem.1.length := mj_newq hP hD (by omega)
  subst hq
  have hl : (mem.1 ++ [c0], mem.2).1.length = mem.1.length + 1 := by simp
  have k1 := kk.2 E l p e s m args below meth c L0 S0 C (by rw [hl]; omega) (by rw [mj_sz_push]; omega) H1 locs ls (by unfold mj_H; rw [mj_wl_push]; exact hP) hS hL
  rw [mj_sz_push, hl, hN, List.map_cons, mj_adw hlen, show mem.1.length + 1 - L0 = mem.1.length - L0 + 1 by omega, show mj_sz mem + N - S0 = mj_sz mem - S0 + N by omega] at k1
  exact k1 T hT X
theorem mj_hA {E : mj_E} {s : State} {L0 : Nat} (hs : s.heap.size = E.2.2.1 + L0) : ∀ q, s.heap.size ≤ q → mj_A E q := fun q h => by
  show E.2.2.1 ≤ q
  omega
theorem mj_dflt (t : FieldType) (i : Nat) (f : Nat → Int32) (h0 : f i = 0) (h : kFty t = true ∨ t = .int) : defaultValue t = (if kFty t then va_rf ((none : Option Nat).map (fun j => i + j)) else .int (f i)) := by
  rcases h with h | rfl
  · rw [h]
    cases t <;> first | rfl | cases h
  · rw [h0]; rfl
theorem mj_new {ci N idx : Nat} {Cn : String} {T : u_T} (hd : decode M.2.1 pc = .ok (.new idx, 3)) (hc : kCls[ci]? = some (Cn, T, N)) (hw : Cond.classLink M.1.cls idx Cn ∈ TB ∧ Cond.instantiable Cn N ∈ TB ∧ Cond.initialized Cn ∈ TB) (hty : ∀ k, k < N → kFty (kTy ci k) = true ∨ kTy ci k = .int) (hlen : mem.1.length < 1000000) (h0 : ∀ j, mem.2 mem.1.length j = 0)
    (kk : mj_R M (pc + 3) lv (.ref mem.1.length :: st) (mem.1 ++ [(ci + 3, N, fun _ => none)], mem.2) r mem') : mj_R M pc lv st mem r mem' := by
  have hle := mj_push_le kk.1
  dsimp only at hle
  refine ⟨⟨by omega, by omega⟩, fun E l p e s m args below meth c L0 S0 C h1 h2 H locs ls hH hS hL => ?_⟩
  obtain ⟨w1, w2, w3, w4⟩ := kOk hc
  refine va_new (fs := (List.range N).map (fun j => if kRf ci j then va_rf ((none : Option Nat).map (fun i => E.2.2.1 + i)) else Value.int (mem.2 mem.1.length j))) C.1 C.2.1 C.2.2.2.2.1 w1 (kTy ci) w3 C.2.2.2.1 (C.2.2.2.2.1 _ hw.1) (C.2.2.2.2.1 _ hw.2.1) (C.2.2.2.2.1 _ hw.2.2) C.2.2.2.2.2.2.2.2.1.1 hH (mj_D E mem) hS (mj_hA C.2.2.2.2.2.2.2.2.2) hc (fun j hj => ?_) (by show _ ≤ mem'.1.length - L0; omega) (by show _ ≤ mj_sz mem' - S0; omega) hd fun q H1 a1 a2 a3 => ?_
  · show _ = ((List.range N).map (fun j => if kRf ci j then va_rf ((none : Option Nat).map (fun i => E.2.2.1 + i)) else Value.int (mem.2 mem.1.length j))).getD j .null
    rw [List.getD_eq_getElem?_getD, mj_fs (rs := fun _ => none) hj]
    show _ = (if kRf ci j then va_rf none else Value.int (mem.2 mem.1.length j))
    rcases hty j hj with h | h
    · unfold kRf
      rw [h]
      generalize kTy ci j = t at h ⊢
      cases t <;> first | rfl | cases h
    · unfold kRf
      rw [h, h0]
      rfl
  · exact mj_born (c0 := (ci + 3, N, fun _ => none)) rfl hlen kk C h1 h2 a1 a2 a3 hL
theorem mj_newa {n : Int32} {N : Nat} (hd : decode M.2.1 pc = .ok (.newarray .int, 2)) (hw : Cond.arrayClass .int ∈ TB) (hn : ¬ n < 0) (hN : n.toNatClampNeg = N) (hby : N ≤ 100000) (hlen : mem.1.length < 1000000) (h0 : ∀ j, mem.2 mem.1.length j = 0)
    (kk : mj_R M (pc + 2) lv (.ref mem.1.length :: st) (mem.1 ++ [(0, N, fun _ => none)], mem.2) r mem') : mj_R M pc lv (.int n :: st) mem r mem' := by
  have hle := mj_push_le kk.1
  dsimp only at hle
  refine ⟨⟨by omega, by omega⟩, fun E l p e s m args below meth c L0 S0 C h1 h2 H locs ls hH hS hL => ?_⟩
  have hcb : componentBytes FieldType.int = 4 := by decide +kernel
  refine va_newa (atype := .int) (ty := .int) (a0 := (N, .inl (fun _ => 0))) C.1 C.2.1 (C.2.2.2.2.1 _ hw) rfl C.2.2.2.2.2.2.2.2.1.1 hH (mj_D E mem) hS (mj_hA C.2.2.2.2.2.2.2.2.2) (fun _ => rfl) hn hN (by rw [hcb]; omega) (by show _ ≤ mem'.1.length - L0; omega) (by show _ ≤ mj_sz mem' - S0; omega) hd fun q cA H1 a0 a1 a2 a3 => ?_
  have g1 : va_RA s (E.2.1 0) .int := (a0.2 0 _ rfl).2
  have g2 : va_RA s cA .int := (a0.2 3 _ rfl).2
  have g3 : E.2.1 0 = cA := Option.some.inj (Eq.trans (Eq.symm g1) g2)
  subst g3
  have h0' : mem.2 mem.1.length = fun _ => 0 := funext h0
  have e1 : (.inl (E.2.1 0, N, .inl (fun _ => 0)) : va_E) = mj_cell E (0, N, fun _ => none) (mem.2 mem.1.length) := by rw [h0']; rfl
  rw [e1] at a1 a2
  exact mj_born (c0 := (0, N, fun _ => none)) rfl hlen kk C h1 h2 a1 a2 a3 hL
theorem mj_newz {n : Int32} {N : Nat} (hd : decode M.2.1 pc = .ok (.newarray .boolean, 2)) (hw : Cond.arrayClass .boolean ∈ TB) (hn : ¬ n < 0) (hN : n.toNatClampNeg = N) (hby : N ≤ 100000) (hlen : mem.1.length < 1000000) (h0 : ∀ j, mem.2 mem.1.length j = 0)
    (kk : mj_R M (pc + 2) lv (.ref mem.1.length :: st) (mem.1 ++ [(1, N, fun _ => none)], mem.2) r mem') : mj_R M pc lv (.int n :: st) mem r mem' := by
  have hle := mj_push_le kk.1
  dsimp only at hle
  refine ⟨⟨by omega, by omega⟩, fun E l p e s m args below meth c L0 S0 C h1 h2 H locs ls hH hS hL => ?_⟩
  have hcb : componentBytes FieldType.boolean = 1 := by decide +kernel
  refine va_newa (atype := .boolean) (ty := .boolean) (a0 := (N, .inl (fun _ => 0))) C.1 C.2.1 (C.2.2.2.2.1 _ hw) rfl C.2.2.2.2.2.2.2.2.1.1 hH (mj_D E mem) hS (mj_hA C.2.2.2.2.2.2.2.2.2) (fun _ => rfl) hn hN (by rw [hcb]; omega) (by show _ ≤ mem'.1.length - L0; omega) (by show _ ≤ mj_sz mem' - S0; omega) hd fun q cA H1 a0 a1 a2 a3 => ?_
  have g1 : va_RA s (E.2.1 1) .boolean := (a0.2 1 _ rfl).2
  have g2 : va_RA s cA .boolean := (a0.2 3 _ rfl).2
  have g3 : E.2.1 1 = cA := Option.some.inj (Eq.trans (Eq.symm g1) g2)
  subst g3
  have h0' : mem.2 mem.1.length = fun _ => 0 := funext h0
  have e1 : (.inl (E.2.1 1, N, .inl (fun _ => 0)) : va_E) = mj_cell E (1, N, fun _ => none) (mem.2 mem.1.length) := by rw [h0']; rfl
  rw [e1] at a1 a2
  exact mj_born (c0 := (1, N, fun _ => none)) rfl hlen kk C h1 h2 a1 a2 a3 hL
theorem mj_newr {n : Int32} {N idx : Nat} (hd : decode M.2.1 pc = .ok (.anewarray idx, 3)) (hw : Cond.classLink M.1.cls idx "MarketTown$Town" ∈ TB) (hn : ¬ n < 0) (hN : n.toNatClampNeg = N) (hby : N ≤ 100000) (hlen : mem.1.length < 1000000)
    (kk : mj_R M (pc + 3) lv (.ref mem.1.length :: st) (mem.1 ++ [(2, N, fun _ => none)], mem.2) r mem') : mj_R M pc lv (.int n :: st) mem r mem' := by
  have hle := mj_push_le kk.1
  dsimp only at hle
  refine ⟨⟨by omega, by omega⟩, fun E l p e s m args below meth c L0 S0 C h1 h2 H locs ls hH hS hL => ?_⟩
  have hG := C.2.2.2.2.2.2.2.2.1
  refine va_newq C.1 C.2.1 C.2.2.2.1 (C.2.2.2.2.1 _ hw) hG.2.2.2.2.2.2.2 hG.1 hH (mj_D E mem) hS (mj_hA C.2.2.2.2.2.2.2.2.2) hn hN (by omega) (by show _ ≤ mem'.1.length - L0; omega) (by show _ ≤ mj_sz mem' - S0; omega) hd fun q cA H1 a0 a1 a2 a3 => ?_
  have g1 : va_RA s (E.2.1 2) (.object "MarketTown$Town") := (a0.2 2 _ rfl).2
  have g2 : va_RA s cA (.object "MarketTown$Town") := (a0.2 3 _ rfl).2
  have g3 : E.2.1 2 = cA := by
    obtain ⟨_, _, _, _, _, x1⟩ := g1
    obtain ⟨_, _, _, _, _, x2⟩ := g2
    exact Option.some.inj (x1.symm.trans x2)
  subst g3
  exact mj_born (c0 := (2, N, fun _ => none)) rfl hlen kk C h1 h2 a1 a2 a3 hL
theorem mj_obj {idx b : Nat} (hd : decode M.2.1 pc = .ok (.invokespecial idx, 3)) (hw : Cond.methodLink M.1.cls idx Lib.objectInit ∈ TB ∧ Cond.instanceMethod Lib.objectInit ∈ TB ∧ Cond.code Lib.objectInit ⟨#[0xb1]⟩ 1 none ∈ TB) (hb : b < 1000000) (hf : 1 ≤ M.2.2.2.2.1) (hr : (st.map fun v => v.category).sum + 12 ≤ M.2.2.2.2.2)
    (kk : mj_R M (pc + 3) lv st mem r mem') : mj_R M pc lv (.ref b :: st) mem r mem' :=
  ⟨kk.1, fun E l p e s m args below meth c L0 S0 C h1 h2 H locs ls hH hS hL => by
    rw [List.map_cons, mj_adw hb]
    refine W.objInit C.1 C.2.1 C.2.2.2.1 (C.2.2.2.2.1 _ hw.1) (C.2.2.2.2.1 _ hw.2.1) (C.2.2.2.2.1 _ hw.2.2) rfl (hL.1.trans C.2.2.1.symm) rfl hd hf ?_ (kk.2 E l p e s m args below meth c L0 S0 C h1 h2 H locs ls hH hS hL)
    show 2 * (F0 m pc ls _).monitorRoom + ((st.map (mj_cv E)).map fun v => v.category).sum + 12 ≤ M.2.2.2.2.2
    rw [mj_cats C.2.2.2.2.2.2.2.2.1.2.2.2.2.2.2.1]
    have hm : (F0 m pc ls (.ref (E.2.2.1 + b) :: st.map (mj_cv E))).monitorRoom = 0 := rfl
    rw [hm]
    omega⟩
/-- arrays copied -/
def mj_cp (f : Nat → Nat → Int32) (a b : Nat) (sp dp n : Nat) : Nat → Nat → Int32 := fun i => if i = b then va_cpy (f a) (f b) sp dp n else f i
theorem mj_copy {idx a b n0 n1 : Nat} {rs0 rs1 : Nat → Option Nat} {sp dp n : Int32} (hd : decode M.2.1 pc = .ok (.invokestatic idx, 3)) (hw : Cond.methodLink M.1.cls idx arraycopyName ∈ TB ∧ Cond.native arraycopyName ∈ TB ∧ Cond.static arraycopyName ∈ TB ∧ Cond.initialized "java/lang/System" ∈ TB) (hc0 : mem.1[a]? = some (0, n0, rs0)) (hc1 : mem.1[b]? = some (0, n1, rs1)) (ha : a < 1000000) (hb : b < 1000000)
    (h3 : ¬ sp < 0) (h4 : ¬ dp < 0) (h5 : ¬ n < 0) (h6 : sp.toNatClampNeg + n.toNatClampNeg ≤ n0) (h7 : dp.toNatClampNeg + n.toNatClampNeg ≤ n1) (hf : 1 ≤ M.2.2.2.2.1) (hr : (st.map fun v => v.category).sum + (nativeFrameWords "java/lang/System" "arraycopy" 5 + 11) ≤ M.2.2.2.2.2)
    (kk : mj_R M (pc + 3) lv st (mem.1, mj_cp mem.2 a b sp.toNatClampNeg dp.toNatClampNeg n.toNatClampNeg) r mem') : mj_R M pc lv (.int n :: .int dp :: .ref b :: .int sp :: .ref a :: st) mem r mem' :=
  ⟨kk.1, fun E l p e s m args below meth c L0 S0 C h1 h2 H locs ls hH hS hL => by
    rw [List.map_cons, List.map_cons, List.map_cons, List.map_cons, List.map_cons, mj_adw ha, mj_adw hb]
    refine va_copyi C.1 C.2.1 (C.2.2.1.trans hL.1.symm) C.2.2.2.1 (C.2.2.2.2.1 _ hw.1) (C.2.2.2.2.1 _ hw.2.1) (C.2.2.2.2.1 _ hw.2.2.1) (C.2.2.2.2.1 _ hw.2.2.2) C.2.2.2.2.2.2.2.2.1.1 hH (mj_D E mem) hS a b 0 0 (mj_wl_get hc0) (mj_wl_get hc1) rfl rfl rfl h3 h4 h5 h6 h7 (fun i hi => rfl) hf (by rw [mj_cats C.2.2.2.2.2.2.2.2.1.2.2.2.2.2.2.1]; exact hr) hd fun H1 locs1 a1 a2 a3 => ?_
    refine kk.2 E l p e s m args below meth c L0 S0 C h1 h2 H1 locs1 ls ?_ a3 hL
    unfold mj_H
    rw [← mj_wl_set (E := E) (g := mj_cp mem.2 a b sp.toNatClampNeg dp.toNatClampNeg n.toNatClampNeg) hc1 (fun i hi => if_neg hi)]
    have e1 : mj_cp mem.2 a b sp.toNatClampNeg dp.toNatClampNeg n.toNatClampNeg b = va_cpy (mem.2 a) (mem.2 b) sp.toNatClampNeg dp.toNatClampNeg n.toNatClampNeg := if_pos rfl
    rw [e1]
    exact a1⟩
/-- Strings -/
theorem mj_adK {E : mj_E} {j : Nat} (hj : j < 14) : mj_cv E (.ref (1000000 + j)) = .ref (E.2.2.2.1 j) := by
  show mj_ad E (1000000 + j) = _
  unfold mj_ad
  rw [if_neg (by omega), if_pos (by omega), Nat.add_sub_cancel_left]
theorem mj_adV {E : mj_E} {j : Nat} (hj : j < 14) : mj_cv E (.ref (2000000 + j)) = .ref (E.2.2.2.2.1 j) := by
  show mj_ad E (2000000 + j) = _
  unfold mj_ad
  rw [if_neg (by omega), if_neg (by omega), if_pos (by omega), Nat.add_sub_cancel_left]
theorem mj_ldcS {idx j : Nat} (hd : decode M.2.1 pc = .ok (.ldc idx, 2)) (ho : M.1.cls = "MarketTown$RuleReader") (hj : j < 14) (hi : kSix.getD j 0 = idx)
    (kk : mj_R M (pc + 2) lv (.ref (1000000 + j) :: st) mem r mem') : mj_R M pc lv st mem r mem' :=
  ⟨kk.1, fun E l p e s m args below meth c L0 S0 C h1 h2 H locs ls hH hS hL => by
    have k1 := kk.2 E l p e s m args below meth c L0 S0 C h1 h2 H locs ls hH hS hL
    rw [List.map_cons, mj_adK hj] at k1
    subst hi
    exact va_ldcS C.1 C.2.1 (ho ▸ C.2.2.2.1) (C.2.2.2.2.2.2.2.2.1.2.2.1 j hj) hd k1⟩
theorem mj_sval {idx j : Nat} (hd : decode M.2.1 pc = .ok (.getfield idx, 3)) (hj : j < 14) (hl : Cond.fieldLink M.1.cls idx "java/lang/String" "value" "[B" ∈ TB)
    (kk : mj_R M (pc + 3) lv (.ref (2000000 + j) :: st) mem r mem') : mj_R M pc lv (.ref (1000000 + j) :: st) mem r mem' :=
  ⟨kk.1, fun E l p e s m args below meth c L0 S0 C h1 h2 H locs ls hH hS hL => by
    have k1 := kk.2 E l p e s m args below meth c L0 S0 C h1 h2 H locs ls hH hS hL
    rw [List.map_cons, mj_adV hj] at k1
    rw [List.map_cons, mj_adK hj]
    exact vk_getf C.1 C.2.1 (C.2.2.2.2.2.2.2.2.1.2.2.2.1.1 j hj).2.2.1 hS C.2.2.2.1 (C.2.2.2.2.1 _ hl) (fun x h => h) hd k1⟩
theorem mj_scod {idx j : Nat} (hd : decode M.2.1 pc = .ok (.getfield idx, 3)) (hj : j < 14) (hl : Cond.fieldLink M.1.cls idx "java/lang/String" "coder" "B" ∈ TB)
    (kk : mj_R M (pc + 3) lv (.int 0 :: st) mem r mem') : mj_R M pc lv (.ref (1000000 + j) :: st) mem r mem' :=
  ⟨kk.1, fun E l p e s m args below meth c L0 S0 C h1 h2 H locs ls hH hS hL => by
    have k1 := kk.2 E l p e s m args below meth c L0 S0 C h1 h2 H locs ls hH hS hL
    rw [List.map_cons, mj_adK hj]
    exact vk_getf C.1 C.2.1 (C.2.2.2.2.2.2.2.2.1.2.2.2.1.1 j hj).2.1 hS C.2.2.2.1 (C.2.2.2.2.1 _ hl) (fun x h => h) hd k1⟩
theorem mj_scst {idx : Nat} (hd : decode M.2.1 pc = .ok (.getstatic idx, 3)) (hl : Cond.fieldLink M.1.cls idx "java/lang/String" "COMPACT_STRINGS" "Z" ∈ TB)
    (kk : mj_R M (pc + 3) lv (.int 1 :: st) mem r mem') : mj_R M pc lv st mem r mem' :=
  ⟨kk.1, fun E l p e s m args below meth c L0 S0 C h1 h2 H locs ls hH hS hL =>
    va_gets C.1 C.2.1 C.2.2.2.2.2.2.2.2.1.2.2.2.2.1 hS C.2.2.2.1 (C.2.2.2.2.1 _ hl) (fun x h => h) hd (kk.2 E l p e s m args below meth c L0 S0 C h1 h2 H locs ls hH hS hL)⟩
theorem mj_sfmt {idx : Nat} (hd : decode M.2.1 pc = .ok (.getstatic idx, 3)) (hl : Cond.fieldLink M.1.cls idx "jdk/internal/util/Preconditions" "SIOOBE_FORMATTER" "Ljava/util/function/BiFunction;" ∈ TB)
    (kk : mj_R M (pc + 3) lv (.ref 3000000 :: st) mem r mem') : mj_R M pc lv st mem r mem' :=
  ⟨kk.1, fun E l p e s m args below meth c L0 S0 C h1 h2 H locs ls hH hS hL => by
    have k1 := kk.2 E l p e s m args below meth c L0 S0 C h1 h2 H locs ls hH hS hL
    have e1 : mj_cv E (.ref 3000000) = E.2.2.2.2.2 := by
      show mj_ad E 3000000 = _
      unfold mj_ad
      rw [if_neg (by omega), if_neg (by omega), if_neg (by omega)]
    rw [List.map_cons, e1] at k1
    exact va_gets C.1 C.2.1 C.2.2.2.2.2.2.2.2.1.2.2.2.2.2.1 hS C.2.2.2.1 (C.2.2.2.2.1 _ hl) (fun x h => h) hd k1⟩
theorem mj_slen {j : Nat} (hd : decode M.2.1 pc = .ok (.arraylength, 1)) (hj : j < 14)
    (kk : mj_R M (pc + 1) lv (.int (Int32.ofNat (kSln.getD j 0)) :: st) mem r mem') : mj_R M pc lv (.ref (2000000 + j) :: st) mem r mem' :=
  ⟨kk.1, fun E l p e s m args below meth c L0 S0 C h1 h2 H locs ls hH hS hL => by
    rw [List.map_cons, mj_adV hj]
    exact va_tlen C.1 C.2.1 (C.2.2.2.2.2.2.2.2.1.2.2.2.1.1 j hj).2.2.2 hS rfl hd (kk.2 E l p e s m args below meth c L0 S0 C h1 h2 H locs ls hH hS hL)⟩
theorem mj_sbyt {j : Nat} {i : Int32} (hd : decode M.2.1 pc = .ok (.baload, 1)) (hj : j < 14) (hi : vp_in i (kSln.getD j 0))
    (kk : mj_R M (pc + 1) lv (.int ((kSby.getD j []).getD i.toNatClampNeg 0) :: st) mem r mem') : mj_R M pc lv (.int i :: .ref (2000000 + j) :: st) mem r mem' :=
  ⟨kk.1, fun E l p e s m args below meth c L0 S0 C h1 h2 H locs ls hH hS hL => by
    rw [List.map_cons, List.map_cons, mj_adV hj]
    exact va_tb C.1 C.2.1 (C.2.2.2.2.2.2.2.2.1.2.2.2.1.1 j hj).2.2.2 hS hi rfl hd (kk.2 E l p e s m args below meth c L0 S0 C h1 h2 H locs ls hH hS hL)⟩
end MJN
end
section
abbrev St : Type := Nat → Nat → Int32
def mj_rs (l : List (Option Nat)) : Nat → Option Nat := fun k => (l[k]?).join
def SH : List (Nat × Nat × (Nat → Option Nat)) := [(3, 6, (mj_rs [some 1, some 17, some 18, some 19, some 21, some 23])), (12, 14, (mj_rs [none, none, none, none, none, some 2, some 3, some 4, some 5, some 6, some 7, some 10, some 12, some 15])), (0, 12, (fun _ => none)), (0, 12, (fun _ => none)), (0, 12, (fun _ => none)), (0, 12, (fun _ => none)), (0, 720, (fun _ => none)), (10, 2, (mj_rs [some 8, some 9])), (0, 600, (fun _ => none)), (0, 60, (fun _ => none)), (13, 1, (mj_rs [some 11])), (0, 55, (fun _ => none)), (9, 2, (mj_rs [some 13, some 14])), (0, 12, (fun _ => none)), (0, 648, (fun _ => none)), (5, 2, (mj_rs [none, some 16])), (0, 80, (fun _ => none)), (2, 3, (mj_rs [some 40, some 56, some 72])), (1, 3, (fun _ => none)), (11, 2, (mj_rs [none, some 20])), (0, 60, (fun _ => none)), (8, 3, (mj_rs [some 22])), (0, 9, (fun _ => none)), (4, 2, (mj_rs [some 24, some 25])), (0, 12, (fun _ => none)), (6, 5, (mj_rs [some 26, some 32, some 38, some 39])), (7, 7, (mj_rs [some 27, some 28, some 29, some 30, none, some 31])), (0, 72, (fun _ => none)), (0, 72, (fun _ => none)), (0, 72, (fun _ => none)), (0, 72, (fun _ => none)), (0, 72, (fun _ => none)), (7, 7, (mj_rs [some 33, some 34, some 35, some 36, none, some 37])), (0, 72, (fun _ => none)), (0, 72, (fun _ => none)), (0, 72, (fun _ => none)), (0, 72, (fun _ => none)), (0, 72, (fun _ => none)), (0, 60, (fun _ => none)), (0, 12, (fun _ => none)), (12, 14, (mj_rs [none, none, none, none, none, some 41, some 42, some 43, some 44, some 45, some 46, some 49, some 51, some 54])), (0, 12, (fun _ => none)), (0, 12, (fun _ => none)), (0, 12, (fun _ => none)), (0, 12, (fun _ => none)), (0, 720, (fun _ => none)), (10, 2, (mj_rs [some 47, some 48])), (0, 600, (fun _ => none)), (0, 60, (fun _ => none)), (13, 1, (mj_rs [some 50])), (0, 55, (fun _ => none)), (9, 2, (mj_rs [some 52, some 53])), (0, 12, (fun _ => none)), (0, 648, (fun _ => none)), (5, 2, (mj_rs [none, some 55])), (0, 80, (fun _ => none)), (12, 14, (mj_rs [none, none, none, none, none, some 57, some 58, some 59, some 60, some 61, some 62, some 65, some 67, some 70])), (0, 12, (fun _ => none)), (0, 12, (fun _ => none)), (0, 12, (fun _ => none)), (0, 12, (fun _ => none)), (0, 720, (fun _ => none)), (10, 2, (mj_rs [some 63, some 64])), (0, 600, (fun _ => none)), (0, 60, (fun _ => none)), (13, 1, (mj_rs [some 66])), (0, 55, (fun _ => none)), (9, 2, (mj_rs [some 68, some 69])), (0, 12, (fun _ => none)), (0, 648, (fun _ => none)), (5, 2, (mj_rs [none, some 71])), (0, 80, (fun _ => none)), (12, 14, (mj_rs [none, none, none, none, none, some 73, some 74, some 75, some 76, some 77, some 78, some 81, some 83, some 86])), (0, 12, (fun _ => none)), (0, 12, (fun _ => none)), (0, 12, (fun _ => none)), (0, 12, (fun _ => none)), (0, 720, (fun _ => none)), (10, 2, (mj_rs [some 79, some 80])), (0, 600, (fun _ => none)), (0, 60, (fun _ => none)), (13, 1, (mj_rs [some 82])), (0, 55, (fun _ => none)), (9, 2, (mj_rs [some 84, some 85])), (0, 12, (fun _ => none)), (0, 648, (fun _ => none)), (5, 2, (mj_rs [none, some 87])), (0, 80, (fun _ => none)), (14, 21, (mj_rs [some 89, some 90, some 91, some 92, none, some 93, some 94, some 95, some 96, some 97, some 98, none, none, none, none, none, none, some 99, some 100, some 101, some 102])), (0, 2200, (fun _ => none)), (0, 6600, (fun _ => none)), (1, 3, (fun _ => none)), (0, 60, (fun _ => none)), (0, 80, (fun _ => none)), (0, 80, (fun _ => none)), (0, 80, (fun _ => none)), (0, 80, (fun _ => none)), (1, 80, (fun _ => none)), (0, 80, (fun _ => none)), (0, 9, (fun _ => none)), (0, 12, (fun _ => none)), (0, 10, (fun _ => none)), (0, 20, (fun _ => none))]
theorem sh_0 : SH[0]? = some (0 + 3, 6, (mj_rs [some 1, some 17, some 18, some 19, some 21, some 23])) := rfl
theorem sh_1 : SH[1]? = some (9 + 3, 14, (mj_rs [none, none, none, none, none, some 2, some 3, some 4, some 5, some 6, some 7, some 10, some 12, some 15])) := rfl
theorem sh_2 : SH[2]? = some (0, 12, (fun _ => none)) := rfl
theorem sh_3 : SH[3]? = some (0, 12, (fun _ => none)) := rfl
theorem sh_4 : SH[4]? = some (0, 12, (fun _ => none)) := rfl
theorem sh_5 : SH[5]? = some (0, 12, (fun _ => none)) := rfl
theorem sh_6 : SH[6]? = some (0, 720, (fun _ => none)) := rfl
theorem sh_7 : SH[7]? = some (7 + 3, 2, (mj_rs [some 8, some 9])) := rfl
theorem sh_8 : SH[8]? = some (0, 600, (fun _ => none)) := rfl
theorem sh_9 : SH[9]? = some (0, 60, (fun _ => none)) := rfl
theorem sh_10 : SH[10]? = some (10 + 3, 1, (mj_rs [some 11])) := rfl
theorem sh_11 : SH[11]? = some (0, 55, (fun _ => none)) := rfl
theorem sh_12 : SH[12]? = some (6 + 3, 2, (mj_rs [some 13, some 14])) := rfl
theorem sh_13 : SH[13]? = some (0, 12, (fun _ => none)) := rfl
theorem sh_14 : SH[14]? = some (0, 648, (fun _ => none)) := rfl
theorem sh_15 : SH[15]? = some (2 + 3, 2, (mj_rs [none, some 16])) := rfl
theorem sh_16 : SH[16]? = some (0, 80, (fun _ => none)) := rfl
theorem sh_17 : SH[17]? = some (2, 3, (mj_rs [some 40, some 56, some 72])) := rfl
theorem sh_18 : SH[18]? = some (1, 3, (fun _ => none)) := rfl
theorem sh_19 : SH[19]? = some (8 + 3, 2, (mj_rs [none, some 20])) := rfl
theorem sh_20 : SH[20]? = some (0, 60, (fun _ => none)) := rfl
theorem sh_21 : SH[21]? = some (5 + 3, 3, (mj_rs [some 22])) := rfl
theorem sh_22 : SH[22]? = some (0, 9, (fun _ => none)) := rfl
theorem sh_23 : SH[23]? = some (1 + 3, 2, (mj_rs [some 24, some 25])) := rfl
theorem sh_24 : SH[24]? = some (0, 12, (fun _ => none)) := rfl
theorem sh_25 : SH[25]? = some (3 + 3, 5, (mj_rs [some 26, some 32, some 38, some 39])) := rfl
theorem sh_26 : SH[26]? = some (4 + 3, 7, (mj_rs [some 27, some 28, some 29, some 30, none, some 31])) := rfl
theorem sh_27 : SH[27]? = some (0, 72, (fun _ => none)) := rfl
theorem sh_28 : SH[28]? = some (0, 72, (fun _ => none)) := rfl
theorem sh_29 : SH[29]? = some (0, 72, (fun _ => none)) := rfl
theorem sh_30 : SH[30]? = some (0, 72, (fun _ => none)) := rfl
theorem sh_31 : SH[31]? = some (0, 72, (fun _ => none)) := rfl
theorem sh_32 : SH[32]? = some (4 + 3, 7, (mj_rs [some 33, some 34, some 35, some 36, none, some 37])) := rfl
theorem sh_33 : SH[33]? = some (0, 72, (fun _ => none)) := rfl
theorem sh_34 : SH[34]? = some (0, 72, (fun _ => none)) := rfl
theorem sh_35 : SH[35]? = some (0, 72, (fun _ => none)) := rfl
theorem sh_36 : SH[36]? = some (0, 72, (fun _ => none)) := rfl
theorem sh_37 : SH[37]? = some (0, 72, (fun _ => none)) := rfl
theorem sh_38 : SH[38]? = some (0, 60, (fun _ => none)) := rfl
theorem sh_39 : SH[39]? = some (0, 12, (fun _ => none)) := rfl
theorem sh_40 : SH[40]? = some (9 + 3, 14, (mj_rs [none, none, none, none, none, some 41, some 42, some 43, some 44, some 45, some 46, some 49, some 51, some 54])) := rfl
theorem sh_41 : SH[41]? = some (0, 12, (fun _ => none)) := rfl
theorem sh_42 : SH[42]? = some (0, 12, (fun _ => none)) := rfl
theorem sh_43 : SH[43]? = some (0, 12, (fun _ => none)) := rfl
theorem sh_44 : SH[44]? = some (0, 12, (fun _ => none)) := rfl
theorem sh_45 : SH[45]? = some (0, 720, (fun _ => none)) := rfl
theorem sh_46 : SH[46]? = some (7 + 3, 2, (mj_rs [some 47, some 48])) := rfl
theorem sh_47 : SH[47]? = some (0, 600, (fun _ => none)) := rfl
theorem sh_48 : SH[48]? = some (0, 60, (fun _ => none)) := rfl
theorem sh_49 : SH[49]? = some (10 + 3, 1, (mj_rs [some 50])) := rfl
theorem sh_50 : SH[50]? = some (0, 55, (fun _ => none)) := rfl
theorem sh_51 : SH[51]? = some (6 + 3, 2, (mj_rs [some 52, some 53])) := rfl
theorem sh_52 : SH[52]? = some (0, 12, (fun _ => none)) := rfl
theorem sh_53 : SH[53]? = some (0, 648, (fun _ => none)) := rfl
theorem sh_54 : SH[54]? = some (2 + 3, 2, (mj_rs [none, some 55])) := rfl
theorem sh_55 : SH[55]? = some (0, 80, (fun _ => none)) := rfl
theorem sh_56 : SH[56]? = some (9 + 3, 14, (mj_rs [none, none, none, none, none, some 57, some 58, some 59, some 60, some 61, some 62, some 65, some 67, some 70])) := rfl
theorem sh_57 : SH[57]? = some (0, 12, (fun _ => none)) := rfl
theorem sh_58 : SH[58]? = some (0, 12, (fun _ => none)) := rfl
theorem sh_59 : SH[59]? = some (0, 12, (fun _ => none)) := rfl
theorem sh_60 : SH[60]? = some (0, 12, (fun _ => none)) := rfl
theorem sh_61 : SH[61]? = some (0, 720, (fun _ => none)) := rfl
theorem sh_62 : SH[62]? = some (7 + 3, 2, (mj_rs [some 63, some 64])) := rfl
theorem sh_63 : SH[63]? = some (0, 600, (fun _ => none)) := rfl
theorem sh_64 : SH[64]? = some (0, 60, (fun _ => none)) := rfl
theorem sh_65 : SH[65]? = some (10 + 3, 1, (mj_rs [some 66])) := rfl
theorem sh_66 : SH[66]? = some (0, 55, (fun _ => none)) := rfl
theorem sh_67 : SH[67]? = some (6 + 3, 2, (mj_rs [some 68, some 69])) := rfl
theorem sh_68 : SH[68]? = some (0, 12, (fun _ => none)) := rfl
theorem sh_69 : SH[69]? = some (0, 648, (fun _ => none)) := rfl
theorem sh_70 : SH[70]? = some (2 + 3, 2, (mj_rs [none, some 71])) := rfl
theorem sh_71 : SH[71]? = some (0, 80, (fun _ => none)) := rfl
theorem sh_72 : SH[72]? = some (9 + 3, 14, (mj_rs [none, none, none, none, none, some 73, some 74, some 75, some 76, some 77, some 78, some 81, some 83, some 86])) := rfl
theorem sh_73 : SH[73]? = some (0, 12, (fun _ => none)) := rfl
theorem sh_74 : SH[74]? = some (0, 12, (fun _ => none)) := rfl
theorem sh_75 : SH[75]? = some (0, 12, (fun _ => none)) := rfl
theorem sh_76 : SH[76]? = some (0, 12, (fun _ => none)) := rfl
theorem sh_77 : SH[77]? = some (0, 720, (fun _ => none)) := rfl
theorem sh_78 : SH[78]? = some (7 + 3, 2, (mj_rs [some 79, some 80])) := rfl
theorem sh_79 : SH[79]? = some (0, 600, (fun _ => none)) := rfl
theorem sh_80 : SH[80]? = some (0, 60, (fun _ => none)) := rfl
theorem sh_81 : SH[81]? = some (10 + 3, 1, (mj_rs [some 82])) := rfl
theorem sh_82 : SH[82]? = some (0, 55, (fun _ => none)) := rfl
theorem sh_83 : SH[83]? = some (6 + 3, 2, (mj_rs [some 84, some 85])) := rfl
theorem sh_84 : SH[84]? = some (0, 12, (fun _ => none)) := rfl
theorem sh_85 : SH[85]? = some (0, 648, (fun _ => none)) := rfl
theorem sh_86 : SH[86]? = some (2 + 3, 2, (mj_rs [none, some 87])) := rfl
theorem sh_87 : SH[87]? = some (0, 80, (fun _ => none)) := rfl
theorem sh_88 : SH[88]? = some (11 + 3, 21, (mj_rs [some 89, some 90, some 91, some 92, none, some 93, some 94, some 95, some 96, some 97, some 98, none, none, none, none, none, none, some 99, some 100, some 101, some 102])) := rfl
theorem sh_89 : SH[89]? = some (0, 2200, (fun _ => none)) := rfl
theorem sh_90 : SH[90]? = some (0, 6600, (fun _ => none)) := rfl
theorem sh_91 : SH[91]? = some (1, 3, (fun _ => none)) := rfl
theorem sh_92 : SH[92]? = some (0, 60, (fun _ => none)) := rfl
theorem sh_93 : SH[93]? = some (0, 80, (fun _ => none)) := rfl
theorem sh_94 : SH[94]? = some (0, 80, (fun _ => none)) := rfl
theorem sh_95 : SH[95]? = some (0, 80, (fun _ => none)) := rfl
theorem sh_96 : SH[96]? = some (0, 80, (fun _ => none)) := rfl
theorem sh_97 : SH[97]? = some (1, 80, (fun _ => none)) := rfl
theorem sh_98 : SH[98]? = some (0, 80, (fun _ => none)) := rfl
theorem sh_99 : SH[99]? = some (0, 9, (fun _ => none)) := rfl
theorem sh_100 : SH[100]? = some (0, 12, (fun _ => none)) := rfl
theorem sh_101 : SH[101]? = some (0, 10, (fun _ => none)) := rfl
theorem sh_102 : SH[102]? = some (0, 20, (fun _ => none)) := rfl
/-- the class's cells, and the reference's -/
def jn (C D : St) : St := fun i => if i < 88 then C i else D i
theorem jn_C {C D : St} {b : Nat} (h : b < 88) : jn C D b = C b := if_pos h
theorem jn_D {C D : St} {b : Nat} (h : ¬ b < 88) : jn C D b = D b := if_neg h
theorem jn_wC {C D : St} {b k : Nat} {x : Int32} (h : b < 88) : mj_wr (jn C D) b k x = jn (mj_wr C b k x) D := by
  funext i j
  by_cases hi : i < 88
  · show (if i = b ∧ j = k then x else jn C D i j) = jn _ D i j
    rw [jn_C hi, jn_C hi]
    rfl
  · show (if i = b ∧ j = k then x else jn C D i j) = jn _ D i j
    rw [jn_D hi, jn_D hi, if_neg (by omega)]
theorem jn_wD {C D : St} {b k : Nat} {x : Int32} (h : ¬ b < 88) : mj_wr (jn C D) b k x = jn C (mj_wr D b k x) := by
  funext i j
  by_cases hi : i < 88
  · show (if i = b ∧ j = k then x else jn C D i j) = jn C _ i j
    rw [jn_C hi, jn_C hi, if_neg (by omega)]
  · show (if i = b ∧ j = k then x else jn C D i j) = jn C _ i j
    rw [jn_D hi, jn_D hi]
    rfl
theorem jn_cp {C D : St} {a b sp dp n : Nat} (ha : a < 88) (h : b < 88) : mj_cp (jn C D) a b sp dp n = jn (mj_cp C a b sp dp n) D := by
  funext i j
  by_cases hi : i < 88
  · rw [jn_C (C := mj_cp C a b sp dp n) hi]
    show (if i = b then va_cpy (jn C D a) (jn C D b) sp dp n else jn C D i) j = (if i = b then va_cpy (C a) (C b) sp dp n else C i) j
    rw [jn_C ha, jn_C h, jn_C hi]
  · rw [jn_D (C := mj_cp C a b sp dp n) hi]
    show (if i = b then va_cpy (jn C D a) (jn C D b) sp dp n else jn C D i) j = D i j
    rw [if_neg (by omega), jn_D hi]
abbrev inb (i : Int32) (n : Nat) : Prop := 0 ≤ i.toInt ∧ i.toInt < n
theorem inb_in {i : Int32} {n : Nat} (h : inb i n) : vp_in i n := vp_in_iff.mpr h
theorem mj_gd {α : Type} {p : Prop} [Decidable p] {x : Option α} {z : α} (h : (if p then x else none) = some z) : p ∧ x = some z := by
  by_cases hp : p
  · rw [if_pos hp] at h; exact ⟨hp, h⟩
  · rw [if_neg hp] at h; cases h
theorem mj_gz {α : Type} {p : Prop} [Decidable p] {x : Option α} {z : α} (h : (if p then none else x) = some z) : ¬ p ∧ x = some z := by
  by_cases hp : p
  · rw [if_pos hp] at h; cases h
  · rw [if_neg hp] at h; exact ⟨hp, h⟩
theorem mj_hs {sh : List (Nat × Nat × (Nat → Option Nat))} {x y : St} : (sh, x).1.length ≤ (sh, y).1.length ∧ mj_sz (sh, x) ≤ mj_sz (sh, y) := ⟨Nat.le_refl _, Nat.le_refl _⟩
theorem mj_hn {mem : mj_Mem} : mem.1.length ≤ mem.1.length ∧ mj_sz mem ≤ mj_sz mem := ⟨Nat.le_refl _, Nat.le_refl _⟩
/-- fewer known locals -/
def mj_le : List (Option Value) → List (Option Value) → Prop
  | [], _ => True
  | none :: a, _ :: b => mj_le a b
  | none :: a, [] => mj_le a []
  | some v :: a, w :: b => w = some v ∧ mj_le a b
  | some _ :: _, [] => False
theorem mj_le_at : ∀ {a b : List (Option Value)}, mj_le a b → ∀ (i : Nat) (v : Value), a[i]? = some (some v) → b[i]? = some (some v)
  | [], _, _, i, v, h => by simp at h
  | none :: a, _ :: b, hl, i, v, h => by
    match i, h with
    | 0, h => simp at h
    | i + 1, h => simpa using mj_le_at (a := a) (b := b) hl i v (by simpa using h)
  | none :: a, [], hl, i, v, h => by
    match i, h with
    | 0, h => simp at h
    | i + 1, h => have := mj_le_at (a := a) (b := []) hl i v (by simpa using h); simp at this
  | some w :: a, x :: b, hl, i, v, h => by
    match i, h with
    | 0, h =>
      have h' : w = v := by simpa using h
      subst h'
      have := hl.1
      simp [this]
    | i + 1, h => simpa using mj_le_at (a := a) (b := b) hl.2 i v (by simpa using h)
  | some _ :: _, [], hl, _, _, _ => hl.elim
theorem mj_weak {M : mj_M} {pc : Nat} {lv : List (Option Value)} (lv' : List (Option Value)) {st : List Value} {mem mem' : mj_Mem} {r : Option Value} (h : mj_le lv' lv) (k : mj_R M pc lv' st mem r mem') : mj_R M pc lv st mem r mem' :=
  ⟨k.1, fun E l p e s m args below meth c L0 S0 C h1 h2 H locs ls hH hS hL => k.2 E l p e s m args below meth c L0 S0 C h1 h2 H locs ls hH hS ⟨hL.1, hL.2.1, fun i v hv => hL.2.2 i v (mj_le_at h i v hv)⟩⟩
theorem i32_ne {x v : Int32} {n : Int} (hv : v.toInt = n) (h : ¬ x = v) : x.toInt ≠ n := fun e => h (Int32.toInt_inj.mp (e.trans hv.symm))
theorem mj_b01 {x : Int32} (h : x = 0 ∨ x = 1) : narrow .boolean (.int x) = .int x := by
  rcases h with rfl | rfl <;> decide
def bd1 {α β : Type} (o : Option α) (f : α → Option β) : Option β := match o with
  | some a => f a
  | none => none
theorem bd1_some {α β : Type} {o : Option α} {f : α → Option β} {z : β} (h : bd1 o f = some z) : ∃ a, o = some a ∧ f a = some z := by
  cases o with
  | none => cases h
  | some a => exact ⟨a, rfl, h⟩
def bdS {α β γ : Type} (o : Option (α ⊕ β)) (f : α → Option γ) (g : β → Option γ) : Option γ := match o with
  | some (.inl a) => f a
  | some (.inr b) => g b
  | none => none
theorem bdS_some {α β γ : Type} {o : Option (α ⊕ β)} {f : α → Option γ} {g : β → Option γ} {z : γ} (h : bdS o f g = some z) : (∃ a, o = some (.inl a) ∧ f a = some z) ∨ ∃ b, o = some (.inr b) ∧ g b = some z := by
  match o, h with
  | some (.inl a), h => exact Or.inl ⟨a, rfl, h⟩
  | some (.inr b), h => exact Or.inr ⟨b, rfl, h⟩
def bd2 {α1 α2 β : Type} (o : Option (α1 × α2)) (f : α1 → α2 → Option β) : Option β := match o with
  | some (a1, a2) => f a1 a2
  | none => none
theorem bd2_some {α1 α2 β : Type} {o : Option (α1 × α2)} {f : α1 → α2 → Option β} {z : β} (h : bd2 o f = some z) : ∃ a1 a2, o = some (a1, a2) ∧ f a1 a2 = some z := by
  cases o with
  | none => cases h
  | some a => exact ⟨a.1, a.2, rfl, h⟩
def bd3 {α1 α2 α3 β : Type} (o : Option (α1 × α2 × α3)) (f : α1 → α2 → α3 → Option β) : Option β := match o with
  | some (a1, a2, a3) => f a1 a2 a3
  | none => none
theorem bd3_some {α1 α2 α3 β : Type} {o : Option (α1 × α2 × α3)} {f : α1 → α2 → α3 → Option β} {z : β} (h : bd3 o f = some z) : ∃ a1 a2 a3, o = some (a1, a2, a3) ∧ f a1 a2 a3 = some z := by
  cases o with
  | none => cases h
  | some a => exact ⟨a.1, a.2.1, a.2.2, rfl, h⟩
def bd4 {α1 α2 α3 α4 β : Type} (o : Option (α1 × α2 × α3 × α4)) (f : α1 → α2 → α3 → α4 → Option β) : Option β := match o with
  | some (a1, a2, a3, a4) => f a1 a2 a3 a4
  | none => none
theorem bd4_some {α1 α2 α3 α4 β : Type} {o : Option (α1 × α2 × α3 × α4)} {f : α1 → α2 → α3 → α4 → Option β} {z : β} (h : bd4 o f = some z) : ∃ a1 a2 a3 a4, o = some (a1, a2, a3, a4) ∧ f a1 a2 a3 a4 = some z := by
  cases o with
  | none => cases h
  | some a => exact ⟨a.1, a.2.1, a.2.2.1, a.2.2.2, rfl, h⟩
def bd5 {α1 α2 α3 α4 α5 β : Type} (o : Option (α1 × α2 × α3 × α4 × α5)) (f : α1 → α2 → α3 → α4 → α5 → Option β) : Option β := match o with
  | some (a1, a2, a3, a4, a5) => f a1 a2 a3 a4 a5
  | none => none
theorem bd5_some {α1 α2 α3 α4 α5 β : Type} {o : Option (α1 × α2 × α3 × α4 × α5)} {f : α1 → α2 → α3 → α4 → α5 → Option β} {z : β} (h : bd5 o f = some z) : ∃ a1 a2 a3 a4 a5, o = some (a1, a2, a3, a4, a5) ∧ f a1 a2 a3 a4 a5 = some z := by
  cases o with
  | none => cases h
  | some a => exact ⟨a.1, a.2.1, a.2.2.1, a.2.2.2.1, a.2.2.2.2, rfl, h⟩
def bd6 {α1 α2 α3 α4 α5 α6 β : Type} (o : Option (α1 × α2 × α3 × α4 × α5 × α6)) (f : α1 → α2 → α3 → α4 → α5 → α6 → Option β) : Option β := match o with
  | some (a1, a2, a3, a4, a5, a6) => f a1 a2 a3 a4 a5 a6
  | none => none
theorem bd6_some {α1 α2 α3 α4 α5 α6 β : Type} {o : Option (α1 × α2 × α3 × α4 × α5 × α6)} {f : α1 → α2 → α3 → α4 → α5 → α6 → Option β} {z : β} (h : bd6 o f = some z) : ∃ a1 a2 a3 a4 a5 a6, o = some (a1, a2, a3, a4, a5, a6) ∧ f a1 a2 a3 a4 a5 a6 = some z := by
  cases o with
  | none => cases h
  | some a => exact ⟨a.1, a.2.1, a.2.2.1, a.2.2.2.1, a.2.2.2.2.1, a.2.2.2.2.2, rfl, h⟩
def bd7 {α1 α2 α3 α4 α5 α6 α7 β : Type} (o : Option (α1 × α2 × α3 × α4 × α5 × α6 × α7)) (f : α1 → α2 → α3 → α4 → α5 → α6 → α7 → Option β) : Option β := match o with
  | some (a1, a2, a3, a4, a5, a6, a7) => f a1 a2 a3 a4 a5 a6 a7
  | none => none
theorem bd7_some {α1 α2 α3 α4 α5 α6 α7 β : Type} {o : Option (α1 × α2 × α3 × α4 × α5 × α6 × α7)} {f : α1 → α2 → α3 → α4 → α5 → α6 → α7 → Option β} {z : β} (h : bd7 o f = some z) : ∃ a1 a2 a3 a4 a5 a6 a7, o = some (a1, a2, a3, a4, a5, a6, a7) ∧ f a1 a2 a3 a4 a5 a6 a7 = some z := by
  cases o with
  | none => cases h
  | some a => exact ⟨a.1, a.2.1, a.2.2.1, a.2.2.2.1, a.2.2.2.2.1, a.2.2.2.2.2.1, a.2.2.2.2.2.2, rfl, h⟩
section MJ8
variable {M : mj_M} {pc : Nat} {lv : List (Option Value)} {st : List Value} {sh : List (Nat × Nat × (Nat → Option Nat))} {C D y : St} {r : Option Value}
theorem cj_getI {ci k b n idx : Nat} {rs : Nat → Option Nat} (hd : decode M.2.1 pc = .ok (.getfield idx, 3)) (hf : mj_F M.1.cls idx ci k) (hc : sh[b]? = some (ci + 3, n, rs)) (hr : kRf ci k = false) (hb : b < 1000000) (hk : k < n) (hK : b < 88)
    (kk : mj_R M (pc + 3) lv (.int (C b k) :: st) (sh, jn C D) r (sh, y)) : mj_R M pc lv (.ref b :: st) (sh, jn C D) r (sh, y) :=
  mj_getI (mem := (sh, jn C D)) hd hf hc hr hb hk (by show mj_R M (pc + 3) lv (.int (jn C D b k) :: st) _ _ _; rw [jn_C hK]; exact kk)
theorem cj_putI {ci k b n idx : Nat} {rs : Nat → Option Nat} {x : Int32} (hd : decode M.2.1 pc = .ok (.putfield idx, 3)) (hf : mj_F M.1.cls idx ci k) (hc : sh[b]? = some (ci + 3, n, rs)) (hr : kTy ci k = .int) (hfin : ∀ (C : String) (T : u_T) (N : Nat), kCls[ci]? = some (C, T, N) → (T k).2.2.2 = false) (hb : b < 1000000) (hk : k < n) (hK : b < 88)
    (kk : mj_R M (pc + 3) lv st (sh, jn (mj_wr C b k x) D) r (sh, y)) : mj_R M pc lv (.int x :: .ref b :: st) (sh, jn C D) r (sh, y) :=
  mj_putI (mem := (sh, jn C D)) hd hf hc hr hfin hb hk (by show mj_R M (pc + 3) lv st (sh, mj_wr (jn C D) b k x) _ _; rw [jn_wC hK]; exact kk)
theorem cj_iald {b n : Nat} {rs : Nat → Option Nat} {i : Int32} (hd : decode M.2.1 pc = .ok (.iaload, 1)) (hc : sh[b]? = some (0, n, rs)) (hb : b < 1000000) (hi : inb i n) (hK : b < 88)
    (kk : mj_R M (pc + 1) lv (.int (C b i.toNatClampNeg) :: st) (sh, jn C D) r (sh, y)) : mj_R M pc lv (.int i :: .ref b :: st) (sh, jn C D) r (sh, y) :=
  mj_iald (mem := (sh, jn C D)) hd hc hb (inb_in hi) (by show mj_R M (pc + 1) lv (.int (jn C D b i.toNatClampNeg) :: st) _ _ _; rw [jn_C hK]; exact kk)
theorem cj_zald {b n : Nat} {rs : Nat → Option Nat} {i : Int32} (hd : decode M.2.1 pc = .ok (.baload, 1)) (hc : sh[b]? = some (1, n, rs)) (hb : b < 1000000) (hi : inb i n) (hK : b < 88)
    (kk : mj_R M (pc + 1) lv (.int (C b i.toNatClampNeg) :: st) (sh, jn C D) r (sh, y)) : mj_R M pc lv (.int i :: .ref b :: st) (sh, jn C D) r (sh, y) :=
  mj_zald (mem := (sh, jn C D)) hd hc hb (inb_in hi) (by show mj_R M (pc + 1) lv (.int (jn C D b i.toNatClampNeg) :: st) _ _ _; rw [jn_C hK]; exact kk)
theorem cj_iast {b n : Nat} {rs : Nat → Option Nat} {i x : Int32} (hd : decode M.2.1 pc = .ok (.iastore, 1)) (hc : sh[b]? = some (0, n, rs)) (hb : b < 1000000) (hi : inb i n) (hK : b < 88)
    (kk : mj_R M (pc + 1) lv st (sh, jn (mj_wr C b i.toNatClampNeg x) D) r (sh, y)) : mj_R M pc lv (.int x :: .int i :: .ref b :: st) (sh, jn C D) r (sh, y) :=
  mj_iast (mem := (sh, jn C D)) hd hc hb (inb_in hi) (by show mj_R M (pc + 1) lv st (sh, mj_wr (jn C D) b i.toNatClampNeg x) _ _; rw [jn_wC hK]; exact kk)
theorem cj_zast {b n : Nat} {rs : Nat → Option Nat} {i x : Int32} (hd : decode M.2.1 pc = .ok (.bastore, 1)) (hc : sh[b]? = some (1, n, rs)) (hb : b < 1000000) (hi : inb i n) (hK : b < 88)
    (kk : mj_R M (pc + 1) lv st (sh, jn (mj_wr C b i.toNatClampNeg (vp_nar .boolean x)) D) r (sh, y)) : mj_R M pc lv (.int x :: .int i :: .ref b :: st) (sh, jn C D) r (sh, y) :=
  mj_zast (mem := (sh, jn C D)) hd hc hb (inb_in hi) (by show mj_R M (pc + 1) lv st (sh, mj_wr (jn C D) b i.toNatClampNeg (vp_nar .boolean x)) _ _; rw [jn_wC hK]; exact kk)
theorem dj_getI {ci k b n idx : Nat} {rs : Nat → Option Nat} (hd : decode M.2.1 pc = .ok (.getfield idx, 3)) (hf : mj_F M.1.cls idx ci k) (hc : sh[b]? = some (ci + 3, n, rs)) (hr : kRf ci k = false) (hb : b < 1000000) (hk : k < n) (hK : ¬ b < 88)
    (kk : mj_R M (pc + 3) lv (.int (D b k) :: st) (sh, jn C D) r (sh, y)) : mj_R M pc lv (.ref b :: st) (sh, jn C D) r (sh, y) :=
  mj_getI (mem := (sh, jn C D)) hd hf hc hr hb hk (by show mj_R M (pc + 3) lv (.int (jn C D b k) :: st) _ _ _; rw [jn_D hK]; exact kk)
theorem dj_putI {ci k b n idx : Nat} {rs : Nat → Option Nat} {x : Int32} (hd : decode M.2.1 pc = .ok (.putfield idx, 3)) (hf : mj_F M.1.cls idx ci k) (hc : sh[b]? = some (ci + 3, n, rs)) (hr : kTy ci k = .int) (hfin : ∀ (C : String) (T : u_T) (N : Nat), kCls[ci]? = some (C, T, N) → (T k).2.2.2 = false) (hb : b < 1000000) (hk : k < n) (hK : ¬ b < 88)
    (kk : mj_R M (pc + 3) lv st (sh, jn C (mj_wr D b k x)) r (sh, y)) : mj_R M pc lv (.int x :: .ref b :: st) (sh, jn C D) r (sh, y) :=
  mj_putI (mem := (sh, jn C D)) hd hf hc hr hfin hb hk (by show mj_R M (pc + 3) lv st (sh, mj_wr (jn C D) b k x) _ _; rw [jn_wD hK]; exact kk)
theorem dj_iald {b n : Nat} {rs : Nat → Option Nat} {i : Int32} (hd : decode M.2.1 pc = .ok (.iaload, 1)) (hc : sh[b]? = some (0, n, rs)) (hb : b < 1000000) (hi : inb i n) (hK : ¬ b < 88)
    (kk : mj_R M (pc + 1) lv (.int (D b i.toNatClampNeg) :: st) (sh, jn C D) r (sh, y)) : mj_R M pc lv (.int i :: .ref b :: st) (sh, jn C D) r (sh, y) :=
  mj_iald (mem := (sh, jn C D)) hd hc hb (inb_in hi) (by show mj_R M (pc + 1) lv (.int (jn C D b i.toNatClampNeg) :: st) _ _ _; rw [jn_D hK]; exact kk)
theorem dj_zald {b n : Nat} {rs : Nat → Option Nat} {i : Int32} (hd : decode M.2.1 pc = .ok (.baload, 1)) (hc : sh[b]? = some (1, n, rs)) (hb : b < 1000000) (hi : inb i n) (hK : ¬ b < 88)
    (kk : mj_R M (pc + 1) lv (.int (D b i.toNatClampNeg) :: st) (sh, jn C D) r (sh, y)) : mj_R M pc lv (.int i :: .ref b :: st) (sh, jn C D) r (sh, y) :=
  mj_zald (mem := (sh, jn C D)) hd hc hb (inb_in hi) (by show mj_R M (pc + 1) lv (.int (jn C D b i.toNatClampNeg) :: st) _ _ _; rw [jn_D hK]; exact kk)
theorem dj_iast {b n : Nat} {rs : Nat → Option Nat} {i x : Int32} (hd : decode M.2.1 pc = .ok (.iastore, 1)) (hc : sh[b]? = some (0, n, rs)) (hb : b < 1000000) (hi : inb i n) (hK : ¬ b < 88)
    (kk : mj_R M (pc + 1) lv st (sh, jn C (mj_wr D b i.toNatClampNeg x)) r (sh, y)) : mj_R M pc lv (.int x :: .int i :: .ref b :: st) (sh, jn C D) r (sh, y) :=
  mj_iast (mem := (sh, jn C D)) hd hc hb (inb_in hi) (by show mj_R M (pc + 1) lv st (sh, mj_wr (jn C D) b i.toNatClampNeg x) _ _; rw [jn_wD hK]; exact kk)
theorem dj_zast {b n : Nat} {rs : Nat → Option Nat} {i x : Int32} (hd : decode M.2.1 pc = .ok (.bastore, 1)) (hc : sh[b]? = some (1, n, rs)) (hb : b < 1000000) (hi : inb i n) (hK : ¬ b < 88)
    (kk : mj_R M (pc + 1) lv st (sh, jn C (mj_wr D b i.toNatClampNeg (vp_nar .boolean x))) r (sh, y)) : mj_R M pc lv (.int x :: .int i :: .ref b :: st) (sh, jn C D) r (sh, y) :=
  mj_zast (mem := (sh, jn C D)) hd hc hb (inb_in hi) (by show mj_R M (pc + 1) lv st (sh, mj_wr (jn C D) b i.toNatClampNeg (vp_nar .boolean x)) _ _; rw [jn_wD hK]; exact kk)
theorem cj_copy {idx a b n0 n1 : Nat} {rs0 rs1 : Nat → Option Nat} {sp dp n : Int32} (hd : decode M.2.1 pc = .ok (.invokestatic idx, 3)) (hw : Cond.methodLink M.1.cls idx arraycopyName ∈ TB ∧ Cond.native arraycopyName ∈ TB ∧ Cond.static arraycopyName ∈ TB ∧ Cond.initialized "java/lang/System" ∈ TB) (hc0 : sh[a]? = some (0, n0, rs0)) (hc1 : sh[b]? = some (0, n1, rs1)) (ha : a < 88) (hb : b < 88)
    (h3 : 0 ≤ sp.toInt ∧ 0 ≤ dp.toInt ∧ 0 ≤ n.toInt ∧ sp.toInt + n.toInt ≤ n0 ∧ dp.toInt + n.toInt ≤ n1) (hf : 1 ≤ M.2.2.2.2.1) (hr : (st.map fun v => v.category).sum + (nativeFrameWords "java/lang/System" "arraycopy" 5 + 11) ≤ M.2.2.2.2.2)
    (kk : mj_R M (pc + 3) lv st (sh, jn (mj_cp C a b sp.toNatClampNeg dp.toNatClampNeg n.toNatClampNeg) D) r (sh, y)) : mj_R M pc lv (.int n :: .int dp :: .ref b :: .int sp :: .ref a :: st) (sh, jn C D) r (sh, y) := by
  obtain ⟨e1, e2, e3, e4, e5⟩ := h3
  have q : ∀ z : Int32, 0 ≤ z.toInt → ¬ z < 0 ∧ ((z.toNatClampNeg : Nat) : Int) = z.toInt := fun z hz => ⟨by rw [Int32.lt_iff_toInt_lt, Int32.toInt_zero]; omega, by show ((z.toInt.toNat : Nat) : Int) = z.toInt; omega⟩
  obtain ⟨a1, a2⟩ := q sp e1
  obtain ⟨b1, b2⟩ := q dp e2
  obtain ⟨c1, c2⟩ := q n e3
  exact mj_copy (mem := (sh, jn C D)) hd hw hc0 hc1 (by omega) (by omega) a1 b1 c1 (by omega) (by omega) hf hr (by show mj_R M (pc + 3) lv st (sh, mj_cp (jn C D) a b _ _ _) _ _; rw [jn_cp ha hb]; exact kk)
theorem mj_tsEq {mem mem' : mj_Mem} {dflt lo hi : Int} {offs : Array Int} {len : Nat} {x : Int32} {off : Int} {tgt : Nat} (v : Int32) (hd : decode M.2.1 pc = .ok (.tableswitch dflt lo hi offs, len)) (hx : x = v) (hl : ¬ v.toInt < lo) (hh : ¬ hi < v.toInt) (ho : offs[(v.toInt - lo).toNat]? = some off) (ht : (pc : Int) + off = (tgt : Int))
    (k : mj_R M tgt lv st mem r mem') : mj_R M pc lv (.int x :: st) mem r mem' := by
  subst hx
  exact mj_tableIn hd hl hh ho ht k
theorem mj_lkEq {mem mem' : mj_Mem} {dflt : Int} {ps : Array (Int × Int)} {len : Nat} {x : Int32} {off : Int} {tgt : Nat} (v : Int32) (hd : decode M.2.1 pc = .ok (.lookupswitch dflt ps, len)) (hx : x = v) (hp : (ps.toList.zip (ps.toList.drop 1)).all (fun (a, next) => a.1 < next.1) = true) (ho : Op.lookupswitch.offset ps.toList dflt v.toInt = off) (ht : (pc : Int) + off = (tgt : Int))
    (k : mj_R M tgt lv st mem r mem') : mj_R M pc lv (.int x :: st) mem r mem' := by
  subst hx
  exact mj_lookup hd hp ho ht k
end MJ8
end
