section
-- ===== PART A: goes FIRST, ahead of the names: the tables' words, and 'selects' of the private methods out of them =====
/-- a private method of a class that the tables say can be made, by its rows of tables_1 -/
def lw_okq (q : MethodName × Nat) : Prop := (q.1.cls ≠ "java/lang/invoke/MethodHandle" ∧ q.1.cls ≠ "java/lang/invoke/VarHandle") ∧ Cond.instantiable q.1.cls q.2 ∈ tables_1 ∧ Cond.privateMethod q.1 ∈ tables_1 ∧ Cond.instanceMethod q.1 ∈ tables_1
theorem lw_p0 : lw_okq (⟨"MarketTown", "readRule", "(I)I"⟩, 6) := ⟨⟨by decide +kernel, by decide +kernel⟩, List.mem_of_getElem? (i := 20) (by decide +kernel), List.mem_of_getElem? (i := 361) (by decide +kernel), List.mem_of_getElem? (i := 362) (by decide +kernel)⟩
theorem lw_p1 : lw_okq (⟨"MarketTown$RuleReader", "clearRow", "()V"⟩, 3) := ⟨⟨by decide +kernel, by decide +kernel⟩, List.mem_of_getElem? (i := 178) (by decide +kernel), List.mem_of_getElem? (i := 369) (by decide +kernel), List.mem_of_getElem? (i := 370) (by decide +kernel)⟩
theorem lw_p2 : lw_okq (⟨"MarketTown$RuleReader", "nextWord", "(LMarketTown$Tape;)Z"⟩, 3) := ⟨⟨by decide +kernel, by decide +kernel⟩, List.mem_of_getElem? (i := 178) (by decide +kernel), List.mem_of_getElem? (i := 374) (by decide +kernel), List.mem_of_getElem? (i := 375) (by decide +kernel)⟩
theorem lw_p3 : lw_okq (⟨"MarketTown$RuleReader", "isWord", "(LMarketTown$Tape;Ljava/lang/String;)Z"⟩, 3) := ⟨⟨by decide +kernel, by decide +kernel⟩, List.mem_of_getElem? (i := 178) (by decide +kernel), List.mem_of_getElem? (i := 383) (by decide +kernel), List.mem_of_getElem? (i := 384) (by decide +kernel)⟩
theorem lw_p4 : lw_okq (⟨"MarketTown$RuleReader", "reads", "(LMarketTown$Tape;III)Z"⟩, 3) := ⟨⟨by decide +kernel, by decide +kernel⟩, List.mem_of_getElem? (i := 178) (by decide +kernel), List.mem_of_getElem? (i := 439) (by decide +kernel), List.mem_of_getElem? (i := 440) (by decide +kernel)⟩
theorem lw_p5 : lw_okq (⟨"MarketTown$RuleReader", "number", "(LMarketTown$Tape;)I"⟩, 3) := ⟨⟨by decide +kernel, by decide +kernel⟩, List.mem_of_getElem? (i := 178) (by decide +kernel), List.mem_of_getElem? (i := 443) (by decide +kernel), List.mem_of_getElem? (i := 444) (by decide +kernel)⟩
theorem lw_p6 : lw_okq (⟨"MarketTown$RuleReader", "readsCond", "(LMarketTown$Tape;)Z"⟩, 3) := ⟨⟨by decide +kernel, by decide +kernel⟩, List.mem_of_getElem? (i := 178) (by decide +kernel), List.mem_of_getElem? (i := 449) (by decide +kernel), List.mem_of_getElem? (i := 450) (by decide +kernel)⟩
theorem lw_p7 : lw_okq (⟨"MarketTown$RuleReader", "condOf", "(LMarketTown$Tape;)I"⟩, 3) := ⟨⟨by decide +kernel, by decide +kernel⟩, List.mem_of_getElem? (i := 178) (by decide +kernel), List.mem_of_getElem? (i := 453) (by decide +kernel), List.mem_of_getElem? (i := 454) (by decide +kernel)⟩
theorem lw_p8 : lw_okq (⟨"MarketTown$RuleReader", "readsAct", "(LMarketTown$Tape;II)Z"⟩, 3) := ⟨⟨by decide +kernel, by decide +kernel⟩, List.mem_of_getElem? (i := 178) (by decide +kernel), List.mem_of_getElem? (i := 463) (by decide +kernel), List.mem_of_getElem? (i := 464) (by decide +kernel)⟩
theorem lw_p9 : lw_okq (⟨"MarketTown$RuleReader", "actOf", "(LMarketTown$Tape;)I"⟩, 3) := ⟨⟨by decide +kernel, by decide +kernel⟩, List.mem_of_getElem? (i := 178) (by decide +kernel), List.mem_of_getElem? (i := 467) (by decide +kernel), List.mem_of_getElem? (i := 468) (by decide +kernel)⟩
theorem lw_p10 : lw_okq (⟨"MarketTown$Day", "drawOrder", "(LMarketTown$Town;)V"⟩, 2) := ⟨⟨by decide +kernel, by decide +kernel⟩, List.mem_of_getElem? (i := 196) (by decide +kernel), List.mem_of_getElem? (i := 506) (by decide +kernel), List.mem_of_getElem? (i := 507) (by decide +kernel)⟩
theorem lw_p11 : lw_okq (⟨"MarketTown$Day", "followRules", "(LMarketTown$Town;I)V"⟩, 2) := ⟨⟨by decide +kernel, by decide +kernel⟩, List.mem_of_getElem? (i := 196) (by decide +kernel), List.mem_of_getElem? (i := 522) (by decide +kernel), List.mem_of_getElem? (i := 523) (by decide +kernel)⟩
theorem lw_p12 : lw_okq (⟨"MarketTown$Day", "act", "(LMarketTown$Town;II)V"⟩, 2) := ⟨⟨by decide +kernel, by decide +kernel⟩, List.mem_of_getElem? (i := 196) (by decide +kernel), List.mem_of_getElem? (i := 556) (by decide +kernel), List.mem_of_getElem? (i := 557) (by decide +kernel)⟩
theorem lw_p13 : lw_okq (⟨"MarketTown$Day", "make", "(LMarketTown$Town;III)V"⟩, 2) := ⟨⟨by decide +kernel, by decide +kernel⟩, List.mem_of_getElem? (i := 196) (by decide +kernel), List.mem_of_getElem? (i := 560) (by decide +kernel), List.mem_of_getElem? (i := 561) (by decide +kernel)⟩
theorem lw_p14 : lw_okq (⟨"MarketTown$Day", "eat", "(LMarketTown$Town;III)V"⟩, 2) := ⟨⟨by decide +kernel, by decide +kernel⟩, List.mem_of_getElem? (i := 196) (by decide +kernel), List.mem_of_getElem? (i := 585) (by decide +kernel), List.mem_of_getElem? (i := 586) (by decide +kernel)⟩
theorem lw_p15 : lw_okq (⟨"MarketTown$Day", "lend", "(LMarketTown$Town;IIII)V"⟩, 2) := ⟨⟨by decide +kernel, by decide +kernel⟩, List.mem_of_getElem? (i := 196) (by decide +kernel), List.mem_of_getElem? (i := 615) (by decide +kernel), List.mem_of_getElem? (i := 616) (by decide +kernel)⟩
def lw_privs_1 : List (MethodName × Nat) := [(⟨"MarketTown", "readRule", "(I)I"⟩, 6), (⟨"MarketTown$RuleReader", "clearRow", "()V"⟩, 3), (⟨"MarketTown$RuleReader", "nextWord", "(LMarketTown$Tape;)Z"⟩, 3), (⟨"MarketTown$RuleReader", "isWord", "(LMarketTown$Tape;Ljava/lang/String;)Z"⟩, 3), (⟨"MarketTown$RuleReader", "reads", "(LMarketTown$Tape;III)Z"⟩, 3), (⟨"MarketTown$RuleReader", "number", "(LMarketTown$Tape;)I"⟩, 3), (⟨"MarketTown$RuleReader", "readsCond", "(LMarketTown$Tape;)Z"⟩, 3), (⟨"MarketTown$RuleReader", "condOf", "(LMarketTown$Tape;)I"⟩, 3), (⟨"MarketTown$RuleReader", "readsAct", "(LMarketTown$Tape;II)Z"⟩, 3), (⟨"MarketTown$RuleReader", "actOf", "(LMarketTown$Tape;)I"⟩, 3), (⟨"MarketTown$Day", "drawOrder", "(LMarketTown$Town;)V"⟩, 2), (⟨"MarketTown$Day", "followRules", "(LMarketTown$Town;I)V"⟩, 2), (⟨"MarketTown$Day", "act", "(LMarketTown$Town;II)V"⟩, 2), (⟨"MarketTown$Day", "make", "(LMarketTown$Town;III)V"⟩, 2), (⟨"MarketTown$Day", "eat", "(LMarketTown$Town;III)V"⟩, 2), (⟨"MarketTown$Day", "lend", "(LMarketTown$Town;IIII)V"⟩, 2)]
theorem lw_r1 : ∀ q ∈ lw_privs_1, lw_okq q := List.forall_mem_cons.mpr ⟨lw_p0, List.forall_mem_cons.mpr ⟨lw_p1, List.forall_mem_cons.mpr ⟨lw_p2, List.forall_mem_cons.mpr ⟨lw_p3, List.forall_mem_cons.mpr ⟨lw_p4, List.forall_mem_cons.mpr ⟨lw_p5, List.forall_mem_cons.mpr ⟨lw_p6, List.forall_mem_cons.mpr ⟨lw_p7, List.forall_mem_cons.mpr ⟨lw_p8, List.forall_mem_cons.mpr ⟨lw_p9, List.forall_mem_cons.mpr ⟨lw_p10, List.forall_mem_cons.mpr ⟨lw_p11, List.forall_mem_cons.mpr ⟨lw_p12, List.forall_mem_cons.mpr ⟨lw_p13, List.forall_mem_cons.mpr ⟨lw_p14, List.forall_mem_cons.mpr ⟨lw_p15, fun _ h => absurd h List.not_mem_nil⟩⟩⟩⟩⟩⟩⟩⟩⟩⟩⟩⟩⟩⟩⟩⟩
theorem lw_p16 : lw_okq (⟨"MarketTown$Offers", "insert", "(II)V"⟩, 7) := ⟨⟨by decide +kernel, by decide +kernel⟩, List.mem_of_getElem? (i := 208) (by decide +kernel), List.mem_of_getElem? (i := 641) (by decide +kernel), List.mem_of_getElem? (i := 642) (by decide +kernel)⟩
theorem lw_p17 : lw_okq (⟨"MarketTown$Market", "calledPrice", "()I"⟩, 5) := ⟨⟨by decide +kernel, by decide +kernel⟩, List.mem_of_getElem? (i := 202) (by decide +kernel), List.mem_of_getElem? (i := 645) (by decide +kernel), List.mem_of_getElem? (i := 646) (by decide +kernel)⟩
theorem lw_p18 : lw_okq (⟨"MarketTown$Market", "agree", "(II)Z"⟩, 5) := ⟨⟨by decide +kernel, by decide +kernel⟩, List.mem_of_getElem? (i := 202) (by decide +kernel), List.mem_of_getElem? (i := 649) (by decide +kernel), List.mem_of_getElem? (i := 650) (by decide +kernel)⟩
theorem lw_p19 : lw_okq (⟨"MarketTown$Market", "serve", "(LMarketTown$Town;III)V"⟩, 5) := ⟨⟨by decide +kernel, by decide +kernel⟩, List.mem_of_getElem? (i := 202) (by decide +kernel), List.mem_of_getElem? (i := 653) (by decide +kernel), List.mem_of_getElem? (i := 654) (by decide +kernel)⟩
theorem lw_p20 : lw_okq (⟨"MarketTown$Market", "priceOf", "(IIII)I"⟩, 5) := ⟨⟨by decide +kernel, by decide +kernel⟩, List.mem_of_getElem? (i := 202) (by decide +kernel), List.mem_of_getElem? (i := 657) (by decide +kernel), List.mem_of_getElem? (i := 658) (by decide +kernel)⟩
theorem lw_p21 : lw_okq (⟨"MarketTown$Market", "trade", "(LMarketTown$Town;IIII)V"⟩, 5) := ⟨⟨by decide +kernel, by decide +kernel⟩, List.mem_of_getElem? (i := 202) (by decide +kernel), List.mem_of_getElem? (i := 661) (by decide +kernel), List.mem_of_getElem? (i := 662) (by decide +kernel)⟩
theorem lw_p22 : lw_okq (⟨"MarketTown$Loans", "settle", "(LMarketTown$Town;II)V"⟩, 2) := ⟨⟨by decide +kernel, by decide +kernel⟩, List.mem_of_getElem? (i := 73) (by decide +kernel), List.mem_of_getElem? (i := 682) (by decide +kernel), List.mem_of_getElem? (i := 683) (by decide +kernel)⟩
theorem lw_p23 : lw_okq (⟨"MarketTown$Loans", "close", "(I)V"⟩, 2) := ⟨⟨by decide +kernel, by decide +kernel⟩, List.mem_of_getElem? (i := 73) (by decide +kernel), List.mem_of_getElem? (i := 687) (by decide +kernel), List.mem_of_getElem? (i := 688) (by decide +kernel)⟩
theorem lw_p24 : lw_okq (⟨"MarketTown$Loans", "shareOut", "(LMarketTown$Town;IJJ)V"⟩, 2) := ⟨⟨by decide +kernel, by decide +kernel⟩, List.mem_of_getElem? (i := 73) (by decide +kernel), List.mem_of_getElem? (i := 695) (by decide +kernel), List.mem_of_getElem? (i := 696) (by decide +kernel)⟩
theorem lw_p25 : lw_okq (⟨"MarketTown$Loans", "handOutRest", "(LMarketTown$Town;I)V"⟩, 2) := ⟨⟨by decide +kernel, by decide +kernel⟩, List.mem_of_getElem? (i := 73) (by decide +kernel), List.mem_of_getElem? (i := 699) (by decide +kernel), List.mem_of_getElem? (i := 700) (by decide +kernel)⟩
theorem lw_p26 : lw_okq (⟨"MarketTown$Loans", "forgetClosed", "()V"⟩, 2) := ⟨⟨by decide +kernel, by decide +kernel⟩, List.mem_of_getElem? (i := 73) (by decide +kernel), List.mem_of_getElem? (i := 704) (by decide +kernel), List.mem_of_getElem? (i := 705) (by decide +kernel)⟩
theorem lw_p27 : lw_okq (⟨"MarketTown$Stock", "shiftAges", "(I)V"⟩, 2) := ⟨⟨by decide +kernel, by decide +kernel⟩, List.mem_of_getElem? (i := 34) (by decide +kernel), List.mem_of_getElem? (i := 713) (by decide +kernel), List.mem_of_getElem? (i := 714) (by decide +kernel)⟩
theorem lw_p28 : lw_okq (⟨"MarketTown$Stock", "takeFromAge", "(II)I"⟩, 2) := ⟨⟨by decide +kernel, by decide +kernel⟩, List.mem_of_getElem? (i := 34) (by decide +kernel), List.mem_of_getElem? (i := 717) (by decide +kernel), List.mem_of_getElem? (i := 718) (by decide +kernel)⟩
theorem lw_p29 : lw_okq (⟨"MarketTown$Town", "cashNotAbove", "(II)I"⟩, 14) := ⟨⟨by decide +kernel, by decide +kernel⟩, List.mem_of_getElem? (i := 28) (by decide +kernel), List.mem_of_getElem? (i := 778) (by decide +kernel), List.mem_of_getElem? (i := 779) (by decide +kernel)⟩
theorem lw_p30 : lw_okq (⟨"MarketTownModel", "isAgent", "(I)Z"⟩, 21) := ⟨⟨by decide +kernel, by decide +kernel⟩, List.mem_of_getElem? (i := 844) (by decide +kernel), List.mem_of_getElem? (i := 929) (by decide +kernel), List.mem_of_getElem? (i := 930) (by decide +kernel)⟩
theorem lw_p31 : lw_okq (⟨"MarketTownModel", "hasAll", "(II)I"⟩, 21) := ⟨⟨by decide +kernel, by decide +kernel⟩, List.mem_of_getElem? (i := 844) (by decide +kernel), List.mem_of_getElem? (i := 939) (by decide +kernel), List.mem_of_getElem? (i := 940) (by decide +kernel)⟩
def lw_privs_2 : List (MethodName × Nat) := [(⟨"MarketTown$Offers", "insert", "(II)V"⟩, 7), (⟨"MarketTown$Market", "calledPrice", "()I"⟩, 5), (⟨"MarketTown$Market", "agree", "(II)Z"⟩, 5), (⟨"MarketTown$Market", "serve", "(LMarketTown$Town;III)V"⟩, 5), (⟨"MarketTown$Market", "priceOf", "(IIII)I"⟩, 5), (⟨"MarketTown$Market", "trade", "(LMarketTown$Town;IIII)V"⟩, 5), (⟨"MarketTown$Loans", "settle", "(LMarketTown$Town;II)V"⟩, 2), (⟨"MarketTown$Loans", "close", "(I)V"⟩, 2), (⟨"MarketTown$Loans", "shareOut", "(LMarketTown$Town;IJJ)V"⟩, 2), (⟨"MarketTown$Loans", "handOutRest", "(LMarketTown$Town;I)V"⟩, 2), (⟨"MarketTown$Loans", "forgetClosed", "()V"⟩, 2), (⟨"MarketTown$Stock", "shiftAges", "(I)V"⟩, 2), (⟨"MarketTown$Stock", "takeFromAge", "(II)I"⟩, 2), (⟨"MarketTown$Town", "cashNotAbove", "(II)I"⟩, 14), (⟨"MarketTownModel", "isAgent", "(I)Z"⟩, 21), (⟨"MarketTownModel", "hasAll", "(II)I"⟩, 21)]
theorem lw_r2 : ∀ q ∈ lw_privs_2, lw_okq q := List.forall_mem_cons.mpr ⟨lw_p16, List.forall_mem_cons.mpr ⟨lw_p17, List.forall_mem_cons.mpr ⟨lw_p18, List.forall_mem_cons.mpr ⟨lw_p19, List.forall_mem_cons.mpr ⟨lw_p20, List.forall_mem_cons.mpr ⟨lw_p21, List.forall_mem_cons.mpr ⟨lw_p22, List.forall_mem_cons.mpr ⟨lw_p23, List.forall_mem_cons.mpr ⟨lw_p24, List.forall_mem_cons.mpr ⟨lw_p25, List.forall_mem_cons.mpr ⟨lw_p26, List.forall_mem_cons.mpr ⟨lw_p27, List.forall_mem_cons.mpr ⟨lw_p28, List.forall_mem_cons.mpr ⟨lw_p29, List.forall_mem_cons.mpr ⟨lw_p30, List.forall_mem_cons.mpr ⟨lw_p31, fun _ h => absurd h List.not_mem_nil⟩⟩⟩⟩⟩⟩⟩⟩⟩⟩⟩⟩⟩⟩⟩⟩
theorem lw_p32 : lw_okq (⟨"MarketTownModel", "lay", "(I)V"⟩, 21) := ⟨⟨by decide +kernel, by decide +kernel⟩, List.mem_of_getElem? (i := 844) (by decide +kernel), List.mem_of_getElem? (i := 963) (by decide +kernel), List.mem_of_getElem? (i := 964) (by decide +kernel)⟩
theorem lw_p33 : lw_okq (⟨"MarketTownModel", "read", "(I)I"⟩, 21) := ⟨⟨by decide +kernel, by decide +kernel⟩, List.mem_of_getElem? (i := 844) (by decide +kernel), List.mem_of_getElem? (i := 975) (by decide +kernel), List.mem_of_getElem? (i := 976) (by decide +kernel)⟩
theorem lw_p34 : lw_okq (⟨"MarketTownModel", "next", "()V"⟩, 21) := ⟨⟨by decide +kernel, by decide +kernel⟩, List.mem_of_getElem? (i := 844) (by decide +kernel), List.mem_of_getElem? (i := 979) (by decide +kernel), List.mem_of_getElem? (i := 980) (by decide +kernel)⟩
theorem lw_p35 : lw_okq (⟨"MarketTownModel", "reads", "(IIIII)Z"⟩, 21) := ⟨⟨by decide +kernel, by decide +kernel⟩, List.mem_of_getElem? (i := 844) (by decide +kernel), List.mem_of_getElem? (i := 983) (by decide +kernel), List.mem_of_getElem? (i := 984) (by decide +kernel)⟩
theorem lw_p36 : lw_okq (⟨"MarketTownModel", "number", "(II)I"⟩, 21) := ⟨⟨by decide +kernel, by decide +kernel⟩, List.mem_of_getElem? (i := 844) (by decide +kernel), List.mem_of_getElem? (i := 987) (by decide +kernel), List.mem_of_getElem? (i := 988) (by decide +kernel)⟩
theorem lw_p37 : lw_okq (⟨"MarketTownModel", "fail", "()V"⟩, 21) := ⟨⟨by decide +kernel, by decide +kernel⟩, List.mem_of_getElem? (i := 844) (by decide +kernel), List.mem_of_getElem? (i := 991) (by decide +kernel), List.mem_of_getElem? (i := 992) (by decide +kernel)⟩
theorem lw_p38 : lw_okq (⟨"MarketTownModel", "readCond", "()V"⟩, 21) := ⟨⟨by decide +kernel, by decide +kernel⟩, List.mem_of_getElem? (i := 844) (by decide +kernel), List.mem_of_getElem? (i := 995) (by decide +kernel), List.mem_of_getElem? (i := 996) (by decide +kernel)⟩
theorem lw_p39 : lw_okq (⟨"MarketTownModel", "readAct", "(I)V"⟩, 21) := ⟨⟨by decide +kernel, by decide +kernel⟩, List.mem_of_getElem? (i := 844) (by decide +kernel), List.mem_of_getElem? (i := 999) (by decide +kernel), List.mem_of_getElem? (i := 1000) (by decide +kernel)⟩
theorem lw_p40 : lw_okq (⟨"MarketTownModel", "actAtHand", "()I"⟩, 21) := ⟨⟨by decide +kernel, by decide +kernel⟩, List.mem_of_getElem? (i := 844) (by decide +kernel), List.mem_of_getElem? (i := 1003) (by decide +kernel), List.mem_of_getElem? (i := 1004) (by decide +kernel)⟩
theorem lw_p41 : lw_okq (⟨"MarketTownModel", "ruleMany", "(I)I"⟩, 21) := ⟨⟨by decide +kernel, by decide +kernel⟩, List.mem_of_getElem? (i := 844) (by decide +kernel), List.mem_of_getElem? (i := 1007) (by decide +kernel), List.mem_of_getElem? (i := 1008) (by decide +kernel)⟩
theorem lw_p42 : lw_okq (⟨"MarketTownModel", "liveDay", "()V"⟩, 21) := ⟨⟨by decide +kernel, by decide +kernel⟩, List.mem_of_getElem? (i := 844) (by decide +kernel), List.mem_of_getElem? (i := 1020) (by decide +kernel), List.mem_of_getElem? (i := 1021) (by decide +kernel)⟩
theorem lw_p43 : lw_okq (⟨"MarketTownModel", "drawOrder", "()V"⟩, 21) := ⟨⟨by decide +kernel, by decide +kernel⟩, List.mem_of_getElem? (i := 844) (by decide +kernel), List.mem_of_getElem? (i := 1024) (by decide +kernel), List.mem_of_getElem? (i := 1025) (by decide +kernel)⟩
theorem lw_p44 : lw_okq (⟨"MarketTownModel", "actAll", "()V"⟩, 21) := ⟨⟨by decide +kernel, by decide +kernel⟩, List.mem_of_getElem? (i := 844) (by decide +kernel), List.mem_of_getElem? (i := 1032) (by decide +kernel), List.mem_of_getElem? (i := 1033) (by decide +kernel)⟩
theorem lw_p45 : lw_okq (⟨"MarketTownModel", "isBroke", "(I)Z"⟩, 21) := ⟨⟨by decide +kernel, by decide +kernel⟩, List.mem_of_getElem? (i := 844) (by decide +kernel), List.mem_of_getElem? (i := 1036) (by decide +kernel), List.mem_of_getElem? (i := 1037) (by decide +kernel)⟩
theorem lw_p46 : lw_okq (⟨"MarketTownModel", "fires", "(II)Z"⟩, 21) := ⟨⟨by decide +kernel, by decide +kernel⟩, List.mem_of_getElem? (i := 844) (by decide +kernel), List.mem_of_getElem? (i := 1040) (by decide +kernel), List.mem_of_getElem? (i := 1041) (by decide +kernel)⟩
theorem lw_p47 : lw_okq (⟨"MarketTownModel", "ruleIs", "(III)I"⟩, 21) := ⟨⟨by decide +kernel, by decide +kernel⟩, List.mem_of_getElem? (i := 844) (by decide +kernel), List.mem_of_getElem? (i := 1044) (by decide +kernel), List.mem_of_getElem? (i := 1045) (by decide +kernel)⟩
def lw_privs_3 : List (MethodName × Nat) := [(⟨"MarketTownModel", "lay", "(I)V"⟩, 21), (⟨"MarketTownModel", "read", "(I)I"⟩, 21), (⟨"MarketTownModel", "next", "()V"⟩, 21), (⟨"MarketTownModel", "reads", "(IIIII)Z"⟩, 21), (⟨"MarketTownModel", "number", "(II)I"⟩, 21), (⟨"MarketTownModel", "fail", "()V"⟩, 21), (⟨"MarketTownModel", "readCond", "()V"⟩, 21), (⟨"MarketTownModel", "readAct", "(I)V"⟩, 21), (⟨"MarketTownModel", "actAtHand", "()I"⟩, 21), (⟨"MarketTownModel", "ruleMany", "(I)I"⟩, 21), (⟨"MarketTownModel", "liveDay", "()V"⟩, 21), (⟨"MarketTownModel", "drawOrder", "()V"⟩, 21), (⟨"MarketTownModel", "actAll", "()V"⟩, 21), (⟨"MarketTownModel", "isBroke", "(I)Z"⟩, 21), (⟨"MarketTownModel", "fires", "(II)Z"⟩, 21), (⟨"MarketTownModel", "ruleIs", "(III)I"⟩, 21)]
theorem lw_r3 : ∀ q ∈ lw_privs_3, lw_okq q := List.forall_mem_cons.mpr ⟨lw_p32, List.forall_mem_cons.mpr ⟨lw_p33, List.forall_mem_cons.mpr ⟨lw_p34, List.forall_mem_cons.mpr ⟨lw_p35, List.forall_mem_cons.mpr ⟨lw_p36, List.forall_mem_cons.mpr ⟨lw_p37, List.forall_mem_cons.mpr ⟨lw_p38, List.forall_mem_cons.mpr ⟨lw_p39, List.forall_mem_cons.mpr ⟨lw_p40, List.forall_mem_cons.mpr ⟨lw_p41, List.forall_mem_cons.mpr ⟨lw_p42, List.forall_mem_cons.mpr ⟨lw_p43, List.forall_mem_cons.mpr ⟨lw_p44, List.forall_mem_cons.mpr ⟨lw_p45, List.forall_mem_cons.mpr ⟨lw_p46, List.forall_mem_cons.mpr ⟨lw_p47, fun _ h => absurd h List.not_mem_nil⟩⟩⟩⟩⟩⟩⟩⟩⟩⟩⟩⟩⟩⟩⟩⟩
theorem lw_p48 : lw_okq (⟨"MarketTownModel", "mayDo", "(II)Z"⟩, 21) := ⟨⟨by decide +kernel, by decide +kernel⟩, List.mem_of_getElem? (i := 844) (by decide +kernel), List.mem_of_getElem? (i := 1048) (by decide +kernel), List.mem_of_getElem? (i := 1049) (by decide +kernel)⟩
theorem lw_p49 : lw_okq (⟨"MarketTownModel", "isKind", "(II)Z"⟩, 21) := ⟨⟨by decide +kernel, by decide +kernel⟩, List.mem_of_getElem? (i := 844) (by decide +kernel), List.mem_of_getElem? (i := 1052) (by decide +kernel), List.mem_of_getElem? (i := 1053) (by decide +kernel)⟩
theorem lw_p50 : lw_okq (⟨"MarketTownModel", "kind", "(I)I"⟩, 21) := ⟨⟨by decide +kernel, by decide +kernel⟩, List.mem_of_getElem? (i := 844) (by decide +kernel), List.mem_of_getElem? (i := 1056) (by decide +kernel), List.mem_of_getElem? (i := 1057) (by decide +kernel)⟩
theorem lw_p51 : lw_okq (⟨"MarketTownModel", "cash", "(I)I"⟩, 21) := ⟨⟨by decide +kernel, by decide +kernel⟩, List.mem_of_getElem? (i := 844) (by decide +kernel), List.mem_of_getElem? (i := 1060) (by decide +kernel), List.mem_of_getElem? (i := 1061) (by decide +kernel)⟩
theorem lw_p52 : lw_okq (⟨"MarketTownModel", "goodIs", "(II)I"⟩, 21) := ⟨⟨by decide +kernel, by decide +kernel⟩, List.mem_of_getElem? (i := 844) (by decide +kernel), List.mem_of_getElem? (i := 1064) (by decide +kernel), List.mem_of_getElem? (i := 1065) (by decide +kernel)⟩
theorem lw_p53 : lw_okq (⟨"MarketTownModel", "act", "(II)V"⟩, 21) := ⟨⟨by decide +kernel, by decide +kernel⟩, List.mem_of_getElem? (i := 844) (by decide +kernel), List.mem_of_getElem? (i := 1068) (by decide +kernel), List.mem_of_getElem? (i := 1069) (by decide +kernel)⟩
theorem lw_p54 : lw_okq (⟨"MarketTownModel", "make", "(III)V"⟩, 21) := ⟨⟨by decide +kernel, by decide +kernel⟩, List.mem_of_getElem? (i := 844) (by decide +kernel), List.mem_of_getElem? (i := 1072) (by decide +kernel), List.mem_of_getElem? (i := 1073) (by decide +kernel)⟩
theorem lw_p55 : lw_okq (⟨"MarketTownModel", "freeOf", "(II)I"⟩, 21) := ⟨⟨by decide +kernel, by decide +kernel⟩, List.mem_of_getElem? (i := 844) (by decide +kernel), List.mem_of_getElem? (i := 1076) (by decide +kernel), List.mem_of_getElem? (i := 1077) (by decide +kernel)⟩
theorem lw_p56 : lw_okq (⟨"MarketTownModel", "go", "(IIII)V"⟩, 21) := ⟨⟨by decide +kernel, by decide +kernel⟩, List.mem_of_getElem? (i := 844) (by decide +kernel), List.mem_of_getElem? (i := 1083) (by decide +kernel), List.mem_of_getElem? (i := 1084) (by decide +kernel)⟩
theorem lw_p57 : lw_okq (⟨"MarketTownModel", "addGood", "(III)V"⟩, 21) := ⟨⟨by decide +kernel, by decide +kernel⟩, List.mem_of_getElem? (i := 844) (by decide +kernel), List.mem_of_getElem? (i := 1087) (by decide +kernel), List.mem_of_getElem? (i := 1088) (by decide +kernel)⟩
theorem lw_p58 : lw_okq (⟨"MarketTownModel", "offer", "(IIIIZ)V"⟩, 21) := ⟨⟨by decide +kernel, by decide +kernel⟩, List.mem_of_getElem? (i := 844) (by decide +kernel), List.mem_of_getElem? (i := 1091) (by decide +kernel), List.mem_of_getElem? (i := 1092) (by decide +kernel)⟩
theorem lw_p59 : lw_okq (⟨"MarketTownModel", "freeCash", "(I)I"⟩, 21) := ⟨⟨by decide +kernel, by decide +kernel⟩, List.mem_of_getElem? (i := 844) (by decide +kernel), List.mem_of_getElem? (i := 1095) (by decide +kernel), List.mem_of_getElem? (i := 1096) (by decide +kernel)⟩
theorem lw_p60 : lw_okq (⟨"MarketTownModel", "pays", "(IIII)V"⟩, 21) := ⟨⟨by decide +kernel, by decide +kernel⟩, List.mem_of_getElem? (i := 844) (by decide +kernel), List.mem_of_getElem? (i := 1099) (by decide +kernel), List.mem_of_getElem? (i := 1100) (by decide +kernel)⟩
theorem lw_p61 : lw_okq (⟨"MarketTownModel", "lend", "(IIII)V"⟩, 21) := ⟨⟨by decide +kernel, by decide +kernel⟩, List.mem_of_getElem? (i := 844) (by decide +kernel), List.mem_of_getElem? (i := 1103) (by decide +kernel), List.mem_of_getElem? (i := 1104) (by decide +kernel)⟩
theorem lw_p62 : lw_okq (⟨"MarketTownModel", "posted", "(I)V"⟩, 21) := ⟨⟨by decide +kernel, by decide +kernel⟩, List.mem_of_getElem? (i := 844) (by decide +kernel), List.mem_of_getElem? (i := 1107) (by decide +kernel), List.mem_of_getElem? (i := 1108) (by decide +kernel)⟩
theorem lw_p63 : lw_okq (⟨"MarketTownModel", "isOpen", "(IIZ)Z"⟩, 21) := ⟨⟨by decide +kernel, by decide +kernel⟩, List.mem_of_getElem? (i := 844) (by decide +kernel), List.mem_of_getElem? (i := 1111) (by decide +kernel), List.mem_of_getElem? (i := 1112) (by decide +kernel)⟩
def lw_privs_4 : List (MethodName × Nat) := [(⟨"MarketTownModel", "mayDo", "(II)Z"⟩, 21), (⟨"MarketTownModel", "isKind", "(II)Z"⟩, 21), (⟨"MarketTownModel", "kind", "(I)I"⟩, 21), (⟨"MarketTownModel", "cash", "(I)I"⟩, 21), (⟨"MarketTownModel", "goodIs", "(II)I"⟩, 21), (⟨"MarketTownModel", "act", "(II)V"⟩, 21), (⟨"MarketTownModel", "make", "(III)V"⟩, 21), (⟨"MarketTownModel", "freeOf", "(II)I"⟩, 21), (⟨"MarketTownModel", "go", "(IIII)V"⟩, 21), (⟨"MarketTownModel", "addGood", "(III)V"⟩, 21), (⟨"MarketTownModel", "offer", "(IIIIZ)V"⟩, 21), (⟨"MarketTownModel", "freeCash", "(I)I"⟩, 21), (⟨"MarketTownModel", "pays", "(IIII)V"⟩, 21), (⟨"MarketTownModel", "lend", "(IIII)V"⟩, 21), (⟨"MarketTownModel", "posted", "(I)V"⟩, 21), (⟨"MarketTownModel", "isOpen", "(IIZ)Z"⟩, 21)]
theorem lw_r4 : ∀ q ∈ lw_privs_4, lw_okq q := List.forall_mem_cons.mpr ⟨lw_p48, List.forall_mem_cons.mpr ⟨lw_p49, List.forall_mem_cons.mpr ⟨lw_p50, List.forall_mem_cons.mpr ⟨lw_p51, List.forall_mem_cons.mpr ⟨lw_p52, List.forall_mem_cons.mpr ⟨lw_p53, List.forall_mem_cons.mpr ⟨lw_p54, List.forall_mem_cons.mpr ⟨lw_p55, List.forall_mem_cons.mpr ⟨lw_p56, List.forall_mem_cons.mpr ⟨lw_p57, List.forall_mem_cons.mpr ⟨lw_p58, List.forall_mem_cons.mpr ⟨lw_p59, List.forall_mem_cons.mpr ⟨lw_p60, List.forall_mem_cons.mpr ⟨lw_p61, List.forall_mem_cons.mpr ⟨lw_p62, List.forall_mem_cons.mpr ⟨lw_p63, fun _ h => absurd h List.not_mem_nil⟩⟩⟩⟩⟩⟩⟩⟩⟩⟩⟩⟩⟩⟩⟩⟩
theorem lw_p64 : lw_okq (⟨"MarketTownModel", "lowestAsk", "(I)I"⟩, 21) := ⟨⟨by decide +kernel, by decide +kernel⟩, List.mem_of_getElem? (i := 844) (by decide +kernel), List.mem_of_getElem? (i := 1115) (by decide +kernel), List.mem_of_getElem? (i := 1116) (by decide +kernel)⟩
theorem lw_p65 : lw_okq (⟨"MarketTownModel", "sell", "(IIII)V"⟩, 21) := ⟨⟨by decide +kernel, by decide +kernel⟩, List.mem_of_getElem? (i := 844) (by decide +kernel), List.mem_of_getElem? (i := 1119) (by decide +kernel), List.mem_of_getElem? (i := 1120) (by decide +kernel)⟩
theorem lw_p66 : lw_okq (⟨"MarketTownModel", "council", "()I"⟩, 21) := ⟨⟨by decide +kernel, by decide +kernel⟩, List.mem_of_getElem? (i := 844) (by decide +kernel), List.mem_of_getElem? (i := 1123) (by decide +kernel), List.mem_of_getElem? (i := 1124) (by decide +kernel)⟩
theorem lw_p67 : lw_okq (⟨"MarketTownModel", "called", "(I)V"⟩, 21) := ⟨⟨by decide +kernel, by decide +kernel⟩, List.mem_of_getElem? (i := 844) (by decide +kernel), List.mem_of_getElem? (i := 1128) (by decide +kernel), List.mem_of_getElem? (i := 1129) (by decide +kernel)⟩
theorem lw_p68 : lw_okq (⟨"MarketTownModel", "movesAt", "(II)I"⟩, 21) := ⟨⟨by decide +kernel, by decide +kernel⟩, List.mem_of_getElem? (i := 844) (by decide +kernel), List.mem_of_getElem? (i := 1132) (by decide +kernel), List.mem_of_getElem? (i := 1133) (by decide +kernel)⟩
theorem lw_p69 : lw_okq (⟨"MarketTownModel", "highestBid", "(I)I"⟩, 21) := ⟨⟨by decide +kernel, by decide +kernel⟩, List.mem_of_getElem? (i := 844) (by decide +kernel), List.mem_of_getElem? (i := 1136) (by decide +kernel), List.mem_of_getElem? (i := 1137) (by decide +kernel)⟩
theorem lw_p70 : lw_okq (⟨"MarketTownModel", "haggled", "(I)V"⟩, 21) := ⟨⟨by decide +kernel, by decide +kernel⟩, List.mem_of_getElem? (i := 844) (by decide +kernel), List.mem_of_getElem? (i := 1140) (by decide +kernel), List.mem_of_getElem? (i := 1141) (by decide +kernel)⟩
theorem lw_p71 : lw_okq (⟨"MarketTownModel", "settle", "()V"⟩, 21) := ⟨⟨by decide +kernel, by decide +kernel⟩, List.mem_of_getElem? (i := 844) (by decide +kernel), List.mem_of_getElem? (i := 1144) (by decide +kernel), List.mem_of_getElem? (i := 1145) (by decide +kernel)⟩
theorem lw_p72 : lw_okq (⟨"MarketTownModel", "firstDue", "()I"⟩, 21) := ⟨⟨by decide +kernel, by decide +kernel⟩, List.mem_of_getElem? (i := 844) (by decide +kernel), List.mem_of_getElem? (i := 1148) (by decide +kernel), List.mem_of_getElem? (i := 1149) (by decide +kernel)⟩
theorem lw_p73 : lw_okq (⟨"MarketTownModel", "closeLoan", "(I)V"⟩, 21) := ⟨⟨by decide +kernel, by decide +kernel⟩, List.mem_of_getElem? (i := 844) (by decide +kernel), List.mem_of_getElem? (i := 1152) (by decide +kernel), List.mem_of_getElem? (i := 1153) (by decide +kernel)⟩
theorem lw_p74 : lw_okq (⟨"MarketTownModel", "breaks", "(I)V"⟩, 21) := ⟨⟨by decide +kernel, by decide +kernel⟩, List.mem_of_getElem? (i := 844) (by decide +kernel), List.mem_of_getElem? (i := 1156) (by decide +kernel), List.mem_of_getElem? (i := 1157) (by decide +kernel)⟩
theorem lw_p75 : lw_okq (⟨"MarketTownModel", "owes", "(I)I"⟩, 21) := ⟨⟨by decide +kernel, by decide +kernel⟩, List.mem_of_getElem? (i := 844) (by decide +kernel), List.mem_of_getElem? (i := 1160) (by decide +kernel), List.mem_of_getElem? (i := 1161) (by decide +kernel)⟩
theorem lw_p76 : lw_okq (⟨"MarketTownModel", "age", "(II)V"⟩, 21) := ⟨⟨by decide +kernel, by decide +kernel⟩, List.mem_of_getElem? (i := 844) (by decide +kernel), List.mem_of_getElem? (i := 1164) (by decide +kernel), List.mem_of_getElem? (i := 1165) (by decide +kernel)⟩
theorem lw_p77 : lw_okq (⟨"MarketTownModel", "owed", "(I)I"⟩, 21) := ⟨⟨by decide +kernel, by decide +kernel⟩, List.mem_of_getElem? (i := 844) (by decide +kernel), List.mem_of_getElem? (i := 1172) (by decide +kernel), List.mem_of_getElem? (i := 1173) (by decide +kernel)⟩
def lw_privs_5 : List (MethodName × Nat) := [(⟨"MarketTownModel", "lowestAsk", "(I)I"⟩, 21), (⟨"MarketTownModel", "sell", "(IIII)V"⟩, 21), (⟨"MarketTownModel", "council", "()I"⟩, 21), (⟨"MarketTownModel", "called", "(I)V"⟩, 21), (⟨"MarketTownModel", "movesAt", "(II)I"⟩, 21), (⟨"MarketTownModel", "highestBid", "(I)I"⟩, 21), (⟨"MarketTownModel", "haggled", "(I)V"⟩, 21), (⟨"MarketTownModel", "settle", "()V"⟩, 21), (⟨"MarketTownModel", "firstDue", "()I"⟩, 21), (⟨"MarketTownModel", "closeLoan", "(I)V"⟩, 21), (⟨"MarketTownModel", "breaks", "(I)V"⟩, 21), (⟨"MarketTownModel", "owes", "(I)I"⟩, 21), (⟨"MarketTownModel", "age", "(II)V"⟩, 21), (⟨"MarketTownModel", "owed", "(I)I"⟩, 21)]
theorem lw_r5 : ∀ q ∈ lw_privs_5, lw_okq q := List.forall_mem_cons.mpr ⟨lw_p64, List.forall_mem_cons.mpr ⟨lw_p65, List.forall_mem_cons.mpr ⟨lw_p66, List.forall_mem_cons.mpr ⟨lw_p67, List.forall_mem_cons.mpr ⟨lw_p68, List.forall_mem_cons.mpr ⟨lw_p69, List.forall_mem_cons.mpr ⟨lw_p70, List.forall_mem_cons.mpr ⟨lw_p71, List.forall_mem_cons.mpr ⟨lw_p72, List.forall_mem_cons.mpr ⟨lw_p73, List.forall_mem_cons.mpr ⟨lw_p74, List.forall_mem_cons.mpr ⟨lw_p75, List.forall_mem_cons.mpr ⟨lw_p76, List.forall_mem_cons.mpr ⟨lw_p77, fun _ h => absurd h List.not_mem_nil⟩⟩⟩⟩⟩⟩⟩⟩⟩⟩⟩⟩⟩⟩
def lw_privs : List (MethodName × Nat) := lw_privs_1 ++ (lw_privs_2 ++ (lw_privs_3 ++ (lw_privs_4 ++ (lw_privs_5))))
def lw_tbl : List Cond := k2_sels lw_privs ++ tables_1
theorem lw_privs_ok : ∀ q ∈ lw_privs, lw_okq q := by
  show ∀ q ∈ lw_privs_1 ++ (lw_privs_2 ++ (lw_privs_3 ++ (lw_privs_4 ++ (lw_privs_5)))), lw_okq q
  exact List.forall_mem_append.mpr ⟨lw_r1, List.forall_mem_append.mpr ⟨lw_r2, List.forall_mem_append.mpr ⟨lw_r3, List.forall_mem_append.mpr ⟨lw_r4, lw_r5⟩⟩⟩⟩
-- ===== end of PART A; then your names; then what follows =====
end
section
def TB : List Cond := lw_tbl.filter goodWord
theorem tb_at (i : Nat) {w : Cond} (h : lw_tbl[i]? = some w) (g : goodWord w = true) : w ∈ TB := List.mem_filter.mpr ⟨List.mem_of_getElem? h, g⟩
/-- MarketTown -/
def kT0 : u_T := fun k => match k with
  | 0 => ("MarketTown", "town", "LMarketTown$Town;", true)
  | 1 => ("MarketTown", "worlds", "[LMarketTown$Town;", true)
  | 2 => ("MarketTown", "laidAside", "[Z", true)
  | 3 => ("MarketTown", "tape", "LMarketTown$Tape;", true)
  | 4 => ("MarketTown", "reader", "LMarketTown$RuleReader;", true)
  | _ => ("MarketTown", "days", "LMarketTown$Day;", true)
def kY0 : Nat → FieldType := fun k => match k with
  | 0 => (.object "MarketTown$Town")
  | 1 => (.array (.object "MarketTown$Town"))
  | 2 => (.array .boolean)
  | 3 => (.object "MarketTown$Tape")
  | 4 => (.object "MarketTown$RuleReader")
  | _ => (.object "MarketTown$Day")
theorem kW0 : ∀ w ∈ u_ws "MarketTown" kT0 6, w ∈ TB := by
  intro w hw
  obtain ⟨k, hk, rfl⟩ := List.mem_map.mp hw
  have hk := List.mem_range.mp hk
  rcases (show k = 0 ∨ k = 1 ∨ k = 2 ∨ k = 3 ∨ k = 4 ∨ k = 5 by omega) with rfl | rfl | rfl | rfl | rfl | rfl
  · exact tb_at 347 (by decide +kernel) (by decide +kernel)
  · exact tb_at 349 (by decide +kernel) (by decide +kernel)
  · exact tb_at 351 (by decide +kernel) (by decide +kernel)
  · exact tb_at 353 (by decide +kernel) (by decide +kernel)
  · exact tb_at 355 (by decide +kernel) (by decide +kernel)
  · exact tb_at 357 (by decide +kernel) (by decide +kernel)
theorem kN0 : ∀ a, a < 6 → ∀ b, b < 6 → a ≠ b → (kT0 a).2.1 ≠ (kT0 b).2.1 := by decide +kernel
theorem kP0 : ∀ k, k < 6 → parseFieldDescriptor (kT0 k).2.2.1 = some (kY0 k) := by decide +kernel
theorem kD0 : ∀ k, k < 6 → (kT0 k).1 = "MarketTown" := by decide +kernel
/-- MarketTown$Day -/
def kT1 : u_T := fun k => match k with
  | 0 => ("MarketTown$Day", "order", "[I", true)
  | _ => ("MarketTown$Day", "market", "LMarketTown$Market;", true)
def kY1 : Nat → FieldType := fun k => match k with
  | 0 => (.array .int)
  | _ => (.object "MarketTown$Market")
theorem kW1 : ∀ w ∈ u_ws "MarketTown$Day" kT1 2, w ∈ TB := by
  intro w hw
  obtain ⟨k, hk, rfl⟩ := List.mem_map.mp hw
  have hk := List.mem_range.mp hk
  rcases (show k = 0 ∨ k = 1 by omega) with rfl | rfl
  · exact tb_at 336 (by decide +kernel) (by decide +kernel)
  · exact tb_at 338 (by decide +kernel) (by decide +kernel)
theorem kN1 : ∀ a, a < 2 → ∀ b, b < 2 → a ≠ b → (kT1 a).2.1 ≠ (kT1 b).2.1 := by decide +kernel
theorem kP1 : ∀ k, k < 2 → parseFieldDescriptor (kT1 k).2.2.1 = some (kY1 k) := by decide +kernel
theorem kD1 : ∀ k, k < 2 → (kT1 k).1 = "MarketTown$Day" := by decide +kernel
/-- MarketTown$Loans -/
def kT2 : u_T := fun k => match k with
  | 0 => ("MarketTown$Loans", "size", "I", false)
  | _ => ("MarketTown$Loans", "cells", "[I", true)
def kY2 : Nat → FieldType := fun k => match k with
  | 0 => .int
  | _ => (.array .int)
theorem kW2 : ∀ w ∈ u_ws "MarketTown$Loans" kT2 2, w ∈ TB := by
  intro w hw
  obtain ⟨k, hk, rfl⟩ := List.mem_map.mp hw
  have hk := List.mem_range.mp hk
  rcases (show k = 0 ∨ k = 1 by omega) with rfl | rfl
  · exact tb_at 159 (by decide +kernel) (by decide +kernel)
  · exact tb_at 161 (by decide +kernel) (by decide +kernel)
theorem kN2 : ∀ a, a < 2 → ∀ b, b < 2 → a ≠ b → (kT2 a).2.1 ≠ (kT2 b).2.1 := by decide +kernel
theorem kP2 : ∀ k, k < 2 → parseFieldDescriptor (kT2 k).2.2.1 = some (kY2 k) := by decide +kernel
theorem kD2 : ∀ k, k < 2 → (kT2 k).1 = "MarketTown$Loans" := by decide +kernel
/-- MarketTown$Market -/
def kT3 : u_T := fun k => match k with
  | 0 => ("MarketTown$Market", "asks", "LMarketTown$Offers;", true)
  | 1 => ("MarketTown$Market", "bids", "LMarketTown$Offers;", true)
  | 2 => ("MarketTown$Market", "offered", "[I", true)
  | 3 => ("MarketTown$Market", "held", "[I", true)
  | _ => ("MarketTown$Market", "council", "I", false)
def kY3 : Nat → FieldType := fun k => match k with
  | 0 => (.object "MarketTown$Offers")
  | 1 => (.object "MarketTown$Offers")
  | 2 => (.array .int)
  | 3 => (.array .int)
  | _ => .int
theorem kW3 : ∀ w ∈ u_ws "MarketTown$Market" kT3 5, w ∈ TB := by
  intro w hw
  obtain ⟨k, hk, rfl⟩ := List.mem_map.mp hw
  have hk := List.mem_range.mp hk
  rcases (show k = 0 ∨ k = 1 ∨ k = 2 ∨ k = 3 ∨ k = 4 by omega) with rfl | rfl | rfl | rfl | rfl
  · exact tb_at 323 (by decide +kernel) (by decide +kernel)
  · exact tb_at 325 (by decide +kernel) (by decide +kernel)
  · exact tb_at 327 (by decide +kernel) (by decide +kernel)
  · exact tb_at 329 (by decide +kernel) (by decide +kernel)
  · exact tb_at 331 (by decide +kernel) (by decide +kernel)
theorem kN3 : ∀ a, a < 5 → ∀ b, b < 5 → a ≠ b → (kT3 a).2.1 ≠ (kT3 b).2.1 := by decide +kernel
theorem kP3 : ∀ k, k < 5 → parseFieldDescriptor (kT3 k).2.2.1 = some (kY3 k) := by decide +kernel
theorem kD3 : ∀ k, k < 5 → (kT3 k).1 = "MarketTown$Market" := by decide +kernel
/-- MarketTown$Offers -/
def kT4 : u_T := fun k => match k with
  | 0 => ("MarketTown$Offers", "agent", "[I", true)
  | 1 => ("MarketTown$Offers", "price", "[I", true)
  | 2 => ("MarketTown$Offers", "left", "[I", true)
  | 3 => ("MarketTown$Offers", "picked", "[I", true)
  | 4 => ("MarketTown$Offers", "picks", "I", false)
  | 5 => ("MarketTown$Offers", "ware", "[I", true)
  | _ => ("MarketTown$Offers", "size", "I", false)
def kY4 : Nat → FieldType := fun k => match k with
  | 0 => (.array .int)
  | 1 => (.array .int)
  | 2 => (.array .int)
  | 3 => (.array .int)
  | 4 => .int
  | 5 => (.array .int)
  | _ => .int
theorem kW4 : ∀ w ∈ u_ws "MarketTown$Offers" kT4 7, w ∈ TB := by
  intro w hw
  obtain ⟨k, hk, rfl⟩ := List.mem_map.mp hw
  have hk := List.mem_range.mp hk
  rcases (show k = 0 ∨ k = 1 ∨ k = 2 ∨ k = 3 ∨ k = 4 ∨ k = 5 ∨ k = 6 by omega) with rfl | rfl | rfl | rfl | rfl | rfl | rfl
  · exact tb_at 303 (by decide +kernel) (by decide +kernel)
  · exact tb_at 305 (by decide +kernel) (by decide +kernel)
  · exact tb_at 307 (by decide +kernel) (by decide +kernel)
  · exact tb_at 309 (by decide +kernel) (by decide +kernel)
  · exact tb_at 311 (by decide +kernel) (by decide +kernel)
  · exact tb_at 313 (by decide +kernel) (by decide +kernel)
  · exact tb_at 315 (by decide +kernel) (by decide +kernel)
theorem kN4 : ∀ a, a < 7 → ∀ b, b < 7 → a ≠ b → (kT4 a).2.1 ≠ (kT4 b).2.1 := by decide +kernel
theorem kP4 : ∀ k, k < 7 → parseFieldDescriptor (kT4 k).2.2.1 = some (kY4 k) := by decide +kernel
theorem kD4 : ∀ k, k < 7 → (kT4 k).1 = "MarketTown$Offers" := by decide +kernel
/-- MarketTown$RuleReader -/
def kT5 : u_T := fun k => match k with
  | 0 => ("MarketTown$RuleReader", "row", "[I", true)
  | 1 => ("MarketTown$RuleReader", "start", "I", false)
  | _ => ("MarketTown$RuleReader", "end", "I", false)
def kY5 : Nat → FieldType := fun k => match k with
  | 0 => (.array .int)
  | 1 => .int
  | _ => .int
theorem kW5 : ∀ w ∈ u_ws "MarketTown$RuleReader" kT5 3, w ∈ TB := by
  intro w hw
  obtain ⟨k, hk, rfl⟩ := List.mem_map.mp hw
  have hk := List.mem_range.mp hk
  rcases (show k = 0 ∨ k = 1 ∨ k = 2 by omega) with rfl | rfl | rfl
  · exact tb_at 266 (by decide +kernel) (by decide +kernel)
  · exact tb_at 268 (by decide +kernel) (by decide +kernel)
  · exact tb_at 270 (by decide +kernel) (by decide +kernel)
theorem kN5 : ∀ a, a < 3 → ∀ b, b < 3 → a ≠ b → (kT5 a).2.1 ≠ (kT5 b).2.1 := by decide +kernel
theorem kP5 : ∀ k, k < 3 → parseFieldDescriptor (kT5 k).2.2.1 = some (kY5 k) := by decide +kernel
theorem kD5 : ∀ k, k < 3 → (kT5 k).1 = "MarketTown$RuleReader" := by decide +kernel
/-- MarketTown$Rules -/
def kT6 : u_T := fun k => match k with
  | 0 => ("MarketTown$Rules", "size", "[I", true)
  | _ => ("MarketTown$Rules", "cells", "[I", true)
def kY6 : Nat → FieldType := fun k => match k with
  | 0 => (.array .int)
  | _ => (.array .int)
theorem kW6 : ∀ w ∈ u_ws "MarketTown$Rules" kT6 2, w ∈ TB := by
  intro w hw
  obtain ⟨k, hk, rfl⟩ := List.mem_map.mp hw
  have hk := List.mem_range.mp hk
  rcases (show k = 0 ∨ k = 1 by omega) with rfl | rfl
  · exact tb_at 145 (by decide +kernel) (by decide +kernel)
  · exact tb_at 147 (by decide +kernel) (by decide +kernel)
theorem kN6 : ∀ a, a < 2 → ∀ b, b < 2 → a ≠ b → (kT6 a).2.1 ≠ (kT6 b).2.1 := by decide +kernel
theorem kP6 : ∀ k, k < 2 → parseFieldDescriptor (kT6 k).2.2.1 = some (kY6 k) := by decide +kernel
theorem kD6 : ∀ k, k < 2 → (kT6 k).1 = "MarketTown$Rules" := by decide +kernel
/-- MarketTown$Stock -/
def kT7 : u_T := fun k => match k with
  | 0 => ("MarketTown$Stock", "pieces", "[I", true)
  | _ => ("MarketTown$Stock", "sums", "[I", true)
def kY7 : Nat → FieldType := fun k => match k with
  | 0 => (.array .int)
  | _ => (.array .int)
theorem kW7 : ∀ w ∈ u_ws "MarketTown$Stock" kT7 2, w ∈ TB := by
  intro w hw
  obtain ⟨k, hk, rfl⟩ := List.mem_map.mp hw
  have hk := List.mem_range.mp hk
  rcases (show k = 0 ∨ k = 1 by omega) with rfl | rfl
  · exact tb_at 119 (by decide +kernel) (by decide +kernel)
  · exact tb_at 121 (by decide +kernel) (by decide +kernel)
theorem kN7 : ∀ a, a < 2 → ∀ b, b < 2 → a ≠ b → (kT7 a).2.1 ≠ (kT7 b).2.1 := by decide +kernel
theorem kP7 : ∀ k, k < 2 → parseFieldDescriptor (kT7 k).2.2.1 = some (kY7 k) := by decide +kernel
theorem kD7 : ∀ k, k < 2 → (kT7 k).1 = "MarketTown$Stock" := by decide +kernel
/-- MarketTown$Tape -/
def kT8 : u_T := fun k => match k with
  | 0 => ("MarketTown$Tape", "length", "I", false)
  | _ => ("MarketTown$Tape", "bytes", "[I", true)
def kY8 : Nat → FieldType := fun k => match k with
  | 0 => .int
  | _ => (.array .int)
theorem kW8 : ∀ w ∈ u_ws "MarketTown$Tape" kT8 2, w ∈ TB := by
  intro w hw
  obtain ⟨k, hk, rfl⟩ := List.mem_map.mp hw
  have hk := List.mem_range.mp hk
  rcases (show k = 0 ∨ k = 1 by omega) with rfl | rfl
  · exact tb_at 249 (by decide +kernel) (by decide +kernel)
  · exact tb_at 251 (by decide +kernel) (by decide +kernel)
theorem kN8 : ∀ a, a < 2 → ∀ b, b < 2 → a ≠ b → (kT8 a).2.1 ≠ (kT8 b).2.1 := by decide +kernel
theorem kP8 : ∀ k, k < 2 → parseFieldDescriptor (kT8 k).2.2.1 = some (kY8 k) := by decide +kernel
theorem kD8 : ∀ k, k < 2 → (kT8 k).1 = "MarketTown$Tape" := by decide +kernel
/-- MarketTown$Town -/
def kT9 : u_T := fun k => match k with
  | 0 => ("MarketTown$Town", "agents", "I", false)
  | 1 => ("MarketTown$Town", "day", "I", false)
  | 2 => ("MarketTown$Town", "lots", "I", false)
  | 3 => ("MarketTown$Town", "tax", "I", false)
  | 4 => ("MarketTown$Town", "interest", "I", false)
  | 5 => ("MarketTown$Town", "kind", "[I", true)
  | 6 => ("MarketTown$Town", "cash", "[I", true)
  | 7 => ("MarketTown$Town", "broke", "[I", true)
  | 8 => ("MarketTown$Town", "place", "[I", true)
  | 9 => ("MarketTown$Town", "payments", "[I", true)
  | 10 => ("MarketTown$Town", "stock", "LMarketTown$Stock;", true)
  | 11 => ("MarketTown$Town", "wares", "LMarketTown$Wares;", true)
  | 12 => ("MarketTown$Town", "rules", "LMarketTown$Rules;", true)
  | _ => ("MarketTown$Town", "loans", "LMarketTown$Loans;", true)
def kY9 : Nat → FieldType := fun k => match k with
  | 0 => .int
  | 1 => .int
  | 2 => .int
  | 3 => .int
  | 4 => .int
  | 5 => (.array .int)
  | 6 => (.array .int)
  | 7 => (.array .int)
  | 8 => (.array .int)
  | 9 => (.array .int)
  | 10 => (.object "MarketTown$Stock")
  | 11 => (.object "MarketTown$Wares")
  | 12 => (.object "MarketTown$Rules")
  | _ => (.object "MarketTown$Loans")
theorem kW9 : ∀ w ∈ u_ws "MarketTown$Town" kT9 14, w ∈ TB := by
  intro w hw
  obtain ⟨k, hk, rfl⟩ := List.mem_map.mp hw
  have hk := List.mem_range.mp hk
  rcases (show k = 0 ∨ k = 1 ∨ k = 2 ∨ k = 3 ∨ k = 4 ∨ k = 5 ∨ k = 6 ∨ k = 7 ∨ k = 8 ∨ k = 9 ∨ k = 10 ∨ k = 11 ∨ k = 12 ∨ k = 13 by omega) with rfl | rfl | rfl | rfl | rfl | rfl | rfl | rfl | rfl | rfl | rfl | rfl | rfl | rfl
  · exact tb_at 210 (by decide +kernel) (by decide +kernel)
  · exact tb_at 212 (by decide +kernel) (by decide +kernel)
  · exact tb_at 214 (by decide +kernel) (by decide +kernel)
  · exact tb_at 216 (by decide +kernel) (by decide +kernel)
  · exact tb_at 218 (by decide +kernel) (by decide +kernel)
  · exact tb_at 220 (by decide +kernel) (by decide +kernel)
  · exact tb_at 222 (by decide +kernel) (by decide +kernel)
  · exact tb_at 224 (by decide +kernel) (by decide +kernel)
  · exact tb_at 226 (by decide +kernel) (by decide +kernel)
  · exact tb_at 228 (by decide +kernel) (by decide +kernel)
  · exact tb_at 230 (by decide +kernel) (by decide +kernel)
  · exact tb_at 232 (by decide +kernel) (by decide +kernel)
  · exact tb_at 234 (by decide +kernel) (by decide +kernel)
  · exact tb_at 236 (by decide +kernel) (by decide +kernel)
theorem kN9 : ∀ a, a < 14 → ∀ b, b < 14 → a ≠ b → (kT9 a).2.1 ≠ (kT9 b).2.1 := by decide +kernel
theorem kP9 : ∀ k, k < 14 → parseFieldDescriptor (kT9 k).2.2.1 = some (kY9 k) := by decide +kernel
theorem kD9 : ∀ k, k < 14 → (kT9 k).1 = "MarketTown$Town" := by decide +kernel
/-- MarketTown$Wares -/
def kT10 : u_T := fun k => match k with
  | _ => ("MarketTown$Wares", "cells", "[I", true)
def kY10 : Nat → FieldType := fun k => match k with
  | _ => (.array .int)
theorem kW10 : ∀ w ∈ u_ws "MarketTown$Wares" kT10 1, w ∈ TB := by
  intro w hw
  obtain ⟨k, hk, rfl⟩ := List.mem_map.mp hw
  have hk := List.mem_range.mp hk
  rcases (show k = 0 by omega) with rfl
  · exact tb_at 132 (by decide +kernel) (by decide +kernel)
theorem kN10 : ∀ a, a < 1 → ∀ b, b < 1 → a ≠ b → (kT10 a).2.1 ≠ (kT10 b).2.1 := by decide +kernel
theorem kP10 : ∀ k, k < 1 → parseFieldDescriptor (kT10 k).2.2.1 = some (kY10 k) := by decide +kernel
theorem kD10 : ∀ k, k < 1 → (kT10 k).1 = "MarketTown$Wares" := by decide +kernel
/-- MarketTownModel -/
def kT11 : u_T := fun k => match k with
  | 0 => ("MarketTownModel", "s", "[I", true)
  | 1 => ("MarketTownModel", "worlds", "[I", true)
  | 2 => ("MarketTownModel", "isWorld", "[Z", true)
  | 3 => ("MarketTownModel", "tape", "[I", true)
  | 4 => ("MarketTownModel", "taped", "I", false)
  | 5 => ("MarketTownModel", "who", "[I", true)
  | 6 => ("MarketTownModel", "what", "[I", true)
  | 7 => ("MarketTownModel", "told", "[I", true)
  | 8 => ("MarketTownModel", "price", "[I", true)
  | 9 => ("MarketTownModel", "isBid", "[Z", true)
  | 10 => ("MarketTownModel", "left", "[I", true)
  | 11 => ("MarketTownModel", "offers", "I", false)
  | 12 => ("MarketTownModel", "length", "I", false)
  | 13 => ("MarketTownModel", "at", "I", false)
  | 14 => ("MarketTownModel", "from", "I", false)
  | 15 => ("MarketTownModel", "to", "I", false)
  | 16 => ("MarketTownModel", "fault", "I", false)
  | 17 => ("MarketTownModel", "row", "[I", true)
  | 18 => ("MarketTownModel", "order", "[I", true)
  | 19 => ("MarketTownModel", "moving", "[I", true)
  | _ => ("MarketTownModel", "shares", "[I", true)
def kY11 : Nat → FieldType := fun k => match k with
  | 0 => (.array .int)
  | 1 => (.array .int)
  | 2 => (.array .boolean)
  | 3 => (.array .int)
  | 4 => .int
  | 5 => (.array .int)
  | 6 => (.array .int)
  | 7 => (.array .int)
  | 8 => (.array .int)
  | 9 => (.array .boolean)
  | 10 => (.array .int)
  | 11 => .int
  | 12 => .int
  | 13 => .int
  | 14 => .int
  | 15 => .int
  | 16 => .int
  | 17 => (.array .int)
  | 18 => (.array .int)
  | 19 => (.array .int)
  | _ => (.array .int)
theorem kW11 : ∀ w ∈ u_ws "MarketTownModel" kT11 21, w ∈ TB := by
  intro w hw
  obtain ⟨k, hk, rfl⟩ := List.mem_map.mp hw
  have hk := List.mem_range.mp hk
  rcases (show k = 0 ∨ k = 1 ∨ k = 2 ∨ k = 3 ∨ k = 4 ∨ k = 5 ∨ k = 6 ∨ k = 7 ∨ k = 8 ∨ k = 9 ∨ k = 10 ∨ k = 11 ∨ k = 12 ∨ k = 13 ∨ k = 14 ∨ k = 15 ∨ k = 16 ∨ k = 17 ∨ k = 18 ∨ k = 19 ∨ k = 20 by omega) with rfl | rfl | rfl | rfl | rfl | rfl | rfl | rfl | rfl | rfl | rfl | rfl | rfl | rfl | rfl | rfl | rfl | rfl | rfl | rfl | rfl
  · exact tb_at 948 (by decide +kernel) (by decide +kernel)
  · exact tb_at 950 (by decide +kernel) (by decide +kernel)
  · exact tb_at 952 (by decide +kernel) (by decide +kernel)
  · exact tb_at 954 (by decide +kernel) (by decide +kernel)
  · exact tb_at 956 (by decide +kernel) (by decide +kernel)
  · exact tb_at 958 (by decide +kernel) (by decide +kernel)
  · exact tb_at 960 (by decide +kernel) (by decide +kernel)
  · exact tb_at 962 (by decide +kernel) (by decide +kernel)
  · exact tb_at 964 (by decide +kernel) (by decide +kernel)
  · exact tb_at 966 (by decide +kernel) (by decide +kernel)
  · exact tb_at 968 (by decide +kernel) (by decide +kernel)
  · exact tb_at 970 (by decide +kernel) (by decide +kernel)
  · exact tb_at 972 (by decide +kernel) (by decide +kernel)
  · exact tb_at 974 (by decide +kernel) (by decide +kernel)
  · exact tb_at 976 (by decide +kernel) (by decide +kernel)
  · exact tb_at 978 (by decide +kernel) (by decide +kernel)
  · exact tb_at 980 (by decide +kernel) (by decide +kernel)
  · exact tb_at 982 (by decide +kernel) (by decide +kernel)
  · exact tb_at 984 (by decide +kernel) (by decide +kernel)
  · exact tb_at 986 (by decide +kernel) (by decide +kernel)
  · exact tb_at 988 (by decide +kernel) (by decide +kernel)
theorem kN11 : ∀ a, a < 21 → ∀ b, b < 21 → a ≠ b → (kT11 a).2.1 ≠ (kT11 b).2.1 := by decide +kernel
theorem kP11 : ∀ k, k < 21 → parseFieldDescriptor (kT11 k).2.2.1 = some (kY11 k) := by decide +kernel
theorem kD11 : ∀ k, k < 21 → (kT11 k).1 = "MarketTownModel" := by decide +kernel
abbrev kCls : List vw_C := [("MarketTown", kT0, 6), ("MarketTown$Day", kT1, 2), ("MarketTown$Loans", kT2, 2), ("MarketTown$Market", kT3, 5), ("MarketTown$Offers", kT4, 7), ("MarketTown$RuleReader", kT5, 3), ("MarketTown$Rules", kT6, 2), ("MarketTown$Stock", kT7, 2), ("MarketTown$Tape", kT8, 2), ("MarketTown$Town", kT9, 14), ("MarketTown$Wares", kT10, 1), ("MarketTownModel", kT11, 21)]
def kTy : Nat → Nat → FieldType := fun c => match c with
  | 0 => kY0
  | 1 => kY1
  | 2 => kY2
  | 3 => kY3
  | 4 => kY4
  | 5 => kY5
  | 6 => kY6
  | 7 => kY7
  | 8 => kY8
  | 9 => kY9
  | 10 => kY10
  | _ => kY11
def kFty (t : FieldType) : Bool := match t with
  | .object _ => true
  | .array _ => true
  | _ => false
def kRf (c k : Nat) : Bool := kFty (kTy c k)
theorem kOk {ci N : Nat} {C : String} {T : u_T} (h : kCls[ci]? = some (C, T, N)) : (∀ w ∈ u_ws C T N, w ∈ TB) ∧ (∀ a, a < N → ∀ b, b < N → a ≠ b → (T a).2.1 ≠ (T b).2.1) ∧ (∀ k, k < N → parseFieldDescriptor (T k).2.2.1 = some (kTy ci k)) ∧ (∀ k, k < N → (T k).1 = C) := by
  match ci, h with
  | 0, h => cases h; exact ⟨kW0, kN0, kP0, kD0⟩
  | 1, h => cases h; exact ⟨kW1, kN1, kP1, kD1⟩
  | 2, h => cases h; exact ⟨kW2, kN2, kP2, kD2⟩
  | 3, h => cases h; exact ⟨kW3, kN3, kP3, kD3⟩
  | 4, h => cases h; exact ⟨kW4, kN4, kP4, kD4⟩
  | 5, h => cases h; exact ⟨kW5, kN5, kP5, kD5⟩
  | 6, h => cases h; exact ⟨kW6, kN6, kP6, kD6⟩
  | 7, h => cases h; exact ⟨kW7, kN7, kP7, kD7⟩
  | 8, h => cases h; exact ⟨kW8, kN8, kP8, kD8⟩
  | 9, h => cases h; exact ⟨kW9, kN9, kP9, kD9⟩
  | 10, h => cases h; exact ⟨kW10, kN10, kP10, kD10⟩
  | 11, h => cases h; exact ⟨kW11, kN11, kP11, kD11⟩
  | n + 12, h => simp [kCls] at h
def kNest : List (String × Nat × MethodName × String) := [("MarketTown", 9, ⟨"MarketTown$Town", "<init>", "()V"⟩, "MarketTown"), ("MarketTown$Town", 33, ⟨"MarketTown$Stock", "<init>", "()V"⟩, "MarketTown"), ("MarketTown$Town", 47, ⟨"MarketTown$Rules", "<init>", "()V"⟩, "MarketTown"), ("MarketTown$Town", 54, ⟨"MarketTown$Loans", "<init>", "()V"⟩, "MarketTown"), ("MarketTown", 26, ⟨"MarketTown$Tape", "<init>", "()V"⟩, "MarketTown"), ("MarketTown", 33, ⟨"MarketTown$RuleReader", "<init>", "()V"⟩, "MarketTown"), ("MarketTown", 40, ⟨"MarketTown$Day", "<init>", "()V"⟩, "MarketTown"), ("MarketTown$Day", 17, ⟨"MarketTown$Market", "<init>", "()V"⟩, "MarketTown"), ("MarketTown$Market", 11, ⟨"MarketTown$Offers", "<init>", "()V"⟩, "MarketTown"), ("MarketTown$Town", 62, ⟨"MarketTown", "isWithin", "(III)Z"⟩, "MarketTown"), ("MarketTown$RuleReader", 105, ⟨"MarketTown", "isWithin", "(III)Z"⟩, "MarketTown")]
def kSix : List Nat := [28, 38, 79, 81, 83, 85, 75, 77, 90, 92, 94, 96, 98, 100]
def kStx : List String := ["every", "if", "cash", "have", "day", "price", ">", "<", "make", "eat", "ask", "bid", "pay", "lend"]
def kSln : List Nat := [5, 2, 4, 4, 3, 5, 1, 1, 4, 3, 3, 3, 3, 4]
def kSby : List (List Int32) := [[101, 118, 101, 114, 121], [105, 102], [99, 97, 115, 104], [104, 97, 118, 101], [100, 97, 121], [112, 114, 105, 99, 101], [62], [60], [109, 97, 107, 101], [101, 97, 116], [97, 115, 107], [98, 105, 100], [112, 97, 121], [108, 101, 110, 100]]
end
section
/-! THE LAYER: memory of a fixed shape and whole numbers, one judgement mj_R a method, a row an instruction. -/
/-- the shape of each cell (0 int[], 1 boolean[], 2 Town[], 3 + c an object of class c; its size; its references), and the whole numbers in it -/
abbrev mj_Mem : Type := List (Nat × Nat × (Nat → Option Nat)) × (Nat → Nat → Int32)
/-- a method: name, bytes, locals, result, frames and words of room -/
abbrev mj_M : Type := MethodName × ByteArray × Nat × Option FieldType × Nat × Nat
/-- what is fixed for a run: classes, array classes, the first cell's address, the Strings' and their bytes' addresses, a static -/
abbrev mj_E : Type := va_G × (Nat → ClassId) × Nat × (Nat → Nat) × (Nat → Nat) × Value
def mj_ad (E : mj_E) (i : Nat) : Value := if i < 1000000 then .ref (E.2.2.1 + i) else if i < 2000000 then .ref (E.2.2.2.1 (i - 1000000)) else if i < 3000000 then .ref (E.2.2.2.2.1 (i - 2000000)) else E.2.2.2.2.2
def mj_cv (E : mj_E) (v : Value) : Value := match v with
  | .ref i => mj_ad E i
  | .int x => .int x
  | .long x => .long x
  | v => v
def mj_cell (E : mj_E) (c : Nat × Nat × (Nat → Option Nat)) (f : Nat → Int32) : va_E := match c.1 with
  | 0 => .inl (E.2.1 0, c.2.1, .inl f)
  | 1 => .inl (E.2.1 1, c.2.1, .inl f)
  | 2 => .inl (E.2.1 2, c.2.1, .inr (.inr (.inr (.inr (fun j => (c.2.2 j).map (fun i => E.2.2.1 + i))))))
  | k + 3 => .inr (k, (List.range c.2.1).map (fun j => if kRf k j then va_rf ((c.2.2 j).map (fun i => E.2.2.1 + i)) else .int (f j)))
def mj_wl (E : mj_E) (mem : mj_Mem) : va_W := mem.1.mapIdx (fun i c => (E.2.2.1 + i, mj_cell E c (mem.2 i)))
def mj_H (E : mj_E) (mem : mj_Mem) (H : Heap) : Prop := H.size = E.2.2.1 + mem.1.length ∧ va_P E.1 kCls (mj_wl E mem) H
def mj_A (E : mj_E) : Nat → Prop := fun q => E.2.2.1 ≤ q
def mj_sz (mem : mj_Mem) : Nat := (mem.1.map (fun c => c.2.1)).sum
def mj_wr (f : Nat → Nat → Int32) (b k : Nat) (x : Int32) : Nat → Nat → Int32 := fun i j => if i = b ∧ j = k then x else f i j
abbrev mj_tys (E : mj_E) : List (ClassId × FieldType) := [(E.2.1 0, .int), (E.2.1 1, .boolean), (E.2.1 2, .object "MarketTown$Town")]
/-- what holds of every state of the run -/
def mj_G (E : mj_E) (U : State) : Prop :=
  va_K E.1 kCls (mj_tys E) U ∧ (∀ q ∈ kNest, va_Nw (.methodLinkNest q.1 q.2.1 q.2.2.1 q.2.2.2) U) ∧
  (∀ i : Nat, i < 14 → vk_R "MarketTown$RuleReader" (kSix.getD i 0) (kStx.getD i "") (E.2.2.2.1 i) U) ∧ vk_S 14 kSln kSby E.2.2.2.1 E.2.2.2.2.1 (mj_A E) U U.heap ∧
  va_Z "java/lang/String" "COMPACT_STRINGS" "Z" (.int 1) (mj_A E) U U.heap ∧ va_Z "jdk/internal/util/Preconditions" "SIOOBE_FORMATTER" "Ljava/util/function/BiFunction;" E.2.2.2.2.2 (mj_A E) U U.heap ∧ E.2.2.2.2.2.category = 1 ∧ va_AO "MarketTown$Town" U
theorem mj_G.moved {E : mj_E} {s U : State} {H : Heap} {locs : List Loc} (h : mj_G E s) (hW : s.WarmedH U.vm) (hU : U.heap = H) (hS : va_S (mj_A E) s.heap H locs) : mj_G E U := by
  obtain ⟨h1, h2, h3, h4, h5, h6, h7, h8⟩ := h
  subst hU
  exact ⟨va_K.moved hW.alike h1, fun q hq => va_Nw.warmM hW (h2 q hq), fun i hi => (h3 i hi).warm hW, (vk_S.moved hW.alike h4).kept hS.2.1, (va_Z.moved hW.alike h5).kept hS.2.1, (va_Z.moved hW.alike h6).kept hS.2.1, h7, h8.moved hW.alike⟩
theorem mj_G.same {E : mj_E} {s U : State} (h : mj_G E s) (hv : U.vm = s.vm) (hh : U.heap = s.heap) : mj_G E U := by
  obtain ⟨h1, h2, h3, h4, h5, h6, h7, h8⟩ := h
  have ha : s.vm.Alike U.vm := by rw [hv]; exact Vm.Alike.refl _
  exact ⟨va_K.moved ha h1, fun q hq => va_Nw.same rfl hv.symm (h2 q hq), fun i hi => (h3 i hi).same hv, by rw [hh]; exact vk_S.moved ha h4, by rw [hh]; exact va_Z.moved ha h5, by rw [hh]; exact va_Z.moved ha h6, h7, h8.moved ha⟩
def mj_L (E : mj_E) (ls : Array Slot) (n : Nat) (lv : List (Option Value)) : Prop := ls.size = n ∧ lv_wf ls ∧ ∀ (i : Nat) (v : Value), lv[i]? = some (some v) → ls[i]? = some (.val (mj_cv E v))
def mj_Cx (E : mj_E) (M : mj_M) (p : Program) (s : State) (m : MethodId) (args : Array Value) (meth : Method) (c : Code) : Prop :=
  p.tables.exec = Jvm.exec ∧ c.code = M.2.1 ∧ c.maxLocals = M.2.2.1 ∧ s.vm.findClass M.1.cls = some m.cls ∧ (∀ w ∈ TB, w.before args s = true) ∧ meth.sig.returnType = M.2.2.2.1 ∧ meth.locks = false ∧ meth.name = M.1.name ∧ mj_G E s ∧ E.2.2.1 ≤ s.heap.size
def mj_Q (E : mj_E) (r : Option Value) (mem' : mj_Mem) : Array Value → State → Outcome → State → Prop := fun _ st oc t => oc = .returned (r.map (mj_cv E)) ∧ mj_H E mem' t.heap ∧ va_F (mj_A E) st t
/-- from this frame of method M, memory mem, the method comes to its end with the answer r and memory mem' -/
def mj_R (M : mj_M) (pc : Nat) (lv : List (Option Value)) (st : List Value) (mem : mj_Mem) (r : Option Value) (mem' : mj_Mem) : Prop :=
  (mem.1.length ≤ mem'.1.length ∧ mj_sz mem ≤ mj_sz mem') ∧
  ∀ (E : mj_E) (l : Launch) (p : Program) (e : Env) (s : State) (m : MethodId) (args : Array Value) (below : List Frame) (meth : Method) (c : Code) (L0 S0 : Nat), mj_Cx E M p s m args meth c → L0 ≤ mem.1.length → S0 ≤ mj_sz mem →
    ∀ (H : Heap) (locs : List Loc) (ls : Array Slot), mj_H E mem H → va_S (mj_A E) s.heap H locs → mj_L E ls M.2.2.1 lv →
      W p l e { frames := M.2.2.2.2.1, cells := mem'.1.length - L0, slots := mj_sz mem' - S0, locals := M.2.2.2.2.2 } s m args below meth c H locs (mem.1.length - L0) (mj_sz mem - S0) (MQ below (mj_Q E r mem') args s (mem'.1.length - L0) (mj_sz mem' - S0) (mj_A E)) (F0 m pc ls (st.map (mj_cv E)))
theorem mj_adw {E : mj_E} {b : Nat} (h : b < 1000000) : mj_cv E (.ref b) = .ref (E.2.2.1 + b) := by
  show mj_ad E b = _
  unfold mj_ad
  rw [if_pos h]
theorem mj_adr {E : mj_E} {b : Nat} (h : b < 3000000) : ∃ a : Nat, mj_cv E (.ref b) = .ref a := by
  show ∃ a : Nat, mj_ad E b = .ref a
  unfold mj_ad
  by_cases h1 : b < 1000000
  · exact ⟨_, if_pos h1⟩
  · rw [if_neg h1]
    by_cases h2 : b < 2000000
    · exact ⟨_, if_pos h2⟩
    · exact ⟨_, by rw [if_neg h2, if_pos h]⟩
theorem mj_cat {E : mj_E} (hE : E.2.2.2.2.2.category = 1) (v : Value) : (mj_cv E v).category = v.category := by
  cases v <;> try rfl
  rename_i a
  show (mj_ad E a).category = 1
  unfold mj_ad
  split
  · rfl
  · split
    · rfl
    · split
      · rfl
      · exact hE
theorem mj_cats {E : mj_E} (hE : E.2.2.2.2.2.category = 1) (st : List Value) : ((st.map (mj_cv E)).map fun v => v.category).sum = (st.map fun v => v.category).sum := by
  rw [List.map_map]
  congr 1
  exact List.map_congr_left fun v _ => mj_cat hE v
theorem mj_wl_at (E : mj_E) (mem : mj_Mem) (i : Nat) : (mj_wl E mem)[i]? = (mem.1[i]?).map (fun c => (E.2.2.1 + i, mj_cell E c (mem.2 i))) := by
  unfold mj_wl
  rw [List.getElem?_mapIdx]
theorem mj_wl_get {E : mj_E} {mem : mj_Mem} {b : Nat} {c : Nat × Nat × (Nat → Option Nat)} (h : mem.1[b]? = some c) : (mj_wl E mem)[b]? = some (E.2.2.1 + b, mj_cell E c (mem.2 b)) := by
  rw [mj_wl_at, h]
  rfl
theorem mj_wl_inv {E : mj_E} {mem : mj_Mem} {b : Nat} {q : Nat × va_E} (h : (mj_wl E mem)[b]? = some q) : ∃ c, mem.1[b]? = some c ∧ q = (E.2.2.1 + b, mj_cell E c (mem.2 b)) := by
  rw [mj_wl_at] at h
  cases hc : mem.1[b]? with
  | none => rw [hc] at h; cases h
  | some c => rw [hc] at h; exact ⟨c, rfl, (Option.some.inj h).symm⟩
theorem mj_D (E : mj_E) (mem : mj_Mem) : va_D (mj_A E) (mj_wl E mem) := by
  refine ⟨fun i j p q hp hq hpq => ?_, fun k q hq => ?_⟩
  · obtain ⟨_, _, rfl⟩ := mj_wl_inv hp
    obtain ⟨_, _, rfl⟩ := mj_wl_inv hq
    have : E.2.2.1 + i = E.2.2.1 + j := hpq
    omega
  · obtain ⟨_, _, rfl⟩ := mj_wl_inv hq
    exact Nat.le_add_right _ _
theorem mj_wr_same (f : Nat → Nat → Int32) (b k : Nat) (x : Int32) : mj_wr f b k x b = upd (f b) k x := by
  funext j
  simp [mj_wr, upd]
theorem mj_wr_ne (f : Nat → Nat → Int32) {b k i : Nat} (x : Int32) (h : i ≠ b) : mj_wr f b k x i = f i := by
  funext j
  simp [mj_wr, h]
/-- the world behind a change of one cell's numbers -/
theorem mj_wl_set {E : mj_E} {mem : mj_Mem} {b : Nat} {c : Nat × Nat × (Nat → Option Nat)} {g : Nat → Nat → Int32} (h : mem.1[b]? = some c) (hg : ∀ i, i ≠ b → g i = mem.2 i) : (mj_wl E mem).set b (E.2.2.1 + b, mj_cell E c (g b)) = mj_wl E (mem.1, g) := by
  apply List.ext_getElem?
  intro i
  have hb : b < (mj_wl E mem).length := (List.getElem?_eq_some_iff.mp (mj_wl_get (E := E) h)).1
  by_cases hi : i = b
  · subst hi
    rw [List.getElem?_set_self hb, mj_wl_get (mem := (mem.1, g)) h]
  · rw [List.getElem?_set_ne (Ne.symm hi), mj_wl_at, mj_wl_at]
    show Option.map _ _ = Option.map (fun c => (E.2.2.1 + i, mj_cell E c (g i))) _
    rw [hg i hi]
/-- the world behind a change of one cell's references -/
theorem mj_wl_setr {E : mj_E} {mem : mj_Mem} {b : Nat} {c c' : Nat × Nat × (Nat → Option Nat)} (h : mem.1[b]? = some c) : (mj_wl E mem).set b (E.2.2.1 + b, mj_cell E c' (mem.2 b)) = mj_wl E (mem.1.set b c', mem.2) := by
  apply List.ext_getElem?
  intro i
  have hb : b < (mj_wl E mem).length := (List.getElem?_eq_some_iff.mp (mj_wl_get (E := E) h)).1
  have hb' : b < mem.1.length := (List.getElem?_eq_some_iff.mp h).1
  by_cases hi : i = b
  · subst hi
    rw [List.getElem?_set_self hb, mj_wl_at]
    show _ = Option.map _ ((mem.1.set i c')[i]?)
    rw [List.getElem?_set_self hb']
    rfl
  · rw [List.getElem?_set_ne (Ne.symm hi), mj_wl_at, mj_wl_at]
    show _ = Option.map _ ((mem.1.set b c')[i]?)
    rw [List.getElem?_set_ne (Ne.symm hi)]
theorem mj_wl_push {E : mj_E} {mem : mj_Mem} (c : Nat × Nat × (Nat → Option Nat)) : mj_wl E (mem.1 ++ [c], mem.2) = mj_wl E mem ++ [(E.2.2.1 + mem.1.length, mj_cell E c (mem.2 mem.1.length))] := by
  unfold mj_wl
  simp [List.mapIdx_append]
theorem mj_L.set {E : mj_E} {ls : Array Slot} {n : Nat} {lv : List (Option Value)} (h : mj_L E ls n lv) : ∃ l : List (Nat × Value), lv_has ls n l ∧ ∀ (i : Nat) (v : Value), lv[i]? = some (some v) → (i, mj_cv E v) ∈ l := by
  refine ⟨lv.zipIdx.filterMap (fun q => q.1.map (fun v => (q.2, mj_cv E v))), ⟨h.1, h.2.1, fun q hq => ?_⟩, fun i v hv => ?_⟩
  · obtain ⟨⟨o, i⟩, h1, h2⟩ := List.mem_filterMap.mp hq
    have h3 : lv[i]? = some o := List.mem_zipIdx_iff_getElem?.mp h1
    cases o with
    | none => cases h2
    | some v =>
      cases h2
      exact h.2.2 i v h3
  · exact List.mem_filterMap.mpr ⟨(some v, i), List.mem_zipIdx_iff_getElem?.mpr hv, rfl⟩
/-- a place that may be stored into: no long stands ahead of it -/
def mj_ok (lv : List (Option Value)) (i : Nat) : Bool := match i with
  | 0 => true
  | j + 1 => match lv[j]? with
    | some (some (.long _)) => false
    | some (some (.double _)) => false
    | _ => true
theorem mj_L.stored {E : mj_E} {ls' : Array Slot} {n i : Nat} {lv : List (Option Value)} {l : List (Nat × Value)} {v : Value} (hE : E.2.2.2.2.2.category = 1) (hl : ∀ (i : Nat) (v : Value), lv[i]? = some (some v) → (i, mj_cv E v) ∈ l) (hok : mj_ok lv i = true)
    (h : lv_has ls' n ((i, mj_cv E v) :: l.filter (fun q => !(q.1 == i) && !(q.1 + 1 == i && q.2.category == 2)))) : mj_L E ls' n (lv.set i (some v)) := by
  refine ⟨h.1, h.2.1, fun j w hw => ?_⟩
  by_cases hj : j = i
  · subst hj
    rw [List.getElem?_set] at hw
    simp at hw
    obtain ⟨_, hw⟩ := hw
    subst hw
    exact h.2.2 (j, mj_cv E v) List.mem_cons_self
  · rw [List.getElem?_set_ne (Ne.symm hj)] at hw
    refine h.2.2 (j, mj_cv E w) (List.mem_cons_of_mem _ (List.mem_filter.mpr ⟨hl j w hw, ?_⟩))
    have h2 : ¬ (j + 1 = i ∧ (mj_cv E w).category = 2) := by
      rintro ⟨rfl, hc⟩
      rw [mj_cat hE] at hc
      unfold mj_ok at hok
      dsimp only at hok
      rw [hw] at hok
      cases w <;> simp [Value.category] at hc hok
    have e2 : (!(j + 1 == i && (mj_cv E w).category == 2)) = true := by
      rw [Bool.not_eq_true', ← Bool.not_eq_true, Bool.and_eq_true, beq_iff_eq, beq_iff_eq]
      exact h2
    have e1 : (!(j == i)) = true := by
      rw [Bool.not_eq_true', beq_eq_false_iff_ne]
      exact hj
    show (!(j == i) && !(j + 1 == i && (mj_cv E w).category == 2)) = true
    rw [e1, e2]
    rfl
end
section
section MJ
variable {M : mj_M} {pc : Nat} {lv : List (Option Value)} {st : List Value} {mem mem' : mj_Mem} {r : Option Value}
theorem mj_iconst {n : Int} {v : Int32} (hd : decode M.2.1 pc = .ok (.iconst n, 1)) (hv : Int32.ofInt n = v)
    (k : mj_R M (pc + 1) lv (.int v :: st) mem r mem') : mj_R M pc lv (st) mem r mem' :=
  ⟨k.1, fun E l p e s m args below meth c L0 S0 C h1 h2 H locs ls hH hS hL => lv_iconst C.1 C.2.1 hd hv (k.2 E l p e s m args below meth c L0 S0 C h1 h2 H locs ls hH hS hL)⟩
theorem mj_bipush {n : Int} {v : Int32} (hd : decode M.2.1 pc = .ok (.bipush n, 2)) (hv : (Int8.ofInt n).toInt32 = v)
    (k : mj_R M (pc + 2) lv (.int v :: st) mem r mem') : mj_R M pc lv (st) mem r mem' :=
  ⟨k.1, fun E l p e s m args below meth c L0 S0 C h1 h2 H locs ls hH hS hL => lv_bipush C.1 C.2.1 hd hv (k.2 E l p e s m args below meth c L0 S0 C h1 h2 H locs ls hH hS hL)⟩
theorem mj_sipush {n : Int} {v : Int32} (hd : decode M.2.1 pc = .ok (.sipush n, 3)) (hv : (Int16.ofInt n).toInt32 = v)
    (k : mj_R M (pc + 3) lv (.int v :: st) mem r mem') : mj_R M pc lv (st) mem r mem' :=
  ⟨k.1, fun E l p e s m args below meth c L0 S0 C h1 h2 H locs ls hH hS hL => lv_sipush C.1 C.2.1 hd hv (k.2 E l p e s m args below meth c L0 S0 C h1 h2 H locs ls hH hS hL)⟩
theorem mj_lconst {n : Fin 2} {v : Int64} (hd : decode M.2.1 pc = .ok (.lconst n, 1)) (hv : Int64.ofNat (n : Nat) = v)
    (k : mj_R M (pc + 1) lv (.long v :: st) mem r mem') : mj_R M pc lv (st) mem r mem' :=
  ⟨k.1, fun E l p e s m args below meth c L0 S0 C h1 h2 H locs ls hH hS hL => lv_lconst C.1 C.2.1 hd hv (k.2 E l p e s m args below meth c L0 S0 C h1 h2 H locs ls hH hS hL)⟩
theorem mj_ldc {i : Nat} {v : Int32} (hd : decode M.2.1 pc = .ok (.ldc i, 2)) (hw : Cond.constant M.1.cls i v ∈ TB)
    (k : mj_R M (pc + 2) lv (.int v :: st) mem r mem') : mj_R M pc lv (st) mem r mem' :=
  ⟨k.1, fun E l p e s m args below meth c L0 S0 C h1 h2 H locs ls hH hS hL => lv_ldc C.1 C.2.1 C.2.2.2.1 (C.2.2.2.2.1 _ hw) hd (k.2 E l p e s m args below meth c L0 S0 C h1 h2 H locs ls hH hS hL)⟩
theorem mj_ldc2 {i : Nat} {v : Int64} (hd : decode M.2.1 pc = .ok (.ldc2_w i, 3)) (hw : Cond.constantLong M.1.cls i v ∈ TB)
    (k : mj_R M (pc + 3) lv (.long v :: st) mem r mem') : mj_R M pc lv (st) mem r mem' :=
  ⟨k.1, fun E l p e s m args below meth c L0 S0 C h1 h2 H locs ls hH hS hL => lv_ldc2 C.1 C.2.1 C.2.2.2.1 (C.2.2.2.2.1 _ hw) hd (k.2 E l p e s m args below meth c L0 S0 C h1 h2 H locs ls hH hS hL)⟩
theorem mj_iload_n {n : Fin 4} {i : Nat} {x : Int32} (hd : decode M.2.1 pc = .ok (.iload_n n, 1)) (hi : (n : Nat) = i) (hv : lv[i]? = some (some (.int x)))
    (k : mj_R M (pc + 1) lv (.int x :: st) mem r mem') : mj_R M pc lv (st) mem r mem' :=
  ⟨k.1, fun E l p e s m args below meth c L0 S0 C h1 h2 H locs ls hH hS hL => lv_iload_n C.1 C.2.1 hd hi (hL.2.2 _ _ hv) (k.2 E l p e s m args below meth c L0 S0 C h1 h2 H locs ls hH hS hL)⟩
theorem mj_iload {i : Nat} {x : Int32} (hd : decode M.2.1 pc = .ok (.iload i, 2)) (hv : lv[i]? = some (some (.int x)))
    (k : mj_R M (pc + 2) lv (.int x :: st) mem r mem') : mj_R M pc lv (st) mem r mem' :=
  ⟨k.1, fun E l p e s m args below meth c L0 S0 C h1 h2 H locs ls hH hS hL => lv_iload C.1 C.2.1 hd (hL.2.2 _ _ hv) (k.2 E l p e s m args below meth c L0 S0 C h1 h2 H locs ls hH hS hL)⟩
theorem mj_lload_n {n : Fin 4} {i : Nat} {x : Int64} (hd : decode M.2.1 pc = .ok (.lload_n n, 1)) (hi : (n : Nat) = i) (hv : lv[i]? = some (some (.long x)))
    (k : mj_R M (pc + 1) lv (.long x :: st) mem r mem') : mj_R M pc lv (st) mem r mem' :=
  ⟨k.1, fun E l p e s m args below meth c L0 S0 C h1 h2 H locs ls hH hS hL => lv_lload_n C.1 C.2.1 hd hi (hL.2.2 _ _ hv) (k.2 E l p e s m args below meth c L0 S0 C h1 h2 H locs ls hH hS hL)⟩
theorem mj_lload {i : Nat} {x : Int64} (hd : decode M.2.1 pc = .ok (.lload i, 2)) (hv : lv[i]? = some (some (.long x)))
    (k : mj_R M (pc + 2) lv (.long x :: st) mem r mem') : mj_R M pc lv (st) mem r mem' :=
  ⟨k.1, fun E l p e s m args below meth c L0 S0 C h1 h2 H locs ls hH hS hL => lv_lload C.1 C.2.1 hd (hL.2.2 _ _ hv) (k.2 E l p e s m args below meth c L0 S0 C h1 h2 H locs ls hH hS hL)⟩
theorem mj_aload_n {n : Fin 4} {i b : Nat} (hd : decode M.2.1 pc = .ok (.aload_n n, 1)) (hi : (n : Nat) = i) (hv : lv[i]? = some (some (.ref b))) (hb : b < 3000000)
    (k : mj_R M (pc + 1) lv (.ref b :: st) mem r mem') : mj_R M pc lv st mem r mem' :=
  ⟨k.1, fun E l p e s m args below meth c L0 S0 C h1 h2 H locs ls hH hS hL => by
    obtain ⟨a, ha⟩ := mj_adr (E := E) hb
    have hx := hL.2.2 _ _ hv
    have kk := (k.2 E l p e s m args below meth c L0 S0 C h1 h2 H locs ls hH hS hL)
    rw [List.map_cons, ha] at kk
    rw [ha] at hx
    exact lv_aload_n C.1 C.2.1 hd hi hx kk⟩
theorem mj_aload {i b : Nat} (hd : decode M.2.1 pc = .ok (.aload i, 2)) (hv : lv[i]? = some (some (.ref b))) (hb : b < 3000000)
    (k : mj_R M (pc + 2) lv (.ref b :: st) mem r mem') : mj_R M pc lv st mem r mem' :=
  ⟨k.1, fun E l p e s m args below meth c L0 S0 C h1 h2 H locs ls hH hS hL => by
    obtain ⟨a, ha⟩ := mj_adr (E := E) hb
    have hx := hL.2.2 _ _ hv
    have kk := (k.2 E l p e s m args below meth c L0 S0 C h1 h2 H locs ls hH hS hL)
    rw [List.map_cons, ha] at kk
    rw [ha] at hx
    exact lv_aload C.1 C.2.1 hd hx kk⟩
theorem mj_istore_n {n : Fin 4} {i : Nat} {x : Int32} (hd : decode M.2.1 pc = .ok (.istore_n n, 1)) (hi : (n : Nat) = i) (hok : mj_ok lv i = true) (hn : i < M.2.2.1)
    (k : mj_R M (pc + 1) (lv.set i (some (.int x))) st mem r mem') : mj_R M pc lv (.int x :: st) mem r mem' :=
  ⟨k.1, fun E l p e s m args below meth c L0 S0 C h1 h2 H locs ls hH hS hL => by
    obtain ⟨q, hq, hin⟩ := hL.set
    exact lv_istore_n C.1 C.2.1 hd hi hq hn rfl (fun ls' hl' => k.2 E l p e s m args below meth c L0 S0 C h1 h2 H locs ls' hH hS (mj_L.stored (v := .int x) C.2.2.2.2.2.2.2.2.1.2.2.2.2.2.2.1 hin hok hl'))⟩
theorem mj_istore {i : Nat} {x : Int32} (hd : decode M.2.1 pc = .ok (.istore i, 2)) (hok : mj_ok lv i = true) (hn : i < M.2.2.1)
    (k : mj_R M (pc + 2) (lv.set i (some (.int x))) st mem r mem') : mj_R M pc lv (.int x :: st) mem r mem' :=
  ⟨k.1, fun E l p e s m args below meth c L0 S0 C h1 h2 H locs ls hH hS hL => by
    obtain ⟨q, hq, hin⟩ := hL.set
    exact lv_istore C.1 C.2.1 hd hq hn rfl (fun ls' hl' => k.2 E l p e s m args below meth c L0 S0 C h1 h2 H locs ls' hH hS (mj_L.stored (v := .int x) C.2.2.2.2.2.2.2.2.1.2.2.2.2.2.2.1 hin hok hl'))⟩
theorem mj_iinc {i : Nat} {n : Int} {x v : Int32} (hd : decode M.2.1 pc = .ok (.iinc i n, 3)) (hv : lv[i]? = some (some (.int x))) (hx : x + Int32.ofInt n = v) (hok : mj_ok lv i = true) (hn : i < M.2.2.1)
    (k : mj_R M (pc + 3) (lv.set i (some (.int v))) st mem r mem') : mj_R M pc lv st mem r mem' :=
  ⟨k.1, fun E l p e s m args below meth c L0 S0 C h1 h2 H locs ls hH hS hL => by
    obtain ⟨q, hq, hin⟩ := hL.set
    obtain ⟨j, hj⟩ := List.getElem?_of_mem (hin _ _ hv)
    exact lv_iinc C.1 C.2.1 hd hq hj hx hn rfl (fun ls' hl' => k.2 E l p e s m args below meth c L0 S0 C h1 h2 H locs ls' hH hS (mj_L.stored (v := .int v) C.2.2.2.2.2.2.2.2.1.2.2.2.2.2.2.1 hin hok hl'))⟩
theorem mj_astore_n {n : Fin 4} {i b : Nat} (hd : decode M.2.1 pc = .ok (.astore_n n, 1)) (hi : (n : Nat) = i) (hb : b < 3000000) (hok : mj_ok lv i = true) (hn : i < M.2.2.1)
    (k : mj_R M (pc + 1) (lv.set i (some (.ref b))) st mem r mem') : mj_R M pc lv (.ref b :: st) mem r mem' :=
  ⟨k.1, fun E l p e s m args below meth c L0 S0 C h1 h2 H locs ls hH hS hL => by
    obtain ⟨q, hq, hin⟩ := hL.set
    obtain ⟨a, ha⟩ := mj_adr (E := E) hb
    rw [List.map_cons, ha]
    exact lv_astore_n C.1 C.2.1 hd hi hq hn rfl (fun ls' hl' => k.2 E l p e s m args below meth c L0 S0 C h1 h2 H locs ls' hH hS (mj_L.stored (v := .ref b) C.2.2.2.2.2.2.2.2.1.2.2.2.2.2.2.1 hin hok (by rw [ha]; exact hl')))⟩
theorem mj_iadd {x y : Int32} (hd : decode M.2.1 pc = .ok (.iadd, 1))
    (k : mj_R M (pc + 1) lv (.int (x + y) :: st) mem r mem') : mj_R M pc lv (.int y :: .int x :: st) mem r mem' :=
  ⟨k.1, fun E l p e s m args below meth c L0 S0 C h1 h2 H locs ls hH hS hL => lv_iadd C.1 C.2.1 hd (k.2 E l p e s m args below meth c L0 S0 C h1 h2 H locs ls hH hS hL)⟩
theorem mj_isub {x y : Int32} (hd : decode M.2.1 pc = .ok (.isub, 1))
    (k : mj_R M (pc + 1) lv (.int (x - y) :: st) mem r mem') : mj_R M pc lv (.int y :: .int x :: st) mem r mem' :=
  ⟨k.1, fun E l p e s m args below meth c L0 S0 C h1 h2 H locs ls hH hS hL => lv_isub C.1 C.2.1 hd (k.2 E l p e s m args below meth c L0 S0 C h1 h2 H locs ls hH hS hL)⟩
theorem mj_imul {x y : Int32} (hd : decode M.2.1 pc = .ok (.imul, 1))
    (k : mj_R M (pc + 1) lv (.int (x * y) :: st) mem r mem') : mj_R M pc lv (.int y :: .int x :: st) mem r mem' :=
  ⟨k.1, fun E l p e s m args below meth c L0 S0 C h1 h2 H locs ls hH hS hL => lv_imul C.1 C.2.1 hd (k.2 E l p e s m args below meth c L0 S0 C h1 h2 H locs ls hH hS hL)⟩
theorem mj_iand {x y : Int32} (hd : decode M.2.1 pc = .ok (.iand, 1))
    (k : mj_R M (pc + 1) lv (.int (x &&& y) :: st) mem r mem') : mj_R M pc lv (.int y :: .int x :: st) mem r mem' :=
  ⟨k.1, fun E l p e s m args below meth c L0 S0 C h1 h2 H locs ls hH hS hL => lv_iand C.1 C.2.1 hd (k.2 E l p e s m args below meth c L0 S0 C h1 h2 H locs ls hH hS hL)⟩
theorem mj_ishr {x y : Int32} (hd : decode M.2.1 pc = .ok (.ishr, 1))
    (k : mj_R M (pc + 1) lv (.int (x >>> (y &&& 31)) :: st) mem r mem') : mj_R M pc lv (.int y :: .int x :: st) mem r mem' :=
  ⟨k.1, fun E l p e s m args below meth c L0 S0 C h1 h2 H locs ls hH hS hL => lv_ishr C.1 C.2.1 hd (k.2 E l p e s m args below meth c L0 S0 C h1 h2 H locs ls hH hS hL)⟩
theorem mj_iushr {x y : Int32} (hd : decode M.2.1 pc = .ok (.iushr, 1))
    (k : mj_R M (pc + 1) lv (.int (x.toUInt32 >>> (y.toUInt32 &&& Int32.toUInt32 31)).toInt32 :: st) mem r mem') : mj_R M pc lv (.int y :: .int x :: st) mem r mem' :=
  ⟨k.1, fun E l p e s m args below meth c L0 S0 C h1 h2 H locs ls hH hS hL => lv_iushr C.1 C.2.1 hd rfl (k.2 E l p e s m args below meth c L0 S0 C h1 h2 H locs ls hH hS hL)⟩
theorem mj_idiv {x y : Int32} (hd : decode M.2.1 pc = .ok (.idiv, 1)) (hy : ¬ y = 0)
    (k : mj_R M (pc + 1) lv (.int (x / y) :: st) mem r mem') : mj_R M pc lv (.int y :: .int x :: st) mem r mem' :=
  ⟨k.1, fun E l p e s m args below meth c L0 S0 C h1 h2 H locs ls hH hS hL => lv_idiv C.1 C.2.1 hd hy (k.2 E l p e s m args below meth c L0 S0 C h1 h2 H locs ls hH hS hL)⟩
theorem mj_irem {x y : Int32} (hd : decode M.2.1 pc = .ok (.irem, 1)) (hy : ¬ y = 0)
    (k : mj_R M (pc + 1) lv (.int (x - x / y * y) :: st) mem r mem') : mj_R M pc lv (.int y :: .int x :: st) mem r mem' :=
  ⟨k.1, fun E l p e s m args below meth c L0 S0 C h1 h2 H locs ls hH hS hL => lv_irem C.1 C.2.1 hd hy (k.2 E l p e s m args below meth c L0 S0 C h1 h2 H locs ls hH hS hL)⟩
theorem mj_ladd {x y : Int64} (hd : decode M.2.1 pc = .ok (.ladd, 1))
    (k : mj_R M (pc + 1) lv (.long (x + y) :: st) mem r mem') : mj_R M pc lv (.long y :: .long x :: st) mem r mem' :=
  ⟨k.1, fun E l p e s m args below meth c L0 S0 C h1 h2 H locs ls hH hS hL => lv_ladd C.1 C.2.1 hd (k.2 E l p e s m args below meth c L0 S0 C h1 h2 H locs ls hH hS hL)⟩
theorem mj_lmul {x y : Int64} (hd : decode M.2.1 pc = .ok (.lmul, 1))
    (k : mj_R M (pc + 1) lv (.long (x * y) :: st) mem r mem') : mj_R M pc lv (.long y :: .long x :: st) mem r mem' :=
  ⟨k.1, fun E l p e s m args below meth c L0 S0 C h1 h2 H locs ls hH hS hL => lv_lmul C.1 C.2.1 hd (k.2 E l p e s m args below meth c L0 S0 C h1 h2 H locs ls hH hS hL)⟩
theorem mj_ldiv {x y : Int64} (hd : decode M.2.1 pc = .ok (.ldiv, 1)) (hy : ¬ y = 0)
    (k : mj_R M (pc + 1) lv (.long (x / y) :: st) mem r mem') : mj_R M pc lv (.long y :: .long x :: st) mem r mem' :=
  ⟨k.1, fun E l p e s m args below meth c L0 S0 C h1 h2 H locs ls hH hS hL => lv_ldiv C.1 C.2.1 hd hy (k.2 E l p e s m args below meth c L0 S0 C h1 h2 H locs ls hH hS hL)⟩
theorem mj_lrem {x y : Int64} (hd : decode M.2.1 pc = .ok (.lrem, 1)) (hy : ¬ y = 0)
    (k : mj_R M (pc + 1) lv (.long (x - x / y * y) :: st) mem r mem') : mj_R M pc lv (.long y :: .long x :: st) mem r mem' :=
  ⟨k.1, fun E l p e s m args below meth c L0 S0 C h1 h2 H locs ls hH hS hL => lv_lrem C.1 C.2.1 hd hy (k.2 E l p e s m args below meth c L0 S0 C h1 h2 H locs ls hH hS hL)⟩
theorem mj_lcmp {x y : Int64} (hd : decode M.2.1 pc = .ok (.lcmp, 1))
    (k : mj_R M (pc + 1) lv (.int (lg_cmp x y) :: st) mem r mem') : mj_R M pc lv (.long y :: .long x :: st) mem r mem' :=
  ⟨k.1, fun E l p e s m args below meth c L0 S0 C h1 h2 H locs ls hH hS hL => W.lcmp C.1 C.2.1 hd (k.2 E l p e s m args below meth c L0 S0 C h1 h2 H locs ls hH hS hL)⟩
theorem mj_i2l {x : Int32} (hd : decode M.2.1 pc = .ok (.i2l, 1))
    (k : mj_R M (pc + 1) lv (.long x.toInt64 :: st) mem r mem') : mj_R M pc lv (.int x :: st) mem r mem' :=
  ⟨k.1, fun E l p e s m args below meth c L0 S0 C h1 h2 H locs ls hH hS hL => lv_i2l C.1 C.2.1 hd rfl (k.2 E l p e s m args below meth c L0 S0 C h1 h2 H locs ls hH hS hL)⟩
theorem mj_l2i {x : Int64} (hd : decode M.2.1 pc = .ok (.l2i, 1))
    (k : mj_R M (pc + 1) lv (.int x.toInt32 :: st) mem r mem') : mj_R M pc lv (.long x :: st) mem r mem' :=
  ⟨k.1, fun E l p e s m args below meth c L0 S0 C h1 h2 H locs ls hH hS hL => lv_l2i C.1 C.2.1 hd rfl (k.2 E l p e s m args below meth c L0 S0 C h1 h2 H locs ls hH hS hL)⟩
theorem mj_i2c {x : Int32} (hd : decode M.2.1 pc = .ok (.i2c, 1))
    (k : mj_R M (pc + 1) lv (.int (x.toUInt32 % 65536).toInt32 :: st) mem r mem') : mj_R M pc lv (.int x :: st) mem r mem' :=
  ⟨k.1, fun E l p e s m args below meth c L0 S0 C h1 h2 H locs ls hH hS hL => lv_i2c C.1 C.2.1 hd rfl (k.2 E l p e s m args below meth c L0 S0 C h1 h2 H locs ls hH hS hL)⟩
theorem mj_popI {x : Int32} (hd : decode M.2.1 pc = .ok (.pop, 1))
    (k : mj_R M (pc + 1) lv (st) mem r mem') : mj_R M pc lv (.int x :: st) mem r mem' :=
  ⟨k.1, fun E l p e s m args below meth c L0 S0 C h1 h2 H locs ls hH hS hL => lv_pop C.1 C.2.1 hd rfl (k.2 E l p e s m args below meth c L0 S0 C h1 h2 H locs ls hH hS hL)⟩
theorem mj_dup {v : Value} (hd : decode M.2.1 pc = .ok (.dup, 1)) (hc : v.category = 1)
    (k : mj_R M (pc + 1) lv (v :: v :: st) mem r mem') : mj_R M pc lv (v :: st) mem r mem' :=
  ⟨k.1, fun E l p e s m args below meth c L0 S0 C h1 h2 H locs ls hH hS hL => lv_dup C.1 C.2.1 hd ((mj_cat C.2.2.2.2.2.2.2.2.1.2.2.2.2.2.2.1 v).trans hc) (k.2 E l p e s m args below meth c L0 S0 C h1 h2 H locs ls hH hS hL)⟩
theorem mj_dup2 {v w : Value} (hd : decode M.2.1 pc = .ok (.dup2, 1)) (hc : v.category = 1) (hc2 : w.category = 1)
    (k : mj_R M (pc + 1) lv (v :: w :: v :: w :: st) mem r mem') : mj_R M pc lv (v :: w :: st) mem r mem' :=
  ⟨k.1, fun E l p e s m args below meth c L0 S0 C h1 h2 H locs ls hH hS hL => lv_dup2_11 C.1 C.2.1 hd ((mj_cat C.2.2.2.2.2.2.2.2.1.2.2.2.2.2.2.1 v).trans hc) ((mj_cat C.2.2.2.2.2.2.2.2.1.2.2.2.2.2.2.1 w).trans hc2) (k.2 E l p e s m args below meth c L0 S0 C h1 h2 H locs ls hH hS hL)⟩
theorem mj_goto {off : Int} {tgt : Nat} (hd : decode M.2.1 pc = .ok (.goto off, 3)) (ht : (pc : Int) + off = (tgt : Int))
    (k : mj_R M tgt lv (st) mem r mem') : mj_R M pc lv (st) mem r mem' :=
  ⟨k.1, fun E l p e s m args below meth c L0 S0 C h1 h2 H locs ls hH hS hL => lv_goto C.1 C.2.1 hd ht (k.2 E l p e s m args below meth c L0 S0 C h1 h2 H locs ls hH hS hL)⟩
theorem mj_if_eq {x y : Int32} {off : Int} {tgt : Nat} (hd : decode M.2.1 pc = .ok (.ifCond .eq off, 3)) (ht : (pc : Int) + off = (tgt : Int)) (hs : mem.1.length ≤ mem'.1.length ∧ mj_sz mem ≤ mj_sz mem')
    (kt : x = 0 → mj_R M tgt lv st mem r mem') (kf : ¬ x = 0 → mj_R M (pc + 3) lv st mem r mem') : mj_R M pc lv (.int x :: st) mem r mem' :=
  ⟨hs, fun E l p e s m args below meth c L0 S0 C h1 h2 H locs ls hH hS hL => lv_if_eq C.1 C.2.1 hd ht (fun hc => (kt hc).2 E l p e s m args below meth c L0 S0 C h1 h2 H locs ls hH hS hL) (fun hc => (kf hc).2 E l p e s m args below meth c L0 S0 C h1 h2 H locs ls hH hS hL)⟩
theorem mj_icmp_eq {x y : Int32} {off : Int} {tgt : Nat} (hd : decode M.2.1 pc = .ok (.if_icmp .eq off, 3)) (ht : (pc : Int) + off = (tgt : Int)) (hs : mem.1.length ≤ mem'.1.length ∧ mj_sz mem ≤ mj_sz mem')
    (kt : x = y → mj_R M tgt lv st mem r mem') (kf : ¬ x = y → mj_R M (pc + 3) lv st mem r mem') : mj_R M pc lv (.int y :: .int x :: st) mem r mem' :=
  ⟨hs, fun E l p e s m args below meth c L0 S0 C h1 h2 H locs ls hH hS hL => lv_icmp_eq C.1 C.2.1 hd ht (fun hc => (kt hc).2 E l p e s m args below meth c L0 S0 C h1 h2 H locs ls hH hS hL) (fun hc => (kf hc).2 E l p e s m args below meth c L0 S0 C h1 h2 H locs ls hH hS hL)⟩
theorem mj_if_ne {x y : Int32} {off : Int} {tgt : Nat} (hd : decode M.2.1 pc = .ok (.ifCond .ne off, 3)) (ht : (pc : Int) + off = (tgt : Int)) (hs : mem.1.length ≤ mem'.1.length ∧ mj_sz mem ≤ mj_sz mem')
    (kt : ¬ x = 0 → mj_R M tgt lv st mem r mem') (kf : x = 0 → mj_R M (pc + 3) lv st mem r mem') : mj_R M pc lv (.int x :: st) mem r mem' :=
  ⟨hs, fun E l p e s m args below meth c L0 S0 C h1 h2 H locs ls hH hS hL => lv_if_ne C.1 C.2.1 hd ht (fun hc => (kt hc).2 E l p e s m args below meth c L0 S0 C h1 h2 H locs ls hH hS hL) (fun hc => (kf hc).2 E l p e s m args below meth c L0 S0 C h1 h2 H locs ls hH hS hL)⟩
theorem mj_icmp_ne {x y : Int32} {off : Int} {tgt : Nat} (hd : decode M.2.1 pc = .ok (.if_icmp .ne off, 3)) (ht : (pc : Int) + off = (tgt : Int)) (hs : mem.1.length ≤ mem'.1.length ∧ mj_sz mem ≤ mj_sz mem')
    (kt : ¬ x = y → mj_R M tgt lv st mem r mem') (kf : x = y → mj_R M (pc + 3) lv st mem r mem') : mj_R M pc lv (.int y :: .int x :: st) mem r mem' :=
  ⟨hs, fun E l p e s m args below meth c L0 S0 C h1 h2 H locs ls hH hS hL => lv_icmp_ne C.1 C.2.1 hd ht (fun hc => (kt hc).2 E l p e s m args below meth c L0 S0 C h1 h2 H locs ls hH hS hL) (fun hc => (kf hc).2 E l p e s m args below meth c L0 S0 C h1 h2 H locs ls hH hS hL)⟩
theorem mj_if_lt {x y : Int32} {off : Int} {tgt : Nat} (hd : decode M.2.1 pc = .ok (.ifCond .lt off, 3)) (ht : (pc : Int) + off = (tgt : Int)) (hs : mem.1.length ≤ mem'.1.length ∧ mj_sz mem ≤ mj_sz mem')
    (kt : x < 0 → mj_R M tgt lv st mem r mem') (kf : ¬ x < 0 → mj_R M (pc + 3) lv st mem r mem') : mj_R M pc lv (.int x :: st) mem r mem' :=
  ⟨hs, fun E l p e s m args below meth c L0 S0 C h1 h2 H locs ls hH hS hL => lv_if_lt C.1 C.2.1 hd ht (fun hc => (kt hc).2 E l p e s m args below meth c L0 S0 C h1 h2 H locs ls hH hS hL) (fun hc => (kf hc).2 E l p e s m args below meth c L0 S0 C h1 h2 H locs ls hH hS hL)⟩
theorem mj_icmp_lt {x y : Int32} {off : Int} {tgt : Nat} (hd : decode M.2.1 pc = .ok (.if_icmp .lt off, 3)) (ht : (pc : Int) + off = (tgt : Int)) (hs : mem.1.length ≤ mem'.1.length ∧ mj_sz mem ≤ mj_sz mem')
    (kt : x < y → mj_R M tgt lv st mem r mem') (kf : ¬ x < y → mj_R M (pc + 3) lv st mem r mem') : mj_R M pc lv (.int y :: .int x :: st) mem r mem' :=
  ⟨hs, fun E l p e s m args below meth c L0 S0 C h1 h2 H locs ls hH hS hL => lv_icmp_lt C.1 C.2.1 hd ht (fun hc => (kt hc).2 E l p e s m args below meth c L0 S0 C h1 h2 H locs ls hH hS hL) (fun hc => (kf hc).2 E l p e s m args below meth c L0 S0 C h1 h2 H locs ls hH hS hL)⟩
theorem mj_if_ge {x y : Int32} {off : Int} {tgt : Nat} (hd : decode M.2.1 pc = .ok (.ifCond .ge off, 3)) (ht : (pc : Int) + off = (tgt : Int)) (hs : mem.1.length ≤ mem'.1.length ∧ mj_sz mem ≤ mj_sz mem')
    (kt : 0 ≤ x → mj_R M tgt lv st mem r mem') (kf : ¬ 0 ≤ x → mj_R M (pc + 3) lv st mem r mem') : mj_R M pc lv (.int x :: st) mem r mem' :=
  ⟨hs, fun E l p e s m args below meth c L0 S0 C h1 h2 H locs ls hH hS hL => lv_if_ge C.1 C.2.1 hd ht (fun hc => (kt hc).2 E l p e s m args below meth c L0 S0 C h1 h2 H locs ls hH hS hL) (fun hc => (kf hc).2 E l p e s m args below meth c L0 S0 C h1 h2 H locs ls hH hS hL)⟩
theorem mj_icmp_ge {x y : Int32} {off : Int} {tgt : Nat} (hd : decode M.2.1 pc = .ok (.if_icmp .ge off, 3)) (ht : (pc : Int) + off = (tgt : Int)) (hs : mem.1.length ≤ mem'.1.length ∧ mj_sz mem ≤ mj_sz mem')
    (kt : y ≤ x → mj_R M tgt lv st mem r mem') (kf : ¬ y ≤ x → mj_R M (pc + 3) lv st mem r mem') : mj_R M pc lv (.int y :: .int x :: st) mem r mem' :=
  ⟨hs, fun E l p e s m args below meth c L0 S0 C h1 h2 H locs ls hH hS hL => lv_icmp_ge C.1 C.2.1 hd ht (fun hc => (kt hc).2 E l p e s m args below meth c L0 S0 C h1 h2 H locs ls hH hS hL) (fun hc => (kf hc).2 E l p e s m args below meth c L0 S0 C h1 h2 H locs ls hH hS hL)⟩
theorem mj_if_gt {x y : Int32} {off : Int} {tgt : Nat} (hd : decode M.2.1 pc = .ok (.ifCond .gt off, 3)) (ht : (pc : Int) + off = (tgt : Int)) (hs : mem.1.length ≤ mem'.1.length ∧ mj_sz mem ≤ mj_sz mem')
    (kt : 0 < x → mj_R M tgt lv st mem r mem') (kf : ¬ 0 < x → mj_R M (pc + 3) lv st mem r mem') : mj_R M pc lv (.int x :: st) mem r mem' :=
  ⟨hs, fun E l p e s m args below meth c L0 S0 C h1 h2 H locs ls hH hS hL => lv_if_gt C.1 C.2.1 hd ht (fun hc => (kt hc).2 E l p e s m args below meth c L0 S0 C h1 h2 H locs ls hH hS hL) (fun hc => (kf hc).2 E l p e s m args below meth c L0 S0 C h1 h2 H locs ls hH hS hL)⟩
theorem mj_icmp_gt {x y : Int32} {off : Int} {tgt : Nat} (hd : decode M.2.1 pc = .ok (.if_icmp .gt off, 3)) (ht : (pc : Int) + off = (tgt : Int)) (hs : mem.1.length ≤ mem'.1.length ∧ mj_sz mem ≤ mj_sz mem')
    (kt : y < x → mj_R M tgt lv st mem r mem') (kf : ¬ y < x → mj_R M (pc + 3) lv st mem r mem') : mj_R M pc lv (.int y :: .int x :: st) mem r mem' :=
  ⟨hs, fun E l p e s m args below meth c L0 S0 C h1 h2 H locs ls hH hS hL => lv_icmp_gt C.1 C.2.1 hd ht (fun hc => (kt hc).2 E l p e s m args below meth c L0 S0 C h1 h2 H locs ls hH hS hL) (fun hc => (kf hc).2 E l p e s m args below meth c L0 S0 C h1 h2 H locs ls hH hS hL)⟩
theorem mj_if_le {x y : Int32} {off : Int} {tgt : Nat} (hd : decode M.2.1 pc = .ok (.ifCond .le off, 3)) (ht : (pc : Int) + off = (tgt : Int)) (hs : mem.1.length ≤ mem'.1.length ∧ mj_sz mem ≤ mj_sz mem')
    (kt : x ≤ 0 → mj_R M tgt lv st mem r mem') (kf : ¬ x ≤ 0 → mj_R M (pc + 3) lv st mem r mem') : mj_R M pc lv (.int x :: st) mem r mem' :=
  ⟨hs, fun E l p e s m args below meth c L0 S0 C h1 h2 H locs ls hH hS hL => lv_if_le C.1 C.2.1 hd ht (fun hc => (kt hc).2 E l p e s m args below meth c L0 S0 C h1 h2 H locs ls hH hS hL) (fun hc => (kf hc).2 E l p e s m args below meth c L0 S0 C h1 h2 H locs ls hH hS hL)⟩
theorem mj_icmp_le {x y : Int32} {off : Int} {tgt : Nat} (hd : decode M.2.1 pc = .ok (.if_icmp .le off, 3)) (ht : (pc : Int) + off = (tgt : Int)) (hs : mem.1.length ≤ mem'.1.length ∧ mj_sz mem ≤ mj_sz mem')
    (kt : x ≤ y → mj_R M tgt lv st mem r mem') (kf : ¬ x ≤ y → mj_R M (pc + 3) lv st mem r mem') : mj_R M pc lv (.int y :: .int x :: st) mem r mem' :=
  ⟨hs, fun E l p e s m args below meth c L0 S0 C h1 h2 H locs ls hH hS hL => lv_icmp_le C.1 C.2.1 hd ht (fun hc => (kt hc).2 E l p e s m args below meth c L0 S0 C h1 h2 H locs ls hH hS hL) (fun hc => (kf hc).2 E l p e s m args below meth c L0 S0 C h1 h2 H locs ls hH hS hL)⟩
theorem mj_lookup {dflt : Int} {ps : Array (Int × Int)} {len : Nat} {x : Int32} {off : Int} {tgt : Nat} (hd : decode M.2.1 pc = .ok (.lookupswitch dflt ps, len)) (hp : (ps.toList.zip (ps.toList.drop 1)).all (fun (a, next) => a.1 < next.1) = true) (ho : Op.lookupswitch.offset ps.toList dflt x.toInt = off) (ht : (pc : Int) + off = (tgt : Int))
    (k : mj_R M tgt lv (st) mem r mem') : mj_R M pc lv (.int x :: st) mem r mem' :=
  ⟨k.1, fun E l p e s m args below meth c L0 S0 C h1 h2 H locs ls hH hS hL => lv_lookup C.1 C.2.1 hd hp ho ht (k.2 E l p e s m args below meth c L0 S0 C h1 h2 H locs ls hH hS hL)⟩
theorem mj_tableIn {dflt lo hi : Int} {offs : Array Int} {len : Nat} {x : Int32} {off : Int} {tgt : Nat} (hd : decode M.2.1 pc = .ok (.tableswitch dflt lo hi offs, len)) (hl : ¬ x.toInt < lo) (hh : ¬ hi < x.toInt) (ho : offs[(x.toInt - lo).toNat]? = some off) (ht : (pc : Int) + off = (tgt : Int))
    (k : mj_R M tgt lv (st) mem r mem') : mj_R M pc lv (.int x :: st) mem r mem' :=
  ⟨k.1, fun E l p e s m args below meth c L0 S0 C h1 h2 H locs ls hH hS hL => lv_tableIn C.1 C.2.1 hd hl hh ho ht (k.2 E l p e s m args below meth c L0 S0 C h1 h2 H locs ls hH hS hL)⟩
theorem mj_tableOut {dflt lo hi : Int} {offs : Array Int} {len : Nat} {x : Int32} {tgt : Nat} (hd : decode M.2.1 pc = .ok (.tableswitch dflt lo hi offs, len)) (hx : x.toInt < lo ∨ hi < x.toInt) (ht : (pc : Int) + dflt = (tgt : Int))
    (k : mj_R M tgt lv (st) mem r mem') : mj_R M pc lv (.int x :: st) mem r mem' :=
  ⟨k.1, fun E l p e s m args below meth c L0 S0 C h1 h2 H locs ls hH hS hL => lv_tableOut C.1 C.2.1 hd hx ht (k.2 E l p e s m args below meth c L0 S0 C h1 h2 H locs ls hH hS hL)⟩
end MJ
end
