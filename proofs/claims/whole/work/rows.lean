section
-- ===== PART A: goes FIRST, ahead of the names: the tables' words, and 'selects' of the private methods out of them =====
/-- a private method of a class that the tables say can be made, by its rows of tables_1 -/
def lw_okq (q : MethodName × Nat) : Prop := (q.1.cls ≠ "java/lang/invoke/MethodHandle" ∧ q.1.cls ≠ "java/lang/invoke/VarHandle") ∧ Cond.instantiable q.1.cls q.2 ∈ tables_1 ∧ Cond.privateMethod q.1 ∈ tables_1 ∧ Cond.instanceMethod q.1 ∈ tables_1
theorem lw_p0 : lw_okq (⟨"HornBench$Parser", "start", "()V"⟩, 11) := ⟨⟨by decide +kernel, by decide +kernel⟩, List.mem_of_getElem? (i := 104) (by decide +kernel), List.mem_of_getElem? (i := 401) (by decide +kernel), List.mem_of_getElem? (i := 402) (by decide +kernel)⟩
theorem lw_p1 : lw_okq (⟨"HornBench$Tokens", "behindBlanks", "(I)I"⟩, 5) := ⟨⟨by decide +kernel, by decide +kernel⟩, List.mem_of_getElem? (i := 110) (by decide +kernel), List.mem_of_getElem? (i := 409) (by decide +kernel), List.mem_of_getElem? (i := 410) (by decide +kernel)⟩
theorem lw_p2 : lw_okq (⟨"HornBench$Tokens", "readToken", "(I)I"⟩, 5) := ⟨⟨by decide +kernel, by decide +kernel⟩, List.mem_of_getElem? (i := 110) (by decide +kernel), List.mem_of_getElem? (i := 417) (by decide +kernel), List.mem_of_getElem? (i := 418) (by decide +kernel)⟩
theorem lw_p3 : lw_okq (⟨"HornBench$Tokens", "keep", "(IIJI)I"⟩, 5) := ⟨⟨by decide +kernel, by decide +kernel⟩, List.mem_of_getElem? (i := 110) (by decide +kernel), List.mem_of_getElem? (i := 421) (by decide +kernel), List.mem_of_getElem? (i := 422) (by decide +kernel)⟩
theorem lw_p4 : lw_okq (⟨"HornBench$Tokens", "readNumber", "(I)I"⟩, 5) := ⟨⟨by decide +kernel, by decide +kernel⟩, List.mem_of_getElem? (i := 110) (by decide +kernel), List.mem_of_getElem? (i := 428) (by decide +kernel), List.mem_of_getElem? (i := 429) (by decide +kernel)⟩
theorem lw_p5 : lw_okq (⟨"HornBench$Tokens", "readWord", "(I)I"⟩, 5) := ⟨⟨by decide +kernel, by decide +kernel⟩, List.mem_of_getElem? (i := 110) (by decide +kernel), List.mem_of_getElem? (i := 436) (by decide +kernel), List.mem_of_getElem? (i := 437) (by decide +kernel)⟩
theorem lw_p6 : lw_okq (⟨"HornBench$Tokens", "behindWord", "(I)I"⟩, 5) := ⟨⟨by decide +kernel, by decide +kernel⟩, List.mem_of_getElem? (i := 110) (by decide +kernel), List.mem_of_getElem? (i := 440) (by decide +kernel), List.mem_of_getElem? (i := 441) (by decide +kernel)⟩
theorem lw_p7 : lw_okq (⟨"HornBench$Tokens", "nameOf", "(II)J"⟩, 5) := ⟨⟨by decide +kernel, by decide +kernel⟩, List.mem_of_getElem? (i := 110) (by decide +kernel), List.mem_of_getElem? (i := 444) (by decide +kernel), List.mem_of_getElem? (i := 445) (by decide +kernel)⟩
theorem lw_p8 : lw_okq (⟨"HornBench$Tokens", "readSymbol", "(III)I"⟩, 5) := ⟨⟨by decide +kernel, by decide +kernel⟩, List.mem_of_getElem? (i := 110) (by decide +kernel), List.mem_of_getElem? (i := 457) (by decide +kernel), List.mem_of_getElem? (i := 458) (by decide +kernel)⟩
theorem lw_p9 : lw_okq (⟨"HornBench$Parser", "readClause", "(I)V"⟩, 11) := ⟨⟨by decide +kernel, by decide +kernel⟩, List.mem_of_getElem? (i := 104) (by decide +kernel), List.mem_of_getElem? (i := 473) (by decide +kernel), List.mem_of_getElem? (i := 474) (by decide +kernel)⟩
theorem lw_p10 : lw_okq (⟨"HornBench$Parser", "tooMany", "()V"⟩, 11) := ⟨⟨by decide +kernel, by decide +kernel⟩, List.mem_of_getElem? (i := 104) (by decide +kernel), List.mem_of_getElem? (i := 477) (by decide +kernel), List.mem_of_getElem? (i := 478) (by decide +kernel)⟩
theorem lw_p11 : lw_okq (⟨"HornBench$Parser", "begin", "(I)V"⟩, 11) := ⟨⟨by decide +kernel, by decide +kernel⟩, List.mem_of_getElem? (i := 104) (by decide +kernel), List.mem_of_getElem? (i := 491) (by decide +kernel), List.mem_of_getElem? (i := 492) (by decide +kernel)⟩
theorem lw_p12 : lw_okq (⟨"HornBench$Parser", "refuse", "()V"⟩, 11) := ⟨⟨by decide +kernel, by decide +kernel⟩, List.mem_of_getElem? (i := 104) (by decide +kernel), List.mem_of_getElem? (i := 499) (by decide +kernel), List.mem_of_getElem? (i := 500) (by decide +kernel)⟩
theorem lw_p13 : lw_okq (⟨"HornBench$Parser", "readSimple", "()I"⟩, 11) := ⟨⟨by decide +kernel, by decide +kernel⟩, List.mem_of_getElem? (i := 104) (by decide +kernel), List.mem_of_getElem? (i := 503) (by decide +kernel), List.mem_of_getElem? (i := 504) (by decide +kernel)⟩
theorem lw_p14 : lw_okq (⟨"HornBench$Parser", "readVariable", "()I"⟩, 11) := ⟨⟨by decide +kernel, by decide +kernel⟩, List.mem_of_getElem? (i := 104) (by decide +kernel), List.mem_of_getElem? (i := 507) (by decide +kernel), List.mem_of_getElem? (i := 508) (by decide +kernel)⟩
theorem lw_p15 : lw_okq (⟨"HornBench$Parser", "take", "()V"⟩, 11) := ⟨⟨by decide +kernel, by decide +kernel⟩, List.mem_of_getElem? (i := 104) (by decide +kernel), List.mem_of_getElem? (i := 516) (by decide +kernel), List.mem_of_getElem? (i := 517) (by decide +kernel)⟩
def lw_privs_1 : List (MethodName × Nat) := [(⟨"HornBench$Parser", "start", "()V"⟩, 11), (⟨"HornBench$Tokens", "behindBlanks", "(I)I"⟩, 5), (⟨"HornBench$Tokens", "readToken", "(I)I"⟩, 5), (⟨"HornBench$Tokens", "keep", "(IIJI)I"⟩, 5), (⟨"HornBench$Tokens", "readNumber", "(I)I"⟩, 5), (⟨"HornBench$Tokens", "readWord", "(I)I"⟩, 5), (⟨"HornBench$Tokens", "behindWord", "(I)I"⟩, 5), (⟨"HornBench$Tokens", "nameOf", "(II)J"⟩, 5), (⟨"HornBench$Tokens", "readSymbol", "(III)I"⟩, 5), (⟨"HornBench$Parser", "readClause", "(I)V"⟩, 11), (⟨"HornBench$Parser", "tooMany", "()V"⟩, 11), (⟨"HornBench$Parser", "begin", "(I)V"⟩, 11), (⟨"HornBench$Parser", "refuse", "()V"⟩, 11), (⟨"HornBench$Parser", "readSimple", "()I"⟩, 11), (⟨"HornBench$Parser", "readVariable", "()I"⟩, 11), (⟨"HornBench$Parser", "take", "()V"⟩, 11)]
theorem lw_r1 : ∀ q ∈ lw_privs_1, lw_okq q := List.forall_mem_cons.mpr ⟨lw_p0, List.forall_mem_cons.mpr ⟨lw_p1, List.forall_mem_cons.mpr ⟨lw_p2, List.forall_mem_cons.mpr ⟨lw_p3, List.forall_mem_cons.mpr ⟨lw_p4, List.forall_mem_cons.mpr ⟨lw_p5, List.forall_mem_cons.mpr ⟨lw_p6, List.forall_mem_cons.mpr ⟨lw_p7, List.forall_mem_cons.mpr ⟨lw_p8, List.forall_mem_cons.mpr ⟨lw_p9, List.forall_mem_cons.mpr ⟨lw_p10, List.forall_mem_cons.mpr ⟨lw_p11, List.forall_mem_cons.mpr ⟨lw_p12, List.forall_mem_cons.mpr ⟨lw_p13, List.forall_mem_cons.mpr ⟨lw_p14, List.forall_mem_cons.mpr ⟨lw_p15, fun _ h => absurd h List.not_mem_nil⟩⟩⟩⟩⟩⟩⟩⟩⟩⟩⟩⟩⟩⟩⟩⟩
theorem lw_p16 : lw_okq (⟨"HornBench$Parser", "readNumber", "(I)I"⟩, 11) := ⟨⟨by decide +kernel, by decide +kernel⟩, List.mem_of_getElem? (i := 104) (by decide +kernel), List.mem_of_getElem? (i := 524) (by decide +kernel), List.mem_of_getElem? (i := 525) (by decide +kernel)⟩
theorem lw_p17 : lw_okq (⟨"HornBench$Parser", "readName", "()I"⟩, 11) := ⟨⟨by decide +kernel, by decide +kernel⟩, List.mem_of_getElem? (i := 104) (by decide +kernel), List.mem_of_getElem? (i := 528) (by decide +kernel), List.mem_of_getElem? (i := 529) (by decide +kernel)⟩
theorem lw_p18 : lw_okq (⟨"HornBench$Parser", "open", "(I)V"⟩, 11) := ⟨⟨by decide +kernel, by decide +kernel⟩, List.mem_of_getElem? (i := 104) (by decide +kernel), List.mem_of_getElem? (i := 532) (by decide +kernel), List.mem_of_getElem? (i := 533) (by decide +kernel)⟩
theorem lw_p19 : lw_okq (⟨"HornBench$Parser", "readTerm", "()I"⟩, 11) := ⟨⟨by decide +kernel, by decide +kernel⟩, List.mem_of_getElem? (i := 104) (by decide +kernel), List.mem_of_getElem? (i := 536) (by decide +kernel), List.mem_of_getElem? (i := 537) (by decide +kernel)⟩
theorem lw_p20 : lw_okq (⟨"HornBench$Parser", "readProduct", "()I"⟩, 11) := ⟨⟨by decide +kernel, by decide +kernel⟩, List.mem_of_getElem? (i := 104) (by decide +kernel), List.mem_of_getElem? (i := 540) (by decide +kernel), List.mem_of_getElem? (i := 541) (by decide +kernel)⟩
theorem lw_p21 : lw_okq (⟨"HornBench$Parser", "close", "(I)V"⟩, 11) := ⟨⟨by decide +kernel, by decide +kernel⟩, List.mem_of_getElem? (i := 104) (by decide +kernel), List.mem_of_getElem? (i := 548) (by decide +kernel), List.mem_of_getElem? (i := 549) (by decide +kernel)⟩
theorem lw_p22 : lw_okq (⟨"HornBench$Parser", "readList", "()I"⟩, 11) := ⟨⟨by decide +kernel, by decide +kernel⟩, List.mem_of_getElem? (i := 104) (by decide +kernel), List.mem_of_getElem? (i := 552) (by decide +kernel), List.mem_of_getElem? (i := 553) (by decide +kernel)⟩
theorem lw_p23 : lw_okq (⟨"HornBench$Parser", "makePairs", "(II)I"⟩, 11) := ⟨⟨by decide +kernel, by decide +kernel⟩, List.mem_of_getElem? (i := 104) (by decide +kernel), List.mem_of_getElem? (i := 557) (by decide +kernel), List.mem_of_getElem? (i := 558) (by decide +kernel)⟩
theorem lw_p24 : lw_okq (⟨"HornBench$Parser", "readGoals", "()I"⟩, 11) := ⟨⟨by decide +kernel, by decide +kernel⟩, List.mem_of_getElem? (i := 104) (by decide +kernel), List.mem_of_getElem? (i := 566) (by decide +kernel), List.mem_of_getElem? (i := 567) (by decide +kernel)⟩
theorem lw_p25 : lw_okq (⟨"HornBench$Parser", "readGoal", "()I"⟩, 11) := ⟨⟨by decide +kernel, by decide +kernel⟩, List.mem_of_getElem? (i := 104) (by decide +kernel), List.mem_of_getElem? (i := 570) (by decide +kernel), List.mem_of_getElem? (i := 571) (by decide +kernel)⟩
theorem lw_p26 : lw_okq (⟨"HornBench$Parser", "readPlainGoal", "()I"⟩, 11) := ⟨⟨by decide +kernel, by decide +kernel⟩, List.mem_of_getElem? (i := 104) (by decide +kernel), List.mem_of_getElem? (i := 574) (by decide +kernel), List.mem_of_getElem? (i := 575) (by decide +kernel)⟩
theorem lw_p27 : lw_okq (⟨"HornBench$Parser", "readNot", "()I"⟩, 11) := ⟨⟨by decide +kernel, by decide +kernel⟩, List.mem_of_getElem? (i := 104) (by decide +kernel), List.mem_of_getElem? (i := 578) (by decide +kernel), List.mem_of_getElem? (i := 579) (by decide +kernel)⟩
theorem lw_p28 : lw_okq (⟨"HornBench$Parser", "readVar", "()I"⟩, 11) := ⟨⟨by decide +kernel, by decide +kernel⟩, List.mem_of_getElem? (i := 104) (by decide +kernel), List.mem_of_getElem? (i := 583) (by decide +kernel), List.mem_of_getElem? (i := 584) (by decide +kernel)⟩
theorem lw_p29 : lw_okq (⟨"HornBench$Parser", "readRelation", "()I"⟩, 11) := ⟨⟨by decide +kernel, by decide +kernel⟩, List.mem_of_getElem? (i := 104) (by decide +kernel), List.mem_of_getElem? (i := 588) (by decide +kernel), List.mem_of_getElem? (i := 589) (by decide +kernel)⟩
theorem lw_p30 : lw_okq (⟨"HornBench$Parser", "expect", "(I)V"⟩, 11) := ⟨⟨by decide +kernel, by decide +kernel⟩, List.mem_of_getElem? (i := 104) (by decide +kernel), List.mem_of_getElem? (i := 605) (by decide +kernel), List.mem_of_getElem? (i := 606) (by decide +kernel)⟩
theorem lw_p31 : lw_okq (⟨"HornBench$Parser", "error", "()I"⟩, 11) := ⟨⟨by decide +kernel, by decide +kernel⟩, List.mem_of_getElem? (i := 104) (by decide +kernel), List.mem_of_getElem? (i := 616) (by decide +kernel), List.mem_of_getElem? (i := 617) (by decide +kernel)⟩
def lw_privs_2 : List (MethodName × Nat) := [(⟨"HornBench$Parser", "readNumber", "(I)I"⟩, 11), (⟨"HornBench$Parser", "readName", "()I"⟩, 11), (⟨"HornBench$Parser", "open", "(I)V"⟩, 11), (⟨"HornBench$Parser", "readTerm", "()I"⟩, 11), (⟨"HornBench$Parser", "readProduct", "()I"⟩, 11), (⟨"HornBench$Parser", "close", "(I)V"⟩, 11), (⟨"HornBench$Parser", "readList", "()I"⟩, 11), (⟨"HornBench$Parser", "makePairs", "(II)I"⟩, 11), (⟨"HornBench$Parser", "readGoals", "()I"⟩, 11), (⟨"HornBench$Parser", "readGoal", "()I"⟩, 11), (⟨"HornBench$Parser", "readPlainGoal", "()I"⟩, 11), (⟨"HornBench$Parser", "readNot", "()I"⟩, 11), (⟨"HornBench$Parser", "readVar", "()I"⟩, 11), (⟨"HornBench$Parser", "readRelation", "()I"⟩, 11), (⟨"HornBench$Parser", "expect", "(I)V"⟩, 11), (⟨"HornBench$Parser", "error", "()I"⟩, 11)]
theorem lw_r2 : ∀ q ∈ lw_privs_2, lw_okq q := List.forall_mem_cons.mpr ⟨lw_p16, List.forall_mem_cons.mpr ⟨lw_p17, List.forall_mem_cons.mpr ⟨lw_p18, List.forall_mem_cons.mpr ⟨lw_p19, List.forall_mem_cons.mpr ⟨lw_p20, List.forall_mem_cons.mpr ⟨lw_p21, List.forall_mem_cons.mpr ⟨lw_p22, List.forall_mem_cons.mpr ⟨lw_p23, List.forall_mem_cons.mpr ⟨lw_p24, List.forall_mem_cons.mpr ⟨lw_p25, List.forall_mem_cons.mpr ⟨lw_p26, List.forall_mem_cons.mpr ⟨lw_p27, List.forall_mem_cons.mpr ⟨lw_p28, List.forall_mem_cons.mpr ⟨lw_p29, List.forall_mem_cons.mpr ⟨lw_p30, List.forall_mem_cons.mpr ⟨lw_p31, fun _ h => absurd h List.not_mem_nil⟩⟩⟩⟩⟩⟩⟩⟩⟩⟩⟩⟩⟩⟩⟩⟩
theorem lw_p32 : lw_okq (⟨"HornBench", "finishReading", "(I)I"⟩, 8) := ⟨⟨by decide +kernel, by decide +kernel⟩, List.mem_of_getElem? (i := 28) (by decide +kernel), List.mem_of_getElem? (i := 624) (by decide +kernel), List.mem_of_getElem? (i := 625) (by decide +kernel)⟩
theorem lw_p33 : lw_okq (⟨"HornBench$Question", "chain", "(III)I"⟩, 19) := ⟨⟨by decide +kernel, by decide +kernel⟩, List.mem_of_getElem? (i := 232) (by decide +kernel), List.mem_of_getElem? (i := 678) (by decide +kernel), List.mem_of_getElem? (i := 679) (by decide +kernel)⟩
theorem lw_p34 : lw_okq (⟨"HornBench$Question", "link", "(III)I"⟩, 19) := ⟨⟨by decide +kernel, by decide +kernel⟩, List.mem_of_getElem? (i := 232) (by decide +kernel), List.mem_of_getElem? (i := 695) (by decide +kernel), List.mem_of_getElem? (i := 696) (by decide +kernel)⟩
theorem lw_p35 : lw_okq (⟨"java/lang/Throwable", "fillInStackTrace", "(I)Ljava/lang/Throwable;"⟩, 6) := ⟨⟨by decide +kernel, by decide +kernel⟩, List.mem_of_getElem? (i := 813) (by decide +kernel), List.mem_of_getElem? (i := 811) (by decide +kernel), List.mem_of_getElem? (i := 812) (by decide +kernel)⟩
theorem lw_p36 : lw_okq (⟨"HornBench$Question", "settle", "(Z)V"⟩, 19) := ⟨⟨by decide +kernel, by decide +kernel⟩, List.mem_of_getElem? (i := 232) (by decide +kernel), List.mem_of_getElem? (i := 957) (by decide +kernel), List.mem_of_getElem? (i := 958) (by decide +kernel)⟩
theorem lw_p37 : lw_okq (⟨"HornBench$Question", "isAtMark", "()Z"⟩, 19) := ⟨⟨by decide +kernel, by decide +kernel⟩, List.mem_of_getElem? (i := 232) (by decide +kernel), List.mem_of_getElem? (i := 961) (by decide +kernel), List.mem_of_getElem? (i := 962) (by decide +kernel)⟩
theorem lw_p38 : lw_okq (⟨"HornBench$Question", "goBack", "()V"⟩, 19) := ⟨⟨by decide +kernel, by decide +kernel⟩, List.mem_of_getElem? (i := 232) (by decide +kernel), List.mem_of_getElem? (i := 965) (by decide +kernel), List.mem_of_getElem? (i := 966) (by decide +kernel)⟩
theorem lw_p39 : lw_okq (⟨"HornBench$Matcher", "join", "(IIZ)Z"⟩, 4) := ⟨⟨by decide +kernel, by decide +kernel⟩, List.mem_of_getElem? (i := 212) (by decide +kernel), List.mem_of_getElem? (i := 994) (by decide +kernel), List.mem_of_getElem? (i := 995) (by decide +kernel)⟩
theorem lw_p40 : lw_okq (⟨"HornBench$Matcher", "root", "(I)I"⟩, 4) := ⟨⟨by decide +kernel, by decide +kernel⟩, List.mem_of_getElem? (i := 212) (by decide +kernel), List.mem_of_getElem? (i := 1011) (by decide +kernel), List.mem_of_getElem? (i := 1012) (by decide +kernel)⟩
theorem lw_p41 : lw_okq (⟨"HornBench$Question", "stepAgain", "()Z"⟩, 19) := ⟨⟨by decide +kernel, by decide +kernel⟩, List.mem_of_getElem? (i := 232) (by decide +kernel), List.mem_of_getElem? (i := 1079) (by decide +kernel), List.mem_of_getElem? (i := 1080) (by decide +kernel)⟩
theorem lw_p42 : lw_okq (⟨"HornBench$Question", "useClause", "(II)Z"⟩, 19) := ⟨⟨by decide +kernel, by decide +kernel⟩, List.mem_of_getElem? (i := 232) (by decide +kernel), List.mem_of_getElem? (i := 1083) (by decide +kernel), List.mem_of_getElem? (i := 1084) (by decide +kernel)⟩
theorem lw_p43 : lw_okq (⟨"HornBench$Question", "leaveChoice", "(III)V"⟩, 19) := ⟨⟨by decide +kernel, by decide +kernel⟩, List.mem_of_getElem? (i := 232) (by decide +kernel), List.mem_of_getElem? (i := 1088) (by decide +kernel), List.mem_of_getElem? (i := 1089) (by decide +kernel)⟩
theorem lw_p44 : lw_okq (⟨"HornBench$Question", "step", "()Z"⟩, 19) := ⟨⟨by decide +kernel, by decide +kernel⟩, List.mem_of_getElem? (i := 232) (by decide +kernel), List.mem_of_getElem? (i := 1096) (by decide +kernel), List.mem_of_getElem? (i := 1097) (by decide +kernel)⟩
theorem lw_p45 : lw_okq (⟨"HornBench$Question", "assign", "(II)Z"⟩, 19) := ⟨⟨by decide +kernel, by decide +kernel⟩, List.mem_of_getElem? (i := 232) (by decide +kernel), List.mem_of_getElem? (i := 1107) (by decide +kernel), List.mem_of_getElem? (i := 1108) (by decide +kernel)⟩
theorem lw_p46 : lw_okq (⟨"HornBench$Evaluator", "find", "(II)Z"⟩, 6) := ⟨⟨by decide +kernel, by decide +kernel⟩, List.mem_of_getElem? (i := 238) (by decide +kernel), List.mem_of_getElem? (i := 1115) (by decide +kernel), List.mem_of_getElem? (i := 1116) (by decide +kernel)⟩
theorem lw_p47 : lw_okq (⟨"HornBench$Evaluator", "compute", "(II)Z"⟩, 6) := ⟨⟨by decide +kernel, by decide +kernel⟩, List.mem_of_getElem? (i := 238) (by decide +kernel), List.mem_of_getElem? (i := 1126) (by decide +kernel), List.mem_of_getElem? (i := 1127) (by decide +kernel)⟩
def lw_privs_3 : List (MethodName × Nat) := [(⟨"HornBench", "finishReading", "(I)I"⟩, 8), (⟨"HornBench$Question", "chain", "(III)I"⟩, 19), (⟨"HornBench$Question", "link", "(III)I"⟩, 19), (⟨"java/lang/Throwable", "fillInStackTrace", "(I)Ljava/lang/Throwable;"⟩, 6), (⟨"HornBench$Question", "settle", "(Z)V"⟩, 19), (⟨"HornBench$Question", "isAtMark", "()Z"⟩, 19), (⟨"HornBench$Question", "goBack", "()V"⟩, 19), (⟨"HornBench$Matcher", "join", "(IIZ)Z"⟩, 4), (⟨"HornBench$Matcher", "root", "(I)I"⟩, 4), (⟨"HornBench$Question", "stepAgain", "()Z"⟩, 19), (⟨"HornBench$Question", "useClause", "(II)Z"⟩, 19), (⟨"HornBench$Question", "leaveChoice", "(III)V"⟩, 19), (⟨"HornBench$Question", "step", "()Z"⟩, 19), (⟨"HornBench$Question", "assign", "(II)Z"⟩, 19), (⟨"HornBench$Evaluator", "find", "(II)Z"⟩, 6), (⟨"HornBench$Evaluator", "compute", "(II)Z"⟩, 6)]
theorem lw_r3 : ∀ q ∈ lw_privs_3, lw_okq q := List.forall_mem_cons.mpr ⟨lw_p32, List.forall_mem_cons.mpr ⟨lw_p33, List.forall_mem_cons.mpr ⟨lw_p34, List.forall_mem_cons.mpr ⟨lw_p35, List.forall_mem_cons.mpr ⟨lw_p36, List.forall_mem_cons.mpr ⟨lw_p37, List.forall_mem_cons.mpr ⟨lw_p38, List.forall_mem_cons.mpr ⟨lw_p39, List.forall_mem_cons.mpr ⟨lw_p40, List.forall_mem_cons.mpr ⟨lw_p41, List.forall_mem_cons.mpr ⟨lw_p42, List.forall_mem_cons.mpr ⟨lw_p43, List.forall_mem_cons.mpr ⟨lw_p44, List.forall_mem_cons.mpr ⟨lw_p45, List.forall_mem_cons.mpr ⟨lw_p46, List.forall_mem_cons.mpr ⟨lw_p47, fun _ h => absurd h List.not_mem_nil⟩⟩⟩⟩⟩⟩⟩⟩⟩⟩⟩⟩⟩⟩⟩⟩
theorem lw_p48 : lw_okq (⟨"HornBench$Evaluator", "apply", "(JII)Z"⟩, 6) := ⟨⟨by decide +kernel, by decide +kernel⟩, List.mem_of_getElem? (i := 238) (by decide +kernel), List.mem_of_getElem? (i := 1148) (by decide +kernel), List.mem_of_getElem? (i := 1149) (by decide +kernel)⟩
theorem lw_p49 : lw_okq (⟨"HornBench$Question", "stopByError", "()Z"⟩, 19) := ⟨⟨by decide +kernel, by decide +kernel⟩, List.mem_of_getElem? (i := 232) (by decide +kernel), List.mem_of_getElem? (i := 1159) (by decide +kernel), List.mem_of_getElem? (i := 1160) (by decide +kernel)⟩
theorem lw_p50 : lw_okq (⟨"HornBench$Question", "compare", "(III)Z"⟩, 19) := ⟨⟨by decide +kernel, by decide +kernel⟩, List.mem_of_getElem? (i := 232) (by decide +kernel), List.mem_of_getElem? (i := 1171) (by decide +kernel), List.mem_of_getElem? (i := 1172) (by decide +kernel)⟩
theorem lw_p51 : lw_okq (⟨"HornBench$Pen", "push", "(II)V"⟩, 10) := ⟨⟨by decide +kernel, by decide +kernel⟩, List.mem_of_getElem? (i := 323) (by decide +kernel), List.mem_of_getElem? (i := 1193) (by decide +kernel), List.mem_of_getElem? (i := 1194) (by decide +kernel)⟩
theorem lw_p52 : lw_okq (⟨"HornBench$Pen", "hasRoom", "()Z"⟩, 10) := ⟨⟨by decide +kernel, by decide +kernel⟩, List.mem_of_getElem? (i := 323) (by decide +kernel), List.mem_of_getElem? (i := 1197) (by decide +kernel), List.mem_of_getElem? (i := 1198) (by decide +kernel)⟩
theorem lw_p53 : lw_okq (⟨"HornBench$Pen", "writeItem", "(II)V"⟩, 10) := ⟨⟨by decide +kernel, by decide +kernel⟩, List.mem_of_getElem? (i := 323) (by decide +kernel), List.mem_of_getElem? (i := 1203) (by decide +kernel), List.mem_of_getElem? (i := 1204) (by decide +kernel)⟩
theorem lw_p54 : lw_okq (⟨"HornBench$Pen", "writeTerm", "(I)V"⟩, 10) := ⟨⟨by decide +kernel, by decide +kernel⟩, List.mem_of_getElem? (i := 323) (by decide +kernel), List.mem_of_getElem? (i := 1208) (by decide +kernel), List.mem_of_getElem? (i := 1209) (by decide +kernel)⟩
theorem lw_p55 : lw_okq (⟨"HornBench$Pen", "writeByte", "(I)V"⟩, 10) := ⟨⟨by decide +kernel, by decide +kernel⟩, List.mem_of_getElem? (i := 323) (by decide +kernel), List.mem_of_getElem? (i := 1213) (by decide +kernel), List.mem_of_getElem? (i := 1214) (by decide +kernel)⟩
theorem lw_p56 : lw_okq (⟨"HornBench$Pen", "numberOfFree", "(I)I"⟩, 10) := ⟨⟨by decide +kernel, by decide +kernel⟩, List.mem_of_getElem? (i := 323) (by decide +kernel), List.mem_of_getElem? (i := 1217) (by decide +kernel), List.mem_of_getElem? (i := 1218) (by decide +kernel)⟩
theorem lw_p57 : lw_okq (⟨"HornBench$Pen", "writeDigits", "(I)V"⟩, 10) := ⟨⟨by decide +kernel, by decide +kernel⟩, List.mem_of_getElem? (i := 323) (by decide +kernel), List.mem_of_getElem? (i := 1221) (by decide +kernel), List.mem_of_getElem? (i := 1222) (by decide +kernel)⟩
theorem lw_p58 : lw_okq (⟨"HornBench$Pen", "writeNamed", "(I)V"⟩, 10) := ⟨⟨by decide +kernel, by decide +kernel⟩, List.mem_of_getElem? (i := 323) (by decide +kernel), List.mem_of_getElem? (i := 1229) (by decide +kernel), List.mem_of_getElem? (i := 1230) (by decide +kernel)⟩
theorem lw_p59 : lw_okq (⟨"HornBench$Pen", "writeName", "(J)V"⟩, 10) := ⟨⟨by decide +kernel, by decide +kernel⟩, List.mem_of_getElem? (i := 323) (by decide +kernel), List.mem_of_getElem? (i := 1235) (by decide +kernel), List.mem_of_getElem? (i := 1236) (by decide +kernel)⟩
theorem lw_p60 : lw_okq (⟨"HornBench$Pen", "writeBetween", "(IIJZ)V"⟩, 10) := ⟨⟨by decide +kernel, by decide +kernel⟩, List.mem_of_getElem? (i := 323) (by decide +kernel), List.mem_of_getElem? (i := 1244) (by decide +kernel), List.mem_of_getElem? (i := 1245) (by decide +kernel)⟩
theorem lw_p61 : lw_okq (⟨"HornBench$Pen", "writeOperand", "(I)V"⟩, 10) := ⟨⟨by decide +kernel, by decide +kernel⟩, List.mem_of_getElem? (i := 323) (by decide +kernel), List.mem_of_getElem? (i := 1248) (by decide +kernel), List.mem_of_getElem? (i := 1249) (by decide +kernel)⟩
theorem lw_p62 : lw_okq (⟨"HornBench$Pen", "writeChain", "(III)V"⟩, 10) := ⟨⟨by decide +kernel, by decide +kernel⟩, List.mem_of_getElem? (i := 323) (by decide +kernel), List.mem_of_getElem? (i := 1252) (by decide +kernel), List.mem_of_getElem? (i := 1253) (by decide +kernel)⟩
theorem lw_p63 : lw_okq (⟨"HornBench$Pen", "writeTail", "(I)V"⟩, 10) := ⟨⟨by decide +kernel, by decide +kernel⟩, List.mem_of_getElem? (i := 323) (by decide +kernel), List.mem_of_getElem? (i := 1256) (by decide +kernel), List.mem_of_getElem? (i := 1257) (by decide +kernel)⟩
def lw_privs_4 : List (MethodName × Nat) := [(⟨"HornBench$Evaluator", "apply", "(JII)Z"⟩, 6), (⟨"HornBench$Question", "stopByError", "()Z"⟩, 19), (⟨"HornBench$Question", "compare", "(III)Z"⟩, 19), (⟨"HornBench$Pen", "push", "(II)V"⟩, 10), (⟨"HornBench$Pen", "hasRoom", "()Z"⟩, 10), (⟨"HornBench$Pen", "writeItem", "(II)V"⟩, 10), (⟨"HornBench$Pen", "writeTerm", "(I)V"⟩, 10), (⟨"HornBench$Pen", "writeByte", "(I)V"⟩, 10), (⟨"HornBench$Pen", "numberOfFree", "(I)I"⟩, 10), (⟨"HornBench$Pen", "writeDigits", "(I)V"⟩, 10), (⟨"HornBench$Pen", "writeNamed", "(I)V"⟩, 10), (⟨"HornBench$Pen", "writeName", "(J)V"⟩, 10), (⟨"HornBench$Pen", "writeBetween", "(IIJZ)V"⟩, 10), (⟨"HornBench$Pen", "writeOperand", "(I)V"⟩, 10), (⟨"HornBench$Pen", "writeChain", "(III)V"⟩, 10), (⟨"HornBench$Pen", "writeTail", "(I)V"⟩, 10)]
theorem lw_r4 : ∀ q ∈ lw_privs_4, lw_okq q := List.forall_mem_cons.mpr ⟨lw_p48, List.forall_mem_cons.mpr ⟨lw_p49, List.forall_mem_cons.mpr ⟨lw_p50, List.forall_mem_cons.mpr ⟨lw_p51, List.forall_mem_cons.mpr ⟨lw_p52, List.forall_mem_cons.mpr ⟨lw_p53, List.forall_mem_cons.mpr ⟨lw_p54, List.forall_mem_cons.mpr ⟨lw_p55, List.forall_mem_cons.mpr ⟨lw_p56, List.forall_mem_cons.mpr ⟨lw_p57, List.forall_mem_cons.mpr ⟨lw_p58, List.forall_mem_cons.mpr ⟨lw_p59, List.forall_mem_cons.mpr ⟨lw_p60, List.forall_mem_cons.mpr ⟨lw_p61, List.forall_mem_cons.mpr ⟨lw_p62, List.forall_mem_cons.mpr ⟨lw_p63, fun _ h => absurd h List.not_mem_nil⟩⟩⟩⟩⟩⟩⟩⟩⟩⟩⟩⟩⟩⟩⟩⟩
theorem lw_p64 : lw_okq (⟨"HornBench$Pen", "writeOneGoal", "(I)V"⟩, 10) := ⟨⟨by decide +kernel, by decide +kernel⟩, List.mem_of_getElem? (i := 323) (by decide +kernel), List.mem_of_getElem? (i := 1261) (by decide +kernel), List.mem_of_getElem? (i := 1262) (by decide +kernel)⟩
theorem lw_p65 : lw_okq (⟨"HornBenchModel", "no", "(I)I"⟩, 62) := ⟨⟨by decide +kernel, by decide +kernel⟩, List.mem_of_getElem? (i := 1309) (by decide +kernel), List.mem_of_getElem? (i := 1513) (by decide +kernel), List.mem_of_getElem? (i := 1514) (by decide +kernel)⟩
theorem lw_p66 : lw_okq (⟨"HornBenchModel", "read", "(I)I"⟩, 62) := ⟨⟨by decide +kernel, by decide +kernel⟩, List.mem_of_getElem? (i := 1309) (by decide +kernel), List.mem_of_getElem? (i := 1528) (by decide +kernel), List.mem_of_getElem? (i := 1529) (by decide +kernel)⟩
theorem lw_p67 : lw_okq (⟨"HornBenchModel", "forgetQuestion", "()V"⟩, 62) := ⟨⟨by decide +kernel, by decide +kernel⟩, List.mem_of_getElem? (i := 1309) (by decide +kernel), List.mem_of_getElem? (i := 1532) (by decide +kernel), List.mem_of_getElem? (i := 1533) (by decide +kernel)⟩
theorem lw_p68 : lw_okq (⟨"HornBenchModel", "scan", "()V"⟩, 62) := ⟨⟨by decide +kernel, by decide +kernel⟩, List.mem_of_getElem? (i := 1309) (by decide +kernel), List.mem_of_getElem? (i := 1536) (by decide +kernel), List.mem_of_getElem? (i := 1537) (by decide +kernel)⟩
theorem lw_p69 : lw_okq (⟨"HornBenchModel", "byteAtTape", "(I)I"⟩, 62) := ⟨⟨by decide +kernel, by decide +kernel⟩, List.mem_of_getElem? (i := 1309) (by decide +kernel), List.mem_of_getElem? (i := 1540) (by decide +kernel), List.mem_of_getElem? (i := 1541) (by decide +kernel)⟩
theorem lw_p70 : lw_okq (⟨"HornBenchModel", "symbolAt", "(I)I"⟩, 62) := ⟨⟨by decide +kernel, by decide +kernel⟩, List.mem_of_getElem? (i := 1309) (by decide +kernel), List.mem_of_getElem? (i := 1553) (by decide +kernel), List.mem_of_getElem? (i := 1554) (by decide +kernel)⟩
theorem lw_p71 : lw_okq (⟨"HornBenchModel", "programForm", "()Z"⟩, 62) := ⟨⟨by decide +kernel, by decide +kernel⟩, List.mem_of_getElem? (i := 1309) (by decide +kernel), List.mem_of_getElem? (i := 1641) (by decide +kernel), List.mem_of_getElem? (i := 1642) (by decide +kernel)⟩
theorem lw_p72 : lw_okq (⟨"HornBenchModel", "clauseForm", "()Z"⟩, 62) := ⟨⟨by decide +kernel, by decide +kernel⟩, List.mem_of_getElem? (i := 1309) (by decide +kernel), List.mem_of_getElem? (i := 1645) (by decide +kernel), List.mem_of_getElem? (i := 1646) (by decide +kernel)⟩
theorem lw_p73 : lw_okq (⟨"HornBenchModel", "isName", "(I)Z"⟩, 62) := ⟨⟨by decide +kernel, by decide +kernel⟩, List.mem_of_getElem? (i := 1309) (by decide +kernel), List.mem_of_getElem? (i := 1649) (by decide +kernel), List.mem_of_getElem? (i := 1650) (by decide +kernel)⟩
theorem lw_p74 : lw_okq (⟨"HornBenchModel", "which", "(I[Ljava/lang/String;)I"⟩, 62) := ⟨⟨by decide +kernel, by decide +kernel⟩, List.mem_of_getElem? (i := 1309) (by decide +kernel), List.mem_of_getElem? (i := 1655) (by decide +kernel), List.mem_of_getElem? (i := 1656) (by decide +kernel)⟩
theorem lw_p75 : lw_okq (⟨"HornBenchModel", "is", "(ILjava/lang/String;)Z"⟩, 62) := ⟨⟨by decide +kernel, by decide +kernel⟩, List.mem_of_getElem? (i := 1309) (by decide +kernel), List.mem_of_getElem? (i := 1659) (by decide +kernel), List.mem_of_getElem? (i := 1660) (by decide +kernel)⟩
theorem lw_p76 : lw_okq (⟨"HornBenchModel", "goes", "()Z"⟩, 62) := ⟨⟨by decide +kernel, by decide +kernel⟩, List.mem_of_getElem? (i := 1309) (by decide +kernel), List.mem_of_getElem? (i := 1684) (by decide +kernel), List.mem_of_getElem? (i := 1685) (by decide +kernel)⟩
theorem lw_p77 : lw_okq (⟨"HornBenchModel", "sees", "(Ljava/lang/String;)Z"⟩, 62) := ⟨⟨by decide +kernel, by decide +kernel⟩, List.mem_of_getElem? (i := 1309) (by decide +kernel), List.mem_of_getElem? (i := 1689) (by decide +kernel), List.mem_of_getElem? (i := 1690) (by decide +kernel)⟩
theorem lw_p78 : lw_okq (⟨"HornBenchModel", "argumentsForm", "(I)Z"⟩, 62) := ⟨⟨by decide +kernel, by decide +kernel⟩, List.mem_of_getElem? (i := 1309) (by decide +kernel), List.mem_of_getElem? (i := 1693) (by decide +kernel), List.mem_of_getElem? (i := 1694) (by decide +kernel)⟩
theorem lw_p79 : lw_okq (⟨"HornBenchModel", "opens", "(Ljava/lang/String;I)Z"⟩, 62) := ⟨⟨by decide +kernel, by decide +kernel⟩, List.mem_of_getElem? (i := 1309) (by decide +kernel), List.mem_of_getElem? (i := 1697) (by decide +kernel), List.mem_of_getElem? (i := 1698) (by decide +kernel)⟩
def lw_privs_5 : List (MethodName × Nat) := [(⟨"HornBench$Pen", "writeOneGoal", "(I)V"⟩, 10), (⟨"HornBenchModel", "no", "(I)I"⟩, 62), (⟨"HornBenchModel", "read", "(I)I"⟩, 62), (⟨"HornBenchModel", "forgetQuestion", "()V"⟩, 62), (⟨"HornBenchModel", "scan", "()V"⟩, 62), (⟨"HornBenchModel", "byteAtTape", "(I)I"⟩, 62), (⟨"HornBenchModel", "symbolAt", "(I)I"⟩, 62), (⟨"HornBenchModel", "programForm", "()Z"⟩, 62), (⟨"HornBenchModel", "clauseForm", "()Z"⟩, 62), (⟨"HornBenchModel", "isName", "(I)Z"⟩, 62), (⟨"HornBenchModel", "which", "(I[Ljava/lang/String;)I"⟩, 62), (⟨"HornBenchModel", "is", "(ILjava/lang/String;)Z"⟩, 62), (⟨"HornBenchModel", "goes", "()Z"⟩, 62), (⟨"HornBenchModel", "sees", "(Ljava/lang/String;)Z"⟩, 62), (⟨"HornBenchModel", "argumentsForm", "(I)Z"⟩, 62), (⟨"HornBenchModel", "opens", "(Ljava/lang/String;I)Z"⟩, 62)]
theorem lw_r5 : ∀ q ∈ lw_privs_5, lw_okq q := List.forall_mem_cons.mpr ⟨lw_p64, List.forall_mem_cons.mpr ⟨lw_p65, List.forall_mem_cons.mpr ⟨lw_p66, List.forall_mem_cons.mpr ⟨lw_p67, List.forall_mem_cons.mpr ⟨lw_p68, List.forall_mem_cons.mpr ⟨lw_p69, List.forall_mem_cons.mpr ⟨lw_p70, List.forall_mem_cons.mpr ⟨lw_p71, List.forall_mem_cons.mpr ⟨lw_p72, List.forall_mem_cons.mpr ⟨lw_p73, List.forall_mem_cons.mpr ⟨lw_p74, List.forall_mem_cons.mpr ⟨lw_p75, List.forall_mem_cons.mpr ⟨lw_p76, List.forall_mem_cons.mpr ⟨lw_p77, List.forall_mem_cons.mpr ⟨lw_p78, List.forall_mem_cons.mpr ⟨lw_p79, fun _ h => absurd h List.not_mem_nil⟩⟩⟩⟩⟩⟩⟩⟩⟩⟩⟩⟩⟩⟩⟩⟩
theorem lw_p80 : lw_okq (⟨"HornBenchModel", "takes", "(Ljava/lang/String;)Z"⟩, 62) := ⟨⟨by decide +kernel, by decide +kernel⟩, List.mem_of_getElem? (i := 1309) (by decide +kernel), List.mem_of_getElem? (i := 1701) (by decide +kernel), List.mem_of_getElem? (i := 1702) (by decide +kernel)⟩
theorem lw_p81 : lw_okq (⟨"HornBenchModel", "termForm", "(I)Z"⟩, 62) := ⟨⟨by decide +kernel, by decide +kernel⟩, List.mem_of_getElem? (i := 1309) (by decide +kernel), List.mem_of_getElem? (i := 1705) (by decide +kernel), List.mem_of_getElem? (i := 1706) (by decide +kernel)⟩
theorem lw_p82 : lw_okq (⟨"HornBenchModel", "productForm", "(I)Z"⟩, 62) := ⟨⟨by decide +kernel, by decide +kernel⟩, List.mem_of_getElem? (i := 1309) (by decide +kernel), List.mem_of_getElem? (i := 1709) (by decide +kernel), List.mem_of_getElem? (i := 1710) (by decide +kernel)⟩
theorem lw_p83 : lw_okq (⟨"HornBenchModel", "simpleForm", "(I)Z"⟩, 62) := ⟨⟨by decide +kernel, by decide +kernel⟩, List.mem_of_getElem? (i := 1309) (by decide +kernel), List.mem_of_getElem? (i := 1713) (by decide +kernel), List.mem_of_getElem? (i := 1714) (by decide +kernel)⟩
theorem lw_p84 : lw_okq (⟨"HornBenchModel", "listForm", "(I)Z"⟩, 62) := ⟨⟨by decide +kernel, by decide +kernel⟩, List.mem_of_getElem? (i := 1309) (by decide +kernel), List.mem_of_getElem? (i := 1720) (by decide +kernel), List.mem_of_getElem? (i := 1721) (by decide +kernel)⟩
theorem lw_p85 : lw_okq (⟨"HornBenchModel", "goalsForm", "(I)Z"⟩, 62) := ⟨⟨by decide +kernel, by decide +kernel⟩, List.mem_of_getElem? (i := 1309) (by decide +kernel), List.mem_of_getElem? (i := 1732) (by decide +kernel), List.mem_of_getElem? (i := 1733) (by decide +kernel)⟩
theorem lw_p86 : lw_okq (⟨"HornBenchModel", "goalForm", "(I)Z"⟩, 62) := ⟨⟨by decide +kernel, by decide +kernel⟩, List.mem_of_getElem? (i := 1309) (by decide +kernel), List.mem_of_getElem? (i := 1736) (by decide +kernel), List.mem_of_getElem? (i := 1737) (by decide +kernel)⟩
theorem lw_p87 : lw_okq (⟨"HornBenchModel", "simpleEnd", "(I)I"⟩, 62) := ⟨⟨by decide +kernel, by decide +kernel⟩, List.mem_of_getElem? (i := 1309) (by decide +kernel), List.mem_of_getElem? (i := 1747) (by decide +kernel), List.mem_of_getElem? (i := 1748) (by decide +kernel)⟩
theorem lw_p88 : lw_okq (⟨"HornBenchModel", "wrong", "(II)I"⟩, 62) := ⟨⟨by decide +kernel, by decide +kernel⟩, List.mem_of_getElem? (i := 1309) (by decide +kernel), List.mem_of_getElem? (i := 1752) (by decide +kernel), List.mem_of_getElem? (i := 1753) (by decide +kernel)⟩
theorem lw_p89 : lw_okq (⟨"HornBenchModel", "over", "(I)V"⟩, 62) := ⟨⟨by decide +kernel, by decide +kernel⟩, List.mem_of_getElem? (i := 1309) (by decide +kernel), List.mem_of_getElem? (i := 1756) (by decide +kernel), List.mem_of_getElem? (i := 1757) (by decide +kernel)⟩
theorem lw_p90 : lw_okq (⟨"HornBenchModel", "named", "(I)I"⟩, 62) := ⟨⟨by decide +kernel, by decide +kernel⟩, List.mem_of_getElem? (i := 1309) (by decide +kernel), List.mem_of_getElem? (i := 1833) (by decide +kernel), List.mem_of_getElem? (i := 1834) (by decide +kernel)⟩
theorem lw_p91 : lw_okq (⟨"HornBenchModel", "term", "()I"⟩, 62) := ⟨⟨by decide +kernel, by decide +kernel⟩, List.mem_of_getElem? (i := 1309) (by decide +kernel), List.mem_of_getElem? (i := 1837) (by decide +kernel), List.mem_of_getElem? (i := 1838) (by decide +kernel)⟩
theorem lw_p92 : lw_okq (⟨"HornBenchModel", "product", "()I"⟩, 62) := ⟨⟨by decide +kernel, by decide +kernel⟩, List.mem_of_getElem? (i := 1309) (by decide +kernel), List.mem_of_getElem? (i := 1841) (by decide +kernel), List.mem_of_getElem? (i := 1842) (by decide +kernel)⟩
theorem lw_p93 : lw_okq (⟨"HornBenchModel", "simple", "()I"⟩, 62) := ⟨⟨by decide +kernel, by decide +kernel⟩, List.mem_of_getElem? (i := 1309) (by decide +kernel), List.mem_of_getElem? (i := 1845) (by decide +kernel), List.mem_of_getElem? (i := 1846) (by decide +kernel)⟩
theorem lw_p94 : lw_okq (⟨"HornBenchModel", "variable", "(I)I"⟩, 62) := ⟨⟨by decide +kernel, by decide +kernel⟩, List.mem_of_getElem? (i := 1309) (by decide +kernel), List.mem_of_getElem? (i := 1849) (by decide +kernel), List.mem_of_getElem? (i := 1850) (by decide +kernel)⟩
theorem lw_p95 : lw_okq (⟨"HornBenchModel", "nameOf", "(I)J"⟩, 62) := ⟨⟨by decide +kernel, by decide +kernel⟩, List.mem_of_getElem? (i := 1309) (by decide +kernel), List.mem_of_getElem? (i := 1853) (by decide +kernel), List.mem_of_getElem? (i := 1854) (by decide +kernel)⟩
def lw_privs_6 : List (MethodName × Nat) := [(⟨"HornBenchModel", "takes", "(Ljava/lang/String;)Z"⟩, 62), (⟨"HornBenchModel", "termForm", "(I)Z"⟩, 62), (⟨"HornBenchModel", "productForm", "(I)Z"⟩, 62), (⟨"HornBenchModel", "simpleForm", "(I)Z"⟩, 62), (⟨"HornBenchModel", "listForm", "(I)Z"⟩, 62), (⟨"HornBenchModel", "goalsForm", "(I)Z"⟩, 62), (⟨"HornBenchModel", "goalForm", "(I)Z"⟩, 62), (⟨"HornBenchModel", "simpleEnd", "(I)I"⟩, 62), (⟨"HornBenchModel", "wrong", "(II)I"⟩, 62), (⟨"HornBenchModel", "over", "(I)V"⟩, 62), (⟨"HornBenchModel", "named", "(I)I"⟩, 62), (⟨"HornBenchModel", "term", "()I"⟩, 62), (⟨"HornBenchModel", "product", "()I"⟩, 62), (⟨"HornBenchModel", "simple", "()I"⟩, 62), (⟨"HornBenchModel", "variable", "(I)I"⟩, 62), (⟨"HornBenchModel", "nameOf", "(I)J"⟩, 62)]
theorem lw_r6 : ∀ q ∈ lw_privs_6, lw_okq q := List.forall_mem_cons.mpr ⟨lw_p80, List.forall_mem_cons.mpr ⟨lw_p81, List.forall_mem_cons.mpr ⟨lw_p82, List.forall_mem_cons.mpr ⟨lw_p83, List.forall_mem_cons.mpr ⟨lw_p84, List.forall_mem_cons.mpr ⟨lw_p85, List.forall_mem_cons.mpr ⟨lw_p86, List.forall_mem_cons.mpr ⟨lw_p87, List.forall_mem_cons.mpr ⟨lw_p88, List.forall_mem_cons.mpr ⟨lw_p89, List.forall_mem_cons.mpr ⟨lw_p90, List.forall_mem_cons.mpr ⟨lw_p91, List.forall_mem_cons.mpr ⟨lw_p92, List.forall_mem_cons.mpr ⟨lw_p93, List.forall_mem_cons.mpr ⟨lw_p94, List.forall_mem_cons.mpr ⟨lw_p95, fun _ h => absurd h List.not_mem_nil⟩⟩⟩⟩⟩⟩⟩⟩⟩⟩⟩⟩⟩⟩⟩⟩
theorem lw_p96 : lw_okq (⟨"HornBenchModel", "part", "(IJI)I"⟩, 62) := ⟨⟨by decide +kernel, by decide +kernel⟩, List.mem_of_getElem? (i := 1309) (by decide +kernel), List.mem_of_getElem? (i := 1859) (by decide +kernel), List.mem_of_getElem? (i := 1860) (by decide +kernel)⟩
theorem lw_p97 : lw_okq (⟨"HornBenchModel", "numberOf", "(I)I"⟩, 62) := ⟨⟨by decide +kernel, by decide +kernel⟩, List.mem_of_getElem? (i := 1309) (by decide +kernel), List.mem_of_getElem? (i := 1863) (by decide +kernel), List.mem_of_getElem? (i := 1864) (by decide +kernel)⟩
theorem lw_p98 : lw_okq (⟨"HornBenchModel", "list", "()I"⟩, 62) := ⟨⟨by decide +kernel, by decide +kernel⟩, List.mem_of_getElem? (i := 1309) (by decide +kernel), List.mem_of_getElem? (i := 1867) (by decide +kernel), List.mem_of_getElem? (i := 1868) (by decide +kernel)⟩
theorem lw_p99 : lw_okq (⟨"HornBenchModel", "pair", "(JII)I"⟩, 62) := ⟨⟨by decide +kernel, by decide +kernel⟩, List.mem_of_getElem? (i := 1309) (by decide +kernel), List.mem_of_getElem? (i := 1873) (by decide +kernel), List.mem_of_getElem? (i := 1874) (by decide +kernel)⟩
theorem lw_p100 : lw_okq (⟨"HornBenchModel", "goals", "()I"⟩, 62) := ⟨⟨by decide +kernel, by decide +kernel⟩, List.mem_of_getElem? (i := 1309) (by decide +kernel), List.mem_of_getElem? (i := 1881) (by decide +kernel), List.mem_of_getElem? (i := 1882) (by decide +kernel)⟩
theorem lw_p101 : lw_okq (⟨"HornBenchModel", "goal", "()I"⟩, 62) := ⟨⟨by decide +kernel, by decide +kernel⟩, List.mem_of_getElem? (i := 1309) (by decide +kernel), List.mem_of_getElem? (i := 1885) (by decide +kernel), List.mem_of_getElem? (i := 1886) (by decide +kernel)⟩
theorem lw_p102 : lw_okq (⟨"HornBenchModel", "counted", "(I)I"⟩, 62) := ⟨⟨by decide +kernel, by decide +kernel⟩, List.mem_of_getElem? (i := 1309) (by decide +kernel), List.mem_of_getElem? (i := 1905) (by decide +kernel), List.mem_of_getElem? (i := 1906) (by decide +kernel)⟩
theorem lw_p103 : lw_okq (⟨"HornBenchModel", "predicates", "()I"⟩, 62) := ⟨⟨by decide +kernel, by decide +kernel⟩, List.mem_of_getElem? (i := 1309) (by decide +kernel), List.mem_of_getElem? (i := 1909) (by decide +kernel), List.mem_of_getElem? (i := 1910) (by decide +kernel)⟩
theorem lw_p104 : lw_okq (⟨"HornBenchModel", "goalsLeft", "()I"⟩, 62) := ⟨⟨by decide +kernel, by decide +kernel⟩, List.mem_of_getElem? (i := 1309) (by decide +kernel), List.mem_of_getElem? (i := 1922) (by decide +kernel), List.mem_of_getElem? (i := 1923) (by decide +kernel)⟩
theorem lw_p105 : lw_okq (⟨"HornBenchModel", "clauseTold", "(II)I"⟩, 62) := ⟨⟨by decide +kernel, by decide +kernel⟩, List.mem_of_getElem? (i := 1309) (by decide +kernel), List.mem_of_getElem? (i := 1930) (by decide +kernel), List.mem_of_getElem? (i := 1931) (by decide +kernel)⟩
theorem lw_p106 : lw_okq (⟨"HornBenchModel", "questionForm", "()Z"⟩, 62) := ⟨⟨by decide +kernel, by decide +kernel⟩, List.mem_of_getElem? (i := 1309) (by decide +kernel), List.mem_of_getElem? (i := 1938) (by decide +kernel), List.mem_of_getElem? (i := 1939) (by decide +kernel)⟩
theorem lw_p107 : lw_okq (⟨"HornBenchModel", "cell", "(IJI)I"⟩, 62) := ⟨⟨by decide +kernel, by decide +kernel⟩, List.mem_of_getElem? (i := 1309) (by decide +kernel), List.mem_of_getElem? (i := 1942) (by decide +kernel), List.mem_of_getElem? (i := 1943) (by decide +kernel)⟩
theorem lw_p108 : lw_okq (⟨"HornBenchModel", "rowOf", "(LHornBenchModel$Clause;I[III)I"⟩, 62) := ⟨⟨by decide +kernel, by decide +kernel⟩, List.mem_of_getElem? (i := 1309) (by decide +kernel), List.mem_of_getElem? (i := 1953) (by decide +kernel), List.mem_of_getElem? (i := 1954) (by decide +kernel)⟩
theorem lw_p109 : lw_okq (⟨"HornBenchModel", "rowCell", "(III)I"⟩, 62) := ⟨⟨by decide +kernel, by decide +kernel⟩, List.mem_of_getElem? (i := 1309) (by decide +kernel), List.mem_of_getElem? (i := 1957) (by decide +kernel), List.mem_of_getElem? (i := 1958) (by decide +kernel)⟩
theorem lw_p110 : lw_okq (⟨"HornBenchModel", "laid", "(LHornBenchModel$Clause;I[I)I"⟩, 62) := ⟨⟨by decide +kernel, by decide +kernel⟩, List.mem_of_getElem? (i := 1309) (by decide +kernel), List.mem_of_getElem? (i := 1961) (by decide +kernel), List.mem_of_getElem? (i := 1962) (by decide +kernel)⟩
theorem lw_p111 : lw_okq (⟨"HornBenchModel", "settle", "(Z)V"⟩, 62) := ⟨⟨by decide +kernel, by decide +kernel⟩, List.mem_of_getElem? (i := 1309) (by decide +kernel), List.mem_of_getElem? (i := 1969) (by decide +kernel), List.mem_of_getElem? (i := 1970) (by decide +kernel)⟩
def lw_privs_7 : List (MethodName × Nat) := [(⟨"HornBenchModel", "part", "(IJI)I"⟩, 62), (⟨"HornBenchModel", "numberOf", "(I)I"⟩, 62), (⟨"HornBenchModel", "list", "()I"⟩, 62), (⟨"HornBenchModel", "pair", "(JII)I"⟩, 62), (⟨"HornBenchModel", "goals", "()I"⟩, 62), (⟨"HornBenchModel", "goal", "()I"⟩, 62), (⟨"HornBenchModel", "counted", "(I)I"⟩, 62), (⟨"HornBenchModel", "predicates", "()I"⟩, 62), (⟨"HornBenchModel", "goalsLeft", "()I"⟩, 62), (⟨"HornBenchModel", "clauseTold", "(II)I"⟩, 62), (⟨"HornBenchModel", "questionForm", "()Z"⟩, 62), (⟨"HornBenchModel", "cell", "(IJI)I"⟩, 62), (⟨"HornBenchModel", "rowOf", "(LHornBenchModel$Clause;I[III)I"⟩, 62), (⟨"HornBenchModel", "rowCell", "(III)I"⟩, 62), (⟨"HornBenchModel", "laid", "(LHornBenchModel$Clause;I[I)I"⟩, 62), (⟨"HornBenchModel", "settle", "(Z)V"⟩, 62)]
theorem lw_r7 : ∀ q ∈ lw_privs_7, lw_okq q := List.forall_mem_cons.mpr ⟨lw_p96, List.forall_mem_cons.mpr ⟨lw_p97, List.forall_mem_cons.mpr ⟨lw_p98, List.forall_mem_cons.mpr ⟨lw_p99, List.forall_mem_cons.mpr ⟨lw_p100, List.forall_mem_cons.mpr ⟨lw_p101, List.forall_mem_cons.mpr ⟨lw_p102, List.forall_mem_cons.mpr ⟨lw_p103, List.forall_mem_cons.mpr ⟨lw_p104, List.forall_mem_cons.mpr ⟨lw_p105, List.forall_mem_cons.mpr ⟨lw_p106, List.forall_mem_cons.mpr ⟨lw_p107, List.forall_mem_cons.mpr ⟨lw_p108, List.forall_mem_cons.mpr ⟨lw_p109, List.forall_mem_cons.mpr ⟨lw_p110, List.forall_mem_cons.mpr ⟨lw_p111, fun _ h => absurd h List.not_mem_nil⟩⟩⟩⟩⟩⟩⟩⟩⟩⟩⟩⟩⟩⟩⟩⟩
theorem lw_p112 : lw_okq (⟨"HornBenchModel", "undo", "(I)V"⟩, 62) := ⟨⟨by decide +kernel, by decide +kernel⟩, List.mem_of_getElem? (i := 1309) (by decide +kernel), List.mem_of_getElem? (i := 1973) (by decide +kernel), List.mem_of_getElem? (i := 1974) (by decide +kernel)⟩
theorem lw_p113 : lw_okq (⟨"HornBenchModel", "canGoOn", "()Z"⟩, 62) := ⟨⟨by decide +kernel, by decide +kernel⟩, List.mem_of_getElem? (i := 1309) (by decide +kernel), List.mem_of_getElem? (i := 1977) (by decide +kernel), List.mem_of_getElem? (i := 1978) (by decide +kernel)⟩
theorem lw_p114 : lw_okq (⟨"HornBenchModel", "heads", "(II)Z"⟩, 62) := ⟨⟨by decide +kernel, by decide +kernel⟩, List.mem_of_getElem? (i := 1309) (by decide +kernel), List.mem_of_getElem? (i := 1981) (by decide +kernel), List.mem_of_getElem? (i := 1982) (by decide +kernel)⟩
theorem lw_p115 : lw_okq (⟨"HornBenchModel", "unify", "(II)Z"⟩, 62) := ⟨⟨by decide +kernel, by decide +kernel⟩, List.mem_of_getElem? (i := 1309) (by decide +kernel), List.mem_of_getElem? (i := 1985) (by decide +kernel), List.mem_of_getElem? (i := 1986) (by decide +kernel)⟩
theorem lw_p116 : lw_okq (⟨"HornBenchModel", "areOne", "(IIZ)Z"⟩, 62) := ⟨⟨by decide +kernel, by decide +kernel⟩, List.mem_of_getElem? (i := 1309) (by decide +kernel), List.mem_of_getElem? (i := 1989) (by decide +kernel), List.mem_of_getElem? (i := 1990) (by decide +kernel)⟩
theorem lw_p117 : lw_okq (⟨"HornBenchModel", "end", "(I)I"⟩, 62) := ⟨⟨by decide +kernel, by decide +kernel⟩, List.mem_of_getElem? (i := 1309) (by decide +kernel), List.mem_of_getElem? (i := 1993) (by decide +kernel), List.mem_of_getElem? (i := 1994) (by decide +kernel)⟩
theorem lw_p118 : lw_okq (⟨"HornBenchModel", "leader", "(I)I"⟩, 62) := ⟨⟨by decide +kernel, by decide +kernel⟩, List.mem_of_getElem? (i := 1309) (by decide +kernel), List.mem_of_getElem? (i := 1997) (by decide +kernel), List.mem_of_getElem? (i := 1998) (by decide +kernel)⟩
theorem lw_p119 : lw_okq (⟨"HornBenchModel", "standsIn", "(II)Z"⟩, 62) := ⟨⟨by decide +kernel, by decide +kernel⟩, List.mem_of_getElem? (i := 1309) (by decide +kernel), List.mem_of_getElem? (i := 2001) (by decide +kernel), List.mem_of_getElem? (i := 2002) (by decide +kernel)⟩
theorem lw_p120 : lw_okq (⟨"HornBenchModel", "argument", "(II)I"⟩, 62) := ⟨⟨by decide +kernel, by decide +kernel⟩, List.mem_of_getElem? (i := 1309) (by decide +kernel), List.mem_of_getElem? (i := 2005) (by decide +kernel), List.mem_of_getElem? (i := 2006) (by decide +kernel)⟩
theorem lw_p121 : lw_okq (⟨"HornBenchModel", "bind", "(II)V"⟩, 62) := ⟨⟨by decide +kernel, by decide +kernel⟩, List.mem_of_getElem? (i := 1309) (by decide +kernel), List.mem_of_getElem? (i := 2009) (by decide +kernel), List.mem_of_getElem? (i := 2010) (by decide +kernel)⟩
theorem lw_p122 : lw_okq (⟨"HornBenchModel", "join", "(II)V"⟩, 62) := ⟨⟨by decide +kernel, by decide +kernel⟩, List.mem_of_getElem? (i := 1309) (by decide +kernel), List.mem_of_getElem? (i := 2013) (by decide +kernel), List.mem_of_getElem? (i := 2014) (by decide +kernel)⟩
theorem lw_p123 : lw_okq (⟨"HornBenchModel", "nextOf", "(II)I"⟩, 62) := ⟨⟨by decide +kernel, by decide +kernel⟩, List.mem_of_getElem? (i := 1309) (by decide +kernel), List.mem_of_getElem? (i := 2017) (by decide +kernel), List.mem_of_getElem? (i := 2018) (by decide +kernel)⟩
theorem lw_p124 : lw_okq (⟨"HornBenchModel", "isOf", "(II)Z"⟩, 62) := ⟨⟨by decide +kernel, by decide +kernel⟩, List.mem_of_getElem? (i := 1309) (by decide +kernel), List.mem_of_getElem? (i := 2021) (by decide +kernel), List.mem_of_getElem? (i := 2022) (by decide +kernel)⟩
theorem lw_p125 : lw_okq (⟨"HornBenchModel", "step", "()V"⟩, 62) := ⟨⟨by decide +kernel, by decide +kernel⟩, List.mem_of_getElem? (i := 1309) (by decide +kernel), List.mem_of_getElem? (i := 2025) (by decide +kernel), List.mem_of_getElem? (i := 2026) (by decide +kernel)⟩
theorem lw_p126 : lw_okq (⟨"HornBenchModel", "goOn", "()V"⟩, 62) := ⟨⟨by decide +kernel, by decide +kernel⟩, List.mem_of_getElem? (i := 1309) (by decide +kernel), List.mem_of_getElem? (i := 2029) (by decide +kernel), List.mem_of_getElem? (i := 2030) (by decide +kernel)⟩
theorem lw_p127 : lw_okq (⟨"HornBenchModel", "use", "(III)V"⟩, 62) := ⟨⟨by decide +kernel, by decide +kernel⟩, List.mem_of_getElem? (i := 1309) (by decide +kernel), List.mem_of_getElem? (i := 2033) (by decide +kernel), List.mem_of_getElem? (i := 2034) (by decide +kernel)⟩
def lw_privs_8 : List (MethodName × Nat) := [(⟨"HornBenchModel", "undo", "(I)V"⟩, 62), (⟨"HornBenchModel", "canGoOn", "()Z"⟩, 62), (⟨"HornBenchModel", "heads", "(II)Z"⟩, 62), (⟨"HornBenchModel", "unify", "(II)Z"⟩, 62), (⟨"HornBenchModel", "areOne", "(IIZ)Z"⟩, 62), (⟨"HornBenchModel", "end", "(I)I"⟩, 62), (⟨"HornBenchModel", "leader", "(I)I"⟩, 62), (⟨"HornBenchModel", "standsIn", "(II)Z"⟩, 62), (⟨"HornBenchModel", "argument", "(II)I"⟩, 62), (⟨"HornBenchModel", "bind", "(II)V"⟩, 62), (⟨"HornBenchModel", "join", "(II)V"⟩, 62), (⟨"HornBenchModel", "nextOf", "(II)I"⟩, 62), (⟨"HornBenchModel", "isOf", "(II)Z"⟩, 62), (⟨"HornBenchModel", "step", "()V"⟩, 62), (⟨"HornBenchModel", "goOn", "()V"⟩, 62), (⟨"HornBenchModel", "use", "(III)V"⟩, 62)]
theorem lw_r8 : ∀ q ∈ lw_privs_8, lw_okq q := List.forall_mem_cons.mpr ⟨lw_p112, List.forall_mem_cons.mpr ⟨lw_p113, List.forall_mem_cons.mpr ⟨lw_p114, List.forall_mem_cons.mpr ⟨lw_p115, List.forall_mem_cons.mpr ⟨lw_p116, List.forall_mem_cons.mpr ⟨lw_p117, List.forall_mem_cons.mpr ⟨lw_p118, List.forall_mem_cons.mpr ⟨lw_p119, List.forall_mem_cons.mpr ⟨lw_p120, List.forall_mem_cons.mpr ⟨lw_p121, List.forall_mem_cons.mpr ⟨lw_p122, List.forall_mem_cons.mpr ⟨lw_p123, List.forall_mem_cons.mpr ⟨lw_p124, List.forall_mem_cons.mpr ⟨lw_p125, List.forall_mem_cons.mpr ⟨lw_p126, List.forall_mem_cons.mpr ⟨lw_p127, fun _ h => absurd h List.not_mem_nil⟩⟩⟩⟩⟩⟩⟩⟩⟩⟩⟩⟩⟩⟩⟩⟩
theorem lw_p128 : lw_okq (⟨"HornBenchModel", "done", "(I)Z"⟩, 62) := ⟨⟨by decide +kernel, by decide +kernel⟩, List.mem_of_getElem? (i := 1309) (by decide +kernel), List.mem_of_getElem? (i := 2037) (by decide +kernel), List.mem_of_getElem? (i := 2038) (by decide +kernel)⟩
theorem lw_p129 : lw_okq (⟨"HornBenchModel", "call", "(I)Z"⟩, 62) := ⟨⟨by decide +kernel, by decide +kernel⟩, List.mem_of_getElem? (i := 1309) (by decide +kernel), List.mem_of_getElem? (i := 2041) (by decide +kernel), List.mem_of_getElem? (i := 2042) (by decide +kernel)⟩
theorem lw_p130 : lw_okq (⟨"HornBenchModel", "choose", "(ZIIIIII)V"⟩, 62) := ⟨⟨by decide +kernel, by decide +kernel⟩, List.mem_of_getElem? (i := 1309) (by decide +kernel), List.mem_of_getElem? (i := 2045) (by decide +kernel), List.mem_of_getElem? (i := 2046) (by decide +kernel)⟩
theorem lw_p131 : lw_okq (⟨"HornBenchModel", "innerRow", "(III)I"⟩, 62) := ⟨⟨by decide +kernel, by decide +kernel⟩, List.mem_of_getElem? (i := 1309) (by decide +kernel), List.mem_of_getElem? (i := 2049) (by decide +kernel), List.mem_of_getElem? (i := 2050) (by decide +kernel)⟩
theorem lw_p132 : lw_okq (⟨"HornBenchModel", "isSameNow", "(II)Z"⟩, 62) := ⟨⟨by decide +kernel, by decide +kernel⟩, List.mem_of_getElem? (i := 1309) (by decide +kernel), List.mem_of_getElem? (i := 2053) (by decide +kernel), List.mem_of_getElem? (i := 2054) (by decide +kernel)⟩
theorem lw_p133 : lw_okq (⟨"HornBenchModel", "value", "(I)I"⟩, 62) := ⟨⟨by decide +kernel, by decide +kernel⟩, List.mem_of_getElem? (i := 1309) (by decide +kernel), List.mem_of_getElem? (i := 2057) (by decide +kernel), List.mem_of_getElem? (i := 2058) (by decide +kernel)⟩
theorem lw_p134 : lw_okq (⟨"HornBenchModel", "worth", "(II)I"⟩, 62) := ⟨⟨by decide +kernel, by decide +kernel⟩, List.mem_of_getElem? (i := 1309) (by decide +kernel), List.mem_of_getElem? (i := 2061) (by decide +kernel), List.mem_of_getElem? (i := 2062) (by decide +kernel)⟩
theorem lw_p135 : lw_okq (⟨"HornBenchModel", "keep", "(III)I"⟩, 62) := ⟨⟨by decide +kernel, by decide +kernel⟩, List.mem_of_getElem? (i := 1309) (by decide +kernel), List.mem_of_getElem? (i := 2065) (by decide +kernel), List.mem_of_getElem? (i := 2066) (by decide +kernel)⟩
theorem lw_p136 : lw_okq (⟨"HornBenchModel", "fault", "()I"⟩, 62) := ⟨⟨by decide +kernel, by decide +kernel⟩, List.mem_of_getElem? (i := 1309) (by decide +kernel), List.mem_of_getElem? (i := 2069) (by decide +kernel), List.mem_of_getElem? (i := 2070) (by decide +kernel)⟩
theorem lw_p137 : lw_okq (⟨"HornBenchModel", "compared", "(III)Z"⟩, 62) := ⟨⟨by decide +kernel, by decide +kernel⟩, List.mem_of_getElem? (i := 1309) (by decide +kernel), List.mem_of_getElem? (i := 2073) (by decide +kernel), List.mem_of_getElem? (i := 2074) (by decide +kernel)⟩
theorem lw_p138 : lw_okq (⟨"HornBenchModel", "isVariable", "(I)Z"⟩, 62) := ⟨⟨by decide +kernel, by decide +kernel⟩, List.mem_of_getElem? (i := 1309) (by decide +kernel), List.mem_of_getElem? (i := 2085) (by decide +kernel), List.mem_of_getElem? (i := 2086) (by decide +kernel)⟩
theorem lw_p139 : lw_okq (⟨"HornBenchModel", "putTerm", "(IZ)V"⟩, 62) := ⟨⟨by decide +kernel, by decide +kernel⟩, List.mem_of_getElem? (i := 1309) (by decide +kernel), List.mem_of_getElem? (i := 2089) (by decide +kernel), List.mem_of_getElem? (i := 2090) (by decide +kernel)⟩
theorem lw_p140 : lw_okq (⟨"HornBenchModel", "isFull", "()Z"⟩, 62) := ⟨⟨by decide +kernel, by decide +kernel⟩, List.mem_of_getElem? (i := 1309) (by decide +kernel), List.mem_of_getElem? (i := 2093) (by decide +kernel), List.mem_of_getElem? (i := 2094) (by decide +kernel)⟩
theorem lw_p141 : lw_okq (⟨"HornBenchModel", "putNumber", "(J)V"⟩, 62) := ⟨⟨by decide +kernel, by decide +kernel⟩, List.mem_of_getElem? (i := 1309) (by decide +kernel), List.mem_of_getElem? (i := 2097) (by decide +kernel), List.mem_of_getElem? (i := 2098) (by decide +kernel)⟩
theorem lw_p142 : lw_okq (⟨"HornBenchModel", "put", "(I)V"⟩, 62) := ⟨⟨by decide +kernel, by decide +kernel⟩, List.mem_of_getElem? (i := 1309) (by decide +kernel), List.mem_of_getElem? (i := 2101) (by decide +kernel), List.mem_of_getElem? (i := 2102) (by decide +kernel)⟩
theorem lw_p143 : lw_okq (⟨"HornBenchModel", "putDigits", "(J)V"⟩, 62) := ⟨⟨by decide +kernel, by decide +kernel⟩, List.mem_of_getElem? (i := 1309) (by decide +kernel), List.mem_of_getElem? (i := 2110) (by decide +kernel), List.mem_of_getElem? (i := 2111) (by decide +kernel)⟩
def lw_privs_9 : List (MethodName × Nat) := [(⟨"HornBenchModel", "done", "(I)Z"⟩, 62), (⟨"HornBenchModel", "call", "(I)Z"⟩, 62), (⟨"HornBenchModel", "choose", "(ZIIIIII)V"⟩, 62), (⟨"HornBenchModel", "innerRow", "(III)I"⟩, 62), (⟨"HornBenchModel", "isSameNow", "(II)Z"⟩, 62), (⟨"HornBenchModel", "value", "(I)I"⟩, 62), (⟨"HornBenchModel", "worth", "(II)I"⟩, 62), (⟨"HornBenchModel", "keep", "(III)I"⟩, 62), (⟨"HornBenchModel", "fault", "()I"⟩, 62), (⟨"HornBenchModel", "compared", "(III)Z"⟩, 62), (⟨"HornBenchModel", "isVariable", "(I)Z"⟩, 62), (⟨"HornBenchModel", "putTerm", "(IZ)V"⟩, 62), (⟨"HornBenchModel", "isFull", "()Z"⟩, 62), (⟨"HornBenchModel", "putNumber", "(J)V"⟩, 62), (⟨"HornBenchModel", "put", "(I)V"⟩, 62), (⟨"HornBenchModel", "putDigits", "(J)V"⟩, 62)]
theorem lw_r9 : ∀ q ∈ lw_privs_9, lw_okq q := List.forall_mem_cons.mpr ⟨lw_p128, List.forall_mem_cons.mpr ⟨lw_p129, List.forall_mem_cons.mpr ⟨lw_p130, List.forall_mem_cons.mpr ⟨lw_p131, List.forall_mem_cons.mpr ⟨lw_p132, List.forall_mem_cons.mpr ⟨lw_p133, List.forall_mem_cons.mpr ⟨lw_p134, List.forall_mem_cons.mpr ⟨lw_p135, List.forall_mem_cons.mpr ⟨lw_p136, List.forall_mem_cons.mpr ⟨lw_p137, List.forall_mem_cons.mpr ⟨lw_p138, List.forall_mem_cons.mpr ⟨lw_p139, List.forall_mem_cons.mpr ⟨lw_p140, List.forall_mem_cons.mpr ⟨lw_p141, List.forall_mem_cons.mpr ⟨lw_p142, List.forall_mem_cons.mpr ⟨lw_p143, fun _ h => absurd h List.not_mem_nil⟩⟩⟩⟩⟩⟩⟩⟩⟩⟩⟩⟩⟩⟩⟩⟩
theorem lw_p144 : lw_okq (⟨"HornBenchModel", "putFree", "(I)V"⟩, 62) := ⟨⟨by decide +kernel, by decide +kernel⟩, List.mem_of_getElem? (i := 1309) (by decide +kernel), List.mem_of_getElem? (i := 2115) (by decide +kernel), List.mem_of_getElem? (i := 2116) (by decide +kernel)⟩
theorem lw_p145 : lw_okq (⟨"HornBenchModel", "put", "(Ljava/lang/String;)V"⟩, 62) := ⟨⟨by decide +kernel, by decide +kernel⟩, List.mem_of_getElem? (i := 1309) (by decide +kernel), List.mem_of_getElem? (i := 2120) (by decide +kernel), List.mem_of_getElem? (i := 2121) (by decide +kernel)⟩
theorem lw_p146 : lw_okq (⟨"HornBenchModel", "putName", "(J)V"⟩, 62) := ⟨⟨by decide +kernel, by decide +kernel⟩, List.mem_of_getElem? (i := 1309) (by decide +kernel), List.mem_of_getElem? (i := 2130) (by decide +kernel), List.mem_of_getElem? (i := 2131) (by decide +kernel)⟩
theorem lw_p147 : lw_okq (⟨"HornBenchModel", "kept", "([II)I"⟩, 62) := ⟨⟨by decide +kernel, by decide +kernel⟩, List.mem_of_getElem? (i := 1309) (by decide +kernel), List.mem_of_getElem? (i := 2134) (by decide +kernel), List.mem_of_getElem? (i := 2135) (by decide +kernel)⟩
theorem lw_p148 : lw_okq (⟨"HornBenchModel", "putGoal", "(I)V"⟩, 62) := ⟨⟨by decide +kernel, by decide +kernel⟩, List.mem_of_getElem? (i := 1309) (by decide +kernel), List.mem_of_getElem? (i := 2145) (by decide +kernel), List.mem_of_getElem? (i := 2146) (by decide +kernel)⟩
def lw_privs_10 : List (MethodName × Nat) := [(⟨"HornBenchModel", "putFree", "(I)V"⟩, 62), (⟨"HornBenchModel", "put", "(Ljava/lang/String;)V"⟩, 62), (⟨"HornBenchModel", "putName", "(J)V"⟩, 62), (⟨"HornBenchModel", "kept", "([II)I"⟩, 62), (⟨"HornBenchModel", "putGoal", "(I)V"⟩, 62)]
theorem lw_r10 : ∀ q ∈ lw_privs_10, lw_okq q := List.forall_mem_cons.mpr ⟨lw_p144, List.forall_mem_cons.mpr ⟨lw_p145, List.forall_mem_cons.mpr ⟨lw_p146, List.forall_mem_cons.mpr ⟨lw_p147, List.forall_mem_cons.mpr ⟨lw_p148, fun _ h => absurd h List.not_mem_nil⟩⟩⟩⟩⟩
def lw_privs : List (MethodName × Nat) := lw_privs_1 ++ (lw_privs_2 ++ (lw_privs_3 ++ (lw_privs_4 ++ (lw_privs_5 ++ (lw_privs_6 ++ (lw_privs_7 ++ (lw_privs_8 ++ (lw_privs_9 ++ (lw_privs_10)))))))))
def lw_tbl : List Cond := k2_sels lw_privs ++ tables_1
theorem lw_privs_ok : ∀ q ∈ lw_privs, lw_okq q := by
  show ∀ q ∈ lw_privs_1 ++ (lw_privs_2 ++ (lw_privs_3 ++ (lw_privs_4 ++ (lw_privs_5 ++ (lw_privs_6 ++ (lw_privs_7 ++ (lw_privs_8 ++ (lw_privs_9 ++ (lw_privs_10))))))))), lw_okq q
  exact List.forall_mem_append.mpr ⟨lw_r1, List.forall_mem_append.mpr ⟨lw_r2, List.forall_mem_append.mpr ⟨lw_r3, List.forall_mem_append.mpr ⟨lw_r4, List.forall_mem_append.mpr ⟨lw_r5, List.forall_mem_append.mpr ⟨lw_r6, List.forall_mem_append.mpr ⟨lw_r7, List.forall_mem_append.mpr ⟨lw_r8, List.forall_mem_append.mpr ⟨lw_r9, lw_r10⟩⟩⟩⟩⟩⟩⟩⟩⟩
/-- the streams that the claim lets the run draw from -/
abbrev lw_cs : List Choice := [Jvm.Choice.named "NaN.bits"]
theorem lw_bits : nanBits ∈ lw_cs := by first | decide | exact List.mem_cons_self | simp [lw_cs, nanBits]
end
section
/-! ===== BEGIN words of one list among another's, by their places ===== -/
theorem goodIn_r {big : List Cond} (ws : List Cond) (ps : List Nat) (hp : ws = ps.filterMap (fun i => big[i]?)) (h : ws.all goodWord = true) : GoodIn big ws := by
  intro w hw
  have h1 := List.all_eq_true.mp h w hw
  rw [hp] at hw
  obtain ⟨i, -, hi⟩ := List.mem_filterMap.mp hw
  have hm : w ∈ big := by first | exact List.mem_of_getElem? hi | exact List.getElem?_mem hi
  exact ⟨hm, good_of_word h1⟩
theorem goodIn_app {big a b : List Cond} (ha : GoodIn big a) (hb : GoodIn big b) : GoodIn big (a ++ b) := fun w h => (List.mem_append.mp h).elim (ha w) (hb w)
theorem goodIn_ca {big a b : List Cond} {c : Cond} (ha : GoodIn big (c :: a)) (hb : GoodIn big b) : GoodIn big (c :: (a ++ b)) := fun w h => (List.mem_cons.mp h).elim (fun e => ha w (List.mem_cons.mpr (Or.inl e))) (fun h => (List.mem_append.mp h).elim (fun h => ha w (List.mem_cons.mpr (Or.inr h))) (hb w))
theorem goodIn_sub {big ws : List Cond} (hm : ∀ w ∈ ws, w ∈ big) (h : ws.all goodWord = true) : GoodIn big ws := fun w hw => ⟨hm w hw, good_of_word (List.all_eq_true.mp h w hw)⟩
/-! ===== END ===== -/

/-! ===== BEGIN exceptions that leave a method, and their catching by the caller (launches without stack traces) ===== -/
section VXA
/-! The laws vx_back, vx_callV, vx_callS, vx_callSW, vx_throw0, vx_throwS follow proofs of the library, with one case more: JvmDerived/Free/Laws.lean (Back.of_free), Shelf42/LK1.lean (callV, callS), Shelf/KitTraced.lean (throwNew0V, throwNewS). -/
/-- where a method has thrown q: the class by its name, the cell, what was written, the world -/
def vx_T (XC : String → State → State → Prop) (st : State) (q : Addr) (t : State) (mc ms : Nat) (free : Addr → Prop) : Prop :=
  ∃ (E : String) (ce : Cell) (L : List Loc), XC E st t ∧ t.heap[q]? = some ce ∧ ce.vm = .none ∧ st.vm.findClass E = some ce.cls ∧ st.WarmedH t.vm ∧ st.sameButNew ({ t with vm := st.vm } : State) L mc ms ∧ ∀ z ∈ L, free z.base
def vx_Q (Qc : Array Value → State → Outcome → State → Prop) (XC : String → State → State → Prop) (mc ms : Nat) (free : Addr → Prop) : Array Value → State → Outcome → State → Prop := fun a st o t =>
  (Qc a st o t ∧ ∃ L, FrameEnd st o t L mc ms ∧ ∀ q ∈ L, free q.base) ∨ ∃ q, o = .threw q ∧ vx_T XC st q t mc ms free
/-- a callee that returns or throws -/
def vx_Met (l : Launch) (y : MethodName) (ws : List Cond) (rm : Room) (Pc : Array Value → State → Prop) (Qc : Array Value → State → Outcome → State → Prop) (XC : String → State → State → Prop) (mc ms : Nat) (free : Addr → Prop) : Prop :=
  MetFree l y (headSpec ws rm) Pc (fun _ _ _ _ _ => True) (vx_Q Qc XC mc ms free)
def vx_Post (XC : String → State → State → Prop) (mc ms : Nat) (free : Addr → Prop) : Pt → Array Value → Addr → Pt → Prop := fun A a q B =>
  ∃ (g : JFrame) (mk : MethodId) (t : State) (L : List Loc) (E : String) (ce : Cell), B.U.heap = t.heap ∧ B.U.vm = t.vm ∧ XC E (A.U.calling g mk a) t ∧ t.heap[q]? = some ce ∧ ce.vm = .none ∧ A.U.vm.findClass E = some ce.cls ∧ B.locs = A.locs ++ L ∧ (∀ z ∈ L, free z.base) ∧ B.cells = A.cells + mc ∧ B.slots = A.slots + ms
def vx_Back (l : Launch) (R : Room) (p : Program) (e : Env) (below : List Frame) (s : State) (sargs : Array Value) (y : MethodName) (len W9 : Nat)
    (Pre : Pt → Array Value → Prop) (Post : Pt → Array Value → Option Value → Pt → Prop) (PostX : Pt → Array Value → Addr → Pt → Prop) : Prop :=
  ∀ (m : MethodId) (meth : Method) (c : Code) (A : Pt) (g : JFrame) (ig : Instr) (mk : MethodId) (a : Array Value),
    Stand p l e R s m sargs below meth c A.U A.locs A.cells A.slots → g.method = m → g.locals.size = c.maxLocals → decode c.code g.pc = .ok (ig, len) →
    2 * g.monitorRoom + (g.stack.map fun v => v.category).sum ≤ W9 → A.U.methodNamed? y = some mk → Pre A a →
    (∃ (v : Option Value) (B : Pt), Stand p l e R s m sargs below meth c B.U B.locs B.cells B.slots ∧ Post A a v B ∧
      Steps p.tables e below (doInvoke e (A.U.setTop g) [] mk a).1 (B.U.setTop { g with pc := g.pc + len, stack := v.toList ++ g.stack })) ∨
    (∃ (q : Addr) (B : Pt), Stand p l e R s m sargs below meth c B.U B.locs B.cells B.slots ∧ PostX A a q B ∧
      Steps p.tables e below (doInvoke e (A.U.setTop g) [] mk a).1 ((B.U.setTop g).pushFrame (.throwing q)))
section Payer
variable {l : Launch} {R : Room} {p : Program} {e : Env} {below : List Frame} {s : State} {sargs : Array Value} {y : MethodName} {len W9 : Nat}
theorem vx_back {ws : List Cond} {rm : Room} {Pc : Array Value → State → Prop} {Qc : Array Value → State → Outcome → State → Prop} {XC : String → State → State → Prop} {mc ms : Nat} {free : Addr → Prop} {bytes : ByteArray} {maxL : Nat} {ret : Option FieldType}
    (hM : vx_Met l y ws rm Pc Qc XC mc ms free) (hblind : FrameBlind Pc) (hrc : rm.cells = mc) (hrs : rm.slots = ms)
    (hframes : rm.frames + 1 ≤ R.frames) (hlocals : W9 + (maxL + 11) + rm.locals ≤ R.locals)
    (hws : ∀ w ∈ ws, ∀ a' U, s.WarmedH U.vm → w.before a' U = true) (hcode : Cond.code y bytes maxL ret ∈ ws) (hinit : ∀ a' U, s.WarmedH U.vm → (Cond.initialized y.cls).before a' U = true) :
    vx_Back l R p e below s sargs y len W9 (PreOf R mc ms Pc) (PostOf Qc mc ms free) (vx_Post XC mc ms free) := by
  intro m meth c A g ig mk a X hg hsize hdg hW hn hp
  have h1 : (headSpec ws rm).pre.before a A.U = true := atoms_intro fun w hw => hws w hw _ _ X.warmed
  have h2 : (Cond.code y bytes maxL ret).before a A.U = true := hws _ hcode _ _ X.warmed
  have h3 : (Cond.initialized y.cls).before a A.U = true := hinit _ _ X.warmed
  have h4 : A.cells + (headSpec ws rm).room.cells ≤ R.cells := by rw [show (headSpec ws rm).room.cells = mc from hrc]; exact hp.1
  have h5 : A.slots + (headSpec ws rm).room.slots ≤ R.slots := by rw [show (headSpec ws rm).room.slots = ms from hrs]; exact hp.2.1
  have hPc : Pc a (A.U.calling g mk a) := hblind _ _ _ _ hp.2.2
  obtain ⟨U, Ls, c0, s0⟩ := A
  dsimp only [Pt.U, Pt.locs, Pt.cells, Pt.slots] at h1 h2 h3 h4 h5 X hn hPc ⊢
  obtain ⟨methY, cY, hmY, hcY, -, hlY, -, -, -, -⟩ := Cond.code_spec hn h2
  obtain ⟨kY, hkY, -⟩ := className_of_methodNamed hn
  have hinitY : kY.init = .initialized := Cond.initialized_spec (findClass_of_methodNamed hn) hkY h3
  have h : At U g.method c below := by rw [hg]; exact X.here
  have hlocals9 : W9 + (maxL + 11) + (headSpec ws rm).room.locals ≤ R.locals := hlocals
  have happ : (headSpec ws rm).appliesLoose y e.platform (U.calling g mk a) = true :=
    Spec.appliesLoose_calling (g := g) h hdg hn hkY hinitY
      (X.room_calling (g := g) (R' := (headSpec ws rm).room) hsize hmY hcY hframes (by rw [hlY]; omega) h4 h5) h1
  obtain ⟨mid, hmid⟩ := h.above
  have hfr : (U.setTop g).frames = (.java g :: mid) ++ below := by rw [State.frames_setTop' g h.top, hmid]; rfl
  obtain ⟨o, s₂, hsteps, -, hend, hq⟩ := Steps.callFree hM p X.admits X.cas X.clock (acts := []) hfr happ hPc trivial
  have hq' : vx_Q Qc XC mc ms free a (U.calling g mk a) o s₂ := hq
  rw [State.frames_setTop' g h.top] at hend
  obtain ⟨g₀, hg0⟩ := Option.isSome_iff_exists.mp h.top
  obtain ⟨r, hr⟩ := State.topJava?_eq_some.mp hg0
  have hr' : (({ U with heap := s₂.heap, slotsUsed := s₂.slotsUsed } : State).setVm s₂.vm).frames = .java g₀ :: r := hr
  rcases hq' with ⟨hqc, L, hfe, hL⟩ | ⟨q, rfl, E, ce, L, hx, hce, hcv, hcl, hW₂, hsm, hL⟩
  · obtain ⟨⟨v, rfl⟩, hW₂, e2, q2, q3, q4, q5, q6⟩ := id hfe
    have e3 : s₂ = ({ (U.calling g mk a).setFrames s₂.frames with heap := s₂.heap, slotsUsed := s₂.slotsUsed } : State).setVm s₂.vm := by
      have : s₂ = ({ s₂ with vm := (U.calling g mk a).vm } : State).setVm s₂.vm := rfl
      rw [e2] at this
      exact this
    obtain ⟨c₂, i₂, len₂, hc₂, hd₂, hf₂⟩ := hend
    have hW' : U.WarmedH s₂.vm := hW₂
    have hcc : c₂ = c := by
      have h1 : s₂.code? g.method = U.code? g.method := by
        rw [State.code?_eq, State.code?_eq, hW'.alike.method?]
      exact Option.some.inj (hc₂.symm.trans (h1.trans h.code))
    subst hcc
    have hlen : len₂ = len := by rw [hdg] at hd₂; cases hd₂; rfl
    subst hlen
    have hs₂ : s₂ = (({ U with heap := s₂.heap, slotsUsed := s₂.slotsUsed } : State).setVm s₂.vm).setTop { g with pc := g.pc + len₂, stack := v.toList ++ g.stack } := by
      refine e3.trans ?_
      rw [hf₂, State.calling_eq h.top, State.setFrames_setFrames, State.setTop_of_frames _ hr', hr]
      rfl
    have hsame : U.sameButNew ({ U with heap := s₂.heap, slotsUsed := s₂.slotsUsed } : State) L mc ms := by
      refine ⟨?_, q2, q3, q4, q5, q6⟩
      obtain ⟨t, ht, -⟩ := State.frames_cons hr
      show ({ U with heap := s₂.heap, slotsUsed := s₂.slotsUsed } : State) = { U.setFrames U.frames with heap := s₂.heap, slotsUsed := s₂.slotsUsed }
      rw [State.setFrames_self ht]
    subst hg
    refine Or.inl ⟨v, ⟨(({ U with heap := s₂.heap, slotsUsed := s₂.slotsUsed } : State).setVm s₂.vm), Ls ++ L, c0 + mc, s0 + ms⟩,
      ⟨X.admits, X.cas, X.clock, X.frames, X.room, X.hears, X.method, X.code, (X.here.setHeapUsed s₂.heap s₂.slotsUsed).setVm hW'.alike, X.tail, State.WarmedH.trans X.warmed hW', X.limits, X.bytes, X.same.trans (hsame.setVm s.vm)⟩,
      ⟨g, mk, s₂, L, rfl, rfl, hqc, rfl, hL, rfl, rfl⟩, ?_⟩
    show Steps p.tables e below _ ((({ U with heap := s₂.heap, slotsUsed := s₂.slotsUsed } : State).setVm s₂.vm).setTop { g with pc := g.pc + len₂, stack := v.toList ++ g.stack })
    rw [← hs₂]
    exact hsteps
  · obtain ⟨e2, q2, q3, q4, q5, q6⟩ := id hsm
    have e3 : s₂ = ({ (U.calling g mk a).setFrames s₂.frames with heap := s₂.heap, slotsUsed := s₂.slotsUsed } : State).setVm s₂.vm := by
      have : s₂ = ({ s₂ with vm := (U.calling g mk a).vm } : State).setVm s₂.vm := rfl
      rw [e2] at this
      exact this
    have hf₂ : s₂.frames = .throwing q :: .java g :: U.frames.tail := hend
    have hW' : U.WarmedH s₂.vm := hW₂
    have hs₂ : s₂ = ((({ U with heap := s₂.heap, slotsUsed := s₂.slotsUsed } : State).setVm s₂.vm).setTop g).pushFrame (.throwing q) := by
      refine e3.trans ?_
      rw [hf₂, State.calling_eq h.top, State.setFrames_setFrames, State.pushFrame, State.frames_setTop _ hr', State.setTop_of_frames _ hr', State.setFrames_setFrames, hr]
      rfl
    have hsame : U.sameButNew ({ U with heap := s₂.heap, slotsUsed := s₂.slotsUsed } : State) L mc ms := by
      refine ⟨?_, q2, q3, q4, q5, q6⟩
      obtain ⟨t, ht, -⟩ := State.frames_cons hr
      show ({ U with heap := s₂.heap, slotsUsed := s₂.slotsUsed } : State) = { U.setFrames U.frames with heap := s₂.heap, slotsUsed := s₂.slotsUsed }
      rw [State.setFrames_self ht]
    subst hg
    refine Or.inr ⟨q, ⟨(({ U with heap := s₂.heap, slotsUsed := s₂.slotsUsed } : State).setVm s₂.vm), Ls ++ L, c0 + mc, s0 + ms⟩,
      ⟨X.admits, X.cas, X.clock, X.frames, X.room, X.hears, X.method, X.code, (X.here.setHeapUsed s₂.heap s₂.slotsUsed).setVm hW'.alike, X.tail, State.WarmedH.trans X.warmed hW', X.limits, X.bytes, X.same.trans (hsame.setVm s.vm)⟩,
      ⟨g, mk, s₂, L, E, ce, rfl, rfl, hx, hce, hcv, hcl, rfl, hL, rfl, rfl⟩, ?_⟩
    show Steps p.tables e below _ (((({ U with heap := s₂.heap, slotsUsed := s₂.slotsUsed } : State).setVm s₂.vm).setTop g).pushFrame (.throwing q))
    rw [← hs₂]
    exact hsteps
end Payer
section Calls
variable {p : Program} {l : Launch} {e : Env} {R : Room} {s : State} {m : MethodId} {args : Array Value} {below : List Frame} {meth : Method} {c : Code} {T : State} {locs : List Loc} {cells slots : Nat}
theorem vx_callV (X : Stand p l e R s m args below meth c T locs cells slots) (hexec : p.tables.exec = Jvm.exec) {own C : String} {index : Nat} {y : MethodName} {bytes : ByteArray} {maxL : Nat} {ret : Option FieldType}
    (hown : s.vm.findClass own = some m.cls) (hlink : (Cond.methodLink own index y).before args s = true) (hinst : (Cond.instanceMethod y).before args s = true) (hsel : (Cond.selects C y y).before args s = true)
    (hcode : (Cond.code y bytes maxL ret).before args s = true) (hy : y.cls ≠ "java/lang/invoke/MethodHandle" ∧ y.cls ≠ "java/lang/invoke/VarHandle")
    {W9 : Nat} {Pre : Pt → Array Value → Prop} {Post : Pt → Array Value → Option Value → Pt → Prop} {PostX : Pt → Array Value → Addr → Pt → Prop} (hK : vx_Back l R p e below s args y 3 W9 Pre Post PostX)
    {b : Addr} {cellB : Cell} (hcell : T.heap[b]? = some cellB) (hobj : cellB.vm.isStatics = false) (hcls : s.vm.findClass C = some cellB.cls)
    {g : JFrame} (hg : g.method = m) (hsize : g.locals.size = c.maxLocals) {argsL rest : List Value} (hlen : ∀ sig, parseMethodDescriptor y.desc = some sig → argsL.length = sig.parameters.length)
    (hstack : g.stack = argsL.reverse ++ .ref b :: rest) (hW : 2 * g.monitorRoom + (rest.map fun v => v.category).sum ≤ W9) (hdg : decode c.code g.pc = .ok (.invokevirtual index, 3))
    (hpre : ∀ vm₁, s.WarmedH vm₁ → Pre ⟨T.setVm vm₁, locs, cells, slots⟩ (Value.ref b :: argsL).toArray) :
    (∃ (v : Option Value) (vm₁ : Vm) (B : Pt), s.WarmedH vm₁ ∧ Stand p l e R s m args below meth c B.U B.locs B.cells B.slots ∧ Post ⟨T.setVm vm₁, locs, cells, slots⟩ (Value.ref b :: argsL).toArray v B ∧
      ∀ target, Steps p.tables e below (B.U.setTop { g with pc := g.pc + 3, stack := v.toList ++ rest }) target → Steps p.tables e below (T.setTop g) target) ∨
    (∃ (q : Addr) (vm₁ : Vm) (B : Pt), s.WarmedH vm₁ ∧ Stand p l e R s m args below meth c B.U B.locs B.cells B.slots ∧ PostX ⟨T.setVm vm₁, locs, cells, slots⟩ (Value.ref b :: argsL).toArray q B ∧
      Steps p.tables e below (T.setTop g) ((B.U.setTop { g with stack := rest }).pushFrame (.throwing q))) := by
  obtain ⟨mk, methM, hnamed, hmethM, hstM, habM⟩ := Cond.instanceMethod_spec hinst
  obtain ⟨methM', cM, hmethM', -, -, -, -, -, -, hsigM⟩ := Cond.code_spec hnamed hcode
  cases hmethM.symm.trans hmethM'
  obtain ⟨c2, r2, m2, q1, q2, q3, q4, kP, hkP, hkPi⟩ := Cond.selects_spec hsel
  cases hcls.symm.trans q1
  cases (State.methodFound?_of_named hnamed hy).symm.trans q2
  cases hnamed.symm.trans q3
  have hselP : selectMethod e.platform s.vm cellB.cls mk = .method mk := by rw [Launch.admits_selectMethod X.admits]; exact q4
  obtain ⟨vm₁, X₁, hstep₁⟩ := X.invokevirtual hexec hown hlink hnamed hmethM hstM hkP hkPi hy (a := b) (cell := cellB) hcell
    (fun z h => by rw [h] at hobj; cases hobj) hselP hmethM habM hkP hkPi (g := g) hg (argsL := argsL) (rest := rest) (hlen _ hsigM) hstack hdg
  rcases hK m meth c ⟨T.setVm vm₁, locs, cells, slots⟩ { g with stack := rest } (.invokevirtual index) mk (Value.ref b :: argsL).toArray X₁ hg hsize hdg hW (X₁.named hnamed) (hpre vm₁ X₁.warmed) with ⟨v, B, X', hpost, hsteps⟩ | ⟨q, B, X', hpost, hsteps⟩
  · exact Or.inl ⟨v, vm₁, B, X₁.warmed, X', hpost, fun target h => hstep₁ _ fun acts => by rw [doInvoke_state]; exact hsteps.trans h⟩
  · exact Or.inr ⟨q, vm₁, B, X₁.warmed, X', hpost, hstep₁ _ fun acts => by rw [doInvoke_state]; exact hsteps⟩
theorem vx_callS (X : Stand p l e R s m args below meth c T locs cells slots) (hexec : p.tables.exec = Jvm.exec) {own : String} {index : Nat} {y : MethodName} {bytes : ByteArray} {maxL : Nat} {ret : Option FieldType}
    (hown : s.vm.findClass own = some m.cls) (hlink : (Cond.methodLink own index y).before args s = true) (hstat : (Cond.static y).before args s = true) (hinit : (Cond.initialized y.cls).before args s = true)
    (hcode : (Cond.code y bytes maxL ret).before args s = true) (hy : y.cls ≠ "java/lang/invoke/MethodHandle" ∧ y.cls ≠ "java/lang/invoke/VarHandle")
    {W9 : Nat} {Pre : Pt → Array Value → Prop} {Post : Pt → Array Value → Option Value → Pt → Prop} {PostX : Pt → Array Value → Addr → Pt → Prop} (hK : vx_Back l R p e below s args y 3 W9 Pre Post PostX)
    {g : JFrame} (hg : g.method = m) (hsize : g.locals.size = c.maxLocals) {argsL rest : List Value} (hlen : ∀ sig, parseMethodDescriptor y.desc = some sig → argsL.length = sig.parameters.length)
    (hstack : g.stack = argsL.reverse ++ rest) (hW : 2 * g.monitorRoom + (rest.map fun v => v.category).sum ≤ W9) (hdg : decode c.code g.pc = .ok (.invokestatic index, 3))
    (hpre : ∀ vm₁, s.WarmedH vm₁ → Pre ⟨T.setVm vm₁, locs, cells, slots⟩ argsL.toArray) :
    (∃ (v : Option Value) (vm₁ : Vm) (B : Pt), s.WarmedH vm₁ ∧ Stand p l e R s m args below meth c B.U B.locs B.cells B.slots ∧ Post ⟨T.setVm vm₁, locs, cells, slots⟩ argsL.toArray v B ∧
      ∀ target, Steps p.tables e below (B.U.setTop { g with pc := g.pc + 3, stack := v.toList ++ rest }) target → Steps p.tables e below (T.setTop g) target) ∨
    (∃ (q : Addr) (vm₁ : Vm) (B : Pt), s.WarmedH vm₁ ∧ Stand p l e R s m args below meth c B.U B.locs B.cells B.slots ∧ PostX ⟨T.setVm vm₁, locs, cells, slots⟩ argsL.toArray q B ∧
      Steps p.tables e below (T.setTop g) ((B.U.setTop { g with stack := rest }).pushFrame (.throwing q))) := by
  obtain ⟨mk, hnamed⟩ := Cond.code_named hcode
  obtain ⟨methM, cM, hmethM, -, -, -, -, -, -, hsigM⟩ := Cond.code_spec hnamed hcode
  have hstatic : methM.isStatic = true := Cond.static_spec hnamed hmethM hstat
  obtain ⟨kP, hkP, -⟩ := className_of_methodNamed hnamed
  have hinitP : kP.init = .initialized := Cond.initialized_spec (findClass_of_methodNamed hnamed) hkP hinit
  obtain ⟨vm₁, X₁, hstep₁⟩ := X.invokestatic hexec hown hlink hnamed hmethM hstatic hkP hinitP hy (g := g) hg (argsL := argsL) (rest := rest) (hlen _ hsigM) hstack hdg
  rcases hK m meth c ⟨T.setVm vm₁, locs, cells, slots⟩ { g with stack := rest } (.invokestatic index) mk argsL.toArray X₁ hg hsize hdg hW (X₁.named hnamed) (hpre vm₁ X₁.warmed) with ⟨v, B, X', hpost, hsteps⟩ | ⟨q, B, X', hpost, hsteps⟩
  · exact Or.inl ⟨v, vm₁, B, X₁.warmed, X', hpost, fun target h => hstep₁ _ fun acts => by rw [doInvoke_state]; exact hsteps.trans h⟩
  · exact Or.inr ⟨q, vm₁, B, X₁.warmed, X', hpost, hstep₁ _ fun acts => by rw [doInvoke_state]; exact hsteps⟩
end Calls
theorem vx_cls {s : State} {T : State} {vm₁ : Vm} {E : String} {k : ClassId} (hW : s.WarmedH vm₁) (h : (T.setVm vm₁).vm.findClass E = some k) : s.vm.findClass E = some k := by
  have h1 : vm₁.findClass E = some k := h
  rw [hW.alike.findClass] at h1
  exact h1
/-- the method's frame g, with q thrown over it -/
def vx_W (p : Program) (l : Launch) (e : Env) (R : Room) (s : State) (m : MethodId) (args : Array Value) (below : List Frame) (meth : Method) (c : Code) (H : Heap) (locs : List Loc) (cells slots : Nat) (Q : State → Prop) (g : JFrame) (q : Addr) : Prop :=
  ∀ T : State, T.heap = H → Stand p l e R s m args below meth c T locs cells slots → ∃ t, Steps p.tables e below ((T.setTop g).pushFrame (.throwing q)) t ∧ Q t
def vx_Run (p : Program) (l : Launch) (e : Env) (R : Room) (s : State) (m : MethodId) (args : Array Value) (below : List Frame) (meth : Method) (c : Code) (H : Heap) (locs : List Loc) (cells slots mc ms : Nat) (g : JFrame) (rest : List Value) (Qa : State → Outcome → State → Prop) (XC : String → State → State → Prop) (free : Addr → Prop) : Prop :=
  ∀ T : State, T.heap = H → Stand p l e R s m args below meth c T locs cells slots →
    (∃ (v : Option Value) (st₀ t T' : State) (L : List Loc), st₀.heap = H ∧ Stand p l e R s m args below meth c T' (locs ++ L) (cells + mc) (slots + ms) ∧ (∀ q ∈ L, free q.base) ∧ T'.heap = t.heap ∧ T'.vm = t.vm ∧ Qa st₀ (.returned v) t ∧
      Goes p e below T g T' { g with pc := g.pc + 3, stack := v.toList ++ rest }) ∨
    (∃ (q : Addr) (st₀ t T' : State) (L : List Loc) (E : String) (ce : Cell), st₀.heap = H ∧ Stand p l e R s m args below meth c T' (locs ++ L) (cells + mc) (slots + ms) ∧ (∀ z ∈ L, free z.base) ∧ T'.heap = t.heap ∧ T'.vm = t.vm ∧ XC E st₀ t ∧ t.heap[q]? = some ce ∧ ce.vm = .none ∧ s.vm.findClass E = some ce.cls ∧
      Steps p.tables e below (T.setTop g) ((T'.setTop { g with stack := rest }).pushFrame (.throwing q)))
def vx_X {S : Type} (px : S → Prop) (B : String → S → State → Prop) (A : Nat → Prop) : String → State → State → Prop := fun E st t => ∃ u : S, px u ∧ B E u t ∧ va_F A st t
section Runs
variable {p : Program} {l : Launch} {e : Env} {R : Room} {s : State} {m : MethodId} {args : Array Value} {below : List Frame} {meth : Method} {c : Code} {H : Heap} {locs : List Loc} {cells slots : Nat}
variable {y : MethodName} {bytes cc : ByteArray} {maxL nL mc ms n index : Nat} {ret : Option FieldType} {ws : List Cond} {rm : Room} {Pc : Array Value → State → Prop} {Qc : Array Value → State → Outcome → State → Prop} {XC : String → State → State → Prop} {free : Addr → Prop} {Ts : List Cond} {own C : String} {b : Addr} {As rest : List Value} {g : JFrame}
theorem vx_callBack (cb : CallB R s args own index y bytes maxL ret ws rm mc ms n) (hM : vx_Met l y ws rm Pc Qc XC mc ms free) (hbl : FrameBlind Pc) : vx_Back l R p e below s args y 3 8 (PreOf R mc ms Pc) (PostOf Qc mc ms free) (vx_Post XC mc ms free) := by
  obtain ⟨hrc, hrs, hfr, hlo, hws, hcw, -, hini, -⟩ := cb
  exact vx_back (bytes := bytes) (maxL := maxL) (ret := ret) hM hbl hrc hrs hfr hlo hws hcw (fun a' U hW => word_at hW (Or.inl (by first | rfl | simp [Cond.onTables, Cond.keeps, Cond.steady])) hini)
theorem vx_runV (S : CallFix p m c cc nL s args Ts own) (hM : vx_Met l y ws rm Pc Qc XC mc ms free) (cw : CallW R s args own C index y bytes maxL ret ws rm mc ms n) (hp : PreV s H C b Pc As)
    (hg : g.method = m) (hn : As.length = n) (hsize : g.locals.size = nL) (hstack : g.stack = As.reverse ++ .ref b :: rest) (hW : 2 * g.monitorRoom + (rest.map fun v => v.category).sum ≤ 8) (hdg : decode cc g.pc = .ok (.invokevirtual index, 3)) (hf : cells + mc ≤ R.cells ∧ slots + ms ≤ R.slots) :
    vx_Run p l e R s m args below meth c H locs cells slots mc ms g rest (Qc (Value.ref b :: As).toArray) XC free := by
  have hK : vx_Back l R p e below s args y 3 8 (PreOf R mc ms Pc) (PostOf Qc mc ms free) (vx_Post XC mc ms free) := vx_callBack cw.1 hM hp.1
  obtain ⟨⟨-, -, -, -, -, -, hcode, -, hy, hlen, hl⟩, hin, hse⟩ := cw
  obtain ⟨hx, hb, hml, ho, -⟩ := S
  obtain ⟨-, ⟨cellB, hcB, hoB, hclB⟩, hPc⟩ := hp
  intro T hT X
  rcases vx_callV X hx (C := C) (bytes := bytes) (maxL := maxL) (ret := ret) ho hl hin hse hcode hy hK (by rw [hT]; exact hcB) hoB hclB hg (hsize.trans hml.symm) (argsL := As) (rest := rest) (fun sig h => hn.trans (hlen sig h)) hstack hW (by rw [hb]; exact hdg)
    (fun vm₁ hW₁ => ⟨hf.1, hf.2, hPc (T.setVm vm₁) hT hW₁⟩) with ⟨v, vm₁, ⟨U', l2, c2, s2⟩, hW₁, X', ⟨g', mk, t, L, e1, e2, hq, h1, hL, h2, h3⟩, st⟩ | ⟨q, vm₁, ⟨U', l2, c2, s2⟩, hW₁, X', ⟨g', mk, t, L, E, ce, e1, e2, hq, hce, hcv, hcl, h1, hL, h2, h3⟩, st⟩
  · dsimp only [Pt.U, Pt.locs, Pt.cells, Pt.slots] at X' e1 e2 h1 h2 h3 st
    subst h1; subst h2; subst h3
    exact Or.inl ⟨v, (T.setVm vm₁).calling g' mk (Value.ref b :: As).toArray, t, U', L, hT, X', hL, e1, e2, hq, st⟩
  · dsimp only [Pt.U, Pt.locs, Pt.cells, Pt.slots] at X' e1 e2 h1 h2 h3 st hcl
    subst h1; subst h2; subst h3
    exact Or.inr ⟨q, (T.setVm vm₁).calling g' mk (Value.ref b :: As).toArray, t, U', L, E, ce, hT, X', hL, e1, e2, hq, hce, hcv, vx_cls hW₁ hcl, st⟩
theorem vx_runS (S : CallFix p m c cc nL s args Ts own) (hM : vx_Met l y ws rm Pc Qc XC mc ms free) (cw : CallB R s args own index y bytes maxL ret ws rm mc ms n ∧ (Cond.static y).before args s = true) (hp : PreS s H Pc As)
    (hg : g.method = m) (hn : As.length = n) (hsize : g.locals.size = nL) (hstack : g.stack = As.reverse ++ rest) (hW : 2 * g.monitorRoom + (rest.map fun v => v.category).sum ≤ 8) (hdg : decode cc g.pc = .ok (.invokestatic index, 3)) (hf : cells + mc ≤ R.cells ∧ slots + ms ≤ R.slots) :
    vx_Run p l e R s m args below meth c H locs cells slots mc ms g rest (Qc As.toArray) XC free := by
  have hK : vx_Back l R p e below s args y 3 8 (PreOf R mc ms Pc) (PostOf Qc mc ms free) (vx_Post XC mc ms free) := vx_callBack cw.1 hM hp.1
  obtain ⟨⟨-, -, -, -, -, -, hcode, hini, hy, hlen, hl⟩, hstt⟩ := cw
  obtain ⟨hx, hb, hml, ho, -⟩ := S
  intro T hT X
  rcases vx_callS X hx (bytes := bytes) (maxL := maxL) (ret := ret) ho hl hstt hini hcode hy hK hg (hsize.trans hml.symm) (argsL := As) (rest := rest) (fun sig h => hn.trans (hlen sig h)) hstack hW (by rw [hb]; exact hdg)
    (fun vm₁ hW₁ => ⟨hf.1, hf.2, hp.2 (T.setVm vm₁) hT hW₁⟩) with ⟨v, vm₁, ⟨U', l2, c2, s2⟩, hW₁, X', ⟨g', mk, t, L, e1, e2, hq, h1, hL, h2, h3⟩, st⟩ | ⟨q, vm₁, ⟨U', l2, c2, s2⟩, hW₁, X', ⟨g', mk, t, L, E, ce, e1, e2, hq, hce, hcv, hcl, h1, hL, h2, h3⟩, st⟩
  · dsimp only [Pt.U, Pt.locs, Pt.cells, Pt.slots] at X' e1 e2 h1 h2 h3 st
    subst h1; subst h2; subst h3
    exact Or.inl ⟨v, (T.setVm vm₁).calling g' mk As.toArray, t, U', L, hT, X', hL, e1, e2, hq, st⟩
  · dsimp only [Pt.U, Pt.locs, Pt.cells, Pt.slots] at X' e1 e2 h1 h2 h3 st hcl
    subst h1; subst h2; subst h3
    exact Or.inr ⟨q, (T.setVm vm₁).calling g' mk As.toArray, t, U', L, E, ce, hT, X', hL, e1, e2, hq, hce, hcv, vx_cls hW₁ hcl, st⟩
end Runs
section Rows
variable {p : Program} {l : Launch} {e : Env} {R : Room} {s : State} {m : MethodId} {args : Array Value} {below : List Frame} {meth : Method} {c : Code} {H : Heap} {locs : List Loc} {cells slots : Nat} {Q : State → Prop}
variable {mc ms : Nat} {free : Addr → Prop} {A0 A1 : Nat → Prop} {H0 : Heap} {a : Array Value} {pc : Nat} {ls : Array Slot} {st0 rest : List Value}
theorem vx_keep {st₀ t T' : State} {L : List Loc} (h0 : st₀.heap = H) (e1 : T'.heap = t.heap) (hS : va_S A0 H0 H locs) (hA : ∀ q, q < H.size → A1 q → A0 q) (hf : ∀ q, free q → A0 q) (hL : ∀ q ∈ L, free q.base) (hF : va_F A1 st₀ t) :
    H.size ≤ T'.heap.size ∧ (∀ q : Nat, q < H.size → ¬ A1 q → T'.heap[q]? = H[q]?) ∧ va_S A0 H0 T'.heap (locs ++ L) := by
  obtain ⟨hz, hk⟩ := hF
  rw [h0] at hz hk
  exact ⟨by rw [e1]; exact hz, fun q h1 h2 => by rw [e1]; exact hk q h1 h2,
    ⟨Nat.le_trans hS.1 (by rw [e1]; exact hz), fun q h1 h2 => by rw [e1, hk q (Nat.lt_of_lt_of_le h1 hS.1) (fun z => h2 (hA q (Nat.lt_of_lt_of_le h1 hS.1) z))]; exact hS.2.1 q h1 h2, fun q hq => by
      rcases List.mem_append.mp hq with h | h
      · exact hS.2.2 q h
      · exact hf _ (hL q h)⟩⟩
theorem vx_calli {S SX : Type} {post : Int32 → S → Prop} {px : SX → Prop} {B : S → State → Prop} {BX : String → SX → State → Prop} {AX : Nat → Prop} (hr : vx_Run p l e R s m args below meth c H locs cells slots mc ms (F0 m pc ls st0) rest (va_Qi post B A1 a) (vx_X px BX AX) free) (hS : va_S A0 H0 H locs) (hA : ∀ q, q < H.size → A1 q → A0 q) (hf : ∀ q, free q → A0 q) (hAX : ∀ q, q < H.size → AX q → A0 q)
    (kx : ∀ (E : String) (ce : Cell) (q9 : Addr) (u : SX) (t : State) (H1 : Heap) (locs1 : List Loc), t.heap = H1 → s.vm.Alike t.vm → px u → BX E u t → H.size ≤ H1.size → (∀ q : Nat, q < H.size → ¬ AX q → H1[q]? = H[q]?) → va_S A0 H0 H1 locs1 → H1[q9]? = some ce → ce.vm = .none → s.vm.findClass E = some ce.cls → vx_W p l e R s m args below meth c H1 locs1 (cells + mc) (slots + ms) Q (F0 m pc ls rest) q9)
    (kk : ∀ (r : Int32) (u : S) (t : State) (H1 : Heap) (locs1 : List Loc), t.heap = H1 → s.vm.Alike t.vm → post r u → B u t → H.size ≤ H1.size → (∀ q : Nat, q < H.size → ¬ A1 q → H1[q]? = H[q]?) → va_S A0 H0 H1 locs1 → W p l e R s m args below meth c H1 locs1 (cells + mc) (slots + ms) Q (F0 m (pc + 3) ls (.int r :: rest))) : W p l e R s m args below meth c H locs cells slots Q (F0 m pc ls st0) := by
  intro T hT X
  rcases hr T hT X with ⟨v, st₀, t, T', L, h0, X', hL, e1, e2, ⟨⟨r, u, hv, hp, hb⟩, hF⟩, st⟩ | ⟨q, st₀, t, T', L, E, ce, h0, X', hL, e1, e2, ⟨u, hp, hb, hF⟩, hce, hcv, hcl, st⟩
  · cases hv
    obtain ⟨k1, k2, k3⟩ := vx_keep h0 e1 hS hA hf hL hF
    obtain ⟨t2, a1, b1⟩ := kk r u t T'.heap (locs ++ L) e1.symm (by rw [← e2]; exact X'.warmed.alike) hp hb k1 k2 k3 T' rfl X'
    exact ⟨t2, st t2 a1, b1⟩
  · obtain ⟨k1, k2, k3⟩ := vx_keep h0 e1 hS hAX hf hL hF
    obtain ⟨t2, a1, b1⟩ := kx E ce q u t T'.heap (locs ++ L) e1.symm (by rw [← e2]; exact X'.warmed.alike) hp hb k1 k2 k3 (by rw [e1]; exact hce) hcv hcl T' rfl X'
    exact ⟨t2, st.trans a1, b1⟩
theorem vx_calll {S SX : Type} {post : Int64 → S → Prop} {px : SX → Prop} {B : S → State → Prop} {BX : String → SX → State → Prop} {AX : Nat → Prop} (hr : vx_Run p l e R s m args below meth c H locs cells slots mc ms (F0 m pc ls st0) rest (va_Ql post B A1 a) (vx_X px BX AX) free) (hS : va_S A0 H0 H locs) (hA : ∀ q, q < H.size → A1 q → A0 q) (hf : ∀ q, free q → A0 q) (hAX : ∀ q, q < H.size → AX q → A0 q)
    (kx : ∀ (E : String) (ce : Cell) (q9 : Addr) (u : SX) (t : State) (H1 : Heap) (locs1 : List Loc), t.heap = H1 → s.vm.Alike t.vm → px u → BX E u t → H.size ≤ H1.size → (∀ q : Nat, q < H.size → ¬ AX q → H1[q]? = H[q]?) → va_S A0 H0 H1 locs1 → H1[q9]? = some ce → ce.vm = .none → s.vm.findClass E = some ce.cls → vx_W p l e R s m args below meth c H1 locs1 (cells + mc) (slots + ms) Q (F0 m pc ls rest) q9)
    (kk : ∀ (r : Int64) (u : S) (t : State) (H1 : Heap) (locs1 : List Loc), t.heap = H1 → s.vm.Alike t.vm → post r u → B u t → H.size ≤ H1.size → (∀ q : Nat, q < H.size → ¬ A1 q → H1[q]? = H[q]?) → va_S A0 H0 H1 locs1 → W p l e R s m args below meth c H1 locs1 (cells + mc) (slots + ms) Q (F0 m (pc + 3) ls (.long r :: rest))) : W p l e R s m args below meth c H locs cells slots Q (F0 m pc ls st0) := by
  intro T hT X
  rcases hr T hT X with ⟨v, st₀, t, T', L, h0, X', hL, e1, e2, ⟨⟨r, u, hv, hp, hb⟩, hF⟩, st⟩ | ⟨q, st₀, t, T', L, E, ce, h0, X', hL, e1, e2, ⟨u, hp, hb, hF⟩, hce, hcv, hcl, st⟩
  · cases hv
    obtain ⟨k1, k2, k3⟩ := vx_keep h0 e1 hS hA hf hL hF
    obtain ⟨t2, a1, b1⟩ := kk r u t T'.heap (locs ++ L) e1.symm (by rw [← e2]; exact X'.warmed.alike) hp hb k1 k2 k3 T' rfl X'
    exact ⟨t2, st t2 a1, b1⟩
  · obtain ⟨k1, k2, k3⟩ := vx_keep h0 e1 hS hAX hf hL hF
    obtain ⟨t2, a1, b1⟩ := kx E ce q u t T'.heap (locs ++ L) e1.symm (by rw [← e2]; exact X'.warmed.alike) hp hb k1 k2 k3 (by rw [e1]; exact hce) hcv hcl T' rfl X'
    exact ⟨t2, st.trans a1, b1⟩
theorem vx_callf {S SX : Type} {post : UInt32 → S → Prop} {px : SX → Prop} {B : S → State → Prop} {BX : String → SX → State → Prop} {AX : Nat → Prop} (hr : vx_Run p l e R s m args below meth c H locs cells slots mc ms (F0 m pc ls st0) rest (va_Qf post B A1 a) (vx_X px BX AX) free) (hS : va_S A0 H0 H locs) (hA : ∀ q, q < H.size → A1 q → A0 q) (hf : ∀ q, free q → A0 q) (hAX : ∀ q, q < H.size → AX q → A0 q)
    (kx : ∀ (E : String) (ce : Cell) (q9 : Addr) (u : SX) (t : State) (H1 : Heap) (locs1 : List Loc), t.heap = H1 → s.vm.Alike t.vm → px u → BX E u t → H.size ≤ H1.size → (∀ q : Nat, q < H.size → ¬ AX q → H1[q]? = H[q]?) → va_S A0 H0 H1 locs1 → H1[q9]? = some ce → ce.vm = .none → s.vm.findClass E = some ce.cls → vx_W p l e R s m args below meth c H1 locs1 (cells + mc) (slots + ms) Q (F0 m pc ls rest) q9)
    (kk : ∀ (r : UInt32) (u : S) (t : State) (H1 : Heap) (locs1 : List Loc), t.heap = H1 → s.vm.Alike t.vm → post r u → B u t → H.size ≤ H1.size → (∀ q : Nat, q < H.size → ¬ A1 q → H1[q]? = H[q]?) → va_S A0 H0 H1 locs1 → W p l e R s m args below meth c H1 locs1 (cells + mc) (slots + ms) Q (F0 m (pc + 3) ls (.float r :: rest))) : W p l e R s m args below meth c H locs cells slots Q (F0 m pc ls st0) := by
  intro T hT X
  rcases hr T hT X with ⟨v, st₀, t, T', L, h0, X', hL, e1, e2, ⟨⟨r, u, hv, hp, hb⟩, hF⟩, st⟩ | ⟨q, st₀, t, T', L, E, ce, h0, X', hL, e1, e2, ⟨u, hp, hb, hF⟩, hce, hcv, hcl, st⟩
  · cases hv
    obtain ⟨k1, k2, k3⟩ := vx_keep h0 e1 hS hA hf hL hF
    obtain ⟨t2, a1, b1⟩ := kk r u t T'.heap (locs ++ L) e1.symm (by rw [← e2]; exact X'.warmed.alike) hp hb k1 k2 k3 T' rfl X'
    exact ⟨t2, st t2 a1, b1⟩
  · obtain ⟨k1, k2, k3⟩ := vx_keep h0 e1 hS hAX hf hL hF
    obtain ⟨t2, a1, b1⟩ := kx E ce q u t T'.heap (locs ++ L) e1.symm (by rw [← e2]; exact X'.warmed.alike) hp hb k1 k2 k3 (by rw [e1]; exact hce) hcv hcl T' rfl X'
    exact ⟨t2, st.trans a1, b1⟩
theorem vx_calld {S SX : Type} {post : UInt64 → S → Prop} {px : SX → Prop} {B : S → State → Prop} {BX : String → SX → State → Prop} {AX : Nat → Prop} (hr : vx_Run p l e R s m args below meth c H locs cells slots mc ms (F0 m pc ls st0) rest (va_Qd post B A1 a) (vx_X px BX AX) free) (hS : va_S A0 H0 H locs) (hA : ∀ q, q < H.size → A1 q → A0 q) (hf : ∀ q, free q → A0 q) (hAX : ∀ q, q < H.size → AX q → A0 q)
    (kx : ∀ (E : String) (ce : Cell) (q9 : Addr) (u : SX) (t : State) (H1 : Heap) (locs1 : List Loc), t.heap = H1 → s.vm.Alike t.vm → px u → BX E u t → H.size ≤ H1.size → (∀ q : Nat, q < H.size → ¬ AX q → H1[q]? = H[q]?) → va_S A0 H0 H1 locs1 → H1[q9]? = some ce → ce.vm = .none → s.vm.findClass E = some ce.cls → vx_W p l e R s m args below meth c H1 locs1 (cells + mc) (slots + ms) Q (F0 m pc ls rest) q9)
    (kk : ∀ (r : UInt64) (u : S) (t : State) (H1 : Heap) (locs1 : List Loc), t.heap = H1 → s.vm.Alike t.vm → post r u → B u t → H.size ≤ H1.size → (∀ q : Nat, q < H.size → ¬ A1 q → H1[q]? = H[q]?) → va_S A0 H0 H1 locs1 → W p l e R s m args below meth c H1 locs1 (cells + mc) (slots + ms) Q (F0 m (pc + 3) ls (.double r :: rest))) : W p l e R s m args below meth c H locs cells slots Q (F0 m pc ls st0) := by
  intro T hT X
  rcases hr T hT X with ⟨v, st₀, t, T', L, h0, X', hL, e1, e2, ⟨⟨r, u, hv, hp, hb⟩, hF⟩, st⟩ | ⟨q, st₀, t, T', L, E, ce, h0, X', hL, e1, e2, ⟨u, hp, hb, hF⟩, hce, hcv, hcl, st⟩
  · cases hv
    obtain ⟨k1, k2, k3⟩ := vx_keep h0 e1 hS hA hf hL hF
    obtain ⟨t2, a1, b1⟩ := kk r u t T'.heap (locs ++ L) e1.symm (by rw [← e2]; exact X'.warmed.alike) hp hb k1 k2 k3 T' rfl X'
    exact ⟨t2, st t2 a1, b1⟩
  · obtain ⟨k1, k2, k3⟩ := vx_keep h0 e1 hS hAX hf hL hF
    obtain ⟨t2, a1, b1⟩ := kx E ce q u t T'.heap (locs ++ L) e1.symm (by rw [← e2]; exact X'.warmed.alike) hp hb k1 k2 k3 (by rw [e1]; exact hce) hcv hcl T' rfl X'
    exact ⟨t2, st.trans a1, b1⟩
theorem vx_callv {S SX : Type} {post : S → Prop} {px : SX → Prop} {B : S → State → Prop} {BX : String → SX → State → Prop} {AX : Nat → Prop} (hr : vx_Run p l e R s m args below meth c H locs cells slots mc ms (F0 m pc ls st0) rest (va_Qv post B A1 a) (vx_X px BX AX) free) (hS : va_S A0 H0 H locs) (hA : ∀ q, q < H.size → A1 q → A0 q) (hf : ∀ q, free q → A0 q) (hAX : ∀ q, q < H.size → AX q → A0 q)
    (kx : ∀ (E : String) (ce : Cell) (q9 : Addr) (u : SX) (t : State) (H1 : Heap) (locs1 : List Loc), t.heap = H1 → s.vm.Alike t.vm → px u → BX E u t → H.size ≤ H1.size → (∀ q : Nat, q < H.size → ¬ AX q → H1[q]? = H[q]?) → va_S A0 H0 H1 locs1 → H1[q9]? = some ce → ce.vm = .none → s.vm.findClass E = some ce.cls → vx_W p l e R s m args below meth c H1 locs1 (cells + mc) (slots + ms) Q (F0 m pc ls rest) q9)
    (kk : ∀ (u : S) (t : State) (H1 : Heap) (locs1 : List Loc), t.heap = H1 → s.vm.Alike t.vm → post u → B u t → H.size ≤ H1.size → (∀ q : Nat, q < H.size → ¬ A1 q → H1[q]? = H[q]?) → va_S A0 H0 H1 locs1 → W p l e R s m args below meth c H1 locs1 (cells + mc) (slots + ms) Q (F0 m (pc + 3) ls (rest))) : W p l e R s m args below meth c H locs cells slots Q (F0 m pc ls st0) := by
  intro T hT X
  rcases hr T hT X with ⟨v, st₀, t, T', L, h0, X', hL, e1, e2, ⟨⟨u, hv, hp, hb⟩, hF⟩, st⟩ | ⟨q, st₀, t, T', L, E, ce, h0, X', hL, e1, e2, ⟨u, hp, hb, hF⟩, hce, hcv, hcl, st⟩
  · cases hv
    obtain ⟨k1, k2, k3⟩ := vx_keep h0 e1 hS hA hf hL hF
    obtain ⟨t2, a1, b1⟩ := kk u t T'.heap (locs ++ L) e1.symm (by rw [← e2]; exact X'.warmed.alike) hp hb k1 k2 k3 T' rfl X'
    exact ⟨t2, st t2 a1, b1⟩
  · obtain ⟨k1, k2, k3⟩ := vx_keep h0 e1 hS hAX hf hL hF
    obtain ⟨t2, a1, b1⟩ := kx E ce q u t T'.heap (locs ++ L) e1.symm (by rw [← e2]; exact X'.warmed.alike) hp hb k1 k2 k3 (by rw [e1]; exact hce) hcv hcl T' rfl X'
    exact ⟨t2, st.trans a1, b1⟩
/-- caught by the row x of this method's table; the rows ahead don't take it -/
theorem vx_catch {own name : String} {E : String} {ce : Cell} {q : Addr} (hown : s.vm.findClass own = some m.cls) (pre : List ExceptionTableEntry) (x : ExceptionTableEntry) (suf : List ExceptionTableEntry) (hsplit : c.exceptionTable.toList = pre ++ x :: suf)
    (hpass : ∀ z ∈ pre, covers z pc = false ∨ (z.catchType ≠ 0 ∧ ∃ nm : String, (Cond.classLink own z.catchType nm).before args s = true ∧ va_Nc E nm s)) (hx : covers x pc = true) (h0 : x.catchType ≠ 0)
    (hlink : (Cond.classLink own x.catchType name).before args s = true) (hcast : (Cond.castable E name).before args s = true) (hcell : H[q]? = some ce) (hv : ce.vm = .none) (hcl : s.vm.findClass E = some ce.cls)
    (kk : W p l e R s m args below meth c H locs cells slots Q (F0 m x.handlerPc ls [.ref q])) : vx_W p l e R s m args below meth c H locs cells slots Q (F0 m pc ls rest) q := by
  intro T hT X
  have hpl : e.platform.magicAccessors = ({} : Platform).magicAccessors := by rw [X.admits.platform]
  obtain ⟨c3, c4, hc3, hc4, hasg⟩ := Cond.castable_spec hcast
  cases Option.some.inj (hc3.symm.trans hcl)
  obtain ⟨c5, hc5, hcl5⟩ := Cond.classLink_spec hown hlink e.platform hpl
  cases Option.some.inj (hc4.symm.trans hc5)
  obtain ⟨vm', X', st⟩ := X.thenCaughtThrough q (g := F0 m pc ls rest) rfl (Steps.refl _) (by rw [hT]; exact hcell) (by rw [hv]; rfl) (by obtain ⟨k9, h9, -⟩ := Vm.findClass_spec hcl; exact ⟨k9, h9⟩) pre x suf hsplit
    (fun z hz => by
      rcases hpass z hz with h | ⟨hz0, nm, hl1, hn1⟩
      · exact Or.inl h
      · obtain ⟨c6, hc6, hcl6⟩ := Cond.classLink_spec hown hl1 e.platform hpl
        obtain ⟨a8, b8, h1, h2, h3⟩ := hn1
        cases Option.some.inj (h1.symm.trans hcl)
        cases Option.some.inj (h2.symm.trans hc6)
        exact Or.inr ⟨hz0, _, hcl6, h3⟩) hx (Or.inr ⟨h0, c4, hcl5, hasg⟩)
  obtain ⟨t, a1, b1⟩ := kk (T.setVm vm') hT X'
  exact ⟨t, st.trans a1, b1⟩
end Rows
section Ends
variable {p : Program} {l : Launch} {e : Env} {R : Room} {s : State} {m : MethodId} {args : Array Value} {below : List Frame} {meth : Method} {c : Code} {H : Heap} {locs : List Loc} {cells slots : Nat} {Q : State → Prop}
variable {mc ms : Nat} {free : Addr → Prop} {A0 A1 : Nat → Prop} {H0 : Heap} {a : Array Value} {ls : Array Slot} {st0 rest : List Value}
variable {Qc : Array Value → State → Outcome → State → Prop} {XC : String → State → State → Prop}
/-- what a body that may throw owes at its end -/
def vx_MQ (below : List Frame) (Qc : Array Value → State → Outcome → State → Prop) (XC : String → State → State → Prop) (a : Array Value) (s : State) (mc ms : Nat) (free : Addr → Prop) : State → Prop := fun t =>
  ∃ o, t.status = .running ∧ Ended t below o ∧ vx_Q Qc XC mc ms free a s o t
theorem vx_ret {g : JFrame} {mc ms : Nat} (k : W p l e R s m args below meth c H locs cells slots (MQ below Qc args s mc ms free) g) : W p l e R s m args below meth c H locs cells slots (vx_MQ below Qc XC args s mc ms free) g := by
  intro T hT X
  obtain ⟨t, a1, o, b1, b2, b3, b4⟩ := k T hT X
  exact ⟨t, a1, o, b1, b2, Or.inl ⟨b3, b4⟩⟩
/-- not caught here: it goes on to the caller -/
theorem vx_widen {g : JFrame} {q : Addr} {k n : Nat} (h1 : cells ≤ k) (h2 : slots ≤ n) (kk : vx_W p l e R s m args below meth c H locs k n Q g q) : vx_W p l e R s m args below meth c H locs cells slots Q g q := fun T hT X => kk T hT (stand_widen X h1 h2)
theorem vx_out {pc : Nat} {E : String} {ce : Cell} {q : Addr} {mc ms : Nat} (hout : ∀ x ∈ c.exceptionTable.toList, covers x pc = false) (hlocks : meth.locks = false) (hcell : H[q]? = some ce) (hv : ce.vm = .none) (hcl : s.vm.findClass E = some ce.cls)
    (hx : ∀ t : State, t.heap = H → s.vm.Alike t.vm → XC E s t) (hf : ∀ z ∈ locs, free z.base) (hc : cells ≤ mc) (hs : slots ≤ ms) :
    vx_W p l e R s m args below meth c H locs cells slots (vx_MQ below Qc XC args s mc ms free) (F0 m pc ls rest) q := by
  intro T hT X
  obtain ⟨st1, hrun, hend, hW, hsm⟩ := X.leaveThrown q (g := F0 m pc ls rest) rfl rfl rfl hout hlocks
  have hcell9 : (T.setFrames (.throwing q :: below)).heap[q]? = some ce := by
    show T.heap[q]? = some ce
    rw [hT]; exact hcell
  exact ⟨_, st1, .threw q, hrun, hend, Or.inr ⟨q, rfl, E, ce, locs, hx _ hT hW.alike, hcell9, hv, hcl, hW, hsm.mono hc hs, hf⟩⟩
theorem vx_frame {U : State} {k n : Nat} (h : s.sameButNew ({ U with vm := s.vm } : State) locs k n) : s.heap.size ≤ U.heap.size ∧ ∀ q : Nat, q < s.heap.size → (∀ z ∈ locs, z.base ≠ q) → U.heap[q]? = s.heap[q]? := by
  obtain ⟨-, h2, -, -, -, h6⟩ := h
  refine ⟨h2, fun q hq hz => ?_⟩
  obtain ⟨c9, e1, e2, e3, e4⟩ := h6 q _ (Array.getElem?_eq_getElem hq)
  have hs : c9.slots = (s.heap[q]).slots := Array.ext_getElem? fun i => e4 i fun hm => hz _ hm rfl
  have h9 : c9 = s.heap[q] := by
    rw [hs] at e2
    exact e2
  have e5 : U.heap[q]? = some c9 := e1
  rw [e5, h9, Array.getElem?_eq_getElem hq]
/-- the words of a throw but the four that speak of the heap -/
def vx_no (w : Cond) : Bool := decide (w ≠ .isRef (.static Bundle.tN "UNASSIGNED_STACK" Bundle.steD)) && decide (w ≠ .isRef (.static Bundle.tN "SUPPRESSED_SENTINEL" Bundle.listD)) && decide (w ≠ .laysStatic Bundle.tN "UNASSIGNED_STACK" Bundle.steD) && decide (w ≠ .laysStatic Bundle.tN "SUPPRESSED_SENTINEL" Bundle.listD)
def vx_at0 (own : String) (ic : Nat) (X : String) (names : List String) : List Cond := (Bundle.ownAtoms0 own ic X names).filter vx_no
def vx_atS (own : String) (ic : Nat) (X : String) (names : List String) : List Cond := (Bundle.ownAtoms own ic X names).filter vx_no
/-- a word that the tables alone decide, or a good one -/
def vx_ot (w : Cond) : Bool := w.onTables || goodWord w
theorem vx_ot_at {args a' : Array Value} {s U : State} {w : Cond} (hW : s.WarmedH U.vm) (hvm : s.vm = U.vm) (hg : vx_ot w = true) (h : w.before args s = true) : w.before a' U = true := by
  simp only [vx_ot, Bool.or_eq_true] at hg
  rcases hg with hg | hg
  · exact va_tabs hg hvm h
  · exact word_at hW (good_of_word hg) h
/-- a list's words: the good ones out of the method's own list, the others by premises of their own -/
theorem vx_hat {args : Array Value} {s : State} {L B : List Cond} (h1 : ∀ w ∈ L.filter goodWord, w.before args s = true) (h2 : ∀ w ∈ L.filter (fun w => !goodWord w), w ∈ B) (h3 : ∀ w ∈ B, w.before args s = true) : ∀ w ∈ L, w.before args s = true := by
  intro w hw
  by_cases g : goodWord w = true
  · exact h1 w (List.mem_filter.mpr ⟨hw, g⟩)
  · refine h3 w (h2 w (List.mem_filter.mpr ⟨hw, ?_⟩))
    show (!goodWord w) = true
    cases hgw : goodWord w
    · rfl
    · exact absurd hgw g
theorem vx_c {args : Array Value} {s : State} {w : Cond} {B : List Cond} (h : w.before args s = true) (t : ∀ w ∈ B, w.before args s = true) : ∀ w' ∈ w :: B, w'.before args s = true := fun w' h' => (List.mem_cons.mp h').elim (fun e => by rw [e]; exact h) (t w')
theorem vx_n {args : Array Value} {s : State} : ∀ w ∈ ([] : List Cond), w.before args s = true := fun _ h => nomatch h
theorem vx_own {args : Array Value} {s : State} {L : List Cond} (h1 : ∀ w ∈ L.filter vx_no, w.before args s = true)
    (hU : (Cond.isRef (.static Bundle.tN "UNASSIGNED_STACK" Bundle.steD)).before args s = true) (hN : (Cond.isRef (.static Bundle.tN "SUPPRESSED_SENTINEL" Bundle.listD)).before args s = true)
    (lU : (Cond.laysStatic Bundle.tN "UNASSIGNED_STACK" Bundle.steD).before args s = true) (lN : (Cond.laysStatic Bundle.tN "SUPPRESSED_SENTINEL" Bundle.listD).before args s = true) : ∀ w ∈ L, w.before args s = true := by
  intro w hw
  by_cases e1 : w = .isRef (.static Bundle.tN "UNASSIGNED_STACK" Bundle.steD)
  · rw [e1]; exact hU
  · by_cases e2 : w = .isRef (.static Bundle.tN "SUPPRESSED_SENTINEL" Bundle.listD)
    · rw [e2]; exact hN
    · by_cases e3 : w = .laysStatic Bundle.tN "UNASSIGNED_STACK" Bundle.steD
      · rw [e3]; exact lU
      · by_cases e4 : w = .laysStatic Bundle.tN "SUPPRESSED_SENTINEL" Bundle.listD
        · rw [e4]; exact lN
        · exact h1 w (List.mem_filter.mpr ⟨hw, by unfold vx_no; rw [decide_eq_true e1, decide_eq_true e2, decide_eq_true e3, decide_eq_true e4]; rfl⟩)
/-- where a static field lies, its class's statics cell in H -/
def vx_L (C n d : String) (A : Nat → Prop) (U : State) (H : Heap) : Prop := ∃ (c : ClassId) (k : Class) (i : Nat) (f : Field) (a : Nat) (cell : Cell), U.vm.findClass C = some c ∧ U.fieldFound? C n d = some (c, k, i, f) ∧ f.isStatic = true ∧ k.statics = some a ∧ H[a]? = some cell ∧ cell.vm.isStatics = true ∧ cell.cls = c ∧ f.slot < cell.slots.size ∧ k.staticTypes[f.slot]? = some f.type ∧ ¬ A a
theorem vx_L.moved {C n d : String} {A : Nat → Prop} {u U : State} {H : Heap} (hvm : u.vm.Alike U.vm) (h : vx_L C n d A u H) : vx_L C n d A U H := by
  obtain ⟨c, k, i, f, a, cell, h1, h2, h3, h4, h5, h6, h7, h8, h9, h10⟩ := h
  obtain ⟨k', hi', he⟩ := State.fieldFound?_setVm hvm h2
  exact ⟨c, k', i, f, a, cell, by rw [hvm.findClass]; exact h1, hi', h3, by rw [he]; exact h4, h5, h6, h7, h8, by rw [he]; exact h9, h10⟩
theorem vx_L.kept {C n d : String} {A : Nat → Prop} {U : State} {H H1 : Heap} (h : vx_L C n d A U H) (hq : ∀ a : Nat, a < H.size → ¬ A a → H1[a]? = H[a]?) : vx_L C n d A U H1 := by
  obtain ⟨c, k, i, f, a, cell, h1, h2, h3, h4, h5, h6, h7, h8, h9, h10⟩ := h
  exact ⟨c, k, i, f, a, cell, h1, h2, h3, h4, by rw [hq a (Array.getElem?_eq_some_iff.mp h5).1 h10]; exact h5, h6, h7, h8, h9, h10⟩
theorem vx_L.narrow {C n d : String} {A B : Nat → Prop} {U : State} {H : Heap} (h : vx_L C n d A U H) (hAB : ∀ q, B q → A q) : vx_L C n d B U H := by
  obtain ⟨c, k, i, f, a, cell, h1, h2, h3, h4, h5, h6, h7, h8, h9, h10⟩ := h
  exact ⟨c, k, i, f, a, cell, h1, h2, h3, h4, h5, h6, h7, h8, h9, fun z => h10 (hAB _ z)⟩
theorem vx_L.word {C n d : String} {A : Nat → Prop} {s : State} {args : Array Value} (h : vx_L C n d A s s.heap) : (Cond.laysStatic C n d).before args s = true := by
  obtain ⟨c, k, i, f, a, cell, h1, h2, h3, h4, h5, h6, h7, h8, h9, -⟩ := h
  show (Cond.laysStatic C n d).holds args s none s [] = true
  exact Cond.laysStatic_of h1 h2 h3 h4 h5 h6 h7 h8 h9
/-- .. and what it holds: null or some reference -/
def vx_Zq (C n d : String) (A : Nat → Prop) (U : State) (H : Heap) : Prop := va_Zq C n d A U H ∧ vx_L C n d A U H
theorem vx_Zq.moved {C n d : String} {A : Nat → Prop} {u U : State} {H : Heap} (hvm : u.vm.Alike U.vm) (h : vx_Zq C n d A u H) : vx_Zq C n d A U H := ⟨va_Zq.moved hvm h.1, vx_L.moved hvm h.2⟩
theorem vx_Zq.kept {C n d : String} {A : Nat → Prop} {U : State} {H H1 : Heap} (h : vx_Zq C n d A U H) (hq : ∀ a : Nat, a < H.size → ¬ A a → H1[a]? = H[a]?) : vx_Zq C n d A U H1 := ⟨va_Zq.kept h.1 hq, vx_L.kept h.2 hq⟩
theorem vx_Zq.narrow {C n d : String} {A B : Nat → Prop} {U : State} {H : Heap} (h : vx_Zq C n d A U H) (hAB : ∀ q, B q → A q) : vx_Zq C n d B U H := ⟨va_Zq.narrow h.1 hAB, vx_L.narrow h.2 hAB⟩
theorem vx_Zqof {args : Array Value} {s : State} {C n d : String} {A : Nat → Prop} (hl : (Cond.laysStatic C n d).before args s = true) (hini : (Cond.initialized C).before args s = true) (h : (Cond.isRef (.static C n d)).before args s = true) (hA : ∀ a : Nat, a < s.heap.size → ¬ A a) : vx_Zq C n d A s s.heap := by
  refine ⟨va_Zqof hl hini h hA, ?_⟩
  obtain ⟨c, k, i, f, a, cell, h1, h2, h3, h4, h5, h6, h7, h8, h9⟩ := Cond.laysStatic_spec hl
  exact ⟨c, k, i, f, a, cell, h1, h2, h3, h4, h5, h6, h7, h8, h9, hA a (Array.getElem?_eq_some_iff.mp h5).1⟩
theorem vx_isRef {C n d : String} {v : Value} {A : Nat → Prop} {s : State} {args : Array Value} (h : va_Z C n d v A s s.heap) (hv : v.isRef = true) : (Cond.isRef (.static C n d)).before args s = true := by
  obtain ⟨cf, kf, fi, f, a, cell, h1, h2, h3, h4, h5, h6, h7, -⟩ := h
  have he : (Term.static C n d).eval args s none [] s = some v := by
    simp [Term.eval, State.fieldNamed?, h1, h2, h4, h5, h6, h7]
  simp only [Cond.before, Cond.holds, Cond.value, he]
  cases v <;> simp_all [Value.isRef]
theorem vx_isRefq {C n d : String} {A : Nat → Prop} {s : State} {args : Array Value} (h : va_Zq C n d A s s.heap) : (Cond.isRef (.static C n d)).before args s = true := by
  rcases h with h | ⟨t, h⟩
  · exact vx_isRef h rfl
  · exact vx_isRef h rfl
/-- the same frame, seen from here: as if the method were called anew in this heap -/
theorem vx_rebase {T : State} (X : Stand p l e R s m args below meth c T locs cells slots) {R' : Room} (hf : R'.frames ≤ R.frames) (hl : R'.locals ≤ R.locals) (hc : cells + R'.cells ≤ R.cells) (hs : slots + R'.slots ≤ R.slots) :
    Stand p l e R' ((T.setVm s.vm).setFrames (.invoking m args :: below)) m args below meth c T [] 0 0 := by
  have htop : (T.setVm s.vm).topJava?.isSome := X.here.top
  have hF : ((T.setVm s.vm).setFrames (.invoking m args :: below)).frames = .invoking m args :: below := State.frames_setFrames _ (State.cur_lt_of_top htop)
  obtain ⟨g₀, hg0⟩ := Option.isSome_iff_exists.mp htop
  obtain ⟨r, hr⟩ := State.topJava?_eq_some.mp hg0
  have hl9 : e.platform.stackLimits (T.setVm s.vm).me = e.platform.stackLimits s.me := X.limits
  have hb9 : (T.setVm s.vm).me.stackBytes = s.me.stackBytes := X.bytes
  refine ⟨X.admits, X.cas, X.clock, hF, ?_, X.hears, X.method, X.code, X.here, X.tail, X.warmed, ?_, ?_, ?_⟩
  · have h := X.room
    have hU : ((T.setVm s.vm).setFrames (.invoking m args :: below)).localsInUse = s.localsInUse := by
      rw [State.localsInUse_invoking hF (meth := meth) (c := c) X.method X.code, State.localsInUse_invoking X.frames X.method X.code]
    simp only [State.hasRoom, Bool.and_eq_true, decide_eq_true_eq] at h ⊢
    obtain ⟨⟨⟨⟨h1, h2, h3, h4, h5, h6⟩, h7⟩, h8⟩, h9⟩ := h
    rw [X.frames, List.length_cons] at h2 h3
    have q1 := X.heapSize
    have q2 := X.used
    simp only [hF, hU, List.length_cons, State.stackLimits_setFrames, State.stackBytes_setFrames, hl9, hb9]
    refine ⟨⟨⟨⟨by omega, by omega, by omega, by omega, by omega, h6⟩, ?_⟩, ?_⟩, X.book⟩
    · show T.heap.size + R'.cells ≤ e.platform.maxCells
      omega
    · show T.slotsUsed + R'.slots ≤ e.platform.maxSlots
      omega
  · rw [State.stackLimits_setFrames]; rfl
  · rw [State.stackBytes_setFrames]; rfl
  · refine ⟨?_, Nat.le_refl _, Nat.le_refl _, ?_, ?_, fun a c9 h9 => ⟨c9, h9, rfl, rfl, fun _ _ => rfl⟩⟩
    · obtain ⟨t, ht, -⟩ := State.frames_cons hr
      show T.setVm s.vm = { ((T.setVm s.vm).setFrames (.invoking m args :: below)).setFrames (T.setVm s.vm).frames with heap := T.heap, slotsUsed := T.slotsUsed }
      rw [State.setFrames_setFrames, State.setFrames_self ht]
      rfl
    · show T.slotsUsed = T.slotsUsed + ((T.heap.toList.drop T.heap.size).map (·.slots.size)).sum
      rw [List.drop_eq_nil_of_le (Nat.le_of_eq Array.length_toList)]
      rfl
    · show ((T.heap.toList.drop T.heap.size).map (·.slots.size)).sum ≤ 0
      rw [List.drop_eq_nil_of_le (Nat.le_of_eq Array.length_toList)]
      exact Nat.le_refl _
/-- 'throw new E()': new; dup; invokespecial; athrow -/
theorem vx_throw0 {cc : ByteArray} {pc : Nat} (hexec : p.tables.exec = Jvm.exec) (hb : c.code = cc) (hl : l.stackTraces = false) {own cls : String} {names : List String} {ik ic mc ms : Nat} {A : Nat → Prop}
    (hown : s.vm.findClass own = some m.cls) (hcls : Bundle.fit cls = true) (hnames : ∀ n ∈ names, Bundle.fit n = true)
    (hk : (Cond.classLink own ik cls).before args s = true) (hini : (Cond.initialized cls).before args s = true) (hat : ∀ w ∈ vx_at0 own ic cls names, w.before args s = true)
    (hgood : ∀ w ∈ Cond.classLink own ik cls :: Cond.initialized cls :: vx_at0 own ic cls names, vx_ot w = true)
    (hU : vx_Zq Bundle.tN "UNASSIGNED_STACK" Bundle.steD A s s.heap) (hN : vx_Zq Bundle.tN "SUPPRESSED_SENTINEL" Bundle.listD A s s.heap) (hS : va_S A s.heap H locs) (hsize : ls.size = c.maxLocals)
    (d0 : decode cc pc = .ok (.new ik, 3)) (d3 : decode cc (pc + 3) = .ok (.dup, 1)) (d4 : decode cc (pc + 4) = .ok (.invokespecial ic, 3)) (d7 : decode cc (pc + 7) = .ok (.athrow, 1))
    (hout : ∀ x ∈ c.exceptionTable.toList, covers x (pc + 7) = false)
    (hRframes : names.length + 3 < R.frames) (hRlocals : (rest.map fun v => v.category).sum + (13 * (names.length + 1) + 42) ≤ R.locals) (hRcells : cells + 1 ≤ R.cells) (hRslots : slots + 6 ≤ R.slots) (hlocks : meth.locks = false)
    (hx : ∀ t : State, s.vm.Alike t.vm → H.size ≤ t.heap.size → (∀ q : Nat, q < H.size → t.heap[q]? = H[q]?) → XC cls s t)
    (hf : ∀ z ∈ locs, free z.base) (hc : cells + 1 ≤ mc) (hs : slots + 6 ≤ ms) :
    W p l e R s m args below meth c H locs cells slots (vx_MQ below Qc XC args s mc ms free) (F0 m pc ls rest) := by
  intro T hT X
  have htr : e.platform.stackTraces = false := (show e.platform.stackTraces = l.stackTraces by rw [X.admits.platform]).trans hl
  have Y := vx_rebase X (R' := { frames := R.frames, locals := R.locals, cells := 1, slots := 6 }) (Nat.le_refl _) (Nat.le_refl _) hRcells hRslots
  obtain ⟨s', hA⟩ : ∃ z, z = (T.setVm s.vm).setFrames (.invoking m args :: below) := ⟨_, rfl⟩
  rw [← hA] at Y
  have hvm : s'.vm = s.vm := by rw [hA]; rfl
  have hhp : s'.heap = H := by rw [hA]; exact hT
  have hW0 : s.WarmedH s'.vm := by rw [hvm]; exact State.WarmedH.refl s
  have hat' : ∀ w ∈ vx_at0 own ic cls names, w.before args s' = true := fun w hw => vx_ot_at hW0 hvm.symm (hgood w (List.mem_cons_of_mem _ (List.mem_cons_of_mem _ hw))) (hat w hw)
  have hk' : (Cond.classLink own ik cls).before args s' = true := vx_ot_at hW0 hvm.symm (hgood _ List.mem_cons_self) hk
  have hini' : (Cond.initialized cls).before args s' = true := vx_ot_at hW0 hvm.symm (hgood _ (List.mem_cons_of_mem _ List.mem_cons_self)) hini
  have hU' : vx_Zq Bundle.tN "UNASSIGNED_STACK" Bundle.steD A s' s'.heap := by rw [hhp]; exact vx_Zq.moved hW0.alike (hU.kept hS.2.1)
  have hN' : vx_Zq Bundle.tN "SUPPRESSED_SENTINEL" Bundle.listD A s' s'.heap := by rw [hhp]; exact vx_Zq.moved hW0.alike (hN.kept hS.2.1)
  have h : ∀ w ∈ Bundle.ownAtoms0 own ic cls names, w.before args s' = true := vx_own hat' (vx_isRefq hU'.1) (vx_isRefq hN'.1) hU'.2.word hN'.2.word
  have hown' : s'.vm.findClass own = some m.cls := by rw [hvm]; exact hown
  have hins : (Cond.instantiable cls 6).before args s' = true := h _ (by simp [Bundle.ownAtoms0])
  obtain ⟨vm₁, cX, kX, hfX, hkX, -, -, X₁, st1⟩ := Y.newCold hexec (own := own) (C := cls) (index := ik) (n := 6) hown' hk' hins hini'
    (g := F0 m pc ls rest) rfl (by rw [hb]; exact d0) (Nat.le_refl _) (Nat.le_refl _)
  generalize hT1 : (T.setVm vm₁).pushCell { cls := cX, slots := kX.instanceTypes.map defaultValue, vm := .none } = T1 at X₁ st1
  have hcat : (Value.ref T.heap.size).category = 1 := rfl
  have hcellA : T1.heap[T.heap.size]? = some (freshCell cX kX) := by rw [← hT1]; exact State.heap_pushCell_size _ _
  have d3' : decode c.code (pc + 3) = .ok (.dup, 1) := by rw [hb]; exact d3
  obtain ⟨U, hsteps, hrun, hend, hW, hsame, ce, hce, hO⟩ := X₁.ctorThrow0 hexec htr (own := own) (cls := cls) (names := names) (ic := ic) hown' hcls hnames h (fun x hx => nomatch hx) hfX hkX hcellA (by rw [hhp, hT]; exact Nat.le_refl _)
    (g := { method := m, pc := pc + 4, locals := ls, stack := .ref T.heap.size :: .ref T.heap.size :: rest, locked := none }) rfl hsize rfl rfl (rest := rest) rfl
    (by rw [hb]; exact d4) (by rw [hb]; exact d7) hout hRframes (by simp only [List.map_cons, List.sum_cons, hcat]; omega) hlocks
  obtain ⟨f1, f2⟩ := vx_frame hsame
  rw [hhp] at f1 f2
  have hWs : s.WarmedH U.vm := State.WarmedH.trans hW0 hW
  have hcl : s.vm.findClass cls = some ce.cls := by
    have h9 := hO.cls
    rw [hvm] at h9
    exact h9
  have hall : s.sameButNew ({ U with vm := s.vm } : State) locs mc ms := by
    subst hA
    obtain ⟨e1, e2⟩ := hsame
    rw [State.setFrames_setFrames] at e1
    have h2 : (T.setVm s.vm).sameButNew ({ U with vm := s.vm } : State) [] (0 + 1) (0 + 6) := ⟨e1, e2⟩
    have h3 := X.same.trans h2
    rw [List.append_nil] at h3
    exact h3.mono hc hs
  refine ⟨U, ?_, .threw T.heap.size, hrun, hend, Or.inr ⟨T.heap.size, rfl, cls, ce, locs, hx U hWs.alike f1 (fun q hq => f2 q hq (fun z hz => nomatch hz)), hce, hO.vm, hcl, hWs, hall, hf⟩⟩
  refine st1 _ ?_
  show Steps p.tables e below (T1.setTop { method := m, pc := pc + 3, locals := ls, stack := .ref T.heap.size :: rest, locked := none }) _
  jvm_step X₁.here [X₁.here.top, hexec, d3', Value.category]
  exact hsteps
/-- 'throw new E("text")': new; dup; ldc; invokespecial; athrow -/
theorem vx_throwS {cc : ByteArray} {pc : Nat} (hexec : p.tables.exec = Jvm.exec) (hb : c.code = cc) (hl : l.stackTraces = false) {own cls text : String} {names : List String} {ik is ic mc ms sa : Nat} {A : Nat → Prop}
    (hown : s.vm.findClass own = some m.cls) (hcls : Bundle.fit cls = true) (hnames : ∀ n ∈ names, Bundle.fit n = true)
    (hk : (Cond.classLink own ik cls).before args s = true) (hini : (Cond.initialized cls).before args s = true) (hstr : vk_R own is text sa s) (hat : ∀ w ∈ vx_atS own ic cls names, w.before args s = true)
    (hgood : ∀ w ∈ Cond.classLink own ik cls :: Cond.initialized cls :: vx_atS own ic cls names, vx_ot w = true)
    (hU : vx_Zq Bundle.tN "UNASSIGNED_STACK" Bundle.steD A s s.heap) (hN : vx_Zq Bundle.tN "SUPPRESSED_SENTINEL" Bundle.listD A s s.heap) (hS : va_S A s.heap H locs) (hsize : ls.size = c.maxLocals)
    (d0 : decode cc pc = .ok (.new ik, 3)) (d3 : decode cc (pc + 3) = .ok (.dup, 1)) (d4 : decode cc (pc + 4) = .ok (.ldc is, 2)) (d6 : decode cc (pc + 6) = .ok (.invokespecial ic, 3)) (d9 : decode cc (pc + 9) = .ok (.athrow, 1))
    (hout : ∀ x ∈ c.exceptionTable.toList, covers x (pc + 9) = false)
    (hRframes : names.length + 3 < R.frames) (hRlocals : (rest.map fun v => v.category).sum + (13 * (names.length + 1) + 43) ≤ R.locals) (hRcells : cells + 1 ≤ R.cells) (hRslots : slots + 6 ≤ R.slots) (hlocks : meth.locks = false)
    (hx : ∀ t : State, s.vm.Alike t.vm → H.size ≤ t.heap.size → (∀ q : Nat, q < H.size → t.heap[q]? = H[q]?) → XC cls s t)
    (hf : ∀ z ∈ locs, free z.base) (hc : cells + 1 ≤ mc) (hs : slots + 6 ≤ ms) :
    W p l e R s m args below meth c H locs cells slots (vx_MQ below Qc XC args s mc ms free) (F0 m pc ls rest) := by
  intro T hT X
  have htr : e.platform.stackTraces = false := (show e.platform.stackTraces = l.stackTraces by rw [X.admits.platform]).trans hl
  have Y := vx_rebase X (R' := { frames := R.frames, locals := R.locals, cells := 1, slots := 6 }) (Nat.le_refl _) (Nat.le_refl _) hRcells hRslots
  obtain ⟨s', hA⟩ : ∃ z, z = (T.setVm s.vm).setFrames (.invoking m args :: below) := ⟨_, rfl⟩
  rw [← hA] at Y
  have hvm : s'.vm = s.vm := by rw [hA]; rfl
  have hhp : s'.heap = H := by rw [hA]; exact hT
  have hW0 : s.WarmedH s'.vm := by rw [hvm]; exact State.WarmedH.refl s
  have hat' : ∀ w ∈ vx_atS own ic cls names, w.before args s' = true := fun w hw => vx_ot_at hW0 hvm.symm (hgood w (List.mem_cons_of_mem _ (List.mem_cons_of_mem _ hw))) (hat w hw)
  have hk' : (Cond.classLink own ik cls).before args s' = true := vx_ot_at hW0 hvm.symm (hgood _ List.mem_cons_self) hk
  have hini' : (Cond.initialized cls).before args s' = true := vx_ot_at hW0 hvm.symm (hgood _ (List.mem_cons_of_mem _ List.mem_cons_self)) hini
  have hU' : vx_Zq Bundle.tN "UNASSIGNED_STACK" Bundle.steD A s' s'.heap := by rw [hhp]; exact vx_Zq.moved hW0.alike (hU.kept hS.2.1)
  have hN' : vx_Zq Bundle.tN "SUPPRESSED_SENTINEL" Bundle.listD A s' s'.heap := by rw [hhp]; exact vx_Zq.moved hW0.alike (hN.kept hS.2.1)
  have h : ∀ w ∈ Bundle.ownAtoms own ic cls names, w.before args s' = true := vx_own hat' (vx_isRefq hU'.1) (vx_isRefq hN'.1) hU'.2.word hN'.2.word
  have hown' : s'.vm.findClass own = some m.cls := by rw [hvm]; exact hown
  have hins : (Cond.instantiable cls 6).before args s' = true := h _ (by simp [Bundle.ownAtoms])
  obtain ⟨vm₁, cX, kX, hfX, hkX, -, -, X₁, st1⟩ := Y.newCold hexec (own := own) (C := cls) (index := ik) (n := 6) hown' hk' hins hini'
    (g := F0 m pc ls rest) rfl (by rw [hb]; exact d0) (Nat.le_refl _) (Nat.le_refl _)
  generalize hT1 : (T.setVm vm₁).pushCell { cls := cX, slots := kX.instanceTypes.map defaultValue, vm := .none } = T1 at X₁ st1
  have hcat : (Value.ref T.heap.size).category = 1 := rfl
  have hcellA : T1.heap[T.heap.size]? = some (freshCell cX kX) := by rw [← hT1]; exact State.heap_pushCell_size _ _
  have d3' : decode c.code (pc + 3) = .ok (.dup, 1) := by rw [hb]; exact d3
  have d4' : decode c.code (pc + 4) = .ok (.ldc is, 2) := by rw [hb]; exact d4
  have hstr' : vk_R own is text sa s' := vk_R.warm hW0 hstr
  obtain ⟨U, hsteps, hrun, hend, hW, hsame, ce, hce, hO⟩ := X₁.ctorThrowS hexec htr (own := own) (cls := cls) (names := names) (ic := ic) hown' hcls hnames h (fun x hx => nomatch hx) hfX hkX hcellA (by rw [hhp, hT]; exact Nat.le_refl _) (msg := .ref sa) rfl
    (g := { method := m, pc := pc + 6, locals := ls, stack := .ref sa :: .ref T.heap.size :: .ref T.heap.size :: rest, locked := none }) rfl hsize rfl rfl (rest := rest) rfl
    (by rw [hb]; exact d6) (by rw [hb]; exact d9) hout hRframes (by simp only [List.map_cons, List.sum_cons, hcat]; omega) hlocks
  obtain ⟨f1, f2⟩ := vx_frame hsame
  rw [hhp] at f1 f2
  have hWs : s.WarmedH U.vm := State.WarmedH.trans hW0 hW
  have hcl : s.vm.findClass cls = some ce.cls := by
    have h9 := hO.cls
    rw [hvm] at h9
    exact h9
  have hall : s.sameButNew ({ U with vm := s.vm } : State) locs mc ms := by
    subst hA
    obtain ⟨e1, e2⟩ := hsame
    rw [State.setFrames_setFrames] at e1
    have h2 : (T.setVm s.vm).sameButNew ({ U with vm := s.vm } : State) [] (0 + 1) (0 + 6) := ⟨e1, e2⟩
    have h3 := X.same.trans h2
    rw [List.append_nil] at h3
    exact h3.mono hc hs
  refine ⟨U, ?_, .threw T.heap.size, hrun, hend, Or.inr ⟨T.heap.size, rfl, cls, ce, locs, hx U hWs.alike f1 (fun q hq => f2 q hq (fun z hz => nomatch hz)), hce, hO.vm, hcl, hWs, hall, hf⟩⟩
  refine st1 _ ?_
  show Steps p.tables e below (T1.setTop { method := m, pc := pc + 3, locals := ls, stack := .ref T.heap.size :: rest, locked := none }) _
  jvm_step X₁.here [X₁.here.top, hexec, d3', Value.category]
  exact X₁.ldcString hexec (own := own) (text := text) (index := is) (a := sa) hown' hstr'.1 hstr'.2
    (g := { method := m, pc := pc + 4, locals := ls, stack := .ref T.heap.size :: .ref T.heap.size :: rest, locked := none }) rfl d4' _ hsteps
/-- 'throw new E("text")', the text by a wide index -/
theorem vx_throwSW {cc : ByteArray} {pc : Nat} (hexec : p.tables.exec = Jvm.exec) (hb : c.code = cc) (hl : l.stackTraces = false) {own cls text : String} {names : List String} {ik is ic mc ms sa : Nat} {A : Nat → Prop}
    (hown : s.vm.findClass own = some m.cls) (hcls : Bundle.fit cls = true) (hnames : ∀ n ∈ names, Bundle.fit n = true)
    (hk : (Cond.classLink own ik cls).before args s = true) (hini : (Cond.initialized cls).before args s = true) (hstr : vk_R own is text sa s) (hat : ∀ w ∈ vx_atS own ic cls names, w.before args s = true)
    (hgood : ∀ w ∈ Cond.classLink own ik cls :: Cond.initialized cls :: vx_atS own ic cls names, vx_ot w = true)
    (hU : vx_Zq Bundle.tN "UNASSIGNED_STACK" Bundle.steD A s s.heap) (hN : vx_Zq Bundle.tN "SUPPRESSED_SENTINEL" Bundle.listD A s s.heap) (hS : va_S A s.heap H locs) (hsize : ls.size = c.maxLocals)
    (d0 : decode cc pc = .ok (.new ik, 3)) (d3 : decode cc (pc + 3) = .ok (.dup, 1)) (d4 : decode cc (pc + 4) = .ok (.ldc_w is, 3)) (d7 : decode cc (pc + 7) = .ok (.invokespecial ic, 3)) (d10 : decode cc (pc + 10) = .ok (.athrow, 1))
    (hout : ∀ x ∈ c.exceptionTable.toList, covers x (pc + 10) = false)
    (hRframes : names.length + 3 < R.frames) (hRlocals : (rest.map fun v => v.category).sum + (13 * (names.length + 1) + 43) ≤ R.locals) (hRcells : cells + 1 ≤ R.cells) (hRslots : slots + 6 ≤ R.slots) (hlocks : meth.locks = false)
    (hx : ∀ t : State, s.vm.Alike t.vm → H.size ≤ t.heap.size → (∀ q : Nat, q < H.size → t.heap[q]? = H[q]?) → XC cls s t)
    (hf : ∀ z ∈ locs, free z.base) (hc : cells + 1 ≤ mc) (hs : slots + 6 ≤ ms) :
    W p l e R s m args below meth c H locs cells slots (vx_MQ below Qc XC args s mc ms free) (F0 m pc ls rest) := by
  intro T hT X
  have htr : e.platform.stackTraces = false := (show e.platform.stackTraces = l.stackTraces by rw [X.admits.platform]).trans hl
  have Y := vx_rebase X (R' := { frames := R.frames, locals := R.locals, cells := 1, slots := 6 }) (Nat.le_refl _) (Nat.le_refl _) hRcells hRslots
  obtain ⟨s', hA⟩ : ∃ z, z = (T.setVm s.vm).setFrames (.invoking m args :: below) := ⟨_, rfl⟩
  rw [← hA] at Y
  have hvm : s'.vm = s.vm := by rw [hA]; rfl
  have hhp : s'.heap = H := by rw [hA]; exact hT
  have hW0 : s.WarmedH s'.vm := by rw [hvm]; exact State.WarmedH.refl s
  have hat' : ∀ w ∈ vx_atS own ic cls names, w.before args s' = true := fun w hw => vx_ot_at hW0 hvm.symm (hgood w (List.mem_cons_of_mem _ (List.mem_cons_of_mem _ hw))) (hat w hw)
  have hk' : (Cond.classLink own ik cls).before args s' = true := vx_ot_at hW0 hvm.symm (hgood _ List.mem_cons_self) hk
  have hini' : (Cond.initialized cls).before args s' = true := vx_ot_at hW0 hvm.symm (hgood _ (List.mem_cons_of_mem _ List.mem_cons_self)) hini
  have hU' : vx_Zq Bundle.tN "UNASSIGNED_STACK" Bundle.steD A s' s'.heap := by rw [hhp]; exact vx_Zq.moved hW0.alike (hU.kept hS.2.1)
  have hN' : vx_Zq Bundle.tN "SUPPRESSED_SENTINEL" Bundle.listD A s' s'.heap := by rw [hhp]; exact vx_Zq.moved hW0.alike (hN.kept hS.2.1)
  have h : ∀ w ∈ Bundle.ownAtoms own ic cls names, w.before args s' = true := vx_own hat' (vx_isRefq hU'.1) (vx_isRefq hN'.1) hU'.2.word hN'.2.word
  have hown' : s'.vm.findClass own = some m.cls := by rw [hvm]; exact hown
  have hins : (Cond.instantiable cls 6).before args s' = true := h _ (by simp [Bundle.ownAtoms])
  obtain ⟨vm₁, cX, kX, hfX, hkX, -, -, X₁, st1⟩ := Y.newCold hexec (own := own) (C := cls) (index := ik) (n := 6) hown' hk' hins hini'
    (g := F0 m pc ls rest) rfl (by rw [hb]; exact d0) (Nat.le_refl _) (Nat.le_refl _)
  generalize hT1 : (T.setVm vm₁).pushCell { cls := cX, slots := kX.instanceTypes.map defaultValue, vm := .none } = T1 at X₁ st1
  have hcat : (Value.ref T.heap.size).category = 1 := rfl
  have hcellA : T1.heap[T.heap.size]? = some (freshCell cX kX) := by rw [← hT1]; exact State.heap_pushCell_size _ _
  have d3' : decode c.code (pc + 3) = .ok (.dup, 1) := by rw [hb]; exact d3
  have d4' : decode c.code (pc + 4) = .ok (.ldc_w is, 3) := by rw [hb]; exact d4
  have hstr' : vk_R own is text sa s' := vk_R.warm hW0 hstr
  obtain ⟨U, hsteps, hrun, hend, hW, hsame, ce, hce, hO⟩ := X₁.ctorThrowS hexec htr (own := own) (cls := cls) (names := names) (ic := ic) hown' hcls hnames h (fun x hx => nomatch hx) hfX hkX hcellA (by rw [hhp, hT]; exact Nat.le_refl _) (msg := .ref sa) rfl
    (g := { method := m, pc := pc + 7, locals := ls, stack := .ref sa :: .ref T.heap.size :: .ref T.heap.size :: rest, locked := none }) rfl hsize rfl rfl (rest := rest) rfl
    (by rw [hb]; exact d7) (by rw [hb]; exact d10) hout hRframes (by simp only [List.map_cons, List.sum_cons, hcat]; omega) hlocks
  obtain ⟨f1, f2⟩ := vx_frame hsame
  rw [hhp] at f1 f2
  have hWs : s.WarmedH U.vm := State.WarmedH.trans hW0 hW
  have hcl : s.vm.findClass cls = some ce.cls := by
    have h9 := hO.cls
    rw [hvm] at h9
    exact h9
  have hall : s.sameButNew ({ U with vm := s.vm } : State) locs mc ms := by
    subst hA
    obtain ⟨e1, e2⟩ := hsame
    rw [State.setFrames_setFrames] at e1
    have h2 : (T.setVm s.vm).sameButNew ({ U with vm := s.vm } : State) [] (0 + 1) (0 + 6) := ⟨e1, e2⟩
    have h3 := X.same.trans h2
    rw [List.append_nil] at h3
    exact h3.mono hc hs
  refine ⟨U, ?_, .threw T.heap.size, hrun, hend, Or.inr ⟨T.heap.size, rfl, cls, ce, locs, hx U hWs.alike f1 (fun q hq => f2 q hq (fun z hz => nomatch hz)), hce, hO.vm, hcl, hWs, hall, hf⟩⟩
  refine st1 _ ?_
  show Steps p.tables e below (T1.setTop { method := m, pc := pc + 3, locals := ls, stack := .ref T.heap.size :: rest, locked := none }) _
  jvm_step X₁.here [X₁.here.top, hexec, d3', Value.category]
  exact X₁.ldcStringW hexec (own := own) (text := text) (index := is) (a := sa) hown' hstr'.1 hstr'.2
    (g := { method := m, pc := pc + 4, locals := ls, stack := .ref T.heap.size :: .ref T.heap.size :: rest, locked := none }) rfl d4' _ hsteps
end Ends
section Bodies
variable {l : Launch}
theorem vx_ofW {y : MethodName} {ws ws' : List Cond} {rm : Room} {Pc : Array Value → State → Prop} {Qc : Array Value → State → Outcome → State → Prop} {XC : String → State → State → Prop} {mc ms : Nat} {free : Addr → Prop} {cc : ByteArray} {maxL : Nat} {ret : Option FieldType}
    (hy : plainName y.cls = true) (hw : ws = Cond.code y cc maxL ret :: ws')
    (body : ∀ p e s m args below meth c s₁, BodyLoose p l y (headSpec ws rm) cc maxL ret e s m args below meth c s₁ → c.maxLocals = maxL → (∀ x ∈ c.exceptionTable.toList, False) → Pc args s →
      W p l e (headSpec ws rm).room s m args below meth c s.heap [] 0 0 (vx_MQ below Qc XC args s mc ms free) (entryFrame m args maxL)) : vx_Met l y ws rm Pc Qc XC mc ms free := by
  refine MetFree.of_bodyS (code := cc) (maxLocals := maxL) (ret := ret) hy ?_ ?_
  · intro args s m h hn
    obtain ⟨meth, c, h1, h2, h3, h4, h5, h6, -, -⟩ := Cond.code_spec hn (atoms_spec (ws := ws) h _ (by rw [hw]; exact List.mem_cons_self))
    exact ⟨meth, c, h1, h2, h3, h4, h5, h6⟩
  · intro p e s m args below meth c s₁ B hml hP _
    have hh0 : s₁.heap = s.heap := by rw [B.state]; rfl
    have ht : ∀ x ∈ c.exceptionTable.toList, False := by
      obtain ⟨meth9, c9, h1, h2, -, -, -, -, h7, -⟩ := Cond.code_spec B.named (atoms_spec (ws := ws) B.pre _ (by rw [hw]; exact List.mem_cons_self))
      cases Option.some.inj (h1.symm.trans B.method)
      cases Option.some.inj (h2.symm.trans (Stand.of_body B).code)
      intro x hx
      rw [Array.isEmpty_iff.mp h7] at hx
      cases hx
    obtain ⟨t, a1, o, b1, b2, b3⟩ := body p e s m args below meth c s₁ B hml ht hP s₁ hh0 (Stand.of_body B)
    exact ⟨t, o, a1, b1, b2, b3⟩
/-- the table of a body with handlers -/
theorem vx_table {p : Program} {x y : MethodName} {S : Spec} {cc bytes : ByteArray} {maxL maxL' : Nat} {ret ret' : Option FieldType} {e : Env} {s s₁ : State} {m : MethodId} {args : Array Value} {below : List Frame} {meth : Method} {c : Code} {hh : List (Nat × Nat × Nat × Nat)}
    (B : BodyLoose p l y S cc maxL ret e s m args below meth c s₁) (h : (Cond.codeWith y bytes maxL' ret' hh).before args s = true) : c.exceptionTable.toList = tableOf hh := by
  obtain ⟨m9, meth9, c9, hn9, h1, h2, -, -, h6, -⟩ := Cond.codeWith_spec h
  cases Option.some.inj (hn9.symm.trans B.named)
  cases Option.some.inj (h1.symm.trans B.method)
  cases Option.some.inj (h2.symm.trans (Stand.of_body B).code)
  rw [← h6, table_eq]
end Bodies
end VXA
/-! ===== END ===== -/
/-! ===== BEGIN a static call of a method with an exception table ===== -/
section VXS
variable {p : Program} {l : Launch} {e : Env} {R : Room} {s : State} {m : MethodId} {args : Array Value} {below : List Frame} {meth : Method} {c : Code} {T : State} {H : Heap} {locs : List Loc} {cells slots : Nat}
abbrev vx_CSW (R : Room) (s : State) (args : Array Value) (own : String) (index : Nat) (y : MethodName) (bytes : ByteArray) (maxL : Nat) (ret : Option FieldType) (hh : List (Nat × Nat × Nat × Nat)) (ws : List Cond) (rm : Room) (mc ms n : Nat) : Prop :=
  (rm.cells = mc ∧ rm.slots = ms ∧ rm.frames + 1 ≤ R.frames ∧ 8 + (maxL + 11) + rm.locals ≤ R.locals ∧ (∀ w ∈ ws, ∀ (a' : Array Value) (U : State), s.WarmedH U.vm → w.before a' U = true) ∧ Cond.codeWith y bytes maxL ret hh ∈ ws) ∧
  (Cond.codeWith y bytes maxL ret hh).before args s = true ∧ (Cond.initialized y.cls).before args s = true ∧ (y.cls ≠ "java/lang/invoke/MethodHandle" ∧ y.cls ≠ "java/lang/invoke/VarHandle") ∧
  (∀ sig, parseMethodDescriptor y.desc = some sig → n = sig.parameters.length) ∧ (Cond.methodLink own index y).before args s = true ∧ (Cond.static y).before args s = true
theorem vx_cwSW {own : String} {index maxL mc ms : Nat} {y : MethodName} {bytes : ByteArray} {ret : Option FieldType} {hh : List (Nat × Nat × Nat × Nat)} {Ts ws ws' : List Cond} {rm : Room} (n : Nat) (ht : ∀ w ∈ Ts, w.before args s = true) (hT : GoodIn Ts (va_wsS own index y ws)) (hw : ws = Cond.codeWith y bytes maxL ret hh :: ws') (hrc : rm.cells = mc) (hrs : rm.slots = ms)
    (hd : y.cls ≠ "java/lang/invoke/MethodHandle" ∧ y.cls ≠ "java/lang/invoke/VarHandle" ∧ (parseMethodDescriptor y.desc).map (fun d => d.parameters.length) = some n) (hR : rm.frames + 1 ≤ R.frames ∧ 8 + (maxL + 11) + rm.locals ≤ R.locals) :
    vx_CSW R s args own index y bytes maxL ret hh ws rm mc ms n := by
  have ok : ∀ w ∈ va_wsS own index y ws, w.before args s = true := fun w h => ht w (hT w h).1
  have hG : GoodIn Ts ws := fun w h => hT w (by unfold va_wsS; exact List.mem_append_right _ h)
  have hc : Cond.codeWith y bytes maxL ret hh ∈ ws := by rw [hw]; exact List.mem_cons_self
  refine ⟨⟨hrc, hrs, hR.1, hR.2, pay_in ht hG, hc⟩, ht _ (hG _ hc).1, ok _ (by simp [va_wsS]), ⟨hd.1, hd.2.1⟩, fun sig h => ?_, ok _ (by simp [va_wsS]), ok _ (by simp [va_wsS])⟩
  have h2 := hd.2.2
  rw [h] at h2
  exact (Option.some.inj h2).symm
theorem vx_callSW (X : Stand p l e R s m args below meth c T locs cells slots) (hexec : p.tables.exec = Jvm.exec) {own : String} {index : Nat} {y : MethodName} {bytes : ByteArray} {maxL : Nat} {ret : Option FieldType} {hh : List (Nat × Nat × Nat × Nat)}
    (hown : s.vm.findClass own = some m.cls) (hlink : (Cond.methodLink own index y).before args s = true) (hstat : (Cond.static y).before args s = true) (hinit : (Cond.initialized y.cls).before args s = true)
    (hcode : (Cond.codeWith y bytes maxL ret hh).before args s = true) (hy : y.cls ≠ "java/lang/invoke/MethodHandle" ∧ y.cls ≠ "java/lang/invoke/VarHandle")
    {W9 : Nat} {Pre : Pt → Array Value → Prop} {Post : Pt → Array Value → Option Value → Pt → Prop} (hK : Back l R p e below s args y 3 W9 Pre Post)
    {g : JFrame} (hg : g.method = m) (hsize : g.locals.size = c.maxLocals) {argsL rest : List Value} (hlen : ∀ sig, parseMethodDescriptor y.desc = some sig → argsL.length = sig.parameters.length)
    (hstack : g.stack = argsL.reverse ++ rest) (hW : 2 * g.monitorRoom + (rest.map fun v => v.category).sum ≤ W9) (hdg : decode c.code g.pc = .ok (.invokestatic index, 3))
    (hpre : ∀ vm₁, s.WarmedH vm₁ → Pre ⟨T.setVm vm₁, locs, cells, slots⟩ argsL.toArray) :
    ∃ (v : Option Value) (vm₁ : Vm) (B : Pt), s.WarmedH vm₁ ∧ Stand p l e R s m args below meth c B.U B.locs B.cells B.slots ∧ Post ⟨T.setVm vm₁, locs, cells, slots⟩ argsL.toArray v B ∧
      ∀ target, Steps p.tables e below (B.U.setTop { g with pc := g.pc + 3, stack := v.toList ++ rest }) target → Steps p.tables e below (T.setTop g) target := by
  obtain ⟨mk, methM, cM, hnamed, hmethM, -, -, -, -, -, -, hsigM⟩ := Cond.codeWith_spec hcode
  have hstatic : methM.isStatic = true := Cond.static_spec hnamed hmethM hstat
  obtain ⟨kP, hkP, -⟩ := className_of_methodNamed hnamed
  have hinitP : kP.init = .initialized := Cond.initialized_spec (findClass_of_methodNamed hnamed) hkP hinit
  obtain ⟨vm₁, X₁, hstep₁⟩ := X.invokestatic hexec hown hlink hnamed hmethM hstatic hkP hinitP hy (g := g) hg (argsL := argsL) (rest := rest) (hlen _ hsigM) hstack hdg
  obtain ⟨v, B, X', hpost, hsteps⟩ := hK m meth c ⟨T.setVm vm₁, locs, cells, slots⟩ { g with stack := rest } (.invokestatic index) mk argsL.toArray X₁ hg hsize hdg hW (X₁.named hnamed) (hpre vm₁ X₁.warmed)
  exact ⟨v, vm₁, B, X₁.warmed, X', hpost, fun target h => hstep₁ _ fun acts => by rw [doInvoke_state]; exact hsteps.trans h⟩
theorem vx_runSW {y : MethodName} {bytes cc : ByteArray} {maxL nL mc ms n index : Nat} {ret : Option FieldType} {hh : List (Nat × Nat × Nat × Nat)} {ws : List Cond} {rm : Room} {Pc : Array Value → State → Prop} {Qc : Array Value → State → Outcome → State → Prop} {free : Addr → Prop} {Ts : List Cond} {own : String} {As rest : List Value} {g : JFrame}
    (S : CallFix p m c cc nL s args Ts own) (hM : Met l y ws rm Pc Qc mc ms free) (cw : vx_CSW R s args own index y bytes maxL ret hh ws rm mc ms n) (hp : PreS s H Pc As)
    (hg : g.method = m) (hn : As.length = n) (hsize : g.locals.size = nL) (hstack : g.stack = As.reverse ++ rest) (hW : 2 * g.monitorRoom + (rest.map fun v => v.category).sum ≤ 8) (hdg : decode cc g.pc = .ok (.invokestatic index, 3)) (hf : cells + mc ≤ R.cells ∧ slots + ms ≤ R.slots) :
    va_Run p l e R s m args below meth c H locs cells slots mc ms g rest (Qc As.toArray) (free) := by
  obtain ⟨⟨hrc, hrs, hfr, hlo, hws, hcw⟩, hcode, hini, hy, hlen, hl, hstt⟩ := cw
  have hK : Back l R p e below s args y 3 8 (PreOf R mc ms Pc) (PostOf Qc mc ms free) := va_backW (hh := hh) (bytes := bytes) (maxL := maxL) (ret := ret) hM hp.1 hrc hrs hfr hlo hws hcw (fun a' U hW => word_at hW (Or.inl (by first | rfl | simp [Cond.onTables, Cond.keeps, Cond.steady])) hini)
  obtain ⟨hx, hb, hml, ho, -⟩ := S
  intro T hT X
  obtain ⟨v, vm₁, ⟨U', l2, c2, s2⟩, hW₁, X', ⟨g', mk, t, L, e1, e2, hq, h1, hL, h2, h3⟩, st⟩ := vx_callSW X hx (hh := hh) (bytes := bytes) (maxL := maxL) (ret := ret) ho hl hstt hini hcode hy hK hg (hsize.trans hml.symm) (argsL := As) (rest := rest) (fun sig h => hn.trans (hlen sig h)) hstack hW (by rw [hb]; exact hdg)
    (fun vm₁ hW₁ => ⟨hf.1, hf.2, hp.2 (T.setVm vm₁) hT hW₁⟩)
  dsimp only [Pt.U, Pt.locs, Pt.cells, Pt.slots] at X' e1 e2 h1 h2 h3 st
  subst h1; subst h2; subst h3
  exact ⟨v, (T.setVm vm₁).calling g' mk As.toArray, t, U', L, hT, X', hL, e1, e2, hq, st⟩
/-- not caught here, past rows that name other classes: it goes on to the caller -/
theorem vx_outP {p : Program} {l : Launch} {e : Env} {R : Room} {s : State} {m : MethodId} {args : Array Value} {below : List Frame} {meth : Method} {c : Code} {H : Heap} {locs : List Loc} {cells slots : Nat} {free : Addr → Prop} {ls : Array Slot} {rest : List Value} {Qc : Array Value → State → Outcome → State → Prop} {XC : String → State → State → Prop}
    {pc : Nat} {own E : String} {ce : Cell} {q : Addr} {mc ms : Nat} (hown : s.vm.findClass own = some m.cls) (hlocks : meth.locks = false)
    (hpass : ∀ z ∈ c.exceptionTable.toList, covers z pc = false ∨ (z.catchType ≠ 0 ∧ ∃ nm : String, (Cond.classLink own z.catchType nm).before args s = true ∧ va_Nc E nm s)) (hcell : H[q]? = some ce) (hv : ce.vm = .none) (hcl : s.vm.findClass E = some ce.cls)
    (hx : ∀ t : State, t.heap = H → s.vm.Alike t.vm → XC E s t) (hf : ∀ z ∈ locs, free z.base) (hc : cells ≤ mc) (hs : slots ≤ ms) :
    vx_W p l e R s m args below meth c H locs cells slots (vx_MQ below Qc XC args s mc ms free) (F0 m pc ls rest) q := by
  intro T hT X
  have hpl : e.platform.magicAccessors = ({} : Platform).magicAccessors := by rw [X.admits.platform]
  obtain ⟨vm', hW', X', st⟩ := X.outThrough hlocks q (g := F0 m pc ls rest) rfl rfl rfl (cell := ce) (by rw [hT]; exact hcell) (by rw [hv]; rfl)
    (by obtain ⟨k9, h9, -⟩ := Vm.findClass_spec hcl; exact ⟨k9, h9⟩) (fun z hz => by
      rcases hpass z hz with h | ⟨hz0, nm, hl1, hn1⟩
      · exact Or.inl h
      · obtain ⟨c6, hc6, hcl6⟩ := Cond.classLink_spec hown hl1 e.platform hpl
        obtain ⟨a8, b8, h1, h2, h3⟩ := hn1
        cases Option.some.inj (h1.symm.trans hcl)
        cases Option.some.inj (h2.symm.trans hc6)
        exact Or.inr ⟨hz0, _, hcl6, h3⟩)
  obtain ⟨g₀, hfr⟩ := X'.frames_eq
  have hcell9 : ((T.setVm vm').setFrames (.throwing q :: below)).heap[q]? = some ce := by
    show T.heap[q]? = some ce
    rw [hT]; exact hcell
  have hend : Ended ((T.setVm vm').setFrames (.throwing q :: below)) below (.threw q) := State.frames_setFrames _ (State.cur_lt_of_frames hfr)
  refine ⟨(T.setVm vm').setFrames (.throwing q :: below), ?_, .threw q, X'.here.running, hend, Or.inr ⟨q, rfl, E, ce, locs, hx _ hT (X'.ends _).1.alike, hcell9, hv, hcl, (X'.ends _).1, (X'.ends _).2.mono hc hs, hf⟩⟩
  rw [X.pushThrowing_eq]
  exact st
/-- a thing of a world lies in the heap -/
theorem vx_lt {D : va_G} {cl : List vw_C} {ws : va_W} {H1 : Heap} (h : va_P D cl ws H1) {k : Nat} {q : Nat × va_E} (hk : ws[k]? = some q) : q.1 < H1.size := (h k q hk).lt
end VXS
/-! ===== END ===== -/
/-! ===== BEGIN methods with a table of their own: called by a name, returning or throwing ===== -/
section VXH
/-! vx_backW, vx_callVX, vx_callSX, vx_callVW, vx_runVW, vx_runVX, vx_runSX, vx_ofWH follow the same proofs as their sisters above (Free/Laws.lean, Shelf42/LK1.lean); vx_outP calls Shelf42/NT130.lean (outThrough). -/
section
variable {l : Launch} {R : Room} {p : Program} {e : Env} {below : List Frame} {s : State} {sargs : Array Value} {y : MethodName} {len W9 : Nat}
theorem vx_backW {ws : List Cond} {rm : Room} {Pc : Array Value → State → Prop} {Qc : Array Value → State → Outcome → State → Prop} {XC : String → State → State → Prop} {mc ms : Nat} {free : Addr → Prop} {bytes : ByteArray} {maxL : Nat} {ret : Option FieldType} {hh : List (Nat × Nat × Nat × Nat)}
    (hM : vx_Met l y ws rm Pc Qc XC mc ms free) (hblind : FrameBlind Pc) (hrc : rm.cells = mc) (hrs : rm.slots = ms)
    (hframes : rm.frames + 1 ≤ R.frames) (hlocals : W9 + (maxL + 11) + rm.locals ≤ R.locals)
    (hws : ∀ w ∈ ws, ∀ a' U, s.WarmedH U.vm → w.before a' U = true) (hcode : Cond.codeWith y bytes maxL ret hh ∈ ws) (hinit : ∀ a' U, s.WarmedH U.vm → (Cond.initialized y.cls).before a' U = true) :
    vx_Back l R p e below s sargs y len W9 (PreOf R mc ms Pc) (PostOf Qc mc ms free) (vx_Post XC mc ms free) := by
  intro m meth c A g ig mk a X hg hsize hdg hW hn hp
  have h1 : (headSpec ws rm).pre.before a A.U = true := atoms_intro fun w hw => hws w hw _ _ X.warmed
  have h2 : (Cond.codeWith y bytes maxL ret hh).before a A.U = true := hws _ hcode _ _ X.warmed
  have h3 : (Cond.initialized y.cls).before a A.U = true := hinit _ _ X.warmed
  have h4 : A.cells + (headSpec ws rm).room.cells ≤ R.cells := by rw [show (headSpec ws rm).room.cells = mc from hrc]; exact hp.1
  have h5 : A.slots + (headSpec ws rm).room.slots ≤ R.slots := by rw [show (headSpec ws rm).room.slots = ms from hrs]; exact hp.2.1
  have hPc : Pc a (A.U.calling g mk a) := hblind _ _ _ _ hp.2.2
  obtain ⟨U, Ls, c0, s0⟩ := A
  dsimp only [Pt.U, Pt.locs, Pt.cells, Pt.slots] at h1 h2 h3 h4 h5 X hn hPc ⊢
  obtain ⟨m9, methY, cY, hn9, hmY, hcY, -, hlY, -⟩ := Cond.codeWith_spec h2
  cases Option.some.inj (hn9.symm.trans hn)
  obtain ⟨kY, hkY, -⟩ := className_of_methodNamed hn
  have hinitY : kY.init = .initialized := Cond.initialized_spec (findClass_of_methodNamed hn) hkY h3
  have h : At U g.method c below := by rw [hg]; exact X.here
  have hlocals9 : W9 + (maxL + 11) + (headSpec ws rm).room.locals ≤ R.locals := hlocals
  have happ : (headSpec ws rm).appliesLoose y e.platform (U.calling g mk a) = true :=
    Spec.appliesLoose_calling (g := g) h hdg hn hkY hinitY
      (X.room_calling (g := g) (R' := (headSpec ws rm).room) hsize hmY hcY hframes (by rw [hlY]; omega) h4 h5) h1
  obtain ⟨mid, hmid⟩ := h.above
  have hfr : (U.setTop g).frames = (.java g :: mid) ++ below := by rw [State.frames_setTop' g h.top, hmid]; rfl
  obtain ⟨o, s₂, hsteps, -, hend, hq⟩ := Steps.callFree hM p X.admits X.cas X.clock (acts := []) hfr happ hPc trivial
  have hq' : vx_Q Qc XC mc ms free a (U.calling g mk a) o s₂ := hq
  rw [State.frames_setTop' g h.top] at hend
  obtain ⟨g₀, hg0⟩ := Option.isSome_iff_exists.mp h.top
  obtain ⟨r, hr⟩ := State.topJava?_eq_some.mp hg0
  have hr' : (({ U with heap := s₂.heap, slotsUsed := s₂.slotsUsed } : State).setVm s₂.vm).frames = .java g₀ :: r := hr
  rcases hq' with ⟨hqc, L, hfe, hL⟩ | ⟨q, rfl, E, ce, L, hx, hce, hcv, hcl, hW₂, hsm, hL⟩
  · obtain ⟨⟨v, rfl⟩, hW₂, e2, q2, q3, q4, q5, q6⟩ := id hfe
    have e3 : s₂ = ({ (U.calling g mk a).setFrames s₂.frames with heap := s₂.heap, slotsUsed := s₂.slotsUsed } : State).setVm s₂.vm := by
      have : s₂ = ({ s₂ with vm := (U.calling g mk a).vm } : State).setVm s₂.vm := rfl
      rw [e2] at this
      exact this
    obtain ⟨c₂, i₂, len₂, hc₂, hd₂, hf₂⟩ := hend
    have hW' : U.WarmedH s₂.vm := hW₂
    have hcc : c₂ = c := by
      have h1 : s₂.code? g.method = U.code? g.method := by
        rw [State.code?_eq, State.code?_eq, hW'.alike.method?]
      exact Option.some.inj (hc₂.symm.trans (h1.trans h.code))
    subst hcc
    have hlen : len₂ = len := by rw [hdg] at hd₂; cases hd₂; rfl
    subst hlen
    have hs₂ : s₂ = (({ U with heap := s₂.heap, slotsUsed := s₂.slotsUsed } : State).setVm s₂.vm).setTop { g with pc := g.pc + len₂, stack := v.toList ++ g.stack } := by
      refine e3.trans ?_
      rw [hf₂, State.calling_eq h.top, State.setFrames_setFrames, State.setTop_of_frames _ hr', hr]
      rfl
    have hsame : U.sameButNew ({ U with heap := s₂.heap, slotsUsed := s₂.slotsUsed } : State) L mc ms := by
      refine ⟨?_, q2, q3, q4, q5, q6⟩
      obtain ⟨t, ht, -⟩ := State.frames_cons hr
      show ({ U with heap := s₂.heap, slotsUsed := s₂.slotsUsed } : State) = { U.setFrames U.frames with heap := s₂.heap, slotsUsed := s₂.slotsUsed }
      rw [State.setFrames_self ht]
    subst hg
    refine Or.inl ⟨v, ⟨(({ U with heap := s₂.heap, slotsUsed := s₂.slotsUsed } : State).setVm s₂.vm), Ls ++ L, c0 + mc, s0 + ms⟩,
      ⟨X.admits, X.cas, X.clock, X.frames, X.room, X.hears, X.method, X.code, (X.here.setHeapUsed s₂.heap s₂.slotsUsed).setVm hW'.alike, X.tail, State.WarmedH.trans X.warmed hW', X.limits, X.bytes, X.same.trans (hsame.setVm s.vm)⟩,
      ⟨g, mk, s₂, L, rfl, rfl, hqc, rfl, hL, rfl, rfl⟩, ?_⟩
    show Steps p.tables e below _ ((({ U with heap := s₂.heap, slotsUsed := s₂.slotsUsed } : State).setVm s₂.vm).setTop { g with pc := g.pc + len₂, stack := v.toList ++ g.stack })
    rw [← hs₂]
    exact hsteps
  · obtain ⟨e2, q2, q3, q4, q5, q6⟩ := id hsm
    have e3 : s₂ = ({ (U.calling g mk a).setFrames s₂.frames with heap := s₂.heap, slotsUsed := s₂.slotsUsed } : State).setVm s₂.vm := by
      have : s₂ = ({ s₂ with vm := (U.calling g mk a).vm } : State).setVm s₂.vm := rfl
      rw [e2] at this
      exact this
    have hf₂ : s₂.frames = .throwing q :: .java g :: U.frames.tail := hend
    have hW' : U.WarmedH s₂.vm := hW₂
    have hs₂ : s₂ = ((({ U with heap := s₂.heap, slotsUsed := s₂.slotsUsed } : State).setVm s₂.vm).setTop g).pushFrame (.throwing q) := by
      refine e3.trans ?_
      rw [hf₂, State.calling_eq h.top, State.setFrames_setFrames, State.pushFrame, State.frames_setTop _ hr', State.setTop_of_frames _ hr', State.setFrames_setFrames, hr]
      rfl
    have hsame : U.sameButNew ({ U with heap := s₂.heap, slotsUsed := s₂.slotsUsed } : State) L mc ms := by
      refine ⟨?_, q2, q3, q4, q5, q6⟩
      obtain ⟨t, ht, -⟩ := State.frames_cons hr
      show ({ U with heap := s₂.heap, slotsUsed := s₂.slotsUsed } : State) = { U.setFrames U.frames with heap := s₂.heap, slotsUsed := s₂.slotsUsed }
      rw [State.setFrames_self ht]
    subst hg
    refine Or.inr ⟨q, ⟨(({ U with heap := s₂.heap, slotsUsed := s₂.slotsUsed } : State).setVm s₂.vm), Ls ++ L, c0 + mc, s0 + ms⟩,
      ⟨X.admits, X.cas, X.clock, X.frames, X.room, X.hears, X.method, X.code, (X.here.setHeapUsed s₂.heap s₂.slotsUsed).setVm hW'.alike, X.tail, State.WarmedH.trans X.warmed hW', X.limits, X.bytes, X.same.trans (hsame.setVm s.vm)⟩,
      ⟨g, mk, s₂, L, E, ce, rfl, rfl, hx, hce, hcv, hcl, rfl, hL, rfl, rfl⟩, ?_⟩
    show Steps p.tables e below _ (((({ U with heap := s₂.heap, slotsUsed := s₂.slotsUsed } : State).setVm s₂.vm).setTop g).pushFrame (.throwing q))
    rw [← hs₂]
    exact hsteps
end
variable {p : Program} {l : Launch} {e : Env} {R : Room} {s : State} {m : MethodId} {args : Array Value} {below : List Frame} {meth : Method} {c : Code} {T : State} {H : Heap} {locs : List Loc} {cells slots : Nat}
theorem vx_callVX (X : Stand p l e R s m args below meth c T locs cells slots) (hexec : p.tables.exec = Jvm.exec) {own C : String} {index : Nat} {y : MethodName} {bytes : ByteArray} {maxL : Nat} {ret : Option FieldType} {hh : List (Nat × Nat × Nat × Nat)}
    (hown : s.vm.findClass own = some m.cls) (hlink : (Cond.methodLink own index y).before args s = true) (hinst : (Cond.instanceMethod y).before args s = true) (hsel : (Cond.selects C y y).before args s = true)
    (hcode : (Cond.codeWith y bytes maxL ret hh).before args s = true) (hy : y.cls ≠ "java/lang/invoke/MethodHandle" ∧ y.cls ≠ "java/lang/invoke/VarHandle")
    {W9 : Nat} {Pre : Pt → Array Value → Prop} {Post : Pt → Array Value → Option Value → Pt → Prop} {PostX : Pt → Array Value → Addr → Pt → Prop} (hK : vx_Back l R p e below s args y 3 W9 Pre Post PostX)
    {b : Addr} {cellB : Cell} (hcell : T.heap[b]? = some cellB) (hobj : cellB.vm.isStatics = false) (hcls : s.vm.findClass C = some cellB.cls)
    {g : JFrame} (hg : g.method = m) (hsize : g.locals.size = c.maxLocals) {argsL rest : List Value} (hlen : ∀ sig, parseMethodDescriptor y.desc = some sig → argsL.length = sig.parameters.length)
    (hstack : g.stack = argsL.reverse ++ .ref b :: rest) (hW : 2 * g.monitorRoom + (rest.map fun v => v.category).sum ≤ W9) (hdg : decode c.code g.pc = .ok (.invokevirtual index, 3))
    (hpre : ∀ vm₁, s.WarmedH vm₁ → Pre ⟨T.setVm vm₁, locs, cells, slots⟩ (Value.ref b :: argsL).toArray) :
    (∃ (v : Option Value) (vm₁ : Vm) (B : Pt), s.WarmedH vm₁ ∧ Stand p l e R s m args below meth c B.U B.locs B.cells B.slots ∧ Post ⟨T.setVm vm₁, locs, cells, slots⟩ (Value.ref b :: argsL).toArray v B ∧
      ∀ target, Steps p.tables e below (B.U.setTop { g with pc := g.pc + 3, stack := v.toList ++ rest }) target → Steps p.tables e below (T.setTop g) target) ∨
    (∃ (q : Addr) (vm₁ : Vm) (B : Pt), s.WarmedH vm₁ ∧ Stand p l e R s m args below meth c B.U B.locs B.cells B.slots ∧ PostX ⟨T.setVm vm₁, locs, cells, slots⟩ (Value.ref b :: argsL).toArray q B ∧
      Steps p.tables e below (T.setTop g) ((B.U.setTop { g with stack := rest }).pushFrame (.throwing q))) := by
  obtain ⟨mk, methM, hnamed, hmethM, hstM, habM⟩ := Cond.instanceMethod_spec hinst
  obtain ⟨m8, methM', cM, hn8, hmethM', -, -, -, -, -, -, hsigM⟩ := Cond.codeWith_spec hcode
  cases Option.some.inj (hn8.symm.trans hnamed)
  cases hmethM.symm.trans hmethM'
  obtain ⟨c2, r2, m2, q1, q2, q3, q4, kP, hkP, hkPi⟩ := Cond.selects_spec hsel
  cases hcls.symm.trans q1
  cases (State.methodFound?_of_named hnamed hy).symm.trans q2
  cases hnamed.symm.trans q3
  have hselP : selectMethod e.platform s.vm cellB.cls mk = .method mk := by rw [Launch.admits_selectMethod X.admits]; exact q4
  obtain ⟨vm₁, X₁, hstep₁⟩ := X.invokevirtual hexec hown hlink hnamed hmethM hstM hkP hkPi hy (a := b) (cell := cellB) hcell
    (fun z h => by rw [h] at hobj; cases hobj) hselP hmethM habM hkP hkPi (g := g) hg (argsL := argsL) (rest := rest) (hlen _ hsigM) hstack hdg
  rcases hK m meth c ⟨T.setVm vm₁, locs, cells, slots⟩ { g with stack := rest } (.invokevirtual index) mk (Value.ref b :: argsL).toArray X₁ hg hsize hdg hW (X₁.named hnamed) (hpre vm₁ X₁.warmed) with ⟨v, B, X', hpost, hsteps⟩ | ⟨q, B, X', hpost, hsteps⟩
  · exact Or.inl ⟨v, vm₁, B, X₁.warmed, X', hpost, fun target h => hstep₁ _ fun acts => by rw [doInvoke_state]; exact hsteps.trans h⟩
  · exact Or.inr ⟨q, vm₁, B, X₁.warmed, X', hpost, hstep₁ _ fun acts => by rw [doInvoke_state]; exact hsteps⟩
theorem vx_callSX (X : Stand p l e R s m args below meth c T locs cells slots) (hexec : p.tables.exec = Jvm.exec) {own : String} {index : Nat} {y : MethodName} {bytes : ByteArray} {maxL : Nat} {ret : Option FieldType} {hh : List (Nat × Nat × Nat × Nat)}
    (hown : s.vm.findClass own = some m.cls) (hlink : (Cond.methodLink own index y).before args s = true) (hstat : (Cond.static y).before args s = true) (hinit : (Cond.initialized y.cls).before args s = true)
    (hcode : (Cond.codeWith y bytes maxL ret hh).before args s = true) (hy : y.cls ≠ "java/lang/invoke/MethodHandle" ∧ y.cls ≠ "java/lang/invoke/VarHandle")
    {W9 : Nat} {Pre : Pt → Array Value → Prop} {Post : Pt → Array Value → Option Value → Pt → Prop} {PostX : Pt → Array Value → Addr → Pt → Prop} (hK : vx_Back l R p e below s args y 3 W9 Pre Post PostX)
    {g : JFrame} (hg : g.method = m) (hsize : g.locals.size = c.maxLocals) {argsL rest : List Value} (hlen : ∀ sig, parseMethodDescriptor y.desc = some sig → argsL.length = sig.parameters.length)
    (hstack : g.stack = argsL.reverse ++ rest) (hW : 2 * g.monitorRoom + (rest.map fun v => v.category).sum ≤ W9) (hdg : decode c.code g.pc = .ok (.invokestatic index, 3))
    (hpre : ∀ vm₁, s.WarmedH vm₁ → Pre ⟨T.setVm vm₁, locs, cells, slots⟩ argsL.toArray) :
    (∃ (v : Option Value) (vm₁ : Vm) (B : Pt), s.WarmedH vm₁ ∧ Stand p l e R s m args below meth c B.U B.locs B.cells B.slots ∧ Post ⟨T.setVm vm₁, locs, cells, slots⟩ argsL.toArray v B ∧
      ∀ target, Steps p.tables e below (B.U.setTop { g with pc := g.pc + 3, stack := v.toList ++ rest }) target → Steps p.tables e below (T.setTop g) target) ∨
    (∃ (q : Addr) (vm₁ : Vm) (B : Pt), s.WarmedH vm₁ ∧ Stand p l e R s m args below meth c B.U B.locs B.cells B.slots ∧ PostX ⟨T.setVm vm₁, locs, cells, slots⟩ argsL.toArray q B ∧
      Steps p.tables e below (T.setTop g) ((B.U.setTop { g with stack := rest }).pushFrame (.throwing q))) := by
  obtain ⟨mk, methM, cM, hnamed, hmethM, -, -, -, -, -, -, hsigM⟩ := Cond.codeWith_spec hcode
  have hstatic : methM.isStatic = true := Cond.static_spec hnamed hmethM hstat
  obtain ⟨kP, hkP, -⟩ := className_of_methodNamed hnamed
  have hinitP : kP.init = .initialized := Cond.initialized_spec (findClass_of_methodNamed hnamed) hkP hinit
  obtain ⟨vm₁, X₁, hstep₁⟩ := X.invokestatic hexec hown hlink hnamed hmethM hstatic hkP hinitP hy (g := g) hg (argsL := argsL) (rest := rest) (hlen _ hsigM) hstack hdg
  rcases hK m meth c ⟨T.setVm vm₁, locs, cells, slots⟩ { g with stack := rest } (.invokestatic index) mk argsL.toArray X₁ hg hsize hdg hW (X₁.named hnamed) (hpre vm₁ X₁.warmed) with ⟨v, B, X', hpost, hsteps⟩ | ⟨q, B, X', hpost, hsteps⟩
  · exact Or.inl ⟨v, vm₁, B, X₁.warmed, X', hpost, fun target h => hstep₁ _ fun acts => by rw [doInvoke_state]; exact hsteps.trans h⟩
  · exact Or.inr ⟨q, vm₁, B, X₁.warmed, X', hpost, hstep₁ _ fun acts => by rw [doInvoke_state]; exact hsteps⟩
theorem vx_callVW (X : Stand p l e R s m args below meth c T locs cells slots) (hexec : p.tables.exec = Jvm.exec) {own C : String} {index : Nat} {y : MethodName} {bytes : ByteArray} {maxL : Nat} {ret : Option FieldType} {hh : List (Nat × Nat × Nat × Nat)}
    (hown : s.vm.findClass own = some m.cls) (hlink : (Cond.methodLink own index y).before args s = true) (hinst : (Cond.instanceMethod y).before args s = true) (hsel : (Cond.selects C y y).before args s = true)
    (hcode : (Cond.codeWith y bytes maxL ret hh).before args s = true) (hy : y.cls ≠ "java/lang/invoke/MethodHandle" ∧ y.cls ≠ "java/lang/invoke/VarHandle")
    {W9 : Nat} {Pre : Pt → Array Value → Prop} {Post : Pt → Array Value → Option Value → Pt → Prop} (hK : Back l R p e below s args y 3 W9 Pre Post)
    {b : Addr} {cellB : Cell} (hcell : T.heap[b]? = some cellB) (hobj : cellB.vm.isStatics = false) (hcls : s.vm.findClass C = some cellB.cls)
    {g : JFrame} (hg : g.method = m) (hsize : g.locals.size = c.maxLocals) {argsL rest : List Value} (hlen : ∀ sig, parseMethodDescriptor y.desc = some sig → argsL.length = sig.parameters.length)
    (hstack : g.stack = argsL.reverse ++ .ref b :: rest) (hW : 2 * g.monitorRoom + (rest.map fun v => v.category).sum ≤ W9) (hdg : decode c.code g.pc = .ok (.invokevirtual index, 3))
    (hpre : ∀ vm₁, s.WarmedH vm₁ → Pre ⟨T.setVm vm₁, locs, cells, slots⟩ (Value.ref b :: argsL).toArray) :
    ∃ (v : Option Value) (vm₁ : Vm) (B : Pt), s.WarmedH vm₁ ∧ Stand p l e R s m args below meth c B.U B.locs B.cells B.slots ∧ Post ⟨T.setVm vm₁, locs, cells, slots⟩ (Value.ref b :: argsL).toArray v B ∧
      ∀ target, Steps p.tables e below (B.U.setTop { g with pc := g.pc + 3, stack := v.toList ++ rest }) target → Steps p.tables e below (T.setTop g) target := by
  obtain ⟨mk, methM, hnamed, hmethM, hstM, habM⟩ := Cond.instanceMethod_spec hinst
  obtain ⟨m8, methM', cM, hn8, hmethM', -, -, -, -, -, -, hsigM⟩ := Cond.codeWith_spec hcode
  cases Option.some.inj (hn8.symm.trans hnamed)
  cases hmethM.symm.trans hmethM'
  obtain ⟨c2, r2, m2, q1, q2, q3, q4, kP, hkP, hkPi⟩ := Cond.selects_spec hsel
  cases hcls.symm.trans q1
  cases (State.methodFound?_of_named hnamed hy).symm.trans q2
  cases hnamed.symm.trans q3
  have hselP : selectMethod e.platform s.vm cellB.cls mk = .method mk := by rw [Launch.admits_selectMethod X.admits]; exact q4
  obtain ⟨vm₁, X₁, hstep₁⟩ := X.invokevirtual hexec hown hlink hnamed hmethM hstM hkP hkPi hy (a := b) (cell := cellB) hcell
    (fun z h => by rw [h] at hobj; cases hobj) hselP hmethM habM hkP hkPi (g := g) hg (argsL := argsL) (rest := rest) (hlen _ hsigM) hstack hdg
  obtain ⟨v, B, X', hpost, hsteps⟩ := hK m meth c ⟨T.setVm vm₁, locs, cells, slots⟩ { g with stack := rest } (.invokevirtual index) mk (Value.ref b :: argsL).toArray X₁ hg hsize hdg hW (X₁.named hnamed) (hpre vm₁ X₁.warmed)
  exact ⟨v, vm₁, B, X₁.warmed, X', hpost, fun target h => hstep₁ _ fun acts => by rw [doInvoke_state]; exact hsteps.trans h⟩
abbrev vx_CVW (R : Room) (s : State) (args : Array Value) (own C : String) (index : Nat) (y : MethodName) (bytes : ByteArray) (maxL : Nat) (ret : Option FieldType) (hh : List (Nat × Nat × Nat × Nat)) (ws : List Cond) (rm : Room) (mc ms n : Nat) : Prop :=
  (rm.cells = mc ∧ rm.slots = ms ∧ rm.frames + 1 ≤ R.frames ∧ 8 + (maxL + 11) + rm.locals ≤ R.locals ∧ (∀ w ∈ ws, ∀ (a' : Array Value) (U : State), s.WarmedH U.vm → w.before a' U = true) ∧ Cond.codeWith y bytes maxL ret hh ∈ ws) ∧
  (Cond.codeWith y bytes maxL ret hh).before args s = true ∧ (Cond.initialized y.cls).before args s = true ∧ (y.cls ≠ "java/lang/invoke/MethodHandle" ∧ y.cls ≠ "java/lang/invoke/VarHandle") ∧
  (∀ sig, parseMethodDescriptor y.desc = some sig → n = sig.parameters.length) ∧ (Cond.methodLink own index y).before args s = true ∧ (Cond.instanceMethod y).before args s = true ∧ (Cond.selects C y y).before args s = true
theorem vx_cwVW {own C : String} {index maxL mc ms : Nat} {y : MethodName} {bytes : ByteArray} {ret : Option FieldType} {hh : List (Nat × Nat × Nat × Nat)} {Ts ws ws' : List Cond} {rm : Room} (n : Nat) (ht : ∀ w ∈ Ts, w.before args s = true) (hT : GoodIn Ts (wsV own index C y ws)) (hw : ws = Cond.codeWith y bytes maxL ret hh :: ws') (hrc : rm.cells = mc) (hrs : rm.slots = ms)
    (hd : y.cls = C ∧ y.cls ≠ "java/lang/invoke/MethodHandle" ∧ y.cls ≠ "java/lang/invoke/VarHandle" ∧ (parseMethodDescriptor y.desc).map (fun d => d.parameters.length) = some n) (hR : rm.frames + 1 ≤ R.frames ∧ 8 + (maxL + 11) + rm.locals ≤ R.locals) :
    vx_CVW R s args own C index y bytes maxL ret hh ws rm mc ms n := by
  obtain ⟨hC, hd⟩ := hd
  subst hC
  have ok : ∀ w ∈ wsV own index y.cls y ws, w.before args s = true := fun w h => ht w (hT w h).1
  have hG : GoodIn Ts ws := fun w h => hT w (by unfold wsV; exact List.mem_append_right _ h)
  have hc : Cond.codeWith y bytes maxL ret hh ∈ ws := by rw [hw]; exact List.mem_cons_self
  refine ⟨⟨hrc, hrs, hR.1, hR.2, pay_in ht hG, hc⟩, ht _ (hG _ hc).1, ok _ (by simp [wsV]), ⟨hd.1, hd.2.1⟩, fun sig h => ?_, ok _ (by simp [wsV]), ok _ (by simp [wsV]), ok _ (by simp [wsV])⟩
  have h2 := hd.2.2
  rw [h] at h2
  exact (Option.some.inj h2).symm
theorem vx_runVW {y : MethodName} {bytes cc : ByteArray} {maxL nL mc ms n index : Nat} {ret : Option FieldType} {hh : List (Nat × Nat × Nat × Nat)} {ws : List Cond} {rm : Room} {Pc : Array Value → State → Prop} {Qc : Array Value → State → Outcome → State → Prop} {free : Addr → Prop} {Ts : List Cond} {own C : String} {b : Addr} {As rest : List Value} {g : JFrame}
    (S : CallFix p m c cc nL s args Ts own) (hM : Met l y ws rm Pc Qc mc ms free) (cw : vx_CVW R s args own C index y bytes maxL ret hh ws rm mc ms n) (hp : PreV s H C b Pc As)
    (hg : g.method = m) (hn : As.length = n) (hsize : g.locals.size = nL) (hstack : g.stack = As.reverse ++ .ref b :: rest) (hW : 2 * g.monitorRoom + (rest.map fun v => v.category).sum ≤ 8) (hdg : decode cc g.pc = .ok (.invokevirtual index, 3)) (hf : cells + mc ≤ R.cells ∧ slots + ms ≤ R.slots) :
    va_Run p l e R s m args below meth c H locs cells slots mc ms g rest (Qc (Value.ref b :: As).toArray) free := by
  obtain ⟨⟨hrc, hrs, hfr, hlo, hws, hcw⟩, hcode, hini, hy, hlen, hl, hin, hse⟩ := cw
  have hK : Back l R p e below s args y 3 8 (PreOf R mc ms Pc) (PostOf Qc mc ms free) := va_backW (hh := hh) (bytes := bytes) (maxL := maxL) (ret := ret) hM hp.1 hrc hrs hfr hlo hws hcw (fun a' U hW => word_at hW (Or.inl (by first | rfl | simp [Cond.onTables, Cond.keeps, Cond.steady])) hini)
  obtain ⟨hx, hb, hml, ho, -⟩ := S
  obtain ⟨-, ⟨cellB, hcB, hoB, hclB⟩, hPc⟩ := hp
  intro T hT X
  obtain ⟨v, vm₁, ⟨U', l2, c2, s2⟩, hW₁, X', ⟨g', mk, t, L, e1, e2, hq, h1, hL, h2, h3⟩, st⟩ := vx_callVW X hx (C := C) (hh := hh) (bytes := bytes) (maxL := maxL) (ret := ret) ho hl hin hse hcode hy hK (by rw [hT]; exact hcB) hoB hclB hg (hsize.trans hml.symm) (argsL := As) (rest := rest) (fun sig h => hn.trans (hlen sig h)) hstack hW (by rw [hb]; exact hdg)
    (fun vm₁ hW₁ => ⟨hf.1, hf.2, hPc (T.setVm vm₁) hT hW₁⟩)
  dsimp only [Pt.U, Pt.locs, Pt.cells, Pt.slots] at X' e1 e2 h1 h2 h3 st
  subst h1; subst h2; subst h3
  exact ⟨v, (T.setVm vm₁).calling g' mk (Value.ref b :: As).toArray, t, U', L, hT, X', hL, e1, e2, hq, st⟩
section
variable {y : MethodName} {bytes cc : ByteArray} {maxL nL mc ms n index : Nat} {ret : Option FieldType} {ws : List Cond} {rm : Room} {Pc : Array Value → State → Prop} {Qc : Array Value → State → Outcome → State → Prop} {XC : String → State → State → Prop} {free : Addr → Prop} {Ts : List Cond} {own C : String} {b : Addr} {As rest : List Value} {g : JFrame}
theorem vx_runVX {hh : List (Nat × Nat × Nat × Nat)} (S : CallFix p m c cc nL s args Ts own) (hM : vx_Met l y ws rm Pc Qc XC mc ms free) (cw : vx_CVW R s args own C index y bytes maxL ret hh ws rm mc ms n) (hp : PreV s H C b Pc As)
    (hg : g.method = m) (hn : As.length = n) (hsize : g.locals.size = nL) (hstack : g.stack = As.reverse ++ .ref b :: rest) (hW : 2 * g.monitorRoom + (rest.map fun v => v.category).sum ≤ 8) (hdg : decode cc g.pc = .ok (.invokevirtual index, 3)) (hf : cells + mc ≤ R.cells ∧ slots + ms ≤ R.slots) :
    vx_Run p l e R s m args below meth c H locs cells slots mc ms g rest (Qc (Value.ref b :: As).toArray) XC free := by
  obtain ⟨⟨hrc, hrs, hfr, hlo, hws, hcw⟩, hcode, hini, hy, hlen, hl, hin, hse⟩ := cw
  have hK : vx_Back l R p e below s args y 3 8 (PreOf R mc ms Pc) (PostOf Qc mc ms free) (vx_Post XC mc ms free) := vx_backW (hh := hh) (bytes := bytes) (maxL := maxL) (ret := ret) hM hp.1 hrc hrs hfr hlo hws hcw (fun a' U hW => word_at hW (Or.inl (by first | rfl | simp [Cond.onTables, Cond.keeps, Cond.steady])) hini)
  obtain ⟨hx, hb, hml, ho, -⟩ := S
  obtain ⟨-, ⟨cellB, hcB, hoB, hclB⟩, hPc⟩ := hp
  intro T hT X
  rcases vx_callVX X hx (C := C) (hh := hh) (bytes := bytes) (maxL := maxL) (ret := ret) ho hl hin hse hcode hy hK (by rw [hT]; exact hcB) hoB hclB hg (hsize.trans hml.symm) (argsL := As) (rest := rest) (fun sig h => hn.trans (hlen sig h)) hstack hW (by rw [hb]; exact hdg)
    (fun vm₁ hW₁ => ⟨hf.1, hf.2, hPc (T.setVm vm₁) hT hW₁⟩) with ⟨v, vm₁, ⟨U', l2, c2, s2⟩, hW₁, X', ⟨g', mk, t, L, e1, e2, hq, h1, hL, h2, h3⟩, st⟩ | ⟨q, vm₁, ⟨U', l2, c2, s2⟩, hW₁, X', ⟨g', mk, t, L, E, ce, e1, e2, hq, hce, hcv, hcl, h1, hL, h2, h3⟩, st⟩
  · dsimp only [Pt.U, Pt.locs, Pt.cells, Pt.slots] at X' e1 e2 h1 h2 h3 st
    subst h1; subst h2; subst h3
    exact Or.inl ⟨v, (T.setVm vm₁).calling g' mk (Value.ref b :: As).toArray, t, U', L, hT, X', hL, e1, e2, hq, st⟩
  · dsimp only [Pt.U, Pt.locs, Pt.cells, Pt.slots] at X' e1 e2 h1 h2 h3 st hcl
    subst h1; subst h2; subst h3
    exact Or.inr ⟨q, (T.setVm vm₁).calling g' mk (Value.ref b :: As).toArray, t, U', L, E, ce, hT, X', hL, e1, e2, hq, hce, hcv, vx_cls hW₁ hcl, st⟩
theorem vx_runSX {hh : List (Nat × Nat × Nat × Nat)} (S : CallFix p m c cc nL s args Ts own) (hM : vx_Met l y ws rm Pc Qc XC mc ms free) (cw : vx_CSW R s args own index y bytes maxL ret hh ws rm mc ms n) (hp : PreS s H Pc As)
    (hg : g.method = m) (hn : As.length = n) (hsize : g.locals.size = nL) (hstack : g.stack = As.reverse ++ rest) (hW : 2 * g.monitorRoom + (rest.map fun v => v.category).sum ≤ 8) (hdg : decode cc g.pc = .ok (.invokestatic index, 3)) (hf : cells + mc ≤ R.cells ∧ slots + ms ≤ R.slots) :
    vx_Run p l e R s m args below meth c H locs cells slots mc ms g rest (Qc As.toArray) XC free := by
  obtain ⟨⟨hrc, hrs, hfr, hlo, hws, hcw⟩, hcode, hini, hy, hlen, hl, hstt⟩ := cw
  have hK : vx_Back l R p e below s args y 3 8 (PreOf R mc ms Pc) (PostOf Qc mc ms free) (vx_Post XC mc ms free) := vx_backW (hh := hh) (bytes := bytes) (maxL := maxL) (ret := ret) hM hp.1 hrc hrs hfr hlo hws hcw (fun a' U hW => word_at hW (Or.inl (by first | rfl | simp [Cond.onTables, Cond.keeps, Cond.steady])) hini)
  obtain ⟨hx, hb, hml, ho, -⟩ := S
  intro T hT X
  rcases vx_callSX X hx (hh := hh) (bytes := bytes) (maxL := maxL) (ret := ret) ho hl hstt hini hcode hy hK hg (hsize.trans hml.symm) (argsL := As) (rest := rest) (fun sig h => hn.trans (hlen sig h)) hstack hW (by rw [hb]; exact hdg)
    (fun vm₁ hW₁ => ⟨hf.1, hf.2, hp.2 (T.setVm vm₁) hT hW₁⟩) with ⟨v, vm₁, ⟨U', l2, c2, s2⟩, hW₁, X', ⟨g', mk, t, L, e1, e2, hq, h1, hL, h2, h3⟩, st⟩ | ⟨q, vm₁, ⟨U', l2, c2, s2⟩, hW₁, X', ⟨g', mk, t, L, E, ce, e1, e2, hq, hce, hcv, hcl, h1, hL, h2, h3⟩, st⟩
  · dsimp only [Pt.U, Pt.locs, Pt.cells, Pt.slots] at X' e1 e2 h1 h2 h3 st
    subst h1; subst h2; subst h3
    exact Or.inl ⟨v, (T.setVm vm₁).calling g' mk As.toArray, t, U', L, hT, X', hL, e1, e2, hq, st⟩
  · dsimp only [Pt.U, Pt.locs, Pt.cells, Pt.slots] at X' e1 e2 h1 h2 h3 st hcl
    subst h1; subst h2; subst h3
    exact Or.inr ⟨q, (T.setVm vm₁).calling g' mk As.toArray, t, U', L, E, ce, hT, X', hL, e1, e2, hq, hce, hcv, vx_cls hW₁ hcl, st⟩
end
end VXH
theorem vx_ofWH {l : Launch} {y : MethodName} {ws ws' : List Cond} {rm : Room} {Pc : Array Value → State → Prop} {Qc : Array Value → State → Outcome → State → Prop} {XC : String → State → State → Prop} {mc ms : Nat} {free : Addr → Prop} {cc : ByteArray} {maxL : Nat} {ret : Option FieldType} {hh : List (Nat × Nat × Nat × Nat)}
    (hy : plainName y.cls = true) (hw : ws = Cond.codeWith y cc maxL ret hh :: ws')
    (body : ∀ p e s m args below meth c s₁, BodyLoose p l y (headSpec ws rm) cc maxL ret e s m args below meth c s₁ → c.maxLocals = maxL → Pc args s →
      W p l e (headSpec ws rm).room s m args below meth c s.heap [] 0 0 (vx_MQ below Qc XC args s mc ms free) (entryFrame m args maxL)) : vx_Met l y ws rm Pc Qc XC mc ms free := by
  refine MetFree.of_bodyS (code := cc) (maxLocals := maxL) (ret := ret) hy ?_ ?_
  · intro args s m h hn
    obtain ⟨m9, meth, c, hn9, h1, h2, h3, h4, -, h5, h6, -⟩ := Cond.codeWith_spec (atoms_spec (ws := ws) h _ (by rw [hw]; exact List.mem_cons_self))
    cases hn.symm.trans hn9
    exact ⟨meth, c, h1, h2, h3, h4, h5, h6⟩
  · intro p e s m args below meth c s₁ B hml hP _
    have hh0 : s₁.heap = s.heap := by rw [B.state]; rfl
    obtain ⟨t, a1, o, b1, b2, b3⟩ := body p e s m args below meth c s₁ B hml hP s₁ hh0 (Stand.of_body B)
    exact ⟨t, o, a1, b1, b2, b3⟩
/-! ===== END ===== -/
end
section
/-! ===== BEGIN printed: names, fields, word lists, decode rows ===== -/
def RX0 : String := "HornBench$Cells"
def TX0 : u_T := fun k => match k with
  | 0 => ("HornBench$Cells", "isIn", "[Z", true)
  | 1 => ("HornBench$Cells", "items", "[I", true)
  | _ => ("HornBench$Cells", "size", "I", false)
def tyX0 : Nat → FieldType := fun k => match k with
  | 0 => .array .boolean
  | 1 => .array .int
  | _ => .int
abbrev wsX00 : List Cond := u_ws RX0 TX0 3
theorem nmX0 : ∀ a, a < 3 → ∀ b, b < 3 → a ≠ b → (TX0 a).2.1 ≠ (TX0 b).2.1 := by decide +kernel
theorem tyX0_ok : ∀ k, k < 3 → parseFieldDescriptor (TX0 k).2.2.1 = some (tyX0 k) := by decide +kernel
abbrev cX0_init : ByteArray := prog_2_method_1_code
def yX0_init : MethodName := ⟨RX0, "<init>", "()V"⟩
abbrev cX0_size : ByteArray := prog_2_method_2_code
def yX0_size : MethodName := ⟨RX0, "size", "()I"⟩
abbrev cX0_item : ByteArray := prog_2_method_3_code
def yX0_item : MethodName := ⟨RX0, "item", "(I)I"⟩
abbrev cX0_holds : ByteArray := prog_2_method_4_code
def yX0_holds : MethodName := ⟨RX0, "holds", "(I)Z"⟩
abbrev cX0_include : ByteArray := prog_2_method_5_code
def yX0_include : MethodName := ⟨RX0, "include", "(I)V"⟩
abbrev cX0_empty : ByteArray := prog_2_method_6_code
def yX0_empty : MethodName := ⟨RX0, "empty", "()V"⟩
def RX1 : String := "HornBench$Evaluator"
def TX1 : u_T := fun k => match k with
  | 0 => ("HornBench$Evaluator", "terms", "LHornBench$Terms;", true)
  | 1 => ("HornBench$Evaluator", "known", "LHornBench$Cells;", true)
  | 2 => ("HornBench$Evaluator", "values", "[I", true)
  | 3 => ("HornBench$Evaluator", "heights", "[I", true)
  | 4 => ("HornBench$Evaluator", "value", "I", false)
  | _ => ("HornBench$Evaluator", "height", "I", false)
def tyX1 : Nat → FieldType := fun k => match k with
  | 0 => .object "HornBench$Terms"
  | 1 => .object "HornBench$Cells"
  | 2 => .array .int
  | 3 => .array .int
  | 4 => .int
  | _ => .int
abbrev wsX10 : List Cond := u_ws RX1 TX1 6
theorem nmX1 : ∀ a, a < 6 → ∀ b, b < 6 → a ≠ b → (TX1 a).2.1 ≠ (TX1 b).2.1 := by decide +kernel
theorem tyX1_ok : ∀ k, k < 6 → parseFieldDescriptor (TX1 k).2.2.1 = some (tyX1 k) := by decide +kernel
abbrev cX1_init : ByteArray := prog_3_method_1_code
def yX1_init : MethodName := ⟨RX1, "<init>", "(LHornBench$Terms;)V"⟩
abbrev cX1_evaluate : ByteArray := prog_3_method_2_code
def yX1_evaluate : MethodName := ⟨RX1, "evaluate", "(I)Z"⟩
abbrev cX1_value : ByteArray := prog_3_method_3_code
def yX1_value : MethodName := ⟨RX1, "value", "()I"⟩
abbrev cX1_find : ByteArray := prog_3_method_4_code
def yX1_find : MethodName := ⟨RX1, "find", "(II)Z"⟩
abbrev cX1_compute : ByteArray := prog_3_method_5_code
def yX1_compute : MethodName := ⟨RX1, "compute", "(II)Z"⟩
abbrev cX1_apply : ByteArray := prog_3_method_6_code
def yX1_apply : MethodName := ⟨RX1, "apply", "(JII)Z"⟩
def RX2 : String := "HornBench$Matcher"
def TX2 : u_T := fun k => match k with
  | 0 => ("HornBench$Matcher", "terms", "LHornBench$Terms;", true)
  | 1 => ("HornBench$Matcher", "links", "[I", true)
  | 2 => ("HornBench$Matcher", "joined", "[I", true)
  | _ => ("HornBench$Matcher", "size", "I", false)
def tyX2 : Nat → FieldType := fun k => match k with
  | 0 => .object "HornBench$Terms"
  | 1 => .array .int
  | 2 => .array .int
  | _ => .int
abbrev wsX20 : List Cond := u_ws RX2 TX2 4
theorem nmX2 : ∀ a, a < 4 → ∀ b, b < 4 → a ≠ b → (TX2 a).2.1 ≠ (TX2 b).2.1 := by decide +kernel
theorem tyX2_ok : ∀ k, k < 4 → parseFieldDescriptor (TX2 k).2.2.1 = some (tyX2 k) := by decide +kernel
abbrev cX2_init : ByteArray := prog_4_method_1_code
def yX2_init : MethodName := ⟨RX2, "<init>", "(LHornBench$Terms;)V"⟩
abbrev cX2_match : ByteArray := prog_4_method_2_code
def yX2_match : MethodName := ⟨RX2, "match", "(IIZ)Z"⟩
abbrev cX2_join : ByteArray := prog_4_method_3_code
def yX2_join : MethodName := ⟨RX2, "join", "(IIZ)Z"⟩
abbrev cX2_root : ByteArray := prog_4_method_4_code
def yX2_root : MethodName := ⟨RX2, "root", "(I)I"⟩
def RX3 : String := "HornBench$Nodes"
def TX3 : u_T := fun k => match k with
  | 0 => ("HornBench$Nodes", "kinds", "[I", true)
  | 1 => ("HornBench$Nodes", "values", "[I", true)
  | 2 => ("HornBench$Nodes", "names", "[J", true)
  | 3 => ("HornBench$Nodes", "firsts", "[I", true)
  | 4 => ("HornBench$Nodes", "nexts", "[I", true)
  | 5 => ("HornBench$Nodes", "froms", "[I", true)
  | 6 => ("HornBench$Nodes", "order", "[I", true)
  | 7 => ("HornBench$Nodes", "heads", "[I", true)
  | 8 => ("HornBench$Nodes", "bodies", "[I", true)
  | 9 => ("HornBench$Nodes", "goals", "[I", true)
  | 10 => ("HornBench$Nodes", "variables", "[I", true)
  | 11 => ("HornBench$Nodes", "uses", "[I", true)
  | 12 => ("HornBench$Nodes", "clauses", "I", false)
  | 13 => ("HornBench$Nodes", "slot", "I", false)
  | _ => ("HornBench$Nodes", "size", "I", false)
def tyX3 : Nat → FieldType := fun k => match k with
  | 0 => .array .int
  | 1 => .array .int
  | 2 => .array .long
  | 3 => .array .int
  | 4 => .array .int
  | 5 => .array .int
  | 6 => .array .int
  | 7 => .array .int
  | 8 => .array .int
  | 9 => .array .int
  | 10 => .array .int
  | 11 => .array .int
  | 12 => .int
  | 13 => .int
  | _ => .int
abbrev wsX30 : List Cond := u_ws RX3 TX3 15
theorem nmX3 : ∀ a, a < 15 → ∀ b, b < 15 → a ≠ b → (TX3 a).2.1 ≠ (TX3 b).2.1 := by decide +kernel
theorem tyX3_ok : ∀ k, k < 15 → parseFieldDescriptor (TX3 k).2.2.1 = some (tyX3 k) := by decide +kernel
abbrev cX3_init : ByteArray := prog_5_method_1_code
def yX3_init : MethodName := ⟨RX3, "<init>", "()V"⟩
abbrev cX3_forget : ByteArray := prog_5_method_2_code
def yX3_forget : MethodName := ⟨RX3, "forget", "()V"⟩
abbrev cX3_keep : ByteArray := prog_5_method_3_code
def yX3_keep : MethodName := ⟨RX3, "keep", "(I)V"⟩
abbrev cX3_remove : ByteArray := prog_5_method_4_code
def yX3_remove : MethodName := ⟨RX3, "remove", "(I)V"⟩
abbrev cX3_begin : ByteArray := prog_5_method_5_code
def yX3_begin : MethodName := ⟨RX3, "begin", "(I)V"⟩
abbrev cX3_make : ByteArray := prog_5_method_6_code
def yX3_make : MethodName := ⟨RX3, "make", "(IIJI)I"⟩
abbrev cX3_chain : ByteArray := prog_5_method_7_code
def yX3_chain : MethodName := ⟨RX3, "chain", "(II)V"⟩
abbrev cX3_chained : ByteArray := prog_5_method_8_code
def yX3_chained : MethodName := ⟨RX3, "chained", "(I)I"⟩
abbrev cX3_isOperatorHere : ByteArray := prog_5_method_9_code
def yX3_isOperatorHere : MethodName := ⟨RX3, "isOperatorHere", "(I)Z"⟩
abbrev cX3_finish : ByteArray := prog_5_method_10_code
def yX3_finish : MethodName := ⟨RX3, "finish", "(IIII)V"⟩
abbrev cX3_clauses : ByteArray := prog_5_method_11_code
def yX3_clauses : MethodName := ⟨RX3, "clauses", "()I"⟩
abbrev cX3_slot : ByteArray := prog_5_method_12_code
def yX3_slot : MethodName := ⟨RX3, "slot", "(I)I"⟩
abbrev cX3_head : ByteArray := prog_5_method_13_code
def yX3_head : MethodName := ⟨RX3, "head", "(I)I"⟩
abbrev cX3_body : ByteArray := prog_5_method_14_code
def yX3_body : MethodName := ⟨RX3, "body", "(I)I"⟩
abbrev cX3_arity : ByteArray := prog_5_method_15_code
def yX3_arity : MethodName := ⟨RX3, "arity", "(I)I"⟩
abbrev cX3_goals : ByteArray := prog_5_method_16_code
def yX3_goals : MethodName := ⟨RX3, "goals", "(I)I"⟩
abbrev cX3_variables : ByteArray := prog_5_method_17_code
def yX3_variables : MethodName := ⟨RX3, "variables", "(I)I"⟩
abbrev cX3_uses : ByteArray := prog_5_method_18_code
def yX3_uses : MethodName := ⟨RX3, "uses", "(I)I"⟩
abbrev cX3_use : ByteArray := prog_5_method_19_code
def yX3_use : MethodName := ⟨RX3, "use", "(I)V"⟩
abbrev cX3_predicates : ByteArray := prog_5_method_20_code
def yX3_predicates : MethodName := ⟨RX3, "predicates", "()I"⟩
abbrev cX3_clauseFor : ByteArray := prog_5_method_21_code
def yX3_clauseFor : MethodName := ⟨RX3, "clauseFor", "(II)I"⟩
abbrev cX3_kind : ByteArray := prog_5_method_22_code
def yX3_kind : MethodName := ⟨RX3, "kind", "(I)I"⟩
abbrev cX3_value : ByteArray := prog_5_method_23_code
def yX3_value : MethodName := ⟨RX3, "value", "(I)I"⟩
abbrev cX3_name : ByteArray := prog_5_method_24_code
def yX3_name : MethodName := ⟨RX3, "name", "(I)J"⟩
abbrev cX3_first : ByteArray := prog_5_method_25_code
def yX3_first : MethodName := ⟨RX3, "first", "(I)I"⟩
abbrev cX3_next : ByteArray := prog_5_method_26_code
def yX3_next : MethodName := ⟨RX3, "next", "(I)I"⟩
abbrev cX3_from : ByteArray := prog_5_method_27_code
def yX3_from : MethodName := ⟨RX3, "from", "(I)I"⟩
abbrev cX3_isAlike : ByteArray := prog_5_method_28_code
def yX3_isAlike : MethodName := ⟨RX3, "isAlike", "(II)Z"⟩
abbrev cX3_isOperator : ByteArray := prog_5_method_29_code
def yX3_isOperator : MethodName := ⟨RX3, "isOperator", "(I)Z"⟩
def RX4 : String := "HornBench$Parser"
def TX4 : u_T := fun k => match k with
  | 0 => ("HornBench$Parser", "tokens", "LHornBench$Tokens;", true)
  | 1 => ("HornBench$Parser", "nodes", "LHornBench$Nodes;", true)
  | 2 => ("HornBench$Parser", "names", "[J", true)
  | 3 => ("HornBench$Parser", "at", "I", false)
  | 4 => ("HornBench$Parser", "kind", "I", false)
  | 5 => ("HornBench$Parser", "refused", "Z", false)
  | 6 => ("HornBench$Parser", "excess", "I", false)
  | 7 => ("HornBench$Parser", "taken", "I", false)
  | 8 => ("HornBench$Parser", "depth", "I", false)
  | 9 => ("HornBench$Parser", "goals", "I", false)
  | _ => ("HornBench$Parser", "variables", "I", false)
def tyX4 : Nat → FieldType := fun k => match k with
  | 0 => .object "HornBench$Tokens"
  | 1 => .object "HornBench$Nodes"
  | 2 => .array .long
  | 3 => .int
  | 4 => .int
  | 5 => .boolean
  | 6 => .int
  | 7 => .int
  | 8 => .int
  | 9 => .int
  | _ => .int
abbrev wsX40 : List Cond := u_ws RX4 TX4 11
theorem nmX4 : ∀ a, a < 11 → ∀ b, b < 11 → a ≠ b → (TX4 a).2.1 ≠ (TX4 b).2.1 := by decide +kernel
theorem tyX4_ok : ∀ k, k < 11 → parseFieldDescriptor (TX4 k).2.2.1 = some (tyX4 k) := by decide +kernel
abbrev cX4_init : ByteArray := prog_6_method_1_code
def yX4_init : MethodName := ⟨RX4, "<init>", "(LHornBench$Tape;LHornBench$Nodes;)V"⟩
abbrev cX4_readProgram : ByteArray := prog_6_method_2_code
def yX4_readProgram : MethodName := ⟨RX4, "readProgram", "()I"⟩
abbrev cX4_readQuestion : ByteArray := prog_6_method_3_code
def yX4_readQuestion : MethodName := ⟨RX4, "readQuestion", "()I"⟩
abbrev cX4_errorPlace : ByteArray := prog_6_method_4_code
def yX4_errorPlace : MethodName := ⟨RX4, "errorPlace", "()I"⟩
abbrev cX4_error : ByteArray := prog_6_method_5_code
def yX4_error : MethodName := ⟨RX4, "error", "()I"⟩
abbrev cX4_start : ByteArray := prog_6_method_6_code
def yX4_start : MethodName := ⟨RX4, "start", "()V"⟩
abbrev cX4_begin : ByteArray := prog_6_method_7_code
def yX4_begin : MethodName := ⟨RX4, "begin", "(I)V"⟩
abbrev cX4_readClause : ByteArray := prog_6_method_8_code
def yX4_readClause : MethodName := ⟨RX4, "readClause", "(I)V"⟩
abbrev cX4_readGoals : ByteArray := prog_6_method_9_code
def yX4_readGoals : MethodName := ⟨RX4, "readGoals", "()I"⟩
abbrev cX4_readGoal : ByteArray := prog_6_method_10_code
def yX4_readGoal : MethodName := ⟨RX4, "readGoal", "()I"⟩
abbrev cX4_readPlainGoal : ByteArray := prog_6_method_11_code
def yX4_readPlainGoal : MethodName := ⟨RX4, "readPlainGoal", "()I"⟩
abbrev cX4_readNot : ByteArray := prog_6_method_12_code
def yX4_readNot : MethodName := ⟨RX4, "readNot", "()I"⟩
abbrev cX4_readVar : ByteArray := prog_6_method_13_code
def yX4_readVar : MethodName := ⟨RX4, "readVar", "()I"⟩
abbrev cX4_readRelation : ByteArray := prog_6_method_14_code
def yX4_readRelation : MethodName := ⟨RX4, "readRelation", "()I"⟩
abbrev cX4_readTerm : ByteArray := prog_6_method_15_code
def yX4_readTerm : MethodName := ⟨RX4, "readTerm", "()I"⟩
abbrev cX4_readProduct : ByteArray := prog_6_method_16_code
def yX4_readProduct : MethodName := ⟨RX4, "readProduct", "()I"⟩
abbrev cX4_readSimple : ByteArray := prog_6_method_17_code
def yX4_readSimple : MethodName := ⟨RX4, "readSimple", "()I"⟩
abbrev cX4_readVariable : ByteArray := prog_6_method_18_code
def yX4_readVariable : MethodName := ⟨RX4, "readVariable", "()I"⟩
abbrev cX4_readNumber : ByteArray := prog_6_method_19_code
def yX4_readNumber : MethodName := ⟨RX4, "readNumber", "(I)I"⟩
abbrev cX4_readName : ByteArray := prog_6_method_20_code
def yX4_readName : MethodName := ⟨RX4, "readName", "()I"⟩
abbrev cX4_readList : ByteArray := prog_6_method_21_code
def yX4_readList : MethodName := ⟨RX4, "readList", "()I"⟩
abbrev cX4_makePairs : ByteArray := prog_6_method_22_code
def yX4_makePairs : MethodName := ⟨RX4, "makePairs", "(II)I"⟩
abbrev cX4_open : ByteArray := prog_6_method_23_code
def yX4_open : MethodName := ⟨RX4, "open", "(I)V"⟩
abbrev cX4_close : ByteArray := prog_6_method_24_code
def yX4_close : MethodName := ⟨RX4, "close", "(I)V"⟩
abbrev cX4_expect : ByteArray := prog_6_method_25_code
def yX4_expect : MethodName := ⟨RX4, "expect", "(I)V"⟩
abbrev cX4_take : ByteArray := prog_6_method_26_code
def yX4_take : MethodName := ⟨RX4, "take", "()V"⟩
abbrev cX4_refuse : ByteArray := prog_6_method_27_code
def yX4_refuse : MethodName := ⟨RX4, "refuse", "()V"⟩
abbrev cX4_tooMany : ByteArray := prog_6_method_28_code
def yX4_tooMany : MethodName := ⟨RX4, "tooMany", "()V"⟩
def RX5 : String := "HornBench$Pen"
def TX5 : u_T := fun k => match k with
  | 0 => ("HornBench$Pen", "terms", "LHornBench$Terms;", true)
  | 1 => ("HornBench$Pen", "paper", "[B", true)
  | 2 => ("HornBench$Pen", "length", "I", false)
  | 3 => ("HornBench$Pen", "draft", "[B", true)
  | 4 => ("HornBench$Pen", "drafted", "I", false)
  | 5 => ("HornBench$Pen", "items", "[I", true)
  | 6 => ("HornBench$Pen", "open", "I", false)
  | 7 => ("HornBench$Pen", "met", "[I", true)
  | 8 => ("HornBench$Pen", "metSize", "I", false)
  | _ => ("HornBench$Pen", "full", "Z", false)
def tyX5 : Nat → FieldType := fun k => match k with
  | 0 => .object "HornBench$Terms"
  | 1 => .array .byte
  | 2 => .int
  | 3 => .array .byte
  | 4 => .int
  | 5 => .array .int
  | 6 => .int
  | 7 => .array .int
  | 8 => .int
  | _ => .boolean
abbrev wsX50 : List Cond := u_ws RX5 TX5 10
theorem nmX5 : ∀ a, a < 10 → ∀ b, b < 10 → a ≠ b → (TX5 a).2.1 ≠ (TX5 b).2.1 := by decide +kernel
theorem tyX5_ok : ∀ k, k < 10 → parseFieldDescriptor (TX5 k).2.2.1 = some (tyX5 k) := by decide +kernel
abbrev cX5_init : ByteArray := prog_7_method_1_code
def yX5_init : MethodName := ⟨RX5, "<init>", "(LHornBench$Terms;)V"⟩
abbrev cX5_length : ByteArray := prog_7_method_2_code
def yX5_length : MethodName := ⟨RX5, "length", "()I"⟩
abbrev cX5_byteOn : ByteArray := prog_7_method_3_code
def yX5_byteOn : MethodName := ⟨RX5, "byteOn", "(I)I"⟩
abbrev cX5_wipe : ByteArray := prog_7_method_4_code
def yX5_wipe : MethodName := ⟨RX5, "wipe", "()V"⟩
abbrev cX5_compose : ByteArray := prog_7_method_5_code
def yX5_compose : MethodName := ⟨RX5, "compose", "(II)Z"⟩
abbrev cX5_writeItem : ByteArray := prog_7_method_6_code
def yX5_writeItem : MethodName := ⟨RX5, "writeItem", "(II)V"⟩
abbrev cX5_writeTerm : ByteArray := prog_7_method_7_code
def yX5_writeTerm : MethodName := ⟨RX5, "writeTerm", "(I)V"⟩
abbrev cX5_writeNamed : ByteArray := prog_7_method_8_code
def yX5_writeNamed : MethodName := ⟨RX5, "writeNamed", "(I)V"⟩
abbrev cX5_writeOperand : ByteArray := prog_7_method_9_code
def yX5_writeOperand : MethodName := ⟨RX5, "writeOperand", "(I)V"⟩
abbrev cX5_writeTail : ByteArray := prog_7_method_10_code
def yX5_writeTail : MethodName := ⟨RX5, "writeTail", "(I)V"⟩
abbrev cX5_writeChain : ByteArray := prog_7_method_11_code
def yX5_writeChain : MethodName := ⟨RX5, "writeChain", "(III)V"⟩
abbrev cX5_writeOneGoal : ByteArray := prog_7_method_12_code
def yX5_writeOneGoal : MethodName := ⟨RX5, "writeOneGoal", "(I)V"⟩
abbrev cX5_writeBetween : ByteArray := prog_7_method_13_code
def yX5_writeBetween : MethodName := ⟨RX5, "writeBetween", "(IIJZ)V"⟩
abbrev cX5_writeName : ByteArray := prog_7_method_14_code
def yX5_writeName : MethodName := ⟨RX5, "writeName", "(J)V"⟩
abbrev cX5_writeDigits : ByteArray := prog_7_method_15_code
def yX5_writeDigits : MethodName := ⟨RX5, "writeDigits", "(I)V"⟩
abbrev cX5_numberOfFree : ByteArray := prog_7_method_16_code
def yX5_numberOfFree : MethodName := ⟨RX5, "numberOfFree", "(I)I"⟩
abbrev cX5_writeByte : ByteArray := prog_7_method_17_code
def yX5_writeByte : MethodName := ⟨RX5, "writeByte", "(I)V"⟩
abbrev cX5_push : ByteArray := prog_7_method_18_code
def yX5_push : MethodName := ⟨RX5, "push", "(II)V"⟩
abbrev cX5_hasRoom : ByteArray := prog_7_method_19_code
def yX5_hasRoom : MethodName := ⟨RX5, "hasRoom", "()Z"⟩
def RX6 : String := "HornBench$Question"
def TX6 : u_T := fun k => match k with
  | 0 => ("HornBench$Question", "nodes", "LHornBench$Nodes;", true)
  | 1 => ("HornBench$Question", "terms", "LHornBench$Terms;", true)
  | 2 => ("HornBench$Question", "matcher", "LHornBench$Matcher;", true)
  | 3 => ("HornBench$Question", "evaluator", "LHornBench$Evaluator;", true)
  | 4 => ("HornBench$Question", "linkGoals", "[I", true)
  | 5 => ("HornBench$Question", "linkNexts", "[I", true)
  | 6 => ("HornBench$Question", "linkCuts", "[I", true)
  | 7 => ("HornBench$Question", "links", "I", false)
  | 8 => ("HornBench$Question", "row", "I", false)
  | 9 => ("HornBench$Question", "choiceGoals", "[I", true)
  | 10 => ("HornBench$Question", "choiceClauses", "[I", true)
  | 11 => ("HornBench$Question", "choiceRows", "[I", true)
  | 12 => ("HornBench$Question", "choiceTrails", "[I", true)
  | 13 => ("HornBench$Question", "choices", "I", false)
  | 14 => ("HornBench$Question", "state", "I", false)
  | 15 => ("HornBench$Question", "again", "Z", false)
  | 16 => ("HornBench$Question", "steps", "I", false)
  | 17 => ("HornBench$Question", "solutions", "I", false)
  | _ => ("HornBench$Question", "cuts", "I", false)
def tyX6 : Nat → FieldType := fun k => match k with
  | 0 => .object "HornBench$Nodes"
  | 1 => .object "HornBench$Terms"
  | 2 => .object "HornBench$Matcher"
  | 3 => .object "HornBench$Evaluator"
  | 4 => .array .int
  | 5 => .array .int
  | 6 => .array .int
  | 7 => .int
  | 8 => .int
  | 9 => .array .int
  | 10 => .array .int
  | 11 => .array .int
  | 12 => .array .int
  | 13 => .int
  | 14 => .int
  | 15 => .boolean
  | 16 => .int
  | 17 => .int
  | _ => .int
abbrev wsX60 : List Cond := u_ws RX6 TX6 19
theorem nmX6 : ∀ a, a < 19 → ∀ b, b < 19 → a ≠ b → (TX6 a).2.1 ≠ (TX6 b).2.1 := by decide +kernel
theorem tyX6_ok : ∀ k, k < 19 → parseFieldDescriptor (TX6 k).2.2.1 = some (tyX6 k) := by decide +kernel
abbrev cX6_init : ByteArray := prog_8_method_1_code
def yX6_init : MethodName := ⟨RX6, "<init>", "(LHornBench$Nodes;LHornBench$Terms;LHornBench$Matcher;)V"⟩
abbrev cX6_begin : ByteArray := prog_8_method_2_code
def yX6_begin : MethodName := ⟨RX6, "begin", "()V"⟩
abbrev cX6_leave : ByteArray := prog_8_method_3_code
def yX6_leave : MethodName := ⟨RX6, "leave", "()V"⟩
abbrev cX6_isThere : ByteArray := prog_8_method_4_code
def yX6_isThere : MethodName := ⟨RX6, "isThere", "()Z"⟩
abbrev cX6_has : ByteArray := prog_8_method_5_code
def yX6_has : MethodName := ⟨RX6, "has", "(I)Z"⟩
abbrev cX6_variables : ByteArray := prog_8_method_6_code
def yX6_variables : MethodName := ⟨RX6, "variables", "()I"⟩
abbrev cX6_goals : ByteArray := prog_8_method_7_code
def yX6_goals : MethodName := ⟨RX6, "goals", "()I"⟩
abbrev cX6_steps : ByteArray := prog_8_method_8_code
def yX6_steps : MethodName := ⟨RX6, "steps", "()I"⟩
abbrev cX6_solutions : ByteArray := prog_8_method_9_code
def yX6_solutions : MethodName := ⟨RX6, "solutions", "()I"⟩
abbrev cX6_cuts : ByteArray := prog_8_method_10_code
def yX6_cuts : MethodName := ⟨RX6, "cuts", "()I"⟩
abbrev cX6_standing : ByteArray := prog_8_method_11_code
def yX6_standing : MethodName := ⟨RX6, "standing", "()I"⟩
abbrev cX6_firstGoal : ByteArray := prog_8_method_12_code
def yX6_firstGoal : MethodName := ⟨RX6, "firstGoal", "()I"⟩
abbrev cX6_advance : ByteArray := prog_8_method_13_code
def yX6_advance : MethodName := ⟨RX6, "advance", "(I)I"⟩
abbrev cX6_settle : ByteArray := prog_8_method_14_code
def yX6_settle : MethodName := ⟨RX6, "settle", "(Z)V"⟩
abbrev cX6_isAtMark : ByteArray := prog_8_method_15_code
def yX6_isAtMark : MethodName := ⟨RX6, "isAtMark", "()Z"⟩
abbrev cX6_goBack : ByteArray := prog_8_method_16_code
def yX6_goBack : MethodName := ⟨RX6, "goBack", "()V"⟩
abbrev cX6_stepAgain : ByteArray := prog_8_method_17_code
def yX6_stepAgain : MethodName := ⟨RX6, "stepAgain", "()Z"⟩
abbrev cX6_step : ByteArray := prog_8_method_18_code
def yX6_step : MethodName := ⟨RX6, "step", "()Z"⟩
abbrev cX6_useClause : ByteArray := prog_8_method_19_code
def yX6_useClause : MethodName := ⟨RX6, "useClause", "(II)Z"⟩
abbrev cX6_assign : ByteArray := prog_8_method_20_code
def yX6_assign : MethodName := ⟨RX6, "assign", "(II)Z"⟩
abbrev cX6_compare : ByteArray := prog_8_method_21_code
def yX6_compare : MethodName := ⟨RX6, "compare", "(III)Z"⟩
abbrev cX6_stopByError : ByteArray := prog_8_method_22_code
def yX6_stopByError : MethodName := ⟨RX6, "stopByError", "()Z"⟩
abbrev cX6_leaveChoice : ByteArray := prog_8_method_23_code
def yX6_leaveChoice : MethodName := ⟨RX6, "leaveChoice", "(III)V"⟩
abbrev cX6_chain : ByteArray := prog_8_method_24_code
def yX6_chain : MethodName := ⟨RX6, "chain", "(III)I"⟩
abbrev cX6_link : ByteArray := prog_8_method_25_code
def yX6_link : MethodName := ⟨RX6, "link", "(III)I"⟩
def RX7 : String := "HornBench$Tape"
def TX7 : u_T := fun k => match k with
  | 0 => ("HornBench$Tape", "bytes", "[B", true)
  | _ => ("HornBench$Tape", "length", "I", false)
def tyX7 : Nat → FieldType := fun k => match k with
  | 0 => .array .byte
  | _ => .int
abbrev wsX70 : List Cond := u_ws RX7 TX7 2
theorem nmX7 : ∀ a, a < 2 → ∀ b, b < 2 → a ≠ b → (TX7 a).2.1 ≠ (TX7 b).2.1 := by decide +kernel
theorem tyX7_ok : ∀ k, k < 2 → parseFieldDescriptor (TX7 k).2.2.1 = some (tyX7 k) := by decide +kernel
abbrev cX7_init : ByteArray := prog_9_method_1_code
def yX7_init : MethodName := ⟨RX7, "<init>", "()V"⟩
abbrev cX7_length : ByteArray := prog_9_method_2_code
def yX7_length : MethodName := ⟨RX7, "length", "()I"⟩
abbrev cX7_hasRoom : ByteArray := prog_9_method_3_code
def yX7_hasRoom : MethodName := ⟨RX7, "hasRoom", "()Z"⟩
abbrev cX7_append : ByteArray := prog_9_method_4_code
def yX7_append : MethodName := ⟨RX7, "append", "(I)V"⟩
abbrev cX7_shorten : ByteArray := prog_9_method_5_code
def yX7_shorten : MethodName := ⟨RX7, "shorten", "(I)V"⟩
abbrev cX7_at : ByteArray := prog_9_method_6_code
def yX7_at : MethodName := ⟨RX7, "at", "(I)I"⟩
def RX8 : String := "HornBench$Terms"
def TX8 : u_T := fun k => match k with
  | 0 => ("HornBench$Terms", "nodes", "LHornBench$Nodes;", true)
  | 1 => ("HornBench$Terms", "slots", "[I", true)
  | 2 => ("HornBench$Terms", "results", "[I", true)
  | 3 => ("HornBench$Terms", "bindings", "[I", true)
  | 4 => ("HornBench$Terms", "trail", "[I", true)
  | 5 => ("HornBench$Terms", "trailed", "I", false)
  | _ => ("HornBench$Terms", "seen", "LHornBench$Cells;", true)
def tyX8 : Nat → FieldType := fun k => match k with
  | 0 => .object "HornBench$Nodes"
  | 1 => .array .int
  | 2 => .array .int
  | 3 => .array .int
  | 4 => .array .int
  | 5 => .int
  | _ => .object "HornBench$Cells"
abbrev wsX80 : List Cond := u_ws RX8 TX8 7
theorem nmX8 : ∀ a, a < 7 → ∀ b, b < 7 → a ≠ b → (TX8 a).2.1 ≠ (TX8 b).2.1 := by decide +kernel
theorem tyX8_ok : ∀ k, k < 7 → parseFieldDescriptor (TX8 k).2.2.1 = some (tyX8 k) := by decide +kernel
abbrev cX8_init : ByteArray := prog_10_method_1_code
def yX8_init : MethodName := ⟨RX8, "<init>", "(LHornBench$Nodes;)V"⟩
abbrev cX8_begin : ByteArray := prog_10_method_2_code
def yX8_begin : MethodName := ⟨RX8, "begin", "()V"⟩
abbrev cX8_open : ByteArray := prog_10_method_3_code
def yX8_open : MethodName := ⟨RX8, "open", "(II)V"⟩
abbrev cX8_head : ByteArray := prog_10_method_4_code
def yX8_head : MethodName := ⟨RX8, "head", "(I)I"⟩
abbrev cX8_body : ByteArray := prog_10_method_5_code
def yX8_body : MethodName := ⟨RX8, "body", "(I)I"⟩
abbrev cX8_node : ByteArray := prog_10_method_6_code
def yX8_node : MethodName := ⟨RX8, "node", "(I)I"⟩
abbrev cX8_kind : ByteArray := prog_10_method_7_code
def yX8_kind : MethodName := ⟨RX8, "kind", "(I)I"⟩
abbrev cX8_name : ByteArray := prog_10_method_8_code
def yX8_name : MethodName := ⟨RX8, "name", "(I)J"⟩
abbrev cX8_isOperator : ByteArray := prog_10_method_9_code
def yX8_isOperator : MethodName := ⟨RX8, "isOperator", "(I)Z"⟩
abbrev cX8_isAlike : ByteArray := prog_10_method_10_code
def yX8_isAlike : MethodName := ⟨RX8, "isAlike", "(II)Z"⟩
abbrev cX8_first : ByteArray := prog_10_method_11_code
def yX8_first : MethodName := ⟨RX8, "first", "(I)I"⟩
abbrev cX8_next : ByteArray := prog_10_method_12_code
def yX8_next : MethodName := ⟨RX8, "next", "(I)I"⟩
abbrev cX8_cell : ByteArray := prog_10_method_13_code
def yX8_cell : MethodName := ⟨RX8, "cell", "(I)I"⟩
abbrev cX8_end : ByteArray := prog_10_method_14_code
def yX8_end : MethodName := ⟨RX8, "end", "(I)I"⟩
abbrev cX8_isFree : ByteArray := prog_10_method_15_code
def yX8_isFree : MethodName := ⟨RX8, "isFree", "(I)Z"⟩
abbrev cX8_isNumber : ByteArray := prog_10_method_16_code
def yX8_isNumber : MethodName := ⟨RX8, "isNumber", "(I)Z"⟩
abbrev cX8_numberOf : ByteArray := prog_10_method_17_code
def yX8_numberOf : MethodName := ⟨RX8, "numberOf", "(I)I"⟩
abbrev cX8_result : ByteArray := prog_10_method_18_code
def yX8_result : MethodName := ⟨RX8, "result", "(II)I"⟩
abbrev cX8_bind : ByteArray := prog_10_method_19_code
def yX8_bind : MethodName := ⟨RX8, "bind", "(II)V"⟩
abbrev cX8_trailed : ByteArray := prog_10_method_20_code
def yX8_trailed : MethodName := ⟨RX8, "trailed", "()I"⟩
abbrev cX8_undo : ByteArray := prog_10_method_21_code
def yX8_undo : MethodName := ⟨RX8, "undo", "(I)V"⟩
abbrev cX8_standsIn : ByteArray := prog_10_method_22_code
def yX8_standsIn : MethodName := ⟨RX8, "standsIn", "(II)Z"⟩
def RX9 : String := "HornBench$Tokens"
def TX9 : u_T := fun k => match k with
  | 0 => ("HornBench$Tokens", "tape", "LHornBench$Tape;", true)
  | 1 => ("HornBench$Tokens", "kinds", "[I", true)
  | 2 => ("HornBench$Tokens", "starts", "[I", true)
  | 3 => ("HornBench$Tokens", "texts", "[J", true)
  | _ => ("HornBench$Tokens", "size", "I", false)
def tyX9 : Nat → FieldType := fun k => match k with
  | 0 => .object "HornBench$Tape"
  | 1 => .array .int
  | 2 => .array .int
  | 3 => .array .long
  | _ => .int
abbrev wsX90 : List Cond := u_ws RX9 TX9 5
theorem nmX9 : ∀ a, a < 5 → ∀ b, b < 5 → a ≠ b → (TX9 a).2.1 ≠ (TX9 b).2.1 := by decide +kernel
theorem tyX9_ok : ∀ k, k < 5 → parseFieldDescriptor (TX9 k).2.2.1 = some (tyX9 k) := by decide +kernel
abbrev cX9_init : ByteArray := prog_11_method_1_code
def yX9_init : MethodName := ⟨RX9, "<init>", "(LHornBench$Tape;)V"⟩
abbrev cX9_kind : ByteArray := prog_11_method_2_code
def yX9_kind : MethodName := ⟨RX9, "kind", "(I)I"⟩
abbrev cX9_start : ByteArray := prog_11_method_3_code
def yX9_start : MethodName := ⟨RX9, "start", "(I)I"⟩
abbrev cX9_text : ByteArray := prog_11_method_4_code
def yX9_text : MethodName := ⟨RX9, "text", "(I)J"⟩
abbrev cX9_read : ByteArray := prog_11_method_5_code
def yX9_read : MethodName := ⟨RX9, "read", "()V"⟩
abbrev cX9_behindBlanks : ByteArray := prog_11_method_6_code
def yX9_behindBlanks : MethodName := ⟨RX9, "behindBlanks", "(I)I"⟩
abbrev cX9_readToken : ByteArray := prog_11_method_7_code
def yX9_readToken : MethodName := ⟨RX9, "readToken", "(I)I"⟩
abbrev cX9_readWord : ByteArray := prog_11_method_8_code
def yX9_readWord : MethodName := ⟨RX9, "readWord", "(I)I"⟩
abbrev cX9_kindOfWord : ByteArray := prog_11_method_9_code
def yX9_kindOfWord : MethodName := ⟨RX9, "kindOfWord", "(J)I"⟩
abbrev cX9_readNumber : ByteArray := prog_11_method_10_code
def yX9_readNumber : MethodName := ⟨RX9, "readNumber", "(I)I"⟩
abbrev cX9_readSymbol : ByteArray := prog_11_method_11_code
def yX9_readSymbol : MethodName := ⟨RX9, "readSymbol", "(III)I"⟩
abbrev cX9_isSymbol : ByteArray := prog_11_method_12_code
def yX9_isSymbol : MethodName := ⟨RX9, "isSymbol", "(I)Z"⟩
abbrev cX9_isSmall : ByteArray := prog_11_method_13_code
def yX9_isSmall : MethodName := ⟨RX9, "isSmall", "(I)Z"⟩
abbrev cX9_isDigit : ByteArray := prog_11_method_14_code
def yX9_isDigit : MethodName := ⟨RX9, "isDigit", "(I)Z"⟩
abbrev cX9_behindWord : ByteArray := prog_11_method_15_code
def yX9_behindWord : MethodName := ⟨RX9, "behindWord", "(I)I"⟩
abbrev cX9_nameOf : ByteArray := prog_11_method_16_code
def yX9_nameOf : MethodName := ⟨RX9, "nameOf", "(II)J"⟩
abbrev cX9_keep : ByteArray := prog_11_method_17_code
def yX9_keep : MethodName := ⟨RX9, "keep", "(IIJI)I"⟩
def RX10 : String := "HornBench"
def TX10 : u_T := fun k => match k with
  | 0 => ("HornBench", "tape", "LHornBench$Tape;", true)
  | 1 => ("HornBench", "nodes", "LHornBench$Nodes;", true)
  | 2 => ("HornBench", "parser", "LHornBench$Parser;", true)
  | 3 => ("HornBench", "terms", "LHornBench$Terms;", true)
  | 4 => ("HornBench", "matcher", "LHornBench$Matcher;", true)
  | 5 => ("HornBench", "question", "LHornBench$Question;", true)
  | 6 => ("HornBench", "pen", "LHornBench$Pen;", true)
  | _ => ("HornBench", "errorPlace", "I", false)
def tyX10 : Nat → FieldType := fun k => match k with
  | 0 => .object "HornBench$Tape"
  | 1 => .object "HornBench$Nodes"
  | 2 => .object "HornBench$Parser"
  | 3 => .object "HornBench$Terms"
  | 4 => .object "HornBench$Matcher"
  | 5 => .object "HornBench$Question"
  | 6 => .object "HornBench$Pen"
  | _ => .int
abbrev wsX100 : List Cond := u_ws RX10 TX10 8
theorem nmX10 : ∀ a, a < 8 → ∀ b, b < 8 → a ≠ b → (TX10 a).2.1 ≠ (TX10 b).2.1 := by decide +kernel
theorem tyX10_ok : ∀ k, k < 8 → parseFieldDescriptor (TX10 k).2.2.1 = some (tyX10 k) := by decide +kernel
abbrev cX10_init : ByteArray := prog_1_method_1_code
def yX10_init : MethodName := ⟨RX10, "<init>", "()V"⟩
abbrev cX10_feed : ByteArray := prog_1_method_2_code
def yX10_feed : MethodName := ⟨RX10, "feed", "(IIIII)I"⟩
abbrev cX10_trim : ByteArray := prog_1_method_3_code
def yX10_trim : MethodName := ⟨RX10, "trim", "(I)I"⟩
abbrev cX10_consult : ByteArray := prog_1_method_4_code
def yX10_consult : MethodName := ⟨RX10, "consult", "()I"⟩
abbrev cX10_add : ByteArray := prog_1_method_5_code
def yX10_add : MethodName := ⟨RX10, "add", "()I"⟩
abbrev cX10_drop : ByteArray := prog_1_method_6_code
def yX10_drop : MethodName := ⟨RX10, "drop", "(I)I"⟩
abbrev cX10_errorAt : ByteArray := prog_1_method_7_code
def yX10_errorAt : MethodName := ⟨RX10, "errorAt", "()I"⟩
abbrev cX10_count : ByteArray := prog_1_method_8_code
def yX10_count : MethodName := ⟨RX10, "count", "(I)I"⟩
abbrev cX10_clause : ByteArray := prog_1_method_9_code
def yX10_clause : MethodName := ⟨RX10, "clause", "(II)I"⟩
abbrev cX10_finishReading : ByteArray := prog_1_method_10_code
def yX10_finishReading : MethodName := ⟨RX10, "finishReading", "(I)I"⟩
abbrev cX10_ask : ByteArray := prog_1_method_11_code
def yX10_ask : MethodName := ⟨RX10, "ask", "()I"⟩
abbrev cX10_run : ByteArray := prog_1_method_12_code
def yX10_run : MethodName := ⟨RX10, "run", "(I)I"⟩
abbrev cX10_status : ByteArray := prog_1_method_13_code
def yX10_status : MethodName := ⟨RX10, "status", "()I"⟩
abbrev cX10_write : ByteArray := prog_1_method_14_code
def yX10_write : MethodName := ⟨RX10, "write", "(I)I"⟩
abbrev cX10_writeGoal : ByteArray := prog_1_method_15_code
def yX10_writeGoal : MethodName := ⟨RX10, "writeGoal", "()I"⟩
abbrev cX10_byteAt : ByteArray := prog_1_method_16_code
def yX10_byteAt : MethodName := ⟨RX10, "byteAt", "(I)I"⟩
abbrev cX10_number : ByteArray := prog_1_method_17_code
def yX10_number : MethodName := ⟨RX10, "number", "(I)I"⟩
abbrev cX10_isSame : ByteArray := prog_1_method_18_code
def yX10_isSame : MethodName := ⟨RX10, "isSame", "(II)Z"⟩
abbrev cX10_stepsEach : ByteArray := prog_1_method_19_code
def yX10_stepsEach : MethodName := ⟨RX10, "stepsEach", "()D"⟩
abbrev cX10_digest : ByteArray := prog_1_method_20_code
def yX10_digest : MethodName := ⟨RX10, "digest", "()J"⟩
abbrev cX10_at : ByteArray := prog_1_method_21_code
def yX10_at : MethodName := ⟨RX10, "at", "([II)I"⟩
abbrev cX10_put : ByteArray := prog_1_method_22_code
def yX10_put : MethodName := ⟨RX10, "put", "([III)V"⟩
def RX11 : String := "HornBenchModel$Clause"
def TX11 : u_T := fun k => match k with
  | 0 => ("HornBenchModel$Clause", "kinds", "[I", true)
  | 1 => ("HornBenchModel$Clause", "values", "[J", true)
  | 2 => ("HornBenchModel$Clause", "firsts", "[I", true)
  | 3 => ("HornBenchModel$Clause", "sizes", "[I", true)
  | 4 => ("HornBenchModel$Clause", "arguments", "[I", true)
  | 5 => ("HornBenchModel$Clause", "parts", "I", false)
  | 6 => ("HornBenchModel$Clause", "used", "I", false)
  | 7 => ("HornBenchModel$Clause", "head", "I", false)
  | 8 => ("HornBenchModel$Clause", "variables", "I", false)
  | 9 => ("HornBenchModel$Clause", "names", "[J", true)
  | 10 => ("HornBenchModel$Clause", "goals", "I", false)
  | 11 => ("HornBenchModel$Clause", "goalKinds", "[I", true)
  | 12 => ("HornBenchModel$Clause", "goalA", "[I", true)
  | 13 => ("HornBenchModel$Clause", "goalB", "[I", true)
  | 14 => ("HornBenchModel$Clause", "nexts", "[I", true)
  | 15 => ("HornBenchModel$Clause", "inners", "[I", true)
  | 16 => ("HornBenchModel$Clause", "first", "I", false)
  | _ => ("HornBenchModel$Clause", "uses", "I", false)
def tyX11 : Nat → FieldType := fun k => match k with
  | 0 => .array .int
  | 1 => .array .long
  | 2 => .array .int
  | 3 => .array .int
  | 4 => .array .int
  | 5 => .int
  | 6 => .int
  | 7 => .int
  | 8 => .int
  | 9 => .array .long
  | 10 => .int
  | 11 => .array .int
  | 12 => .array .int
  | 13 => .array .int
  | 14 => .array .int
  | 15 => .array .int
  | 16 => .int
  | _ => .int
abbrev wsX110 : List Cond := u_ws RX11 TX11 18
theorem nmX11 : ∀ a, a < 18 → ∀ b, b < 18 → a ≠ b → (TX11 a).2.1 ≠ (TX11 b).2.1 := by decide +kernel
theorem tyX11_ok : ∀ k, k < 18 → parseFieldDescriptor (TX11 k).2.2.1 = some (tyX11 k) := by decide +kernel
abbrev cX11_init : ByteArray := prog_14_method_1_code
def yX11_init : MethodName := ⟨RX11, "<init>", "()V"⟩
def RX12 : String := "HornBenchModel"
def TX12 : u_T := fun k => match k with
  | 0 => ("HornBenchModel", "thrown", "I", false)
  | 1 => ("HornBenchModel", "tape", "[I", true)
  | 2 => ("HornBenchModel", "length", "I", false)
  | 3 => ("HornBenchModel", "errorAt", "I", false)
  | 4 => ("HornBenchModel", "kinds", "[I", true)
  | 5 => ("HornBenchModel", "froms", "[I", true)
  | 6 => ("HornBenchModel", "ends", "[I", true)
  | 7 => ("HornBenchModel", "at", "I", false)
  | 8 => ("HornBenchModel", "begin", "I", false)
  | 9 => ("HornBenchModel", "clauses", "I", false)
  | 10 => ("HornBenchModel", "all", "[LHornBenchModel$Clause;", true)
  | 11 => ("HornBenchModel", "paper", "[I", true)
  | 12 => ("HornBenchModel", "papered", "I", false)
  | 13 => ("HornBenchModel", "question", "LHornBenchModel$Clause;", false)
  | 14 => ("HornBenchModel", "asked", "[I", true)
  | 15 => ("HornBenchModel", "status", "I", false)
  | 16 => ("HornBenchModel", "steps", "I", false)
  | 17 => ("HornBenchModel", "solutions", "I", false)
  | 18 => ("HornBenchModel", "cuts", "I", false)
  | 19 => ("HornBenchModel", "cells", "I", false)
  | 20 => ("HornBenchModel", "cellKinds", "[I", true)
  | 21 => ("HornBenchModel", "cellValues", "[J", true)
  | 22 => ("HornBenchModel", "cellFirsts", "[I", true)
  | 23 => ("HornBenchModel", "cellSizes", "[I", true)
  | 24 => ("HornBenchModel", "argumentsTop", "I", false)
  | 25 => ("HornBenchModel", "cellArguments", "[I", true)
  | 26 => ("HornBenchModel", "tour", "I", false)
  | 27 => ("HornBenchModel", "met", "[I", true)
  | 28 => ("HornBenchModel", "found", "[I", true)
  | 29 => ("HornBenchModel", "heights", "[I", true)
  | 30 => ("HornBenchModel", "waiting", "[I", true)
  | 31 => ("HornBenchModel", "bound", "I", false)
  | 32 => ("HornBenchModel", "trail", "[I", true)
  | 33 => ("HornBenchModel", "rowsTop", "I", false)
  | 34 => ("HornBenchModel", "rowKinds", "[I", true)
  | 35 => ("HornBenchModel", "rowA", "[I", true)
  | 36 => ("HornBenchModel", "rowB", "[I", true)
  | 37 => ("HornBenchModel", "rowInner", "[I", true)
  | 38 => ("HornBenchModel", "rowNext", "[I", true)
  | 39 => ("HornBenchModel", "rowCut", "[I", true)
  | 40 => ("HornBenchModel", "row", "I", false)
  | 41 => ("HornBenchModel", "choices", "I", false)
  | 42 => ("HornBenchModel", "areNots", "[Z", true)
  | 43 => ("HornBenchModel", "choiceRow", "[I", true)
  | 44 => ("HornBenchModel", "choiceGoal", "[I", true)
  | 45 => ("HornBenchModel", "choiceClause", "[I", true)
  | 46 => ("HornBenchModel", "choiceBound", "[I", true)
  | 47 => ("HornBenchModel", "choiceCells", "[I", true)
  | 48 => ("HornBenchModel", "choiceArguments", "[I", true)
  | 49 => ("HornBenchModel", "choiceRows", "[I", true)
  | 50 => ("HornBenchModel", "isPending", "Z", false)
  | 51 => ("HornBenchModel", "now", "LHornBenchModel$Clause;", false)
  | 52 => ("HornBenchModel", "tooMany", "I", false)
  | 53 => ("HornBenchModel", "makings", "I", false)
  | 54 => ("HornBenchModel", "made", "[I", true)
  | 55 => ("HornBenchModel", "leaders", "[I", true)
  | 56 => ("HornBenchModel", "lefts", "[I", true)
  | 57 => ("HornBenchModel", "rights", "[I", true)
  | 58 => ("HornBenchModel", "isFault", "Z", false)
  | 59 => ("HornBenchModel", "variablesNow", "[I", true)
  | 60 => ("HornBenchModel", "written", "I", false)
  | _ => ("HornBenchModel", "writtenCells", "[I", true)
def tyX12 : Nat → FieldType := fun k => match k with
  | 0 => .int
  | 1 => .array .int
  | 2 => .int
  | 3 => .int
  | 4 => .array .int
  | 5 => .array .int
  | 6 => .array .int
  | 7 => .int
  | 8 => .int
  | 9 => .int
  | 10 => .array (.object "HornBenchModel$Clause")
  | 11 => .array .int
  | 12 => .int
  | 13 => .object "HornBenchModel$Clause"
  | 14 => .array .int
  | 15 => .int
  | 16 => .int
  | 17 => .int
  | 18 => .int
  | 19 => .int
  | 20 => .array .int
  | 21 => .array .long
  | 22 => .array .int
  | 23 => .array .int
  | 24 => .int
  | 25 => .array .int
  | 26 => .int
  | 27 => .array .int
  | 28 => .array .int
  | 29 => .array .int
  | 30 => .array .int
  | 31 => .int
  | 32 => .array .int
  | 33 => .int
  | 34 => .array .int
  | 35 => .array .int
  | 36 => .array .int
  | 37 => .array .int
  | 38 => .array .int
  | 39 => .array .int
  | 40 => .int
  | 41 => .int
  | 42 => .array .boolean
  | 43 => .array .int
  | 44 => .array .int
  | 45 => .array .int
  | 46 => .array .int
  | 47 => .array .int
  | 48 => .array .int
  | 49 => .array .int
  | 50 => .boolean
  | 51 => .object "HornBenchModel$Clause"
  | 52 => .int
  | 53 => .int
  | 54 => .array .int
  | 55 => .array .int
  | 56 => .array .int
  | 57 => .array .int
  | 58 => .boolean
  | 59 => .array .int
  | 60 => .int
  | _ => .array .int
abbrev wsX120 : List Cond := u_ws RX12 TX12 62
theorem nmX12 : ∀ a, a < 62 → ∀ b, b < 62 → a ≠ b → (TX12 a).2.1 ≠ (TX12 b).2.1 := by decide +kernel
theorem tyX12_ok : ∀ k, k < 62 → parseFieldDescriptor (TX12 k).2.2.1 = some (tyX12 k) := by decide +kernel
abbrev cX12_init : ByteArray := prog_13_method_1_code
def yX12_init : MethodName := ⟨RX12, "<init>", "()V"⟩
abbrev cX12_thrown : ByteArray := prog_13_method_2_code
def yX12_thrown : MethodName := ⟨RX12, "thrown", "()I"⟩
abbrev cX12_no : ByteArray := prog_13_method_3_code
def yX12_no : MethodName := ⟨RX12, "no", "(I)I"⟩
abbrev cX12_isIn : ByteArray := prog_13_method_4_code
def yX12_isIn : MethodName := ⟨RX12, "isIn", "(III)Z"⟩
abbrev cX12_feed : ByteArray := prog_13_method_5_code
def yX12_feed : MethodName := ⟨RX12, "feed", "(IIIII)I"⟩
abbrev cX12_trim : ByteArray := prog_13_method_6_code
def yX12_trim : MethodName := ⟨RX12, "trim", "(I)I"⟩
abbrev cX12_byteAtTape : ByteArray := prog_13_method_7_code
def yX12_byteAtTape : MethodName := ⟨RX12, "byteAtTape", "(I)I"⟩
abbrev cX12_isSmall : ByteArray := prog_13_method_8_code
def yX12_isSmall : MethodName := ⟨RX12, "isSmall", "(I)Z"⟩
abbrev cX12_isDigit : ByteArray := prog_13_method_9_code
def yX12_isDigit : MethodName := ⟨RX12, "isDigit", "(I)Z"⟩
abbrev cX12_isBig : ByteArray := prog_13_method_10_code
def yX12_isBig : MethodName := ⟨RX12, "isBig", "(I)Z"⟩
abbrev cX12_symbolAt : ByteArray := prog_13_method_11_code
def yX12_symbolAt : MethodName := ⟨RX12, "symbolAt", "(I)I"⟩
abbrev cX12_scan : ByteArray := prog_13_method_12_code
def yX12_scan : MethodName := ⟨RX12, "scan", "()V"⟩
abbrev cX12_is : ByteArray := prog_13_method_13_code
def yX12_is : MethodName := ⟨RX12, "is", "(ILjava/lang/String;)Z"⟩
abbrev cX12_which : ByteArray := prog_13_method_14_code
def yX12_which : MethodName := ⟨RX12, "which", "(I[Ljava/lang/String;)I"⟩
abbrev cX12_isName : ByteArray := prog_13_method_15_code
def yX12_isName : MethodName := ⟨RX12, "isName", "(I)Z"⟩
abbrev cX12_nameOf : ByteArray := prog_13_method_16_code
def yX12_nameOf : MethodName := ⟨RX12, "nameOf", "(I)J"⟩
abbrev cX12_numberOf : ByteArray := prog_13_method_17_code
def yX12_numberOf : MethodName := ⟨RX12, "numberOf", "(I)I"⟩
abbrev cX12_sees : ByteArray := prog_13_method_18_code
def yX12_sees : MethodName := ⟨RX12, "sees", "(Ljava/lang/String;)Z"⟩
abbrev cX12_goes : ByteArray := prog_13_method_19_code
def yX12_goes : MethodName := ⟨RX12, "goes", "()Z"⟩
abbrev cX12_takes : ByteArray := prog_13_method_20_code
def yX12_takes : MethodName := ⟨RX12, "takes", "(Ljava/lang/String;)Z"⟩
abbrev cX12_programForm : ByteArray := prog_13_method_21_code
def yX12_programForm : MethodName := ⟨RX12, "programForm", "()Z"⟩
abbrev cX12_clauseForm : ByteArray := prog_13_method_22_code
def yX12_clauseForm : MethodName := ⟨RX12, "clauseForm", "()Z"⟩
abbrev cX12_questionForm : ByteArray := prog_13_method_23_code
def yX12_questionForm : MethodName := ⟨RX12, "questionForm", "()Z"⟩
abbrev cX12_opens : ByteArray := prog_13_method_24_code
def yX12_opens : MethodName := ⟨RX12, "opens", "(Ljava/lang/String;I)Z"⟩
abbrev cX12_argumentsForm : ByteArray := prog_13_method_25_code
def yX12_argumentsForm : MethodName := ⟨RX12, "argumentsForm", "(I)Z"⟩
abbrev cX12_goalsForm : ByteArray := prog_13_method_26_code
def yX12_goalsForm : MethodName := ⟨RX12, "goalsForm", "(I)Z"⟩
abbrev cX12_goalForm : ByteArray := prog_13_method_27_code
def yX12_goalForm : MethodName := ⟨RX12, "goalForm", "(I)Z"⟩
abbrev cX12_simpleEnd : ByteArray := prog_13_method_28_code
def yX12_simpleEnd : MethodName := ⟨RX12, "simpleEnd", "(I)I"⟩
abbrev cX12_termForm : ByteArray := prog_13_method_29_code
def yX12_termForm : MethodName := ⟨RX12, "termForm", "(I)Z"⟩
abbrev cX12_productForm : ByteArray := prog_13_method_30_code
def yX12_productForm : MethodName := ⟨RX12, "productForm", "(I)Z"⟩
abbrev cX12_simpleForm : ByteArray := prog_13_method_31_code
def yX12_simpleForm : MethodName := ⟨RX12, "simpleForm", "(I)Z"⟩
abbrev cX12_listForm : ByteArray := prog_13_method_32_code
def yX12_listForm : MethodName := ⟨RX12, "listForm", "(I)Z"⟩
abbrev cX12_over : ByteArray := prog_13_method_33_code
def yX12_over : MethodName := ⟨RX12, "over", "(I)V"⟩
abbrev cX12_part : ByteArray := prog_13_method_34_code
def yX12_part : MethodName := ⟨RX12, "part", "(IJI)I"⟩
abbrev cX12_pair : ByteArray := prog_13_method_35_code
def yX12_pair : MethodName := ⟨RX12, "pair", "(JII)I"⟩
abbrev cX12_variable : ByteArray := prog_13_method_36_code
def yX12_variable : MethodName := ⟨RX12, "variable", "(I)I"⟩
abbrev cX12_term : ByteArray := prog_13_method_37_code
def yX12_term : MethodName := ⟨RX12, "term", "()I"⟩
abbrev cX12_product : ByteArray := prog_13_method_38_code
def yX12_product : MethodName := ⟨RX12, "product", "()I"⟩
abbrev cX12_simple : ByteArray := prog_13_method_39_code
def yX12_simple : MethodName := ⟨RX12, "simple", "()I"⟩
abbrev cX12_named : ByteArray := prog_13_method_40_code
def yX12_named : MethodName := ⟨RX12, "named", "(I)I"⟩
abbrev cX12_list : ByteArray := prog_13_method_41_code
def yX12_list : MethodName := ⟨RX12, "list", "()I"⟩
abbrev cX12_goals : ByteArray := prog_13_method_42_code
def yX12_goals : MethodName := ⟨RX12, "goals", "()I"⟩
abbrev cX12_goal : ByteArray := prog_13_method_43_code
def yX12_goal : MethodName := ⟨RX12, "goal", "()I"⟩
abbrev cX12_forgetQuestion : ByteArray := prog_13_method_44_code
def yX12_forgetQuestion : MethodName := ⟨RX12, "forgetQuestion", "()V"⟩
abbrev cX12_wrong : ByteArray := prog_13_method_45_code
def yX12_wrong : MethodName := ⟨RX12, "wrong", "(II)I"⟩
abbrev cX12_read : ByteArray := prog_13_method_46_code
def yX12_read : MethodName := ⟨RX12, "read", "(I)I"⟩
abbrev cX12_consult : ByteArray := prog_13_method_47_code
def yX12_consult : MethodName := ⟨RX12, "consult", "()I"⟩
abbrev cX12_add : ByteArray := prog_13_method_48_code
def yX12_add : MethodName := ⟨RX12, "add", "()I"⟩
abbrev cX12_drop : ByteArray := prog_13_method_49_code
def yX12_drop : MethodName := ⟨RX12, "drop", "(I)I"⟩
abbrev cX12_errorAt : ByteArray := prog_13_method_50_code
def yX12_errorAt : MethodName := ⟨RX12, "errorAt", "()I"⟩
abbrev cX12_nameIn : ByteArray := prog_13_method_51_code
def yX12_nameIn : MethodName := ⟨RX12, "nameIn", "(LHornBenchModel$Clause;)J"⟩
abbrev cX12_sizeIn : ByteArray := prog_13_method_52_code
def yX12_sizeIn : MethodName := ⟨RX12, "sizeIn", "(LHornBenchModel$Clause;)I"⟩
abbrev cX12_areAlike : ByteArray := prog_13_method_53_code
def yX12_areAlike : MethodName := ⟨RX12, "areAlike", "(LHornBenchModel$Clause;LHornBenchModel$Clause;)Z"⟩
abbrev cX12_predicates : ByteArray := prog_13_method_54_code
def yX12_predicates : MethodName := ⟨RX12, "predicates", "()I"⟩
abbrev cX12_goalsLeft : ByteArray := prog_13_method_55_code
def yX12_goalsLeft : MethodName := ⟨RX12, "goalsLeft", "()I"⟩
abbrev cX12_counted : ByteArray := prog_13_method_56_code
def yX12_counted : MethodName := ⟨RX12, "counted", "(I)I"⟩
abbrev cX12_count : ByteArray := prog_13_method_57_code
def yX12_count : MethodName := ⟨RX12, "count", "(I)I"⟩
abbrev cX12_clauseTold : ByteArray := prog_13_method_58_code
def yX12_clauseTold : MethodName := ⟨RX12, "clauseTold", "(II)I"⟩
abbrev cX12_clause : ByteArray := prog_13_method_59_code
def yX12_clause : MethodName := ⟨RX12, "clause", "(II)I"⟩
abbrev cX12_cell : ByteArray := prog_13_method_60_code
def yX12_cell : MethodName := ⟨RX12, "cell", "(IJI)I"⟩
abbrev cX12_laid : ByteArray := prog_13_method_61_code
def yX12_laid : MethodName := ⟨RX12, "laid", "(LHornBenchModel$Clause;I[I)I"⟩
abbrev cX12_end : ByteArray := prog_13_method_62_code
def yX12_end : MethodName := ⟨RX12, "end", "(I)I"⟩
abbrev cX12_argument : ByteArray := prog_13_method_63_code
def yX12_argument : MethodName := ⟨RX12, "argument", "(II)I"⟩
abbrev cX12_bind : ByteArray := prog_13_method_64_code
def yX12_bind : MethodName := ⟨RX12, "bind", "(II)V"⟩
abbrev cX12_undo : ByteArray := prog_13_method_65_code
def yX12_undo : MethodName := ⟨RX12, "undo", "(I)V"⟩
abbrev cX12_standsIn : ByteArray := prog_13_method_66_code
def yX12_standsIn : MethodName := ⟨RX12, "standsIn", "(II)Z"⟩
abbrev cX12_leader : ByteArray := prog_13_method_67_code
def yX12_leader : MethodName := ⟨RX12, "leader", "(I)I"⟩
abbrev cX12_join : ByteArray := prog_13_method_68_code
def yX12_join : MethodName := ⟨RX12, "join", "(II)V"⟩
abbrev cX12_areOne : ByteArray := prog_13_method_69_code
def yX12_areOne : MethodName := ⟨RX12, "areOne", "(IIZ)Z"⟩
abbrev cX12_unify : ByteArray := prog_13_method_70_code
def yX12_unify : MethodName := ⟨RX12, "unify", "(II)Z"⟩
abbrev cX12_isSameNow : ByteArray := prog_13_method_71_code
def yX12_isSameNow : MethodName := ⟨RX12, "isSameNow", "(II)Z"⟩
abbrev cX12_value : ByteArray := prog_13_method_72_code
def yX12_value : MethodName := ⟨RX12, "value", "(I)I"⟩
abbrev cX12_fault : ByteArray := prog_13_method_73_code
def yX12_fault : MethodName := ⟨RX12, "fault", "()I"⟩
abbrev cX12_worth : ByteArray := prog_13_method_74_code
def yX12_worth : MethodName := ⟨RX12, "worth", "(II)I"⟩
abbrev cX12_keep : ByteArray := prog_13_method_75_code
def yX12_keep : MethodName := ⟨RX12, "keep", "(III)I"⟩
abbrev cX12_ask : ByteArray := prog_13_method_76_code
def yX12_ask : MethodName := ⟨RX12, "ask", "()I"⟩
abbrev cX12_rowCell : ByteArray := prog_13_method_77_code
def yX12_rowCell : MethodName := ⟨RX12, "rowCell", "(III)I"⟩
abbrev cX12_rowOf : ByteArray := prog_13_method_78_code
def yX12_rowOf : MethodName := ⟨RX12, "rowOf", "(LHornBenchModel$Clause;I[III)I"⟩
abbrev cX12_innerRow : ByteArray := prog_13_method_79_code
def yX12_innerRow : MethodName := ⟨RX12, "innerRow", "(III)I"⟩
abbrev cX12_choose : ByteArray := prog_13_method_80_code
def yX12_choose : MethodName := ⟨RX12, "choose", "(ZIIIIII)V"⟩
abbrev cX12_isOf : ByteArray := prog_13_method_81_code
def yX12_isOf : MethodName := ⟨RX12, "isOf", "(II)Z"⟩
abbrev cX12_nextOf : ByteArray := prog_13_method_82_code
def yX12_nextOf : MethodName := ⟨RX12, "nextOf", "(II)I"⟩
abbrev cX12_heads : ByteArray := prog_13_method_83_code
def yX12_heads : MethodName := ⟨RX12, "heads", "(II)Z"⟩
abbrev cX12_use : ByteArray := prog_13_method_84_code
def yX12_use : MethodName := ⟨RX12, "use", "(III)V"⟩
abbrev cX12_call : ByteArray := prog_13_method_85_code
def yX12_call : MethodName := ⟨RX12, "call", "(I)Z"⟩
abbrev cX12_goOn : ByteArray := prog_13_method_86_code
def yX12_goOn : MethodName := ⟨RX12, "goOn", "()V"⟩
abbrev cX12_canGoOn : ByteArray := prog_13_method_87_code
def yX12_canGoOn : MethodName := ⟨RX12, "canGoOn", "()Z"⟩
abbrev cX12_compared : ByteArray := prog_13_method_88_code
def yX12_compared : MethodName := ⟨RX12, "compared", "(III)Z"⟩
abbrev cX12_done : ByteArray := prog_13_method_89_code
def yX12_done : MethodName := ⟨RX12, "done", "(I)Z"⟩
abbrev cX12_step : ByteArray := prog_13_method_90_code
def yX12_step : MethodName := ⟨RX12, "step", "()V"⟩
abbrev cX12_settle : ByteArray := prog_13_method_91_code
def yX12_settle : MethodName := ⟨RX12, "settle", "(Z)V"⟩
abbrev cX12_run : ByteArray := prog_13_method_92_code
def yX12_run : MethodName := ⟨RX12, "run", "(I)I"⟩
abbrev cX12_status : ByteArray := prog_13_method_93_code
def yX12_status : MethodName := ⟨RX12, "status", "()I"⟩
abbrev cX12_put : ByteArray := prog_13_method_94_code
def yX12_put : MethodName := ⟨RX12, "put", "(I)V"⟩
abbrev cX12_put_ : ByteArray := prog_13_method_95_code
def yX12_put_ : MethodName := ⟨RX12, "put", "(Ljava/lang/String;)V"⟩
abbrev cX12_isFull : ByteArray := prog_13_method_96_code
def yX12_isFull : MethodName := ⟨RX12, "isFull", "()Z"⟩
abbrev cX12_putNumber : ByteArray := prog_13_method_97_code
def yX12_putNumber : MethodName := ⟨RX12, "putNumber", "(J)V"⟩
abbrev cX12_putDigits : ByteArray := prog_13_method_98_code
def yX12_putDigits : MethodName := ⟨RX12, "putDigits", "(J)V"⟩
abbrev cX12_putName : ByteArray := prog_13_method_99_code
def yX12_putName : MethodName := ⟨RX12, "putName", "(J)V"⟩
abbrev cX12_isSigned : ByteArray := prog_13_method_100_code
def yX12_isSigned : MethodName := ⟨RX12, "isSigned", "(J)Z"⟩
abbrev cX12_putFree : ByteArray := prog_13_method_101_code
def yX12_putFree : MethodName := ⟨RX12, "putFree", "(I)V"⟩
abbrev cX12_putTerm : ByteArray := prog_13_method_102_code
def yX12_putTerm : MethodName := ⟨RX12, "putTerm", "(IZ)V"⟩
abbrev cX12_isVariable : ByteArray := prog_13_method_103_code
def yX12_isVariable : MethodName := ⟨RX12, "isVariable", "(I)Z"⟩
abbrev cX12_kept : ByteArray := prog_13_method_104_code
def yX12_kept : MethodName := ⟨RX12, "kept", "([II)I"⟩
abbrev cX12_write : ByteArray := prog_13_method_105_code
def yX12_write : MethodName := ⟨RX12, "write", "(I)I"⟩
abbrev cX12_putGoal : ByteArray := prog_13_method_106_code
def yX12_putGoal : MethodName := ⟨RX12, "putGoal", "(I)V"⟩
abbrev cX12_writeGoal : ByteArray := prog_13_method_107_code
def yX12_writeGoal : MethodName := ⟨RX12, "writeGoal", "()I"⟩
abbrev cX12_byteAt : ByteArray := prog_13_method_108_code
def yX12_byteAt : MethodName := ⟨RX12, "byteAt", "(I)I"⟩
abbrev cX12_number : ByteArray := prog_13_method_109_code
def yX12_number : MethodName := ⟨RX12, "number", "(I)I"⟩
abbrev cX12_isSame : ByteArray := prog_13_method_110_code
def yX12_isSame : MethodName := ⟨RX12, "isSame", "(II)Z"⟩
abbrev cX12_stepsEach : ByteArray := prog_13_method_111_code
def yX12_stepsEach : MethodName := ⟨RX12, "stepsEach", "()D"⟩
abbrev cX12_digest : ByteArray := prog_13_method_112_code
def yX12_digest : MethodName := ⟨RX12, "digest", "()J"⟩
def RJ11 : String := "java/lang/Character"
def TJ11 : u_T := fun k => match k with
  | _ => ("", "", "", false)
def tyJ11 : Nat → FieldType := fun k => match k with
  | _ => .int
abbrev wsJ110 : List Cond := u_ws RJ11 TJ11 0
theorem nmJ11 : ∀ a, a < 0 → ∀ b, b < 0 → a ≠ b → (TJ11 a).2.1 ≠ (TJ11 b).2.1 := by decide +kernel
theorem tyJ11_ok : ∀ k, k < 0 → parseFieldDescriptor (TJ11 k).2.2.1 = some (tyJ11 k) := by decide +kernel
abbrev cJ11_isValidCodePoint_9a6ad : ByteArray := prog_15_method_11_code
def yJ11_isValidCodePoint_9a6ad : MethodName := ⟨RJ11, "isValidCodePoint", "(I)Z"⟩
abbrev cJ11_highSurrogate_5068e : ByteArray := prog_15_method_28_code
def yJ11_highSurrogate_5068e : MethodName := ⟨RJ11, "highSurrogate", "(I)C"⟩
abbrev cJ11_lowSurrogate_5068e : ByteArray := prog_15_method_29_code
def yJ11_lowSurrogate_5068e : MethodName := ⟨RJ11, "lowSurrogate", "(I)C"⟩
def RJx8e188 : String := "java/lang/Cloneable"
def TJx8e188 : u_T := fun k => match k with
  | _ => ("", "", "", false)
def tyJx8e188 : Nat → FieldType := fun k => match k with
  | _ => .int
abbrev wsJx8e1880 : List Cond := u_ws RJx8e188 TJx8e188 0
theorem nmJx8e188 : ∀ a, a < 0 → ∀ b, b < 0 → a ≠ b → (TJx8e188 a).2.1 ≠ (TJx8e188 b).2.1 := by decide +kernel
theorem tyJx8e188_ok : ∀ k, k < 0 → parseFieldDescriptor (TJx8e188 k).2.2.1 = some (tyJx8e188 k) := by decide +kernel
def RJ9 : String := "java/lang/Math"
def TJ9 : u_T := fun k => match k with
  | _ => ("", "", "", false)
def tyJ9 : Nat → FieldType := fun k => match k with
  | _ => .int
abbrev wsJ90 : List Cond := u_ws RJ9 TJ9 0
theorem nmJ9 : ∀ a, a < 0 → ∀ b, b < 0 → a ≠ b → (TJ9 a).2.1 ≠ (TJ9 b).2.1 := by decide +kernel
theorem tyJ9_ok : ∀ k, k < 0 → parseFieldDescriptor (TJ9 k).2.2.1 = some (tyJ9 k) := by decide +kernel
abbrev cJ9_abs_067f4 : ByteArray := prog_21_method_61_code
def yJ9_abs_067f4 : MethodName := ⟨RJ9, "abs", "(J)J"⟩
abbrev cJ9_max_7cf53 : ByteArray := prog_21_method_65_code
def yJ9_max_7cf53 : MethodName := ⟨RJ9, "max", "(II)I"⟩
abbrev cJ9_min_7cf53 : ByteArray := prog_21_method_69_code
def yJ9_min_7cf53 : MethodName := ⟨RJ9, "min", "(II)I"⟩
def RJ0 : String := "java/lang/String"
def TJ0 : u_T := fun k => match k with
  | _ => ("", "", "", false)
def tyJ0 : Nat → FieldType := fun k => match k with
  | _ => .int
abbrev wsJ00 : List Cond := u_ws RJ0 TJ0 0
theorem nmJ0 : ∀ a, a < 0 → ∀ b, b < 0 → a ≠ b → (TJ0 a).2.1 ≠ (TJ0 b).2.1 := by decide +kernel
theorem tyJ0_ok : ∀ k, k < 0 → parseFieldDescriptor (TJ0 k).2.2.1 = some (tyJ0 k) := by decide +kernel
abbrev cJ0_length_8abf5 : ByteArray := prog_23_method_54_code
def yJ0_length_8abf5 : MethodName := ⟨RJ0, "length", "()I"⟩
abbrev cJ0_charAt_5068e : ByteArray := prog_23_method_56_code
def yJ0_charAt_5068e : MethodName := ⟨RJ0, "charAt", "(I)C"⟩
abbrev cJ0_indexOf_0f7a4 : ByteArray := prog_23_method_79_code
def yJ0_indexOf_0f7a4 : MethodName := ⟨RJ0, "indexOf", "(I)I"⟩
abbrev cJ0_indexOf_7cf53 : ByteArray := prog_23_method_80_code
def yJ0_indexOf_7cf53 : MethodName := ⟨RJ0, "indexOf", "(II)I"⟩
abbrev cJ0_coder_7d493 : ByteArray := prog_23_method_152_code
def yJ0_coder_7d493 : MethodName := ⟨RJ0, "coder", "()B"⟩
abbrev cJ0_isLatin1_aae02 : ByteArray := prog_23_method_154_code
def yJ0_isLatin1_aae02 : MethodName := ⟨RJ0, "isLatin1", "()Z"⟩
abbrev cJ0_checkIndex_df160 : ByteArray := prog_23_method_155_code
def yJ0_checkIndex_df160 : MethodName := ⟨RJ0, "checkIndex", "(II)V"⟩
abbrev cJ0_checkBoundsBeginEnd_23922 : ByteArray := prog_23_method_158_code
def yJ0_checkBoundsBeginEnd_23922 : MethodName := ⟨RJ0, "checkBoundsBeginEnd", "(III)V"⟩
def RJ1 : String := "java/lang/StringLatin1"
def TJ1 : u_T := fun k => match k with
  | _ => ("", "", "", false)
def tyJ1 : Nat → FieldType := fun k => match k with
  | _ => .int
abbrev wsJ10 : List Cond := u_ws RJ1 TJ1 0
theorem nmJ1 : ∀ a, a < 0 → ∀ b, b < 0 → a ≠ b → (TJ1 a).2.1 ≠ (TJ1 b).2.1 := by decide +kernel
theorem tyJ1_ok : ∀ k, k < 0 → parseFieldDescriptor (TJ1 k).2.2.1 = some (tyJ1 k) := by decide +kernel
abbrev cJ1_charAt_3b067 : ByteArray := prog_24_method_2_code
def yJ1_charAt_3b067 : MethodName := ⟨RJ1, "charAt", "([BI)C"⟩
abbrev cJ1_canEncode_9a6ad : ByteArray := prog_24_method_4_code
def yJ1_canEncode_9a6ad : MethodName := ⟨RJ1, "canEncode", "(I)Z"⟩
abbrev cJ1_indexOf_4cfef : ByteArray := prog_24_method_22_code
def yJ1_indexOf_4cfef : MethodName := ⟨RJ1, "indexOf", "([BIII)I"⟩
abbrev cJ1_indexOfChar_4cfef : ByteArray := prog_24_method_23_code
def yJ1_indexOfChar_4cfef : MethodName := ⟨RJ1, "indexOfChar", "([BIII)I"⟩
def RJ2 : String := "java/lang/StringUTF16"
def TJ2 : u_T := fun k => match k with
  | _ => ("", "", "", false)
def tyJ2 : Nat → FieldType := fun k => match k with
  | _ => .int
abbrev wsJ20 : List Cond := u_ws RJ2 TJ2 0
theorem nmJ2 : ∀ a, a < 0 → ∀ b, b < 0 → a ≠ b → (TJ2 a).2.1 ≠ (TJ2 b).2.1 := by decide +kernel
theorem tyJ2_ok : ∀ k, k < 0 → parseFieldDescriptor (TJ2 k).2.2.1 = some (tyJ2 k) := by decide +kernel
abbrev cJ2_getChar_3b067 : ByteArray := prog_25_method_5_code
def yJ2_getChar_3b067 : MethodName := ⟨RJ2, "getChar", "([BI)C"⟩
abbrev cJ2_length_9d52b : ByteArray := prog_25_method_6_code
def yJ2_length_9d52b : MethodName := ⟨RJ2, "length", "([B)I"⟩
abbrev cJ2_indexOf_4cfef : ByteArray := prog_25_method_40_code
def yJ2_indexOf_4cfef : MethodName := ⟨RJ2, "indexOf", "([BIII)I"⟩
abbrev cJ2_indexOfChar_4cfef : ByteArray := prog_25_method_47_code
def yJ2_indexOfChar_4cfef : MethodName := ⟨RJ2, "indexOfChar", "([BIII)I"⟩
abbrev cJ2_indexOfCharUnsafe_4cfef : ByteArray := prog_25_method_48_code
def yJ2_indexOfCharUnsafe_4cfef : MethodName := ⟨RJ2, "indexOfCharUnsafe", "([BIII)I"⟩
abbrev cJ2_indexOfSupplementary_4cfef : ByteArray := prog_25_method_49_code
def yJ2_indexOfSupplementary_4cfef : MethodName := ⟨RJ2, "indexOfSupplementary", "([BIII)I"⟩
abbrev cJ2_charAt_3b067 : ByteArray := prog_25_method_83_code
def yJ2_charAt_3b067 : MethodName := ⟨RJ2, "charAt", "([BI)C"⟩
abbrev cJ2_checkIndex_2214a : ByteArray := prog_25_method_91_code
def yJ2_checkIndex_2214a : MethodName := ⟨RJ2, "checkIndex", "(I[B)V"⟩
abbrev cJ2_checkBoundsBeginEnd_d044e : ByteArray := prog_25_method_93_code
def yJ2_checkBoundsBeginEnd_d044e : MethodName := ⟨RJ2, "checkBoundsBeginEnd", "(II[B)V"⟩
def RJ10 : String := "java/lang/System"
def TJ10 : u_T := fun k => match k with
  | _ => ("", "", "", false)
def tyJ10 : Nat → FieldType := fun k => match k with
  | _ => .int
abbrev wsJ100 : List Cond := u_ws RJ10 TJ10 0
theorem nmJ10 : ∀ a, a < 0 → ∀ b, b < 0 → a ≠ b → (TJ10 a).2.1 ≠ (TJ10 b).2.1 := by decide +kernel
theorem tyJ10_ok : ∀ k, k < 0 → parseFieldDescriptor (TJ10 k).2.2.1 = some (tyJ10 k) := by decide +kernel
def RJ3 : String := "jdk/internal/util/Preconditions"
def TJ3 : u_T := fun k => match k with
  | _ => ("", "", "", false)
def tyJ3 : Nat → FieldType := fun k => match k with
  | _ => .int
abbrev wsJ30 : List Cond := u_ws RJ3 TJ3 0
theorem nmJ3 : ∀ a, a < 0 → ∀ b, b < 0 → a ≠ b → (TJ3 a).2.1 ≠ (TJ3 b).2.1 := by decide +kernel
theorem tyJ3_ok : ∀ k, k < 0 → parseFieldDescriptor (TJ3 k).2.2.1 = some (tyJ3 k) := by decide +kernel
abbrev cJ3_checkIndex_8e157 : ByteArray := prog_28_method_11_code
def yJ3_checkIndex_8e157 : MethodName := ⟨RJ3, "checkIndex", "(IILjava/util/function/BiFunction;)I"⟩
abbrev cJ3_checkFromToIndex_8c36e : ByteArray := prog_28_method_12_code
def yJ3_checkFromToIndex_8c36e : MethodName := ⟨RJ3, "checkFromToIndex", "(IIILjava/util/function/BiFunction;)I"⟩
def RL : String := "HornBenchLaw"
abbrev cL_feed : ByteArray := method_3_code
def yL_feed : MethodName := ⟨RL, "feed", "(LHornBench;IIIII[J)I"⟩
abbrev cL_trim : ByteArray := method_4_code
def yL_trim : MethodName := ⟨RL, "trim", "(LHornBench;I[J)I"⟩
abbrev cL_drop : ByteArray := method_5_code
def yL_drop : MethodName := ⟨RL, "drop", "(LHornBench;I[J)I"⟩
abbrev cL_count : ByteArray := method_6_code
def yL_count : MethodName := ⟨RL, "count", "(LHornBench;I[J)I"⟩
abbrev cL_clause : ByteArray := method_7_code
def yL_clause : MethodName := ⟨RL, "clause", "(LHornBench;II[J)I"⟩
abbrev cL_run : ByteArray := method_8_code
def yL_run : MethodName := ⟨RL, "run", "(LHornBench;I[J)I"⟩
abbrev cL_write : ByteArray := method_9_code
def yL_write : MethodName := ⟨RL, "write", "(LHornBench;I[J)I"⟩
abbrev cL_writeGoal : ByteArray := method_10_code
def yL_writeGoal : MethodName := ⟨RL, "writeGoal", "(LHornBench;[J)I"⟩
abbrev cL_byteAt : ByteArray := method_11_code
def yL_byteAt : MethodName := ⟨RL, "byteAt", "(LHornBench;I[J)I"⟩
abbrev cL_number : ByteArray := method_12_code
def yL_number : MethodName := ⟨RL, "number", "(LHornBench;I[J)I"⟩
abbrev cL_isSame : ByteArray := method_13_code
def yL_isSame : MethodName := ⟨RL, "isSame", "(LHornBench;II[J)I"⟩
abbrev cL_law : ByteArray := code
def yL_law : MethodName := ⟨RL, "law", "([I)Z"⟩
end
section
/-! A SMALL MACHINE: what a run of the code does, over cells with numbers of their own (0, 1, 2 .. in the order in which they are made; am_EXT and on: the things that are there at the start). Its runs are computed; part 06 shows that the machine itself does what a run of the small one tells. -/
abbrev AmL : Type := List (Nat × Value)
/-- info (tag, size) of each cell; contents; next cell; cells made; slots made -/
abbrev AmS : Type := (Nat → Nat × Nat) × (Nat → Nat → Value) × Nat × Nat × Nat
/-- op, a, b, c, table -/
abbrev AmIns : Type := Nat × Nat × Nat × Int × List (Int × Nat)
abbrev AmR : Type := Option (Nat × AmL × List Value × AmS)
def am_EXT : Nat := 1000000
def am_upI (f : Nat → Nat × Nat) (k : Nat) (v : Nat × Nat) : Nat → Nat × Nat := fun j => cond (Nat.beq j k) v (f j)
def am_upM (f : Nat → Nat → Value) (a k : Nat) (v : Value) : Nat → Nat → Value := fun b j => cond (Nat.beq b a) (cond (Nat.beq j k) v (f b j)) (f b j)
def am_newM (f : Nat → Nat → Value) (a : Nat) (d : Nat → Value) : Nat → Nat → Value := fun b j => cond (Nat.beq b a) (d j) (f b j)
def am_kd : Value → Nat
  | .int _ => 0
  | .long _ => 1
  | .double _ => 2
  | .ref _ => 3
  | .null => 3
  | _ => 9
def am_lk : AmL → Nat → Option Value
  | [], _ => none
  | q :: l, i => cond (Nat.beq q.1 i) (some q.2) (am_lk l i)
def am_ib (b : Nat) (x y : Int32) : Option Int32 :=
  match b with
  | 0 => some (x + y)
  | 1 => some (x - y)
  | 2 => some (x * y)
  | 3 => cond (decide (y = 0)) none (some (x / y))
  | 4 => cond (decide (y = 0)) none (some (x - x / y * y))
  | 5 => some (x &&& y)
  | 6 => some (x ||| y)
  | 7 => some (x <<< (y &&& 31))
  | 8 => some (x >>> (y &&& 31))
  | 9 => some (x.toUInt32 >>> (y.toUInt32 &&& Int32.toUInt32 31)).toInt32
  | _ => none
def am_lb (b : Nat) (x y : Int64) : Option Int64 :=
  match b with
  | 0 => some (x + y)
  | 1 => some (x - y)
  | 2 => some (x * y)
  | 3 => cond (decide (y = 0)) none (some (x / y))
  | 4 => cond (decide (y = 0)) none (some (x - x / y * y))
  | 5 => some (x &&& y)
  | 6 => some (x ||| y)
  | _ => none
def am_cv (b : Nat) (v : Value) : Option Value :=
  match b, v with
  | 0, .int x => some (.long x.toInt64)
  | 1, .long x => some (.int x.toInt32)
  | 2, .int x => some (.int x.toInt8.toInt32)
  | 3, .int x => some (.int (x.toUInt32 % 65536).toInt32)
  | 4, .int x => some (.double (FP.i2d x))
  | 5, .int x => some (.int (-x))
  | 6, .long x => some (.long (-x))
  | _, _ => none
def am_cn (b : Nat) (x y : Int32) : Bool :=
  match b with
  | 0 => decide (x = y)
  | 1 => !decide (x = y)
  | 2 => decide (x < y)
  | 3 => decide (y ≤ x)
  | 4 => decide (y < x)
  | _ => decide (x ≤ y)
def am_sw : List (Int × Nat) → Int → Nat → Nat
  | [], _, d => d
  | q :: l, x, d => cond (decide (q.1 = x)) q.2 (am_sw l x d)
/-- kinds of fields and answers: 0 int, 1 long, 2 double, 3 reference, 10 boolean, 11 byte, 12 char -/
def am_fit (k : Nat) (v : Value) : Bool :=
  match k, v with
  | 0, .int _ => true
  | 1, .long _ => true
  | 2, .double _ => true
  | 3, .ref _ => true
  | 3, .null => true
  | 10, .int x => decide (x = 0) || decide (x = 1)
  | 11, .int x => decide (x.toInt8.toInt32 = x)
  | 12, .int x => decide ((x.toUInt32 % 65536).toInt32 = x)
  | _, _ => false
def am_dv (k : Nat) : Value :=
  match k with
  | 1 => .long 0
  | 2 => .double 0
  | 3 => .null
  | _ => .int 0
/-- kind of the elements by the tag of an array: 61 int, 62 long, 63 boolean, 64 byte, 65 references; of the start: 71 int, 74 byte, 76 references -/
def am_ek (t : Nat) : Nat :=
  match t with
  | 61 => 0
  | 62 => 1
  | 63 => 10
  | 64 => 11
  | 65 => 3
  | 71 => 0
  | 74 => 11
  | 76 => 3
  | _ => 99
def am_in (i : Int32) (n : Nat) : Bool := !(decide (i < 0)) && Nat.blt i.toNatClampNeg n
def am_o0 (o : AmIns) (n : Nat) (ls : AmL) (st : List Value) (S : AmS) : AmR := match am_lk ls o.2.1 with
  | some v => cond (Nat.beq (am_kd v) o.2.2.1) (some (n + 1, ls, v :: st, S)) none
  | none => none
def am_o1 (o : AmIns) (n : Nat) (ls : AmL) (st : List Value) (S : AmS) : AmR := match st with
  | v :: r => cond (Nat.beq (am_kd v) o.2.2.1 && Nat.blt o.2.2.1 9) (cond (Nat.beq v.category 1)
      (some (n + 1, (o.2.1, v) :: ls.filter (fun q => !(q.1 == o.2.1) && !(q.1 + 1 == o.2.1 && q.2.category == 2)), r, S))
      (some (n + 1, (o.2.1, v) :: ls.filter (fun q => !(q.1 == o.2.1) && (!(q.1 == o.2.1 + 1) && !(q.1 + 1 == o.2.1 && q.2.category == 2))), r, S))) none
  | [] => none
def am_o2 (o : AmIns) (n : Nat) (ls : AmL) (st : List Value) (S : AmS) : AmR := some (n + 1, ls, .int (Int32.ofInt o.2.2.2.1) :: st, S)
def am_o3 (o : AmIns) (n : Nat) (ls : AmL) (st : List Value) (S : AmS) : AmR := some (n + 1, ls, .long (Int64.ofInt o.2.2.2.1) :: st, S)
def am_o4 (o : AmIns) (n : Nat) (ls : AmL) (st : List Value) (S : AmS) : AmR := some (n + 1, ls, .double 0 :: st, S)
def am_o5 (o : AmIns) (n : Nat) (ls : AmL) (st : List Value) (S : AmS) : AmR := some (n + 1, ls, .null :: st, S)
def am_o6 (o : AmIns) (n : Nat) (ls : AmL) (st : List Value) (S : AmS) : AmR := some (n + 1, ls, .ref (am_EXT + o.2.1) :: st, S)
def am_o8 (o : AmIns) (n : Nat) (ls : AmL) (st : List Value) (S : AmS) : AmR := match st with
  | .int y :: .int x :: r => match am_ib o.2.2.1 x y with
    | some z => some (n + 1, ls, .int z :: r, S)
    | none => none
  | _ => none
def am_o10 (o : AmIns) (n : Nat) (ls : AmL) (st : List Value) (S : AmS) : AmR := match st with
  | .long y :: .long x :: r => match am_lb o.2.2.1 x y with
    | some z => some (n + 1, ls, .long z :: r, S)
    | none => none
  | _ => none
def am_o11 (o : AmIns) (n : Nat) (ls : AmL) (st : List Value) (S : AmS) : AmR := match st with
  | .int y :: .long x :: r => cond (Nat.beq o.2.2.1 0) (some (n + 1, ls, .long (x <<< (y.toInt64 &&& 63)) :: r, S)) (some (n + 1, ls, .long (x >>> (y.toInt64 &&& 63)) :: r, S))
  | _ => none
def am_o13 (o : AmIns) (n : Nat) (ls : AmL) (st : List Value) (S : AmS) : AmR := match st with
  | .long y :: .long x :: r => some (n + 1, ls, .int (lg_cmp x y) :: r, S)
  | _ => none
def am_o14 (o : AmIns) (n : Nat) (ls : AmL) (st : List Value) (S : AmS) : AmR := match st with
  | v :: r => match am_cv o.2.2.1 v with
    | some w => some (n + 1, ls, w :: r, S)
    | none => none
  | _ => none
def am_o15 (o : AmIns) (n : Nat) (ls : AmL) (st : List Value) (S : AmS) : AmR := match st with
  | .double y :: .double x :: r => cond (decide (FP.ddiv x y &&& 0x7fffffffffffffff ≤ 0x7ff0000000000000)) (some (n + 1, ls, .double (FP.ddiv x y) :: r, S)) none
  | _ => none
def am_o16 (o : AmIns) (n : Nat) (ls : AmL) (st : List Value) (S : AmS) : AmR := match st with
  | .double y :: .double x :: r => some (n + 1, ls, .int (Op.cmpValue (FP.dcmp x y) (cond (Nat.beq o.2.2.1 0) .l .g)) :: r, S)
  | _ => none
def am_o17 (o : AmIns) (n : Nat) (ls : AmL) (st : List Value) (S : AmS) : AmR := match am_lk ls o.2.1 with
  | some (.int x) => some (n + 1, (o.2.1, .int (x + Int32.ofInt o.2.2.2.1)) :: ls.filter (fun q => !(q.1 == o.2.1) && !(q.1 + 1 == o.2.1 && q.2.category == 2)), st, S)
  | _ => none
def am_o18 (o : AmIns) (n : Nat) (ls : AmL) (st : List Value) (S : AmS) : AmR := match st with
  | .int x :: r => some (cond (am_cn o.2.2.1 x 0) o.2.1 (n + 1), ls, r, S)
  | _ => none
def am_o19 (o : AmIns) (n : Nat) (ls : AmL) (st : List Value) (S : AmS) : AmR := match st with
  | .int y :: .int x :: r => some (cond (am_cn o.2.2.1 x y) o.2.1 (n + 1), ls, r, S)
  | _ => none
def am_o20 (o : AmIns) (n : Nat) (ls : AmL) (st : List Value) (S : AmS) : AmR := match st with
  | .null :: r => some (cond (Nat.beq o.2.2.1 0) o.2.1 (n + 1), ls, r, S)
  | .ref _ :: r => some (cond (Nat.beq o.2.2.1 0) (n + 1) o.2.1, ls, r, S)
  | _ => none
def am_o22 (o : AmIns) (n : Nat) (ls : AmL) (st : List Value) (S : AmS) : AmR := some (o.2.1, ls, st, S)
def am_o23 (o : AmIns) (n : Nat) (ls : AmL) (st : List Value) (S : AmS) : AmR := match st with
  | .int x :: r => some (am_sw o.2.2.2.2 x.toInt o.2.1, ls, r, S)
  | _ => none
/-- getfield: class a, field b -/
def am_o24 (o : AmIns) (n : Nat) (ls : AmL) (st : List Value) (S : AmS) : AmR := match st with
  | .ref k :: r => cond (Nat.beq (S.1 k).1 (o.2.1 + 1)) (some (n + 1, ls, S.2.1 k o.2.2.1 :: r, S)) none
  | _ => none
/-- putfield: class a, field b, kind c -/
def am_o25 (o : AmIns) (n : Nat) (ls : AmL) (st : List Value) (S : AmS) : AmR := match st with
  | v :: .ref k :: r => cond (Nat.beq (S.1 k).1 (o.2.1 + 1) && (Nat.blt k S.2.2.1 && am_fit o.2.2.2.1.toNat v)) (some (n + 1, ls, r, (S.1, am_upM S.2.1 k o.2.2.1 v, S.2.2))) none
  | _ => none
def am_o26 (o : AmIns) (n : Nat) (ls : AmL) (st : List Value) (S : AmS) : AmR := match st with
  | v :: r => cond (Nat.beq v.category 1) (some (n + 1, ls, v :: v :: r, S)) none
  | _ => none
def am_o27 (o : AmIns) (n : Nat) (ls : AmL) (st : List Value) (S : AmS) : AmR := match st with
  | v :: r => cond (Nat.beq v.category 1) (some (n + 1, ls, r, S)) none
  | _ => none
/-- new: class a with b fields, their kinds -/
def am_o28 (o : AmIns) (n : Nat) (ls : AmL) (st : List Value) (S : AmS) (fk : Nat → Nat → Nat) : AmR := cond (Nat.blt S.2.2.1 am_EXT)
  (some (n + 1, ls, .ref S.2.2.1 :: st, (am_upI S.1 S.2.2.1 (o.2.1 + 1, o.2.2.1), am_newM S.2.1 S.2.2.1 (fun j => am_dv (fk o.2.1 j)), S.2.2.1 + 1, S.2.2.2.1 + 1, S.2.2.2.2 + o.2.2.1))) none
/-- newarray, anewarray: tag a -/
def am_o29 (o : AmIns) (n : Nat) (ls : AmL) (st : List Value) (S : AmS) : AmR := match st with
  | .int x :: r => cond (!(decide (x < 0)) && (Nat.ble x.toNatClampNeg 1000000 && Nat.blt S.2.2.1 am_EXT))
      (some (n + 1, ls, .ref S.2.2.1 :: r, (am_upI S.1 S.2.2.1 (o.2.1, x.toNatClampNeg), am_newM S.2.1 S.2.2.1 (fun _ => am_dv (am_ek o.2.1)), S.2.2.1 + 1, S.2.2.2.1 + 1, S.2.2.2.2 + x.toNatClampNeg))) none
  | _ => none
def am_o31 (o : AmIns) (n : Nat) (ls : AmL) (st : List Value) (S : AmS) : AmR := match st with
  | .ref k :: r => cond (Nat.blt 60 (S.1 k).1 && Nat.blt (S.1 k).1 77) (some (n + 1, ls, .int (Int32.ofNat (S.1 k).2) :: r, S)) none
  | _ => none
/-- a load of an element: kind b -/
def am_o32 (o : AmIns) (n : Nat) (ls : AmL) (st : List Value) (S : AmS) : AmR := match st with
  | .int i :: .ref k :: r => cond ((Nat.beq (am_ek (S.1 k).1) o.2.2.1 || (Nat.beq o.2.2.1 11 && Nat.beq (am_ek (S.1 k).1) 10)) && am_in i (S.1 k).2) (some (n + 1, ls, S.2.1 k i.toNatClampNeg :: r, S)) none
  | _ => none
def am_nar (t : Nat) (v : Value) : Value :=
  match t, v with
  | 63, .int x => .int (x &&& 1)
  | 64, .int x => .int x.toInt8.toInt32
  | _, v => v
/-- a store: the array's tag a (63 or 64 at a bastore), class of what is stored b -/
def am_o33 (o : AmIns) (n : Nat) (ls : AmL) (st : List Value) (S : AmS) : AmR := match st with
  | v :: .int i :: .ref k :: r => cond ((Nat.beq (S.1 k).1 o.2.1 || (Nat.beq o.2.1 64 && Nat.beq (S.1 k).1 63)) && (am_in i (S.1 k).2 && (Nat.blt k S.2.2.1 && cond (Nat.beq o.2.1 65) (match v with
      | .ref q => Nat.beq (S.1 q).1 (o.2.2.1 + 1)
      | _ => false) (Nat.beq (am_kd v) (cond (Nat.beq o.2.1 62) 1 0)))))
      (some (n + 1, ls, r, (S.1, am_upM S.2.1 k i.toNatClampNeg (am_nar (S.1 k).1 v), S.2.2))) none
  | _ => none
/-- checkcast of an array of int to its own class -/
def am_o34 (o : AmIns) (n : Nat) (ls : AmL) (st : List Value) (S : AmS) : AmR := match st with
  | .ref k :: r => cond (Nat.beq (S.1 k).1 61) (some (n + 1, ls, .ref k :: r, S)) none
  | _ => none
def am_o35 (o : AmIns) (n : Nat) (ls : AmL) (st : List Value) (S : AmS) : AmR := match st with
  | .ref _ :: r => cond (Nat.ble (r.map fun v => v.category).sum 100) (some (n + 1, ls, r, S)) none
  | _ => none
def am_o36 (o : AmIns) (n : Nat) (ls : AmL) (st : List Value) (S : AmS) : AmR := match st with
  | .int c :: .int dp :: .ref d :: .int sp :: .ref s :: r => cond (Nat.beq (S.1 s).1 61 && (Nat.beq (S.1 d).1 61 && (Nat.blt s S.2.2.1 && (Nat.blt d S.2.2.1 && (!(Nat.beq s d) && (decide (c = 600) && (decide (sp = 0) && (decide (dp = 0) && (Nat.beq (S.1 s).2 600 && (Nat.beq (S.1 d).2 600 && Nat.ble (r.map fun v => v.category).sum 8))))))))))
      (some (n + 1, ls, r, (S.1, (fun b j => cond (Nat.beq b d && Nat.blt j 600) (S.2.1 s j) (S.2.1 b j)), S.2.2))) none
  | _ => none
def am_o37 (o : AmIns) (n : Nat) (ls : AmL) (st : List Value) (S : AmS) : AmR := match st with
  | .ref k :: r => cond (Nat.beq (S.1 k).1 61 && (Nat.blt k S.2.2.1 && (Nat.blt S.2.2.1 am_EXT && (Nat.blt (S.1 k).2 1000000 && Nat.ble (r.map fun v => v.category).sum 8))))
      (some (n + 1, ls, .ref S.2.2.1 :: r, (am_upI S.1 S.2.2.1 (61, (S.1 k).2), am_newM S.2.1 S.2.2.1 (S.2.1 k), S.2.2.1 + 1, S.2.2.2.1 + 1, S.2.2.2.2 + (S.1 k).2))) none
  | _ => none
/-- one instruction that is no call, no return and no throw -/
def am_nxt (o : AmIns) (n : Nat) (ls : AmL) (st : List Value) (S : AmS) (fk : Nat → Nat → Nat) : AmR :=
  cond (Nat.beq o.1 0) (am_o0 o n ls st S) <| cond (Nat.beq o.1 24) (am_o24 o n ls st S) <| cond (Nat.beq o.1 2) (am_o2 o n ls st S) <| cond (Nat.beq o.1 19) (am_o19 o n ls st S) <|
  cond (Nat.beq o.1 18) (am_o18 o n ls st S) <| cond (Nat.beq o.1 32) (am_o32 o n ls st S) <| cond (Nat.beq o.1 25) (am_o25 o n ls st S) <| cond (Nat.beq o.1 22) (am_o22 o n ls st S) <|
  cond (Nat.beq o.1 1) (am_o1 o n ls st S) <| cond (Nat.beq o.1 8) (am_o8 o n ls st S) <| cond (Nat.beq o.1 33) (am_o33 o n ls st S) <| cond (Nat.beq o.1 26) (am_o26 o n ls st S) <|
  cond (Nat.beq o.1 29) (am_o29 o n ls st S) <| cond (Nat.beq o.1 17) (am_o17 o n ls st S) <| cond (Nat.beq o.1 3) (am_o3 o n ls st S) <| cond (Nat.beq o.1 13) (am_o13 o n ls st S) <|
  cond (Nat.beq o.1 31) (am_o31 o n ls st S) <| cond (Nat.beq o.1 14) (am_o14 o n ls st S) <| cond (Nat.beq o.1 6) (am_o6 o n ls st S) <| cond (Nat.beq o.1 10) (am_o10 o n ls st S) <|
  cond (Nat.beq o.1 28) (am_o28 o n ls st S fk) <| cond (Nat.beq o.1 20) (am_o20 o n ls st S) <| cond (Nat.beq o.1 23) (am_o23 o n ls st S) <| cond (Nat.beq o.1 11) (am_o11 o n ls st S) <|
  cond (Nat.beq o.1 35) (am_o35 o n ls st S) <| cond (Nat.beq o.1 27) (am_o27 o n ls st S) <| cond (Nat.beq o.1 4) (am_o4 o n ls st S) <| cond (Nat.beq o.1 5) (am_o5 o n ls st S) <|
  cond (Nat.beq o.1 15) (am_o15 o n ls st S) <| cond (Nat.beq o.1 16) (am_o16 o n ls st S) <| cond (Nat.beq o.1 34) (am_o34 o n ls st S) <| cond (Nat.beq o.1 36) (am_o36 o n ls st S) <|
  cond (Nat.beq o.1 37) (am_o37 o n ls st S) none
/-- what a method comes to: an answer, or an exception (its class' number, its cell) -/
abbrev AmO : Type := Option Value ⊕ Nat × Nat
/-- code of each method; (static 1 or the receiver's class + 2, number of arguments with the receiver, the rows of its table: from, behind, handler, class); kinds of the fields -/
abbrev AmP : Type := (Nat → List AmIns) × (Nat → Nat × Nat × List (Nat × Nat × Nat × Nat)) × (Nat → Nat → Nat)
def am_hd : List (Nat × Nat × Nat × Nat) → Nat → Nat → Option Nat
  | [], _, _ => none
  | q :: l, n, E => cond (Nat.ble q.1 n && (Nat.blt n q.2.1 && Nat.beq q.2.2.2 E)) (some q.2.2.1) (am_hd l n E)
def am_ends (o : AmIns) (st : List Value) (S : AmS) : Option (AmO × AmS) := match st with
  | [] => cond (Nat.beq o.2.2.1 9) (some (.inl none, S)) none
  | v :: [] => cond (am_fit o.2.2.1 v && !(Nat.beq o.2.2.1 3)) (some (.inl (some v), S)) none
  | _ => none
def am_thr (o : AmIns) (st : List Value) (S : AmS) : Option (AmO × AmS) := cond (Nat.ble (st.map fun v => v.category).sum 8 && Nat.blt S.2.2.1 am_EXT) (some (.inr (o.2.1, S.2.2.1), (am_upI S.1 S.2.2.1 (0, 0), am_newM S.2.1 S.2.2.1 (fun _ => .null), S.2.2.1 + 1, S.2.2.2.1 + 1, S.2.2.2.2 + 6))) none
/-- may the method be called on these arguments? -/
def am_ok (f : Nat × Nat × List (Nat × Nat × Nat × Nat)) (as rest : List Value) (S : AmS) : Bool :=
  Nat.beq as.length f.2.1 && (Nat.ble (rest.map fun v => v.category).sum 8 && cond (Nat.beq f.1 1) true (match as with
    | .ref k :: _ => Nat.beq ((S.1 k).1 + 1) f.1
    | _ => false))
def am_run (P : AmP) : Nat → Nat → Nat → Nat → AmL → List Value → AmS → Option (AmO × AmS)
  | 0, _, _, _, _, _, _ => none
  | f + 1, d, j, n, ls, st, S => match (P.1 j)[n]? with
    | none => none
    | some o => cond (Nat.beq o.1 40)
      (match d with
      | 0 => none
      | d' + 1 => cond (am_ok (P.2.1 o.2.1) (st.take o.2.2.1).reverse (st.drop o.2.2.1) S)
        (match am_run P f d' o.2.1 0 (lv_args 0 (st.take o.2.2.1).reverse) [] S with
        | none => none
        | some (.inl none, S1) => am_run P f d j (n + 1) ls (st.drop o.2.2.1) S1
        | some (.inl (some v), S1) => am_run P f d j (n + 1) ls (v :: st.drop o.2.2.1) S1
        | some (.inr (E, a), S1) => match am_hd (P.2.1 j).2.2 n E with
          | some h => am_run P f d j h ls [.ref a] S1
          | none => some (.inr (E, a), S1)) none)
      (cond (Nat.beq o.1 41) (am_ends o st S) (cond (Nat.beq o.1 42) (am_thr o st S)
        (match am_nxt o n ls st S P.2.2 with
        | some (n', ls', st', S') => am_run P f d j n' ls' st' S'
        | none => none)))
end
section
/-! THE TABLES of the small machine (written by wip/am/gen_code.py out of the claim's own print): methods, their code in its words, and the machine's instruction and the place of its word behind each. -/
/-- 0: HornBench$Cells.<init>()V -/
def am_c0 : List AmIns := [(0, 0, 3, 0, []), (35, 0, 0, 0, []), (0, 0, 3, 0, []), (2, 0, 0, 8016, []), (29, 63, 0, 0, []), (25, 0, 0, 3, []), (0, 0, 3, 0, []), (2, 0, 0, 8016, []), (29, 61, 0, 0, []), (25, 0, 1, 3, []), (41, 0, 9, 0, [])]
/-- 1: HornBench$Cells.size()I -/
def am_c1 : List AmIns := [(0, 0, 3, 0, []), (24, 0, 2, 0, []), (41, 0, 0, 0, [])]
/-- 2: HornBench$Cells.item(I)I -/
def am_c2 : List AmIns := [(0, 1, 0, 0, []), (18, 16, 2, 0, []), (0, 1, 0, 0, []), (0, 0, 3, 0, []), (24, 0, 2, 0, []), (19, 16, 3, 0, []), (0, 1, 0, 0, []), (0, 0, 3, 0, []), (24, 0, 1, 3, []), (31, 0, 0, 0, []), (19, 16, 3, 0, []), (0, 0, 3, 0, []), (24, 0, 1, 3, []), (0, 1, 0, 0, []), (32, 0, 0, 0, []), (22, 17, 0, 0, []), (2, 0, 0, (-1), []), (41, 0, 0, 0, [])]
/-- 3: HornBench$Cells.holds(I)Z -/
def am_c3 : List AmIns := [(0, 1, 0, 0, []), (18, 14, 2, 0, []), (0, 1, 0, 0, []), (0, 0, 3, 0, []), (24, 0, 0, 3, []), (31, 0, 0, 0, []), (19, 14, 3, 0, []), (0, 0, 3, 0, []), (24, 0, 0, 3, []), (0, 1, 0, 0, []), (32, 0, 11, 0, []), (18, 14, 0, 0, []), (2, 0, 0, 1, []), (22, 15, 0, 0, []), (2, 0, 0, 0, []), (41, 0, 10, 0, [])]
/-- 4: HornBench$Cells.include(I)V -/
def am_c4 : List AmIns := [(0, 1, 0, 0, []), (18, 38, 2, 0, []), (0, 1, 0, 0, []), (0, 0, 3, 0, []), (24, 0, 0, 3, []), (31, 0, 0, 0, []), (19, 38, 3, 0, []), (0, 0, 3, 0, []), (24, 0, 0, 3, []), (0, 1, 0, 0, []), (32, 0, 11, 0, []), (18, 38, 1, 0, []), (0, 0, 3, 0, []), (24, 0, 2, 0, []), (18, 38, 2, 0, []), (0, 0, 3, 0, []), (24, 0, 2, 0, []), (0, 0, 3, 0, []), (24, 0, 1, 3, []), (31, 0, 0, 0, []), (19, 38, 3, 0, []), (0, 0, 3, 0, []), (24, 0, 0, 3, []), (0, 1, 0, 0, []), (2, 0, 0, 1, []), (33, 64, 11, 0, []), (0, 0, 3, 0, []), (24, 0, 1, 3, []), (0, 0, 3, 0, []), (24, 0, 2, 0, []), (0, 1, 0, 0, []), (33, 61, 11, 0, []), (0, 0, 3, 0, []), (26, 0, 0, 0, []), (24, 0, 2, 0, []), (2, 0, 0, 1, []), (8, 0, 0, 0, []), (25, 0, 2, 0, []), (41, 0, 9, 0, [])]
/-- 5: HornBench$Cells.empty()V -/
def am_c5 : List AmIns := [(2, 0, 0, 0, []), (1, 1, 0, 0, []), (0, 1, 0, 0, []), (0, 0, 3, 0, []), (24, 0, 2, 0, []), (19, 30, 3, 0, []), (0, 1, 0, 0, []), (0, 0, 3, 0, []), (24, 0, 1, 3, []), (31, 0, 0, 0, []), (19, 30, 3, 0, []), (0, 0, 3, 0, []), (24, 0, 1, 3, []), (0, 1, 0, 0, []), (32, 0, 0, 0, []), (1, 2, 0, 0, []), (0, 2, 0, 0, []), (18, 28, 2, 0, []), (0, 2, 0, 0, []), (0, 0, 3, 0, []), (24, 0, 0, 3, []), (31, 0, 0, 0, []), (19, 28, 3, 0, []), (0, 0, 3, 0, []), (24, 0, 0, 3, []), (0, 2, 0, 0, []), (2, 0, 0, 0, []), (33, 64, 11, 0, []), (17, 1, 0, 1, []), (22, 2, 0, 0, []), (0, 0, 3, 0, []), (2, 0, 0, 0, []), (25, 0, 2, 0, []), (41, 0, 9, 0, [])]
/-- 6: HornBench$Evaluator.<init>(LHornBench$Terms;)V -/
def am_c6 : List AmIns := [(0, 0, 3, 0, []), (35, 0, 0, 0, []), (0, 0, 3, 0, []), (28, 0, 3, 0, []), (26, 0, 0, 0, []), (40, 0, 1, 11, []), (25, 1, 1, 3, []), (0, 0, 3, 0, []), (2, 0, 0, 8016, []), (29, 61, 0, 0, []), (25, 1, 2, 3, []), (0, 0, 3, 0, []), (2, 0, 0, 8016, []), (29, 61, 0, 0, []), (25, 1, 3, 3, []), (0, 0, 3, 0, []), (0, 1, 3, 0, []), (25, 1, 0, 3, []), (41, 0, 9, 0, [])]
/-- 7: HornBench$Evaluator.evaluate(I)Z -/
def am_c7 : List AmIns := [(0, 0, 3, 0, []), (0, 1, 0, 0, []), (2, 0, 0, 0, []), (40, 9, 3, 0, []), (1, 2, 0, 0, []), (0, 0, 3, 0, []), (24, 1, 1, 3, []), (40, 5, 1, 0, []), (0, 2, 0, 0, []), (41, 0, 10, 0, [])]
/-- 8: HornBench$Evaluator.value()I -/
def am_c8 : List AmIns := [(0, 0, 3, 0, []), (24, 1, 4, 0, []), (41, 0, 0, 0, [])]
/-- 9: HornBench$Evaluator.find(II)Z -/
def am_c9 : List AmIns := [(0, 0, 3, 0, []), (24, 1, 0, 3, []), (0, 1, 0, 0, []), (40, 135, 2, 0, []), (1, 3, 0, 0, []), (0, 0, 3, 0, []), (24, 1, 1, 3, []), (0, 3, 0, 0, []), (40, 3, 2, 0, []), (18, 32, 0, 0, []), (0, 0, 3, 0, []), (0, 0, 3, 0, []), (24, 1, 2, 3, []), (0, 3, 0, 0, []), (40, 182, 2, 12, []), (25, 1, 4, 0, []), (0, 0, 3, 0, []), (0, 0, 3, 0, []), (24, 1, 3, 3, []), (0, 3, 0, 0, []), (40, 182, 2, 12, []), (25, 1, 5, 0, []), (0, 2, 0, 0, []), (0, 0, 3, 0, []), (24, 1, 5, 0, []), (8, 0, 0, 0, []), (2, 0, 0, 60, []), (19, 30, 4, 0, []), (2, 0, 0, 1, []), (22, 31, 0, 0, []), (2, 0, 0, 0, []), (41, 0, 10, 0, []), (0, 0, 3, 0, []), (0, 0, 3, 0, []), (24, 1, 0, 3, []), (0, 1, 0, 0, []), (40, 136, 2, 0, []), (0, 2, 0, 0, []), (40, 10, 3, 0, []), (1, 4, 0, 0, []), (0, 4, 0, 0, []), (18, 61, 0, 0, []), (0, 3, 0, 0, []), (2, 0, 0, (-1), []), (19, 61, 0, 0, []), (0, 0, 3, 0, []), (24, 1, 2, 3, []), (0, 3, 0, 0, []), (0, 0, 3, 0, []), (24, 1, 4, 0, []), (40, 183, 3, 12, []), (0, 0, 3, 0, []), (24, 1, 3, 3, []), (0, 3, 0, 0, []), (0, 0, 3, 0, []), (24, 1, 5, 0, []), (40, 183, 3, 12, []), (0, 0, 3, 0, []), (24, 1, 1, 3, []), (0, 3, 0, 0, []), (40, 4, 2, 0, []), (0, 4, 0, 0, []), (41, 0, 10, 0, [])]
/-- 10: HornBench$Evaluator.compute(II)Z -/
def am_c10 : List AmIns := [(0, 0, 3, 0, []), (24, 1, 0, 3, []), (0, 1, 0, 0, []), (40, 138, 2, 0, []), (18, 16, 0, 0, []), (0, 0, 3, 0, []), (0, 0, 3, 0, []), (24, 1, 0, 3, []), (0, 1, 0, 0, []), (40, 139, 2, 0, []), (25, 1, 4, 0, []), (0, 0, 3, 0, []), (2, 0, 0, 0, []), (25, 1, 5, 0, []), (2, 0, 0, 1, []), (41, 0, 10, 0, []), (0, 0, 3, 0, []), (24, 1, 0, 3, []), (0, 1, 0, 0, []), (40, 131, 2, 0, []), (18, 24, 0, 0, []), (0, 2, 0, 0, []), (2, 0, 0, 60, []), (19, 26, 2, 0, []), (2, 0, 0, 0, []), (41, 0, 10, 0, []), (0, 0, 3, 0, []), (24, 1, 0, 3, []), (0, 1, 0, 0, []), (40, 133, 2, 0, []), (1, 3, 0, 0, []), (0, 0, 3, 0, []), (0, 3, 0, 0, []), (0, 2, 0, 0, []), (2, 0, 0, 1, []), (8, 0, 0, 0, []), (40, 9, 3, 0, []), (18, 40, 1, 0, []), (2, 0, 0, 0, []), (41, 0, 10, 0, []), (0, 0, 3, 0, []), (24, 1, 4, 0, []), (1, 4, 0, 0, []), (0, 0, 3, 0, []), (24, 1, 5, 0, []), (1, 5, 0, 0, []), (0, 0, 3, 0, []), (0, 0, 3, 0, []), (24, 1, 0, 3, []), (0, 3, 0, 0, []), (40, 134, 2, 0, []), (0, 2, 0, 0, []), (2, 0, 0, 1, []), (8, 0, 0, 0, []), (40, 9, 3, 0, []), (18, 58, 1, 0, []), (2, 0, 0, 0, []), (41, 0, 10, 0, []), (0, 0, 3, 0, []), (2, 0, 0, 1, []), (0, 5, 0, 0, []), (0, 0, 3, 0, []), (24, 1, 5, 0, []), (40, 298, 2, 2, []), (8, 0, 0, 0, []), (25, 1, 5, 0, []), (0, 0, 3, 0, []), (0, 0, 3, 0, []), (24, 1, 0, 3, []), (0, 1, 0, 0, []), (40, 130, 2, 0, []), (0, 4, 0, 0, []), (0, 0, 3, 0, []), (24, 1, 4, 0, []), (40, 11, 4, 0, []), (41, 0, 10, 0, [])]
/-- 11: HornBench$Evaluator.apply(JII)Z -/
def am_c11 : List AmIns := [(0, 1, 1, 0, []), (3, 0, 0, 43, []), (13, 0, 0, 0, []), (18, 11, 1, 0, []), (0, 0, 3, 0, []), (0, 3, 0, 0, []), (0, 4, 0, 0, []), (8, 0, 0, 0, []), (25, 1, 4, 0, []), (2, 0, 0, 1, []), (41, 0, 10, 0, []), (0, 1, 1, 0, []), (3, 0, 0, 45, []), (13, 0, 0, 0, []), (18, 22, 1, 0, []), (0, 0, 3, 0, []), (0, 3, 0, 0, []), (0, 4, 0, 0, []), (8, 0, 1, 0, []), (25, 1, 4, 0, []), (2, 0, 0, 1, []), (41, 0, 10, 0, []), (0, 1, 1, 0, []), (3, 0, 0, 42, []), (13, 0, 0, 0, []), (18, 33, 1, 0, []), (0, 0, 3, 0, []), (0, 3, 0, 0, []), (0, 4, 0, 0, []), (8, 0, 2, 0, []), (25, 1, 4, 0, []), (2, 0, 0, 1, []), (41, 0, 10, 0, []), (0, 4, 0, 0, []), (18, 37, 1, 0, []), (2, 0, 0, 0, []), (41, 0, 10, 0, []), (0, 0, 3, 0, []), (0, 1, 1, 0, []), (3, 0, 0, 47, []), (13, 0, 0, 0, []), (18, 46, 1, 0, []), (0, 3, 0, 0, []), (0, 4, 0, 0, []), (8, 0, 3, 0, []), (22, 49, 0, 0, []), (0, 3, 0, 0, []), (0, 4, 0, 0, []), (8, 0, 4, 0, []), (25, 1, 4, 0, []), (2, 0, 0, 1, []), (41, 0, 10, 0, [])]
/-- 12: HornBench$Matcher.<init>(LHornBench$Terms;)V -/
def am_c12 : List AmIns := [(0, 0, 3, 0, []), (35, 0, 0, 0, []), (0, 0, 3, 0, []), (2, 0, 0, 64128, []), (29, 61, 0, 0, []), (25, 2, 1, 3, []), (0, 0, 3, 0, []), (2, 0, 0, 32064, []), (29, 61, 0, 0, []), (25, 2, 2, 3, []), (0, 0, 3, 0, []), (0, 1, 3, 0, []), (25, 2, 0, 3, []), (41, 0, 9, 0, [])]
/-- 13: HornBench$Matcher.match(IIZ)Z -/
def am_c13 : List AmIns := [(0, 0, 3, 0, []), (24, 2, 0, 3, []), (40, 142, 1, 0, []), (1, 4, 0, 0, []), (0, 0, 3, 0, []), (0, 1, 0, 0, []), (0, 2, 0, 0, []), (0, 3, 0, 0, []), (40, 14, 4, 0, []), (1, 5, 0, 0, []), (2, 0, 0, 0, []), (1, 6, 0, 0, []), (0, 6, 0, 0, []), (0, 0, 3, 0, []), (24, 2, 3, 0, []), (19, 71, 3, 0, []), (0, 5, 0, 0, []), (18, 71, 0, 0, []), (0, 0, 3, 0, []), (24, 2, 2, 3, []), (0, 6, 0, 0, []), (40, 182, 2, 12, []), (1, 7, 0, 0, []), (0, 0, 3, 0, []), (24, 2, 0, 3, []), (0, 7, 0, 0, []), (40, 133, 2, 0, []), (1, 8, 0, 0, []), (0, 0, 3, 0, []), (24, 2, 0, 3, []), (0, 0, 3, 0, []), (24, 2, 1, 3, []), (0, 7, 0, 0, []), (40, 182, 2, 12, []), (2, 0, 0, 1, []), (8, 0, 1, 0, []), (40, 133, 2, 0, []), (1, 9, 0, 0, []), (2, 0, 0, 0, []), (1, 10, 0, 0, []), (0, 10, 0, 0, []), (2, 0, 0, 4, []), (19, 69, 3, 0, []), (0, 5, 0, 0, []), (18, 69, 0, 0, []), (0, 8, 0, 0, []), (2, 0, 0, (-1), []), (19, 69, 0, 0, []), (0, 9, 0, 0, []), (2, 0, 0, (-1), []), (19, 69, 0, 0, []), (0, 0, 3, 0, []), (0, 8, 0, 0, []), (0, 9, 0, 0, []), (0, 3, 0, 0, []), (40, 14, 4, 0, []), (1, 5, 0, 0, []), (0, 0, 3, 0, []), (24, 2, 0, 3, []), (0, 8, 0, 0, []), (40, 134, 2, 0, []), (1, 8, 0, 0, []), (0, 0, 3, 0, []), (24, 2, 0, 3, []), (0, 9, 0, 0, []), (40, 134, 2, 0, []), (1, 9, 0, 0, []), (17, 10, 0, 1, []), (22, 40, 0, 0, []), (17, 6, 0, 1, []), (22, 12, 0, 0, []), (2, 0, 0, 0, []), (1, 6, 0, 0, []), (0, 6, 0, 0, []), (0, 0, 3, 0, []), (24, 2, 3, 0, []), (19, 87, 3, 0, []), (0, 0, 3, 0, []), (24, 2, 1, 3, []), (0, 0, 3, 0, []), (24, 2, 2, 3, []), (0, 6, 0, 0, []), (40, 182, 2, 12, []), (2, 0, 0, 0, []), (40, 183, 3, 12, []), (17, 6, 0, 1, []), (22, 73, 0, 0, []), (0, 0, 3, 0, []), (2, 0, 0, 0, []), (25, 2, 3, 0, []), (0, 5, 0, 0, []), (18, 96, 1, 0, []), (0, 0, 3, 0, []), (24, 2, 0, 3, []), (0, 4, 0, 0, []), (40, 143, 2, 0, []), (0, 5, 0, 0, []), (41, 0, 10, 0, [])]
/-- 14: HornBench$Matcher.join(IIZ)Z -/
def am_c14 : List AmIns := [(0, 0, 3, 0, []), (0, 0, 3, 0, []), (24, 2, 0, 3, []), (0, 1, 0, 0, []), (40, 136, 2, 0, []), (40, 15, 2, 0, []), (1, 4, 0, 0, []), (0, 0, 3, 0, []), (0, 0, 3, 0, []), (24, 2, 0, 3, []), (0, 2, 0, 0, []), (40, 136, 2, 0, []), (40, 15, 2, 0, []), (1, 5, 0, 0, []), (0, 4, 0, 0, []), (0, 5, 0, 0, []), (19, 19, 1, 0, []), (2, 0, 0, 1, []), (41, 0, 10, 0, []), (0, 4, 0, 0, []), (0, 5, 0, 0, []), (40, 298, 2, 2, []), (1, 6, 0, 0, []), (0, 4, 0, 0, []), (0, 5, 0, 0, []), (40, 299, 2, 2, []), (1, 7, 0, 0, []), (0, 0, 3, 0, []), (24, 2, 0, 3, []), (0, 6, 0, 0, []), (40, 137, 2, 0, []), (18, 49, 0, 0, []), (0, 3, 0, 0, []), (18, 40, 0, 0, []), (0, 0, 3, 0, []), (24, 2, 0, 3, []), (0, 6, 0, 0, []), (0, 7, 0, 0, []), (40, 144, 3, 0, []), (18, 42, 0, 0, []), (2, 0, 0, 0, []), (41, 0, 10, 0, []), (0, 0, 3, 0, []), (24, 2, 0, 3, []), (0, 6, 0, 0, []), (0, 7, 0, 0, []), (40, 141, 3, 0, []), (2, 0, 0, 1, []), (41, 0, 10, 0, []), (0, 0, 3, 0, []), (24, 2, 0, 3, []), (0, 4, 0, 0, []), (40, 138, 2, 0, []), (18, 59, 1, 0, []), (0, 0, 3, 0, []), (24, 2, 0, 3, []), (0, 5, 0, 0, []), (40, 138, 2, 0, []), (18, 82, 0, 0, []), (0, 0, 3, 0, []), (24, 2, 0, 3, []), (0, 4, 0, 0, []), (40, 138, 2, 0, []), (18, 80, 0, 0, []), (0, 0, 3, 0, []), (24, 2, 0, 3, []), (0, 5, 0, 0, []), (40, 138, 2, 0, []), (18, 80, 0, 0, []), (0, 0, 3, 0, []), (24, 2, 0, 3, []), (0, 4, 0, 0, []), (40, 139, 2, 0, []), (0, 0, 3, 0, []), (24, 2, 0, 3, []), (0, 5, 0, 0, []), (40, 139, 2, 0, []), (19, 80, 1, 0, []), (2, 0, 0, 1, []), (22, 81, 0, 0, []), (2, 0, 0, 0, []), (41, 0, 10, 0, []), (0, 0, 3, 0, []), (24, 2, 0, 3, []), (0, 4, 0, 0, []), (0, 5, 0, 0, []), (40, 132, 3, 0, []), (18, 90, 1, 0, []), (2, 0, 0, 0, []), (41, 0, 10, 0, []), (0, 0, 3, 0, []), (24, 2, 0, 3, []), (0, 4, 0, 0, []), (40, 133, 2, 0, []), (2, 0, 0, (-1), []), (19, 115, 0, 0, []), (0, 0, 3, 0, []), (24, 2, 1, 3, []), (0, 4, 0, 0, []), (0, 5, 0, 0, []), (2, 0, 0, 1, []), (8, 0, 0, 0, []), (40, 183, 3, 12, []), (0, 0, 3, 0, []), (24, 2, 2, 3, []), (0, 0, 3, 0, []), (24, 2, 3, 0, []), (0, 4, 0, 0, []), (40, 183, 3, 12, []), (0, 0, 3, 0, []), (26, 0, 0, 0, []), (24, 2, 3, 0, []), (2, 0, 0, 1, []), (8, 0, 0, 0, []), (25, 2, 3, 0, []), (2, 0, 0, 1, []), (41, 0, 10, 0, [])]
/-- 15: HornBench$Matcher.root(I)I -/
def am_c15 : List AmIns := [(0, 1, 0, 0, []), (1, 2, 0, 0, []), (2, 0, 0, 0, []), (1, 3, 0, 0, []), (0, 3, 0, 0, []), (2, 0, 0, 64128, []), (19, 47, 3, 0, []), (0, 2, 0, 0, []), (18, 47, 2, 0, []), (0, 2, 0, 0, []), (0, 0, 3, 0, []), (24, 2, 1, 3, []), (31, 0, 0, 0, []), (19, 47, 3, 0, []), (0, 0, 3, 0, []), (24, 2, 1, 3, []), (0, 2, 0, 0, []), (32, 0, 0, 0, []), (2, 0, 0, 1, []), (8, 0, 1, 0, []), (1, 4, 0, 0, []), (0, 4, 0, 0, []), (18, 28, 2, 0, []), (0, 4, 0, 0, []), (0, 0, 3, 0, []), (24, 2, 1, 3, []), (31, 0, 0, 0, []), (19, 30, 2, 0, []), (0, 2, 0, 0, []), (41, 0, 0, 0, []), (0, 0, 3, 0, []), (24, 2, 1, 3, []), (0, 4, 0, 0, []), (32, 0, 0, 0, []), (18, 43, 0, 0, []), (0, 0, 3, 0, []), (24, 2, 1, 3, []), (0, 2, 0, 0, []), (0, 0, 3, 0, []), (24, 2, 1, 3, []), (0, 4, 0, 0, []), (32, 0, 0, 0, []), (33, 61, 11, 0, []), (0, 4, 0, 0, []), (1, 2, 0, 0, []), (17, 3, 0, 1, []), (22, 4, 0, 0, []), (0, 2, 0, 0, []), (41, 0, 0, 0, [])]
/-- 16: HornBench$Nodes.<init>()V -/
def am_c16 : List AmIns := [(0, 0, 3, 0, []), (35, 0, 0, 0, []), (0, 0, 3, 0, []), (2, 0, 0, 2624, []), (29, 61, 0, 0, []), (25, 3, 0, 3, []), (0, 0, 3, 0, []), (2, 0, 0, 2624, []), (29, 61, 0, 0, []), (25, 3, 1, 3, []), (0, 0, 3, 0, []), (2, 0, 0, 2624, []), (29, 62, 0, 0, []), (25, 3, 2, 3, []), (0, 0, 3, 0, []), (2, 0, 0, 2624, []), (29, 61, 0, 0, []), (25, 3, 3, 3, []), (0, 0, 3, 0, []), (2, 0, 0, 2624, []), (29, 61, 0, 0, []), (25, 3, 4, 3, []), (0, 0, 3, 0, []), (2, 0, 0, 2624, []), (29, 61, 0, 0, []), (25, 3, 5, 3, []), (0, 0, 3, 0, []), (2, 0, 0, 41, []), (29, 61, 0, 0, []), (25, 3, 6, 3, []), (0, 0, 3, 0, []), (2, 0, 0, 41, []), (29, 61, 0, 0, []), (25, 3, 7, 3, []), (0, 0, 3, 0, []), (2, 0, 0, 41, []), (29, 61, 0, 0, []), (25, 3, 8, 3, []), (0, 0, 3, 0, []), (2, 0, 0, 41, []), (29, 61, 0, 0, []), (25, 3, 9, 3, []), (0, 0, 3, 0, []), (2, 0, 0, 41, []), (29, 61, 0, 0, []), (25, 3, 10, 3, []), (0, 0, 3, 0, []), (2, 0, 0, 41, []), (29, 61, 0, 0, []), (25, 3, 11, 3, []), (2, 0, 0, 0, []), (1, 1, 0, 0, []), (0, 1, 0, 0, []), (0, 0, 3, 0, []), (24, 3, 6, 3, []), (31, 0, 0, 0, []), (19, 64, 3, 0, []), (0, 0, 3, 0, []), (24, 3, 6, 3, []), (0, 1, 0, 0, []), (0, 1, 0, 0, []), (33, 61, 11, 0, []), (17, 1, 0, 1, []), (22, 52, 0, 0, []), (41, 0, 9, 0, [])]
/-- 17: HornBench$Nodes.forget()V -/
def am_c17 : List AmIns := [(0, 0, 3, 0, []), (2, 0, 0, 0, []), (25, 3, 12, 0, []), (41, 0, 9, 0, [])]
/-- 18: HornBench$Nodes.keep(I)V -/
def am_c18 : List AmIns := [(0, 0, 3, 0, []), (0, 1, 0, 0, []), (25, 3, 12, 0, []), (41, 0, 9, 0, [])]
/-- 19: HornBench$Nodes.remove(I)V -/
def am_c19 : List AmIns := [(0, 0, 3, 0, []), (24, 3, 6, 3, []), (0, 1, 0, 0, []), (40, 182, 2, 12, []), (1, 2, 0, 0, []), (0, 1, 0, 0, []), (1, 3, 0, 0, []), (0, 3, 0, 0, []), (2, 0, 0, 39, []), (19, 22, 3, 0, []), (0, 0, 3, 0, []), (24, 3, 6, 3, []), (0, 3, 0, 0, []), (0, 0, 3, 0, []), (24, 3, 6, 3, []), (0, 3, 0, 0, []), (2, 0, 0, 1, []), (8, 0, 0, 0, []), (40, 182, 2, 12, []), (40, 183, 3, 12, []), (17, 3, 0, 1, []), (22, 7, 0, 0, []), (0, 0, 3, 0, []), (24, 3, 6, 3, []), (2, 0, 0, 39, []), (0, 2, 0, 0, []), (40, 183, 3, 12, []), (0, 0, 3, 0, []), (26, 0, 0, 0, []), (24, 3, 12, 0, []), (2, 0, 0, 1, []), (8, 0, 1, 0, []), (25, 3, 12, 0, []), (41, 0, 9, 0, [])]
/-- 20: HornBench$Nodes.begin(I)V -/
def am_c20 : List AmIns := [(0, 0, 3, 0, []), (0, 1, 0, 0, []), (25, 3, 13, 0, []), (0, 0, 3, 0, []), (2, 0, 0, 0, []), (25, 3, 14, 0, []), (41, 0, 9, 0, [])]
/-- 21: HornBench$Nodes.make(IIJI)I -/
def am_c21 : List AmIns := [(0, 0, 3, 0, []), (24, 3, 13, 0, []), (2, 0, 0, 64, []), (8, 0, 2, 0, []), (0, 0, 3, 0, []), (24, 3, 14, 0, []), (8, 0, 0, 0, []), (1, 6, 0, 0, []), (0, 0, 3, 0, []), (24, 3, 14, 0, []), (2, 0, 0, 64, []), (19, 17, 3, 0, []), (0, 6, 0, 0, []), (18, 17, 2, 0, []), (0, 6, 0, 0, []), (2, 0, 0, 2624, []), (19, 19, 2, 0, []), (2, 0, 0, (-1), []), (41, 0, 0, 0, []), (0, 0, 3, 0, []), (24, 3, 0, 3, []), (0, 6, 0, 0, []), (0, 1, 0, 0, []), (33, 61, 11, 0, []), (0, 0, 3, 0, []), (24, 3, 1, 3, []), (0, 6, 0, 0, []), (0, 2, 0, 0, []), (33, 61, 11, 0, []), (0, 0, 3, 0, []), (24, 3, 2, 3, []), (0, 6, 0, 0, []), (0, 3, 1, 0, []), (33, 62, 11, 0, []), (0, 0, 3, 0, []), (24, 3, 3, 3, []), (0, 6, 0, 0, []), (0, 5, 0, 0, []), (33, 61, 11, 0, []), (0, 0, 3, 0, []), (24, 3, 4, 3, []), (0, 6, 0, 0, []), (2, 0, 0, (-1), []), (33, 61, 11, 0, []), (0, 0, 3, 0, []), (24, 3, 13, 0, []), (2, 0, 0, 64, []), (8, 0, 2, 0, []), (0, 5, 0, 0, []), (8, 0, 0, 0, []), (1, 7, 0, 0, []), (0, 0, 3, 0, []), (24, 3, 5, 3, []), (0, 6, 0, 0, []), (0, 5, 0, 0, []), (18, 66, 2, 0, []), (0, 7, 0, 0, []), (18, 66, 2, 0, []), (0, 7, 0, 0, []), (2, 0, 0, 2624, []), (19, 66, 3, 0, []), (0, 0, 3, 0, []), (24, 3, 5, 3, []), (0, 7, 0, 0, []), (32, 0, 0, 0, []), (22, 68, 0, 0, []), (0, 0, 3, 0, []), (24, 3, 14, 0, []), (33, 61, 11, 0, []), (0, 0, 3, 0, []), (26, 0, 0, 0, []), (24, 3, 14, 0, []), (2, 0, 0, 1, []), (8, 0, 0, 0, []), (25, 3, 14, 0, []), (0, 0, 3, 0, []), (24, 3, 14, 0, []), (2, 0, 0, 1, []), (8, 0, 1, 0, []), (41, 0, 0, 0, [])]
/-- 22: HornBench$Nodes.chain(II)V -/
def am_c22 : List AmIns := [(0, 0, 3, 0, []), (24, 3, 13, 0, []), (2, 0, 0, 64, []), (8, 0, 2, 0, []), (0, 1, 0, 0, []), (8, 0, 0, 0, []), (1, 3, 0, 0, []), (0, 1, 0, 0, []), (2, 0, 0, (-1), []), (19, 22, 0, 0, []), (0, 3, 0, 0, []), (18, 22, 2, 0, []), (0, 3, 0, 0, []), (0, 0, 3, 0, []), (24, 3, 4, 3, []), (31, 0, 0, 0, []), (19, 22, 3, 0, []), (0, 0, 3, 0, []), (24, 3, 4, 3, []), (0, 3, 0, 0, []), (0, 2, 0, 0, []), (33, 61, 11, 0, []), (41, 0, 9, 0, [])]
/-- 23: HornBench$Nodes.chained(I)I -/
def am_c23 : List AmIns := [(0, 0, 3, 0, []), (24, 3, 13, 0, []), (2, 0, 0, 64, []), (8, 0, 2, 0, []), (0, 1, 0, 0, []), (8, 0, 0, 0, []), (1, 2, 0, 0, []), (0, 2, 0, 0, []), (18, 19, 2, 0, []), (0, 2, 0, 0, []), (0, 0, 3, 0, []), (24, 3, 4, 3, []), (31, 0, 0, 0, []), (19, 19, 3, 0, []), (0, 0, 3, 0, []), (24, 3, 4, 3, []), (0, 2, 0, 0, []), (32, 0, 0, 0, []), (22, 20, 0, 0, []), (2, 0, 0, (-1), []), (41, 0, 0, 0, [])]
/-- 24: HornBench$Nodes.isOperatorHere(I)Z -/
def am_c24 : List AmIns := [(0, 0, 3, 0, []), (0, 0, 3, 0, []), (24, 3, 13, 0, []), (2, 0, 0, 64, []), (8, 0, 2, 0, []), (0, 1, 0, 0, []), (8, 0, 0, 0, []), (40, 44, 2, 0, []), (41, 0, 10, 0, [])]
/-- 25: HornBench$Nodes.finish(IIII)V -/
def am_c25 : List AmIns := [(0, 0, 3, 0, []), (24, 3, 7, 3, []), (0, 0, 3, 0, []), (24, 3, 13, 0, []), (0, 1, 0, 0, []), (40, 183, 3, 12, []), (0, 0, 3, 0, []), (24, 3, 8, 3, []), (0, 0, 3, 0, []), (24, 3, 13, 0, []), (0, 2, 0, 0, []), (40, 183, 3, 12, []), (0, 0, 3, 0, []), (24, 3, 9, 3, []), (0, 0, 3, 0, []), (24, 3, 13, 0, []), (0, 3, 0, 0, []), (40, 183, 3, 12, []), (0, 0, 3, 0, []), (24, 3, 10, 3, []), (0, 0, 3, 0, []), (24, 3, 13, 0, []), (0, 4, 0, 0, []), (40, 183, 3, 12, []), (0, 0, 3, 0, []), (24, 3, 11, 3, []), (0, 0, 3, 0, []), (24, 3, 13, 0, []), (2, 0, 0, 0, []), (40, 183, 3, 12, []), (41, 0, 9, 0, [])]
/-- 26: HornBench$Nodes.clauses()I -/
def am_c26 : List AmIns := [(0, 0, 3, 0, []), (24, 3, 12, 0, []), (41, 0, 0, 0, [])]
/-- 27: HornBench$Nodes.slot(I)I -/
def am_c27 : List AmIns := [(0, 0, 3, 0, []), (24, 3, 6, 3, []), (0, 1, 0, 0, []), (40, 182, 2, 12, []), (41, 0, 0, 0, [])]
/-- 28: HornBench$Nodes.head(I)I -/
def am_c28 : List AmIns := [(0, 0, 3, 0, []), (24, 3, 7, 3, []), (0, 1, 0, 0, []), (40, 182, 2, 12, []), (41, 0, 0, 0, [])]
/-- 29: HornBench$Nodes.body(I)I -/
def am_c29 : List AmIns := [(0, 0, 3, 0, []), (24, 3, 8, 3, []), (0, 1, 0, 0, []), (40, 182, 2, 12, []), (41, 0, 0, 0, [])]
/-- 30: HornBench$Nodes.arity(I)I -/
def am_c30 : List AmIns := [(0, 0, 3, 0, []), (24, 3, 1, 3, []), (0, 1, 0, 0, []), (2, 0, 0, 64, []), (8, 0, 2, 0, []), (0, 0, 3, 0, []), (24, 3, 7, 3, []), (0, 1, 0, 0, []), (40, 182, 2, 12, []), (8, 0, 0, 0, []), (40, 182, 2, 12, []), (41, 0, 0, 0, [])]
/-- 31: HornBench$Nodes.goals(I)I -/
def am_c31 : List AmIns := [(0, 0, 3, 0, []), (24, 3, 9, 3, []), (0, 1, 0, 0, []), (40, 182, 2, 12, []), (41, 0, 0, 0, [])]
/-- 32: HornBench$Nodes.variables(I)I -/
def am_c32 : List AmIns := [(0, 0, 3, 0, []), (24, 3, 10, 3, []), (0, 1, 0, 0, []), (40, 182, 2, 12, []), (41, 0, 0, 0, [])]
/-- 33: HornBench$Nodes.uses(I)I -/
def am_c33 : List AmIns := [(0, 0, 3, 0, []), (24, 3, 11, 3, []), (0, 1, 0, 0, []), (40, 182, 2, 12, []), (41, 0, 0, 0, [])]
/-- 34: HornBench$Nodes.use(I)V -/
def am_c34 : List AmIns := [(0, 0, 3, 0, []), (24, 3, 11, 3, []), (0, 1, 0, 0, []), (0, 0, 3, 0, []), (24, 3, 11, 3, []), (0, 1, 0, 0, []), (40, 182, 2, 12, []), (2, 0, 0, 1, []), (8, 0, 0, 0, []), (40, 183, 3, 12, []), (41, 0, 9, 0, [])]
/-- 35: HornBench$Nodes.predicates()I -/
def am_c35 : List AmIns := [(2, 0, 0, 0, []), (1, 1, 0, 0, []), (2, 0, 0, 0, []), (1, 2, 0, 0, []), (0, 2, 0, 0, []), (0, 0, 3, 0, []), (24, 3, 12, 0, []), (19, 29, 3, 0, []), (0, 0, 3, 0, []), (24, 3, 6, 3, []), (0, 2, 0, 0, []), (40, 182, 2, 12, []), (1, 3, 0, 0, []), (0, 0, 3, 0, []), (0, 3, 0, 0, []), (2, 0, 0, 64, []), (8, 0, 2, 0, []), (0, 0, 3, 0, []), (24, 3, 7, 3, []), (0, 3, 0, 0, []), (40, 182, 2, 12, []), (8, 0, 0, 0, []), (2, 0, 0, 0, []), (40, 36, 3, 0, []), (0, 2, 0, 0, []), (19, 27, 1, 0, []), (17, 1, 0, 1, []), (17, 2, 0, 1, []), (22, 4, 0, 0, []), (0, 1, 0, 0, []), (41, 0, 0, 0, [])]
/-- 36: HornBench$Nodes.clauseFor(II)I -/
def am_c36 : List AmIns := [(0, 2, 0, 0, []), (2, 0, 0, 0, []), (40, 298, 2, 2, []), (1, 3, 0, 0, []), (0, 3, 0, 0, []), (0, 0, 3, 0, []), (24, 3, 12, 0, []), (19, 45, 3, 0, []), (0, 3, 0, 0, []), (0, 0, 3, 0, []), (24, 3, 6, 3, []), (31, 0, 0, 0, []), (19, 45, 3, 0, []), (0, 0, 3, 0, []), (24, 3, 6, 3, []), (0, 3, 0, 0, []), (32, 0, 0, 0, []), (1, 4, 0, 0, []), (0, 4, 0, 0, []), (18, 30, 2, 0, []), (0, 4, 0, 0, []), (0, 0, 3, 0, []), (24, 3, 7, 3, []), (31, 0, 0, 0, []), (19, 30, 3, 0, []), (0, 0, 3, 0, []), (24, 3, 7, 3, []), (0, 4, 0, 0, []), (32, 0, 0, 0, []), (22, 31, 0, 0, []), (2, 0, 0, (-1), []), (1, 5, 0, 0, []), (0, 0, 3, 0, []), (0, 1, 0, 0, []), (0, 4, 0, 0, []), (2, 0, 0, 64, []), (8, 0, 2, 0, []), (0, 5, 0, 0, []), (8, 0, 0, 0, []), (40, 43, 3, 0, []), (18, 43, 0, 0, []), (0, 3, 0, 0, []), (41, 0, 0, 0, []), (17, 3, 0, 1, []), (22, 4, 0, 0, []), (2, 0, 0, (-1), []), (41, 0, 0, 0, [])]
/-- 37: HornBench$Nodes.kind(I)I -/
def am_c37 : List AmIns := [(0, 1, 0, 0, []), (18, 12, 2, 0, []), (0, 1, 0, 0, []), (0, 0, 3, 0, []), (24, 3, 0, 3, []), (31, 0, 0, 0, []), (19, 12, 3, 0, []), (0, 0, 3, 0, []), (24, 3, 0, 3, []), (0, 1, 0, 0, []), (32, 0, 0, 0, []), (22, 13, 0, 0, []), (2, 0, 0, 0, []), (41, 0, 0, 0, [])]
/-- 38: HornBench$Nodes.value(I)I -/
def am_c38 : List AmIns := [(0, 1, 0, 0, []), (18, 12, 2, 0, []), (0, 1, 0, 0, []), (0, 0, 3, 0, []), (24, 3, 1, 3, []), (31, 0, 0, 0, []), (19, 12, 3, 0, []), (0, 0, 3, 0, []), (24, 3, 1, 3, []), (0, 1, 0, 0, []), (32, 0, 0, 0, []), (22, 13, 0, 0, []), (2, 0, 0, 0, []), (41, 0, 0, 0, [])]
/-- 39: HornBench$Nodes.name(I)J -/
def am_c39 : List AmIns := [(0, 1, 0, 0, []), (18, 12, 2, 0, []), (0, 1, 0, 0, []), (0, 0, 3, 0, []), (24, 3, 2, 3, []), (31, 0, 0, 0, []), (19, 12, 3, 0, []), (0, 0, 3, 0, []), (24, 3, 2, 3, []), (0, 1, 0, 0, []), (32, 0, 1, 0, []), (22, 13, 0, 0, []), (3, 0, 0, 0, []), (41, 0, 1, 0, [])]
/-- 40: HornBench$Nodes.first(I)I -/
def am_c40 : List AmIns := [(0, 1, 0, 0, []), (18, 12, 2, 0, []), (0, 1, 0, 0, []), (0, 0, 3, 0, []), (24, 3, 3, 3, []), (31, 0, 0, 0, []), (19, 12, 3, 0, []), (0, 0, 3, 0, []), (24, 3, 3, 3, []), (0, 1, 0, 0, []), (32, 0, 0, 0, []), (22, 13, 0, 0, []), (2, 0, 0, (-1), []), (41, 0, 0, 0, [])]
/-- 41: HornBench$Nodes.next(I)I -/
def am_c41 : List AmIns := [(0, 1, 0, 0, []), (18, 12, 2, 0, []), (0, 1, 0, 0, []), (0, 0, 3, 0, []), (24, 3, 4, 3, []), (31, 0, 0, 0, []), (19, 12, 3, 0, []), (0, 0, 3, 0, []), (24, 3, 4, 3, []), (0, 1, 0, 0, []), (32, 0, 0, 0, []), (22, 13, 0, 0, []), (2, 0, 0, (-1), []), (41, 0, 0, 0, [])]
/-- 42: HornBench$Nodes.from(I)I -/
def am_c42 : List AmIns := [(0, 1, 0, 0, []), (18, 12, 2, 0, []), (0, 1, 0, 0, []), (0, 0, 3, 0, []), (24, 3, 5, 3, []), (31, 0, 0, 0, []), (19, 12, 3, 0, []), (0, 0, 3, 0, []), (24, 3, 5, 3, []), (0, 1, 0, 0, []), (32, 0, 0, 0, []), (22, 13, 0, 0, []), (2, 0, 0, (-1), []), (41, 0, 0, 0, [])]
/-- 43: HornBench$Nodes.isAlike(II)Z -/
def am_c43 : List AmIns := [(0, 1, 0, 0, []), (18, 43, 2, 0, []), (0, 1, 0, 0, []), (2, 0, 0, 2624, []), (19, 43, 3, 0, []), (0, 2, 0, 0, []), (18, 43, 2, 0, []), (0, 2, 0, 0, []), (2, 0, 0, 2624, []), (19, 43, 3, 0, []), (0, 0, 3, 0, []), (24, 3, 0, 3, []), (0, 1, 0, 0, []), (32, 0, 0, 0, []), (2, 0, 0, 5, []), (19, 43, 1, 0, []), (0, 0, 3, 0, []), (24, 3, 0, 3, []), (0, 2, 0, 0, []), (32, 0, 0, 0, []), (2, 0, 0, 5, []), (19, 43, 1, 0, []), (0, 0, 3, 0, []), (24, 3, 2, 3, []), (0, 1, 0, 0, []), (32, 0, 1, 0, []), (0, 0, 3, 0, []), (24, 3, 2, 3, []), (0, 2, 0, 0, []), (32, 0, 1, 0, []), (13, 0, 0, 0, []), (18, 43, 1, 0, []), (0, 0, 3, 0, []), (24, 3, 1, 3, []), (0, 1, 0, 0, []), (32, 0, 0, 0, []), (0, 0, 3, 0, []), (24, 3, 1, 3, []), (0, 2, 0, 0, []), (32, 0, 0, 0, []), (19, 43, 1, 0, []), (2, 0, 0, 1, []), (22, 44, 0, 0, []), (2, 0, 0, 0, []), (41, 0, 10, 0, [])]
/-- 44: HornBench$Nodes.isOperator(I)Z -/
def am_c44 : List AmIns := [(0, 1, 0, 0, []), (18, 11, 2, 0, []), (0, 1, 0, 0, []), (2, 0, 0, 2624, []), (19, 11, 3, 0, []), (0, 0, 3, 0, []), (24, 3, 0, 3, []), (0, 1, 0, 0, []), (32, 0, 0, 0, []), (2, 0, 0, 5, []), (19, 13, 0, 0, []), (2, 0, 0, 0, []), (41, 0, 10, 0, []), (0, 0, 3, 0, []), (24, 3, 2, 3, []), (0, 1, 0, 0, []), (32, 0, 1, 0, []), (1, 2, 1, 0, []), (0, 2, 1, 0, []), (3, 0, 0, 43, []), (13, 0, 0, 0, []), (18, 38, 0, 0, []), (0, 2, 1, 0, []), (3, 0, 0, 45, []), (13, 0, 0, 0, []), (18, 38, 0, 0, []), (0, 2, 1, 0, []), (3, 0, 0, 42, []), (13, 0, 0, 0, []), (18, 38, 0, 0, []), (0, 2, 1, 0, []), (3, 0, 0, 47, []), (13, 0, 0, 0, []), (18, 38, 0, 0, []), (0, 2, 1, 0, []), (3, 0, 0, 7171940, []), (13, 0, 0, 0, []), (18, 40, 1, 0, []), (2, 0, 0, 1, []), (22, 41, 0, 0, []), (2, 0, 0, 0, []), (41, 0, 10, 0, [])]
/-- 45: HornBench$Parser.<init>(LHornBench$Tape;LHornBench$Nodes;)V -/
def am_c45 : List AmIns := [(0, 0, 3, 0, []), (35, 0, 0, 0, []), (0, 0, 3, 0, []), (2, 0, 0, 8, []), (29, 62, 0, 0, []), (25, 4, 2, 3, []), (0, 0, 3, 0, []), (28, 9, 5, 0, []), (26, 0, 0, 0, []), (0, 1, 3, 0, []), (40, 145, 2, 1, []), (25, 4, 0, 3, []), (0, 0, 3, 0, []), (0, 2, 3, 0, []), (25, 4, 1, 3, []), (41, 0, 9, 0, [])]
/-- 46: HornBench$Parser.readProgram()I -/
def am_c46 : List AmIns := [(0, 0, 3, 0, []), (40, 50, 1, 0, []), (0, 0, 3, 0, []), (24, 4, 1, 3, []), (40, 26, 1, 0, []), (1, 1, 0, 0, []), (2, 0, 0, 0, []), (1, 2, 0, 0, []), (0, 2, 0, 0, []), (2, 0, 0, 2000, []), (19, 26, 3, 0, []), (0, 0, 3, 0, []), (24, 4, 5, 10, []), (18, 26, 1, 0, []), (0, 2, 0, 0, []), (18, 20, 0, 0, []), (0, 0, 3, 0, []), (24, 4, 4, 0, []), (2, 0, 0, 1, []), (19, 26, 0, 0, []), (0, 0, 3, 0, []), (0, 1, 0, 0, []), (40, 52, 2, 0, []), (17, 1, 0, 1, []), (17, 2, 0, 1, []), (22, 8, 0, 0, []), (0, 0, 3, 0, []), (40, 49, 1, 0, []), (18, 33, 1, 0, []), (0, 0, 3, 0, []), (24, 4, 1, 3, []), (0, 1, 0, 0, []), (40, 18, 2, 0, []), (0, 0, 3, 0, []), (40, 49, 1, 0, []), (41, 0, 0, 0, [])]
/-- 47: HornBench$Parser.readQuestion()I -/
def am_c47 : List AmIns := [(0, 0, 3, 0, []), (40, 50, 1, 0, []), (0, 0, 3, 0, []), (2, 0, 0, 40, []), (40, 51, 2, 0, []), (0, 0, 3, 0, []), (40, 53, 1, 0, []), (1, 1, 0, 0, []), (0, 0, 3, 0, []), (2, 0, 0, 46, []), (40, 69, 2, 0, []), (0, 0, 3, 0, []), (24, 4, 4, 0, []), (2, 0, 0, 1, []), (19, 17, 0, 0, []), (0, 0, 3, 0, []), (40, 71, 1, 0, []), (0, 0, 3, 0, []), (24, 4, 1, 3, []), (2, 0, 0, (-1), []), (0, 1, 0, 0, []), (0, 0, 3, 0, []), (24, 4, 9, 0, []), (0, 0, 3, 0, []), (24, 4, 10, 0, []), (40, 25, 5, 0, []), (0, 0, 3, 0, []), (40, 49, 1, 0, []), (41, 0, 0, 0, [])]
/-- 48: HornBench$Parser.errorPlace()I -/
def am_c48 : List AmIns := [(0, 0, 3, 0, []), (24, 4, 5, 10, []), (18, 9, 0, 0, []), (0, 0, 3, 0, []), (24, 4, 0, 3, []), (0, 0, 3, 0, []), (24, 4, 3, 0, []), (40, 147, 2, 0, []), (41, 0, 0, 0, []), (0, 0, 3, 0, []), (24, 4, 6, 0, []), (2, 0, 0, (-1), []), (19, 15, 1, 0, []), (2, 0, 0, (-1), []), (22, 20, 0, 0, []), (0, 0, 3, 0, []), (24, 4, 0, 3, []), (0, 0, 3, 0, []), (24, 4, 6, 0, []), (40, 147, 2, 0, []), (41, 0, 0, 0, [])]
/-- 49: HornBench$Parser.error()I -/
def am_c49 : List AmIns := [(0, 0, 3, 0, []), (24, 4, 5, 10, []), (18, 5, 0, 0, []), (2, 0, 0, 1, []), (41, 0, 0, 0, []), (0, 0, 3, 0, []), (24, 4, 6, 0, []), (2, 0, 0, (-1), []), (19, 11, 1, 0, []), (2, 0, 0, 0, []), (22, 12, 0, 0, []), (2, 0, 0, 2, []), (41, 0, 0, 0, [])]
/-- 50: HornBench$Parser.start()V -/
def am_c50 : List AmIns := [(0, 0, 3, 0, []), (24, 4, 0, 3, []), (40, 149, 1, 0, []), (0, 0, 3, 0, []), (2, 0, 0, 0, []), (25, 4, 3, 0, []), (0, 0, 3, 0, []), (0, 0, 3, 0, []), (24, 4, 0, 3, []), (0, 0, 3, 0, []), (24, 4, 3, 0, []), (40, 146, 2, 0, []), (25, 4, 4, 0, []), (0, 0, 3, 0, []), (2, 0, 0, 0, []), (25, 4, 5, 10, []), (0, 0, 3, 0, []), (2, 0, 0, (-1), []), (25, 4, 6, 0, []), (41, 0, 9, 0, [])]
/-- 51: HornBench$Parser.begin(I)V -/
def am_c51 : List AmIns := [(0, 0, 3, 0, []), (2, 0, 0, 0, []), (25, 4, 7, 0, []), (0, 0, 3, 0, []), (2, 0, 0, 0, []), (25, 4, 8, 0, []), (0, 0, 3, 0, []), (2, 0, 0, 0, []), (25, 4, 9, 0, []), (0, 0, 3, 0, []), (2, 0, 0, 0, []), (25, 4, 10, 0, []), (0, 0, 3, 0, []), (24, 4, 1, 3, []), (0, 1, 0, 0, []), (40, 20, 2, 0, []), (41, 0, 9, 0, [])]
/-- 52: HornBench$Parser.readClause(I)V -/
def am_c52 : List AmIns := [(0, 1, 0, 0, []), (2, 0, 0, 40, []), (19, 5, 2, 0, []), (0, 0, 3, 0, []), (40, 72, 1, 0, []), (0, 0, 3, 0, []), (0, 0, 3, 0, []), (24, 4, 1, 3, []), (0, 1, 0, 0, []), (2, 0, 0, 40, []), (40, 299, 2, 2, []), (40, 27, 2, 0, []), (40, 51, 2, 0, []), (0, 0, 3, 0, []), (24, 4, 4, 0, []), (2, 0, 0, 5, []), (19, 19, 0, 0, []), (0, 0, 3, 0, []), (40, 71, 1, 0, []), (0, 0, 3, 0, []), (40, 61, 1, 0, []), (1, 2, 0, 0, []), (2, 0, 0, (-1), []), (1, 3, 0, 0, []), (0, 0, 3, 0, []), (24, 4, 4, 0, []), (2, 0, 0, 16, []), (19, 33, 1, 0, []), (0, 0, 3, 0, []), (40, 70, 1, 0, []), (0, 0, 3, 0, []), (40, 53, 1, 0, []), (1, 3, 0, 0, []), (0, 0, 3, 0, []), (2, 0, 0, 46, []), (40, 69, 2, 0, []), (0, 0, 3, 0, []), (24, 4, 1, 3, []), (0, 2, 0, 0, []), (0, 3, 0, 0, []), (0, 0, 3, 0, []), (24, 4, 9, 0, []), (0, 0, 3, 0, []), (24, 4, 10, 0, []), (40, 25, 5, 0, []), (41, 0, 9, 0, [])]
/-- 53: HornBench$Parser.readGoals()I -/
def am_c53 : List AmIns := [(0, 0, 3, 0, []), (40, 54, 1, 0, []), (1, 1, 0, 0, []), (0, 1, 0, 0, []), (1, 2, 0, 0, []), (2, 0, 0, 0, []), (1, 3, 0, 0, []), (0, 3, 0, 0, []), (2, 0, 0, 60, []), (19, 28, 3, 0, []), (0, 0, 3, 0, []), (24, 4, 4, 0, []), (2, 0, 0, 44, []), (19, 28, 1, 0, []), (0, 0, 3, 0, []), (40, 70, 1, 0, []), (0, 0, 3, 0, []), (40, 54, 1, 0, []), (1, 4, 0, 0, []), (0, 0, 3, 0, []), (24, 4, 1, 3, []), (0, 2, 0, 0, []), (0, 4, 0, 0, []), (40, 22, 3, 0, []), (0, 4, 0, 0, []), (1, 2, 0, 0, []), (17, 3, 0, 1, []), (22, 7, 0, 0, []), (0, 1, 0, 0, []), (41, 0, 0, 0, [])]
/-- 54: HornBench$Parser.readGoal()I -/
def am_c54 : List AmIns := [(0, 0, 3, 0, []), (26, 0, 0, 0, []), (24, 4, 9, 0, []), (2, 0, 0, 1, []), (8, 0, 0, 0, []), (25, 4, 9, 0, []), (0, 0, 3, 0, []), (24, 4, 9, 0, []), (2, 0, 0, 8, []), (19, 12, 5, 0, []), (0, 0, 3, 0, []), (40, 72, 1, 0, []), (0, 0, 3, 0, []), (24, 4, 4, 0, []), (23, 24, 1, 0, [(6, 15), (7, 15), (8, 18), (9, 21), (33, 15)]), (0, 0, 3, 0, []), (40, 55, 1, 0, []), (41, 0, 0, 0, []), (0, 0, 3, 0, []), (40, 56, 1, 0, []), (41, 0, 0, 0, []), (0, 0, 3, 0, []), (40, 57, 1, 0, []), (41, 0, 0, 0, []), (0, 0, 3, 0, []), (40, 58, 1, 0, []), (41, 0, 0, 0, [])]
/-- 55: HornBench$Parser.readPlainGoal()I -/
def am_c55 : List AmIns := [(0, 0, 3, 0, []), (24, 4, 1, 3, []), (0, 0, 3, 0, []), (24, 4, 4, 0, []), (2, 0, 0, 0, []), (0, 0, 3, 0, []), (24, 4, 0, 3, []), (0, 0, 3, 0, []), (24, 4, 3, 0, []), (40, 148, 2, 0, []), (2, 0, 0, (-1), []), (40, 21, 5, 0, []), (1, 1, 0, 0, []), (0, 0, 3, 0, []), (40, 70, 1, 0, []), (0, 1, 0, 0, []), (41, 0, 0, 0, [])]
/-- 56: HornBench$Parser.readNot()I -/
def am_c56 : List AmIns := [(0, 0, 3, 0, []), (40, 70, 1, 0, []), (0, 0, 3, 0, []), (2, 0, 0, 40, []), (40, 67, 2, 0, []), (0, 0, 3, 0, []), (40, 53, 1, 0, []), (1, 1, 0, 0, []), (0, 0, 3, 0, []), (2, 0, 0, 41, []), (40, 68, 2, 0, []), (0, 0, 3, 0, []), (24, 4, 1, 3, []), (2, 0, 0, 8, []), (2, 0, 0, 0, []), (3, 0, 0, 7237492, []), (0, 1, 0, 0, []), (40, 21, 5, 0, []), (41, 0, 0, 0, [])]
/-- 57: HornBench$Parser.readVar()I -/
def am_c57 : List AmIns := [(0, 0, 3, 0, []), (40, 70, 1, 0, []), (0, 0, 3, 0, []), (2, 0, 0, 40, []), (40, 67, 2, 0, []), (0, 0, 3, 0, []), (40, 59, 1, 0, []), (1, 1, 0, 0, []), (0, 0, 3, 0, []), (2, 0, 0, 41, []), (40, 68, 2, 0, []), (0, 0, 3, 0, []), (24, 4, 1, 3, []), (2, 0, 0, 9, []), (2, 0, 0, 1, []), (3, 0, 0, 7758194, []), (0, 1, 0, 0, []), (40, 21, 5, 0, []), (41, 0, 0, 0, [])]
/-- 58: HornBench$Parser.readRelation()I -/
def am_c58 : List AmIns := [(0, 0, 3, 0, []), (24, 4, 4, 0, []), (2, 0, 0, 5, []), (19, 6, 1, 0, []), (2, 0, 0, 1, []), (22, 7, 0, 0, []), (2, 0, 0, 0, []), (1, 1, 0, 0, []), (0, 0, 3, 0, []), (40, 59, 1, 0, []), (1, 2, 0, 0, []), (0, 0, 3, 0, []), (24, 4, 4, 0, []), (1, 3, 0, 0, []), (0, 3, 0, 0, []), (23, 40, 1, 0, [(10, 16), (12, 16), (13, 16), (14, 16), (15, 16), (60, 16), (61, 16), (62, 16)]), (0, 0, 3, 0, []), (24, 4, 0, 3, []), (0, 0, 3, 0, []), (24, 4, 3, 0, []), (40, 148, 2, 0, []), (1, 4, 1, 0, []), (0, 0, 3, 0, []), (40, 70, 1, 0, []), (0, 0, 3, 0, []), (40, 59, 1, 0, []), (1, 6, 0, 0, []), (0, 0, 3, 0, []), (24, 4, 1, 3, []), (0, 2, 0, 0, []), (0, 6, 0, 0, []), (40, 22, 3, 0, []), (0, 0, 3, 0, []), (24, 4, 1, 3, []), (0, 3, 0, 0, []), (2, 0, 0, 2, []), (0, 4, 1, 0, []), (0, 2, 0, 0, []), (40, 21, 5, 0, []), (41, 0, 0, 0, []), (0, 1, 0, 0, []), (18, 47, 0, 0, []), (0, 0, 3, 0, []), (24, 4, 1, 3, []), (0, 2, 0, 0, []), (40, 24, 2, 0, []), (18, 49, 0, 0, []), (0, 0, 3, 0, []), (40, 71, 1, 0, []), (0, 2, 0, 0, []), (41, 0, 0, 0, [])]
/-- 59: HornBench$Parser.readTerm()I -/
def am_c59 : List AmIns := [(0, 0, 3, 0, []), (40, 60, 1, 0, []), (1, 1, 0, 0, []), (2, 0, 0, 0, []), (1, 2, 0, 0, []), (0, 2, 0, 0, []), (2, 0, 0, 60, []), (19, 42, 3, 0, []), (0, 0, 3, 0, []), (24, 4, 4, 0, []), (2, 0, 0, 43, []), (19, 16, 0, 0, []), (0, 0, 3, 0, []), (24, 4, 4, 0, []), (2, 0, 0, 45, []), (19, 42, 1, 0, []), (0, 0, 3, 0, []), (24, 4, 0, 3, []), (0, 0, 3, 0, []), (24, 4, 3, 0, []), (40, 148, 2, 0, []), (1, 3, 1, 0, []), (0, 0, 3, 0, []), (40, 70, 1, 0, []), (0, 0, 3, 0, []), (40, 60, 1, 0, []), (1, 5, 0, 0, []), (0, 0, 3, 0, []), (24, 4, 1, 3, []), (0, 1, 0, 0, []), (0, 5, 0, 0, []), (40, 22, 3, 0, []), (0, 0, 3, 0, []), (24, 4, 1, 3, []), (2, 0, 0, 5, []), (2, 0, 0, 2, []), (0, 3, 1, 0, []), (0, 1, 0, 0, []), (40, 21, 5, 0, []), (1, 1, 0, 0, []), (17, 2, 0, 1, []), (22, 5, 0, 0, []), (0, 1, 0, 0, []), (41, 0, 0, 0, [])]
/-- 60: HornBench$Parser.readProduct()I -/
def am_c60 : List AmIns := [(0, 0, 3, 0, []), (40, 61, 1, 0, []), (1, 1, 0, 0, []), (2, 0, 0, 0, []), (1, 2, 0, 0, []), (0, 2, 0, 0, []), (2, 0, 0, 60, []), (19, 46, 3, 0, []), (0, 0, 3, 0, []), (24, 4, 4, 0, []), (2, 0, 0, 42, []), (19, 20, 0, 0, []), (0, 0, 3, 0, []), (24, 4, 4, 0, []), (2, 0, 0, 47, []), (19, 20, 0, 0, []), (0, 0, 3, 0, []), (24, 4, 4, 0, []), (2, 0, 0, 11, []), (19, 46, 1, 0, []), (0, 0, 3, 0, []), (24, 4, 0, 3, []), (0, 0, 3, 0, []), (24, 4, 3, 0, []), (40, 148, 2, 0, []), (1, 3, 1, 0, []), (0, 0, 3, 0, []), (40, 70, 1, 0, []), (0, 0, 3, 0, []), (40, 61, 1, 0, []), (1, 5, 0, 0, []), (0, 0, 3, 0, []), (24, 4, 1, 3, []), (0, 1, 0, 0, []), (0, 5, 0, 0, []), (40, 22, 3, 0, []), (0, 0, 3, 0, []), (24, 4, 1, 3, []), (2, 0, 0, 5, []), (2, 0, 0, 2, []), (0, 3, 1, 0, []), (0, 1, 0, 0, []), (40, 21, 5, 0, []), (1, 1, 0, 0, []), (17, 2, 0, 1, []), (22, 5, 0, 0, []), (0, 1, 0, 0, []), (41, 0, 0, 0, [])]
/-- 61: HornBench$Parser.readSimple()I -/
def am_c61 : List AmIns := [(0, 0, 3, 0, []), (24, 4, 4, 0, []), (23, 33, 1, 0, [(3, 3), (4, 6), (5, 16), (40, 22), (45, 10), (91, 19)]), (0, 0, 3, 0, []), (40, 62, 1, 0, []), (41, 0, 0, 0, []), (0, 0, 3, 0, []), (2, 0, 0, 1, []), (40, 63, 2, 0, []), (41, 0, 0, 0, []), (0, 0, 3, 0, []), (40, 70, 1, 0, []), (0, 0, 3, 0, []), (2, 0, 0, (-1), []), (40, 63, 2, 0, []), (41, 0, 0, 0, []), (0, 0, 3, 0, []), (40, 64, 1, 0, []), (41, 0, 0, 0, []), (0, 0, 3, 0, []), (40, 65, 1, 0, []), (41, 0, 0, 0, []), (0, 0, 3, 0, []), (2, 0, 0, 40, []), (40, 67, 2, 0, []), (0, 0, 3, 0, []), (40, 59, 1, 0, []), (1, 1, 0, 0, []), (0, 0, 3, 0, []), (2, 0, 0, 41, []), (40, 68, 2, 0, []), (0, 1, 0, 0, []), (41, 0, 0, 0, []), (0, 0, 3, 0, []), (40, 71, 1, 0, []), (2, 0, 0, (-1), []), (41, 0, 0, 0, [])]
/-- 62: HornBench$Parser.readVariable()I -/
def am_c62 : List AmIns := [(0, 0, 3, 0, []), (24, 4, 0, 3, []), (0, 0, 3, 0, []), (24, 4, 3, 0, []), (40, 148, 2, 0, []), (3, 0, 0, 95, []), (13, 0, 0, 0, []), (18, 10, 1, 0, []), (3, 0, 0, 0, []), (22, 15, 0, 0, []), (0, 0, 3, 0, []), (24, 4, 0, 3, []), (0, 0, 3, 0, []), (24, 4, 3, 0, []), (40, 148, 2, 0, []), (1, 1, 1, 0, []), (2, 0, 0, (-1), []), (1, 3, 0, 0, []), (2, 0, 0, 0, []), (1, 4, 0, 0, []), (0, 4, 0, 0, []), (0, 0, 3, 0, []), (24, 4, 10, 0, []), (19, 44, 3, 0, []), (0, 4, 0, 0, []), (0, 0, 3, 0, []), (24, 4, 2, 3, []), (31, 0, 0, 0, []), (19, 44, 3, 0, []), (0, 1, 1, 0, []), (3, 0, 0, 0, []), (13, 0, 0, 0, []), (18, 44, 0, 0, []), (0, 0, 3, 0, []), (24, 4, 2, 3, []), (0, 4, 0, 0, []), (32, 0, 1, 0, []), (0, 1, 1, 0, []), (13, 0, 0, 0, []), (18, 42, 1, 0, []), (0, 4, 0, 0, []), (1, 3, 0, 0, []), (17, 4, 0, 1, []), (22, 20, 0, 0, []), (0, 3, 0, 0, []), (2, 0, 0, (-1), []), (19, 71, 1, 0, []), (0, 0, 3, 0, []), (24, 4, 10, 0, []), (1, 3, 0, 0, []), (0, 3, 0, 0, []), (18, 69, 2, 0, []), (0, 3, 0, 0, []), (0, 0, 3, 0, []), (24, 4, 2, 3, []), (31, 0, 0, 0, []), (19, 69, 3, 0, []), (0, 0, 3, 0, []), (24, 4, 2, 3, []), (0, 3, 0, 0, []), (0, 1, 1, 0, []), (33, 62, 11, 0, []), (0, 0, 3, 0, []), (26, 0, 0, 0, []), (24, 4, 10, 0, []), (2, 0, 0, 1, []), (8, 0, 0, 0, []), (25, 4, 10, 0, []), (22, 71, 0, 0, []), (0, 0, 3, 0, []), (40, 72, 1, 0, []), (0, 0, 3, 0, []), (40, 70, 1, 0, []), (0, 0, 3, 0, []), (24, 4, 1, 3, []), (2, 0, 0, 3, []), (0, 3, 0, 0, []), (3, 0, 0, 0, []), (2, 0, 0, (-1), []), (40, 21, 5, 0, []), (41, 0, 0, 0, [])]
/-- 63: HornBench$Parser.readNumber(I)I -/
def am_c63 : List AmIns := [(0, 0, 3, 0, []), (24, 4, 4, 0, []), (2, 0, 0, 4, []), (19, 6, 0, 0, []), (0, 0, 3, 0, []), (40, 71, 1, 0, []), (0, 1, 0, 0, []), (0, 0, 3, 0, []), (24, 4, 0, 3, []), (0, 0, 3, 0, []), (24, 4, 3, 0, []), (40, 148, 2, 0, []), (14, 0, 1, 0, []), (8, 0, 2, 0, []), (1, 2, 0, 0, []), (0, 0, 3, 0, []), (40, 70, 1, 0, []), (0, 0, 3, 0, []), (24, 4, 1, 3, []), (2, 0, 0, 4, []), (0, 2, 0, 0, []), (3, 0, 0, 0, []), (2, 0, 0, (-1), []), (40, 21, 5, 0, []), (41, 0, 0, 0, [])]
/-- 64: HornBench$Parser.readName()I -/
def am_c64 : List AmIns := [(0, 0, 3, 0, []), (24, 4, 0, 3, []), (0, 0, 3, 0, []), (24, 4, 3, 0, []), (40, 148, 2, 0, []), (1, 1, 1, 0, []), (0, 0, 3, 0, []), (40, 70, 1, 0, []), (0, 0, 3, 0, []), (24, 4, 4, 0, []), (2, 0, 0, 40, []), (19, 20, 0, 0, []), (0, 0, 3, 0, []), (24, 4, 1, 3, []), (2, 0, 0, 5, []), (2, 0, 0, 0, []), (0, 1, 1, 0, []), (2, 0, 0, (-1), []), (40, 21, 5, 0, []), (41, 0, 0, 0, []), (0, 0, 3, 0, []), (2, 0, 0, 40, []), (40, 67, 2, 0, []), (0, 0, 3, 0, []), (40, 59, 1, 0, []), (1, 3, 0, 0, []), (0, 3, 0, 0, []), (1, 4, 0, 0, []), (2, 0, 0, 1, []), (1, 5, 0, 0, []), (2, 0, 0, 0, []), (1, 6, 0, 0, []), (0, 6, 0, 0, []), (2, 0, 0, 60, []), (19, 59, 3, 0, []), (0, 0, 3, 0, []), (24, 4, 4, 0, []), (2, 0, 0, 44, []), (19, 59, 1, 0, []), (0, 0, 3, 0, []), (40, 70, 1, 0, []), (17, 5, 0, 1, []), (0, 5, 0, 0, []), (2, 0, 0, 4, []), (19, 47, 5, 0, []), (0, 0, 3, 0, []), (40, 72, 1, 0, []), (0, 0, 3, 0, []), (40, 59, 1, 0, []), (1, 7, 0, 0, []), (0, 0, 3, 0, []), (24, 4, 1, 3, []), (0, 4, 0, 0, []), (0, 7, 0, 0, []), (40, 22, 3, 0, []), (0, 7, 0, 0, []), (1, 4, 0, 0, []), (17, 6, 0, 1, []), (22, 32, 0, 0, []), (0, 0, 3, 0, []), (2, 0, 0, 41, []), (40, 68, 2, 0, []), (0, 0, 3, 0, []), (24, 4, 1, 3, []), (2, 0, 0, 5, []), (0, 5, 0, 0, []), (0, 1, 1, 0, []), (0, 3, 0, 0, []), (40, 21, 5, 0, []), (41, 0, 0, 0, [])]
/-- 65: HornBench$Parser.readList()I -/
def am_c65 : List AmIns := [(0, 0, 3, 0, []), (2, 0, 0, 91, []), (40, 67, 2, 0, []), (2, 0, 0, (-1), []), (1, 1, 0, 0, []), (0, 0, 3, 0, []), (24, 4, 4, 0, []), (2, 0, 0, 93, []), (19, 35, 0, 0, []), (0, 0, 3, 0, []), (40, 59, 1, 0, []), (1, 1, 0, 0, []), (2, 0, 0, 0, []), (1, 2, 0, 0, []), (0, 2, 0, 0, []), (2, 0, 0, 60, []), (19, 35, 3, 0, []), (0, 0, 3, 0, []), (24, 4, 4, 0, []), (2, 0, 0, 44, []), (19, 35, 1, 0, []), (0, 0, 3, 0, []), (40, 70, 1, 0, []), (0, 0, 3, 0, []), (40, 59, 1, 0, []), (1, 3, 0, 0, []), (0, 0, 3, 0, []), (24, 4, 1, 3, []), (0, 3, 0, 0, []), (0, 1, 0, 0, []), (40, 22, 3, 0, []), (0, 3, 0, 0, []), (1, 1, 0, 0, []), (17, 2, 0, 1, []), (22, 14, 0, 0, []), (2, 0, 0, (-1), []), (1, 2, 0, 0, []), (0, 0, 3, 0, []), (24, 4, 4, 0, []), (2, 0, 0, 124, []), (19, 50, 1, 0, []), (0, 1, 0, 0, []), (2, 0, 0, (-1), []), (19, 50, 0, 0, []), (0, 0, 3, 0, []), (40, 70, 1, 0, []), (0, 0, 3, 0, []), (40, 59, 1, 0, []), (1, 2, 0, 0, []), (22, 58, 0, 0, []), (0, 0, 3, 0, []), (24, 4, 1, 3, []), (2, 0, 0, 5, []), (2, 0, 0, 0, []), (3, 0, 0, 23389, []), (2, 0, 0, (-1), []), (40, 21, 5, 0, []), (1, 2, 0, 0, []), (0, 0, 3, 0, []), (2, 0, 0, 93, []), (40, 68, 2, 0, []), (0, 0, 3, 0, []), (0, 1, 0, 0, []), (0, 2, 0, 0, []), (40, 66, 3, 0, []), (41, 0, 0, 0, [])]
/-- 66: HornBench$Parser.makePairs(II)I -/
def am_c66 : List AmIns := [(0, 2, 0, 0, []), (1, 3, 0, 0, []), (0, 1, 0, 0, []), (1, 4, 0, 0, []), (2, 0, 0, 0, []), (1, 5, 0, 0, []), (0, 5, 0, 0, []), (2, 0, 0, 60, []), (19, 34, 3, 0, []), (0, 4, 0, 0, []), (2, 0, 0, (-1), []), (19, 34, 0, 0, []), (0, 0, 3, 0, []), (24, 4, 1, 3, []), (0, 4, 0, 0, []), (40, 23, 2, 0, []), (1, 6, 0, 0, []), (0, 0, 3, 0, []), (24, 4, 1, 3, []), (0, 4, 0, 0, []), (0, 3, 0, 0, []), (40, 22, 3, 0, []), (0, 0, 3, 0, []), (24, 4, 1, 3, []), (2, 0, 0, 5, []), (2, 0, 0, 2, []), (3, 0, 0, 46, []), (0, 4, 0, 0, []), (40, 21, 5, 0, []), (1, 3, 0, 0, []), (0, 6, 0, 0, []), (1, 4, 0, 0, []), (17, 5, 0, 1, []), (22, 6, 0, 0, []), (0, 3, 0, 0, []), (41, 0, 0, 0, [])]
/-- 67: HornBench$Parser.open(I)V -/
def am_c67 : List AmIns := [(0, 0, 3, 0, []), (24, 4, 4, 0, []), (0, 1, 0, 0, []), (19, 8, 1, 0, []), (0, 0, 3, 0, []), (24, 4, 8, 0, []), (2, 0, 0, 8, []), (19, 11, 2, 0, []), (0, 0, 3, 0, []), (40, 71, 1, 0, []), (22, 19, 0, 0, []), (0, 0, 3, 0, []), (26, 0, 0, 0, []), (24, 4, 8, 0, []), (2, 0, 0, 1, []), (8, 0, 0, 0, []), (25, 4, 8, 0, []), (0, 0, 3, 0, []), (40, 70, 1, 0, []), (41, 0, 9, 0, [])]
/-- 68: HornBench$Parser.close(I)V -/
def am_c68 : List AmIns := [(0, 0, 3, 0, []), (24, 4, 4, 0, []), (0, 1, 0, 0, []), (19, 7, 0, 0, []), (0, 0, 3, 0, []), (40, 71, 1, 0, []), (22, 15, 0, 0, []), (0, 0, 3, 0, []), (26, 0, 0, 0, []), (24, 4, 8, 0, []), (2, 0, 0, 1, []), (8, 0, 1, 0, []), (25, 4, 8, 0, []), (0, 0, 3, 0, []), (40, 70, 1, 0, []), (41, 0, 9, 0, [])]
/-- 69: HornBench$Parser.expect(I)V -/
def am_c69 : List AmIns := [(0, 0, 3, 0, []), (24, 4, 4, 0, []), (0, 1, 0, 0, []), (19, 7, 0, 0, []), (0, 0, 3, 0, []), (40, 71, 1, 0, []), (22, 9, 0, 0, []), (0, 0, 3, 0, []), (40, 70, 1, 0, []), (41, 0, 9, 0, [])]
/-- 70: HornBench$Parser.take()V -/
def am_c70 : List AmIns := [(0, 0, 3, 0, []), (24, 4, 5, 10, []), (18, 7, 1, 0, []), (0, 0, 3, 0, []), (24, 4, 7, 0, []), (2, 0, 0, 60, []), (19, 14, 2, 0, []), (0, 0, 3, 0, []), (2, 0, 0, 1, []), (25, 4, 5, 10, []), (0, 0, 3, 0, []), (2, 0, 0, 0, []), (25, 4, 4, 0, []), (22, 46, 0, 0, []), (0, 0, 3, 0, []), (26, 0, 0, 0, []), (24, 4, 7, 0, []), (2, 0, 0, 1, []), (8, 0, 0, 0, []), (25, 4, 7, 0, []), (0, 0, 3, 0, []), (26, 0, 0, 0, []), (24, 4, 3, 0, []), (2, 0, 0, 1, []), (8, 0, 0, 0, []), (25, 4, 3, 0, []), (0, 0, 3, 0, []), (0, 0, 3, 0, []), (24, 4, 3, 0, []), (18, 44, 2, 0, []), (0, 0, 3, 0, []), (24, 4, 3, 0, []), (0, 0, 3, 0, []), (24, 4, 0, 3, []), (24, 9, 1, 3, []), (31, 0, 0, 0, []), (19, 44, 3, 0, []), (0, 0, 3, 0, []), (24, 4, 0, 3, []), (24, 9, 1, 3, []), (0, 0, 3, 0, []), (24, 4, 3, 0, []), (32, 0, 0, 0, []), (22, 45, 0, 0, []), (2, 0, 0, 2, []), (25, 4, 4, 0, []), (41, 0, 9, 0, [])]
/-- 71: HornBench$Parser.refuse()V -/
def am_c71 : List AmIns := [(0, 0, 3, 0, []), (2, 0, 0, 1, []), (25, 4, 5, 10, []), (0, 0, 3, 0, []), (2, 0, 0, 0, []), (25, 4, 4, 0, []), (41, 0, 9, 0, [])]
/-- 72: HornBench$Parser.tooMany()V -/
def am_c72 : List AmIns := [(0, 0, 3, 0, []), (24, 4, 6, 0, []), (2, 0, 0, (-1), []), (19, 8, 1, 0, []), (0, 0, 3, 0, []), (0, 0, 3, 0, []), (24, 4, 3, 0, []), (25, 4, 6, 0, []), (41, 0, 9, 0, [])]
/-- 73: HornBench$Pen.<init>(LHornBench$Terms;)V -/
def am_c73 : List AmIns := [(0, 0, 3, 0, []), (35, 0, 0, 0, []), (0, 0, 3, 0, []), (2, 0, 0, 600, []), (29, 64, 0, 0, []), (25, 5, 1, 3, []), (0, 0, 3, 0, []), (2, 0, 0, 600, []), (29, 64, 0, 0, []), (25, 5, 3, 3, []), (0, 0, 3, 0, []), (2, 0, 0, 600, []), (29, 61, 0, 0, []), (25, 5, 5, 3, []), (0, 0, 3, 0, []), (2, 0, 0, 600, []), (29, 61, 0, 0, []), (25, 5, 7, 3, []), (0, 0, 3, 0, []), (0, 1, 3, 0, []), (25, 5, 0, 3, []), (41, 0, 9, 0, [])]
/-- 74: HornBench$Pen.length()I -/
def am_c74 : List AmIns := [(0, 0, 3, 0, []), (24, 5, 2, 0, []), (41, 0, 0, 0, [])]
/-- 75: HornBench$Pen.byteOn(I)I -/
def am_c75 : List AmIns := [(0, 1, 0, 0, []), (18, 16, 2, 0, []), (0, 1, 0, 0, []), (0, 0, 3, 0, []), (24, 5, 2, 0, []), (19, 16, 3, 0, []), (0, 1, 0, 0, []), (0, 0, 3, 0, []), (24, 5, 1, 3, []), (31, 0, 0, 0, []), (19, 16, 3, 0, []), (0, 0, 3, 0, []), (24, 5, 1, 3, []), (0, 1, 0, 0, []), (32, 0, 11, 0, []), (22, 17, 0, 0, []), (2, 0, 0, 0, []), (41, 0, 0, 0, [])]
/-- 76: HornBench$Pen.wipe()V -/
def am_c76 : List AmIns := [(0, 0, 3, 0, []), (2, 0, 0, 0, []), (25, 5, 2, 0, []), (41, 0, 9, 0, [])]
/-- 77: HornBench$Pen.compose(II)Z -/
def am_c77 : List AmIns := [(0, 0, 3, 0, []), (2, 0, 0, 0, []), (25, 5, 4, 0, []), (0, 0, 3, 0, []), (2, 0, 0, 0, []), (25, 5, 6, 0, []), (0, 0, 3, 0, []), (2, 0, 0, 0, []), (25, 5, 8, 0, []), (0, 0, 3, 0, []), (2, 0, 0, 0, []), (25, 5, 9, 10, []), (0, 0, 3, 0, []), (0, 1, 0, 0, []), (0, 2, 0, 0, []), (40, 90, 3, 0, []), (2, 0, 0, 0, []), (1, 3, 0, 0, []), (0, 3, 0, 0, []), (2, 0, 0, 1000000, []), (19, 49, 3, 0, []), (0, 0, 3, 0, []), (24, 5, 6, 0, []), (18, 49, 5, 0, []), (0, 0, 3, 0, []), (24, 5, 9, 10, []), (18, 49, 1, 0, []), (0, 0, 3, 0, []), (26, 0, 0, 0, []), (24, 5, 6, 0, []), (2, 0, 0, 1, []), (8, 0, 1, 0, []), (25, 5, 6, 0, []), (0, 0, 3, 0, []), (24, 5, 5, 3, []), (0, 0, 3, 0, []), (24, 5, 6, 0, []), (40, 182, 2, 12, []), (1, 4, 0, 0, []), (0, 0, 3, 0, []), (0, 4, 0, 0, []), (2, 0, 0, 8, []), (8, 0, 4, 0, []), (0, 4, 0, 0, []), (2, 0, 0, 8, []), (8, 0, 3, 0, []), (40, 78, 3, 0, []), (17, 3, 0, 1, []), (22, 18, 0, 0, []), (0, 0, 3, 0, []), (24, 5, 9, 10, []), (18, 55, 1, 0, []), (0, 0, 3, 0, []), (24, 5, 6, 0, []), (18, 57, 5, 0, []), (2, 0, 0, 0, []), (41, 0, 10, 0, []), (2, 0, 0, 0, []), (1, 3, 0, 0, []), (0, 3, 0, 0, []), (0, 0, 3, 0, []), (24, 5, 4, 0, []), (19, 83, 3, 0, []), (0, 3, 0, 0, []), (0, 0, 3, 0, []), (24, 5, 1, 3, []), (31, 0, 0, 0, []), (19, 83, 3, 0, []), (0, 3, 0, 0, []), (0, 0, 3, 0, []), (24, 5, 3, 3, []), (31, 0, 0, 0, []), (19, 83, 3, 0, []), (0, 0, 3, 0, []), (24, 5, 1, 3, []), (0, 3, 0, 0, []), (0, 0, 3, 0, []), (24, 5, 3, 3, []), (0, 3, 0, 0, []), (32, 0, 11, 0, []), (33, 64, 11, 0, []), (17, 3, 0, 1, []), (22, 59, 0, 0, []), (0, 0, 3, 0, []), (0, 0, 3, 0, []), (24, 5, 4, 0, []), (25, 5, 2, 0, []), (2, 0, 0, 1, []), (41, 0, 10, 0, [])]
/-- 78: HornBench$Pen.writeItem(II)V -/
def am_c78 : List AmIns := [(0, 1, 0, 0, []), (23, 39, 0, 0, [(1, 2), (2, 9), (3, 16), (4, 22), (5, 29), (6, 33)]), (0, 0, 3, 0, []), (0, 0, 3, 0, []), (24, 5, 0, 3, []), (0, 2, 0, 0, []), (40, 136, 2, 0, []), (40, 79, 2, 0, []), (22, 42, 0, 0, []), (0, 0, 3, 0, []), (0, 0, 3, 0, []), (24, 5, 0, 3, []), (0, 2, 0, 0, []), (40, 136, 2, 0, []), (40, 81, 2, 0, []), (22, 42, 0, 0, []), (0, 0, 3, 0, []), (2, 0, 0, 1, []), (2, 0, 0, 3, []), (0, 2, 0, 0, []), (40, 83, 4, 0, []), (22, 42, 0, 0, []), (0, 0, 3, 0, []), (0, 0, 3, 0, []), (24, 5, 0, 3, []), (0, 2, 0, 0, []), (40, 136, 2, 0, []), (40, 82, 2, 0, []), (22, 42, 0, 0, []), (0, 0, 3, 0, []), (0, 2, 0, 0, []), (40, 84, 2, 0, []), (22, 42, 0, 0, []), (0, 0, 3, 0, []), (2, 0, 0, 5, []), (2, 0, 0, 6, []), (0, 2, 0, 0, []), (40, 83, 4, 0, []), (22, 42, 0, 0, []), (0, 0, 3, 0, []), (0, 2, 0, 0, []), (40, 89, 2, 0, []), (41, 0, 9, 0, [])]
/-- 79: HornBench$Pen.writeTerm(I)V -/
def am_c79 : List AmIns := [(0, 0, 3, 0, []), (24, 5, 0, 3, []), (0, 1, 0, 0, []), (40, 137, 2, 0, []), (18, 14, 0, 0, []), (0, 0, 3, 0, []), (2, 0, 0, 95, []), (40, 89, 2, 0, []), (0, 0, 3, 0, []), (0, 0, 3, 0, []), (0, 1, 0, 0, []), (40, 88, 2, 0, []), (40, 87, 2, 0, []), (22, 29, 0, 0, []), (0, 0, 3, 0, []), (24, 5, 0, 3, []), (0, 1, 0, 0, []), (40, 138, 2, 0, []), (18, 26, 0, 0, []), (0, 0, 3, 0, []), (0, 0, 3, 0, []), (24, 5, 0, 3, []), (0, 1, 0, 0, []), (40, 139, 2, 0, []), (40, 87, 2, 0, []), (22, 29, 0, 0, []), (0, 0, 3, 0, []), (0, 1, 0, 0, []), (40, 80, 2, 0, []), (41, 0, 9, 0, [])]
/-- 80: HornBench$Pen.writeNamed(I)V -/
def am_c80 : List AmIns := [(0, 0, 3, 0, []), (24, 5, 0, 3, []), (0, 1, 0, 0, []), (40, 130, 2, 0, []), (1, 2, 1, 0, []), (0, 0, 3, 0, []), (24, 5, 0, 3, []), (0, 1, 0, 0, []), (40, 133, 2, 0, []), (1, 4, 0, 0, []), (0, 4, 0, 0, []), (2, 0, 0, (-1), []), (19, 17, 1, 0, []), (0, 0, 3, 0, []), (0, 2, 1, 0, []), (40, 86, 2, 0, []), (22, 69, 0, 0, []), (0, 2, 1, 0, []), (3, 0, 0, 46, []), (13, 0, 0, 0, []), (18, 37, 1, 0, []), (0, 0, 3, 0, []), (2, 0, 0, 4, []), (0, 0, 3, 0, []), (24, 5, 0, 3, []), (0, 4, 0, 0, []), (40, 134, 2, 0, []), (40, 90, 3, 0, []), (0, 0, 3, 0, []), (2, 0, 0, 1, []), (0, 4, 0, 0, []), (40, 90, 3, 0, []), (0, 0, 3, 0, []), (2, 0, 0, 0, []), (2, 0, 0, 91, []), (40, 90, 3, 0, []), (22, 69, 0, 0, []), (0, 0, 3, 0, []), (24, 5, 0, 3, []), (0, 1, 0, 0, []), (40, 131, 2, 0, []), (18, 55, 0, 0, []), (0, 0, 3, 0, []), (2, 0, 0, 2, []), (0, 4, 0, 0, []), (0, 2, 1, 0, []), (0, 2, 1, 0, []), (3, 0, 0, 7171940, []), (13, 0, 0, 0, []), (18, 52, 1, 0, []), (2, 0, 0, 1, []), (22, 53, 0, 0, []), (2, 0, 0, 0, []), (40, 85, 5, 0, []), (22, 69, 0, 0, []), (0, 0, 3, 0, []), (0, 2, 1, 0, []), (40, 86, 2, 0, []), (0, 0, 3, 0, []), (2, 0, 0, 40, []), (40, 89, 2, 0, []), (0, 0, 3, 0, []), (2, 0, 0, 0, []), (2, 0, 0, 41, []), (40, 90, 3, 0, []), (0, 0, 3, 0, []), (2, 0, 0, 3, []), (0, 4, 0, 0, []), (40, 90, 3, 0, []), (41, 0, 9, 0, [])]
/-- 81: HornBench$Pen.writeOperand(I)V -/
def am_c81 : List AmIns := [(0, 0, 3, 0, []), (24, 5, 0, 3, []), (0, 1, 0, 0, []), (40, 131, 2, 0, []), (18, 18, 0, 0, []), (0, 0, 3, 0, []), (2, 0, 0, 0, []), (2, 0, 0, 41, []), (40, 90, 3, 0, []), (0, 0, 3, 0, []), (2, 0, 0, 1, []), (0, 1, 0, 0, []), (40, 90, 3, 0, []), (0, 0, 3, 0, []), (2, 0, 0, 0, []), (2, 0, 0, 40, []), (40, 90, 3, 0, []), (22, 22, 0, 0, []), (0, 0, 3, 0, []), (2, 0, 0, 1, []), (0, 1, 0, 0, []), (40, 90, 3, 0, []), (41, 0, 9, 0, [])]
/-- 82: HornBench$Pen.writeTail(I)V -/
def am_c82 : List AmIns := [(0, 0, 3, 0, []), (24, 5, 0, 3, []), (0, 1, 0, 0, []), (40, 130, 2, 0, []), (1, 2, 1, 0, []), (0, 2, 1, 0, []), (3, 0, 0, 23389, []), (13, 0, 0, 0, []), (18, 13, 1, 0, []), (0, 0, 3, 0, []), (2, 0, 0, 93, []), (40, 89, 2, 0, []), (22, 50, 0, 0, []), (0, 2, 1, 0, []), (3, 0, 0, 46, []), (13, 0, 0, 0, []), (18, 38, 1, 0, []), (0, 0, 3, 0, []), (24, 5, 0, 3, []), (0, 1, 0, 0, []), (40, 133, 2, 0, []), (1, 4, 0, 0, []), (0, 0, 3, 0, []), (2, 0, 0, 4, []), (0, 0, 3, 0, []), (24, 5, 0, 3, []), (0, 4, 0, 0, []), (40, 134, 2, 0, []), (40, 90, 3, 0, []), (0, 0, 3, 0, []), (2, 0, 0, 1, []), (0, 4, 0, 0, []), (40, 90, 3, 0, []), (0, 0, 3, 0, []), (2, 0, 0, 0, []), (2, 0, 0, 44, []), (40, 90, 3, 0, []), (22, 50, 0, 0, []), (0, 0, 3, 0, []), (2, 0, 0, 0, []), (2, 0, 0, 93, []), (40, 90, 3, 0, []), (0, 0, 3, 0, []), (2, 0, 0, 1, []), (0, 1, 0, 0, []), (40, 90, 3, 0, []), (0, 0, 3, 0, []), (2, 0, 0, 0, []), (2, 0, 0, 124, []), (40, 90, 3, 0, []), (41, 0, 9, 0, [])]
/-- 83: HornBench$Pen.writeChain(III)V -/
def am_c83 : List AmIns := [(0, 0, 3, 0, []), (24, 5, 0, 3, []), (0, 3, 0, 0, []), (40, 134, 2, 0, []), (1, 4, 0, 0, []), (0, 4, 0, 0, []), (2, 0, 0, (-1), []), (19, 16, 0, 0, []), (0, 0, 3, 0, []), (0, 2, 0, 0, []), (0, 4, 0, 0, []), (40, 90, 3, 0, []), (0, 0, 3, 0, []), (2, 0, 0, 0, []), (2, 0, 0, 44, []), (40, 90, 3, 0, []), (0, 0, 3, 0, []), (0, 1, 0, 0, []), (0, 3, 0, 0, []), (40, 90, 3, 0, []), (41, 0, 9, 0, [])]
/-- 84: HornBench$Pen.writeOneGoal(I)V -/
def am_c84 : List AmIns := [(0, 0, 3, 0, []), (24, 5, 0, 3, []), (0, 1, 0, 0, []), (40, 129, 2, 0, []), (1, 2, 0, 0, []), (0, 0, 3, 0, []), (24, 5, 0, 3, []), (0, 1, 0, 0, []), (40, 133, 2, 0, []), (1, 3, 0, 0, []), (0, 2, 0, 0, []), (2, 0, 0, 5, []), (19, 18, 1, 0, []), (0, 0, 3, 0, []), (2, 0, 0, 1, []), (0, 1, 0, 0, []), (40, 90, 3, 0, []), (22, 71, 0, 0, []), (0, 2, 0, 0, []), (2, 0, 0, 8, []), (19, 24, 0, 0, []), (0, 2, 0, 0, []), (2, 0, 0, 9, []), (19, 47, 1, 0, []), (0, 0, 3, 0, []), (0, 0, 3, 0, []), (24, 5, 0, 3, []), (0, 1, 0, 0, []), (40, 130, 2, 0, []), (40, 86, 2, 0, []), (0, 0, 3, 0, []), (2, 0, 0, 40, []), (40, 89, 2, 0, []), (0, 0, 3, 0, []), (2, 0, 0, 0, []), (2, 0, 0, 41, []), (40, 90, 3, 0, []), (0, 0, 3, 0, []), (0, 2, 0, 0, []), (2, 0, 0, 8, []), (19, 43, 1, 0, []), (2, 0, 0, 6, []), (22, 44, 0, 0, []), (2, 0, 0, 1, []), (0, 3, 0, 0, []), (40, 90, 3, 0, []), (22, 71, 0, 0, []), (0, 3, 0, 0, []), (2, 0, 0, (-1), []), (19, 57, 1, 0, []), (0, 0, 3, 0, []), (0, 0, 3, 0, []), (24, 5, 0, 3, []), (0, 1, 0, 0, []), (40, 130, 2, 0, []), (40, 86, 2, 0, []), (22, 71, 0, 0, []), (0, 0, 3, 0, []), (2, 0, 0, 1, []), (0, 3, 0, 0, []), (0, 0, 3, 0, []), (24, 5, 0, 3, []), (0, 1, 0, 0, []), (40, 130, 2, 0, []), (0, 2, 0, 0, []), (2, 0, 0, 10, []), (19, 69, 1, 0, []), (2, 0, 0, 1, []), (22, 70, 0, 0, []), (2, 0, 0, 0, []), (40, 85, 5, 0, []), (41, 0, 9, 0, [])]
/-- 85: HornBench$Pen.writeBetween(IIJZ)V -/
def am_c85 : List AmIns := [(0, 0, 3, 0, []), (0, 1, 0, 0, []), (0, 0, 3, 0, []), (24, 5, 0, 3, []), (0, 2, 0, 0, []), (40, 134, 2, 0, []), (40, 90, 3, 0, []), (0, 5, 0, 0, []), (18, 13, 0, 0, []), (0, 0, 3, 0, []), (2, 0, 0, 0, []), (2, 0, 0, 32, []), (40, 90, 3, 0, []), (2, 0, 0, 0, []), (1, 6, 0, 0, []), (0, 6, 0, 0, []), (2, 0, 0, 64, []), (19, 33, 3, 0, []), (0, 3, 1, 0, []), (0, 6, 0, 0, []), (11, 0, 1, 0, []), (3, 0, 0, 255, []), (10, 0, 5, 0, []), (14, 0, 1, 0, []), (1, 7, 0, 0, []), (0, 7, 0, 0, []), (18, 31, 0, 0, []), (0, 0, 3, 0, []), (2, 0, 0, 0, []), (0, 7, 0, 0, []), (40, 90, 3, 0, []), (17, 6, 0, 8, []), (22, 15, 0, 0, []), (0, 5, 0, 0, []), (18, 39, 0, 0, []), (0, 0, 3, 0, []), (2, 0, 0, 0, []), (2, 0, 0, 32, []), (40, 90, 3, 0, []), (0, 0, 3, 0, []), (0, 1, 0, 0, []), (0, 2, 0, 0, []), (40, 90, 3, 0, []), (41, 0, 9, 0, [])]
/-- 86: HornBench$Pen.writeName(J)V -/
def am_c86 : List AmIns := [(2, 0, 0, 56, []), (1, 3, 0, 0, []), (0, 3, 0, 0, []), (18, 18, 2, 0, []), (0, 1, 1, 0, []), (0, 3, 0, 0, []), (11, 0, 1, 0, []), (3, 0, 0, 255, []), (10, 0, 5, 0, []), (14, 0, 1, 0, []), (1, 4, 0, 0, []), (0, 4, 0, 0, []), (18, 16, 0, 0, []), (0, 0, 3, 0, []), (0, 4, 0, 0, []), (40, 89, 2, 0, []), (17, 3, 0, (-8), []), (22, 2, 0, 0, []), (41, 0, 9, 0, [])]
/-- 87: HornBench$Pen.writeDigits(I)V -/
def am_c87 : List AmIns := [(0, 1, 0, 0, []), (14, 0, 0, 0, []), (1, 2, 1, 0, []), (0, 2, 1, 0, []), (3, 0, 0, 0, []), (13, 0, 0, 0, []), (18, 13, 3, 0, []), (0, 0, 3, 0, []), (2, 0, 0, 45, []), (40, 89, 2, 0, []), (0, 2, 1, 0, []), (14, 0, 6, 0, []), (1, 2, 1, 0, []), (3, 0, 0, 1, []), (1, 4, 1, 0, []), (2, 0, 0, 0, []), (1, 6, 0, 0, []), (0, 6, 0, 0, []), (2, 0, 0, 10, []), (19, 32, 3, 0, []), (0, 4, 1, 0, []), (3, 0, 0, 10, []), (10, 0, 2, 0, []), (0, 2, 1, 0, []), (13, 0, 0, 0, []), (18, 32, 4, 0, []), (0, 4, 1, 0, []), (3, 0, 0, 10, []), (10, 0, 2, 0, []), (1, 4, 1, 0, []), (17, 6, 0, 1, []), (22, 17, 0, 0, []), (0, 4, 1, 0, []), (3, 0, 0, 0, []), (13, 0, 0, 0, []), (18, 51, 5, 0, []), (0, 0, 3, 0, []), (3, 0, 0, 48, []), (0, 2, 1, 0, []), (0, 4, 1, 0, []), (10, 0, 3, 0, []), (3, 0, 0, 10, []), (10, 0, 4, 0, []), (10, 0, 0, 0, []), (14, 0, 1, 0, []), (40, 89, 2, 0, []), (0, 4, 1, 0, []), (3, 0, 0, 10, []), (10, 0, 3, 0, []), (1, 4, 1, 0, []), (22, 32, 0, 0, []), (41, 0, 9, 0, [])]
/-- 88: HornBench$Pen.numberOfFree(I)I -/
def am_c88 : List AmIns := [(2, 0, 0, 0, []), (1, 2, 0, 0, []), (0, 2, 0, 0, []), (0, 0, 3, 0, []), (24, 5, 8, 0, []), (19, 21, 3, 0, []), (0, 2, 0, 0, []), (0, 0, 3, 0, []), (24, 5, 7, 3, []), (31, 0, 0, 0, []), (19, 21, 3, 0, []), (0, 0, 3, 0, []), (24, 5, 7, 3, []), (0, 2, 0, 0, []), (32, 0, 0, 0, []), (0, 1, 0, 0, []), (19, 19, 1, 0, []), (0, 2, 0, 0, []), (41, 0, 0, 0, []), (17, 2, 0, 1, []), (22, 2, 0, 0, []), (0, 0, 3, 0, []), (24, 5, 8, 0, []), (18, 42, 2, 0, []), (0, 0, 3, 0, []), (24, 5, 8, 0, []), (0, 0, 3, 0, []), (24, 5, 7, 3, []), (31, 0, 0, 0, []), (19, 42, 3, 0, []), (0, 0, 3, 0, []), (24, 5, 7, 3, []), (0, 0, 3, 0, []), (24, 5, 8, 0, []), (0, 1, 0, 0, []), (33, 61, 11, 0, []), (0, 0, 3, 0, []), (26, 0, 0, 0, []), (24, 5, 8, 0, []), (2, 0, 0, 1, []), (8, 0, 0, 0, []), (25, 5, 8, 0, []), (0, 0, 3, 0, []), (24, 5, 8, 0, []), (2, 0, 0, 1, []), (8, 0, 1, 0, []), (41, 0, 0, 0, [])]
/-- 89: HornBench$Pen.writeByte(I)V -/
def am_c89 : List AmIns := [(0, 0, 3, 0, []), (40, 91, 1, 0, []), (18, 25, 0, 0, []), (0, 0, 3, 0, []), (24, 5, 4, 0, []), (18, 25, 2, 0, []), (0, 0, 3, 0, []), (24, 5, 4, 0, []), (0, 0, 3, 0, []), (24, 5, 3, 3, []), (31, 0, 0, 0, []), (19, 25, 3, 0, []), (0, 0, 3, 0, []), (24, 5, 3, 3, []), (0, 0, 3, 0, []), (24, 5, 4, 0, []), (0, 1, 0, 0, []), (14, 0, 2, 0, []), (33, 64, 11, 0, []), (0, 0, 3, 0, []), (26, 0, 0, 0, []), (24, 5, 4, 0, []), (2, 0, 0, 1, []), (8, 0, 0, 0, []), (25, 5, 4, 0, []), (41, 0, 9, 0, [])]
/-- 90: HornBench$Pen.push(II)V -/
def am_c90 : List AmIns := [(0, 0, 3, 0, []), (40, 91, 1, 0, []), (18, 28, 0, 0, []), (0, 0, 3, 0, []), (24, 5, 6, 0, []), (18, 28, 2, 0, []), (0, 0, 3, 0, []), (24, 5, 6, 0, []), (0, 0, 3, 0, []), (24, 5, 5, 3, []), (31, 0, 0, 0, []), (19, 28, 3, 0, []), (0, 0, 3, 0, []), (24, 5, 5, 3, []), (0, 0, 3, 0, []), (24, 5, 6, 0, []), (0, 2, 0, 0, []), (2, 0, 0, 8, []), (8, 0, 2, 0, []), (0, 1, 0, 0, []), (8, 0, 0, 0, []), (33, 61, 11, 0, []), (0, 0, 3, 0, []), (26, 0, 0, 0, []), (24, 5, 6, 0, []), (2, 0, 0, 1, []), (8, 0, 0, 0, []), (25, 5, 6, 0, []), (41, 0, 9, 0, [])]
/-- 91: HornBench$Pen.hasRoom()Z -/
def am_c91 : List AmIns := [(0, 0, 3, 0, []), (0, 0, 3, 0, []), (24, 5, 9, 10, []), (18, 11, 1, 0, []), (0, 0, 3, 0, []), (24, 5, 4, 0, []), (0, 0, 3, 0, []), (24, 5, 6, 0, []), (8, 0, 0, 0, []), (2, 0, 0, 600, []), (19, 13, 2, 0, []), (2, 0, 0, 1, []), (22, 14, 0, 0, []), (2, 0, 0, 0, []), (25, 5, 9, 10, []), (0, 0, 3, 0, []), (24, 5, 9, 10, []), (18, 20, 1, 0, []), (2, 0, 0, 1, []), (22, 21, 0, 0, []), (2, 0, 0, 0, []), (41, 0, 10, 0, [])]
/-- 92: HornBench$Question.<init>(LHornBench$Nodes;LHornBench$Terms;LHornBench$Matcher;)V -/
def am_c92 : List AmIns := [(0, 0, 3, 0, []), (35, 0, 0, 0, []), (0, 0, 3, 0, []), (2, 0, 0, 8008, []), (29, 61, 0, 0, []), (25, 6, 4, 3, []), (0, 0, 3, 0, []), (2, 0, 0, 8008, []), (29, 61, 0, 0, []), (25, 6, 5, 3, []), (0, 0, 3, 0, []), (2, 0, 0, 8008, []), (29, 61, 0, 0, []), (25, 6, 6, 3, []), (0, 0, 3, 0, []), (2, 0, 0, 1000, []), (29, 61, 0, 0, []), (25, 6, 9, 3, []), (0, 0, 3, 0, []), (2, 0, 0, 1000, []), (29, 61, 0, 0, []), (25, 6, 10, 3, []), (0, 0, 3, 0, []), (2, 0, 0, 1000, []), (29, 61, 0, 0, []), (25, 6, 11, 3, []), (0, 0, 3, 0, []), (2, 0, 0, 1000, []), (29, 61, 0, 0, []), (25, 6, 12, 3, []), (0, 0, 3, 0, []), (0, 1, 3, 0, []), (25, 6, 0, 3, []), (0, 0, 3, 0, []), (0, 2, 3, 0, []), (25, 6, 1, 3, []), (0, 0, 3, 0, []), (0, 3, 3, 0, []), (25, 6, 2, 3, []), (0, 0, 3, 0, []), (28, 1, 6, 0, []), (26, 0, 0, 0, []), (0, 2, 3, 0, []), (40, 6, 2, 1, []), (25, 6, 3, 3, []), (0, 0, 3, 0, []), (2, 0, 0, (-1), []), (25, 6, 14, 0, []), (0, 0, 3, 0, []), (2, 0, 0, (-1), []), (25, 6, 8, 0, []), (41, 0, 9, 0, [])]
/-- 93: HornBench$Question.begin()V -/
def am_c93 : List AmIns := [(0, 0, 3, 0, []), (24, 6, 1, 3, []), (40, 124, 1, 0, []), (0, 0, 3, 0, []), (2, 0, 0, 0, []), (25, 6, 7, 0, []), (0, 0, 3, 0, []), (2, 0, 0, 0, []), (25, 6, 13, 0, []), (0, 0, 3, 0, []), (2, 0, 0, 0, []), (25, 6, 15, 10, []), (0, 0, 3, 0, []), (2, 0, 0, 0, []), (25, 6, 16, 0, []), (0, 0, 3, 0, []), (2, 0, 0, 0, []), (25, 6, 17, 0, []), (0, 0, 3, 0, []), (2, 0, 0, 0, []), (25, 6, 18, 0, []), (0, 0, 3, 0, []), (2, 0, 0, 0, []), (25, 6, 14, 0, []), (0, 0, 3, 0, []), (0, 0, 3, 0, []), (0, 0, 3, 0, []), (24, 6, 1, 3, []), (2, 0, 0, 0, []), (40, 127, 2, 0, []), (2, 0, 0, 0, []), (2, 0, 0, (-1), []), (40, 115, 4, 0, []), (25, 6, 8, 0, []), (41, 0, 9, 0, [])]
/-- 94: HornBench$Question.leave()V -/
def am_c94 : List AmIns := [(0, 0, 3, 0, []), (2, 0, 0, (-1), []), (25, 6, 14, 0, []), (0, 0, 3, 0, []), (2, 0, 0, (-1), []), (25, 6, 8, 0, []), (41, 0, 9, 0, [])]
/-- 95: HornBench$Question.isThere()Z -/
def am_c95 : List AmIns := [(0, 0, 3, 0, []), (24, 6, 14, 0, []), (2, 0, 0, (-1), []), (19, 6, 0, 0, []), (2, 0, 0, 1, []), (22, 7, 0, 0, []), (2, 0, 0, 0, []), (41, 0, 10, 0, [])]
/-- 96: HornBench$Question.has(I)Z -/
def am_c96 : List AmIns := [(0, 1, 0, 0, []), (18, 8, 2, 0, []), (0, 1, 0, 0, []), (0, 0, 3, 0, []), (40, 97, 1, 0, []), (19, 8, 3, 0, []), (2, 0, 0, 1, []), (22, 9, 0, 0, []), (2, 0, 0, 0, []), (41, 0, 10, 0, [])]
/-- 97: HornBench$Question.variables()I -/
def am_c97 : List AmIns := [(0, 0, 3, 0, []), (40, 95, 1, 0, []), (18, 8, 0, 0, []), (0, 0, 3, 0, []), (24, 6, 0, 3, []), (2, 0, 0, 40, []), (40, 32, 2, 0, []), (22, 9, 0, 0, []), (2, 0, 0, 0, []), (41, 0, 0, 0, [])]
/-- 98: HornBench$Question.goals()I -/
def am_c98 : List AmIns := [(2, 0, 0, 0, []), (1, 1, 0, 0, []), (0, 0, 3, 0, []), (24, 6, 8, 0, []), (1, 2, 0, 0, []), (2, 0, 0, 0, []), (1, 3, 0, 0, []), (0, 3, 0, 0, []), (2, 0, 0, 8008, []), (19, 27, 3, 0, []), (0, 2, 0, 0, []), (2, 0, 0, (-1), []), (19, 27, 0, 0, []), (0, 0, 3, 0, []), (24, 6, 4, 3, []), (0, 2, 0, 0, []), (40, 182, 2, 12, []), (2, 0, 0, (-2), []), (19, 20, 0, 0, []), (17, 1, 0, 1, []), (0, 0, 3, 0, []), (24, 6, 5, 3, []), (0, 2, 0, 0, []), (40, 182, 2, 12, []), (1, 2, 0, 0, []), (17, 3, 0, 1, []), (22, 7, 0, 0, []), (0, 1, 0, 0, []), (41, 0, 0, 0, [])]
/-- 99: HornBench$Question.steps()I -/
def am_c99 : List AmIns := [(0, 0, 3, 0, []), (40, 95, 1, 0, []), (18, 6, 0, 0, []), (0, 0, 3, 0, []), (24, 6, 16, 0, []), (22, 7, 0, 0, []), (2, 0, 0, 0, []), (41, 0, 0, 0, [])]
/-- 100: HornBench$Question.solutions()I -/
def am_c100 : List AmIns := [(0, 0, 3, 0, []), (40, 95, 1, 0, []), (18, 6, 0, 0, []), (0, 0, 3, 0, []), (24, 6, 17, 0, []), (22, 7, 0, 0, []), (2, 0, 0, 0, []), (41, 0, 0, 0, [])]
/-- 101: HornBench$Question.cuts()I -/
def am_c101 : List AmIns := [(0, 0, 3, 0, []), (40, 95, 1, 0, []), (18, 6, 0, 0, []), (0, 0, 3, 0, []), (24, 6, 18, 0, []), (22, 7, 0, 0, []), (2, 0, 0, 0, []), (41, 0, 0, 0, [])]
/-- 102: HornBench$Question.standing()I -/
def am_c102 : List AmIns := [(0, 0, 3, 0, []), (24, 6, 14, 0, []), (18, 9, 1, 0, []), (0, 0, 3, 0, []), (24, 6, 16, 0, []), (2, 0, 0, 1000, []), (19, 9, 2, 0, []), (2, 0, 0, 4, []), (22, 11, 0, 0, []), (0, 0, 3, 0, []), (24, 6, 14, 0, []), (41, 0, 0, 0, [])]
/-- 103: HornBench$Question.firstGoal()I -/
def am_c103 : List AmIns := [(0, 0, 3, 0, []), (24, 6, 15, 10, []), (18, 7, 1, 0, []), (0, 0, 3, 0, []), (24, 6, 8, 0, []), (2, 0, 0, (-1), []), (19, 9, 1, 0, []), (2, 0, 0, (-1), []), (22, 14, 0, 0, []), (0, 0, 3, 0, []), (24, 6, 4, 3, []), (0, 0, 3, 0, []), (24, 6, 8, 0, []), (40, 182, 2, 12, []), (41, 0, 0, 0, [])]
/-- 104: HornBench$Question.advance(I)I -/
def am_c104 : List AmIns := [(0, 0, 3, 0, []), (24, 6, 16, 0, []), (1, 2, 0, 0, []), (0, 0, 3, 0, []), (24, 6, 14, 0, []), (2, 0, 0, 1, []), (19, 13, 1, 0, []), (0, 0, 3, 0, []), (2, 0, 0, 0, []), (25, 6, 14, 0, []), (0, 0, 3, 0, []), (2, 0, 0, 0, []), (40, 105, 2, 0, []), (2, 0, 0, 0, []), (1, 3, 0, 0, []), (0, 3, 0, 0, []), (0, 1, 0, 0, []), (19, 43, 3, 0, []), (0, 0, 3, 0, []), (24, 6, 14, 0, []), (18, 43, 1, 0, []), (0, 0, 3, 0, []), (24, 6, 16, 0, []), (2, 0, 0, 1000, []), (19, 43, 3, 0, []), (0, 0, 3, 0, []), (26, 0, 0, 0, []), (24, 6, 16, 0, []), (2, 0, 0, 1, []), (8, 0, 0, 0, []), (25, 6, 16, 0, []), (0, 0, 3, 0, []), (0, 0, 3, 0, []), (24, 6, 15, 10, []), (18, 38, 0, 0, []), (0, 0, 3, 0, []), (40, 108, 1, 0, []), (22, 40, 0, 0, []), (0, 0, 3, 0, []), (40, 109, 1, 0, []), (40, 105, 2, 0, []), (17, 3, 0, 1, []), (22, 15, 0, 0, []), (0, 0, 3, 0, []), (24, 6, 16, 0, []), (0, 2, 0, 0, []), (8, 0, 1, 0, []), (41, 0, 0, 0, [])]
/-- 105: HornBench$Question.settle(Z)V -/
def am_c105 : List AmIns := [(0, 1, 0, 0, []), (18, 4, 1, 0, []), (2, 0, 0, 1, []), (22, 5, 0, 0, []), (2, 0, 0, 0, []), (1, 2, 0, 0, []), (2, 0, 0, 0, []), (1, 3, 0, 0, []), (0, 3, 0, 0, []), (2, 0, 0, 1000, []), (19, 31, 4, 0, []), (0, 2, 0, 0, []), (18, 16, 1, 0, []), (0, 0, 3, 0, []), (40, 106, 1, 0, []), (18, 31, 0, 0, []), (0, 2, 0, 0, []), (18, 25, 1, 0, []), (0, 0, 3, 0, []), (0, 0, 3, 0, []), (24, 6, 6, 3, []), (0, 0, 3, 0, []), (24, 6, 8, 0, []), (40, 182, 2, 12, []), (25, 6, 13, 0, []), (0, 0, 3, 0, []), (40, 107, 1, 0, []), (2, 0, 0, 0, []), (1, 2, 0, 0, []), (17, 3, 0, 1, []), (22, 8, 0, 0, []), (0, 0, 3, 0, []), (24, 6, 14, 0, []), (18, 50, 1, 0, []), (0, 0, 3, 0, []), (24, 6, 15, 10, []), (18, 50, 1, 0, []), (0, 0, 3, 0, []), (24, 6, 8, 0, []), (2, 0, 0, (-1), []), (19, 50, 1, 0, []), (0, 0, 3, 0, []), (2, 0, 0, 1, []), (25, 6, 14, 0, []), (0, 0, 3, 0, []), (26, 0, 0, 0, []), (24, 6, 17, 0, []), (2, 0, 0, 1, []), (8, 0, 0, 0, []), (25, 6, 17, 0, []), (41, 0, 9, 0, [])]
/-- 106: HornBench$Question.isAtMark()Z -/
def am_c106 : List AmIns := [(0, 0, 3, 0, []), (24, 6, 15, 10, []), (18, 16, 1, 0, []), (0, 0, 3, 0, []), (24, 6, 8, 0, []), (2, 0, 0, (-1), []), (19, 16, 0, 0, []), (0, 0, 3, 0, []), (24, 6, 4, 3, []), (0, 0, 3, 0, []), (24, 6, 8, 0, []), (40, 182, 2, 12, []), (2, 0, 0, (-2), []), (19, 16, 1, 0, []), (2, 0, 0, 1, []), (22, 17, 0, 0, []), (2, 0, 0, 0, []), (41, 0, 10, 0, [])]
/-- 107: HornBench$Question.goBack()V -/
def am_c107 : List AmIns := [(2, 0, 0, 0, []), (1, 1, 0, 0, []), (0, 1, 0, 0, []), (2, 0, 0, 1000, []), (19, 112, 3, 0, []), (0, 0, 3, 0, []), (24, 6, 13, 0, []), (18, 112, 5, 0, []), (0, 0, 3, 0, []), (24, 6, 13, 0, []), (2, 0, 0, 1, []), (8, 0, 1, 0, []), (1, 2, 0, 0, []), (0, 0, 3, 0, []), (24, 6, 9, 3, []), (0, 2, 0, 0, []), (40, 182, 2, 12, []), (1, 3, 0, 0, []), (0, 0, 3, 0, []), (24, 6, 1, 3, []), (0, 0, 3, 0, []), (24, 6, 12, 3, []), (0, 2, 0, 0, []), (40, 182, 2, 12, []), (40, 143, 2, 0, []), (0, 0, 3, 0, []), (0, 0, 3, 0, []), (24, 6, 11, 3, []), (0, 2, 0, 0, []), (40, 182, 2, 12, []), (25, 6, 8, 0, []), (0, 3, 0, 0, []), (2, 0, 0, (-2), []), (19, 38, 1, 0, []), (0, 0, 3, 0, []), (0, 2, 0, 0, []), (25, 6, 13, 0, []), (41, 0, 9, 0, []), (0, 0, 3, 0, []), (24, 6, 1, 3, []), (0, 3, 0, 0, []), (40, 128, 2, 0, []), (1, 4, 0, 0, []), (0, 0, 3, 0, []), (24, 6, 10, 3, []), (0, 2, 0, 0, []), (40, 182, 2, 12, []), (1, 5, 0, 0, []), (2, 0, 0, 0, []), (1, 6, 0, 0, []), (0, 6, 0, 0, []), (2, 0, 0, 40, []), (19, 107, 3, 0, []), (0, 5, 0, 0, []), (2, 0, 0, (-1), []), (19, 107, 0, 0, []), (0, 0, 3, 0, []), (24, 6, 1, 3, []), (0, 0, 3, 0, []), (24, 6, 16, 0, []), (2, 0, 0, 1, []), (8, 0, 0, 0, []), (0, 0, 3, 0, []), (24, 6, 0, 3, []), (0, 5, 0, 0, []), (40, 27, 2, 0, []), (40, 125, 3, 0, []), (0, 0, 3, 0, []), (0, 0, 3, 0, []), (24, 6, 2, 3, []), (0, 3, 0, 0, []), (0, 0, 3, 0, []), (24, 6, 1, 3, []), (0, 0, 3, 0, []), (24, 6, 16, 0, []), (2, 0, 0, 1, []), (8, 0, 0, 0, []), (40, 126, 2, 0, []), (2, 0, 0, 1, []), (40, 13, 4, 0, []), (25, 6, 15, 10, []), (0, 0, 3, 0, []), (24, 6, 1, 3, []), (0, 0, 3, 0, []), (24, 6, 12, 3, []), (0, 2, 0, 0, []), (40, 182, 2, 12, []), (40, 143, 2, 0, []), (0, 0, 3, 0, []), (24, 6, 15, 10, []), (18, 97, 0, 0, []), (0, 0, 3, 0, []), (24, 6, 10, 3, []), (0, 2, 0, 0, []), (0, 5, 0, 0, []), (40, 183, 3, 12, []), (41, 0, 9, 0, []), (0, 0, 3, 0, []), (24, 6, 0, 3, []), (0, 4, 0, 0, []), (0, 5, 0, 0, []), (2, 0, 0, 1, []), (8, 0, 0, 0, []), (40, 36, 3, 0, []), (1, 5, 0, 0, []), (17, 6, 0, 1, []), (22, 50, 0, 0, []), (0, 0, 3, 0, []), (0, 2, 0, 0, []), (25, 6, 13, 0, []), (17, 1, 0, 1, []), (22, 2, 0, 0, []), (0, 0, 3, 0, []), (24, 6, 1, 3, []), (2, 0, 0, 0, []), (40, 143, 2, 0, []), (0, 0, 3, 0, []), (2, 0, 0, (-1), []), (25, 6, 8, 0, []), (0, 0, 3, 0, []), (2, 0, 0, 2, []), (25, 6, 14, 0, []), (41, 0, 9, 0, [])]
/-- 108: HornBench$Question.stepAgain()Z -/
def am_c108 : List AmIns := [(0, 0, 3, 0, []), (26, 0, 0, 0, []), (24, 6, 13, 0, []), (2, 0, 0, 1, []), (8, 0, 1, 0, []), (25, 6, 13, 0, []), (0, 0, 3, 0, []), (2, 0, 0, 0, []), (25, 6, 15, 10, []), (0, 0, 3, 0, []), (0, 0, 3, 0, []), (24, 6, 9, 3, []), (0, 0, 3, 0, []), (24, 6, 13, 0, []), (40, 182, 2, 12, []), (0, 0, 3, 0, []), (24, 6, 10, 3, []), (0, 0, 3, 0, []), (24, 6, 13, 0, []), (40, 182, 2, 12, []), (40, 110, 3, 0, []), (41, 0, 10, 0, [])]
/-- 109: HornBench$Question.step()Z -/
def am_c109 : List AmIns := [(0, 0, 3, 0, []), (24, 6, 8, 0, []), (1, 1, 0, 0, []), (0, 0, 3, 0, []), (24, 6, 4, 3, []), (0, 1, 0, 0, []), (40, 182, 2, 12, []), (1, 2, 0, 0, []), (0, 0, 3, 0, []), (0, 0, 3, 0, []), (24, 6, 5, 3, []), (0, 1, 0, 0, []), (40, 182, 2, 12, []), (25, 6, 8, 0, []), (0, 0, 3, 0, []), (24, 6, 1, 3, []), (0, 2, 0, 0, []), (40, 133, 2, 0, []), (1, 3, 0, 0, []), (0, 0, 3, 0, []), (24, 6, 1, 3, []), (0, 2, 0, 0, []), (40, 129, 2, 0, []), (1, 4, 0, 0, []), (0, 4, 0, 0, []), (23, 138, 1, 0, [(5, 26), (6, 38), (8, 54), (9, 79), (10, 121), (12, 129), (13, 129), (14, 111), (15, 97), (33, 40), (60, 129), (61, 87), (62, 129)]), (0, 0, 3, 0, []), (0, 2, 0, 0, []), (0, 0, 3, 0, []), (24, 6, 0, 3, []), (0, 0, 3, 0, []), (24, 6, 1, 3, []), (0, 2, 0, 0, []), (40, 128, 2, 0, []), (2, 0, 0, 0, []), (40, 36, 3, 0, []), (40, 110, 3, 0, []), (41, 0, 10, 0, []), (2, 0, 0, 1, []), (41, 0, 10, 0, []), (0, 0, 3, 0, []), (26, 0, 0, 0, []), (24, 6, 18, 0, []), (2, 0, 0, 1, []), (8, 0, 0, 0, []), (25, 6, 18, 0, []), (0, 0, 3, 0, []), (0, 0, 3, 0, []), (24, 6, 6, 3, []), (0, 1, 0, 0, []), (40, 182, 2, 12, []), (25, 6, 13, 0, []), (2, 0, 0, 1, []), (41, 0, 10, 0, []), (0, 0, 3, 0, []), (2, 0, 0, (-2), []), (2, 0, 0, (-1), []), (0, 0, 3, 0, []), (24, 6, 1, 3, []), (40, 142, 1, 0, []), (40, 114, 4, 0, []), (0, 0, 3, 0, []), (0, 0, 3, 0, []), (0, 3, 0, 0, []), (0, 0, 3, 0, []), (24, 6, 13, 0, []), (0, 0, 3, 0, []), (2, 0, 0, (-2), []), (0, 0, 3, 0, []), (24, 6, 13, 0, []), (2, 0, 0, 1, []), (8, 0, 1, 0, []), (0, 0, 3, 0, []), (24, 6, 8, 0, []), (40, 116, 4, 0, []), (40, 115, 4, 0, []), (25, 6, 8, 0, []), (2, 0, 0, 1, []), (41, 0, 10, 0, []), (0, 0, 3, 0, []), (24, 6, 1, 3, []), (0, 0, 3, 0, []), (24, 6, 1, 3, []), (0, 3, 0, 0, []), (40, 136, 2, 0, []), (40, 137, 2, 0, []), (41, 0, 10, 0, []), (0, 0, 3, 0, []), (24, 6, 2, 3, []), (0, 3, 0, 0, []), (0, 0, 3, 0, []), (24, 6, 1, 3, []), (0, 3, 0, 0, []), (40, 134, 2, 0, []), (2, 0, 0, 1, []), (40, 13, 4, 0, []), (41, 0, 10, 0, []), (0, 0, 3, 0, []), (24, 6, 2, 3, []), (0, 3, 0, 0, []), (0, 0, 3, 0, []), (24, 6, 1, 3, []), (0, 3, 0, 0, []), (40, 134, 2, 0, []), (2, 0, 0, 1, []), (40, 13, 4, 0, []), (18, 109, 1, 0, []), (2, 0, 0, 1, []), (22, 110, 0, 0, []), (2, 0, 0, 0, []), (41, 0, 10, 0, []), (0, 0, 3, 0, []), (24, 6, 2, 3, []), (0, 3, 0, 0, []), (0, 0, 3, 0, []), (24, 6, 1, 3, []), (0, 3, 0, 0, []), (40, 134, 2, 0, []), (2, 0, 0, 0, []), (40, 13, 4, 0, []), (41, 0, 10, 0, []), (0, 0, 3, 0, []), (0, 3, 0, 0, []), (0, 0, 3, 0, []), (24, 6, 1, 3, []), (0, 3, 0, 0, []), (40, 134, 2, 0, []), (40, 111, 3, 0, []), (41, 0, 10, 0, []), (0, 0, 3, 0, []), (0, 4, 0, 0, []), (0, 3, 0, 0, []), (0, 0, 3, 0, []), (24, 6, 1, 3, []), (0, 3, 0, 0, []), (40, 134, 2, 0, []), (40, 112, 4, 0, []), (41, 0, 10, 0, []), (2, 0, 0, 0, []), (41, 0, 10, 0, [])]
/-- 110: HornBench$Question.useClause(II)Z -/
def am_c110 : List AmIns := [(0, 0, 3, 0, []), (24, 6, 1, 3, []), (0, 1, 0, 0, []), (40, 128, 2, 0, []), (1, 3, 0, 0, []), (0, 0, 3, 0, []), (24, 6, 1, 3, []), (40, 142, 1, 0, []), (1, 4, 0, 0, []), (0, 2, 0, 0, []), (1, 5, 0, 0, []), (2, 0, 0, 0, []), (1, 6, 0, 0, []), (0, 6, 0, 0, []), (2, 0, 0, 40, []), (19, 82, 3, 0, []), (0, 5, 0, 0, []), (2, 0, 0, (-1), []), (19, 82, 0, 0, []), (0, 0, 3, 0, []), (24, 6, 0, 3, []), (0, 5, 0, 0, []), (40, 27, 2, 0, []), (1, 7, 0, 0, []), (0, 0, 3, 0, []), (24, 6, 0, 3, []), (0, 3, 0, 0, []), (0, 5, 0, 0, []), (2, 0, 0, 1, []), (8, 0, 0, 0, []), (40, 36, 3, 0, []), (1, 8, 0, 0, []), (0, 0, 3, 0, []), (24, 6, 1, 3, []), (0, 0, 3, 0, []), (24, 6, 16, 0, []), (0, 7, 0, 0, []), (40, 125, 3, 0, []), (0, 0, 3, 0, []), (24, 6, 2, 3, []), (0, 1, 0, 0, []), (0, 0, 3, 0, []), (24, 6, 1, 3, []), (0, 0, 3, 0, []), (24, 6, 16, 0, []), (40, 126, 2, 0, []), (2, 0, 0, 1, []), (40, 13, 4, 0, []), (18, 78, 0, 0, []), (0, 0, 3, 0, []), (24, 6, 13, 0, []), (1, 9, 0, 0, []), (0, 8, 0, 0, []), (2, 0, 0, (-1), []), (19, 60, 0, 0, []), (0, 0, 3, 0, []), (0, 1, 0, 0, []), (0, 8, 0, 0, []), (0, 4, 0, 0, []), (40, 114, 4, 0, []), (0, 0, 3, 0, []), (0, 0, 3, 0, []), (0, 0, 3, 0, []), (24, 6, 1, 3, []), (0, 0, 3, 0, []), (24, 6, 16, 0, []), (40, 127, 2, 0, []), (0, 9, 0, 0, []), (0, 0, 3, 0, []), (24, 6, 8, 0, []), (40, 115, 4, 0, []), (25, 6, 8, 0, []), (0, 0, 3, 0, []), (24, 6, 0, 3, []), (0, 7, 0, 0, []), (40, 34, 2, 0, []), (2, 0, 0, 1, []), (41, 0, 10, 0, []), (0, 8, 0, 0, []), (1, 5, 0, 0, []), (17, 6, 0, 1, []), (22, 13, 0, 0, []), (2, 0, 0, 0, []), (41, 0, 10, 0, [])]
/-- 111: HornBench$Question.assign(II)Z -/
def am_c111 : List AmIns := [(0, 0, 3, 0, []), (24, 6, 3, 3, []), (0, 2, 0, 0, []), (40, 7, 2, 0, []), (18, 8, 1, 0, []), (0, 0, 3, 0, []), (40, 113, 1, 0, []), (41, 0, 10, 0, []), (0, 0, 3, 0, []), (24, 6, 2, 3, []), (0, 1, 0, 0, []), (0, 0, 3, 0, []), (24, 6, 1, 3, []), (0, 0, 3, 0, []), (24, 6, 16, 0, []), (0, 0, 3, 0, []), (24, 6, 3, 3, []), (40, 8, 1, 0, []), (40, 140, 3, 0, []), (2, 0, 0, 1, []), (40, 13, 4, 0, []), (41, 0, 10, 0, [])]
/-- 112: HornBench$Question.compare(III)Z -/
def am_c112 : List AmIns := [(0, 0, 3, 0, []), (24, 6, 3, 3, []), (0, 2, 0, 0, []), (40, 7, 2, 0, []), (18, 8, 1, 0, []), (0, 0, 3, 0, []), (40, 113, 1, 0, []), (41, 0, 10, 0, []), (0, 0, 3, 0, []), (24, 6, 3, 3, []), (40, 8, 1, 0, []), (1, 4, 0, 0, []), (0, 0, 3, 0, []), (24, 6, 3, 3, []), (0, 3, 0, 0, []), (40, 7, 2, 0, []), (18, 20, 1, 0, []), (0, 0, 3, 0, []), (40, 113, 1, 0, []), (41, 0, 10, 0, []), (0, 0, 3, 0, []), (24, 6, 3, 3, []), (40, 8, 1, 0, []), (1, 5, 0, 0, []), (0, 1, 0, 0, []), (23, 47, 1, 0, [(12, 40), (60, 26), (62, 33)]), (0, 4, 0, 0, []), (0, 5, 0, 0, []), (19, 31, 3, 0, []), (2, 0, 0, 1, []), (22, 32, 0, 0, []), (2, 0, 0, 0, []), (41, 0, 10, 0, []), (0, 4, 0, 0, []), (0, 5, 0, 0, []), (19, 38, 5, 0, []), (2, 0, 0, 1, []), (22, 39, 0, 0, []), (2, 0, 0, 0, []), (41, 0, 10, 0, []), (0, 4, 0, 0, []), (0, 5, 0, 0, []), (19, 45, 4, 0, []), (2, 0, 0, 1, []), (22, 46, 0, 0, []), (2, 0, 0, 0, []), (41, 0, 10, 0, []), (0, 4, 0, 0, []), (0, 5, 0, 0, []), (19, 52, 2, 0, []), (2, 0, 0, 1, []), (22, 53, 0, 0, []), (2, 0, 0, 0, []), (41, 0, 10, 0, [])]
/-- 113: HornBench$Question.stopByError()Z -/
def am_c113 : List AmIns := [(0, 0, 3, 0, []), (2, 0, 0, 3, []), (25, 6, 14, 0, []), (0, 0, 3, 0, []), (2, 0, 0, (-1), []), (25, 6, 8, 0, []), (2, 0, 0, 1, []), (41, 0, 10, 0, [])]
/-- 114: HornBench$Question.leaveChoice(III)V -/
def am_c114 : List AmIns := [(0, 0, 3, 0, []), (24, 6, 9, 3, []), (0, 0, 3, 0, []), (24, 6, 13, 0, []), (0, 1, 0, 0, []), (40, 183, 3, 12, []), (0, 0, 3, 0, []), (24, 6, 10, 3, []), (0, 0, 3, 0, []), (24, 6, 13, 0, []), (0, 2, 0, 0, []), (40, 183, 3, 12, []), (0, 0, 3, 0, []), (24, 6, 11, 3, []), (0, 0, 3, 0, []), (24, 6, 13, 0, []), (0, 0, 3, 0, []), (24, 6, 8, 0, []), (40, 183, 3, 12, []), (0, 0, 3, 0, []), (24, 6, 12, 3, []), (0, 0, 3, 0, []), (24, 6, 13, 0, []), (0, 3, 0, 0, []), (40, 183, 3, 12, []), (0, 0, 3, 0, []), (26, 0, 0, 0, []), (24, 6, 13, 0, []), (2, 0, 0, 1, []), (8, 0, 0, 0, []), (25, 6, 13, 0, []), (41, 0, 9, 0, [])]
/-- 115: HornBench$Question.chain(III)I -/
def am_c115 : List AmIns := [(0, 1, 0, 0, []), (2, 0, 0, (-1), []), (19, 5, 1, 0, []), (0, 3, 0, 0, []), (22, 7, 0, 0, []), (0, 0, 3, 0, []), (24, 6, 7, 0, []), (1, 4, 0, 0, []), (0, 1, 0, 0, []), (1, 5, 0, 0, []), (2, 0, 0, 0, []), (1, 6, 0, 0, []), (0, 6, 0, 0, []), (2, 0, 0, 8, []), (19, 41, 3, 0, []), (0, 5, 0, 0, []), (2, 0, 0, (-1), []), (19, 41, 0, 0, []), (0, 0, 3, 0, []), (24, 6, 1, 3, []), (0, 5, 0, 0, []), (40, 134, 2, 0, []), (1, 7, 0, 0, []), (0, 0, 3, 0, []), (0, 5, 0, 0, []), (0, 2, 0, 0, []), (0, 7, 0, 0, []), (2, 0, 0, (-1), []), (19, 31, 1, 0, []), (0, 3, 0, 0, []), (22, 35, 0, 0, []), (0, 0, 3, 0, []), (24, 6, 7, 0, []), (2, 0, 0, 1, []), (8, 0, 0, 0, []), (40, 116, 4, 0, []), (27, 0, 0, 0, []), (0, 7, 0, 0, []), (1, 5, 0, 0, []), (17, 6, 0, 1, []), (22, 12, 0, 0, []), (0, 4, 0, 0, []), (41, 0, 0, 0, [])]
/-- 116: HornBench$Question.link(III)I -/
def am_c116 : List AmIns := [(0, 0, 3, 0, []), (24, 6, 4, 3, []), (0, 0, 3, 0, []), (24, 6, 7, 0, []), (0, 1, 0, 0, []), (40, 183, 3, 12, []), (0, 0, 3, 0, []), (24, 6, 6, 3, []), (0, 0, 3, 0, []), (24, 6, 7, 0, []), (0, 2, 0, 0, []), (40, 183, 3, 12, []), (0, 0, 3, 0, []), (24, 6, 5, 3, []), (0, 0, 3, 0, []), (24, 6, 7, 0, []), (0, 3, 0, 0, []), (40, 183, 3, 12, []), (0, 0, 3, 0, []), (26, 0, 0, 0, []), (24, 6, 7, 0, []), (2, 0, 0, 1, []), (8, 0, 0, 0, []), (25, 6, 7, 0, []), (0, 0, 3, 0, []), (24, 6, 7, 0, []), (2, 0, 0, 1, []), (8, 0, 1, 0, []), (41, 0, 0, 0, [])]
/-- 117: HornBench$Tape.<init>()V -/
def am_c117 : List AmIns := [(0, 0, 3, 0, []), (35, 0, 0, 0, []), (0, 0, 3, 0, []), (2, 0, 0, 2000, []), (29, 64, 0, 0, []), (25, 7, 0, 3, []), (41, 0, 9, 0, [])]
/-- 118: HornBench$Tape.length()I -/
def am_c118 : List AmIns := [(0, 0, 3, 0, []), (24, 7, 1, 0, []), (41, 0, 0, 0, [])]
/-- 119: HornBench$Tape.hasRoom()Z -/
def am_c119 : List AmIns := [(0, 0, 3, 0, []), (24, 7, 1, 0, []), (2, 0, 0, 1980, []), (19, 6, 4, 0, []), (2, 0, 0, 1, []), (22, 7, 0, 0, []), (2, 0, 0, 0, []), (41, 0, 10, 0, [])]
/-- 120: HornBench$Tape.append(I)V -/
def am_c120 : List AmIns := [(2, 0, 0, 24, []), (1, 2, 0, 0, []), (0, 2, 0, 0, []), (18, 30, 2, 0, []), (0, 0, 3, 0, []), (24, 7, 1, 0, []), (18, 28, 2, 0, []), (0, 0, 3, 0, []), (24, 7, 1, 0, []), (0, 0, 3, 0, []), (24, 7, 0, 3, []), (31, 0, 0, 0, []), (19, 28, 3, 0, []), (0, 0, 3, 0, []), (24, 7, 0, 3, []), (0, 0, 3, 0, []), (24, 7, 1, 0, []), (0, 1, 0, 0, []), (0, 2, 0, 0, []), (8, 0, 8, 0, []), (14, 0, 2, 0, []), (33, 64, 11, 0, []), (0, 0, 3, 0, []), (26, 0, 0, 0, []), (24, 7, 1, 0, []), (2, 0, 0, 1, []), (8, 0, 0, 0, []), (25, 7, 1, 0, []), (17, 2, 0, (-8), []), (22, 2, 0, 0, []), (41, 0, 9, 0, [])]
/-- 121: HornBench$Tape.shorten(I)V -/
def am_c121 : List AmIns := [(0, 0, 3, 0, []), (0, 1, 0, 0, []), (25, 7, 1, 0, []), (41, 0, 9, 0, [])]
/-- 122: HornBench$Tape.at(I)I -/
def am_c122 : List AmIns := [(0, 1, 0, 0, []), (18, 18, 2, 0, []), (0, 1, 0, 0, []), (0, 0, 3, 0, []), (24, 7, 1, 0, []), (19, 18, 3, 0, []), (0, 1, 0, 0, []), (0, 0, 3, 0, []), (24, 7, 0, 3, []), (31, 0, 0, 0, []), (19, 18, 3, 0, []), (0, 0, 3, 0, []), (24, 7, 0, 3, []), (0, 1, 0, 0, []), (32, 0, 11, 0, []), (2, 0, 0, 255, []), (8, 0, 5, 0, []), (22, 19, 0, 0, []), (2, 0, 0, (-1), []), (41, 0, 0, 0, [])]
/-- 123: HornBench$Terms.<init>(LHornBench$Nodes;)V -/
def am_c123 : List AmIns := [(0, 0, 3, 0, []), (35, 0, 0, 0, []), (0, 0, 3, 0, []), (2, 0, 0, 1002, []), (29, 61, 0, 0, []), (25, 8, 1, 3, []), (0, 0, 3, 0, []), (2, 0, 0, 1002, []), (29, 61, 0, 0, []), (25, 8, 2, 3, []), (0, 0, 3, 0, []), (2, 0, 0, 8016, []), (29, 61, 0, 0, []), (25, 8, 3, 3, []), (0, 0, 3, 0, []), (2, 0, 0, 8016, []), (29, 61, 0, 0, []), (25, 8, 4, 3, []), (0, 0, 3, 0, []), (28, 0, 3, 0, []), (26, 0, 0, 0, []), (40, 0, 1, 11, []), (25, 8, 6, 3, []), (0, 0, 3, 0, []), (0, 1, 3, 0, []), (25, 8, 0, 3, []), (41, 0, 9, 0, [])]
/-- 124: HornBench$Terms.begin()V -/
def am_c124 : List AmIns := [(0, 0, 3, 0, []), (2, 0, 0, 0, []), (25, 8, 5, 0, []), (0, 0, 3, 0, []), (2, 0, 0, 0, []), (2, 0, 0, 40, []), (40, 125, 3, 0, []), (41, 0, 9, 0, [])]
/-- 125: HornBench$Terms.open(II)V -/
def am_c125 : List AmIns := [(0, 0, 3, 0, []), (24, 8, 1, 3, []), (0, 1, 0, 0, []), (0, 2, 0, 0, []), (40, 183, 3, 12, []), (2, 0, 0, 0, []), (1, 3, 0, 0, []), (0, 3, 0, 0, []), (2, 0, 0, 8, []), (19, 21, 3, 0, []), (0, 0, 3, 0, []), (24, 8, 3, 3, []), (0, 1, 0, 0, []), (2, 0, 0, 8, []), (8, 0, 2, 0, []), (0, 3, 0, 0, []), (8, 0, 0, 0, []), (2, 0, 0, (-1), []), (40, 183, 3, 12, []), (17, 3, 0, 1, []), (22, 7, 0, 0, []), (41, 0, 9, 0, [])]
/-- 126: HornBench$Terms.head(I)I -/
def am_c126 : List AmIns := [(0, 1, 0, 0, []), (2, 0, 0, 64, []), (8, 0, 2, 0, []), (0, 0, 3, 0, []), (24, 8, 0, 3, []), (0, 0, 3, 0, []), (24, 8, 1, 3, []), (0, 1, 0, 0, []), (40, 182, 2, 12, []), (40, 28, 2, 0, []), (8, 0, 0, 0, []), (41, 0, 0, 0, [])]
/-- 127: HornBench$Terms.body(I)I -/
def am_c127 : List AmIns := [(0, 0, 3, 0, []), (24, 8, 0, 3, []), (0, 0, 3, 0, []), (24, 8, 1, 3, []), (0, 1, 0, 0, []), (40, 182, 2, 12, []), (40, 29, 2, 0, []), (1, 2, 0, 0, []), (0, 2, 0, 0, []), (2, 0, 0, (-1), []), (19, 13, 1, 0, []), (2, 0, 0, (-1), []), (22, 18, 0, 0, []), (0, 1, 0, 0, []), (2, 0, 0, 64, []), (8, 0, 2, 0, []), (0, 2, 0, 0, []), (8, 0, 0, 0, []), (41, 0, 0, 0, [])]
/-- 128: HornBench$Terms.node(I)I -/
def am_c128 : List AmIns := [(0, 1, 0, 0, []), (2, 0, 0, 64, []), (8, 0, 3, 0, []), (1, 2, 0, 0, []), (0, 1, 0, 0, []), (18, 14, 2, 0, []), (0, 1, 0, 0, []), (2, 0, 0, 64128, []), (19, 14, 3, 0, []), (0, 2, 0, 0, []), (0, 0, 3, 0, []), (24, 8, 1, 3, []), (31, 0, 0, 0, []), (19, 16, 2, 0, []), (2, 0, 0, (-1), []), (41, 0, 0, 0, []), (0, 0, 3, 0, []), (24, 8, 1, 3, []), (0, 2, 0, 0, []), (32, 0, 0, 0, []), (2, 0, 0, 64, []), (8, 0, 2, 0, []), (0, 1, 0, 0, []), (2, 0, 0, 64, []), (8, 0, 4, 0, []), (8, 0, 0, 0, []), (41, 0, 0, 0, [])]
/-- 129: HornBench$Terms.kind(I)I -/
def am_c129 : List AmIns := [(0, 0, 3, 0, []), (24, 8, 0, 3, []), (0, 0, 3, 0, []), (0, 1, 0, 0, []), (40, 128, 2, 0, []), (40, 37, 2, 0, []), (41, 0, 0, 0, [])]
/-- 130: HornBench$Terms.name(I)J -/
def am_c130 : List AmIns := [(0, 0, 3, 0, []), (24, 8, 0, 3, []), (0, 0, 3, 0, []), (0, 1, 0, 0, []), (40, 128, 2, 0, []), (40, 39, 2, 0, []), (41, 0, 1, 0, [])]
/-- 131: HornBench$Terms.isOperator(I)Z -/
def am_c131 : List AmIns := [(0, 0, 3, 0, []), (24, 8, 0, 3, []), (0, 0, 3, 0, []), (0, 1, 0, 0, []), (40, 128, 2, 0, []), (40, 44, 2, 0, []), (41, 0, 10, 0, [])]
/-- 132: HornBench$Terms.isAlike(II)Z -/
def am_c132 : List AmIns := [(0, 0, 3, 0, []), (24, 8, 0, 3, []), (0, 0, 3, 0, []), (0, 1, 0, 0, []), (40, 128, 2, 0, []), (0, 0, 3, 0, []), (0, 2, 0, 0, []), (40, 128, 2, 0, []), (40, 43, 3, 0, []), (41, 0, 10, 0, [])]
/-- 133: HornBench$Terms.first(I)I -/
def am_c133 : List AmIns := [(0, 0, 3, 0, []), (24, 8, 0, 3, []), (0, 0, 3, 0, []), (0, 1, 0, 0, []), (40, 128, 2, 0, []), (40, 40, 2, 0, []), (1, 2, 0, 0, []), (0, 2, 0, 0, []), (2, 0, 0, (-1), []), (19, 12, 1, 0, []), (2, 0, 0, (-1), []), (22, 19, 0, 0, []), (0, 1, 0, 0, []), (0, 1, 0, 0, []), (2, 0, 0, 64, []), (8, 0, 4, 0, []), (8, 0, 1, 0, []), (0, 2, 0, 0, []), (8, 0, 0, 0, []), (41, 0, 0, 0, [])]
/-- 134: HornBench$Terms.next(I)I -/
def am_c134 : List AmIns := [(0, 0, 3, 0, []), (24, 8, 0, 3, []), (0, 0, 3, 0, []), (0, 1, 0, 0, []), (40, 128, 2, 0, []), (40, 41, 2, 0, []), (1, 2, 0, 0, []), (0, 2, 0, 0, []), (2, 0, 0, (-1), []), (19, 12, 1, 0, []), (2, 0, 0, (-1), []), (22, 19, 0, 0, []), (0, 1, 0, 0, []), (0, 1, 0, 0, []), (2, 0, 0, 64, []), (8, 0, 4, 0, []), (8, 0, 1, 0, []), (0, 2, 0, 0, []), (8, 0, 0, 0, []), (41, 0, 0, 0, [])]
/-- 135: HornBench$Terms.cell(I)I -/
def am_c135 : List AmIns := [(0, 0, 3, 0, []), (0, 1, 0, 0, []), (40, 128, 2, 0, []), (1, 2, 0, 0, []), (0, 0, 3, 0, []), (24, 8, 0, 3, []), (0, 2, 0, 0, []), (40, 37, 2, 0, []), (2, 0, 0, 3, []), (19, 12, 0, 0, []), (2, 0, 0, (-1), []), (41, 0, 0, 0, []), (0, 1, 0, 0, []), (2, 0, 0, 64, []), (8, 0, 3, 0, []), (2, 0, 0, 8, []), (8, 0, 2, 0, []), (0, 0, 3, 0, []), (24, 8, 0, 3, []), (0, 2, 0, 0, []), (40, 38, 2, 0, []), (8, 0, 0, 0, []), (41, 0, 0, 0, [])]
/-- 136: HornBench$Terms.end(I)I -/
def am_c136 : List AmIns := [(0, 1, 0, 0, []), (1, 2, 0, 0, []), (0, 1, 0, 0, []), (2, 0, 0, 65130, []), (19, 30, 3, 0, []), (0, 0, 3, 0, []), (0, 1, 0, 0, []), (40, 128, 2, 0, []), (1, 3, 0, 0, []), (0, 0, 3, 0, []), (24, 8, 0, 3, []), (0, 3, 0, 0, []), (40, 37, 2, 0, []), (2, 0, 0, 3, []), (19, 17, 0, 0, []), (0, 1, 0, 0, []), (41, 0, 0, 0, []), (2, 0, 0, 65130, []), (0, 1, 0, 0, []), (2, 0, 0, 64, []), (8, 0, 3, 0, []), (2, 0, 0, 8, []), (8, 0, 2, 0, []), (8, 0, 0, 0, []), (0, 0, 3, 0, []), (24, 8, 0, 3, []), (0, 3, 0, 0, []), (40, 38, 2, 0, []), (8, 0, 0, 0, []), (1, 2, 0, 0, []), (2, 0, 0, 0, []), (1, 3, 0, 0, []), (0, 3, 0, 0, []), (2, 0, 0, 8016, []), (19, 62, 3, 0, []), (0, 2, 0, 0, []), (2, 0, 0, 65130, []), (19, 62, 2, 0, []), (0, 2, 0, 0, []), (2, 0, 0, 65130, []), (8, 0, 1, 0, []), (1, 4, 0, 0, []), (0, 4, 0, 0, []), (0, 0, 3, 0, []), (24, 8, 3, 3, []), (31, 0, 0, 0, []), (19, 53, 3, 0, []), (0, 0, 3, 0, []), (24, 8, 3, 3, []), (0, 4, 0, 0, []), (32, 0, 0, 0, []), (2, 0, 0, (-1), []), (19, 55, 1, 0, []), (0, 2, 0, 0, []), (41, 0, 0, 0, []), (0, 0, 3, 0, []), (24, 8, 3, 3, []), (0, 4, 0, 0, []), (32, 0, 0, 0, []), (1, 2, 0, 0, []), (17, 3, 0, 1, []), (22, 32, 0, 0, []), (0, 2, 0, 0, []), (41, 0, 0, 0, [])]
/-- 137: HornBench$Terms.isFree(I)Z -/
def am_c137 : List AmIns := [(0, 1, 0, 0, []), (2, 0, 0, 65130, []), (19, 5, 2, 0, []), (2, 0, 0, 1, []), (22, 6, 0, 0, []), (2, 0, 0, 0, []), (41, 0, 10, 0, [])]
/-- 138: HornBench$Terms.isNumber(I)Z -/
def am_c138 : List AmIns := [(0, 1, 0, 0, []), (2, 0, 0, 64128, []), (19, 6, 2, 0, []), (0, 1, 0, 0, []), (2, 0, 0, 65130, []), (19, 14, 2, 0, []), (0, 0, 3, 0, []), (24, 8, 0, 3, []), (0, 0, 3, 0, []), (0, 1, 0, 0, []), (40, 128, 2, 0, []), (40, 37, 2, 0, []), (2, 0, 0, 4, []), (19, 16, 1, 0, []), (2, 0, 0, 1, []), (22, 17, 0, 0, []), (2, 0, 0, 0, []), (41, 0, 10, 0, [])]
/-- 139: HornBench$Terms.numberOf(I)I -/
def am_c139 : List AmIns := [(0, 1, 0, 0, []), (2, 0, 0, 64128, []), (8, 0, 1, 0, []), (1, 2, 0, 0, []), (0, 2, 0, 0, []), (18, 16, 2, 0, []), (0, 2, 0, 0, []), (0, 0, 3, 0, []), (24, 8, 2, 3, []), (31, 0, 0, 0, []), (19, 16, 3, 0, []), (0, 0, 3, 0, []), (24, 8, 2, 3, []), (0, 2, 0, 0, []), (32, 0, 0, 0, []), (22, 22, 0, 0, []), (0, 0, 3, 0, []), (24, 8, 0, 3, []), (0, 0, 3, 0, []), (0, 1, 0, 0, []), (40, 128, 2, 0, []), (40, 38, 2, 0, []), (41, 0, 0, 0, [])]
/-- 140: HornBench$Terms.result(II)I -/
def am_c140 : List AmIns := [(0, 0, 3, 0, []), (24, 8, 2, 3, []), (0, 1, 0, 0, []), (0, 2, 0, 0, []), (40, 183, 3, 12, []), (2, 0, 0, 64128, []), (0, 1, 0, 0, []), (8, 0, 0, 0, []), (41, 0, 0, 0, [])]
/-- 141: HornBench$Terms.bind(II)V -/
def am_c141 : List AmIns := [(0, 1, 0, 0, []), (2, 0, 0, 65130, []), (8, 0, 1, 0, []), (1, 3, 0, 0, []), (0, 3, 0, 0, []), (18, 37, 2, 0, []), (0, 3, 0, 0, []), (0, 0, 3, 0, []), (24, 8, 3, 3, []), (31, 0, 0, 0, []), (19, 37, 3, 0, []), (0, 0, 3, 0, []), (24, 8, 5, 0, []), (18, 37, 2, 0, []), (0, 0, 3, 0, []), (24, 8, 5, 0, []), (0, 0, 3, 0, []), (24, 8, 4, 3, []), (31, 0, 0, 0, []), (19, 37, 3, 0, []), (0, 0, 3, 0, []), (24, 8, 3, 3, []), (0, 3, 0, 0, []), (0, 2, 0, 0, []), (33, 61, 11, 0, []), (0, 0, 3, 0, []), (24, 8, 4, 3, []), (0, 0, 3, 0, []), (24, 8, 5, 0, []), (0, 3, 0, 0, []), (33, 61, 11, 0, []), (0, 0, 3, 0, []), (26, 0, 0, 0, []), (24, 8, 5, 0, []), (2, 0, 0, 1, []), (8, 0, 0, 0, []), (25, 8, 5, 0, []), (41, 0, 9, 0, [])]
/-- 142: HornBench$Terms.trailed()I -/
def am_c142 : List AmIns := [(0, 0, 3, 0, []), (24, 8, 5, 0, []), (41, 0, 0, 0, [])]
/-- 143: HornBench$Terms.undo(I)V -/
def am_c143 : List AmIns := [(0, 1, 0, 0, []), (2, 0, 0, 0, []), (40, 298, 2, 2, []), (1, 2, 0, 0, []), (0, 0, 3, 0, []), (24, 8, 5, 0, []), (2, 0, 0, 1, []), (8, 0, 1, 0, []), (1, 3, 0, 0, []), (0, 3, 0, 0, []), (0, 2, 0, 0, []), (19, 22, 2, 0, []), (0, 0, 3, 0, []), (24, 8, 3, 3, []), (0, 0, 3, 0, []), (24, 8, 4, 3, []), (0, 3, 0, 0, []), (40, 182, 2, 12, []), (2, 0, 0, (-1), []), (40, 183, 3, 12, []), (17, 3, 0, (-1), []), (22, 9, 0, 0, []), (0, 0, 3, 0, []), (0, 0, 3, 0, []), (24, 8, 5, 0, []), (0, 2, 0, 0, []), (40, 299, 2, 2, []), (25, 8, 5, 0, []), (41, 0, 9, 0, [])]
/-- 144: HornBench$Terms.standsIn(II)Z -/
def am_c144 : List AmIns := [(2, 0, 0, 0, []), (1, 3, 0, 0, []), (0, 2, 0, 0, []), (1, 4, 0, 0, []), (2, 0, 0, 0, []), (1, 5, 0, 0, []), (0, 5, 0, 0, []), (0, 0, 3, 0, []), (24, 8, 6, 3, []), (40, 1, 1, 0, []), (19, 86, 4, 0, []), (0, 3, 0, 0, []), (18, 86, 1, 0, []), (0, 4, 0, 0, []), (2, 0, 0, 65130, []), (19, 23, 2, 0, []), (0, 0, 3, 0, []), (24, 8, 6, 3, []), (0, 4, 0, 0, []), (2, 0, 0, 65130, []), (8, 0, 1, 0, []), (40, 4, 2, 0, []), (22, 69, 0, 0, []), (0, 4, 0, 0, []), (18, 69, 2, 0, []), (0, 4, 0, 0, []), (2, 0, 0, 64128, []), (19, 69, 3, 0, []), (0, 0, 3, 0, []), (0, 4, 0, 0, []), (40, 128, 2, 0, []), (1, 6, 0, 0, []), (0, 4, 0, 0, []), (2, 0, 0, 64, []), (8, 0, 3, 0, []), (2, 0, 0, 8, []), (8, 0, 2, 0, []), (1, 7, 0, 0, []), (0, 6, 0, 0, []), (0, 4, 0, 0, []), (2, 0, 0, 64, []), (8, 0, 4, 0, []), (8, 0, 1, 0, []), (0, 0, 3, 0, []), (24, 8, 0, 3, []), (0, 6, 0, 0, []), (40, 42, 2, 0, []), (8, 0, 0, 0, []), (1, 8, 0, 0, []), (0, 8, 0, 0, []), (0, 6, 0, 0, []), (19, 69, 4, 0, []), (0, 0, 3, 0, []), (24, 8, 0, 3, []), (0, 8, 0, 0, []), (40, 37, 2, 0, []), (2, 0, 0, 3, []), (19, 67, 1, 0, []), (0, 0, 3, 0, []), (24, 8, 6, 3, []), (0, 7, 0, 0, []), (0, 0, 3, 0, []), (24, 8, 0, 3, []), (0, 8, 0, 0, []), (40, 38, 2, 0, []), (8, 0, 0, 0, []), (40, 4, 2, 0, []), (17, 8, 0, 1, []), (22, 49, 0, 0, []), (0, 0, 3, 0, []), (24, 8, 6, 3, []), (0, 1, 0, 0, []), (2, 0, 0, 65130, []), (8, 0, 1, 0, []), (40, 3, 2, 0, []), (1, 3, 0, 0, []), (0, 0, 3, 0, []), (24, 8, 3, 3, []), (0, 0, 3, 0, []), (24, 8, 6, 3, []), (0, 5, 0, 0, []), (40, 2, 2, 0, []), (40, 182, 2, 12, []), (1, 4, 0, 0, []), (17, 5, 0, 1, []), (22, 6, 0, 0, []), (0, 0, 3, 0, []), (24, 8, 6, 3, []), (40, 5, 1, 0, []), (0, 3, 0, 0, []), (41, 0, 10, 0, [])]
/-- 145: HornBench$Tokens.<init>(LHornBench$Tape;)V -/
def am_c145 : List AmIns := [(0, 0, 3, 0, []), (35, 0, 0, 0, []), (0, 0, 3, 0, []), (2, 0, 0, 2001, []), (29, 61, 0, 0, []), (25, 9, 1, 3, []), (0, 0, 3, 0, []), (2, 0, 0, 2001, []), (29, 61, 0, 0, []), (25, 9, 2, 3, []), (0, 0, 3, 0, []), (2, 0, 0, 2001, []), (29, 62, 0, 0, []), (25, 9, 3, 3, []), (0, 0, 3, 0, []), (0, 1, 3, 0, []), (25, 9, 0, 3, []), (41, 0, 9, 0, [])]
/-- 146: HornBench$Tokens.kind(I)I -/
def am_c146 : List AmIns := [(0, 1, 0, 0, []), (18, 16, 2, 0, []), (0, 1, 0, 0, []), (0, 0, 3, 0, []), (24, 9, 4, 0, []), (19, 16, 3, 0, []), (0, 1, 0, 0, []), (0, 0, 3, 0, []), (24, 9, 1, 3, []), (31, 0, 0, 0, []), (19, 16, 3, 0, []), (0, 0, 3, 0, []), (24, 9, 1, 3, []), (0, 1, 0, 0, []), (32, 0, 0, 0, []), (22, 17, 0, 0, []), (2, 0, 0, 2, []), (41, 0, 0, 0, [])]
/-- 147: HornBench$Tokens.start(I)I -/
def am_c147 : List AmIns := [(0, 1, 0, 0, []), (18, 16, 2, 0, []), (0, 1, 0, 0, []), (0, 0, 3, 0, []), (24, 9, 4, 0, []), (19, 16, 3, 0, []), (0, 1, 0, 0, []), (0, 0, 3, 0, []), (24, 9, 2, 3, []), (31, 0, 0, 0, []), (19, 16, 3, 0, []), (0, 0, 3, 0, []), (24, 9, 2, 3, []), (0, 1, 0, 0, []), (32, 0, 0, 0, []), (22, 17, 0, 0, []), (2, 0, 0, (-1), []), (41, 0, 0, 0, [])]
/-- 148: HornBench$Tokens.text(I)J -/
def am_c148 : List AmIns := [(0, 1, 0, 0, []), (18, 16, 2, 0, []), (0, 1, 0, 0, []), (0, 0, 3, 0, []), (24, 9, 4, 0, []), (19, 16, 3, 0, []), (0, 1, 0, 0, []), (0, 0, 3, 0, []), (24, 9, 3, 3, []), (31, 0, 0, 0, []), (19, 16, 3, 0, []), (0, 0, 3, 0, []), (24, 9, 3, 3, []), (0, 1, 0, 0, []), (32, 0, 1, 0, []), (22, 17, 0, 0, []), (3, 0, 0, 0, []), (41, 0, 1, 0, [])]
/-- 149: HornBench$Tokens.read()V -/
def am_c149 : List AmIns := [(0, 0, 3, 0, []), (2, 0, 0, 0, []), (25, 9, 4, 0, []), (2, 0, 0, 0, []), (1, 1, 0, 0, []), (2, 0, 0, 1, []), (1, 2, 0, 0, []), (2, 0, 0, 0, []), (1, 3, 0, 0, []), (0, 3, 0, 0, []), (2, 0, 0, 2001, []), (19, 39, 3, 0, []), (0, 2, 0, 0, []), (18, 39, 0, 0, []), (0, 0, 3, 0, []), (0, 0, 3, 0, []), (0, 1, 0, 0, []), (40, 150, 2, 0, []), (40, 151, 2, 0, []), (1, 1, 0, 0, []), (0, 0, 3, 0, []), (0, 0, 3, 0, []), (24, 9, 4, 0, []), (2, 0, 0, 1, []), (8, 0, 1, 0, []), (40, 146, 2, 0, []), (1, 4, 0, 0, []), (0, 4, 0, 0, []), (2, 0, 0, 1, []), (19, 35, 0, 0, []), (0, 4, 0, 0, []), (2, 0, 0, 2, []), (19, 35, 0, 0, []), (2, 0, 0, 1, []), (22, 36, 0, 0, []), (2, 0, 0, 0, []), (1, 2, 0, 0, []), (17, 3, 0, 1, []), (22, 9, 0, 0, []), (41, 0, 9, 0, [])]
/-- 150: HornBench$Tokens.behindBlanks(I)I -/
def am_c150 : List AmIns := [(0, 1, 0, 0, []), (1, 2, 0, 0, []), (0, 2, 0, 0, []), (2, 0, 0, 2000, []), (19, 19, 3, 0, []), (0, 0, 3, 0, []), (24, 9, 0, 3, []), (0, 2, 0, 0, []), (40, 122, 2, 0, []), (2, 0, 0, 32, []), (19, 17, 0, 0, []), (0, 0, 3, 0, []), (24, 9, 0, 3, []), (0, 2, 0, 0, []), (40, 122, 2, 0, []), (2, 0, 0, 10, []), (19, 19, 1, 0, []), (17, 2, 0, 1, []), (22, 2, 0, 0, []), (0, 2, 0, 0, []), (41, 0, 0, 0, [])]
/-- 151: HornBench$Tokens.readToken(I)I -/
def am_c151 : List AmIns := [(0, 0, 3, 0, []), (24, 9, 0, 3, []), (0, 1, 0, 0, []), (40, 122, 2, 0, []), (1, 2, 0, 0, []), (0, 2, 0, 0, []), (2, 0, 0, (-1), []), (19, 15, 1, 0, []), (0, 0, 3, 0, []), (2, 0, 0, 1, []), (0, 1, 0, 0, []), (3, 0, 0, 0, []), (0, 1, 0, 0, []), (40, 161, 5, 0, []), (41, 0, 0, 0, []), (0, 2, 0, 0, []), (40, 158, 1, 2, []), (18, 22, 0, 0, []), (0, 0, 3, 0, []), (0, 1, 0, 0, []), (40, 154, 2, 0, []), (41, 0, 0, 0, []), (0, 2, 0, 0, []), (40, 157, 1, 2, []), (18, 29, 0, 0, []), (0, 0, 3, 0, []), (0, 1, 0, 0, []), (40, 152, 2, 0, []), (41, 0, 0, 0, []), (0, 2, 0, 0, []), (2, 0, 0, 95, []), (19, 38, 0, 0, []), (0, 2, 0, 0, []), (2, 0, 0, 65, []), (19, 63, 2, 0, []), (0, 2, 0, 0, []), (2, 0, 0, 90, []), (19, 63, 4, 0, []), (0, 0, 3, 0, []), (0, 1, 0, 0, []), (2, 0, 0, 1, []), (8, 0, 0, 0, []), (40, 159, 2, 0, []), (1, 3, 0, 0, []), (0, 3, 0, 0, []), (0, 1, 0, 0, []), (8, 0, 1, 0, []), (2, 0, 0, 8, []), (19, 51, 5, 0, []), (2, 0, 0, 2, []), (22, 52, 0, 0, []), (2, 0, 0, 3, []), (1, 4, 0, 0, []), (0, 0, 3, 0, []), (0, 4, 0, 0, []), (0, 1, 0, 0, []), (0, 0, 3, 0, []), (0, 1, 0, 0, []), (0, 3, 0, 0, []), (40, 160, 3, 0, []), (0, 3, 0, 0, []), (40, 161, 5, 0, []), (41, 0, 0, 0, []), (0, 0, 3, 0, []), (0, 1, 0, 0, []), (0, 2, 0, 0, []), (0, 0, 3, 0, []), (24, 9, 0, 3, []), (0, 1, 0, 0, []), (2, 0, 0, 1, []), (8, 0, 0, 0, []), (40, 122, 2, 0, []), (40, 155, 4, 0, []), (41, 0, 0, 0, [])]
/-- 152: HornBench$Tokens.readWord(I)I -/
def am_c152 : List AmIns := [(0, 0, 3, 0, []), (0, 1, 0, 0, []), (40, 159, 2, 0, []), (1, 2, 0, 0, []), (0, 0, 3, 0, []), (0, 1, 0, 0, []), (0, 2, 0, 0, []), (40, 160, 3, 0, []), (1, 3, 1, 0, []), (0, 0, 3, 0, []), (0, 2, 0, 0, []), (0, 1, 0, 0, []), (8, 0, 1, 0, []), (2, 0, 0, 8, []), (19, 17, 5, 0, []), (2, 0, 0, 2, []), (22, 19, 0, 0, []), (0, 3, 1, 0, []), (40, 153, 1, 2, []), (0, 1, 0, 0, []), (0, 3, 1, 0, []), (0, 2, 0, 0, []), (40, 161, 5, 0, []), (41, 0, 0, 0, [])]
/-- 153: HornBench$Tokens.kindOfWord(J)I -/
def am_c153 : List AmIns := [(0, 0, 1, 0, []), (3, 0, 0, 1953658213, []), (13, 0, 0, 0, []), (18, 6, 1, 0, []), (2, 0, 0, 6, []), (41, 0, 0, 0, []), (0, 0, 1, 0, []), (3, 0, 0, 1717660012, []), (13, 0, 0, 0, []), (18, 12, 1, 0, []), (2, 0, 0, 7, []), (41, 0, 0, 0, []), (0, 0, 1, 0, []), (3, 0, 0, 7237492, []), (13, 0, 0, 0, []), (18, 18, 1, 0, []), (2, 0, 0, 8, []), (41, 0, 0, 0, []), (0, 0, 1, 0, []), (3, 0, 0, 7758194, []), (13, 0, 0, 0, []), (18, 24, 1, 0, []), (2, 0, 0, 9, []), (41, 0, 0, 0, []), (0, 0, 1, 0, []), (3, 0, 0, 26995, []), (13, 0, 0, 0, []), (18, 30, 1, 0, []), (2, 0, 0, 10, []), (41, 0, 0, 0, []), (0, 0, 1, 0, []), (3, 0, 0, 7171940, []), (13, 0, 0, 0, []), (18, 36, 1, 0, []), (2, 0, 0, 11, []), (22, 37, 0, 0, []), (2, 0, 0, 5, []), (41, 0, 0, 0, [])]
/-- 154: HornBench$Tokens.readNumber(I)I -/
def am_c154 : List AmIns := [(3, 0, 0, 0, []), (1, 2, 1, 0, []), (0, 1, 0, 0, []), (1, 4, 0, 0, []), (0, 4, 0, 0, []), (2, 0, 0, 2000, []), (19, 27, 3, 0, []), (0, 0, 3, 0, []), (24, 9, 0, 3, []), (0, 4, 0, 0, []), (40, 122, 2, 0, []), (40, 158, 1, 2, []), (18, 27, 0, 0, []), (0, 2, 1, 0, []), (3, 0, 0, 10, []), (10, 0, 2, 0, []), (0, 0, 3, 0, []), (24, 9, 0, 3, []), (0, 4, 0, 0, []), (40, 122, 2, 0, []), (2, 0, 0, 48, []), (8, 0, 1, 0, []), (14, 0, 0, 0, []), (10, 0, 0, 0, []), (1, 2, 1, 0, []), (17, 4, 0, 1, []), (22, 4, 0, 0, []), (0, 0, 3, 0, []), (0, 4, 0, 0, []), (0, 1, 0, 0, []), (8, 0, 1, 0, []), (2, 0, 0, 6, []), (19, 35, 5, 0, []), (2, 0, 0, 2, []), (22, 36, 0, 0, []), (2, 0, 0, 4, []), (0, 1, 0, 0, []), (0, 2, 1, 0, []), (0, 4, 0, 0, []), (40, 161, 5, 0, []), (41, 0, 0, 0, [])]
/-- 155: HornBench$Tokens.readSymbol(III)I -/
def am_c155 : List AmIns := [(0, 2, 0, 0, []), (2, 0, 0, 256, []), (8, 0, 2, 0, []), (0, 3, 0, 0, []), (8, 0, 0, 0, []), (1, 4, 0, 0, []), (0, 4, 0, 0, []), (23, 58, 1, 0, [(14893, 48), (15676, 8), (15677, 28), (15933, 18), (23613, 38)]), (0, 0, 3, 0, []), (2, 0, 0, 12, []), (0, 1, 0, 0, []), (0, 4, 0, 0, []), (14, 0, 0, 0, []), (0, 1, 0, 0, []), (2, 0, 0, 2, []), (8, 0, 0, 0, []), (40, 161, 5, 0, []), (41, 0, 0, 0, []), (0, 0, 3, 0, []), (2, 0, 0, 13, []), (0, 1, 0, 0, []), (0, 4, 0, 0, []), (14, 0, 0, 0, []), (0, 1, 0, 0, []), (2, 0, 0, 2, []), (8, 0, 0, 0, []), (40, 161, 5, 0, []), (41, 0, 0, 0, []), (0, 0, 3, 0, []), (2, 0, 0, 14, []), (0, 1, 0, 0, []), (0, 4, 0, 0, []), (14, 0, 0, 0, []), (0, 1, 0, 0, []), (2, 0, 0, 2, []), (8, 0, 0, 0, []), (40, 161, 5, 0, []), (41, 0, 0, 0, []), (0, 0, 3, 0, []), (2, 0, 0, 15, []), (0, 1, 0, 0, []), (0, 4, 0, 0, []), (14, 0, 0, 0, []), (0, 1, 0, 0, []), (2, 0, 0, 2, []), (8, 0, 0, 0, []), (40, 161, 5, 0, []), (41, 0, 0, 0, []), (0, 0, 3, 0, []), (2, 0, 0, 16, []), (0, 1, 0, 0, []), (0, 4, 0, 0, []), (14, 0, 0, 0, []), (0, 1, 0, 0, []), (2, 0, 0, 2, []), (8, 0, 0, 0, []), (40, 161, 5, 0, []), (41, 0, 0, 0, []), (0, 0, 3, 0, []), (0, 2, 0, 0, []), (40, 156, 1, 2, []), (18, 64, 0, 0, []), (0, 2, 0, 0, []), (22, 65, 0, 0, []), (2, 0, 0, 2, []), (0, 1, 0, 0, []), (0, 2, 0, 0, []), (14, 0, 0, 0, []), (0, 1, 0, 0, []), (2, 0, 0, 1, []), (8, 0, 0, 0, []), (40, 161, 5, 0, []), (41, 0, 0, 0, [])]
/-- 156: HornBench$Tokens.isSymbol(I)Z -/
def am_c156 : List AmIns := [(0, 0, 0, 0, []), (23, 4, 1, 0, [(33, 2), (40, 2), (41, 2), (42, 2), (43, 2), (44, 2), (45, 2), (46, 2), (47, 2), (60, 2), (61, 2), (62, 2), (91, 2), (93, 2), (124, 2)]), (2, 0, 0, 1, []), (41, 0, 10, 0, []), (2, 0, 0, 0, []), (41, 0, 10, 0, [])]
/-- 157: HornBench$Tokens.isSmall(I)Z -/
def am_c157 : List AmIns := [(0, 0, 0, 0, []), (2, 0, 0, 97, []), (19, 8, 2, 0, []), (0, 0, 0, 0, []), (2, 0, 0, 122, []), (19, 8, 4, 0, []), (2, 0, 0, 1, []), (22, 9, 0, 0, []), (2, 0, 0, 0, []), (41, 0, 10, 0, [])]
/-- 158: HornBench$Tokens.isDigit(I)Z -/
def am_c158 : List AmIns := [(0, 0, 0, 0, []), (2, 0, 0, 48, []), (19, 8, 2, 0, []), (0, 0, 0, 0, []), (2, 0, 0, 57, []), (19, 8, 4, 0, []), (2, 0, 0, 1, []), (22, 9, 0, 0, []), (2, 0, 0, 0, []), (41, 0, 10, 0, [])]
/-- 159: HornBench$Tokens.behindWord(I)I -/
def am_c159 : List AmIns := [(0, 1, 0, 0, []), (1, 2, 0, 0, []), (0, 2, 0, 0, []), (2, 0, 0, 2000, []), (19, 19, 3, 0, []), (0, 0, 3, 0, []), (24, 9, 0, 3, []), (0, 2, 0, 0, []), (40, 122, 2, 0, []), (40, 157, 1, 2, []), (18, 17, 1, 0, []), (0, 0, 3, 0, []), (24, 9, 0, 3, []), (0, 2, 0, 0, []), (40, 122, 2, 0, []), (40, 158, 1, 2, []), (18, 19, 0, 0, []), (17, 2, 0, 1, []), (22, 2, 0, 0, []), (0, 2, 0, 0, []), (41, 0, 0, 0, [])]
/-- 160: HornBench$Tokens.nameOf(II)J -/
def am_c160 : List AmIns := [(3, 0, 0, 0, []), (1, 3, 1, 0, []), (0, 1, 0, 0, []), (1, 5, 0, 0, []), (0, 5, 0, 0, []), (0, 2, 0, 0, []), (19, 19, 3, 0, []), (0, 3, 1, 0, []), (2, 0, 0, 8, []), (11, 0, 0, 0, []), (0, 0, 3, 0, []), (24, 9, 0, 3, []), (0, 5, 0, 0, []), (40, 122, 2, 0, []), (14, 0, 0, 0, []), (10, 0, 6, 0, []), (1, 3, 1, 0, []), (17, 5, 0, 1, []), (22, 4, 0, 0, []), (0, 3, 1, 0, []), (41, 0, 1, 0, [])]
/-- 161: HornBench$Tokens.keep(IIJI)I -/
def am_c161 : List AmIns := [(0, 0, 3, 0, []), (24, 9, 4, 0, []), (18, 45, 2, 0, []), (0, 0, 3, 0, []), (24, 9, 4, 0, []), (0, 0, 3, 0, []), (24, 9, 1, 3, []), (31, 0, 0, 0, []), (19, 45, 3, 0, []), (0, 0, 3, 0, []), (24, 9, 4, 0, []), (0, 0, 3, 0, []), (24, 9, 2, 3, []), (31, 0, 0, 0, []), (19, 45, 3, 0, []), (0, 0, 3, 0, []), (24, 9, 4, 0, []), (0, 0, 3, 0, []), (24, 9, 3, 3, []), (31, 0, 0, 0, []), (19, 45, 3, 0, []), (0, 0, 3, 0, []), (24, 9, 1, 3, []), (0, 0, 3, 0, []), (24, 9, 4, 0, []), (0, 1, 0, 0, []), (33, 61, 11, 0, []), (0, 0, 3, 0, []), (24, 9, 2, 3, []), (0, 0, 3, 0, []), (24, 9, 4, 0, []), (0, 2, 0, 0, []), (33, 61, 11, 0, []), (0, 0, 3, 0, []), (24, 9, 3, 3, []), (0, 0, 3, 0, []), (24, 9, 4, 0, []), (0, 3, 1, 0, []), (33, 62, 11, 0, []), (0, 0, 3, 0, []), (26, 0, 0, 0, []), (24, 9, 4, 0, []), (2, 0, 0, 1, []), (8, 0, 0, 0, []), (25, 9, 4, 0, []), (0, 5, 0, 0, []), (41, 0, 0, 0, [])]
/-- 162: HornBench.<init>()V -/
def am_c162 : List AmIns := [(0, 0, 3, 0, []), (35, 0, 0, 0, []), (0, 0, 3, 0, []), (28, 7, 2, 0, []), (26, 0, 0, 0, []), (40, 117, 1, 11, []), (25, 10, 0, 3, []), (0, 0, 3, 0, []), (28, 3, 15, 0, []), (26, 0, 0, 0, []), (40, 16, 1, 1, []), (25, 10, 1, 3, []), (0, 0, 3, 0, []), (28, 4, 11, 0, []), (26, 0, 0, 0, []), (0, 0, 3, 0, []), (24, 10, 0, 3, []), (0, 0, 3, 0, []), (24, 10, 1, 3, []), (40, 45, 3, 1, []), (25, 10, 2, 3, []), (0, 0, 3, 0, []), (28, 8, 7, 0, []), (26, 0, 0, 0, []), (0, 0, 3, 0, []), (24, 10, 1, 3, []), (40, 123, 2, 1, []), (25, 10, 3, 3, []), (0, 0, 3, 0, []), (28, 2, 4, 0, []), (26, 0, 0, 0, []), (0, 0, 3, 0, []), (24, 10, 3, 3, []), (40, 12, 2, 1, []), (25, 10, 4, 3, []), (0, 0, 3, 0, []), (28, 6, 19, 0, []), (26, 0, 0, 0, []), (0, 0, 3, 0, []), (24, 10, 1, 3, []), (0, 0, 3, 0, []), (24, 10, 3, 3, []), (0, 0, 3, 0, []), (24, 10, 4, 3, []), (40, 92, 4, 1, []), (25, 10, 5, 3, []), (0, 0, 3, 0, []), (28, 5, 10, 0, []), (26, 0, 0, 0, []), (0, 0, 3, 0, []), (24, 10, 3, 3, []), (40, 73, 2, 1, []), (25, 10, 6, 3, []), (0, 0, 3, 0, []), (2, 0, 0, (-1), []), (25, 10, 7, 0, []), (41, 0, 9, 0, [])]
/-- 163: HornBench.feed(IIIII)I -/
def am_c163 : List AmIns := [(0, 0, 3, 0, []), (24, 10, 0, 3, []), (40, 119, 1, 0, []), (18, 9, 1, 0, []), (42, 0, 0, 0, []), (99, 0, 0, 0, []), (99, 0, 0, 0, []), (99, 0, 0, 0, []), (99, 0, 0, 0, []), (0, 0, 3, 0, []), (24, 10, 0, 3, []), (0, 1, 0, 0, []), (40, 120, 2, 0, []), (0, 0, 3, 0, []), (24, 10, 0, 3, []), (0, 2, 0, 0, []), (40, 120, 2, 0, []), (0, 0, 3, 0, []), (24, 10, 0, 3, []), (0, 3, 0, 0, []), (40, 120, 2, 0, []), (0, 0, 3, 0, []), (24, 10, 0, 3, []), (0, 4, 0, 0, []), (40, 120, 2, 0, []), (0, 0, 3, 0, []), (24, 10, 0, 3, []), (0, 5, 0, 0, []), (40, 120, 2, 0, []), (0, 0, 3, 0, []), (24, 10, 0, 3, []), (40, 118, 1, 0, []), (41, 0, 0, 0, [])]
/-- 164: HornBench.trim(I)I -/
def am_c164 : List AmIns := [(0, 1, 0, 0, []), (18, 7, 2, 0, []), (0, 1, 0, 0, []), (0, 0, 3, 0, []), (24, 10, 0, 3, []), (40, 118, 1, 0, []), (19, 12, 5, 0, []), (42, 1, 0, 0, []), (99, 0, 0, 0, []), (99, 0, 0, 0, []), (99, 0, 0, 0, []), (99, 0, 0, 0, []), (0, 0, 3, 0, []), (24, 10, 0, 3, []), (0, 1, 0, 0, []), (40, 121, 2, 0, []), (0, 1, 0, 0, []), (41, 0, 0, 0, [])]
/-- 165: HornBench.consult()I -/
def am_c165 : List AmIns := [(0, 0, 3, 0, []), (24, 10, 1, 3, []), (40, 17, 1, 0, []), (0, 0, 3, 0, []), (24, 10, 5, 3, []), (40, 94, 1, 0, []), (0, 0, 3, 0, []), (0, 0, 3, 0, []), (24, 10, 2, 3, []), (40, 46, 1, 0, []), (40, 171, 2, 0, []), (41, 0, 0, 0, [])]
/-- 166: HornBench.add()I -/
def am_c166 : List AmIns := [(0, 0, 3, 0, []), (24, 10, 5, 3, []), (40, 94, 1, 0, []), (0, 0, 3, 0, []), (0, 0, 3, 0, []), (24, 10, 2, 3, []), (40, 46, 1, 0, []), (40, 171, 2, 0, []), (41, 0, 0, 0, [])]
/-- 167: HornBench.drop(I)I -/
def am_c167 : List AmIns := [(0, 1, 0, 0, []), (18, 7, 2, 0, []), (0, 1, 0, 0, []), (0, 0, 3, 0, []), (24, 10, 1, 3, []), (40, 26, 1, 0, []), (19, 12, 2, 0, []), (42, 2, 0, 0, []), (99, 0, 0, 0, []), (99, 0, 0, 0, []), (99, 0, 0, 0, []), (99, 0, 0, 0, []), (0, 0, 3, 0, []), (24, 10, 5, 3, []), (40, 94, 1, 0, []), (0, 0, 3, 0, []), (24, 10, 1, 3, []), (0, 1, 0, 0, []), (40, 19, 2, 0, []), (0, 0, 3, 0, []), (24, 10, 1, 3, []), (40, 26, 1, 0, []), (41, 0, 0, 0, [])]
/-- 168: HornBench.errorAt()I -/
def am_c168 : List AmIns := [(0, 0, 3, 0, []), (24, 10, 7, 0, []), (41, 0, 0, 0, [])]
/-- 169: HornBench.count(I)I -/
def am_c169 : List AmIns := [(0, 1, 0, 0, []), (23, 38, 0, 0, [(0, 2), (1, 6), (2, 10), (3, 14), (4, 18), (5, 22), (6, 26), (7, 30), (8, 34)]), (0, 0, 3, 0, []), (24, 10, 1, 3, []), (40, 26, 1, 0, []), (41, 0, 0, 0, []), (0, 0, 3, 0, []), (24, 10, 1, 3, []), (40, 35, 1, 0, []), (41, 0, 0, 0, []), (0, 0, 3, 0, []), (24, 10, 0, 3, []), (40, 118, 1, 0, []), (41, 0, 0, 0, []), (0, 0, 3, 0, []), (24, 10, 6, 3, []), (40, 74, 1, 0, []), (41, 0, 0, 0, []), (0, 0, 3, 0, []), (24, 10, 5, 3, []), (40, 97, 1, 0, []), (41, 0, 0, 0, []), (0, 0, 3, 0, []), (24, 10, 5, 3, []), (40, 98, 1, 0, []), (41, 0, 0, 0, []), (0, 0, 3, 0, []), (24, 10, 5, 3, []), (40, 99, 1, 0, []), (41, 0, 0, 0, []), (0, 0, 3, 0, []), (24, 10, 5, 3, []), (40, 100, 1, 0, []), (41, 0, 0, 0, []), (0, 0, 3, 0, []), (24, 10, 5, 3, []), (40, 101, 1, 0, []), (41, 0, 0, 0, []), (42, 2, 0, 0, []), (99, 0, 0, 0, []), (99, 0, 0, 0, []), (99, 0, 0, 0, []), (99, 0, 0, 0, [])]
/-- 170: HornBench.clause(II)I -/
def am_c170 : List AmIns := [(0, 1, 0, 0, []), (18, 12, 2, 0, []), (0, 1, 0, 0, []), (0, 0, 3, 0, []), (24, 10, 1, 3, []), (40, 26, 1, 0, []), (19, 12, 3, 0, []), (0, 2, 0, 0, []), (18, 12, 2, 0, []), (0, 2, 0, 0, []), (2, 0, 0, 3, []), (19, 17, 5, 0, []), (42, 2, 0, 0, []), (99, 0, 0, 0, []), (99, 0, 0, 0, []), (99, 0, 0, 0, []), (99, 0, 0, 0, []), (0, 0, 3, 0, []), (24, 10, 1, 3, []), (0, 1, 0, 0, []), (40, 27, 2, 0, []), (1, 3, 0, 0, []), (0, 2, 0, 0, []), (23, 39, 0, 0, [(0, 24), (1, 29), (2, 34)]), (0, 0, 3, 0, []), (24, 10, 1, 3, []), (0, 3, 0, 0, []), (40, 30, 2, 0, []), (41, 0, 0, 0, []), (0, 0, 3, 0, []), (24, 10, 1, 3, []), (0, 3, 0, 0, []), (40, 31, 2, 0, []), (41, 0, 0, 0, []), (0, 0, 3, 0, []), (24, 10, 1, 3, []), (0, 3, 0, 0, []), (40, 32, 2, 0, []), (41, 0, 0, 0, []), (0, 0, 3, 0, []), (24, 10, 1, 3, []), (0, 3, 0, 0, []), (40, 33, 2, 0, []), (41, 0, 0, 0, [])]
/-- 171: HornBench.finishReading(I)I -/
def am_c171 : List AmIns := [(0, 0, 3, 0, []), (0, 0, 3, 0, []), (24, 10, 2, 3, []), (40, 48, 1, 0, []), (25, 10, 7, 0, []), (0, 0, 3, 0, []), (24, 10, 0, 3, []), (2, 0, 0, 0, []), (40, 121, 2, 0, []), (0, 1, 0, 0, []), (41, 0, 0, 0, [])]
/-- 172: HornBench.ask()I -/
def am_c172 : List AmIns := [(0, 0, 3, 0, []), (24, 10, 5, 3, []), (40, 94, 1, 0, []), (0, 0, 3, 0, []), (24, 10, 2, 3, []), (40, 47, 1, 0, []), (1, 1, 0, 0, []), (0, 1, 0, 0, []), (18, 12, 1, 0, []), (0, 0, 3, 0, []), (24, 10, 5, 3, []), (40, 93, 1, 0, []), (0, 0, 3, 0, []), (0, 1, 0, 0, []), (40, 171, 2, 0, []), (41, 0, 0, 0, [])]
/-- 173: HornBench.run(I)I -/
def am_c173 : List AmIns := [(0, 1, 0, 0, []), (2, 0, 0, 1, []), (19, 6, 2, 0, []), (0, 1, 0, 0, []), (2, 0, 0, 500, []), (19, 11, 5, 0, []), (42, 1, 0, 0, []), (99, 0, 0, 0, []), (99, 0, 0, 0, []), (99, 0, 0, 0, []), (99, 0, 0, 0, []), (0, 0, 3, 0, []), (24, 10, 5, 3, []), (40, 95, 1, 0, []), (18, 20, 1, 0, []), (42, 0, 0, 0, []), (99, 0, 0, 0, []), (99, 0, 0, 0, []), (99, 0, 0, 0, []), (99, 0, 0, 0, []), (0, 0, 3, 0, []), (24, 10, 5, 3, []), (0, 1, 0, 0, []), (40, 104, 2, 0, []), (41, 0, 0, 0, [])]
/-- 174: HornBench.status()I -/
def am_c174 : List AmIns := [(0, 0, 3, 0, []), (24, 10, 5, 3, []), (40, 102, 1, 0, []), (41, 0, 0, 0, [])]
/-- 175: HornBench.write(I)I -/
def am_c175 : List AmIns := [(0, 0, 3, 0, []), (24, 10, 5, 3, []), (0, 1, 0, 0, []), (40, 96, 2, 0, []), (18, 10, 1, 0, []), (42, 2, 0, 0, []), (99, 0, 0, 0, []), (99, 0, 0, 0, []), (99, 0, 0, 0, []), (99, 0, 0, 0, []), (0, 0, 3, 0, []), (24, 10, 6, 3, []), (2, 0, 0, 1, []), (2, 0, 0, 65130, []), (0, 1, 0, 0, []), (8, 0, 0, 0, []), (40, 77, 3, 0, []), (18, 23, 1, 0, []), (42, 0, 0, 0, []), (99, 0, 0, 0, []), (99, 0, 0, 0, []), (99, 0, 0, 0, []), (99, 0, 0, 0, []), (0, 0, 3, 0, []), (24, 10, 6, 3, []), (40, 74, 1, 0, []), (41, 0, 0, 0, [])]
/-- 176: HornBench.writeGoal()I -/
def am_c176 : List AmIns := [(0, 0, 3, 0, []), (24, 10, 5, 3, []), (40, 95, 1, 0, []), (18, 9, 1, 0, []), (42, 0, 0, 0, []), (99, 0, 0, 0, []), (99, 0, 0, 0, []), (99, 0, 0, 0, []), (99, 0, 0, 0, []), (0, 0, 3, 0, []), (24, 10, 5, 3, []), (40, 103, 1, 0, []), (1, 1, 0, 0, []), (0, 1, 0, 0, []), (2, 0, 0, (-1), []), (19, 20, 1, 0, []), (0, 0, 3, 0, []), (24, 10, 6, 3, []), (40, 76, 1, 0, []), (22, 31, 0, 0, []), (0, 0, 3, 0, []), (24, 10, 6, 3, []), (2, 0, 0, 5, []), (0, 1, 0, 0, []), (40, 77, 3, 0, []), (18, 31, 1, 0, []), (42, 0, 0, 0, []), (99, 0, 0, 0, []), (99, 0, 0, 0, []), (99, 0, 0, 0, []), (99, 0, 0, 0, []), (0, 0, 3, 0, []), (24, 10, 6, 3, []), (40, 74, 1, 0, []), (41, 0, 0, 0, [])]
/-- 177: HornBench.byteAt(I)I -/
def am_c177 : List AmIns := [(0, 1, 0, 0, []), (18, 7, 2, 0, []), (0, 1, 0, 0, []), (0, 0, 3, 0, []), (24, 10, 6, 3, []), (40, 74, 1, 0, []), (19, 12, 2, 0, []), (42, 2, 0, 0, []), (99, 0, 0, 0, []), (99, 0, 0, 0, []), (99, 0, 0, 0, []), (99, 0, 0, 0, []), (0, 0, 3, 0, []), (24, 10, 6, 3, []), (0, 1, 0, 0, []), (40, 75, 2, 0, []), (41, 0, 0, 0, [])]
/-- 178: HornBench.number(I)I -/
def am_c178 : List AmIns := [(0, 0, 3, 0, []), (24, 10, 5, 3, []), (0, 1, 0, 0, []), (40, 96, 2, 0, []), (18, 10, 1, 0, []), (42, 2, 0, 0, []), (99, 0, 0, 0, []), (99, 0, 0, 0, []), (99, 0, 0, 0, []), (99, 0, 0, 0, []), (0, 0, 3, 0, []), (24, 10, 3, 3, []), (2, 0, 0, 65130, []), (0, 1, 0, 0, []), (8, 0, 0, 0, []), (40, 136, 2, 0, []), (1, 2, 0, 0, []), (0, 0, 3, 0, []), (24, 10, 3, 3, []), (0, 2, 0, 0, []), (40, 138, 2, 0, []), (18, 27, 1, 0, []), (42, 0, 0, 0, []), (99, 0, 0, 0, []), (99, 0, 0, 0, []), (99, 0, 0, 0, []), (99, 0, 0, 0, []), (0, 0, 3, 0, []), (24, 10, 3, 3, []), (0, 2, 0, 0, []), (40, 139, 2, 0, []), (41, 0, 0, 0, [])]
/-- 179: HornBench.isSame(II)Z -/
def am_c179 : List AmIns := [(0, 0, 3, 0, []), (24, 10, 5, 3, []), (0, 1, 0, 0, []), (40, 96, 2, 0, []), (18, 10, 0, 0, []), (0, 0, 3, 0, []), (24, 10, 5, 3, []), (0, 2, 0, 0, []), (40, 96, 2, 0, []), (18, 15, 1, 0, []), (42, 2, 0, 0, []), (99, 0, 0, 0, []), (99, 0, 0, 0, []), (99, 0, 0, 0, []), (99, 0, 0, 0, []), (0, 0, 3, 0, []), (24, 10, 4, 3, []), (2, 0, 0, 65130, []), (0, 1, 0, 0, []), (8, 0, 0, 0, []), (2, 0, 0, 65130, []), (0, 2, 0, 0, []), (8, 0, 0, 0, []), (2, 0, 0, 0, []), (40, 13, 4, 0, []), (41, 0, 10, 0, [])]
/-- 180: HornBench.stepsEach()D -/
def am_c180 : List AmIns := [(0, 0, 3, 0, []), (24, 10, 5, 3, []), (40, 100, 1, 0, []), (1, 1, 0, 0, []), (0, 1, 0, 0, []), (18, 8, 1, 0, []), (4, 0, 0, 0, []), (22, 15, 0, 0, []), (0, 0, 3, 0, []), (24, 10, 5, 3, []), (40, 99, 1, 0, []), (14, 0, 4, 0, []), (0, 1, 0, 0, []), (14, 0, 4, 0, []), (15, 0, 0, 0, []), (41, 0, 2, 0, [])]
/-- 181: HornBench.digest()J -/
def am_c181 : List AmIns := [(3, 0, 0, 389, []), (1, 1, 1, 0, []), (2, 0, 0, 0, []), (1, 3, 0, 0, []), (0, 3, 0, 0, []), (2, 0, 0, 8, []), (19, 18, 4, 0, []), (0, 1, 1, 0, []), (3, 0, 0, 31, []), (10, 0, 2, 0, []), (0, 0, 3, 0, []), (0, 3, 0, 0, []), (40, 169, 2, 0, []), (14, 0, 0, 0, []), (10, 0, 0, 0, []), (1, 1, 1, 0, []), (17, 3, 0, 1, []), (22, 4, 0, 0, []), (0, 1, 1, 0, []), (3, 0, 0, 31, []), (10, 0, 2, 0, []), (0, 0, 3, 0, []), (40, 174, 1, 0, []), (14, 0, 0, 0, []), (10, 0, 0, 0, []), (1, 1, 1, 0, []), (2, 0, 0, 0, []), (1, 3, 0, 0, []), (0, 3, 0, 0, []), (0, 0, 3, 0, []), (24, 10, 1, 3, []), (40, 26, 1, 0, []), (19, 52, 3, 0, []), (2, 0, 0, 0, []), (1, 4, 0, 0, []), (0, 4, 0, 0, []), (2, 0, 0, 3, []), (19, 50, 4, 0, []), (0, 1, 1, 0, []), (3, 0, 0, 31, []), (10, 0, 2, 0, []), (0, 0, 3, 0, []), (0, 3, 0, 0, []), (0, 4, 0, 0, []), (40, 170, 3, 0, []), (14, 0, 0, 0, []), (10, 0, 0, 0, []), (1, 1, 1, 0, []), (17, 4, 0, 1, []), (22, 35, 0, 0, []), (17, 3, 0, 1, []), (22, 28, 0, 0, []), (2, 0, 0, 0, []), (1, 3, 0, 0, []), (0, 3, 0, 0, []), (0, 0, 3, 0, []), (24, 10, 6, 3, []), (40, 74, 1, 0, []), (19, 71, 3, 0, []), (0, 1, 1, 0, []), (3, 0, 0, 31, []), (10, 0, 2, 0, []), (0, 0, 3, 0, []), (24, 10, 6, 3, []), (0, 3, 0, 0, []), (40, 75, 2, 0, []), (14, 0, 0, 0, []), (10, 0, 0, 0, []), (1, 1, 1, 0, []), (17, 3, 0, 1, []), (22, 54, 0, 0, []), (0, 1, 1, 0, []), (41, 0, 1, 0, [])]
/-- 182: HornBench.at([II)I -/
def am_c182 : List AmIns := [(0, 1, 0, 0, []), (18, 10, 2, 0, []), (0, 1, 0, 0, []), (0, 0, 3, 0, []), (31, 0, 0, 0, []), (19, 10, 3, 0, []), (0, 0, 3, 0, []), (0, 1, 0, 0, []), (32, 0, 0, 0, []), (22, 11, 0, 0, []), (2, 0, 0, (-1), []), (41, 0, 0, 0, [])]
/-- 183: HornBench.put([III)V -/
def am_c183 : List AmIns := [(0, 1, 0, 0, []), (18, 10, 2, 0, []), (0, 1, 0, 0, []), (0, 0, 3, 0, []), (31, 0, 0, 0, []), (19, 10, 3, 0, []), (0, 0, 3, 0, []), (0, 1, 0, 0, []), (0, 2, 0, 0, []), (33, 61, 11, 0, []), (41, 0, 9, 0, [])]
/-- 184: HornBenchModel$Clause.<init>()V -/
def am_c184 : List AmIns := [(0, 0, 3, 0, []), (35, 0, 0, 0, []), (0, 0, 3, 0, []), (2, 0, 0, 61, []), (29, 61, 0, 0, []), (25, 11, 0, 3, []), (0, 0, 3, 0, []), (2, 0, 0, 61, []), (29, 62, 0, 0, []), (25, 11, 1, 3, []), (0, 0, 3, 0, []), (2, 0, 0, 61, []), (29, 61, 0, 0, []), (25, 11, 2, 3, []), (0, 0, 3, 0, []), (2, 0, 0, 61, []), (29, 61, 0, 0, []), (25, 11, 3, 3, []), (0, 0, 3, 0, []), (2, 0, 0, 122, []), (29, 61, 0, 0, []), (25, 11, 4, 3, []), (0, 0, 3, 0, []), (2, 0, 0, 8, []), (29, 62, 0, 0, []), (25, 11, 9, 3, []), (0, 0, 3, 0, []), (2, 0, 0, 8, []), (29, 61, 0, 0, []), (25, 11, 11, 3, []), (0, 0, 3, 0, []), (2, 0, 0, 8, []), (29, 61, 0, 0, []), (25, 11, 12, 3, []), (0, 0, 3, 0, []), (2, 0, 0, 8, []), (29, 61, 0, 0, []), (25, 11, 13, 3, []), (0, 0, 3, 0, []), (2, 0, 0, 8, []), (29, 61, 0, 0, []), (25, 11, 14, 3, []), (0, 0, 3, 0, []), (2, 0, 0, 8, []), (29, 61, 0, 0, []), (25, 11, 15, 3, []), (0, 0, 3, 0, []), (2, 0, 0, (-1), []), (25, 11, 16, 0, []), (41, 0, 9, 0, [])]
/-- 185: HornBenchModel.<init>()V -/
def am_c185 : List AmIns := [(0, 0, 3, 0, []), (35, 0, 0, 0, []), (0, 0, 3, 0, []), (2, 0, 0, 2000, []), (29, 61, 0, 0, []), (25, 12, 1, 3, []), (0, 0, 3, 0, []), (2, 0, 0, (-1), []), (25, 12, 3, 0, []), (0, 0, 3, 0, []), (2, 0, 0, 2001, []), (29, 61, 0, 0, []), (25, 12, 4, 3, []), (0, 0, 3, 0, []), (2, 0, 0, 2001, []), (29, 61, 0, 0, []), (25, 12, 5, 3, []), (0, 0, 3, 0, []), (2, 0, 0, 2001, []), (29, 61, 0, 0, []), (25, 12, 6, 3, []), (0, 0, 3, 0, []), (2, 0, 0, 40, []), (29, 65, 11, 0, []), (25, 12, 10, 3, []), (0, 0, 3, 0, []), (2, 0, 0, 600, []), (29, 61, 0, 0, []), (25, 12, 11, 3, []), (0, 0, 3, 0, []), (2, 0, 0, 8, []), (29, 61, 0, 0, []), (25, 12, 14, 3, []), (0, 0, 3, 0, []), (2, 0, 0, (-1), []), (25, 12, 15, 0, []), (0, 0, 3, 0, []), (2, 0, 0, 61000, []), (29, 61, 0, 0, []), (25, 12, 20, 3, []), (0, 0, 3, 0, []), (2, 0, 0, 61000, []), (29, 62, 0, 0, []), (25, 12, 21, 3, []), (0, 0, 3, 0, []), (2, 0, 0, 61000, []), (29, 61, 0, 0, []), (25, 12, 22, 3, []), (0, 0, 3, 0, []), (2, 0, 0, 61000, []), (29, 61, 0, 0, []), (25, 12, 23, 3, []), (0, 0, 3, 0, []), (2, 0, 0, 61000, []), (29, 61, 0, 0, []), (25, 12, 25, 3, []), (0, 0, 3, 0, []), (2, 0, 0, 61000, []), (29, 61, 0, 0, []), (25, 12, 27, 3, []), (0, 0, 3, 0, []), (2, 0, 0, 61000, []), (29, 61, 0, 0, []), (25, 12, 28, 3, []), (0, 0, 3, 0, []), (2, 0, 0, 61000, []), (29, 61, 0, 0, []), (25, 12, 29, 3, []), (0, 0, 3, 0, []), (2, 0, 0, 61000, []), (29, 61, 0, 0, []), (25, 12, 30, 3, []), (0, 0, 3, 0, []), (2, 0, 0, 8016, []), (29, 61, 0, 0, []), (25, 12, 32, 3, []), (0, 0, 3, 0, []), (2, 0, 0, 10000, []), (29, 61, 0, 0, []), (25, 12, 34, 3, []), (0, 0, 3, 0, []), (2, 0, 0, 10000, []), (29, 61, 0, 0, []), (25, 12, 35, 3, []), (0, 0, 3, 0, []), (2, 0, 0, 10000, []), (29, 61, 0, 0, []), (25, 12, 36, 3, []), (0, 0, 3, 0, []), (2, 0, 0, 10000, []), (29, 61, 0, 0, []), (25, 12, 37, 3, []), (0, 0, 3, 0, []), (2, 0, 0, 10000, []), (29, 61, 0, 0, []), (25, 12, 38, 3, []), (0, 0, 3, 0, []), (2, 0, 0, 10000, []), (29, 61, 0, 0, []), (25, 12, 39, 3, []), (0, 0, 3, 0, []), (2, 0, 0, (-1), []), (25, 12, 40, 0, []), (0, 0, 3, 0, []), (2, 0, 0, 1001, []), (29, 63, 0, 0, []), (25, 12, 42, 3, []), (0, 0, 3, 0, []), (2, 0, 0, 1001, []), (29, 61, 0, 0, []), (25, 12, 43, 3, []), (0, 0, 3, 0, []), (2, 0, 0, 1001, []), (29, 61, 0, 0, []), (25, 12, 44, 3, []), (0, 0, 3, 0, []), (2, 0, 0, 1001, []), (29, 61, 0, 0, []), (25, 12, 45, 3, []), (0, 0, 3, 0, []), (2, 0, 0, 1001, []), (29, 61, 0, 0, []), (25, 12, 46, 3, []), (0, 0, 3, 0, []), (2, 0, 0, 1001, []), (29, 61, 0, 0, []), (25, 12, 47, 3, []), (0, 0, 3, 0, []), (2, 0, 0, 1001, []), (29, 61, 0, 0, []), (25, 12, 48, 3, []), (0, 0, 3, 0, []), (2, 0, 0, 1001, []), (29, 61, 0, 0, []), (25, 12, 49, 3, []), (0, 0, 3, 0, []), (2, 0, 0, 61000, []), (29, 61, 0, 0, []), (25, 12, 54, 3, []), (0, 0, 3, 0, []), (2, 0, 0, 61000, []), (29, 61, 0, 0, []), (25, 12, 55, 3, []), (0, 0, 3, 0, []), (2, 0, 0, 61000, []), (29, 61, 0, 0, []), (25, 12, 56, 3, []), (0, 0, 3, 0, []), (2, 0, 0, 61000, []), (29, 61, 0, 0, []), (25, 12, 57, 3, []), (0, 0, 3, 0, []), (2, 0, 0, 8, []), (29, 61, 0, 0, []), (25, 12, 59, 3, []), (0, 0, 3, 0, []), (2, 0, 0, 600, []), (29, 61, 0, 0, []), (25, 12, 61, 3, []), (41, 0, 9, 0, [])]
/-- 186: HornBenchModel.thrown()I -/
def am_c186 : List AmIns := [(0, 0, 3, 0, []), (24, 12, 0, 0, []), (41, 0, 0, 0, [])]
/-- 187: HornBenchModel.no(I)I -/
def am_c187 : List AmIns := [(0, 0, 3, 0, []), (0, 1, 0, 0, []), (25, 12, 0, 0, []), (2, 0, 0, 0, []), (41, 0, 0, 0, [])]
/-- 188: HornBenchModel.isIn(III)Z -/
def am_c188 : List AmIns := [(0, 0, 0, 0, []), (0, 1, 0, 0, []), (19, 8, 2, 0, []), (0, 0, 0, 0, []), (0, 2, 0, 0, []), (19, 8, 4, 0, []), (2, 0, 0, 1, []), (22, 9, 0, 0, []), (2, 0, 0, 0, []), (41, 0, 10, 0, [])]
/-- 189: HornBenchModel.feed(IIIII)I -/
def am_c189 : List AmIns := [(0, 0, 3, 0, []), (2, 0, 0, 0, []), (25, 12, 0, 0, []), (0, 0, 3, 0, []), (24, 12, 2, 0, []), (2, 0, 0, 20, []), (8, 0, 0, 0, []), (2, 0, 0, 2000, []), (19, 13, 5, 0, []), (0, 0, 3, 0, []), (2, 0, 0, 1, []), (40, 187, 2, 0, []), (41, 0, 0, 0, []), (2, 0, 0, 5, []), (29, 61, 0, 0, []), (26, 0, 0, 0, []), (2, 0, 0, 0, []), (0, 1, 0, 0, []), (33, 61, 11, 0, []), (26, 0, 0, 0, []), (2, 0, 0, 1, []), (0, 2, 0, 0, []), (33, 61, 11, 0, []), (26, 0, 0, 0, []), (2, 0, 0, 2, []), (0, 3, 0, 0, []), (33, 61, 11, 0, []), (26, 0, 0, 0, []), (2, 0, 0, 3, []), (0, 4, 0, 0, []), (33, 61, 11, 0, []), (26, 0, 0, 0, []), (2, 0, 0, 4, []), (0, 5, 0, 0, []), (33, 61, 11, 0, []), (1, 6, 3, 0, []), (0, 6, 3, 0, []), (1, 7, 3, 0, []), (0, 7, 3, 0, []), (31, 0, 0, 0, []), (1, 8, 0, 0, []), (2, 0, 0, 0, []), (1, 9, 0, 0, []), (0, 9, 0, 0, []), (0, 8, 0, 0, []), (19, 76, 3, 0, []), (0, 7, 3, 0, []), (0, 9, 0, 0, []), (32, 0, 0, 0, []), (1, 10, 0, 0, []), (2, 0, 0, 3, []), (1, 11, 0, 0, []), (0, 11, 0, 0, []), (18, 74, 2, 0, []), (0, 0, 3, 0, []), (24, 12, 1, 3, []), (0, 0, 3, 0, []), (24, 12, 2, 0, []), (0, 10, 0, 0, []), (2, 0, 0, 8, []), (0, 11, 0, 0, []), (8, 0, 2, 0, []), (8, 0, 8, 0, []), (2, 0, 0, 255, []), (8, 0, 5, 0, []), (33, 61, 11, 0, []), (0, 0, 3, 0, []), (26, 0, 0, 0, []), (24, 12, 2, 0, []), (2, 0, 0, 1, []), (8, 0, 0, 0, []), (25, 12, 2, 0, []), (17, 11, 0, (-1), []), (22, 52, 0, 0, []), (17, 9, 0, 1, []), (22, 43, 0, 0, []), (0, 0, 3, 0, []), (24, 12, 2, 0, []), (41, 0, 0, 0, [])]
/-- 190: HornBenchModel.trim(I)I -/
def am_c190 : List AmIns := [(0, 0, 3, 0, []), (2, 0, 0, 0, []), (25, 12, 0, 0, []), (0, 1, 0, 0, []), (2, 0, 0, 0, []), (0, 0, 3, 0, []), (24, 12, 2, 0, []), (40, 188, 3, 2, []), (18, 13, 1, 0, []), (0, 0, 3, 0, []), (2, 0, 0, 1, []), (40, 187, 2, 0, []), (41, 0, 0, 0, []), (0, 0, 3, 0, []), (0, 1, 0, 0, []), (25, 12, 2, 0, []), (0, 1, 0, 0, []), (41, 0, 0, 0, [])]
/-- 191: HornBenchModel.byteAtTape(I)I -/
def am_c191 : List AmIns := [(0, 1, 0, 0, []), (0, 0, 3, 0, []), (24, 12, 2, 0, []), (19, 9, 3, 0, []), (0, 0, 3, 0, []), (24, 12, 1, 3, []), (0, 1, 0, 0, []), (32, 0, 0, 0, []), (22, 10, 0, 0, []), (2, 0, 0, (-1), []), (41, 0, 0, 0, [])]
/-- 192: HornBenchModel.isSmall(I)Z -/
def am_c192 : List AmIns := [(0, 0, 0, 0, []), (2, 0, 0, 97, []), (2, 0, 0, 122, []), (40, 188, 3, 2, []), (41, 0, 10, 0, [])]
/-- 193: HornBenchModel.isDigit(I)Z -/
def am_c193 : List AmIns := [(0, 0, 0, 0, []), (2, 0, 0, 48, []), (2, 0, 0, 57, []), (40, 188, 3, 2, []), (41, 0, 10, 0, [])]
/-- 194: HornBenchModel.isBig(I)Z -/
def am_c194 : List AmIns := [(0, 0, 0, 0, []), (2, 0, 0, 65, []), (2, 0, 0, 90, []), (40, 188, 3, 2, []), (18, 8, 1, 0, []), (0, 0, 0, 0, []), (2, 0, 0, 95, []), (19, 10, 1, 0, []), (2, 0, 0, 1, []), (22, 11, 0, 0, []), (2, 0, 0, 0, []), (41, 0, 10, 0, [])]
/-- 195: HornBenchModel.symbolAt(I)I -/
def am_c195 : List AmIns := [(0, 0, 3, 0, []), (0, 1, 0, 0, []), (40, 191, 2, 0, []), (1, 2, 0, 0, []), (0, 0, 3, 0, []), (0, 1, 0, 0, []), (2, 0, 0, 1, []), (8, 0, 0, 0, []), (40, 191, 2, 0, []), (1, 3, 0, 0, []), (0, 2, 0, 0, []), (2, 0, 0, 92, []), (19, 20, 1, 0, []), (0, 3, 0, 0, []), (2, 0, 0, 61, []), (19, 18, 1, 0, []), (2, 0, 0, 2, []), (22, 19, 0, 0, []), (2, 0, 0, 0, []), (41, 0, 0, 0, []), (0, 2, 0, 0, []), (2, 0, 0, 58, []), (19, 30, 1, 0, []), (0, 3, 0, 0, []), (2, 0, 0, 45, []), (19, 28, 1, 0, []), (2, 0, 0, 2, []), (22, 29, 0, 0, []), (2, 0, 0, 0, []), (41, 0, 0, 0, []), (0, 2, 0, 0, []), (2, 0, 0, 61, []), (19, 43, 1, 0, []), (0, 3, 0, 0, []), (2, 0, 0, 60, []), (19, 39, 0, 0, []), (0, 3, 0, 0, []), (2, 0, 0, 61, []), (19, 41, 1, 0, []), (2, 0, 0, 2, []), (22, 42, 0, 0, []), (2, 0, 0, 1, []), (41, 0, 0, 0, []), (0, 2, 0, 0, []), (2, 0, 0, 62, []), (19, 53, 1, 0, []), (0, 3, 0, 0, []), (2, 0, 0, 61, []), (19, 51, 1, 0, []), (2, 0, 0, 2, []), (22, 52, 0, 0, []), (2, 0, 0, 1, []), (41, 0, 0, 0, []), (0, 2, 0, 0, []), (18, 61, 5, 0, []), (6, 15, 0, 0, []), (0, 2, 0, 0, []), (40, 302, 2, 0, []), (18, 61, 2, 0, []), (2, 0, 0, 1, []), (22, 62, 0, 0, []), (2, 0, 0, 0, []), (41, 0, 0, 0, [])]
/-- 196: HornBenchModel.scan()V -/
def am_c196 : List AmIns := [(2, 0, 0, 0, []), (1, 1, 0, 0, []), (2, 0, 0, 0, []), (1, 2, 0, 0, []), (2, 0, 0, 1, []), (1, 3, 0, 0, []), (0, 3, 0, 0, []), (18, 131, 0, 0, []), (0, 0, 3, 0, []), (0, 2, 0, 0, []), (40, 191, 2, 0, []), (2, 0, 0, 32, []), (19, 18, 0, 0, []), (0, 0, 3, 0, []), (0, 2, 0, 0, []), (40, 191, 2, 0, []), (2, 0, 0, 10, []), (19, 20, 1, 0, []), (17, 2, 0, 1, []), (22, 8, 0, 0, []), (0, 2, 0, 0, []), (1, 4, 0, 0, []), (2, 0, 0, 0, []), (1, 5, 0, 0, []), (0, 0, 3, 0, []), (0, 2, 0, 0, []), (40, 191, 2, 0, []), (40, 192, 1, 2, []), (18, 34, 1, 0, []), (0, 0, 3, 0, []), (0, 2, 0, 0, []), (40, 191, 2, 0, []), (40, 194, 1, 2, []), (18, 64, 0, 0, []), (17, 4, 0, 1, []), (0, 0, 3, 0, []), (0, 4, 0, 0, []), (40, 191, 2, 0, []), (40, 192, 1, 2, []), (18, 45, 1, 0, []), (0, 0, 3, 0, []), (0, 4, 0, 0, []), (40, 191, 2, 0, []), (40, 193, 1, 2, []), (18, 47, 0, 0, []), (17, 4, 0, 1, []), (22, 35, 0, 0, []), (0, 4, 0, 0, []), (0, 2, 0, 0, []), (8, 0, 1, 0, []), (2, 0, 0, 8, []), (19, 54, 5, 0, []), (2, 0, 0, 5, []), (22, 62, 0, 0, []), (0, 0, 3, 0, []), (0, 2, 0, 0, []), (40, 191, 2, 0, []), (40, 192, 1, 2, []), (18, 61, 0, 0, []), (2, 0, 0, 1, []), (22, 62, 0, 0, []), (2, 0, 0, 2, []), (1, 5, 0, 0, []), (22, 106, 0, 0, []), (0, 0, 3, 0, []), (0, 2, 0, 0, []), (40, 191, 2, 0, []), (40, 193, 1, 2, []), (18, 86, 0, 0, []), (0, 0, 3, 0, []), (0, 4, 0, 0, []), (40, 191, 2, 0, []), (40, 193, 1, 2, []), (18, 76, 0, 0, []), (17, 4, 0, 1, []), (22, 69, 0, 0, []), (0, 4, 0, 0, []), (0, 2, 0, 0, []), (8, 0, 1, 0, []), (2, 0, 0, 6, []), (19, 83, 4, 0, []), (2, 0, 0, 3, []), (22, 84, 0, 0, []), (2, 0, 0, 5, []), (1, 5, 0, 0, []), (22, 106, 0, 0, []), (0, 2, 0, 0, []), (0, 0, 3, 0, []), (24, 12, 2, 0, []), (19, 106, 3, 0, []), (0, 4, 0, 0, []), (2, 0, 0, 1, []), (0, 0, 3, 0, []), (0, 2, 0, 0, []), (40, 195, 2, 0, []), (40, 298, 2, 2, []), (8, 0, 0, 0, []), (1, 4, 0, 0, []), (0, 0, 3, 0, []), (0, 2, 0, 0, []), (40, 195, 2, 0, []), (18, 104, 5, 0, []), (2, 0, 0, 4, []), (22, 105, 0, 0, []), (2, 0, 0, 5, []), (1, 5, 0, 0, []), (0, 0, 3, 0, []), (24, 12, 4, 3, []), (0, 1, 0, 0, []), (0, 5, 0, 0, []), (33, 61, 11, 0, []), (0, 0, 3, 0, []), (24, 12, 5, 3, []), (0, 1, 0, 0, []), (0, 2, 0, 0, []), (33, 61, 11, 0, []), (0, 0, 3, 0, []), (24, 12, 6, 3, []), (0, 1, 0, 0, []), (0, 4, 0, 0, []), (33, 61, 11, 0, []), (17, 1, 0, 1, []), (0, 4, 0, 0, []), (1, 2, 0, 0, []), (0, 5, 0, 0, []), (18, 128, 0, 0, []), (2, 0, 0, 1, []), (22, 129, 0, 0, []), (2, 0, 0, 0, []), (1, 3, 0, 0, []), (22, 6, 0, 0, []), (41, 0, 9, 0, [])]
/-- 197: HornBenchModel.is(ILjava/lang/String;)Z -/
def am_c197 : List AmIns := [(0, 0, 3, 0, []), (24, 12, 4, 3, []), (0, 1, 0, 0, []), (32, 0, 0, 0, []), (2, 0, 0, 1, []), (19, 12, 0, 0, []), (0, 0, 3, 0, []), (24, 12, 4, 3, []), (0, 1, 0, 0, []), (32, 0, 0, 0, []), (2, 0, 0, 4, []), (19, 26, 1, 0, []), (0, 0, 3, 0, []), (24, 12, 6, 3, []), (0, 1, 0, 0, []), (32, 0, 0, 0, []), (0, 0, 3, 0, []), (24, 12, 5, 3, []), (0, 1, 0, 0, []), (32, 0, 0, 0, []), (8, 0, 1, 0, []), (0, 2, 3, 0, []), (40, 300, 1, 0, []), (19, 26, 1, 0, []), (2, 0, 0, 1, []), (22, 27, 0, 0, []), (2, 0, 0, 0, []), (1, 3, 0, 0, []), (2, 0, 0, 0, []), (1, 4, 0, 0, []), (0, 4, 0, 0, []), (0, 2, 3, 0, []), (40, 300, 1, 0, []), (19, 55, 3, 0, []), (0, 3, 0, 0, []), (18, 55, 0, 0, []), (0, 0, 3, 0, []), (24, 12, 1, 3, []), (0, 0, 3, 0, []), (24, 12, 5, 3, []), (0, 1, 0, 0, []), (32, 0, 0, 0, []), (0, 4, 0, 0, []), (8, 0, 0, 0, []), (32, 0, 0, 0, []), (0, 2, 3, 0, []), (0, 4, 0, 0, []), (40, 301, 2, 0, []), (19, 51, 1, 0, []), (2, 0, 0, 1, []), (22, 52, 0, 0, []), (2, 0, 0, 0, []), (1, 3, 0, 0, []), (17, 4, 0, 1, []), (22, 30, 0, 0, []), (0, 3, 0, 0, []), (41, 0, 10, 0, [])]
/-- 198: HornBenchModel.which(I[Ljava/lang/String;)I -/
def am_c198 : List AmIns := [(2, 0, 0, (-1), []), (1, 3, 0, 0, []), (2, 0, 0, 0, []), (1, 4, 0, 0, []), (0, 4, 0, 0, []), (0, 2, 3, 0, []), (31, 0, 0, 0, []), (19, 19, 3, 0, []), (0, 0, 3, 0, []), (0, 1, 0, 0, []), (0, 2, 3, 0, []), (0, 4, 0, 0, []), (32, 0, 3, 0, []), (40, 197, 3, 0, []), (18, 17, 0, 0, []), (0, 4, 0, 0, []), (1, 3, 0, 0, []), (17, 4, 0, 1, []), (22, 4, 0, 0, []), (0, 3, 0, 0, []), (41, 0, 0, 0, [])]
/-- 199: HornBenchModel.isName(I)Z -/
def am_c199 : List AmIns := [(0, 0, 3, 0, []), (24, 12, 4, 3, []), (0, 1, 0, 0, []), (32, 0, 0, 0, []), (2, 0, 0, 1, []), (19, 14, 1, 0, []), (0, 0, 3, 0, []), (0, 1, 0, 0, []), (6, 1, 1, 0, []), (40, 198, 3, 0, []), (2, 0, 0, (-1), []), (19, 14, 1, 0, []), (2, 0, 0, 1, []), (22, 15, 0, 0, []), (2, 0, 0, 0, []), (41, 0, 10, 0, [])]
/-- 200: HornBenchModel.nameOf(I)J -/
def am_c200 : List AmIns := [(3, 0, 0, 0, []), (1, 2, 1, 0, []), (0, 0, 3, 0, []), (24, 12, 5, 3, []), (0, 1, 0, 0, []), (32, 0, 0, 0, []), (1, 4, 0, 0, []), (0, 4, 0, 0, []), (0, 0, 3, 0, []), (24, 12, 6, 3, []), (0, 1, 0, 0, []), (32, 0, 0, 0, []), (19, 61, 3, 0, []), (3, 0, 0, 64, []), (0, 2, 1, 0, []), (10, 0, 2, 0, []), (0, 0, 3, 0, []), (24, 12, 1, 3, []), (0, 4, 0, 0, []), (32, 0, 0, 0, []), (40, 193, 1, 2, []), (18, 29, 0, 0, []), (0, 0, 3, 0, []), (24, 12, 1, 3, []), (0, 4, 0, 0, []), (32, 0, 0, 0, []), (2, 0, 0, 47, []), (8, 0, 1, 0, []), (22, 56, 0, 0, []), (0, 0, 3, 0, []), (24, 12, 1, 3, []), (0, 4, 0, 0, []), (32, 0, 0, 0, []), (40, 192, 1, 2, []), (18, 42, 0, 0, []), (0, 0, 3, 0, []), (24, 12, 1, 3, []), (0, 4, 0, 0, []), (32, 0, 0, 0, []), (2, 0, 0, 86, []), (8, 0, 1, 0, []), (22, 56, 0, 0, []), (0, 0, 3, 0, []), (24, 12, 1, 3, []), (0, 4, 0, 0, []), (32, 0, 0, 0, []), (2, 0, 0, 95, []), (19, 50, 1, 0, []), (2, 0, 0, 63, []), (22, 56, 0, 0, []), (0, 0, 3, 0, []), (24, 12, 1, 3, []), (0, 4, 0, 0, []), (32, 0, 0, 0, []), (2, 0, 0, 28, []), (8, 0, 1, 0, []), (14, 0, 0, 0, []), (10, 0, 0, 0, []), (1, 2, 1, 0, []), (17, 4, 0, 1, []), (22, 7, 0, 0, []), (0, 2, 1, 0, []), (41, 0, 1, 0, [])]
/-- 201: HornBenchModel.numberOf(I)I -/
def am_c201 : List AmIns := [(2, 0, 0, 0, []), (1, 2, 0, 0, []), (0, 0, 3, 0, []), (24, 12, 5, 3, []), (0, 1, 0, 0, []), (32, 0, 0, 0, []), (1, 3, 0, 0, []), (0, 3, 0, 0, []), (0, 0, 3, 0, []), (24, 12, 6, 3, []), (0, 1, 0, 0, []), (32, 0, 0, 0, []), (19, 26, 3, 0, []), (2, 0, 0, 10, []), (0, 2, 0, 0, []), (8, 0, 2, 0, []), (0, 0, 3, 0, []), (24, 12, 1, 3, []), (0, 3, 0, 0, []), (32, 0, 0, 0, []), (8, 0, 0, 0, []), (2, 0, 0, 48, []), (8, 0, 1, 0, []), (1, 2, 0, 0, []), (17, 3, 0, 1, []), (22, 7, 0, 0, []), (0, 2, 0, 0, []), (41, 0, 0, 0, [])]
/-- 202: HornBenchModel.sees(Ljava/lang/String;)Z -/
def am_c202 : List AmIns := [(0, 0, 3, 0, []), (0, 0, 3, 0, []), (24, 12, 7, 0, []), (0, 1, 3, 0, []), (40, 197, 3, 0, []), (41, 0, 10, 0, [])]
/-- 203: HornBenchModel.goes()Z -/
def am_c203 : List AmIns := [(0, 0, 3, 0, []), (24, 12, 7, 0, []), (0, 0, 3, 0, []), (24, 12, 8, 0, []), (8, 0, 1, 0, []), (2, 0, 0, 60, []), (19, 9, 1, 0, []), (2, 0, 0, 0, []), (41, 0, 10, 0, []), (0, 0, 3, 0, []), (26, 0, 0, 0, []), (24, 12, 7, 0, []), (2, 0, 0, 1, []), (8, 0, 0, 0, []), (25, 12, 7, 0, []), (2, 0, 0, 1, []), (41, 0, 10, 0, [])]
/-- 204: HornBenchModel.takes(Ljava/lang/String;)Z -/
def am_c204 : List AmIns := [(0, 0, 3, 0, []), (0, 1, 3, 0, []), (40, 202, 2, 0, []), (18, 9, 0, 0, []), (0, 0, 3, 0, []), (40, 203, 1, 0, []), (18, 9, 0, 0, []), (2, 0, 0, 1, []), (22, 10, 0, 0, []), (2, 0, 0, 0, []), (41, 0, 10, 0, [])]
/-- 205: HornBenchModel.programForm()Z -/
def am_c205 : List AmIns := [(0, 0, 3, 0, []), (2, 0, 0, 0, []), (25, 12, 7, 0, []), (0, 0, 3, 0, []), (0, 0, 3, 0, []), (24, 12, 7, 0, []), (25, 12, 8, 0, []), (0, 0, 3, 0, []), (40, 206, 1, 0, []), (18, 12, 1, 0, []), (2, 0, 0, 0, []), (41, 0, 10, 0, []), (0, 0, 3, 0, []), (24, 12, 4, 3, []), (0, 0, 3, 0, []), (24, 12, 7, 0, []), (32, 0, 0, 0, []), (18, 3, 1, 0, []), (2, 0, 0, 1, []), (41, 0, 10, 0, [])]
/-- 206: HornBenchModel.clauseForm()Z -/
def am_c206 : List AmIns := [(0, 0, 3, 0, []), (0, 0, 3, 0, []), (24, 12, 7, 0, []), (40, 199, 2, 0, []), (18, 16, 0, 0, []), (0, 0, 3, 0, []), (40, 203, 1, 0, []), (18, 16, 0, 0, []), (0, 0, 3, 0, []), (6, 16, 0, 0, []), (40, 202, 2, 0, []), (18, 18, 0, 0, []), (0, 0, 3, 0, []), (2, 0, 0, 0, []), (40, 209, 2, 0, []), (18, 18, 1, 0, []), (2, 0, 0, 0, []), (41, 0, 10, 0, []), (0, 0, 3, 0, []), (6, 27, 0, 0, []), (40, 202, 2, 0, []), (18, 29, 0, 0, []), (0, 0, 3, 0, []), (40, 203, 1, 0, []), (18, 35, 0, 0, []), (0, 0, 3, 0, []), (2, 0, 0, 0, []), (40, 210, 2, 0, []), (18, 35, 0, 0, []), (0, 0, 3, 0, []), (6, 33, 0, 0, []), (40, 204, 2, 0, []), (18, 35, 0, 0, []), (2, 0, 0, 1, []), (22, 36, 0, 0, []), (2, 0, 0, 0, []), (41, 0, 10, 0, [])]
/-- 207: HornBenchModel.questionForm()Z -/
def am_c207 : List AmIns := [(0, 0, 3, 0, []), (2, 0, 0, 0, []), (25, 12, 7, 0, []), (0, 0, 3, 0, []), (2, 0, 0, 0, []), (25, 12, 8, 0, []), (0, 0, 3, 0, []), (2, 0, 0, 0, []), (40, 210, 2, 0, []), (18, 22, 0, 0, []), (0, 0, 3, 0, []), (6, 33, 0, 0, []), (40, 204, 2, 0, []), (18, 22, 0, 0, []), (0, 0, 3, 0, []), (24, 12, 4, 3, []), (0, 0, 3, 0, []), (24, 12, 7, 0, []), (32, 0, 0, 0, []), (18, 22, 1, 0, []), (2, 0, 0, 1, []), (22, 23, 0, 0, []), (2, 0, 0, 0, []), (41, 0, 10, 0, [])]
/-- 208: HornBenchModel.opens(Ljava/lang/String;I)Z -/
def am_c208 : List AmIns := [(0, 2, 0, 0, []), (2, 0, 0, 8, []), (19, 9, 3, 0, []), (0, 0, 3, 0, []), (0, 1, 3, 0, []), (40, 204, 2, 0, []), (18, 9, 0, 0, []), (2, 0, 0, 1, []), (22, 10, 0, 0, []), (2, 0, 0, 0, []), (41, 0, 10, 0, [])]
/-- 209: HornBenchModel.argumentsForm(I)Z -/
def am_c209 : List AmIns := [(0, 0, 3, 0, []), (6, 16, 0, 0, []), (0, 1, 0, 0, []), (40, 208, 3, 0, []), (18, 11, 0, 0, []), (0, 0, 3, 0, []), (0, 1, 0, 0, []), (2, 0, 0, 1, []), (8, 0, 0, 0, []), (40, 213, 2, 0, []), (18, 13, 1, 0, []), (2, 0, 0, 0, []), (41, 0, 10, 0, []), (0, 0, 3, 0, []), (6, 21, 0, 0, []), (40, 202, 2, 0, []), (18, 28, 0, 0, []), (0, 0, 3, 0, []), (40, 203, 1, 0, []), (18, 26, 0, 0, []), (0, 0, 3, 0, []), (0, 1, 0, 0, []), (2, 0, 0, 1, []), (8, 0, 0, 0, []), (40, 213, 2, 0, []), (18, 13, 1, 0, []), (2, 0, 0, 0, []), (41, 0, 10, 0, []), (0, 0, 3, 0, []), (6, 18, 0, 0, []), (40, 204, 2, 0, []), (41, 0, 10, 0, [])]
/-- 210: HornBenchModel.goalsForm(I)Z -/
def am_c210 : List AmIns := [(0, 0, 3, 0, []), (0, 1, 0, 0, []), (40, 211, 2, 0, []), (18, 6, 1, 0, []), (2, 0, 0, 0, []), (41, 0, 10, 0, []), (0, 0, 3, 0, []), (6, 21, 0, 0, []), (40, 202, 2, 0, []), (18, 19, 0, 0, []), (0, 0, 3, 0, []), (40, 203, 1, 0, []), (18, 17, 0, 0, []), (0, 0, 3, 0, []), (0, 1, 0, 0, []), (40, 211, 2, 0, []), (18, 6, 1, 0, []), (2, 0, 0, 0, []), (41, 0, 10, 0, []), (2, 0, 0, 1, []), (41, 0, 10, 0, [])]
/-- 211: HornBenchModel.goalForm(I)Z -/
def am_c211 : List AmIns := [(0, 0, 3, 0, []), (6, 28, 0, 0, []), (40, 202, 2, 0, []), (18, 12, 1, 0, []), (0, 0, 3, 0, []), (6, 29, 0, 0, []), (40, 202, 2, 0, []), (18, 12, 1, 0, []), (0, 0, 3, 0, []), (6, 30, 0, 0, []), (40, 202, 2, 0, []), (18, 15, 0, 0, []), (0, 0, 3, 0, []), (40, 203, 1, 0, []), (41, 0, 10, 0, []), (0, 0, 3, 0, []), (6, 31, 0, 0, []), (40, 202, 2, 0, []), (18, 41, 0, 0, []), (0, 0, 3, 0, []), (40, 203, 1, 0, []), (18, 39, 0, 0, []), (0, 0, 3, 0, []), (6, 16, 0, 0, []), (0, 1, 0, 0, []), (40, 208, 3, 0, []), (18, 39, 0, 0, []), (0, 0, 3, 0, []), (0, 1, 0, 0, []), (2, 0, 0, 1, []), (8, 0, 0, 0, []), (40, 210, 2, 0, []), (18, 39, 0, 0, []), (0, 0, 3, 0, []), (6, 18, 0, 0, []), (40, 204, 2, 0, []), (18, 39, 0, 0, []), (2, 0, 0, 1, []), (22, 40, 0, 0, []), (2, 0, 0, 0, []), (41, 0, 10, 0, []), (0, 0, 3, 0, []), (6, 32, 0, 0, []), (40, 202, 2, 0, []), (18, 67, 0, 0, []), (0, 0, 3, 0, []), (40, 203, 1, 0, []), (18, 65, 0, 0, []), (0, 0, 3, 0, []), (6, 16, 0, 0, []), (0, 1, 0, 0, []), (40, 208, 3, 0, []), (18, 65, 0, 0, []), (0, 0, 3, 0, []), (0, 1, 0, 0, []), (2, 0, 0, 1, []), (8, 0, 0, 0, []), (40, 213, 2, 0, []), (18, 65, 0, 0, []), (0, 0, 3, 0, []), (6, 18, 0, 0, []), (40, 204, 2, 0, []), (18, 65, 0, 0, []), (2, 0, 0, 1, []), (22, 66, 0, 0, []), (2, 0, 0, 0, []), (41, 0, 10, 0, []), (0, 0, 3, 0, []), (24, 12, 7, 0, []), (1, 2, 0, 0, []), (0, 0, 3, 0, []), (0, 1, 0, 0, []), (40, 213, 2, 0, []), (18, 76, 1, 0, []), (2, 0, 0, 0, []), (41, 0, 10, 0, []), (0, 0, 3, 0, []), (0, 0, 3, 0, []), (24, 12, 7, 0, []), (6, 2, 1, 0, []), (40, 198, 3, 0, []), (2, 0, 0, (-1), []), (19, 94, 0, 0, []), (0, 0, 3, 0, []), (40, 203, 1, 0, []), (18, 92, 0, 0, []), (0, 0, 3, 0, []), (0, 1, 0, 0, []), (40, 213, 2, 0, []), (18, 92, 0, 0, []), (2, 0, 0, 1, []), (22, 93, 0, 0, []), (2, 0, 0, 0, []), (41, 0, 10, 0, []), (0, 0, 3, 0, []), (0, 2, 0, 0, []), (40, 199, 2, 0, []), (18, 106, 0, 0, []), (0, 0, 3, 0, []), (0, 2, 0, 0, []), (40, 212, 2, 0, []), (0, 0, 3, 0, []), (24, 12, 7, 0, []), (19, 106, 1, 0, []), (2, 0, 0, 1, []), (22, 107, 0, 0, []), (2, 0, 0, 0, []), (41, 0, 10, 0, [])]
/-- 212: HornBenchModel.simpleEnd(I)I -/
def am_c212 : List AmIns := [(0, 1, 0, 0, []), (2, 0, 0, 1, []), (8, 0, 0, 0, []), (1, 2, 0, 0, []), (2, 0, 0, 0, []), (1, 3, 0, 0, []), (0, 0, 3, 0, []), (0, 2, 0, 0, []), (6, 16, 0, 0, []), (40, 197, 3, 0, []), (18, 13, 1, 0, []), (0, 2, 0, 0, []), (41, 0, 0, 0, []), (0, 3, 0, 0, []), (0, 0, 3, 0, []), (0, 2, 0, 0, []), (6, 16, 0, 0, []), (40, 197, 3, 0, []), (18, 21, 0, 0, []), (2, 0, 0, 1, []), (22, 29, 0, 0, []), (0, 0, 3, 0, []), (0, 2, 0, 0, []), (6, 18, 0, 0, []), (40, 197, 3, 0, []), (18, 28, 0, 0, []), (2, 0, 0, (-1), []), (22, 29, 0, 0, []), (2, 0, 0, 0, []), (8, 0, 0, 0, []), (1, 3, 0, 0, []), (17, 2, 0, 1, []), (0, 3, 0, 0, []), (18, 13, 4, 0, []), (0, 2, 0, 0, []), (41, 0, 0, 0, [])]
/-- 213: HornBenchModel.termForm(I)Z -/
def am_c213 : List AmIns := [(0, 0, 3, 0, []), (0, 1, 0, 0, []), (40, 214, 2, 0, []), (18, 6, 1, 0, []), (2, 0, 0, 0, []), (41, 0, 10, 0, []), (0, 0, 3, 0, []), (6, 26, 0, 0, []), (40, 202, 2, 0, []), (18, 14, 1, 0, []), (0, 0, 3, 0, []), (6, 17, 0, 0, []), (40, 202, 2, 0, []), (18, 23, 0, 0, []), (0, 0, 3, 0, []), (40, 203, 1, 0, []), (18, 21, 0, 0, []), (0, 0, 3, 0, []), (0, 1, 0, 0, []), (40, 214, 2, 0, []), (18, 6, 1, 0, []), (2, 0, 0, 0, []), (41, 0, 10, 0, []), (2, 0, 0, 1, []), (41, 0, 10, 0, [])]
/-- 214: HornBenchModel.productForm(I)Z -/
def am_c214 : List AmIns := [(0, 0, 3, 0, []), (0, 1, 0, 0, []), (40, 215, 2, 0, []), (18, 6, 1, 0, []), (2, 0, 0, 0, []), (41, 0, 10, 0, []), (0, 0, 3, 0, []), (6, 23, 0, 0, []), (40, 202, 2, 0, []), (18, 18, 1, 0, []), (0, 0, 3, 0, []), (6, 24, 0, 0, []), (40, 202, 2, 0, []), (18, 18, 1, 0, []), (0, 0, 3, 0, []), (6, 25, 0, 0, []), (40, 202, 2, 0, []), (18, 27, 0, 0, []), (0, 0, 3, 0, []), (40, 203, 1, 0, []), (18, 25, 0, 0, []), (0, 0, 3, 0, []), (0, 1, 0, 0, []), (40, 215, 2, 0, []), (18, 6, 1, 0, []), (2, 0, 0, 0, []), (41, 0, 10, 0, []), (2, 0, 0, 1, []), (41, 0, 10, 0, [])]
/-- 215: HornBenchModel.simpleForm(I)Z -/
def am_c215 : List AmIns := [(0, 0, 3, 0, []), (24, 12, 4, 3, []), (0, 0, 3, 0, []), (24, 12, 7, 0, []), (32, 0, 0, 0, []), (2, 0, 0, 2, []), (19, 14, 0, 0, []), (0, 0, 3, 0, []), (24, 12, 4, 3, []), (0, 0, 3, 0, []), (24, 12, 7, 0, []), (32, 0, 0, 0, []), (2, 0, 0, 3, []), (19, 17, 1, 0, []), (0, 0, 3, 0, []), (40, 203, 1, 0, []), (41, 0, 10, 0, []), (0, 0, 3, 0, []), (6, 17, 0, 0, []), (40, 202, 2, 0, []), (18, 38, 0, 0, []), (0, 0, 3, 0, []), (40, 203, 1, 0, []), (18, 36, 0, 0, []), (0, 0, 3, 0, []), (24, 12, 4, 3, []), (0, 0, 3, 0, []), (24, 12, 7, 0, []), (32, 0, 0, 0, []), (2, 0, 0, 3, []), (19, 36, 1, 0, []), (0, 0, 3, 0, []), (40, 203, 1, 0, []), (18, 36, 0, 0, []), (2, 0, 0, 1, []), (22, 37, 0, 0, []), (2, 0, 0, 0, []), (41, 0, 10, 0, []), (0, 0, 3, 0, []), (0, 0, 3, 0, []), (24, 12, 7, 0, []), (40, 199, 2, 0, []), (18, 58, 0, 0, []), (0, 0, 3, 0, []), (40, 203, 1, 0, []), (18, 56, 0, 0, []), (0, 0, 3, 0, []), (6, 16, 0, 0, []), (40, 202, 2, 0, []), (18, 54, 0, 0, []), (0, 0, 3, 0, []), (0, 1, 0, 0, []), (40, 209, 2, 0, []), (18, 56, 0, 0, []), (2, 0, 0, 1, []), (22, 57, 0, 0, []), (2, 0, 0, 0, []), (41, 0, 10, 0, []), (0, 0, 3, 0, []), (6, 16, 0, 0, []), (40, 202, 2, 0, []), (18, 81, 0, 0, []), (0, 0, 3, 0, []), (6, 16, 0, 0, []), (0, 1, 0, 0, []), (40, 208, 3, 0, []), (18, 79, 0, 0, []), (0, 0, 3, 0, []), (0, 1, 0, 0, []), (2, 0, 0, 1, []), (8, 0, 0, 0, []), (40, 213, 2, 0, []), (18, 79, 0, 0, []), (0, 0, 3, 0, []), (6, 18, 0, 0, []), (40, 204, 2, 0, []), (18, 79, 0, 0, []), (2, 0, 0, 1, []), (22, 80, 0, 0, []), (2, 0, 0, 0, []), (41, 0, 10, 0, []), (0, 0, 3, 0, []), (6, 19, 0, 0, []), (40, 202, 2, 0, []), (18, 91, 0, 0, []), (0, 0, 3, 0, []), (0, 1, 0, 0, []), (40, 216, 2, 0, []), (18, 91, 0, 0, []), (2, 0, 0, 1, []), (22, 92, 0, 0, []), (2, 0, 0, 0, []), (41, 0, 10, 0, [])]
/-- 216: HornBenchModel.listForm(I)Z -/
def am_c216 : List AmIns := [(0, 0, 3, 0, []), (6, 19, 0, 0, []), (0, 1, 0, 0, []), (40, 208, 3, 0, []), (18, 7, 1, 0, []), (2, 0, 0, 0, []), (41, 0, 10, 0, []), (0, 0, 3, 0, []), (6, 20, 0, 0, []), (40, 202, 2, 0, []), (18, 14, 0, 0, []), (0, 0, 3, 0, []), (40, 203, 1, 0, []), (41, 0, 10, 0, []), (0, 0, 3, 0, []), (0, 1, 0, 0, []), (2, 0, 0, 1, []), (8, 0, 0, 0, []), (40, 213, 2, 0, []), (18, 22, 1, 0, []), (2, 0, 0, 0, []), (41, 0, 10, 0, []), (0, 0, 3, 0, []), (6, 21, 0, 0, []), (40, 202, 2, 0, []), (18, 37, 0, 0, []), (0, 0, 3, 0, []), (40, 203, 1, 0, []), (18, 35, 0, 0, []), (0, 0, 3, 0, []), (0, 1, 0, 0, []), (2, 0, 0, 1, []), (8, 0, 0, 0, []), (40, 213, 2, 0, []), (18, 22, 1, 0, []), (2, 0, 0, 0, []), (41, 0, 10, 0, []), (0, 0, 3, 0, []), (6, 22, 0, 0, []), (40, 202, 2, 0, []), (18, 50, 0, 0, []), (0, 0, 3, 0, []), (40, 203, 1, 0, []), (18, 56, 0, 0, []), (0, 0, 3, 0, []), (0, 1, 0, 0, []), (2, 0, 0, 1, []), (8, 0, 0, 0, []), (40, 213, 2, 0, []), (18, 56, 0, 0, []), (0, 0, 3, 0, []), (6, 20, 0, 0, []), (40, 204, 2, 0, []), (18, 56, 0, 0, []), (2, 0, 0, 1, []), (22, 57, 0, 0, []), (2, 0, 0, 0, []), (41, 0, 10, 0, [])]
/-- 217: HornBenchModel.over(I)V -/
def am_c217 : List AmIns := [(0, 0, 3, 0, []), (0, 0, 3, 0, []), (24, 12, 52, 0, []), (0, 0, 3, 0, []), (24, 12, 5, 3, []), (0, 1, 0, 0, []), (32, 0, 0, 0, []), (40, 299, 2, 2, []), (25, 12, 52, 0, []), (41, 0, 9, 0, [])]
/-- 218: HornBenchModel.part(IJI)I -/
def am_c218 : List AmIns := [(0, 0, 3, 0, []), (24, 12, 51, 3, []), (24, 11, 5, 0, []), (1, 5, 0, 0, []), (0, 0, 3, 0, []), (24, 12, 51, 3, []), (24, 11, 0, 3, []), (0, 5, 0, 0, []), (0, 1, 0, 0, []), (33, 61, 11, 0, []), (0, 0, 3, 0, []), (24, 12, 51, 3, []), (24, 11, 1, 3, []), (0, 5, 0, 0, []), (0, 2, 1, 0, []), (33, 62, 11, 0, []), (0, 0, 3, 0, []), (24, 12, 51, 3, []), (24, 11, 3, 3, []), (0, 5, 0, 0, []), (0, 4, 0, 0, []), (33, 61, 11, 0, []), (0, 0, 3, 0, []), (24, 12, 51, 3, []), (24, 11, 2, 3, []), (0, 5, 0, 0, []), (0, 0, 3, 0, []), (24, 12, 51, 3, []), (24, 11, 6, 0, []), (33, 61, 11, 0, []), (0, 0, 3, 0, []), (24, 12, 51, 3, []), (26, 0, 0, 0, []), (24, 11, 6, 0, []), (0, 4, 0, 0, []), (8, 0, 0, 0, []), (25, 11, 6, 0, []), (0, 0, 3, 0, []), (24, 12, 51, 3, []), (26, 0, 0, 0, []), (24, 11, 5, 0, []), (2, 0, 0, 1, []), (8, 0, 0, 0, []), (25, 11, 5, 0, []), (0, 5, 0, 0, []), (41, 0, 0, 0, [])]
/-- 219: HornBenchModel.pair(JII)I -/
def am_c219 : List AmIns := [(0, 0, 3, 0, []), (2, 0, 0, 2, []), (0, 1, 1, 0, []), (2, 0, 0, 2, []), (40, 218, 4, 0, []), (1, 5, 0, 0, []), (0, 0, 3, 0, []), (24, 12, 51, 3, []), (24, 11, 4, 3, []), (0, 0, 3, 0, []), (24, 12, 51, 3, []), (24, 11, 2, 3, []), (0, 5, 0, 0, []), (32, 0, 0, 0, []), (0, 3, 0, 0, []), (33, 61, 11, 0, []), (0, 0, 3, 0, []), (24, 12, 51, 3, []), (24, 11, 4, 3, []), (0, 0, 3, 0, []), (24, 12, 51, 3, []), (24, 11, 2, 3, []), (0, 5, 0, 0, []), (32, 0, 0, 0, []), (2, 0, 0, 1, []), (8, 0, 0, 0, []), (0, 4, 0, 0, []), (33, 61, 11, 0, []), (0, 5, 0, 0, []), (41, 0, 0, 0, [])]
/-- 220: HornBenchModel.variable(I)I -/
def am_c220 : List AmIns := [(0, 0, 3, 0, []), (0, 1, 0, 0, []), (40, 200, 2, 0, []), (1, 2, 1, 0, []), (0, 0, 3, 0, []), (24, 12, 6, 3, []), (0, 1, 0, 0, []), (32, 0, 0, 0, []), (0, 0, 3, 0, []), (24, 12, 5, 3, []), (0, 1, 0, 0, []), (32, 0, 0, 0, []), (8, 0, 1, 0, []), (2, 0, 0, 1, []), (19, 26, 1, 0, []), (0, 0, 3, 0, []), (24, 12, 1, 3, []), (0, 0, 3, 0, []), (24, 12, 5, 3, []), (0, 1, 0, 0, []), (32, 0, 0, 0, []), (32, 0, 0, 0, []), (2, 0, 0, 95, []), (19, 26, 1, 0, []), (2, 0, 0, 1, []), (22, 27, 0, 0, []), (2, 0, 0, 0, []), (1, 4, 0, 0, []), (2, 0, 0, (-1), []), (1, 5, 0, 0, []), (2, 0, 0, 0, []), (1, 6, 0, 0, []), (0, 6, 0, 0, []), (0, 0, 3, 0, []), (24, 12, 51, 3, []), (24, 11, 8, 0, []), (19, 51, 3, 0, []), (0, 4, 0, 0, []), (18, 51, 1, 0, []), (0, 0, 3, 0, []), (24, 12, 51, 3, []), (24, 11, 9, 3, []), (0, 6, 0, 0, []), (32, 0, 1, 0, []), (0, 2, 1, 0, []), (13, 0, 0, 0, []), (18, 49, 1, 0, []), (0, 6, 0, 0, []), (1, 5, 0, 0, []), (17, 6, 0, 1, []), (22, 32, 0, 0, []), (0, 5, 0, 0, []), (2, 0, 0, (-1), []), (19, 64, 1, 0, []), (0, 0, 3, 0, []), (24, 12, 51, 3, []), (24, 11, 8, 0, []), (2, 0, 0, 8, []), (19, 64, 1, 0, []), (0, 0, 3, 0, []), (0, 1, 0, 0, []), (40, 217, 2, 0, []), (2, 0, 0, 0, []), (1, 5, 0, 0, []), (0, 5, 0, 0, []), (2, 0, 0, (-1), []), (19, 88, 1, 0, []), (0, 0, 3, 0, []), (24, 12, 51, 3, []), (24, 11, 8, 0, []), (1, 5, 0, 0, []), (0, 0, 3, 0, []), (24, 12, 51, 3, []), (24, 11, 9, 3, []), (0, 5, 0, 0, []), (0, 4, 0, 0, []), (18, 79, 0, 0, []), (3, 0, 0, (-1), []), (22, 80, 0, 0, []), (0, 2, 1, 0, []), (33, 62, 11, 0, []), (0, 0, 3, 0, []), (24, 12, 51, 3, []), (26, 0, 0, 0, []), (24, 11, 8, 0, []), (2, 0, 0, 1, []), (8, 0, 0, 0, []), (25, 11, 8, 0, []), (0, 0, 3, 0, []), (2, 0, 0, 0, []), (0, 5, 0, 0, []), (14, 0, 0, 0, []), (2, 0, 0, 0, []), (40, 218, 4, 0, []), (41, 0, 0, 0, [])]
/-- 221: HornBenchModel.term()I -/
def am_c221 : List AmIns := [(0, 0, 3, 0, []), (40, 222, 1, 0, []), (1, 1, 0, 0, []), (0, 0, 3, 0, []), (6, 26, 0, 0, []), (40, 202, 2, 0, []), (18, 11, 1, 0, []), (0, 0, 3, 0, []), (6, 17, 0, 0, []), (40, 202, 2, 0, []), (18, 33, 0, 0, []), (0, 0, 3, 0, []), (6, 26, 0, 0, []), (40, 202, 2, 0, []), (18, 17, 0, 0, []), (3, 0, 0, (-1), []), (22, 18, 0, 0, []), (3, 0, 0, (-2), []), (1, 2, 1, 0, []), (0, 0, 3, 0, []), (26, 0, 0, 0, []), (24, 12, 7, 0, []), (2, 0, 0, 1, []), (8, 0, 0, 0, []), (25, 12, 7, 0, []), (0, 0, 3, 0, []), (0, 2, 1, 0, []), (0, 1, 0, 0, []), (0, 0, 3, 0, []), (40, 222, 1, 0, []), (40, 219, 4, 0, []), (1, 1, 0, 0, []), (22, 3, 0, 0, []), (0, 1, 0, 0, []), (41, 0, 0, 0, [])]
/-- 222: HornBenchModel.product()I -/
def am_c222 : List AmIns := [(0, 0, 3, 0, []), (40, 223, 1, 0, []), (1, 1, 0, 0, []), (0, 0, 3, 0, []), (6, 23, 0, 0, []), (40, 202, 2, 0, []), (18, 15, 1, 0, []), (0, 0, 3, 0, []), (6, 24, 0, 0, []), (40, 202, 2, 0, []), (18, 15, 1, 0, []), (0, 0, 3, 0, []), (6, 25, 0, 0, []), (40, 202, 2, 0, []), (18, 43, 0, 0, []), (0, 0, 3, 0, []), (6, 23, 0, 0, []), (40, 202, 2, 0, []), (18, 21, 0, 0, []), (3, 0, 0, (-3), []), (22, 28, 0, 0, []), (0, 0, 3, 0, []), (6, 24, 0, 0, []), (40, 202, 2, 0, []), (18, 27, 0, 0, []), (3, 0, 0, (-4), []), (22, 28, 0, 0, []), (3, 0, 0, (-5), []), (1, 2, 1, 0, []), (0, 0, 3, 0, []), (26, 0, 0, 0, []), (24, 12, 7, 0, []), (2, 0, 0, 1, []), (8, 0, 0, 0, []), (25, 12, 7, 0, []), (0, 0, 3, 0, []), (0, 2, 1, 0, []), (0, 1, 0, 0, []), (0, 0, 3, 0, []), (40, 223, 1, 0, []), (40, 219, 4, 0, []), (1, 1, 0, 0, []), (22, 3, 0, 0, []), (0, 1, 0, 0, []), (41, 0, 0, 0, [])]
/-- 223: HornBenchModel.simple()I -/
def am_c223 : List AmIns := [(0, 0, 3, 0, []), (24, 12, 7, 0, []), (1, 1, 0, 0, []), (0, 0, 3, 0, []), (26, 0, 0, 0, []), (24, 12, 7, 0, []), (2, 0, 0, 1, []), (8, 0, 0, 0, []), (25, 12, 7, 0, []), (0, 0, 3, 0, []), (24, 12, 4, 3, []), (0, 1, 0, 0, []), (32, 0, 0, 0, []), (2, 0, 0, 2, []), (19, 19, 1, 0, []), (0, 0, 3, 0, []), (0, 1, 0, 0, []), (40, 220, 2, 0, []), (41, 0, 0, 0, []), (0, 0, 3, 0, []), (24, 12, 4, 3, []), (0, 1, 0, 0, []), (32, 0, 0, 0, []), (2, 0, 0, 3, []), (19, 34, 1, 0, []), (0, 0, 3, 0, []), (2, 0, 0, 1, []), (0, 0, 3, 0, []), (0, 1, 0, 0, []), (40, 201, 2, 0, []), (14, 0, 0, 0, []), (2, 0, 0, 0, []), (40, 218, 4, 0, []), (41, 0, 0, 0, []), (0, 0, 3, 0, []), (0, 1, 0, 0, []), (40, 199, 2, 0, []), (18, 42, 0, 0, []), (0, 0, 3, 0, []), (0, 1, 0, 0, []), (40, 224, 2, 0, []), (41, 0, 0, 0, []), (0, 0, 3, 0, []), (0, 1, 0, 0, []), (6, 17, 0, 0, []), (40, 197, 3, 0, []), (18, 66, 0, 0, []), (0, 0, 3, 0, []), (26, 0, 0, 0, []), (24, 12, 7, 0, []), (2, 0, 0, 1, []), (8, 0, 0, 0, []), (25, 12, 7, 0, []), (0, 0, 3, 0, []), (2, 0, 0, 1, []), (0, 0, 3, 0, []), (0, 0, 3, 0, []), (24, 12, 7, 0, []), (2, 0, 0, 1, []), (8, 0, 1, 0, []), (40, 201, 2, 0, []), (14, 0, 5, 0, []), (14, 0, 0, 0, []), (2, 0, 0, 0, []), (40, 218, 4, 0, []), (41, 0, 0, 0, []), (0, 0, 3, 0, []), (0, 1, 0, 0, []), (6, 19, 0, 0, []), (40, 197, 3, 0, []), (18, 74, 0, 0, []), (0, 0, 3, 0, []), (40, 225, 1, 0, []), (41, 0, 0, 0, []), (0, 0, 3, 0, []), (40, 221, 1, 0, []), (1, 2, 0, 0, []), (0, 0, 3, 0, []), (26, 0, 0, 0, []), (24, 12, 7, 0, []), (2, 0, 0, 1, []), (8, 0, 0, 0, []), (25, 12, 7, 0, []), (0, 2, 0, 0, []), (41, 0, 0, 0, [])]
/-- 224: HornBenchModel.named(I)I -/
def am_c224 : List AmIns := [(2, 0, 0, 4, []), (29, 61, 0, 0, []), (1, 2, 3, 0, []), (2, 0, 0, 0, []), (1, 3, 0, 0, []), (0, 0, 3, 0, []), (6, 16, 0, 0, []), (40, 202, 2, 0, []), (18, 43, 0, 0, []), (0, 0, 3, 0, []), (26, 0, 0, 0, []), (24, 12, 7, 0, []), (2, 0, 0, 1, []), (8, 0, 0, 0, []), (25, 12, 7, 0, []), (0, 3, 0, 0, []), (2, 0, 0, 4, []), (19, 22, 1, 0, []), (0, 0, 3, 0, []), (0, 0, 3, 0, []), (24, 12, 7, 0, []), (40, 217, 2, 0, []), (0, 0, 3, 0, []), (40, 221, 1, 0, []), (1, 4, 0, 0, []), (0, 3, 0, 0, []), (2, 0, 0, 4, []), (19, 33, 3, 0, []), (0, 2, 3, 0, []), (0, 3, 0, 0, []), (0, 4, 0, 0, []), (33, 61, 11, 0, []), (17, 3, 0, 1, []), (0, 0, 3, 0, []), (6, 21, 0, 0, []), (40, 202, 2, 0, []), (18, 9, 1, 0, []), (0, 0, 3, 0, []), (26, 0, 0, 0, []), (24, 12, 7, 0, []), (2, 0, 0, 1, []), (8, 0, 0, 0, []), (25, 12, 7, 0, []), (0, 0, 3, 0, []), (2, 0, 0, 2, []), (0, 0, 3, 0, []), (0, 1, 0, 0, []), (40, 200, 2, 0, []), (0, 3, 0, 0, []), (40, 218, 4, 0, []), (1, 4, 0, 0, []), (2, 0, 0, 0, []), (1, 5, 0, 0, []), (0, 5, 0, 0, []), (0, 3, 0, 0, []), (19, 72, 3, 0, []), (0, 0, 3, 0, []), (24, 12, 51, 3, []), (24, 11, 4, 3, []), (0, 0, 3, 0, []), (24, 12, 51, 3, []), (24, 11, 2, 3, []), (0, 4, 0, 0, []), (32, 0, 0, 0, []), (0, 5, 0, 0, []), (8, 0, 0, 0, []), (0, 2, 3, 0, []), (0, 5, 0, 0, []), (32, 0, 0, 0, []), (33, 61, 11, 0, []), (17, 5, 0, 1, []), (22, 53, 0, 0, []), (0, 4, 0, 0, []), (41, 0, 0, 0, [])]
/-- 225: HornBenchModel.list()I -/
def am_c225 : List AmIns := [(2, 0, 0, 60, []), (29, 61, 0, 0, []), (1, 1, 3, 0, []), (2, 0, 0, 0, []), (1, 2, 0, 0, []), (0, 0, 3, 0, []), (6, 20, 0, 0, []), (40, 202, 2, 0, []), (18, 21, 0, 0, []), (0, 0, 3, 0, []), (26, 0, 0, 0, []), (24, 12, 7, 0, []), (2, 0, 0, 1, []), (8, 0, 0, 0, []), (25, 12, 7, 0, []), (0, 0, 3, 0, []), (2, 0, 0, 2, []), (3, 0, 0, (-7), []), (2, 0, 0, 0, []), (40, 218, 4, 0, []), (41, 0, 0, 0, []), (0, 0, 3, 0, []), (26, 0, 0, 0, []), (24, 12, 7, 0, []), (2, 0, 0, 1, []), (8, 0, 1, 0, []), (25, 12, 7, 0, []), (0, 0, 3, 0, []), (26, 0, 0, 0, []), (24, 12, 7, 0, []), (2, 0, 0, 1, []), (8, 0, 0, 0, []), (25, 12, 7, 0, []), (0, 1, 3, 0, []), (0, 2, 0, 0, []), (0, 0, 3, 0, []), (40, 221, 1, 0, []), (33, 61, 11, 0, []), (17, 2, 0, 1, []), (0, 0, 3, 0, []), (6, 21, 0, 0, []), (40, 202, 2, 0, []), (18, 27, 1, 0, []), (2, 0, 0, (-1), []), (1, 3, 0, 0, []), (0, 0, 3, 0, []), (6, 22, 0, 0, []), (40, 202, 2, 0, []), (18, 58, 0, 0, []), (0, 0, 3, 0, []), (26, 0, 0, 0, []), (24, 12, 7, 0, []), (2, 0, 0, 1, []), (8, 0, 0, 0, []), (25, 12, 7, 0, []), (0, 0, 3, 0, []), (40, 221, 1, 0, []), (1, 3, 0, 0, []), (0, 0, 3, 0, []), (26, 0, 0, 0, []), (24, 12, 7, 0, []), (2, 0, 0, 1, []), (8, 0, 0, 0, []), (25, 12, 7, 0, []), (0, 3, 0, 0, []), (2, 0, 0, (-1), []), (19, 73, 1, 0, []), (0, 0, 3, 0, []), (2, 0, 0, 2, []), (3, 0, 0, (-7), []), (2, 0, 0, 0, []), (40, 218, 4, 0, []), (22, 74, 0, 0, []), (0, 3, 0, 0, []), (1, 4, 0, 0, []), (0, 2, 0, 0, []), (2, 0, 0, 1, []), (8, 0, 1, 0, []), (1, 5, 0, 0, []), (0, 5, 0, 0, []), (18, 91, 2, 0, []), (0, 0, 3, 0, []), (3, 0, 0, (-6), []), (0, 1, 3, 0, []), (0, 5, 0, 0, []), (32, 0, 0, 0, []), (0, 4, 0, 0, []), (40, 219, 4, 0, []), (1, 4, 0, 0, []), (17, 5, 0, (-1), []), (22, 79, 0, 0, []), (0, 4, 0, 0, []), (41, 0, 0, 0, [])]
/-- 226: HornBenchModel.goals()I -/
def am_c226 : List AmIns := [(2, 0, 0, (-1), []), (1, 1, 0, 0, []), (2, 0, 0, (-1), []), (1, 2, 0, 0, []), (0, 0, 3, 0, []), (26, 0, 0, 0, []), (24, 12, 7, 0, []), (2, 0, 0, 1, []), (8, 0, 1, 0, []), (25, 12, 7, 0, []), (0, 0, 3, 0, []), (26, 0, 0, 0, []), (24, 12, 7, 0, []), (2, 0, 0, 1, []), (8, 0, 0, 0, []), (25, 12, 7, 0, []), (0, 0, 3, 0, []), (40, 227, 1, 0, []), (1, 3, 0, 0, []), (0, 2, 0, 0, []), (2, 0, 0, (-1), []), (19, 31, 0, 0, []), (0, 2, 0, 0, []), (0, 3, 0, 0, []), (19, 31, 0, 0, []), (0, 0, 3, 0, []), (24, 12, 51, 3, []), (24, 11, 14, 3, []), (0, 2, 0, 0, []), (0, 3, 0, 0, []), (33, 61, 11, 0, []), (0, 1, 0, 0, []), (2, 0, 0, (-1), []), (19, 36, 1, 0, []), (0, 3, 0, 0, []), (22, 37, 0, 0, []), (0, 1, 0, 0, []), (1, 1, 0, 0, []), (0, 3, 0, 0, []), (1, 2, 0, 0, []), (0, 0, 3, 0, []), (6, 21, 0, 0, []), (40, 202, 2, 0, []), (18, 10, 1, 0, []), (0, 1, 0, 0, []), (41, 0, 0, 0, [])]
/-- 227: HornBenchModel.goal()I -/
def am_c227 : List AmIns := [(0, 0, 3, 0, []), (24, 12, 51, 3, []), (24, 11, 10, 0, []), (2, 0, 0, 8, []), (19, 9, 1, 0, []), (0, 0, 3, 0, []), (0, 0, 3, 0, []), (24, 12, 7, 0, []), (40, 217, 2, 0, []), (0, 0, 3, 0, []), (24, 12, 51, 3, []), (24, 11, 10, 0, []), (2, 0, 0, 7, []), (40, 299, 2, 2, []), (1, 1, 0, 0, []), (0, 0, 3, 0, []), (24, 12, 51, 3, []), (0, 1, 0, 0, []), (2, 0, 0, 1, []), (8, 0, 0, 0, []), (25, 11, 10, 0, []), (0, 0, 3, 0, []), (24, 12, 51, 3, []), (24, 11, 14, 3, []), (0, 1, 0, 0, []), (2, 0, 0, (-1), []), (33, 61, 11, 0, []), (0, 0, 3, 0, []), (24, 12, 51, 3, []), (24, 11, 15, 3, []), (0, 1, 0, 0, []), (2, 0, 0, (-1), []), (33, 61, 11, 0, []), (0, 0, 3, 0, []), (24, 12, 7, 0, []), (1, 2, 0, 0, []), (0, 0, 3, 0, []), (0, 2, 0, 0, []), (6, 28, 0, 0, []), (40, 197, 3, 0, []), (18, 51, 1, 0, []), (0, 0, 3, 0, []), (0, 2, 0, 0, []), (6, 29, 0, 0, []), (40, 197, 3, 0, []), (18, 51, 1, 0, []), (0, 0, 3, 0, []), (0, 2, 0, 0, []), (6, 30, 0, 0, []), (40, 197, 3, 0, []), (18, 78, 0, 0, []), (0, 0, 3, 0, []), (26, 0, 0, 0, []), (24, 12, 7, 0, []), (2, 0, 0, 1, []), (8, 0, 0, 0, []), (25, 12, 7, 0, []), (0, 0, 3, 0, []), (24, 12, 51, 3, []), (24, 11, 11, 3, []), (0, 1, 0, 0, []), (0, 0, 3, 0, []), (0, 2, 0, 0, []), (6, 28, 0, 0, []), (40, 197, 3, 0, []), (18, 68, 0, 0, []), (2, 0, 0, 1, []), (22, 76, 0, 0, []), (0, 0, 3, 0, []), (0, 2, 0, 0, []), (6, 29, 0, 0, []), (40, 197, 3, 0, []), (18, 75, 0, 0, []), (2, 0, 0, 2, []), (22, 76, 0, 0, []), (2, 0, 0, 3, []), (33, 61, 11, 0, []), (22, 188, 0, 0, []), (0, 0, 3, 0, []), (0, 2, 0, 0, []), (6, 31, 0, 0, []), (40, 197, 3, 0, []), (18, 111, 0, 0, []), (0, 0, 3, 0, []), (26, 0, 0, 0, []), (24, 12, 7, 0, []), (2, 0, 0, 2, []), (8, 0, 0, 0, []), (25, 12, 7, 0, []), (0, 0, 3, 0, []), (40, 226, 1, 0, []), (1, 3, 0, 0, []), (0, 0, 3, 0, []), (26, 0, 0, 0, []), (24, 12, 7, 0, []), (2, 0, 0, 1, []), (8, 0, 0, 0, []), (25, 12, 7, 0, []), (0, 0, 3, 0, []), (24, 12, 51, 3, []), (24, 11, 11, 3, []), (0, 1, 0, 0, []), (2, 0, 0, 4, []), (33, 61, 11, 0, []), (0, 0, 3, 0, []), (24, 12, 51, 3, []), (24, 11, 15, 3, []), (0, 1, 0, 0, []), (0, 3, 0, 0, []), (33, 61, 11, 0, []), (22, 188, 0, 0, []), (0, 0, 3, 0, []), (0, 2, 0, 0, []), (6, 32, 0, 0, []), (40, 197, 3, 0, []), (18, 144, 0, 0, []), (0, 0, 3, 0, []), (26, 0, 0, 0, []), (24, 12, 7, 0, []), (2, 0, 0, 2, []), (8, 0, 0, 0, []), (25, 12, 7, 0, []), (0, 0, 3, 0, []), (40, 221, 1, 0, []), (1, 3, 0, 0, []), (0, 0, 3, 0, []), (26, 0, 0, 0, []), (24, 12, 7, 0, []), (2, 0, 0, 1, []), (8, 0, 0, 0, []), (25, 12, 7, 0, []), (0, 0, 3, 0, []), (24, 12, 51, 3, []), (24, 11, 11, 3, []), (0, 1, 0, 0, []), (2, 0, 0, 5, []), (33, 61, 11, 0, []), (0, 0, 3, 0, []), (24, 12, 51, 3, []), (24, 11, 12, 3, []), (0, 1, 0, 0, []), (0, 3, 0, 0, []), (33, 61, 11, 0, []), (22, 188, 0, 0, []), (0, 0, 3, 0, []), (40, 221, 1, 0, []), (1, 3, 0, 0, []), (0, 0, 3, 0, []), (0, 0, 3, 0, []), (24, 12, 7, 0, []), (6, 2, 1, 0, []), (40, 198, 3, 0, []), (1, 4, 0, 0, []), (0, 0, 3, 0, []), (24, 12, 51, 3, []), (24, 11, 11, 3, []), (0, 1, 0, 0, []), (0, 4, 0, 0, []), (2, 0, 0, (-1), []), (19, 162, 1, 0, []), (2, 0, 0, 0, []), (22, 165, 0, 0, []), (2, 0, 0, 7, []), (0, 4, 0, 0, []), (8, 0, 0, 0, []), (33, 61, 11, 0, []), (0, 4, 0, 0, []), (2, 0, 0, (-1), []), (19, 182, 0, 0, []), (0, 0, 3, 0, []), (26, 0, 0, 0, []), (24, 12, 7, 0, []), (2, 0, 0, 1, []), (8, 0, 0, 0, []), (25, 12, 7, 0, []), (0, 0, 3, 0, []), (24, 12, 51, 3, []), (24, 11, 13, 3, []), (0, 1, 0, 0, []), (0, 0, 3, 0, []), (40, 221, 1, 0, []), (33, 61, 11, 0, []), (0, 0, 3, 0, []), (24, 12, 51, 3, []), (24, 11, 12, 3, []), (0, 1, 0, 0, []), (0, 3, 0, 0, []), (33, 61, 11, 0, []), (0, 1, 0, 0, []), (41, 0, 0, 0, [])]
/-- 228: HornBenchModel.forgetQuestion()V -/
def am_c228 : List AmIns := [(0, 0, 3, 0, []), (5, 0, 0, 0, []), (25, 12, 13, 3, []), (0, 0, 3, 0, []), (2, 0, 0, (-1), []), (25, 12, 15, 0, []), (0, 0, 3, 0, []), (2, 0, 0, 0, []), (25, 12, 16, 0, []), (0, 0, 3, 0, []), (2, 0, 0, 0, []), (25, 12, 17, 0, []), (0, 0, 3, 0, []), (2, 0, 0, 0, []), (25, 12, 18, 0, []), (0, 0, 3, 0, []), (2, 0, 0, (-1), []), (25, 12, 40, 0, []), (0, 0, 3, 0, []), (2, 0, 0, 0, []), (25, 12, 50, 10, []), (0, 0, 3, 0, []), (2, 0, 0, 0, []), (25, 12, 41, 0, []), (41, 0, 9, 0, [])]
/-- 229: HornBenchModel.wrong(II)I -/
def am_c229 : List AmIns := [(0, 0, 3, 0, []), (0, 2, 0, 0, []), (25, 12, 3, 0, []), (0, 1, 0, 0, []), (41, 0, 0, 0, [])]
/-- 230: HornBenchModel.read(I)I -/
def am_c230 : List AmIns := [(0, 0, 3, 0, []), (2, 0, 0, (-1), []), (25, 12, 3, 0, []), (0, 0, 3, 0, []), (40, 228, 1, 0, []), (0, 0, 3, 0, []), (40, 196, 1, 0, []), (0, 0, 3, 0, []), (40, 205, 1, 0, []), (1, 2, 0, 0, []), (0, 0, 3, 0, []), (2, 0, 0, 0, []), (25, 12, 2, 0, []), (0, 2, 0, 0, []), (18, 24, 1, 0, []), (0, 0, 3, 0, []), (2, 0, 0, 1, []), (0, 0, 3, 0, []), (24, 12, 5, 3, []), (0, 0, 3, 0, []), (24, 12, 7, 0, []), (32, 0, 0, 0, []), (40, 229, 3, 0, []), (41, 0, 0, 0, []), (0, 0, 3, 0, []), (2, 0, 0, 2001, []), (25, 12, 52, 0, []), (0, 1, 0, 0, []), (1, 3, 0, 0, []), (0, 0, 3, 0, []), (2, 0, 0, 0, []), (25, 12, 7, 0, []), (0, 0, 3, 0, []), (24, 12, 4, 3, []), (0, 0, 3, 0, []), (24, 12, 7, 0, []), (32, 0, 0, 0, []), (18, 97, 0, 0, []), (0, 3, 0, 0, []), (2, 0, 0, 40, []), (19, 45, 2, 0, []), (0, 0, 3, 0, []), (0, 0, 3, 0, []), (24, 12, 7, 0, []), (40, 217, 2, 0, []), (0, 0, 3, 0, []), (28, 11, 18, 0, []), (26, 0, 0, 0, []), (40, 184, 1, 11, []), (25, 12, 51, 3, []), (0, 0, 3, 0, []), (24, 12, 7, 0, []), (1, 4, 0, 0, []), (0, 0, 3, 0, []), (26, 0, 0, 0, []), (24, 12, 7, 0, []), (2, 0, 0, 1, []), (8, 0, 0, 0, []), (25, 12, 7, 0, []), (0, 0, 3, 0, []), (24, 12, 51, 3, []), (0, 0, 3, 0, []), (0, 4, 0, 0, []), (40, 224, 2, 0, []), (25, 11, 7, 0, []), (0, 0, 3, 0, []), (6, 27, 0, 0, []), (40, 202, 2, 0, []), (18, 80, 0, 0, []), (0, 0, 3, 0, []), (26, 0, 0, 0, []), (24, 12, 7, 0, []), (2, 0, 0, 1, []), (8, 0, 0, 0, []), (25, 12, 7, 0, []), (0, 0, 3, 0, []), (24, 12, 51, 3, []), (0, 0, 3, 0, []), (40, 226, 1, 0, []), (25, 11, 16, 0, []), (0, 0, 3, 0, []), (26, 0, 0, 0, []), (24, 12, 7, 0, []), (2, 0, 0, 1, []), (8, 0, 0, 0, []), (25, 12, 7, 0, []), (0, 3, 0, 0, []), (2, 0, 0, 40, []), (19, 95, 3, 0, []), (0, 0, 3, 0, []), (24, 12, 10, 3, []), (0, 3, 0, 0, []), (0, 0, 3, 0, []), (24, 12, 51, 3, []), (33, 65, 11, 0, []), (17, 3, 0, 1, []), (22, 32, 0, 0, []), (0, 0, 3, 0, []), (24, 12, 52, 0, []), (2, 0, 0, 2000, []), (19, 107, 4, 0, []), (0, 0, 3, 0, []), (2, 0, 0, 2, []), (0, 0, 3, 0, []), (24, 12, 52, 0, []), (40, 229, 3, 0, []), (41, 0, 0, 0, []), (0, 0, 3, 0, []), (0, 3, 0, 0, []), (25, 12, 9, 0, []), (2, 0, 0, 0, []), (41, 0, 0, 0, [])]
/-- 231: HornBenchModel.consult()I -/
def am_c231 : List AmIns := [(0, 0, 3, 0, []), (2, 0, 0, 0, []), (25, 12, 0, 0, []), (0, 0, 3, 0, []), (2, 0, 0, 0, []), (25, 12, 9, 0, []), (0, 0, 3, 0, []), (2, 0, 0, 0, []), (40, 230, 2, 0, []), (41, 0, 0, 0, [])]
/-- 232: HornBenchModel.add()I -/
def am_c232 : List AmIns := [(0, 0, 3, 0, []), (2, 0, 0, 0, []), (25, 12, 0, 0, []), (0, 0, 3, 0, []), (0, 0, 3, 0, []), (24, 12, 9, 0, []), (40, 230, 2, 0, []), (41, 0, 0, 0, [])]
/-- 233: HornBenchModel.drop(I)I -/
def am_c233 : List AmIns := [(0, 0, 3, 0, []), (2, 0, 0, 0, []), (25, 12, 0, 0, []), (0, 1, 0, 0, []), (2, 0, 0, 0, []), (0, 0, 3, 0, []), (24, 12, 9, 0, []), (2, 0, 0, 1, []), (8, 0, 1, 0, []), (40, 188, 3, 2, []), (18, 15, 1, 0, []), (0, 0, 3, 0, []), (2, 0, 0, 1, []), (40, 187, 2, 0, []), (41, 0, 0, 0, []), (0, 1, 0, 0, []), (1, 2, 0, 0, []), (0, 2, 0, 0, []), (2, 0, 0, 1, []), (8, 0, 0, 0, []), (0, 0, 3, 0, []), (24, 12, 9, 0, []), (19, 35, 3, 0, []), (0, 0, 3, 0, []), (24, 12, 10, 3, []), (0, 2, 0, 0, []), (0, 0, 3, 0, []), (24, 12, 10, 3, []), (0, 2, 0, 0, []), (2, 0, 0, 1, []), (8, 0, 0, 0, []), (32, 0, 3, 0, []), (33, 65, 11, 0, []), (17, 2, 0, 1, []), (22, 17, 0, 0, []), (0, 0, 3, 0, []), (26, 0, 0, 0, []), (24, 12, 9, 0, []), (2, 0, 0, 1, []), (8, 0, 1, 0, []), (25, 12, 9, 0, []), (0, 0, 3, 0, []), (40, 228, 1, 0, []), (0, 0, 3, 0, []), (24, 12, 9, 0, []), (41, 0, 0, 0, [])]
/-- 234: HornBenchModel.errorAt()I -/
def am_c234 : List AmIns := [(0, 0, 3, 0, []), (2, 0, 0, 0, []), (25, 12, 0, 0, []), (0, 0, 3, 0, []), (24, 12, 3, 0, []), (41, 0, 0, 0, [])]
/-- 235: HornBenchModel.nameIn(LHornBenchModel$Clause;)J -/
def am_c235 : List AmIns := [(0, 0, 3, 0, []), (24, 11, 1, 3, []), (0, 0, 3, 0, []), (24, 11, 7, 0, []), (32, 0, 1, 0, []), (41, 0, 1, 0, [])]
/-- 236: HornBenchModel.sizeIn(LHornBenchModel$Clause;)I -/
def am_c236 : List AmIns := [(0, 0, 3, 0, []), (24, 11, 3, 3, []), (0, 0, 3, 0, []), (24, 11, 7, 0, []), (32, 0, 0, 0, []), (41, 0, 0, 0, [])]
/-- 237: HornBenchModel.areAlike(LHornBenchModel$Clause;LHornBenchModel$Clause;)Z -/
def am_c237 : List AmIns := [(0, 0, 3, 0, []), (40, 235, 1, 2, []), (0, 1, 3, 0, []), (40, 235, 1, 2, []), (13, 0, 0, 0, []), (18, 13, 1, 0, []), (0, 0, 3, 0, []), (40, 236, 1, 2, []), (0, 1, 3, 0, []), (40, 236, 1, 2, []), (19, 13, 1, 0, []), (2, 0, 0, 1, []), (22, 14, 0, 0, []), (2, 0, 0, 0, []), (41, 0, 10, 0, [])]
/-- 238: HornBenchModel.predicates()I -/
def am_c238 : List AmIns := [(2, 0, 0, 0, []), (1, 1, 0, 0, []), (2, 0, 0, 0, []), (1, 2, 0, 0, []), (0, 2, 0, 0, []), (0, 0, 3, 0, []), (24, 12, 9, 0, []), (19, 43, 3, 0, []), (2, 0, 0, 1, []), (1, 3, 0, 0, []), (2, 0, 0, 0, []), (1, 4, 0, 0, []), (0, 4, 0, 0, []), (0, 2, 0, 0, []), (19, 33, 3, 0, []), (0, 3, 0, 0, []), (18, 29, 0, 0, []), (0, 0, 3, 0, []), (24, 12, 10, 3, []), (0, 4, 0, 0, []), (32, 0, 3, 0, []), (0, 0, 3, 0, []), (24, 12, 10, 3, []), (0, 2, 0, 0, []), (32, 0, 3, 0, []), (40, 237, 2, 2, []), (18, 29, 1, 0, []), (2, 0, 0, 1, []), (22, 30, 0, 0, []), (2, 0, 0, 0, []), (1, 3, 0, 0, []), (17, 4, 0, 1, []), (22, 12, 0, 0, []), (0, 1, 0, 0, []), (0, 3, 0, 0, []), (18, 38, 0, 0, []), (2, 0, 0, 1, []), (22, 39, 0, 0, []), (2, 0, 0, 0, []), (8, 0, 0, 0, []), (1, 1, 0, 0, []), (17, 2, 0, 1, []), (22, 4, 0, 0, []), (0, 1, 0, 0, []), (41, 0, 0, 0, [])]
/-- 239: HornBenchModel.goalsLeft()I -/
def am_c239 : List AmIns := [(2, 0, 0, 0, []), (1, 1, 0, 0, []), (0, 0, 3, 0, []), (24, 12, 15, 0, []), (2, 0, 0, 2, []), (19, 10, 0, 0, []), (0, 0, 3, 0, []), (24, 12, 15, 0, []), (2, 0, 0, 3, []), (19, 12, 1, 0, []), (2, 0, 0, 0, []), (41, 0, 0, 0, []), (0, 0, 3, 0, []), (24, 12, 40, 0, []), (1, 2, 0, 0, []), (0, 2, 0, 0, []), (2, 0, 0, (-1), []), (19, 36, 0, 0, []), (0, 1, 0, 0, []), (0, 0, 3, 0, []), (24, 12, 34, 3, []), (0, 2, 0, 0, []), (32, 0, 0, 0, []), (2, 0, 0, 6, []), (19, 27, 1, 0, []), (2, 0, 0, 0, []), (22, 28, 0, 0, []), (2, 0, 0, 1, []), (8, 0, 0, 0, []), (1, 1, 0, 0, []), (0, 0, 3, 0, []), (24, 12, 38, 3, []), (0, 2, 0, 0, []), (32, 0, 0, 0, []), (1, 2, 0, 0, []), (22, 15, 0, 0, []), (0, 1, 0, 0, []), (41, 0, 0, 0, [])]
/-- 240: HornBenchModel.counted(I)I -/
def am_c240 : List AmIns := [(0, 1, 0, 0, []), (2, 0, 0, 4, []), (19, 23, 3, 0, []), (0, 1, 0, 0, []), (18, 8, 1, 0, []), (0, 0, 3, 0, []), (24, 12, 9, 0, []), (22, 22, 0, 0, []), (0, 1, 0, 0, []), (2, 0, 0, 1, []), (19, 14, 1, 0, []), (0, 0, 3, 0, []), (40, 238, 1, 0, []), (22, 22, 0, 0, []), (0, 1, 0, 0, []), (2, 0, 0, 2, []), (19, 20, 1, 0, []), (0, 0, 3, 0, []), (24, 12, 2, 0, []), (22, 22, 0, 0, []), (0, 0, 3, 0, []), (24, 12, 12, 0, []), (41, 0, 0, 0, []), (0, 0, 3, 0, []), (24, 12, 13, 3, []), (20, 28, 1, 0, []), (2, 0, 0, 0, []), (41, 0, 0, 0, []), (0, 1, 0, 0, []), (2, 0, 0, 4, []), (19, 35, 1, 0, []), (0, 0, 3, 0, []), (24, 12, 13, 3, []), (24, 11, 8, 0, []), (22, 55, 0, 0, []), (0, 1, 0, 0, []), (2, 0, 0, 5, []), (19, 41, 1, 0, []), (0, 0, 3, 0, []), (40, 239, 1, 0, []), (22, 55, 0, 0, []), (0, 1, 0, 0, []), (2, 0, 0, 6, []), (19, 47, 1, 0, []), (0, 0, 3, 0, []), (24, 12, 16, 0, []), (22, 55, 0, 0, []), (0, 1, 0, 0, []), (2, 0, 0, 7, []), (19, 53, 1, 0, []), (0, 0, 3, 0, []), (24, 12, 17, 0, []), (22, 55, 0, 0, []), (0, 0, 3, 0, []), (24, 12, 18, 0, []), (41, 0, 0, 0, [])]
/-- 241: HornBenchModel.count(I)I -/
def am_c241 : List AmIns := [(0, 0, 3, 0, []), (2, 0, 0, 0, []), (25, 12, 0, 0, []), (0, 1, 0, 0, []), (2, 0, 0, 0, []), (2, 0, 0, 8, []), (40, 188, 3, 2, []), (18, 12, 0, 0, []), (0, 0, 3, 0, []), (0, 1, 0, 0, []), (40, 240, 2, 0, []), (22, 15, 0, 0, []), (0, 0, 3, 0, []), (2, 0, 0, 1, []), (40, 187, 2, 0, []), (41, 0, 0, 0, [])]
/-- 242: HornBenchModel.clauseTold(II)I -/
def am_c242 : List AmIns := [(0, 2, 0, 0, []), (18, 8, 1, 0, []), (0, 0, 3, 0, []), (24, 12, 10, 3, []), (0, 1, 0, 0, []), (32, 0, 3, 0, []), (40, 236, 1, 2, []), (22, 31, 0, 0, []), (0, 2, 0, 0, []), (2, 0, 0, 1, []), (19, 17, 1, 0, []), (0, 0, 3, 0, []), (24, 12, 10, 3, []), (0, 1, 0, 0, []), (32, 0, 3, 0, []), (24, 11, 10, 0, []), (22, 31, 0, 0, []), (0, 2, 0, 0, []), (2, 0, 0, 2, []), (19, 26, 1, 0, []), (0, 0, 3, 0, []), (24, 12, 10, 3, []), (0, 1, 0, 0, []), (32, 0, 3, 0, []), (24, 11, 8, 0, []), (22, 31, 0, 0, []), (0, 0, 3, 0, []), (24, 12, 10, 3, []), (0, 1, 0, 0, []), (32, 0, 3, 0, []), (24, 11, 17, 0, []), (41, 0, 0, 0, [])]
/-- 243: HornBenchModel.clause(II)I -/
def am_c243 : List AmIns := [(0, 0, 3, 0, []), (2, 0, 0, 0, []), (25, 12, 0, 0, []), (0, 1, 0, 0, []), (2, 0, 0, 0, []), (0, 0, 3, 0, []), (24, 12, 9, 0, []), (2, 0, 0, 1, []), (8, 0, 1, 0, []), (40, 188, 3, 2, []), (18, 21, 0, 0, []), (0, 2, 0, 0, []), (2, 0, 0, 0, []), (2, 0, 0, 3, []), (40, 188, 3, 2, []), (18, 21, 0, 0, []), (0, 0, 3, 0, []), (0, 1, 0, 0, []), (0, 2, 0, 0, []), (40, 242, 3, 0, []), (22, 24, 0, 0, []), (0, 0, 3, 0, []), (2, 0, 0, 1, []), (40, 187, 2, 0, []), (41, 0, 0, 0, [])]
/-- 244: HornBenchModel.cell(IJI)I -/
def am_c244 : List AmIns := [(0, 0, 3, 0, []), (24, 12, 19, 0, []), (1, 5, 0, 0, []), (0, 0, 3, 0, []), (24, 12, 20, 3, []), (0, 5, 0, 0, []), (0, 1, 0, 0, []), (33, 61, 11, 0, []), (0, 0, 3, 0, []), (24, 12, 21, 3, []), (0, 5, 0, 0, []), (0, 2, 1, 0, []), (33, 62, 11, 0, []), (0, 0, 3, 0, []), (24, 12, 23, 3, []), (0, 5, 0, 0, []), (0, 4, 0, 0, []), (33, 61, 11, 0, []), (0, 0, 3, 0, []), (24, 12, 22, 3, []), (0, 5, 0, 0, []), (0, 0, 3, 0, []), (24, 12, 24, 0, []), (33, 61, 11, 0, []), (0, 0, 3, 0, []), (24, 12, 27, 3, []), (0, 5, 0, 0, []), (2, 0, 0, 0, []), (33, 61, 11, 0, []), (0, 0, 3, 0, []), (26, 0, 0, 0, []), (24, 12, 24, 0, []), (0, 4, 0, 0, []), (8, 0, 0, 0, []), (25, 12, 24, 0, []), (0, 0, 3, 0, []), (26, 0, 0, 0, []), (24, 12, 19, 0, []), (2, 0, 0, 1, []), (8, 0, 0, 0, []), (25, 12, 19, 0, []), (0, 5, 0, 0, []), (41, 0, 0, 0, [])]
/-- 245: HornBenchModel.laid(LHornBenchModel$Clause;I[I)I -/
def am_c245 : List AmIns := [(0, 1, 3, 0, []), (24, 11, 0, 3, []), (0, 2, 0, 0, []), (32, 0, 0, 0, []), (18, 28, 1, 0, []), (0, 1, 3, 0, []), (24, 11, 1, 3, []), (0, 2, 0, 0, []), (32, 0, 1, 0, []), (14, 0, 1, 0, []), (1, 4, 0, 0, []), (0, 3, 3, 0, []), (0, 4, 0, 0, []), (32, 0, 0, 0, []), (2, 0, 0, (-1), []), (19, 24, 1, 0, []), (0, 3, 3, 0, []), (0, 4, 0, 0, []), (0, 0, 3, 0, []), (2, 0, 0, 0, []), (3, 0, 0, (-1), []), (2, 0, 0, 0, []), (40, 244, 4, 0, []), (33, 61, 11, 0, []), (0, 3, 3, 0, []), (0, 4, 0, 0, []), (32, 0, 0, 0, []), (41, 0, 0, 0, []), (0, 1, 3, 0, []), (24, 11, 3, 3, []), (0, 2, 0, 0, []), (32, 0, 0, 0, []), (1, 4, 0, 0, []), (0, 0, 3, 0, []), (0, 1, 3, 0, []), (24, 11, 0, 3, []), (0, 2, 0, 0, []), (32, 0, 0, 0, []), (0, 1, 3, 0, []), (24, 11, 1, 3, []), (0, 2, 0, 0, []), (32, 0, 1, 0, []), (0, 4, 0, 0, []), (40, 244, 4, 0, []), (1, 5, 0, 0, []), (2, 0, 0, 0, []), (1, 6, 0, 0, []), (0, 6, 0, 0, []), (0, 4, 0, 0, []), (19, 74, 3, 0, []), (0, 0, 3, 0, []), (24, 12, 25, 3, []), (0, 0, 3, 0, []), (24, 12, 22, 3, []), (0, 5, 0, 0, []), (32, 0, 0, 0, []), (0, 6, 0, 0, []), (8, 0, 0, 0, []), (0, 0, 3, 0, []), (0, 1, 3, 0, []), (0, 1, 3, 0, []), (24, 11, 4, 3, []), (0, 1, 3, 0, []), (24, 11, 2, 3, []), (0, 2, 0, 0, []), (32, 0, 0, 0, []), (0, 6, 0, 0, []), (8, 0, 0, 0, []), (32, 0, 0, 0, []), (0, 3, 3, 0, []), (40, 245, 4, 0, []), (33, 61, 11, 0, []), (17, 6, 0, 1, []), (22, 47, 0, 0, []), (0, 5, 0, 0, []), (41, 0, 0, 0, [])]
/-- 246: HornBenchModel.end(I)I -/
def am_c246 : List AmIns := [(0, 1, 0, 0, []), (1, 2, 0, 0, []), (0, 0, 3, 0, []), (24, 12, 20, 3, []), (0, 2, 0, 0, []), (32, 0, 0, 0, []), (18, 21, 1, 0, []), (0, 0, 3, 0, []), (24, 12, 21, 3, []), (0, 2, 0, 0, []), (32, 0, 1, 0, []), (3, 0, 0, (-1), []), (13, 0, 0, 0, []), (18, 21, 0, 0, []), (0, 0, 3, 0, []), (24, 12, 21, 3, []), (0, 2, 0, 0, []), (32, 0, 1, 0, []), (14, 0, 1, 0, []), (1, 2, 0, 0, []), (22, 2, 0, 0, []), (0, 2, 0, 0, []), (41, 0, 0, 0, [])]
/-- 247: HornBenchModel.argument(II)I -/
def am_c247 : List AmIns := [(0, 0, 3, 0, []), (0, 0, 3, 0, []), (24, 12, 25, 3, []), (0, 0, 3, 0, []), (24, 12, 22, 3, []), (0, 1, 0, 0, []), (32, 0, 0, 0, []), (0, 2, 0, 0, []), (8, 0, 0, 0, []), (32, 0, 0, 0, []), (40, 246, 2, 0, []), (41, 0, 0, 0, [])]
/-- 248: HornBenchModel.bind(II)V -/
def am_c248 : List AmIns := [(0, 0, 3, 0, []), (24, 12, 21, 3, []), (0, 1, 0, 0, []), (0, 2, 0, 0, []), (14, 0, 0, 0, []), (33, 62, 11, 0, []), (0, 0, 3, 0, []), (24, 12, 32, 3, []), (0, 0, 3, 0, []), (24, 12, 31, 0, []), (0, 1, 0, 0, []), (33, 61, 11, 0, []), (0, 0, 3, 0, []), (26, 0, 0, 0, []), (24, 12, 31, 0, []), (2, 0, 0, 1, []), (8, 0, 0, 0, []), (25, 12, 31, 0, []), (41, 0, 9, 0, [])]
/-- 249: HornBenchModel.undo(I)V -/
def am_c249 : List AmIns := [(0, 0, 3, 0, []), (24, 12, 31, 0, []), (0, 1, 0, 0, []), (19, 20, 5, 0, []), (0, 0, 3, 0, []), (26, 0, 0, 0, []), (24, 12, 31, 0, []), (2, 0, 0, 1, []), (8, 0, 1, 0, []), (25, 12, 31, 0, []), (0, 0, 3, 0, []), (24, 12, 21, 3, []), (0, 0, 3, 0, []), (24, 12, 32, 3, []), (0, 0, 3, 0, []), (24, 12, 31, 0, []), (32, 0, 0, 0, []), (3, 0, 0, (-1), []), (33, 62, 11, 0, []), (22, 0, 0, 0, []), (41, 0, 9, 0, [])]
/-- 250: HornBenchModel.standsIn(II)Z -/
def am_c250 : List AmIns := [(0, 0, 3, 0, []), (26, 0, 0, 0, []), (24, 12, 26, 0, []), (2, 0, 0, 1, []), (8, 0, 0, 0, []), (25, 12, 26, 0, []), (2, 0, 0, 1, []), (1, 3, 0, 0, []), (0, 0, 3, 0, []), (24, 12, 30, 3, []), (2, 0, 0, 0, []), (0, 2, 0, 0, []), (33, 61, 11, 0, []), (0, 0, 3, 0, []), (24, 12, 27, 3, []), (0, 2, 0, 0, []), (0, 0, 3, 0, []), (24, 12, 26, 0, []), (33, 61, 11, 0, []), (0, 3, 0, 0, []), (18, 68, 5, 0, []), (17, 3, 0, (-1), []), (0, 0, 3, 0, []), (24, 12, 30, 3, []), (0, 3, 0, 0, []), (32, 0, 0, 0, []), (1, 4, 0, 0, []), (0, 4, 0, 0, []), (0, 1, 0, 0, []), (19, 32, 1, 0, []), (2, 0, 0, 1, []), (41, 0, 10, 0, []), (2, 0, 0, 0, []), (1, 5, 0, 0, []), (0, 5, 0, 0, []), (0, 0, 3, 0, []), (24, 12, 23, 3, []), (0, 4, 0, 0, []), (32, 0, 0, 0, []), (19, 67, 3, 0, []), (0, 0, 3, 0, []), (0, 4, 0, 0, []), (0, 5, 0, 0, []), (40, 247, 3, 0, []), (1, 6, 0, 0, []), (0, 0, 3, 0, []), (24, 12, 27, 3, []), (0, 6, 0, 0, []), (32, 0, 0, 0, []), (0, 0, 3, 0, []), (24, 12, 26, 0, []), (19, 53, 1, 0, []), (22, 65, 0, 0, []), (0, 0, 3, 0, []), (24, 12, 27, 3, []), (0, 6, 0, 0, []), (0, 0, 3, 0, []), (24, 12, 26, 0, []), (33, 61, 11, 0, []), (0, 0, 3, 0, []), (24, 12, 30, 3, []), (0, 3, 0, 0, []), (0, 6, 0, 0, []), (33, 61, 11, 0, []), (17, 3, 0, 1, []), (17, 5, 0, 1, []), (22, 34, 0, 0, []), (22, 19, 0, 0, []), (2, 0, 0, 0, []), (41, 0, 10, 0, [])]
/-- 251: HornBenchModel.leader(I)I -/
def am_c251 : List AmIns := [(0, 1, 0, 0, []), (1, 2, 0, 0, []), (0, 0, 3, 0, []), (24, 12, 54, 3, []), (0, 2, 0, 0, []), (32, 0, 0, 0, []), (0, 0, 3, 0, []), (24, 12, 53, 0, []), (19, 21, 1, 0, []), (0, 0, 3, 0, []), (24, 12, 55, 3, []), (0, 2, 0, 0, []), (32, 0, 0, 0, []), (0, 2, 0, 0, []), (19, 21, 0, 0, []), (0, 0, 3, 0, []), (24, 12, 55, 3, []), (0, 2, 0, 0, []), (32, 0, 0, 0, []), (1, 2, 0, 0, []), (22, 2, 0, 0, []), (0, 2, 0, 0, []), (41, 0, 0, 0, [])]
/-- 252: HornBenchModel.join(II)V -/
def am_c252 : List AmIns := [(0, 0, 3, 0, []), (24, 12, 54, 3, []), (0, 1, 0, 0, []), (32, 0, 0, 0, []), (0, 0, 3, 0, []), (24, 12, 53, 0, []), (19, 18, 0, 0, []), (0, 0, 3, 0, []), (24, 12, 54, 3, []), (0, 1, 0, 0, []), (0, 0, 3, 0, []), (24, 12, 53, 0, []), (33, 61, 11, 0, []), (0, 0, 3, 0, []), (24, 12, 55, 3, []), (0, 1, 0, 0, []), (0, 1, 0, 0, []), (33, 61, 11, 0, []), (0, 0, 3, 0, []), (24, 12, 54, 3, []), (0, 2, 0, 0, []), (32, 0, 0, 0, []), (0, 0, 3, 0, []), (24, 12, 53, 0, []), (19, 36, 0, 0, []), (0, 0, 3, 0, []), (24, 12, 54, 3, []), (0, 2, 0, 0, []), (0, 0, 3, 0, []), (24, 12, 53, 0, []), (33, 61, 11, 0, []), (0, 0, 3, 0, []), (24, 12, 55, 3, []), (0, 2, 0, 0, []), (0, 2, 0, 0, []), (33, 61, 11, 0, []), (0, 0, 3, 0, []), (24, 12, 55, 3, []), (0, 0, 3, 0, []), (0, 2, 0, 0, []), (40, 251, 2, 0, []), (0, 0, 3, 0, []), (0, 1, 0, 0, []), (40, 251, 2, 0, []), (33, 61, 11, 0, []), (41, 0, 9, 0, [])]
/-- 253: HornBenchModel.areOne(IIZ)Z -/
def am_c253 : List AmIns := [(2, 0, 0, 1, []), (1, 4, 0, 0, []), (0, 0, 3, 0, []), (24, 12, 56, 3, []), (2, 0, 0, 0, []), (0, 1, 0, 0, []), (33, 61, 11, 0, []), (0, 0, 3, 0, []), (24, 12, 57, 3, []), (2, 0, 0, 0, []), (0, 2, 0, 0, []), (33, 61, 11, 0, []), (0, 4, 0, 0, []), (18, 163, 5, 0, []), (17, 4, 0, (-1), []), (0, 0, 3, 0, []), (0, 0, 3, 0, []), (24, 12, 56, 3, []), (0, 4, 0, 0, []), (32, 0, 0, 0, []), (40, 246, 2, 0, []), (1, 5, 0, 0, []), (0, 0, 3, 0, []), (0, 0, 3, 0, []), (24, 12, 57, 3, []), (0, 4, 0, 0, []), (32, 0, 0, 0, []), (40, 246, 2, 0, []), (1, 6, 0, 0, []), (0, 5, 0, 0, []), (0, 6, 0, 0, []), (19, 12, 0, 0, []), (0, 0, 3, 0, []), (0, 5, 0, 0, []), (40, 251, 2, 0, []), (0, 0, 3, 0, []), (0, 6, 0, 0, []), (40, 251, 2, 0, []), (19, 40, 1, 0, []), (22, 12, 0, 0, []), (0, 3, 0, 0, []), (18, 80, 0, 0, []), (0, 0, 3, 0, []), (24, 12, 20, 3, []), (0, 5, 0, 0, []), (32, 0, 0, 0, []), (18, 52, 0, 0, []), (0, 0, 3, 0, []), (24, 12, 20, 3, []), (0, 6, 0, 0, []), (32, 0, 0, 0, []), (18, 80, 1, 0, []), (0, 0, 3, 0, []), (24, 12, 20, 3, []), (0, 5, 0, 0, []), (32, 0, 0, 0, []), (18, 59, 1, 0, []), (0, 5, 0, 0, []), (22, 60, 0, 0, []), (0, 6, 0, 0, []), (1, 7, 0, 0, []), (0, 7, 0, 0, []), (0, 5, 0, 0, []), (19, 66, 1, 0, []), (0, 6, 0, 0, []), (22, 67, 0, 0, []), (0, 5, 0, 0, []), (1, 8, 0, 0, []), (0, 0, 3, 0, []), (0, 7, 0, 0, []), (0, 8, 0, 0, []), (40, 250, 3, 0, []), (18, 75, 0, 0, []), (2, 0, 0, 0, []), (41, 0, 10, 0, []), (0, 0, 3, 0, []), (0, 7, 0, 0, []), (0, 8, 0, 0, []), (40, 248, 3, 0, []), (22, 12, 0, 0, []), (0, 0, 3, 0, []), (24, 12, 20, 3, []), (0, 5, 0, 0, []), (32, 0, 0, 0, []), (0, 0, 3, 0, []), (24, 12, 20, 3, []), (0, 6, 0, 0, []), (32, 0, 0, 0, []), (19, 113, 1, 0, []), (0, 0, 3, 0, []), (24, 12, 20, 3, []), (0, 5, 0, 0, []), (32, 0, 0, 0, []), (18, 113, 0, 0, []), (0, 0, 3, 0, []), (24, 12, 21, 3, []), (0, 5, 0, 0, []), (32, 0, 1, 0, []), (0, 0, 3, 0, []), (24, 12, 21, 3, []), (0, 6, 0, 0, []), (32, 0, 1, 0, []), (13, 0, 0, 0, []), (18, 113, 1, 0, []), (0, 0, 3, 0, []), (24, 12, 23, 3, []), (0, 5, 0, 0, []), (32, 0, 0, 0, []), (0, 0, 3, 0, []), (24, 12, 23, 3, []), (0, 6, 0, 0, []), (32, 0, 0, 0, []), (19, 115, 0, 0, []), (2, 0, 0, 0, []), (41, 0, 10, 0, []), (0, 0, 3, 0, []), (24, 12, 23, 3, []), (0, 5, 0, 0, []), (32, 0, 0, 0, []), (18, 124, 5, 0, []), (0, 0, 3, 0, []), (0, 5, 0, 0, []), (0, 6, 0, 0, []), (40, 252, 3, 0, []), (0, 0, 3, 0, []), (24, 12, 23, 3, []), (0, 5, 0, 0, []), (32, 0, 0, 0, []), (2, 0, 0, 1, []), (8, 0, 1, 0, []), (1, 7, 0, 0, []), (0, 7, 0, 0, []), (18, 162, 2, 0, []), (0, 0, 3, 0, []), (24, 12, 56, 3, []), (0, 4, 0, 0, []), (0, 0, 3, 0, []), (24, 12, 25, 3, []), (0, 0, 3, 0, []), (24, 12, 22, 3, []), (0, 5, 0, 0, []), (32, 0, 0, 0, []), (0, 7, 0, 0, []), (8, 0, 0, 0, []), (32, 0, 0, 0, []), (33, 61, 11, 0, []), (0, 0, 3, 0, []), (24, 12, 57, 3, []), (0, 4, 0, 0, []), (0, 0, 3, 0, []), (24, 12, 25, 3, []), (0, 0, 3, 0, []), (24, 12, 22, 3, []), (0, 6, 0, 0, []), (32, 0, 0, 0, []), (0, 7, 0, 0, []), (8, 0, 0, 0, []), (32, 0, 0, 0, []), (33, 61, 11, 0, []), (17, 4, 0, 1, []), (17, 7, 0, (-1), []), (22, 131, 0, 0, []), (22, 12, 0, 0, []), (2, 0, 0, 1, []), (41, 0, 10, 0, [])]
/-- 254: HornBenchModel.unify(II)Z -/
def am_c254 : List AmIns := [(0, 0, 3, 0, []), (26, 0, 0, 0, []), (24, 12, 53, 0, []), (2, 0, 0, 1, []), (8, 0, 0, 0, []), (25, 12, 53, 0, []), (0, 0, 3, 0, []), (0, 1, 0, 0, []), (0, 2, 0, 0, []), (2, 0, 0, 1, []), (40, 253, 4, 0, []), (41, 0, 10, 0, [])]
/-- 255: HornBenchModel.isSameNow(II)Z -/
def am_c255 : List AmIns := [(0, 0, 3, 0, []), (26, 0, 0, 0, []), (24, 12, 53, 0, []), (2, 0, 0, 1, []), (8, 0, 0, 0, []), (25, 12, 53, 0, []), (0, 0, 3, 0, []), (0, 1, 0, 0, []), (0, 2, 0, 0, []), (2, 0, 0, 0, []), (40, 253, 4, 0, []), (41, 0, 10, 0, [])]
/-- 256: HornBenchModel.value(I)I -/
def am_c256 : List AmIns := [(0, 0, 3, 0, []), (26, 0, 0, 0, []), (24, 12, 26, 0, []), (2, 0, 0, 1, []), (8, 0, 0, 0, []), (25, 12, 26, 0, []), (0, 0, 3, 0, []), (2, 0, 0, 0, []), (25, 12, 58, 10, []), (0, 0, 3, 0, []), (0, 0, 3, 0, []), (0, 1, 0, 0, []), (40, 246, 2, 0, []), (2, 0, 0, 0, []), (40, 258, 3, 0, []), (1, 2, 0, 0, []), (0, 0, 3, 0, []), (0, 0, 3, 0, []), (24, 12, 58, 10, []), (18, 28, 1, 0, []), (0, 0, 3, 0, []), (24, 12, 29, 3, []), (0, 0, 3, 0, []), (0, 1, 0, 0, []), (40, 246, 2, 0, []), (32, 0, 0, 0, []), (2, 0, 0, 60, []), (19, 30, 5, 0, []), (2, 0, 0, 1, []), (22, 31, 0, 0, []), (2, 0, 0, 0, []), (25, 12, 58, 10, []), (0, 2, 0, 0, []), (41, 0, 0, 0, [])]
/-- 257: HornBenchModel.fault()I -/
def am_c257 : List AmIns := [(0, 0, 3, 0, []), (2, 0, 0, 1, []), (25, 12, 58, 10, []), (2, 0, 0, 0, []), (41, 0, 0, 0, [])]
/-- 258: HornBenchModel.worth(II)I -/
def am_c258 : List AmIns := [(0, 0, 3, 0, []), (24, 12, 27, 3, []), (0, 1, 0, 0, []), (32, 0, 0, 0, []), (0, 0, 3, 0, []), (24, 12, 26, 0, []), (19, 12, 1, 0, []), (0, 0, 3, 0, []), (24, 12, 28, 3, []), (0, 1, 0, 0, []), (32, 0, 0, 0, []), (41, 0, 0, 0, []), (0, 0, 3, 0, []), (24, 12, 20, 3, []), (0, 1, 0, 0, []), (32, 0, 0, 0, []), (2, 0, 0, 1, []), (19, 28, 1, 0, []), (0, 0, 3, 0, []), (0, 1, 0, 0, []), (0, 0, 3, 0, []), (24, 12, 21, 3, []), (0, 1, 0, 0, []), (32, 0, 1, 0, []), (14, 0, 1, 0, []), (2, 0, 0, 0, []), (40, 259, 4, 0, []), (41, 0, 0, 0, []), (0, 0, 3, 0, []), (24, 12, 20, 3, []), (0, 1, 0, 0, []), (32, 0, 0, 0, []), (2, 0, 0, 2, []), (19, 59, 1, 0, []), (0, 0, 3, 0, []), (24, 12, 23, 3, []), (0, 1, 0, 0, []), (32, 0, 0, 0, []), (2, 0, 0, 2, []), (19, 59, 1, 0, []), (0, 0, 3, 0, []), (24, 12, 21, 3, []), (0, 1, 0, 0, []), (32, 0, 1, 0, []), (14, 0, 6, 0, []), (14, 0, 1, 0, []), (2, 0, 0, 1, []), (2, 0, 0, 5, []), (40, 188, 3, 2, []), (18, 59, 0, 0, []), (0, 0, 3, 0, []), (24, 12, 21, 3, []), (0, 1, 0, 0, []), (32, 0, 1, 0, []), (3, 0, 0, 0, []), (13, 0, 0, 0, []), (18, 59, 3, 0, []), (2, 0, 0, 1, []), (22, 60, 0, 0, []), (2, 0, 0, 0, []), (1, 3, 0, 0, []), (0, 3, 0, 0, []), (18, 66, 0, 0, []), (0, 2, 0, 0, []), (2, 0, 0, 60, []), (19, 69, 1, 0, []), (0, 0, 3, 0, []), (40, 257, 1, 0, []), (41, 0, 0, 0, []), (0, 0, 3, 0, []), (0, 1, 0, 0, []), (2, 0, 0, 0, []), (40, 247, 3, 0, []), (1, 4, 0, 0, []), (0, 0, 3, 0, []), (0, 4, 0, 0, []), (0, 2, 0, 0, []), (2, 0, 0, 1, []), (8, 0, 0, 0, []), (40, 258, 3, 0, []), (1, 5, 0, 0, []), (0, 0, 3, 0, []), (24, 12, 58, 10, []), (18, 86, 0, 0, []), (2, 0, 0, 0, []), (41, 0, 0, 0, []), (0, 0, 3, 0, []), (0, 1, 0, 0, []), (2, 0, 0, 1, []), (40, 247, 3, 0, []), (1, 6, 0, 0, []), (0, 0, 3, 0, []), (0, 6, 0, 0, []), (0, 2, 0, 0, []), (2, 0, 0, 1, []), (8, 0, 0, 0, []), (40, 258, 3, 0, []), (1, 7, 0, 0, []), (0, 0, 3, 0, []), (24, 12, 58, 10, []), (18, 103, 0, 0, []), (2, 0, 0, 0, []), (41, 0, 0, 0, []), (0, 0, 3, 0, []), (24, 12, 21, 3, []), (0, 1, 0, 0, []), (32, 0, 1, 0, []), (1, 8, 1, 0, []), (0, 8, 1, 0, []), (3, 0, 0, (-4), []), (13, 0, 0, 0, []), (18, 116, 0, 0, []), (0, 8, 1, 0, []), (3, 0, 0, (-5), []), (13, 0, 0, 0, []), (18, 121, 1, 0, []), (0, 7, 0, 0, []), (18, 121, 1, 0, []), (0, 0, 3, 0, []), (40, 257, 1, 0, []), (41, 0, 0, 0, []), (0, 8, 1, 0, []), (3, 0, 0, (-1), []), (13, 0, 0, 0, []), (18, 129, 1, 0, []), (0, 5, 0, 0, []), (0, 7, 0, 0, []), (8, 0, 0, 0, []), (22, 156, 0, 0, []), (0, 8, 1, 0, []), (3, 0, 0, (-2), []), (13, 0, 0, 0, []), (18, 137, 1, 0, []), (0, 5, 0, 0, []), (0, 7, 0, 0, []), (8, 0, 1, 0, []), (22, 156, 0, 0, []), (0, 8, 1, 0, []), (3, 0, 0, (-3), []), (13, 0, 0, 0, []), (18, 145, 1, 0, []), (0, 5, 0, 0, []), (0, 7, 0, 0, []), (8, 0, 2, 0, []), (22, 156, 0, 0, []), (0, 8, 1, 0, []), (3, 0, 0, (-4), []), (13, 0, 0, 0, []), (18, 153, 1, 0, []), (0, 5, 0, 0, []), (0, 7, 0, 0, []), (8, 0, 3, 0, []), (22, 156, 0, 0, []), (0, 5, 0, 0, []), (0, 7, 0, 0, []), (8, 0, 4, 0, []), (1, 10, 0, 0, []), (0, 0, 3, 0, []), (0, 1, 0, 0, []), (0, 10, 0, 0, []), (2, 0, 0, 1, []), (0, 0, 3, 0, []), (24, 12, 29, 3, []), (0, 4, 0, 0, []), (32, 0, 0, 0, []), (0, 0, 3, 0, []), (24, 12, 29, 3, []), (0, 6, 0, 0, []), (32, 0, 0, 0, []), (40, 298, 2, 2, []), (8, 0, 0, 0, []), (40, 259, 4, 0, []), (41, 0, 0, 0, [])]
/-- 259: HornBenchModel.keep(III)I -/
def am_c259 : List AmIns := [(0, 0, 3, 0, []), (24, 12, 27, 3, []), (0, 1, 0, 0, []), (0, 0, 3, 0, []), (24, 12, 26, 0, []), (33, 61, 11, 0, []), (0, 0, 3, 0, []), (24, 12, 28, 3, []), (0, 1, 0, 0, []), (0, 2, 0, 0, []), (33, 61, 11, 0, []), (0, 0, 3, 0, []), (24, 12, 29, 3, []), (0, 1, 0, 0, []), (0, 3, 0, 0, []), (33, 61, 11, 0, []), (0, 2, 0, 0, []), (41, 0, 0, 0, [])]
/-- 260: HornBenchModel.ask()I -/
def am_c260 : List AmIns := [(0, 0, 3, 0, []), (2, 0, 0, 0, []), (25, 12, 0, 0, []), (0, 0, 3, 0, []), (2, 0, 0, (-1), []), (25, 12, 3, 0, []), (0, 0, 3, 0, []), (40, 228, 1, 0, []), (0, 0, 3, 0, []), (40, 196, 1, 0, []), (0, 0, 3, 0, []), (40, 207, 1, 0, []), (1, 1, 0, 0, []), (0, 0, 3, 0, []), (2, 0, 0, 0, []), (25, 12, 2, 0, []), (0, 1, 0, 0, []), (18, 27, 1, 0, []), (0, 0, 3, 0, []), (2, 0, 0, 1, []), (0, 0, 3, 0, []), (24, 12, 5, 3, []), (0, 0, 3, 0, []), (24, 12, 7, 0, []), (32, 0, 0, 0, []), (40, 229, 3, 0, []), (41, 0, 0, 0, []), (0, 0, 3, 0, []), (2, 0, 0, 2001, []), (25, 12, 52, 0, []), (0, 0, 3, 0, []), (2, 0, 0, 0, []), (25, 12, 7, 0, []), (0, 0, 3, 0, []), (28, 11, 18, 0, []), (26, 0, 0, 0, []), (40, 184, 1, 11, []), (25, 12, 51, 3, []), (0, 0, 3, 0, []), (24, 12, 51, 3, []), (0, 0, 3, 0, []), (40, 226, 1, 0, []), (25, 11, 16, 0, []), (0, 0, 3, 0, []), (24, 12, 52, 0, []), (2, 0, 0, 2000, []), (19, 53, 4, 0, []), (0, 0, 3, 0, []), (2, 0, 0, 2, []), (0, 0, 3, 0, []), (24, 12, 52, 0, []), (40, 229, 3, 0, []), (41, 0, 0, 0, []), (0, 0, 3, 0, []), (0, 0, 3, 0, []), (24, 12, 51, 3, []), (25, 12, 13, 3, []), (0, 0, 3, 0, []), (2, 0, 0, 0, []), (25, 12, 15, 0, []), (0, 0, 3, 0, []), (2, 0, 0, 0, []), (25, 12, 19, 0, []), (0, 0, 3, 0, []), (2, 0, 0, 0, []), (25, 12, 24, 0, []), (0, 0, 3, 0, []), (2, 0, 0, 0, []), (25, 12, 31, 0, []), (0, 0, 3, 0, []), (2, 0, 0, 0, []), (25, 12, 33, 0, []), (2, 0, 0, 0, []), (1, 2, 0, 0, []), (0, 2, 0, 0, []), (0, 0, 3, 0, []), (24, 12, 13, 3, []), (24, 11, 8, 0, []), (19, 90, 3, 0, []), (0, 0, 3, 0, []), (24, 12, 14, 3, []), (0, 2, 0, 0, []), (0, 0, 3, 0, []), (2, 0, 0, 0, []), (3, 0, 0, (-1), []), (2, 0, 0, 0, []), (40, 244, 4, 0, []), (33, 61, 11, 0, []), (17, 2, 0, 1, []), (22, 74, 0, 0, []), (0, 0, 3, 0, []), (0, 0, 3, 0, []), (0, 0, 3, 0, []), (24, 12, 13, 3, []), (0, 0, 3, 0, []), (24, 12, 13, 3, []), (24, 11, 16, 0, []), (0, 0, 3, 0, []), (24, 12, 14, 3, []), (37, 0, 0, 0, []), (34, 0, 0, 0, []), (2, 0, 0, 0, []), (2, 0, 0, (-1), []), (40, 262, 6, 0, []), (25, 12, 40, 0, []), (2, 0, 0, 0, []), (41, 0, 0, 0, [])]
/-- 261: HornBenchModel.rowCell(III)I -/
def am_c261 : List AmIns := [(0, 0, 3, 0, []), (24, 12, 33, 0, []), (1, 4, 0, 0, []), (0, 0, 3, 0, []), (24, 12, 34, 3, []), (0, 4, 0, 0, []), (0, 1, 0, 0, []), (33, 61, 11, 0, []), (0, 0, 3, 0, []), (24, 12, 39, 3, []), (0, 4, 0, 0, []), (0, 2, 0, 0, []), (33, 61, 11, 0, []), (0, 0, 3, 0, []), (24, 12, 38, 3, []), (0, 4, 0, 0, []), (0, 3, 0, 0, []), (33, 61, 11, 0, []), (0, 0, 3, 0, []), (26, 0, 0, 0, []), (24, 12, 33, 0, []), (2, 0, 0, 1, []), (8, 0, 0, 0, []), (25, 12, 33, 0, []), (0, 4, 0, 0, []), (41, 0, 0, 0, [])]
/-- 262: HornBenchModel.rowOf(LHornBenchModel$Clause;I[III)I -/
def am_c262 : List AmIns := [(0, 2, 0, 0, []), (2, 0, 0, (-1), []), (19, 5, 1, 0, []), (0, 5, 0, 0, []), (41, 0, 0, 0, []), (2, 0, 0, (-1), []), (1, 6, 0, 0, []), (2, 0, 0, (-1), []), (1, 7, 0, 0, []), (0, 2, 0, 0, []), (1, 8, 0, 0, []), (0, 8, 0, 0, []), (2, 0, 0, (-1), []), (19, 112, 0, 0, []), (0, 1, 3, 0, []), (24, 11, 11, 3, []), (0, 8, 0, 0, []), (32, 0, 0, 0, []), (1, 9, 0, 0, []), (0, 0, 3, 0, []), (0, 9, 0, 0, []), (0, 4, 0, 0, []), (2, 0, 0, (-1), []), (40, 261, 4, 0, []), (1, 10, 0, 0, []), (0, 0, 3, 0, []), (24, 12, 37, 3, []), (0, 10, 0, 0, []), (0, 9, 0, 0, []), (2, 0, 0, 4, []), (19, 42, 1, 0, []), (0, 0, 3, 0, []), (0, 1, 3, 0, []), (0, 1, 3, 0, []), (24, 11, 15, 3, []), (0, 8, 0, 0, []), (32, 0, 0, 0, []), (0, 3, 3, 0, []), (2, 0, 0, (-1), []), (2, 0, 0, (-1), []), (40, 262, 6, 0, []), (22, 43, 0, 0, []), (2, 0, 0, (-1), []), (33, 61, 11, 0, []), (0, 9, 0, 0, []), (18, 52, 0, 0, []), (0, 9, 0, 0, []), (2, 0, 0, 5, []), (19, 52, 0, 0, []), (0, 9, 0, 0, []), (2, 0, 0, 7, []), (19, 54, 2, 0, []), (2, 0, 0, 1, []), (22, 55, 0, 0, []), (2, 0, 0, 0, []), (1, 11, 0, 0, []), (0, 0, 3, 0, []), (24, 12, 35, 3, []), (0, 10, 0, 0, []), (0, 11, 0, 0, []), (18, 70, 0, 0, []), (0, 0, 3, 0, []), (0, 1, 3, 0, []), (0, 1, 3, 0, []), (24, 11, 12, 3, []), (0, 8, 0, 0, []), (32, 0, 0, 0, []), (0, 3, 3, 0, []), (40, 245, 4, 0, []), (22, 71, 0, 0, []), (2, 0, 0, (-1), []), (33, 61, 11, 0, []), (0, 0, 3, 0, []), (24, 12, 36, 3, []), (0, 10, 0, 0, []), (0, 9, 0, 0, []), (2, 0, 0, 7, []), (19, 87, 2, 0, []), (0, 0, 3, 0, []), (0, 1, 3, 0, []), (0, 1, 3, 0, []), (24, 11, 13, 3, []), (0, 8, 0, 0, []), (32, 0, 0, 0, []), (0, 3, 3, 0, []), (40, 245, 4, 0, []), (22, 88, 0, 0, []), (2, 0, 0, (-1), []), (33, 61, 11, 0, []), (0, 7, 0, 0, []), (2, 0, 0, (-1), []), (19, 97, 0, 0, []), (0, 0, 3, 0, []), (24, 12, 38, 3, []), (0, 7, 0, 0, []), (0, 10, 0, 0, []), (33, 61, 11, 0, []), (0, 6, 0, 0, []), (2, 0, 0, (-1), []), (19, 102, 1, 0, []), (0, 10, 0, 0, []), (22, 103, 0, 0, []), (0, 6, 0, 0, []), (1, 6, 0, 0, []), (0, 10, 0, 0, []), (1, 7, 0, 0, []), (0, 1, 3, 0, []), (24, 11, 14, 3, []), (0, 8, 0, 0, []), (32, 0, 0, 0, []), (1, 8, 0, 0, []), (22, 11, 0, 0, []), (0, 0, 3, 0, []), (24, 12, 38, 3, []), (0, 7, 0, 0, []), (0, 5, 0, 0, []), (33, 61, 11, 0, []), (0, 6, 0, 0, []), (41, 0, 0, 0, [])]
/-- 263: HornBenchModel.innerRow(III)I -/
def am_c263 : List AmIns := [(2, 0, 0, (-1), []), (1, 4, 0, 0, []), (2, 0, 0, (-1), []), (1, 5, 0, 0, []), (0, 1, 0, 0, []), (1, 6, 0, 0, []), (0, 6, 0, 0, []), (2, 0, 0, (-1), []), (19, 65, 0, 0, []), (0, 0, 3, 0, []), (0, 0, 3, 0, []), (24, 12, 34, 3, []), (0, 6, 0, 0, []), (32, 0, 0, 0, []), (0, 2, 0, 0, []), (2, 0, 0, (-1), []), (40, 261, 4, 0, []), (1, 7, 0, 0, []), (0, 0, 3, 0, []), (24, 12, 35, 3, []), (0, 7, 0, 0, []), (0, 0, 3, 0, []), (24, 12, 35, 3, []), (0, 6, 0, 0, []), (32, 0, 0, 0, []), (33, 61, 11, 0, []), (0, 0, 3, 0, []), (24, 12, 36, 3, []), (0, 7, 0, 0, []), (0, 0, 3, 0, []), (24, 12, 36, 3, []), (0, 6, 0, 0, []), (32, 0, 0, 0, []), (33, 61, 11, 0, []), (0, 0, 3, 0, []), (24, 12, 37, 3, []), (0, 7, 0, 0, []), (0, 0, 3, 0, []), (24, 12, 37, 3, []), (0, 6, 0, 0, []), (32, 0, 0, 0, []), (33, 61, 11, 0, []), (0, 5, 0, 0, []), (2, 0, 0, (-1), []), (19, 50, 0, 0, []), (0, 0, 3, 0, []), (24, 12, 38, 3, []), (0, 5, 0, 0, []), (0, 7, 0, 0, []), (33, 61, 11, 0, []), (0, 4, 0, 0, []), (2, 0, 0, (-1), []), (19, 55, 1, 0, []), (0, 7, 0, 0, []), (22, 56, 0, 0, []), (0, 4, 0, 0, []), (1, 4, 0, 0, []), (0, 7, 0, 0, []), (1, 5, 0, 0, []), (0, 0, 3, 0, []), (24, 12, 38, 3, []), (0, 6, 0, 0, []), (32, 0, 0, 0, []), (1, 6, 0, 0, []), (22, 6, 0, 0, []), (0, 0, 3, 0, []), (24, 12, 38, 3, []), (0, 5, 0, 0, []), (0, 3, 0, 0, []), (33, 61, 11, 0, []), (0, 4, 0, 0, []), (41, 0, 0, 0, [])]
/-- 264: HornBenchModel.choose(ZIIIIII)V -/
def am_c264 : List AmIns := [(0, 0, 3, 0, []), (24, 12, 42, 3, []), (0, 0, 3, 0, []), (24, 12, 41, 0, []), (0, 1, 0, 0, []), (33, 64, 11, 0, []), (0, 0, 3, 0, []), (24, 12, 43, 3, []), (0, 0, 3, 0, []), (24, 12, 41, 0, []), (0, 0, 3, 0, []), (24, 12, 40, 0, []), (33, 61, 11, 0, []), (0, 0, 3, 0, []), (24, 12, 44, 3, []), (0, 0, 3, 0, []), (24, 12, 41, 0, []), (0, 2, 0, 0, []), (33, 61, 11, 0, []), (0, 0, 3, 0, []), (24, 12, 45, 3, []), (0, 0, 3, 0, []), (24, 12, 41, 0, []), (0, 3, 0, 0, []), (33, 61, 11, 0, []), (0, 0, 3, 0, []), (24, 12, 46, 3, []), (0, 0, 3, 0, []), (24, 12, 41, 0, []), (0, 4, 0, 0, []), (33, 61, 11, 0, []), (0, 0, 3, 0, []), (24, 12, 47, 3, []), (0, 0, 3, 0, []), (24, 12, 41, 0, []), (0, 5, 0, 0, []), (33, 61, 11, 0, []), (0, 0, 3, 0, []), (24, 12, 48, 3, []), (0, 0, 3, 0, []), (24, 12, 41, 0, []), (0, 6, 0, 0, []), (33, 61, 11, 0, []), (0, 0, 3, 0, []), (24, 12, 49, 3, []), (0, 0, 3, 0, []), (24, 12, 41, 0, []), (0, 7, 0, 0, []), (33, 61, 11, 0, []), (0, 0, 3, 0, []), (26, 0, 0, 0, []), (24, 12, 41, 0, []), (2, 0, 0, 1, []), (8, 0, 0, 0, []), (25, 12, 41, 0, []), (41, 0, 9, 0, [])]
/-- 265: HornBenchModel.isOf(II)Z -/
def am_c265 : List AmIns := [(0, 0, 3, 0, []), (24, 12, 10, 3, []), (0, 1, 0, 0, []), (32, 0, 3, 0, []), (40, 235, 1, 2, []), (0, 0, 3, 0, []), (24, 12, 21, 3, []), (0, 2, 0, 0, []), (32, 0, 1, 0, []), (13, 0, 0, 0, []), (18, 23, 1, 0, []), (0, 0, 3, 0, []), (24, 12, 10, 3, []), (0, 1, 0, 0, []), (32, 0, 3, 0, []), (40, 236, 1, 2, []), (0, 0, 3, 0, []), (24, 12, 23, 3, []), (0, 2, 0, 0, []), (32, 0, 0, 0, []), (19, 23, 1, 0, []), (2, 0, 0, 1, []), (22, 24, 0, 0, []), (2, 0, 0, 0, []), (41, 0, 10, 0, [])]
/-- 266: HornBenchModel.nextOf(II)I -/
def am_c266 : List AmIns := [(0, 2, 0, 0, []), (1, 3, 0, 0, []), (0, 3, 0, 0, []), (0, 0, 3, 0, []), (24, 12, 9, 0, []), (19, 15, 3, 0, []), (0, 0, 3, 0, []), (0, 3, 0, 0, []), (0, 1, 0, 0, []), (40, 265, 3, 0, []), (18, 13, 0, 0, []), (0, 3, 0, 0, []), (41, 0, 0, 0, []), (17, 3, 0, 1, []), (22, 2, 0, 0, []), (2, 0, 0, (-1), []), (41, 0, 0, 0, [])]
/-- 267: HornBenchModel.heads(II)Z -/
def am_c267 : List AmIns := [(0, 0, 3, 0, []), (24, 12, 19, 0, []), (1, 3, 0, 0, []), (0, 0, 3, 0, []), (24, 12, 24, 0, []), (1, 4, 0, 0, []), (0, 0, 3, 0, []), (24, 12, 31, 0, []), (1, 5, 0, 0, []), (2, 0, 0, 0, []), (1, 6, 0, 0, []), (0, 6, 0, 0, []), (2, 0, 0, 8, []), (19, 21, 3, 0, []), (0, 0, 3, 0, []), (24, 12, 59, 3, []), (0, 6, 0, 0, []), (2, 0, 0, (-1), []), (33, 61, 11, 0, []), (17, 6, 0, 1, []), (22, 11, 0, 0, []), (0, 0, 3, 0, []), (0, 0, 3, 0, []), (0, 0, 3, 0, []), (24, 12, 10, 3, []), (0, 1, 0, 0, []), (32, 0, 3, 0, []), (0, 0, 3, 0, []), (24, 12, 10, 3, []), (0, 1, 0, 0, []), (32, 0, 3, 0, []), (24, 11, 7, 0, []), (0, 0, 3, 0, []), (24, 12, 59, 3, []), (40, 245, 4, 0, []), (0, 2, 0, 0, []), (40, 254, 3, 0, []), (18, 40, 0, 0, []), (2, 0, 0, 1, []), (41, 0, 10, 0, []), (0, 0, 3, 0, []), (0, 5, 0, 0, []), (40, 249, 2, 0, []), (0, 0, 3, 0, []), (0, 3, 0, 0, []), (25, 12, 19, 0, []), (0, 0, 3, 0, []), (0, 4, 0, 0, []), (25, 12, 24, 0, []), (2, 0, 0, 0, []), (41, 0, 10, 0, [])]
/-- 268: HornBenchModel.use(III)V -/
def am_c268 : List AmIns := [(0, 0, 3, 0, []), (24, 12, 10, 3, []), (0, 1, 0, 0, []), (32, 0, 3, 0, []), (26, 0, 0, 0, []), (24, 11, 17, 0, []), (2, 0, 0, 1, []), (8, 0, 0, 0, []), (25, 11, 17, 0, []), (0, 0, 3, 0, []), (0, 0, 3, 0, []), (0, 0, 3, 0, []), (24, 12, 10, 3, []), (0, 1, 0, 0, []), (32, 0, 3, 0, []), (0, 0, 3, 0, []), (24, 12, 10, 3, []), (0, 1, 0, 0, []), (32, 0, 3, 0, []), (24, 11, 16, 0, []), (0, 0, 3, 0, []), (24, 12, 59, 3, []), (0, 2, 0, 0, []), (0, 3, 0, 0, []), (40, 262, 6, 0, []), (25, 12, 40, 0, []), (41, 0, 9, 0, [])]
/-- 269: HornBenchModel.call(I)Z -/
def am_c269 : List AmIns := [(0, 0, 3, 0, []), (24, 12, 31, 0, []), (1, 2, 0, 0, []), (0, 0, 3, 0, []), (24, 12, 19, 0, []), (1, 3, 0, 0, []), (0, 0, 3, 0, []), (24, 12, 24, 0, []), (1, 4, 0, 0, []), (0, 0, 3, 0, []), (24, 12, 33, 0, []), (1, 5, 0, 0, []), (0, 0, 3, 0, []), (24, 12, 40, 0, []), (1, 6, 0, 0, []), (0, 0, 3, 0, []), (0, 1, 0, 0, []), (2, 0, 0, 0, []), (40, 266, 3, 0, []), (1, 7, 0, 0, []), (0, 7, 0, 0, []), (2, 0, 0, (-1), []), (19, 66, 0, 0, []), (0, 0, 3, 0, []), (0, 7, 0, 0, []), (0, 1, 0, 0, []), (40, 267, 3, 0, []), (18, 29, 1, 0, []), (22, 58, 0, 0, []), (0, 0, 3, 0, []), (24, 12, 41, 0, []), (1, 8, 0, 0, []), (0, 0, 3, 0, []), (0, 1, 0, 0, []), (0, 7, 0, 0, []), (2, 0, 0, 1, []), (8, 0, 0, 0, []), (40, 266, 3, 0, []), (1, 9, 0, 0, []), (0, 9, 0, 0, []), (2, 0, 0, (-1), []), (19, 51, 0, 0, []), (0, 0, 3, 0, []), (2, 0, 0, 0, []), (0, 1, 0, 0, []), (0, 9, 0, 0, []), (0, 2, 0, 0, []), (0, 3, 0, 0, []), (0, 4, 0, 0, []), (0, 5, 0, 0, []), (40, 264, 8, 0, []), (0, 0, 3, 0, []), (0, 7, 0, 0, []), (0, 8, 0, 0, []), (0, 6, 0, 0, []), (40, 268, 4, 0, []), (2, 0, 0, 1, []), (41, 0, 10, 0, []), (0, 0, 3, 0, []), (0, 1, 0, 0, []), (0, 7, 0, 0, []), (2, 0, 0, 1, []), (8, 0, 0, 0, []), (40, 266, 3, 0, []), (1, 7, 0, 0, []), (22, 20, 0, 0, []), (2, 0, 0, 0, []), (41, 0, 10, 0, [])]
/-- 270: HornBenchModel.goOn()V -/
def am_c270 : List AmIns := [(0, 0, 3, 0, []), (24, 12, 41, 0, []), (2, 0, 0, 1, []), (8, 0, 1, 0, []), (1, 1, 0, 0, []), (0, 0, 3, 0, []), (24, 12, 44, 3, []), (0, 1, 0, 0, []), (32, 0, 0, 0, []), (1, 2, 0, 0, []), (0, 0, 3, 0, []), (24, 12, 45, 3, []), (0, 1, 0, 0, []), (32, 0, 0, 0, []), (1, 3, 0, 0, []), (0, 0, 3, 0, []), (0, 3, 0, 0, []), (0, 2, 0, 0, []), (40, 267, 3, 0, []), (27, 0, 0, 0, []), (0, 0, 3, 0, []), (0, 2, 0, 0, []), (0, 3, 0, 0, []), (2, 0, 0, 1, []), (8, 0, 0, 0, []), (40, 266, 3, 0, []), (1, 4, 0, 0, []), (0, 0, 3, 0, []), (24, 12, 43, 3, []), (0, 1, 0, 0, []), (32, 0, 0, 0, []), (1, 5, 0, 0, []), (0, 4, 0, 0, []), (2, 0, 0, (-1), []), (19, 42, 1, 0, []), (0, 0, 3, 0, []), (26, 0, 0, 0, []), (24, 12, 41, 0, []), (2, 0, 0, 1, []), (8, 0, 1, 0, []), (25, 12, 41, 0, []), (22, 47, 0, 0, []), (0, 0, 3, 0, []), (24, 12, 45, 3, []), (0, 1, 0, 0, []), (0, 4, 0, 0, []), (33, 61, 11, 0, []), (0, 0, 3, 0, []), (0, 3, 0, 0, []), (0, 1, 0, 0, []), (0, 5, 0, 0, []), (40, 268, 4, 0, []), (41, 0, 9, 0, [])]
/-- 271: HornBenchModel.canGoOn()Z -/
def am_c271 : List AmIns := [(0, 0, 3, 0, []), (24, 12, 41, 0, []), (2, 0, 0, 1, []), (8, 0, 1, 0, []), (1, 1, 0, 0, []), (0, 0, 3, 0, []), (24, 12, 45, 3, []), (0, 1, 0, 0, []), (32, 0, 0, 0, []), (1, 2, 0, 0, []), (0, 2, 0, 0, []), (2, 0, 0, (-1), []), (19, 58, 0, 0, []), (0, 0, 3, 0, []), (24, 12, 19, 0, []), (1, 3, 0, 0, []), (0, 0, 3, 0, []), (24, 12, 24, 0, []), (1, 4, 0, 0, []), (0, 0, 3, 0, []), (24, 12, 31, 0, []), (1, 5, 0, 0, []), (0, 0, 3, 0, []), (0, 2, 0, 0, []), (0, 0, 3, 0, []), (24, 12, 44, 3, []), (0, 1, 0, 0, []), (32, 0, 0, 0, []), (40, 267, 3, 0, []), (18, 31, 1, 0, []), (22, 47, 0, 0, []), (0, 0, 3, 0, []), (0, 5, 0, 0, []), (40, 249, 2, 0, []), (0, 0, 3, 0, []), (0, 3, 0, 0, []), (25, 12, 19, 0, []), (0, 0, 3, 0, []), (0, 4, 0, 0, []), (25, 12, 24, 0, []), (0, 0, 3, 0, []), (24, 12, 45, 3, []), (0, 1, 0, 0, []), (0, 2, 0, 0, []), (33, 61, 11, 0, []), (2, 0, 0, 1, []), (41, 0, 10, 0, []), (0, 0, 3, 0, []), (0, 0, 3, 0, []), (24, 12, 44, 3, []), (0, 1, 0, 0, []), (32, 0, 0, 0, []), (0, 2, 0, 0, []), (2, 0, 0, 1, []), (8, 0, 0, 0, []), (40, 266, 3, 0, []), (1, 2, 0, 0, []), (22, 10, 0, 0, []), (2, 0, 0, 0, []), (41, 0, 10, 0, [])]
/-- 272: HornBenchModel.compared(III)Z -/
def am_c272 : List AmIns := [(0, 1, 0, 0, []), (2, 0, 0, 10, []), (19, 10, 1, 0, []), (0, 2, 0, 0, []), (0, 3, 0, 0, []), (19, 8, 3, 0, []), (2, 0, 0, 1, []), (22, 36, 0, 0, []), (2, 0, 0, 0, []), (22, 36, 0, 0, []), (0, 1, 0, 0, []), (2, 0, 0, 11, []), (19, 20, 1, 0, []), (0, 2, 0, 0, []), (0, 3, 0, 0, []), (19, 18, 5, 0, []), (2, 0, 0, 1, []), (22, 36, 0, 0, []), (2, 0, 0, 0, []), (22, 36, 0, 0, []), (0, 1, 0, 0, []), (2, 0, 0, 12, []), (19, 30, 1, 0, []), (0, 2, 0, 0, []), (0, 3, 0, 0, []), (19, 28, 4, 0, []), (2, 0, 0, 1, []), (22, 36, 0, 0, []), (2, 0, 0, 0, []), (22, 36, 0, 0, []), (0, 2, 0, 0, []), (0, 3, 0, 0, []), (19, 35, 2, 0, []), (2, 0, 0, 1, []), (22, 36, 0, 0, []), (2, 0, 0, 0, []), (41, 0, 10, 0, [])]
/-- 273: HornBenchModel.done(I)Z -/
def am_c273 : List AmIns := [(0, 0, 3, 0, []), (24, 12, 35, 3, []), (0, 1, 0, 0, []), (32, 0, 0, 0, []), (1, 2, 0, 0, []), (0, 0, 3, 0, []), (24, 12, 36, 3, []), (0, 1, 0, 0, []), (32, 0, 0, 0, []), (1, 3, 0, 0, []), (0, 0, 3, 0, []), (24, 12, 34, 3, []), (0, 1, 0, 0, []), (32, 0, 0, 0, []), (23, 134, 0, 0, [(0, 15), (1, 21), (2, 35), (3, 37), (4, 39), (5, 75), (6, 134), (7, 86), (8, 91), (9, 108), (10, 134), (11, 134), (12, 134), (13, 134), (14, 113)]), (0, 0, 3, 0, []), (0, 0, 3, 0, []), (0, 2, 0, 0, []), (40, 246, 2, 0, []), (40, 269, 2, 0, []), (41, 0, 10, 0, []), (0, 0, 3, 0, []), (26, 0, 0, 0, []), (24, 12, 18, 0, []), (2, 0, 0, 1, []), (8, 0, 0, 0, []), (25, 12, 18, 0, []), (0, 0, 3, 0, []), (0, 0, 3, 0, []), (24, 12, 39, 3, []), (0, 1, 0, 0, []), (32, 0, 0, 0, []), (25, 12, 41, 0, []), (2, 0, 0, 1, []), (41, 0, 10, 0, []), (2, 0, 0, 1, []), (41, 0, 10, 0, []), (2, 0, 0, 0, []), (41, 0, 10, 0, []), (0, 0, 3, 0, []), (24, 12, 41, 0, []), (1, 4, 0, 0, []), (0, 0, 3, 0, []), (2, 0, 0, 1, []), (2, 0, 0, (-1), []), (2, 0, 0, (-1), []), (0, 0, 3, 0, []), (24, 12, 31, 0, []), (0, 0, 3, 0, []), (24, 12, 19, 0, []), (0, 0, 3, 0, []), (24, 12, 24, 0, []), (0, 0, 3, 0, []), (24, 12, 33, 0, []), (40, 264, 8, 0, []), (0, 0, 3, 0, []), (2, 0, 0, 6, []), (0, 4, 0, 0, []), (0, 0, 3, 0, []), (24, 12, 40, 0, []), (40, 261, 4, 0, []), (1, 5, 0, 0, []), (0, 0, 3, 0, []), (0, 0, 3, 0, []), (0, 0, 3, 0, []), (24, 12, 37, 3, []), (0, 1, 0, 0, []), (32, 0, 0, 0, []), (0, 0, 3, 0, []), (24, 12, 41, 0, []), (0, 5, 0, 0, []), (40, 263, 4, 0, []), (25, 12, 40, 0, []), (2, 0, 0, 1, []), (41, 0, 10, 0, []), (0, 0, 3, 0, []), (24, 12, 20, 3, []), (0, 0, 3, 0, []), (0, 2, 0, 0, []), (40, 246, 2, 0, []), (32, 0, 0, 0, []), (18, 84, 1, 0, []), (2, 0, 0, 1, []), (22, 85, 0, 0, []), (2, 0, 0, 0, []), (41, 0, 10, 0, []), (0, 0, 3, 0, []), (0, 2, 0, 0, []), (0, 3, 0, 0, []), (40, 254, 3, 0, []), (41, 0, 10, 0, []), (0, 0, 3, 0, []), (24, 12, 31, 0, []), (1, 4, 0, 0, []), (0, 0, 3, 0, []), (0, 2, 0, 0, []), (0, 3, 0, 0, []), (40, 254, 3, 0, []), (1, 5, 0, 0, []), (0, 0, 3, 0, []), (0, 4, 0, 0, []), (40, 249, 2, 0, []), (0, 5, 0, 0, []), (18, 106, 1, 0, []), (2, 0, 0, 1, []), (22, 107, 0, 0, []), (2, 0, 0, 0, []), (41, 0, 10, 0, []), (0, 0, 3, 0, []), (0, 2, 0, 0, []), (0, 3, 0, 0, []), (40, 255, 3, 0, []), (41, 0, 10, 0, []), (0, 0, 3, 0, []), (0, 3, 0, 0, []), (40, 256, 2, 0, []), (1, 4, 0, 0, []), (0, 0, 3, 0, []), (24, 12, 58, 10, []), (18, 132, 1, 0, []), (0, 0, 3, 0, []), (0, 2, 0, 0, []), (0, 0, 3, 0, []), (2, 0, 0, 1, []), (0, 4, 0, 0, []), (14, 0, 0, 0, []), (2, 0, 0, 0, []), (40, 244, 4, 0, []), (40, 254, 3, 0, []), (18, 132, 0, 0, []), (2, 0, 0, 1, []), (22, 133, 0, 0, []), (2, 0, 0, 0, []), (41, 0, 10, 0, []), (0, 0, 3, 0, []), (0, 2, 0, 0, []), (40, 256, 2, 0, []), (1, 4, 0, 0, []), (0, 0, 3, 0, []), (24, 12, 58, 10, []), (18, 143, 0, 0, []), (2, 0, 0, 0, []), (41, 0, 10, 0, []), (0, 0, 3, 0, []), (0, 3, 0, 0, []), (40, 256, 2, 0, []), (1, 5, 0, 0, []), (0, 0, 3, 0, []), (24, 12, 58, 10, []), (18, 161, 1, 0, []), (0, 0, 3, 0, []), (0, 0, 3, 0, []), (24, 12, 34, 3, []), (0, 1, 0, 0, []), (32, 0, 0, 0, []), (0, 4, 0, 0, []), (0, 5, 0, 0, []), (40, 272, 4, 0, []), (18, 161, 0, 0, []), (2, 0, 0, 1, []), (22, 162, 0, 0, []), (2, 0, 0, 0, []), (41, 0, 10, 0, [])]
/-- 274: HornBenchModel.step()V -/
def am_c274 : List AmIns := [(0, 0, 3, 0, []), (2, 0, 0, 0, []), (25, 12, 58, 10, []), (2, 0, 0, 1, []), (1, 1, 0, 0, []), (0, 0, 3, 0, []), (26, 0, 0, 0, []), (24, 12, 16, 0, []), (2, 0, 0, 1, []), (8, 0, 0, 0, []), (25, 12, 16, 0, []), (0, 0, 3, 0, []), (24, 12, 50, 10, []), (18, 20, 0, 0, []), (0, 0, 3, 0, []), (2, 0, 0, 0, []), (25, 12, 50, 10, []), (0, 0, 3, 0, []), (40, 270, 1, 0, []), (22, 33, 0, 0, []), (0, 0, 3, 0, []), (24, 12, 40, 0, []), (1, 2, 0, 0, []), (0, 0, 3, 0, []), (0, 0, 3, 0, []), (24, 12, 38, 3, []), (0, 2, 0, 0, []), (32, 0, 0, 0, []), (25, 12, 40, 0, []), (0, 0, 3, 0, []), (0, 2, 0, 0, []), (40, 273, 2, 0, []), (1, 1, 0, 0, []), (0, 0, 3, 0, []), (24, 12, 58, 10, []), (18, 40, 0, 0, []), (0, 0, 3, 0, []), (2, 0, 0, 3, []), (25, 12, 15, 0, []), (22, 43, 0, 0, []), (0, 0, 3, 0, []), (0, 1, 0, 0, []), (40, 275, 2, 0, []), (41, 0, 9, 0, [])]
/-- 275: HornBenchModel.settle(Z)V -/
def am_c275 : List AmIns := [(0, 1, 0, 0, []), (18, 4, 1, 0, []), (2, 0, 0, 1, []), (22, 5, 0, 0, []), (2, 0, 0, 0, []), (1, 2, 0, 0, []), (0, 2, 0, 0, []), (18, 93, 0, 0, []), (0, 0, 3, 0, []), (24, 12, 41, 0, []), (18, 21, 1, 0, []), (0, 0, 3, 0, []), (2, 0, 0, 0, []), (40, 249, 2, 0, []), (0, 0, 3, 0, []), (2, 0, 0, (-1), []), (25, 12, 40, 0, []), (0, 0, 3, 0, []), (2, 0, 0, 2, []), (25, 12, 15, 0, []), (41, 0, 9, 0, []), (0, 0, 3, 0, []), (24, 12, 41, 0, []), (2, 0, 0, 1, []), (8, 0, 1, 0, []), (1, 3, 0, 0, []), (0, 0, 3, 0, []), (0, 0, 3, 0, []), (24, 12, 46, 3, []), (0, 3, 0, 0, []), (32, 0, 0, 0, []), (40, 249, 2, 0, []), (0, 0, 3, 0, []), (0, 0, 3, 0, []), (24, 12, 47, 3, []), (0, 3, 0, 0, []), (32, 0, 0, 0, []), (25, 12, 19, 0, []), (0, 0, 3, 0, []), (0, 0, 3, 0, []), (24, 12, 48, 3, []), (0, 3, 0, 0, []), (32, 0, 0, 0, []), (25, 12, 24, 0, []), (0, 0, 3, 0, []), (0, 0, 3, 0, []), (24, 12, 49, 3, []), (0, 3, 0, 0, []), (32, 0, 0, 0, []), (25, 12, 33, 0, []), (0, 0, 3, 0, []), (0, 0, 3, 0, []), (24, 12, 43, 3, []), (0, 3, 0, 0, []), (32, 0, 0, 0, []), (25, 12, 40, 0, []), (0, 0, 3, 0, []), (24, 12, 42, 3, []), (0, 3, 0, 0, []), (32, 0, 11, 0, []), (18, 70, 0, 0, []), (0, 0, 3, 0, []), (26, 0, 0, 0, []), (24, 12, 41, 0, []), (2, 0, 0, 1, []), (8, 0, 1, 0, []), (25, 12, 41, 0, []), (2, 0, 0, 0, []), (1, 2, 0, 0, []), (22, 92, 0, 0, []), (0, 0, 3, 0, []), (40, 271, 1, 0, []), (18, 86, 0, 0, []), (0, 0, 3, 0, []), (2, 0, 0, 1, []), (25, 12, 50, 10, []), (0, 0, 3, 0, []), (0, 0, 3, 0, []), (24, 12, 16, 0, []), (2, 0, 0, 1000, []), (19, 83, 1, 0, []), (2, 0, 0, 4, []), (22, 84, 0, 0, []), (2, 0, 0, 0, []), (25, 12, 15, 0, []), (41, 0, 9, 0, []), (0, 0, 3, 0, []), (26, 0, 0, 0, []), (24, 12, 41, 0, []), (2, 0, 0, 1, []), (8, 0, 1, 0, []), (25, 12, 41, 0, []), (22, 6, 0, 0, []), (0, 0, 3, 0, []), (24, 12, 40, 0, []), (2, 0, 0, (-1), []), (19, 107, 1, 0, []), (0, 0, 3, 0, []), (26, 0, 0, 0, []), (24, 12, 17, 0, []), (2, 0, 0, 1, []), (8, 0, 0, 0, []), (25, 12, 17, 0, []), (0, 0, 3, 0, []), (2, 0, 0, 1, []), (25, 12, 15, 0, []), (41, 0, 9, 0, []), (0, 0, 3, 0, []), (24, 12, 34, 3, []), (0, 0, 3, 0, []), (24, 12, 40, 0, []), (32, 0, 0, 0, []), (2, 0, 0, 6, []), (19, 124, 1, 0, []), (0, 0, 3, 0, []), (0, 0, 3, 0, []), (24, 12, 39, 3, []), (0, 0, 3, 0, []), (24, 12, 40, 0, []), (32, 0, 0, 0, []), (25, 12, 41, 0, []), (2, 0, 0, 1, []), (1, 2, 0, 0, []), (22, 6, 0, 0, []), (0, 0, 3, 0, []), (0, 0, 3, 0, []), (24, 12, 16, 0, []), (2, 0, 0, 1000, []), (19, 131, 1, 0, []), (2, 0, 0, 4, []), (22, 132, 0, 0, []), (2, 0, 0, 0, []), (25, 12, 15, 0, []), (41, 0, 9, 0, [])]
/-- 276: HornBenchModel.run(I)I -/
def am_c276 : List AmIns := [(0, 0, 3, 0, []), (2, 0, 0, 0, []), (25, 12, 0, 0, []), (0, 1, 0, 0, []), (2, 0, 0, 1, []), (2, 0, 0, 500, []), (40, 188, 3, 2, []), (18, 12, 1, 0, []), (0, 0, 3, 0, []), (2, 0, 0, 1, []), (40, 187, 2, 0, []), (41, 0, 0, 0, []), (0, 0, 3, 0, []), (24, 12, 13, 3, []), (20, 19, 1, 0, []), (0, 0, 3, 0, []), (2, 0, 0, 2, []), (40, 187, 2, 0, []), (41, 0, 0, 0, []), (0, 0, 3, 0, []), (24, 12, 16, 0, []), (1, 2, 0, 0, []), (0, 0, 3, 0, []), (24, 12, 15, 0, []), (2, 0, 0, 1, []), (19, 29, 1, 0, []), (0, 0, 3, 0, []), (2, 0, 0, 0, []), (40, 275, 2, 0, []), (0, 0, 3, 0, []), (24, 12, 15, 0, []), (18, 41, 1, 0, []), (0, 0, 3, 0, []), (24, 12, 16, 0, []), (0, 2, 0, 0, []), (8, 0, 1, 0, []), (0, 1, 0, 0, []), (19, 41, 3, 0, []), (0, 0, 3, 0, []), (40, 274, 1, 0, []), (22, 29, 0, 0, []), (0, 0, 3, 0, []), (24, 12, 16, 0, []), (0, 2, 0, 0, []), (8, 0, 1, 0, []), (41, 0, 0, 0, [])]
/-- 277: HornBenchModel.status()I -/
def am_c277 : List AmIns := [(0, 0, 3, 0, []), (2, 0, 0, 0, []), (25, 12, 0, 0, []), (0, 0, 3, 0, []), (24, 12, 15, 0, []), (41, 0, 0, 0, [])]
/-- 278: HornBenchModel.put(I)V -/
def am_c278 : List AmIns := [(0, 0, 3, 0, []), (24, 12, 12, 0, []), (2, 0, 0, 600, []), (19, 10, 3, 0, []), (0, 0, 3, 0, []), (24, 12, 11, 3, []), (0, 0, 3, 0, []), (24, 12, 12, 0, []), (0, 1, 0, 0, []), (33, 61, 11, 0, []), (0, 0, 3, 0, []), (26, 0, 0, 0, []), (24, 12, 12, 0, []), (2, 0, 0, 1, []), (8, 0, 0, 0, []), (25, 12, 12, 0, []), (41, 0, 9, 0, [])]
/-- 279: HornBenchModel.put(Ljava/lang/String;)V -/
def am_c279 : List AmIns := [(2, 0, 0, 0, []), (1, 2, 0, 0, []), (0, 2, 0, 0, []), (0, 1, 3, 0, []), (40, 300, 1, 0, []), (19, 13, 3, 0, []), (0, 0, 3, 0, []), (0, 1, 3, 0, []), (0, 2, 0, 0, []), (40, 301, 2, 0, []), (40, 278, 2, 0, []), (17, 2, 0, 1, []), (22, 2, 0, 0, []), (41, 0, 9, 0, [])]
/-- 280: HornBenchModel.isFull()Z -/
def am_c280 : List AmIns := [(0, 0, 3, 0, []), (24, 12, 12, 0, []), (2, 0, 0, 600, []), (19, 6, 5, 0, []), (2, 0, 0, 1, []), (22, 7, 0, 0, []), (2, 0, 0, 0, []), (41, 0, 10, 0, [])]
/-- 281: HornBenchModel.putNumber(J)V -/
def am_c281 : List AmIns := [(0, 1, 1, 0, []), (3, 0, 0, 0, []), (13, 0, 0, 0, []), (18, 7, 3, 0, []), (0, 0, 3, 0, []), (2, 0, 0, 45, []), (40, 278, 2, 0, []), (0, 1, 1, 0, []), (40, 297, 1, 2, []), (1, 3, 1, 0, []), (0, 3, 1, 0, []), (3, 0, 0, 9, []), (13, 0, 0, 0, []), (18, 19, 5, 0, []), (0, 0, 3, 0, []), (0, 3, 1, 0, []), (3, 0, 0, 10, []), (10, 0, 3, 0, []), (40, 282, 2, 0, []), (0, 0, 3, 0, []), (3, 0, 0, 48, []), (0, 3, 1, 0, []), (3, 0, 0, 10, []), (10, 0, 4, 0, []), (10, 0, 0, 0, []), (14, 0, 1, 0, []), (40, 278, 2, 0, []), (41, 0, 9, 0, [])]
/-- 282: HornBenchModel.putDigits(J)V -/
def am_c282 : List AmIns := [(0, 1, 1, 0, []), (3, 0, 0, 9, []), (13, 0, 0, 0, []), (18, 9, 5, 0, []), (0, 0, 3, 0, []), (0, 1, 1, 0, []), (3, 0, 0, 10, []), (10, 0, 3, 0, []), (40, 282, 2, 0, []), (0, 0, 3, 0, []), (3, 0, 0, 48, []), (0, 1, 1, 0, []), (3, 0, 0, 10, []), (10, 0, 4, 0, []), (10, 0, 0, 0, []), (14, 0, 1, 0, []), (40, 278, 2, 0, []), (41, 0, 9, 0, [])]
/-- 283: HornBenchModel.putName(J)V -/
def am_c283 : List AmIns := [(0, 1, 1, 0, []), (3, 0, 0, 64, []), (13, 0, 0, 0, []), (18, 9, 2, 0, []), (0, 0, 3, 0, []), (0, 1, 1, 0, []), (3, 0, 0, 64, []), (10, 0, 3, 0, []), (40, 283, 2, 0, []), (0, 1, 1, 0, []), (3, 0, 0, 64, []), (10, 0, 4, 0, []), (14, 0, 1, 0, []), (1, 3, 0, 0, []), (0, 0, 3, 0, []), (0, 3, 0, 0, []), (2, 0, 0, 11, []), (19, 22, 3, 0, []), (0, 3, 0, 0, []), (2, 0, 0, 47, []), (8, 0, 0, 0, []), (22, 25, 0, 0, []), (0, 3, 0, 0, []), (2, 0, 0, 86, []), (8, 0, 0, 0, []), (40, 278, 2, 0, []), (41, 0, 9, 0, [])]
/-- 284: HornBenchModel.isSigned(J)Z -/
def am_c284 : List AmIns := [(0, 0, 1, 0, []), (3, 0, 0, (-1), []), (13, 0, 0, 0, []), (18, 10, 4, 0, []), (0, 0, 1, 0, []), (3, 0, 0, (-5), []), (13, 0, 0, 0, []), (18, 10, 2, 0, []), (2, 0, 0, 1, []), (22, 11, 0, 0, []), (2, 0, 0, 0, []), (41, 0, 10, 0, [])]
/-- 285: HornBenchModel.putFree(I)V -/
def am_c285 : List AmIns := [(2, 0, 0, 0, []), (1, 2, 0, 0, []), (0, 2, 0, 0, []), (0, 0, 3, 0, []), (24, 12, 60, 0, []), (19, 14, 3, 0, []), (0, 0, 3, 0, []), (24, 12, 61, 3, []), (0, 2, 0, 0, []), (32, 0, 0, 0, []), (0, 1, 0, 0, []), (19, 14, 0, 0, []), (17, 2, 0, 1, []), (22, 2, 0, 0, []), (0, 2, 0, 0, []), (0, 0, 3, 0, []), (24, 12, 60, 0, []), (19, 30, 1, 0, []), (0, 0, 3, 0, []), (24, 12, 61, 3, []), (0, 0, 3, 0, []), (24, 12, 60, 0, []), (0, 1, 0, 0, []), (33, 61, 11, 0, []), (0, 0, 3, 0, []), (26, 0, 0, 0, []), (24, 12, 60, 0, []), (2, 0, 0, 1, []), (8, 0, 0, 0, []), (25, 12, 60, 0, []), (0, 0, 3, 0, []), (2, 0, 0, 95, []), (40, 278, 2, 0, []), (0, 0, 3, 0, []), (0, 2, 0, 0, []), (14, 0, 0, 0, []), (40, 281, 2, 0, []), (41, 0, 9, 0, [])]
/-- 286: HornBenchModel.putTerm(IZ)V -/
def am_c286 : List AmIns := [(0, 0, 3, 0, []), (0, 1, 0, 0, []), (40, 246, 2, 0, []), (1, 3, 0, 0, []), (0, 0, 3, 0, []), (40, 280, 1, 0, []), (18, 8, 0, 0, []), (41, 0, 9, 0, []), (0, 0, 3, 0, []), (24, 12, 21, 3, []), (0, 3, 0, 0, []), (32, 0, 1, 0, []), (1, 4, 1, 0, []), (0, 0, 3, 0, []), (24, 12, 20, 3, []), (0, 3, 0, 0, []), (32, 0, 0, 0, []), (2, 0, 0, 1, []), (19, 23, 1, 0, []), (0, 0, 3, 0, []), (0, 4, 1, 0, []), (40, 281, 2, 0, []), (22, 192, 0, 0, []), (0, 0, 3, 0, []), (24, 12, 20, 3, []), (0, 3, 0, 0, []), (32, 0, 0, 0, []), (18, 32, 1, 0, []), (0, 0, 3, 0, []), (0, 3, 0, 0, []), (40, 285, 2, 0, []), (22, 192, 0, 0, []), (0, 4, 1, 0, []), (3, 0, 0, (-7), []), (13, 0, 0, 0, []), (18, 40, 1, 0, []), (0, 0, 3, 0, []), (6, 34, 0, 0, []), (40, 279, 2, 0, []), (22, 192, 0, 0, []), (0, 4, 1, 0, []), (3, 0, 0, (-6), []), (13, 0, 0, 0, []), (18, 115, 1, 0, []), (0, 0, 3, 0, []), (2, 0, 0, 91, []), (40, 278, 2, 0, []), (0, 0, 3, 0, []), (0, 0, 3, 0, []), (0, 3, 0, 0, []), (2, 0, 0, 0, []), (40, 247, 3, 0, []), (2, 0, 0, 0, []), (40, 286, 3, 0, []), (0, 0, 3, 0, []), (0, 3, 0, 0, []), (2, 0, 0, 1, []), (40, 247, 3, 0, []), (1, 6, 0, 0, []), (0, 0, 3, 0, []), (24, 12, 20, 3, []), (0, 6, 0, 0, []), (32, 0, 0, 0, []), (2, 0, 0, 2, []), (19, 91, 1, 0, []), (0, 0, 3, 0, []), (24, 12, 21, 3, []), (0, 6, 0, 0, []), (32, 0, 1, 0, []), (3, 0, 0, (-6), []), (13, 0, 0, 0, []), (18, 91, 1, 0, []), (0, 0, 3, 0, []), (40, 280, 1, 0, []), (18, 91, 1, 0, []), (0, 0, 3, 0, []), (2, 0, 0, 44, []), (40, 278, 2, 0, []), (0, 0, 3, 0, []), (0, 0, 3, 0, []), (0, 6, 0, 0, []), (2, 0, 0, 0, []), (40, 247, 3, 0, []), (2, 0, 0, 0, []), (40, 286, 3, 0, []), (0, 0, 3, 0, []), (0, 6, 0, 0, []), (2, 0, 0, 1, []), (40, 247, 3, 0, []), (1, 6, 0, 0, []), (22, 59, 0, 0, []), (0, 0, 3, 0, []), (24, 12, 20, 3, []), (0, 6, 0, 0, []), (32, 0, 0, 0, []), (2, 0, 0, 2, []), (19, 104, 1, 0, []), (0, 0, 3, 0, []), (24, 12, 21, 3, []), (0, 6, 0, 0, []), (32, 0, 1, 0, []), (3, 0, 0, (-7), []), (13, 0, 0, 0, []), (18, 111, 0, 0, []), (0, 0, 3, 0, []), (2, 0, 0, 124, []), (40, 278, 2, 0, []), (0, 0, 3, 0, []), (0, 6, 0, 0, []), (2, 0, 0, 0, []), (40, 286, 3, 0, []), (0, 0, 3, 0, []), (2, 0, 0, 93, []), (40, 278, 2, 0, []), (22, 192, 0, 0, []), (0, 4, 1, 0, []), (40, 284, 1, 2, []), (18, 157, 0, 0, []), (0, 2, 0, 0, []), (18, 123, 0, 0, []), (0, 0, 3, 0, []), (2, 0, 0, 40, []), (40, 278, 2, 0, []), (0, 0, 3, 0, []), (0, 0, 3, 0, []), (0, 3, 0, 0, []), (2, 0, 0, 0, []), (40, 247, 3, 0, []), (2, 0, 0, 1, []), (40, 286, 3, 0, []), (0, 0, 3, 0, []), (0, 4, 1, 0, []), (3, 0, 0, (-5), []), (13, 0, 0, 0, []), (18, 137, 1, 0, []), (6, 35, 0, 0, []), (22, 143, 0, 0, []), (6, 3, 1, 0, []), (3, 0, 0, (-1), []), (0, 4, 1, 0, []), (10, 0, 1, 0, []), (14, 0, 1, 0, []), (32, 0, 3, 0, []), (40, 279, 2, 0, []), (0, 0, 3, 0, []), (0, 0, 3, 0, []), (0, 3, 0, 0, []), (2, 0, 0, 1, []), (40, 247, 3, 0, []), (2, 0, 0, 1, []), (40, 286, 3, 0, []), (0, 2, 0, 0, []), (18, 192, 0, 0, []), (0, 0, 3, 0, []), (2, 0, 0, 41, []), (40, 278, 2, 0, []), (22, 192, 0, 0, []), (0, 0, 3, 0, []), (0, 4, 1, 0, []), (40, 283, 2, 0, []), (2, 0, 0, 0, []), (1, 6, 0, 0, []), (0, 6, 0, 0, []), (0, 0, 3, 0, []), (24, 12, 23, 3, []), (0, 3, 0, 0, []), (32, 0, 0, 0, []), (19, 184, 3, 0, []), (0, 0, 3, 0, []), (0, 6, 0, 0, []), (18, 173, 1, 0, []), (2, 0, 0, 40, []), (22, 174, 0, 0, []), (2, 0, 0, 44, []), (40, 278, 2, 0, []), (0, 0, 3, 0, []), (0, 0, 3, 0, []), (0, 3, 0, 0, []), (0, 6, 0, 0, []), (40, 247, 3, 0, []), (2, 0, 0, 0, []), (40, 286, 3, 0, []), (17, 6, 0, 1, []), (22, 162, 0, 0, []), (0, 0, 3, 0, []), (24, 12, 23, 3, []), (0, 3, 0, 0, []), (32, 0, 0, 0, []), (18, 192, 5, 0, []), (0, 0, 3, 0, []), (2, 0, 0, 41, []), (40, 278, 2, 0, []), (41, 0, 9, 0, [])]
/-- 287: HornBenchModel.isVariable(I)Z -/
def am_c287 : List AmIns := [(0, 0, 3, 0, []), (24, 12, 13, 3, []), (20, 14, 0, 0, []), (0, 1, 0, 0, []), (2, 0, 0, 0, []), (0, 0, 3, 0, []), (24, 12, 13, 3, []), (24, 11, 8, 0, []), (2, 0, 0, 1, []), (8, 0, 1, 0, []), (40, 188, 3, 2, []), (18, 14, 0, 0, []), (2, 0, 0, 1, []), (22, 15, 0, 0, []), (2, 0, 0, 0, []), (41, 0, 10, 0, [])]
/-- 288: HornBenchModel.kept([II)I -/
def am_c288 : List AmIns := [(0, 0, 3, 0, []), (40, 280, 1, 0, []), (18, 6, 1, 0, []), (0, 0, 3, 0, []), (24, 12, 12, 0, []), (41, 0, 0, 0, []), (0, 1, 3, 0, []), (2, 0, 0, 0, []), (0, 0, 3, 0, []), (24, 12, 11, 3, []), (2, 0, 0, 0, []), (2, 0, 0, 600, []), (36, 0, 0, 0, []), (0, 0, 3, 0, []), (0, 2, 0, 0, []), (25, 12, 12, 0, []), (2, 0, 0, (-1), []), (41, 0, 0, 0, [])]
/-- 289: HornBenchModel.write(I)I -/
def am_c289 : List AmIns := [(0, 0, 3, 0, []), (2, 0, 0, 0, []), (25, 12, 0, 0, []), (0, 0, 3, 0, []), (0, 1, 0, 0, []), (40, 287, 2, 0, []), (18, 11, 1, 0, []), (0, 0, 3, 0, []), (2, 0, 0, 1, []), (40, 187, 2, 0, []), (41, 0, 0, 0, []), (0, 0, 3, 0, []), (24, 12, 11, 3, []), (37, 0, 0, 0, []), (34, 0, 0, 0, []), (1, 2, 3, 0, []), (0, 0, 3, 0, []), (24, 12, 12, 0, []), (1, 3, 0, 0, []), (0, 0, 3, 0, []), (2, 0, 0, 0, []), (25, 12, 12, 0, []), (0, 0, 3, 0, []), (2, 0, 0, 0, []), (25, 12, 60, 0, []), (0, 0, 3, 0, []), (0, 0, 3, 0, []), (24, 12, 14, 3, []), (0, 1, 0, 0, []), (32, 0, 0, 0, []), (2, 0, 0, 0, []), (40, 286, 3, 0, []), (0, 0, 3, 0, []), (0, 2, 3, 0, []), (0, 3, 0, 0, []), (40, 288, 3, 0, []), (1, 4, 0, 0, []), (0, 4, 0, 0, []), (2, 0, 0, (-1), []), (19, 44, 1, 0, []), (0, 0, 3, 0, []), (2, 0, 0, 2, []), (40, 187, 2, 0, []), (22, 45, 0, 0, []), (0, 4, 0, 0, []), (41, 0, 0, 0, [])]
/-- 290: HornBenchModel.putGoal(I)V -/
def am_c290 : List AmIns := [(0, 0, 3, 0, []), (24, 12, 34, 3, []), (0, 1, 0, 0, []), (32, 0, 0, 0, []), (1, 2, 0, 0, []), (0, 2, 0, 0, []), (2, 0, 0, 1, []), (19, 12, 1, 0, []), (0, 0, 3, 0, []), (2, 0, 0, 33, []), (40, 278, 2, 0, []), (22, 115, 0, 0, []), (0, 2, 0, 0, []), (2, 0, 0, 2, []), (19, 19, 1, 0, []), (0, 0, 3, 0, []), (6, 29, 0, 0, []), (40, 279, 2, 0, []), (22, 115, 0, 0, []), (0, 2, 0, 0, []), (2, 0, 0, 3, []), (19, 26, 1, 0, []), (0, 0, 3, 0, []), (6, 30, 0, 0, []), (40, 279, 2, 0, []), (22, 115, 0, 0, []), (0, 2, 0, 0, []), (18, 36, 1, 0, []), (0, 0, 3, 0, []), (0, 0, 3, 0, []), (24, 12, 35, 3, []), (0, 1, 0, 0, []), (32, 0, 0, 0, []), (2, 0, 0, 0, []), (40, 286, 3, 0, []), (22, 115, 0, 0, []), (0, 2, 0, 0, []), (2, 0, 0, 5, []), (19, 53, 1, 0, []), (0, 0, 3, 0, []), (6, 36, 0, 0, []), (40, 279, 2, 0, []), (0, 0, 3, 0, []), (0, 0, 3, 0, []), (24, 12, 35, 3, []), (0, 1, 0, 0, []), (32, 0, 0, 0, []), (2, 0, 0, 0, []), (40, 286, 3, 0, []), (0, 0, 3, 0, []), (2, 0, 0, 41, []), (40, 278, 2, 0, []), (22, 115, 0, 0, []), (0, 2, 0, 0, []), (2, 0, 0, 4, []), (19, 89, 1, 0, []), (0, 0, 3, 0, []), (6, 37, 0, 0, []), (40, 279, 2, 0, []), (0, 0, 3, 0, []), (24, 12, 37, 3, []), (0, 1, 0, 0, []), (32, 0, 0, 0, []), (1, 3, 0, 0, []), (0, 3, 0, 0, []), (2, 0, 0, (-1), []), (19, 85, 0, 0, []), (0, 3, 0, 0, []), (0, 0, 3, 0, []), (24, 12, 37, 3, []), (0, 1, 0, 0, []), (32, 0, 0, 0, []), (19, 76, 0, 0, []), (0, 0, 3, 0, []), (2, 0, 0, 44, []), (40, 278, 2, 0, []), (0, 0, 3, 0, []), (0, 3, 0, 0, []), (40, 290, 2, 0, []), (0, 0, 3, 0, []), (24, 12, 38, 3, []), (0, 3, 0, 0, []), (32, 0, 0, 0, []), (1, 3, 0, 0, []), (22, 64, 0, 0, []), (0, 0, 3, 0, []), (2, 0, 0, 41, []), (40, 278, 2, 0, []), (22, 115, 0, 0, []), (0, 0, 3, 0, []), (0, 0, 3, 0, []), (24, 12, 35, 3, []), (0, 1, 0, 0, []), (32, 0, 0, 0, []), (2, 0, 0, 0, []), (40, 286, 3, 0, []), (0, 0, 3, 0, []), (0, 2, 0, 0, []), (2, 0, 0, 14, []), (19, 102, 1, 0, []), (6, 38, 0, 0, []), (22, 107, 0, 0, []), (6, 2, 1, 0, []), (0, 2, 0, 0, []), (2, 0, 0, 7, []), (8, 0, 1, 0, []), (32, 0, 3, 0, []), (40, 279, 2, 0, []), (0, 0, 3, 0, []), (0, 0, 3, 0, []), (24, 12, 36, 3, []), (0, 1, 0, 0, []), (32, 0, 0, 0, []), (2, 0, 0, 0, []), (40, 286, 3, 0, []), (41, 0, 9, 0, [])]
/-- 291: HornBenchModel.writeGoal()I -/
def am_c291 : List AmIns := [(0, 0, 3, 0, []), (2, 0, 0, 0, []), (25, 12, 0, 0, []), (0, 0, 3, 0, []), (24, 12, 13, 3, []), (20, 10, 1, 0, []), (0, 0, 3, 0, []), (2, 0, 0, 1, []), (40, 187, 2, 0, []), (41, 0, 0, 0, []), (0, 0, 3, 0, []), (24, 12, 11, 3, []), (37, 0, 0, 0, []), (34, 0, 0, 0, []), (1, 1, 3, 0, []), (0, 0, 3, 0, []), (24, 12, 12, 0, []), (1, 2, 0, 0, []), (0, 0, 3, 0, []), (2, 0, 0, 0, []), (25, 12, 12, 0, []), (0, 0, 3, 0, []), (2, 0, 0, 0, []), (25, 12, 60, 0, []), (0, 0, 3, 0, []), (24, 12, 50, 10, []), (18, 47, 1, 0, []), (0, 0, 3, 0, []), (24, 12, 40, 0, []), (2, 0, 0, (-1), []), (19, 47, 0, 0, []), (0, 0, 3, 0, []), (24, 12, 15, 0, []), (2, 0, 0, 1, []), (19, 47, 0, 0, []), (0, 0, 3, 0, []), (24, 12, 15, 0, []), (2, 0, 0, 2, []), (19, 47, 0, 0, []), (0, 0, 3, 0, []), (24, 12, 15, 0, []), (2, 0, 0, 3, []), (19, 47, 0, 0, []), (0, 0, 3, 0, []), (0, 0, 3, 0, []), (24, 12, 40, 0, []), (40, 290, 2, 0, []), (0, 0, 3, 0, []), (0, 1, 3, 0, []), (0, 2, 0, 0, []), (40, 288, 3, 0, []), (1, 3, 0, 0, []), (0, 3, 0, 0, []), (2, 0, 0, (-1), []), (19, 59, 1, 0, []), (0, 0, 3, 0, []), (2, 0, 0, 1, []), (40, 187, 2, 0, []), (22, 60, 0, 0, []), (0, 3, 0, 0, []), (41, 0, 0, 0, [])]
/-- 292: HornBenchModel.byteAt(I)I -/
def am_c292 : List AmIns := [(0, 0, 3, 0, []), (2, 0, 0, 0, []), (25, 12, 0, 0, []), (0, 1, 0, 0, []), (2, 0, 0, 0, []), (0, 0, 3, 0, []), (24, 12, 12, 0, []), (2, 0, 0, 1, []), (8, 0, 1, 0, []), (40, 188, 3, 2, []), (18, 16, 0, 0, []), (0, 0, 3, 0, []), (24, 12, 11, 3, []), (0, 1, 0, 0, []), (32, 0, 0, 0, []), (22, 19, 0, 0, []), (0, 0, 3, 0, []), (2, 0, 0, 1, []), (40, 187, 2, 0, []), (41, 0, 0, 0, [])]
/-- 293: HornBenchModel.number(I)I -/
def am_c293 : List AmIns := [(0, 0, 3, 0, []), (2, 0, 0, 0, []), (25, 12, 0, 0, []), (0, 0, 3, 0, []), (0, 1, 0, 0, []), (40, 287, 2, 0, []), (18, 11, 1, 0, []), (0, 0, 3, 0, []), (2, 0, 0, 1, []), (40, 187, 2, 0, []), (41, 0, 0, 0, []), (0, 0, 3, 0, []), (0, 0, 3, 0, []), (24, 12, 14, 3, []), (0, 1, 0, 0, []), (32, 0, 0, 0, []), (40, 246, 2, 0, []), (1, 2, 0, 0, []), (0, 0, 3, 0, []), (24, 12, 20, 3, []), (0, 2, 0, 0, []), (32, 0, 0, 0, []), (2, 0, 0, 1, []), (19, 30, 1, 0, []), (0, 0, 3, 0, []), (24, 12, 21, 3, []), (0, 2, 0, 0, []), (32, 0, 1, 0, []), (14, 0, 1, 0, []), (22, 33, 0, 0, []), (0, 0, 3, 0, []), (2, 0, 0, 2, []), (40, 187, 2, 0, []), (41, 0, 0, 0, [])]
/-- 294: HornBenchModel.isSame(II)Z -/
def am_c294 : List AmIns := [(0, 0, 3, 0, []), (0, 0, 3, 0, []), (0, 1, 0, 0, []), (40, 287, 2, 0, []), (18, 11, 0, 0, []), (0, 0, 3, 0, []), (0, 2, 0, 0, []), (40, 287, 2, 0, []), (18, 11, 0, 0, []), (2, 0, 0, 0, []), (22, 12, 0, 0, []), (2, 0, 0, 1, []), (25, 12, 0, 0, []), (0, 0, 3, 0, []), (24, 12, 0, 0, []), (18, 29, 1, 0, []), (0, 0, 3, 0, []), (0, 0, 3, 0, []), (24, 12, 14, 3, []), (0, 1, 0, 0, []), (32, 0, 0, 0, []), (0, 0, 3, 0, []), (24, 12, 14, 3, []), (0, 2, 0, 0, []), (32, 0, 0, 0, []), (40, 255, 3, 0, []), (18, 29, 0, 0, []), (2, 0, 0, 1, []), (22, 30, 0, 0, []), (2, 0, 0, 0, []), (41, 0, 10, 0, [])]
/-- 295: HornBenchModel.stepsEach()D -/
def am_c295 : List AmIns := [(0, 0, 3, 0, []), (2, 0, 0, 0, []), (25, 12, 0, 0, []), (0, 0, 3, 0, []), (24, 12, 13, 3, []), (20, 9, 0, 0, []), (0, 0, 3, 0, []), (24, 12, 17, 0, []), (18, 11, 1, 0, []), (4, 0, 0, 0, []), (22, 18, 0, 0, []), (0, 0, 3, 0, []), (24, 12, 16, 0, []), (14, 0, 4, 0, []), (0, 0, 3, 0, []), (24, 12, 17, 0, []), (14, 0, 4, 0, []), (15, 0, 0, 0, []), (41, 0, 2, 0, [])]
/-- 296: HornBenchModel.digest()J -/
def am_c296 : List AmIns := [(0, 0, 3, 0, []), (2, 0, 0, 0, []), (25, 12, 0, 0, []), (3, 0, 0, 389, []), (1, 1, 1, 0, []), (2, 0, 0, 0, []), (1, 3, 0, 0, []), (0, 3, 0, 0, []), (2, 0, 0, 9, []), (19, 21, 3, 0, []), (0, 1, 1, 0, []), (3, 0, 0, 31, []), (10, 0, 2, 0, []), (0, 0, 3, 0, []), (0, 3, 0, 0, []), (40, 240, 2, 0, []), (14, 0, 0, 0, []), (10, 0, 0, 0, []), (1, 1, 1, 0, []), (17, 3, 0, 1, []), (22, 7, 0, 0, []), (0, 1, 1, 0, []), (3, 0, 0, 31, []), (10, 0, 2, 0, []), (0, 0, 3, 0, []), (24, 12, 15, 0, []), (14, 0, 0, 0, []), (10, 0, 0, 0, []), (1, 1, 1, 0, []), (2, 0, 0, 0, []), (1, 3, 0, 0, []), (0, 3, 0, 0, []), (0, 0, 3, 0, []), (24, 12, 9, 0, []), (19, 54, 3, 0, []), (2, 0, 0, 0, []), (1, 4, 0, 0, []), (0, 4, 0, 0, []), (2, 0, 0, 4, []), (19, 52, 3, 0, []), (0, 1, 1, 0, []), (3, 0, 0, 31, []), (10, 0, 2, 0, []), (0, 0, 3, 0, []), (0, 3, 0, 0, []), (0, 4, 0, 0, []), (40, 242, 3, 0, []), (14, 0, 0, 0, []), (10, 0, 0, 0, []), (1, 1, 1, 0, []), (17, 4, 0, 1, []), (22, 37, 0, 0, []), (17, 3, 0, 1, []), (22, 31, 0, 0, []), (2, 0, 0, 0, []), (1, 3, 0, 0, []), (0, 3, 0, 0, []), (0, 0, 3, 0, []), (24, 12, 12, 0, []), (19, 72, 3, 0, []), (0, 1, 1, 0, []), (3, 0, 0, 31, []), (10, 0, 2, 0, []), (0, 0, 3, 0, []), (24, 12, 11, 3, []), (0, 3, 0, 0, []), (32, 0, 0, 0, []), (14, 0, 0, 0, []), (10, 0, 0, 0, []), (1, 1, 1, 0, []), (17, 3, 0, 1, []), (22, 56, 0, 0, []), (0, 1, 1, 0, []), (41, 0, 1, 0, [])]
/-- 297: java/lang/Math.abs(J)J -/
def am_c297 : List AmIns := [(0, 0, 1, 0, []), (3, 0, 0, 0, []), (13, 0, 0, 0, []), (18, 7, 3, 0, []), (0, 0, 1, 0, []), (14, 0, 6, 0, []), (22, 8, 0, 0, []), (0, 0, 1, 0, []), (41, 0, 1, 0, [])]
/-- 298: java/lang/Math.max(II)I -/
def am_c298 : List AmIns := [(0, 0, 0, 0, []), (0, 1, 0, 0, []), (19, 5, 2, 0, []), (0, 0, 0, 0, []), (22, 6, 0, 0, []), (0, 1, 0, 0, []), (41, 0, 0, 0, [])]
/-- 299: java/lang/Math.min(II)I -/
def am_c299 : List AmIns := [(0, 0, 0, 0, []), (0, 1, 0, 0, []), (19, 5, 4, 0, []), (0, 0, 0, 0, []), (22, 6, 0, 0, []), (0, 1, 0, 0, []), (41, 0, 0, 0, [])]
/-- 300: java/lang/String.length()I -/
def am_c300 : List AmIns := [(0, 0, 3, 0, []), (24, 76, 0, 3, []), (31, 0, 0, 0, []), (0, 0, 3, 0, []), (40, 304, 1, 0, []), (8, 0, 8, 0, []), (41, 0, 0, 0, [])]
/-- 301: java/lang/String.charAt(I)C -/
def am_c301 : List AmIns := [(0, 0, 3, 0, []), (40, 305, 1, 0, []), (18, 8, 0, 0, []), (0, 0, 3, 0, []), (24, 76, 0, 3, []), (0, 1, 0, 0, []), (40, 306, 2, 2, []), (41, 0, 12, 0, []), (0, 0, 3, 0, []), (24, 76, 0, 3, []), (0, 1, 0, 0, []), (99, 0, 0, 0, []), (41, 0, 12, 0, [])]
/-- 302: java/lang/String.indexOf(I)I -/
def am_c302 : List AmIns := [(0, 0, 3, 0, []), (0, 1, 0, 0, []), (2, 0, 0, 0, []), (40, 303, 3, 0, []), (41, 0, 0, 0, [])]
/-- 303: java/lang/String.indexOf(II)I -/
def am_c303 : List AmIns := [(0, 0, 3, 0, []), (40, 305, 1, 0, []), (18, 11, 0, 0, []), (0, 0, 3, 0, []), (24, 76, 0, 3, []), (0, 1, 0, 0, []), (0, 2, 0, 0, []), (0, 0, 3, 0, []), (40, 300, 1, 0, []), (40, 308, 4, 2, []), (22, 18, 0, 0, []), (0, 0, 3, 0, []), (24, 76, 0, 3, []), (0, 1, 0, 0, []), (0, 2, 0, 0, []), (0, 0, 3, 0, []), (40, 300, 1, 0, []), (99, 0, 0, 0, []), (41, 0, 0, 0, [])]
/-- 304: java/lang/String.coder()B -/
def am_c304 : List AmIns := [(2, 0, 0, 1, []), (18, 5, 0, 0, []), (0, 0, 3, 0, []), (24, 76, 1, 11, []), (22, 6, 0, 0, []), (2, 0, 0, 1, []), (41, 0, 11, 0, [])]
/-- 305: java/lang/String.isLatin1()Z -/
def am_c305 : List AmIns := [(2, 0, 0, 1, []), (18, 7, 0, 0, []), (0, 0, 3, 0, []), (24, 76, 1, 11, []), (18, 7, 1, 0, []), (2, 0, 0, 1, []), (22, 8, 0, 0, []), (2, 0, 0, 0, []), (41, 0, 10, 0, [])]
/-- 306: java/lang/StringLatin1.charAt([BI)C -/
def am_c306 : List AmIns := [(0, 1, 0, 0, []), (0, 0, 3, 0, []), (31, 0, 0, 0, []), (99, 0, 0, 0, []), (0, 0, 3, 0, []), (0, 1, 0, 0, []), (32, 0, 11, 0, []), (2, 0, 0, 255, []), (8, 0, 5, 0, []), (14, 0, 3, 0, []), (41, 0, 12, 0, [])]
/-- 307: java/lang/StringLatin1.canEncode(I)Z -/
def am_c307 : List AmIns := [(0, 0, 0, 0, []), (18, 7, 2, 0, []), (0, 0, 0, 0, []), (2, 0, 0, 255, []), (19, 7, 4, 0, []), (2, 0, 0, 1, []), (22, 8, 0, 0, []), (2, 0, 0, 0, []), (41, 0, 10, 0, [])]
/-- 308: java/lang/StringLatin1.indexOf([BIII)I -/
def am_c308 : List AmIns := [(0, 1, 0, 0, []), (40, 307, 1, 2, []), (18, 5, 1, 0, []), (2, 0, 0, (-1), []), (41, 0, 0, 0, []), (0, 2, 0, 0, []), (2, 0, 0, 0, []), (40, 298, 2, 2, []), (1, 2, 0, 0, []), (0, 3, 0, 0, []), (0, 0, 3, 0, []), (31, 0, 0, 0, []), (40, 299, 2, 2, []), (1, 3, 0, 0, []), (0, 2, 0, 0, []), (0, 3, 0, 0, []), (19, 19, 2, 0, []), (2, 0, 0, (-1), []), (41, 0, 0, 0, []), (0, 0, 3, 0, []), (0, 1, 0, 0, []), (0, 2, 0, 0, []), (0, 3, 0, 0, []), (40, 309, 4, 2, []), (41, 0, 0, 0, [])]
/-- 309: java/lang/StringLatin1.indexOfChar([BIII)I -/
def am_c309 : List AmIns := [(0, 1, 0, 0, []), (14, 0, 2, 0, []), (1, 4, 0, 0, []), (0, 2, 0, 0, []), (1, 5, 0, 0, []), (0, 5, 0, 0, []), (0, 3, 0, 0, []), (19, 17, 3, 0, []), (0, 0, 3, 0, []), (0, 5, 0, 0, []), (32, 0, 11, 0, []), (0, 4, 0, 0, []), (19, 15, 1, 0, []), (0, 5, 0, 0, []), (41, 0, 0, 0, []), (17, 5, 0, 1, []), (22, 5, 0, 0, []), (2, 0, 0, (-1), []), (41, 0, 0, 0, [])]
/-- 310: HornBenchLaw.feed(LHornBench;IIIII[J)I -/
def am_c310 : List AmIns := [(0, 6, 3, 0, []), (2, 0, 0, 0, []), (0, 0, 3, 0, []), (0, 1, 0, 0, []), (0, 2, 0, 0, []), (0, 3, 0, 0, []), (0, 4, 0, 0, []), (0, 5, 0, 0, []), (40, 163, 6, 0, []), (14, 0, 0, 0, []), (33, 62, 11, 0, []), (22, 15, 0, 0, []), (1, 7, 3, 0, []), (2, 0, 0, 1, []), (41, 0, 0, 0, []), (2, 0, 0, 0, []), (41, 0, 0, 0, [])]
/-- 311: HornBenchLaw.trim(LHornBench;I[J)I -/
def am_c311 : List AmIns := [(0, 2, 3, 0, []), (2, 0, 0, 0, []), (0, 0, 3, 0, []), (0, 1, 0, 0, []), (40, 164, 2, 0, []), (14, 0, 0, 0, []), (33, 62, 11, 0, []), (22, 11, 0, 0, []), (1, 3, 3, 0, []), (2, 0, 0, 1, []), (41, 0, 0, 0, []), (2, 0, 0, 0, []), (41, 0, 0, 0, [])]
/-- 312: HornBenchLaw.drop(LHornBench;I[J)I -/
def am_c312 : List AmIns := [(0, 2, 3, 0, []), (2, 0, 0, 0, []), (0, 0, 3, 0, []), (0, 1, 0, 0, []), (40, 167, 2, 0, []), (14, 0, 0, 0, []), (33, 62, 11, 0, []), (22, 11, 0, 0, []), (1, 3, 3, 0, []), (2, 0, 0, 1, []), (41, 0, 0, 0, []), (2, 0, 0, 0, []), (41, 0, 0, 0, [])]
/-- 313: HornBenchLaw.count(LHornBench;I[J)I -/
def am_c313 : List AmIns := [(0, 2, 3, 0, []), (2, 0, 0, 0, []), (0, 0, 3, 0, []), (0, 1, 0, 0, []), (40, 169, 2, 0, []), (14, 0, 0, 0, []), (33, 62, 11, 0, []), (22, 11, 0, 0, []), (1, 3, 3, 0, []), (2, 0, 0, 1, []), (41, 0, 0, 0, []), (2, 0, 0, 0, []), (41, 0, 0, 0, [])]
/-- 314: HornBenchLaw.clause(LHornBench;II[J)I -/
def am_c314 : List AmIns := [(0, 3, 3, 0, []), (2, 0, 0, 0, []), (0, 0, 3, 0, []), (0, 1, 0, 0, []), (0, 2, 0, 0, []), (40, 170, 3, 0, []), (14, 0, 0, 0, []), (33, 62, 11, 0, []), (22, 12, 0, 0, []), (1, 4, 3, 0, []), (2, 0, 0, 1, []), (41, 0, 0, 0, []), (2, 0, 0, 0, []), (41, 0, 0, 0, [])]
/-- 315: HornBenchLaw.run(LHornBench;I[J)I -/
def am_c315 : List AmIns := [(0, 2, 3, 0, []), (2, 0, 0, 0, []), (0, 0, 3, 0, []), (0, 1, 0, 0, []), (40, 173, 2, 0, []), (14, 0, 0, 0, []), (33, 62, 11, 0, []), (22, 14, 0, 0, []), (1, 3, 3, 0, []), (2, 0, 0, 1, []), (41, 0, 0, 0, []), (1, 3, 3, 0, []), (2, 0, 0, 2, []), (41, 0, 0, 0, []), (2, 0, 0, 0, []), (41, 0, 0, 0, [])]
/-- 316: HornBenchLaw.write(LHornBench;I[J)I -/
def am_c316 : List AmIns := [(0, 2, 3, 0, []), (2, 0, 0, 0, []), (0, 0, 3, 0, []), (0, 1, 0, 0, []), (40, 175, 2, 0, []), (14, 0, 0, 0, []), (33, 62, 11, 0, []), (22, 14, 0, 0, []), (1, 3, 3, 0, []), (2, 0, 0, 1, []), (41, 0, 0, 0, []), (1, 3, 3, 0, []), (2, 0, 0, 2, []), (41, 0, 0, 0, []), (2, 0, 0, 0, []), (41, 0, 0, 0, [])]
/-- 317: HornBenchLaw.writeGoal(LHornBench;[J)I -/
def am_c317 : List AmIns := [(0, 1, 3, 0, []), (2, 0, 0, 0, []), (0, 0, 3, 0, []), (40, 176, 1, 0, []), (14, 0, 0, 0, []), (33, 62, 11, 0, []), (22, 10, 0, 0, []), (1, 2, 3, 0, []), (2, 0, 0, 1, []), (41, 0, 0, 0, []), (2, 0, 0, 0, []), (41, 0, 0, 0, [])]
/-- 318: HornBenchLaw.byteAt(LHornBench;I[J)I -/
def am_c318 : List AmIns := [(0, 2, 3, 0, []), (2, 0, 0, 0, []), (0, 0, 3, 0, []), (0, 1, 0, 0, []), (40, 177, 2, 0, []), (14, 0, 0, 0, []), (33, 62, 11, 0, []), (22, 11, 0, 0, []), (1, 3, 3, 0, []), (2, 0, 0, 1, []), (41, 0, 0, 0, []), (2, 0, 0, 0, []), (41, 0, 0, 0, [])]
/-- 319: HornBenchLaw.number(LHornBench;I[J)I -/
def am_c319 : List AmIns := [(0, 2, 3, 0, []), (2, 0, 0, 0, []), (0, 0, 3, 0, []), (0, 1, 0, 0, []), (40, 178, 2, 0, []), (14, 0, 0, 0, []), (33, 62, 11, 0, []), (22, 14, 0, 0, []), (1, 3, 3, 0, []), (2, 0, 0, 1, []), (41, 0, 0, 0, []), (1, 3, 3, 0, []), (2, 0, 0, 2, []), (41, 0, 0, 0, []), (2, 0, 0, 0, []), (41, 0, 0, 0, [])]
/-- 320: HornBenchLaw.isSame(LHornBench;II[J)I -/
def am_c320 : List AmIns := [(0, 3, 3, 0, []), (2, 0, 0, 0, []), (0, 0, 3, 0, []), (0, 1, 0, 0, []), (0, 2, 0, 0, []), (40, 179, 3, 0, []), (18, 9, 0, 0, []), (3, 0, 0, 1, []), (22, 10, 0, 0, []), (3, 0, 0, 0, []), (33, 62, 11, 0, []), (22, 15, 0, 0, []), (1, 4, 3, 0, []), (2, 0, 0, 1, []), (41, 0, 0, 0, []), (2, 0, 0, 0, []), (41, 0, 0, 0, [])]
/-- 321: HornBenchLaw.law([I)Z -/
def am_c321 : List AmIns := [(28, 10, 8, 0, []), (26, 0, 0, 0, []), (40, 162, 1, 1, []), (1, 1, 3, 0, []), (28, 12, 62, 0, []), (26, 0, 0, 0, []), (40, 185, 1, 1, []), (1, 2, 3, 0, []), (2, 0, 0, 1, []), (29, 62, 0, 0, []), (1, 3, 3, 0, []), (2, 0, 0, 0, []), (1, 4, 0, 0, []), (0, 4, 0, 0, []), (0, 0, 3, 0, []), (31, 0, 0, 0, []), (2, 0, 0, 6, []), (8, 0, 1, 0, []), (19, 529, 4, 0, []), (0, 0, 3, 0, []), (0, 4, 0, 0, []), (32, 0, 0, 0, []), (2, 0, 0, 31, []), (8, 0, 5, 0, []), (23, 527, 0, 0, [(0, 25), (1, 100), (2, 135), (3, 142), (4, 149), (5, 184), (6, 191), (7, 226), (8, 271), (9, 278), (10, 313), (11, 320), (12, 355), (13, 380), (14, 415), (15, 450), (16, 498), (17, 519)]), (0, 1, 3, 0, []), (0, 0, 3, 0, []), (0, 4, 0, 0, []), (2, 0, 0, 1, []), (8, 0, 0, 0, []), (32, 0, 0, 0, []), (0, 0, 3, 0, []), (0, 4, 0, 0, []), (2, 0, 0, 2, []), (8, 0, 0, 0, []), (32, 0, 0, 0, []), (0, 0, 3, 0, []), (0, 4, 0, 0, []), (2, 0, 0, 3, []), (8, 0, 0, 0, []), (32, 0, 0, 0, []), (0, 0, 3, 0, []), (0, 4, 0, 0, []), (2, 0, 0, 4, []), (8, 0, 0, 0, []), (32, 0, 0, 0, []), (0, 0, 3, 0, []), (0, 4, 0, 0, []), (2, 0, 0, 5, []), (8, 0, 0, 0, []), (32, 0, 0, 0, []), (0, 3, 3, 0, []), (40, 310, 7, 2, []), (1, 5, 0, 0, []), (0, 2, 3, 0, []), (0, 0, 3, 0, []), (0, 4, 0, 0, []), (2, 0, 0, 1, []), (8, 0, 0, 0, []), (32, 0, 0, 0, []), (0, 0, 3, 0, []), (0, 4, 0, 0, []), (2, 0, 0, 2, []), (8, 0, 0, 0, []), (32, 0, 0, 0, []), (0, 0, 3, 0, []), (0, 4, 0, 0, []), (2, 0, 0, 3, []), (8, 0, 0, 0, []), (32, 0, 0, 0, []), (0, 0, 3, 0, []), (0, 4, 0, 0, []), (2, 0, 0, 4, []), (8, 0, 0, 0, []), (32, 0, 0, 0, []), (0, 0, 3, 0, []), (0, 4, 0, 0, []), (2, 0, 0, 5, []), (8, 0, 0, 0, []), (32, 0, 0, 0, []), (40, 189, 6, 0, []), (1, 6, 0, 0, []), (0, 2, 3, 0, []), (40, 186, 1, 0, []), (0, 5, 0, 0, []), (19, 88, 0, 0, []), (2, 0, 0, 0, []), (41, 0, 10, 0, []), (0, 5, 0, 0, []), (18, 99, 1, 0, []), (0, 3, 3, 0, []), (2, 0, 0, 0, []), (32, 0, 1, 0, []), (0, 6, 0, 0, []), (14, 0, 0, 0, []), (13, 0, 0, 0, []), (18, 99, 0, 0, []), (2, 0, 0, 0, []), (41, 0, 10, 0, []), (22, 527, 0, 0, []), (0, 1, 3, 0, []), (0, 0, 3, 0, []), (0, 4, 0, 0, []), (2, 0, 0, 1, []), (8, 0, 0, 0, []), (32, 0, 0, 0, []), (0, 3, 3, 0, []), (40, 311, 3, 2, []), (1, 5, 0, 0, []), (0, 2, 3, 0, []), (0, 0, 3, 0, []), (0, 4, 0, 0, []), (2, 0, 0, 1, []), (8, 0, 0, 0, []), (32, 0, 0, 0, []), (40, 190, 2, 0, []), (1, 6, 0, 0, []), (0, 2, 3, 0, []), (40, 186, 1, 0, []), (0, 5, 0, 0, []), (19, 123, 0, 0, []), (2, 0, 0, 0, []), (41, 0, 10, 0, []), (0, 5, 0, 0, []), (18, 134, 1, 0, []), (0, 3, 3, 0, []), (2, 0, 0, 0, []), (32, 0, 1, 0, []), (0, 6, 0, 0, []), (14, 0, 0, 0, []), (13, 0, 0, 0, []), (18, 134, 0, 0, []), (2, 0, 0, 0, []), (41, 0, 10, 0, []), (22, 527, 0, 0, []), (0, 1, 3, 0, []), (40, 165, 1, 0, []), (0, 2, 3, 0, []), (40, 231, 1, 0, []), (19, 527, 0, 0, []), (2, 0, 0, 0, []), (41, 0, 10, 0, []), (0, 1, 3, 0, []), (40, 166, 1, 0, []), (0, 2, 3, 0, []), (40, 232, 1, 0, []), (19, 527, 0, 0, []), (2, 0, 0, 0, []), (41, 0, 10, 0, []), (0, 1, 3, 0, []), (0, 0, 3, 0, []), (0, 4, 0, 0, []), (2, 0, 0, 1, []), (8, 0, 0, 0, []), (32, 0, 0, 0, []), (0, 3, 3, 0, []), (40, 312, 3, 2, []), (1, 5, 0, 0, []), (0, 2, 3, 0, []), (0, 0, 3, 0, []), (0, 4, 0, 0, []), (2, 0, 0, 1, []), (8, 0, 0, 0, []), (32, 0, 0, 0, []), (40, 233, 2, 0, []), (1, 6, 0, 0, []), (0, 2, 3, 0, []), (40, 186, 1, 0, []), (0, 5, 0, 0, []), (19, 172, 0, 0, []), (2, 0, 0, 0, []), (41, 0, 10, 0, []), (0, 5, 0, 0, []), (18, 183, 1, 0, []), (0, 3, 3, 0, []), (2, 0, 0, 0, []), (32, 0, 1, 0, []), (0, 6, 0, 0, []), (14, 0, 0, 0, []), (13, 0, 0, 0, []), (18, 183, 0, 0, []), (2, 0, 0, 0, []), (41, 0, 10, 0, []), (22, 527, 0, 0, []), (0, 1, 3, 0, []), (40, 168, 1, 0, []), (0, 2, 3, 0, []), (40, 234, 1, 0, []), (19, 527, 0, 0, []), (2, 0, 0, 0, []), (41, 0, 10, 0, []), (0, 1, 3, 0, []), (0, 0, 3, 0, []), (0, 4, 0, 0, []), (2, 0, 0, 1, []), (8, 0, 0, 0, []), (32, 0, 0, 0, []), (0, 3, 3, 0, []), (40, 313, 3, 2, []), (1, 5, 0, 0, []), (0, 2, 3, 0, []), (0, 0, 3, 0, []), (0, 4, 0, 0, []), (2, 0, 0, 1, []), (8, 0, 0, 0, []), (32, 0, 0, 0, []), (40, 241, 2, 0, []), (1, 6, 0, 0, []), (0, 2, 3, 0, []), (40, 186, 1, 0, []), (0, 5, 0, 0, []), (19, 214, 0, 0, []), (2, 0, 0, 0, []), (41, 0, 10, 0, []), (0, 5, 0, 0, []), (18, 225, 1, 0, []), (0, 3, 3, 0, []), (2, 0, 0, 0, []), (32, 0, 1, 0, []), (0, 6, 0, 0, []), (14, 0, 0, 0, []), (13, 0, 0, 0, []), (18, 225, 0, 0, []), (2, 0, 0, 0, []), (41, 0, 10, 0, []), (22, 527, 0, 0, []), (0, 1, 3, 0, []), (0, 0, 3, 0, []), (0, 4, 0, 0, []), (2, 0, 0, 1, []), (8, 0, 0, 0, []), (32, 0, 0, 0, []), (0, 0, 3, 0, []), (0, 4, 0, 0, []), (2, 0, 0, 2, []), (8, 0, 0, 0, []), (32, 0, 0, 0, []), (0, 3, 3, 0, []), (40, 314, 4, 2, []), (1, 5, 0, 0, []), (0, 2, 3, 0, []), (0, 0, 3, 0, []), (0, 4, 0, 0, []), (2, 0, 0, 1, []), (8, 0, 0, 0, []), (32, 0, 0, 0, []), (0, 0, 3, 0, []), (0, 4, 0, 0, []), (2, 0, 0, 2, []), (8, 0, 0, 0, []), (32, 0, 0, 0, []), (40, 243, 3, 0, []), (1, 6, 0, 0, []), (0, 2, 3, 0, []), (40, 186, 1, 0, []), (0, 5, 0, 0, []), (19, 259, 0, 0, []), (2, 0, 0, 0, []), (41, 0, 10, 0, []), (0, 5, 0, 0, []), (18, 270, 1, 0, []), (0, 3, 3, 0, []), (2, 0, 0, 0, []), (32, 0, 1, 0, []), (0, 6, 0, 0, []), (14, 0, 0, 0, []), (13, 0, 0, 0, []), (18, 270, 0, 0, []), (2, 0, 0, 0, []), (41, 0, 10, 0, []), (22, 527, 0, 0, []), (0, 1, 3, 0, []), (40, 172, 1, 0, []), (0, 2, 3, 0, []), (40, 260, 1, 0, []), (19, 527, 0, 0, []), (2, 0, 0, 0, []), (41, 0, 10, 0, []), (0, 1, 3, 0, []), (0, 0, 3, 0, []), (0, 4, 0, 0, []), (2, 0, 0, 1, []), (8, 0, 0, 0, []), (32, 0, 0, 0, []), (0, 3, 3, 0, []), (40, 315, 3, 2, []), (1, 5, 0, 0, []), (0, 2, 3, 0, []), (0, 0, 3, 0, []), (0, 4, 0, 0, []), (2, 0, 0, 1, []), (8, 0, 0, 0, []), (32, 0, 0, 0, []), (40, 276, 2, 0, []), (1, 6, 0, 0, []), (0, 2, 3, 0, []), (40, 186, 1, 0, []), (0, 5, 0, 0, []), (19, 301, 0, 0, []), (2, 0, 0, 0, []), (41, 0, 10, 0, []), (0, 5, 0, 0, []), (18, 312, 1, 0, []), (0, 3, 3, 0, []), (2, 0, 0, 0, []), (32, 0, 1, 0, []), (0, 6, 0, 0, []), (14, 0, 0, 0, []), (13, 0, 0, 0, []), (18, 312, 0, 0, []), (2, 0, 0, 0, []), (41, 0, 10, 0, []), (22, 527, 0, 0, []), (0, 1, 3, 0, []), (40, 174, 1, 0, []), (0, 2, 3, 0, []), (40, 277, 1, 0, []), (19, 527, 0, 0, []), (2, 0, 0, 0, []), (41, 0, 10, 0, []), (0, 1, 3, 0, []), (0, 0, 3, 0, []), (0, 4, 0, 0, []), (2, 0, 0, 1, []), (8, 0, 0, 0, []), (32, 0, 0, 0, []), (0, 3, 3, 0, []), (40, 316, 3, 2, []), (1, 5, 0, 0, []), (0, 2, 3, 0, []), (0, 0, 3, 0, []), (0, 4, 0, 0, []), (2, 0, 0, 1, []), (8, 0, 0, 0, []), (32, 0, 0, 0, []), (40, 289, 2, 0, []), (1, 6, 0, 0, []), (0, 2, 3, 0, []), (40, 186, 1, 0, []), (0, 5, 0, 0, []), (19, 343, 0, 0, []), (2, 0, 0, 0, []), (41, 0, 10, 0, []), (0, 5, 0, 0, []), (18, 354, 1, 0, []), (0, 3, 3, 0, []), (2, 0, 0, 0, []), (32, 0, 1, 0, []), (0, 6, 0, 0, []), (14, 0, 0, 0, []), (13, 0, 0, 0, []), (18, 354, 0, 0, []), (2, 0, 0, 0, []), (41, 0, 10, 0, []), (22, 527, 0, 0, []), (0, 1, 3, 0, []), (0, 3, 3, 0, []), (40, 317, 2, 2, []), (1, 5, 0, 0, []), (0, 2, 3, 0, []), (40, 291, 1, 0, []), (1, 6, 0, 0, []), (0, 2, 3, 0, []), (40, 186, 1, 0, []), (0, 5, 0, 0, []), (19, 368, 0, 0, []), (2, 0, 0, 0, []), (41, 0, 10, 0, []), (0, 5, 0, 0, []), (18, 379, 1, 0, []), (0, 3, 3, 0, []), (2, 0, 0, 0, []), (32, 0, 1, 0, []), (0, 6, 0, 0, []), (14, 0, 0, 0, []), (13, 0, 0, 0, []), (18, 379, 0, 0, []), (2, 0, 0, 0, []), (41, 0, 10, 0, []), (22, 527, 0, 0, []), (0, 1, 3, 0, []), (0, 0, 3, 0, []), (0, 4, 0, 0, []), (2, 0, 0, 1, []), (8, 0, 0, 0, []), (32, 0, 0, 0, []), (0, 3, 3, 0, []), (40, 318, 3, 2, []), (1, 5, 0, 0, []), (0, 2, 3, 0, []), (0, 0, 3, 0, []), (0, 4, 0, 0, []), (2, 0, 0, 1, []), (8, 0, 0, 0, []), (32, 0, 0, 0, []), (40, 292, 2, 0, []), (1, 6, 0, 0, []), (0, 2, 3, 0, []), (40, 186, 1, 0, []), (0, 5, 0, 0, []), (19, 403, 0, 0, []), (2, 0, 0, 0, []), (41, 0, 10, 0, []), (0, 5, 0, 0, []), (18, 414, 1, 0, []), (0, 3, 3, 0, []), (2, 0, 0, 0, []), (32, 0, 1, 0, []), (0, 6, 0, 0, []), (14, 0, 0, 0, []), (13, 0, 0, 0, []), (18, 414, 0, 0, []), (2, 0, 0, 0, []), (41, 0, 10, 0, []), (22, 527, 0, 0, []), (0, 1, 3, 0, []), (0, 0, 3, 0, []), (0, 4, 0, 0, []), (2, 0, 0, 1, []), (8, 0, 0, 0, []), (32, 0, 0, 0, []), (0, 3, 3, 0, []), (40, 319, 3, 2, []), (1, 5, 0, 0, []), (0, 2, 3, 0, []), (0, 0, 3, 0, []), (0, 4, 0, 0, []), (2, 0, 0, 1, []), (8, 0, 0, 0, []), (32, 0, 0, 0, []), (40, 293, 2, 0, []), (1, 6, 0, 0, []), (0, 2, 3, 0, []), (40, 186, 1, 0, []), (0, 5, 0, 0, []), (19, 438, 0, 0, []), (2, 0, 0, 0, []), (41, 0, 10, 0, []), (0, 5, 0, 0, []), (18, 449, 1, 0, []), (0, 3, 3, 0, []), (2, 0, 0, 0, []), (32, 0, 1, 0, []), (0, 6, 0, 0, []), (14, 0, 0, 0, []), (13, 0, 0, 0, []), (18, 449, 0, 0, []), (2, 0, 0, 0, []), (41, 0, 10, 0, []), (22, 527, 0, 0, []), (0, 1, 3, 0, []), (0, 0, 3, 0, []), (0, 4, 0, 0, []), (2, 0, 0, 1, []), (8, 0, 0, 0, []), (32, 0, 0, 0, []), (0, 0, 3, 0, []), (0, 4, 0, 0, []), (2, 0, 0, 2, []), (8, 0, 0, 0, []), (32, 0, 0, 0, []), (0, 3, 3, 0, []), (40, 320, 4, 2, []), (1, 5, 0, 0, []), (0, 2, 3, 0, []), (0, 0, 3, 0, []), (0, 4, 0, 0, []), (2, 0, 0, 1, []), (8, 0, 0, 0, []), (32, 0, 0, 0, []), (0, 0, 3, 0, []), (0, 4, 0, 0, []), (2, 0, 0, 2, []), (8, 0, 0, 0, []), (32, 0, 0, 0, []), (40, 294, 3, 0, []), (1, 6, 0, 0, []), (0, 2, 3, 0, []), (40, 186, 1, 0, []), (0, 5, 0, 0, []), (19, 483, 0, 0, []), (2, 0, 0, 0, []), (41, 0, 10, 0, []), (0, 5, 0, 0, []), (18, 497, 1, 0, []), (0, 3, 3, 0, []), (2, 0, 0, 0, []), (32, 0, 1, 0, []), (0, 6, 0, 0, []), (18, 492, 0, 0, []), (3, 0, 0, 1, []), (22, 493, 0, 0, []), (3, 0, 0, 0, []), (13, 0, 0, 0, []), (18, 497, 0, 0, []), (2, 0, 0, 0, []), (41, 0, 10, 0, []), (22, 527, 0, 0, []), (0, 1, 3, 0, []), (40, 180, 1, 0, []), (1, 5, 2, 0, []), (0, 2, 3, 0, []), (40, 295, 1, 0, []), (1, 7, 2, 0, []), (0, 5, 2, 0, []), (0, 7, 2, 0, []), (16, 0, 0, 0, []), (18, 518, 0, 0, []), (0, 5, 2, 0, []), (0, 5, 2, 0, []), (16, 0, 0, 0, []), (18, 516, 0, 0, []), (0, 7, 2, 0, []), (0, 7, 2, 0, []), (16, 0, 0, 0, []), (18, 518, 1, 0, []), (2, 0, 0, 0, []), (41, 0, 10, 0, []), (22, 527, 0, 0, []), (0, 1, 3, 0, []), (40, 181, 1, 0, []), (0, 2, 3, 0, []), (40, 296, 1, 0, []), (13, 0, 0, 0, []), (18, 527, 0, 0, []), (2, 0, 0, 0, []), (41, 0, 10, 0, []), (17, 4, 0, 6, []), (22, 13, 0, 0, []), (2, 0, 0, 1, []), (41, 0, 10, 0, [])]
def am_codes : List (List AmIns) := [am_c0, am_c1, am_c2, am_c3, am_c4, am_c5, am_c6, am_c7, am_c8, am_c9, am_c10, am_c11, am_c12, am_c13, am_c14, am_c15, am_c16, am_c17, am_c18, am_c19, am_c20, am_c21, am_c22, am_c23, am_c24, am_c25, am_c26, am_c27, am_c28, am_c29, am_c30, am_c31, am_c32, am_c33, am_c34, am_c35, am_c36, am_c37, am_c38, am_c39, am_c40, am_c41, am_c42, am_c43, am_c44, am_c45, am_c46, am_c47, am_c48, am_c49, am_c50, am_c51, am_c52, am_c53, am_c54, am_c55, am_c56, am_c57, am_c58, am_c59, am_c60, am_c61, am_c62, am_c63, am_c64, am_c65, am_c66, am_c67, am_c68, am_c69, am_c70, am_c71, am_c72, am_c73, am_c74, am_c75, am_c76, am_c77, am_c78, am_c79, am_c80, am_c81, am_c82, am_c83, am_c84, am_c85, am_c86, am_c87, am_c88, am_c89, am_c90, am_c91, am_c92, am_c93, am_c94, am_c95, am_c96, am_c97, am_c98, am_c99, am_c100, am_c101, am_c102, am_c103, am_c104, am_c105, am_c106, am_c107, am_c108, am_c109, am_c110, am_c111, am_c112, am_c113, am_c114, am_c115, am_c116, am_c117, am_c118, am_c119, am_c120, am_c121, am_c122, am_c123, am_c124, am_c125, am_c126, am_c127, am_c128, am_c129, am_c130, am_c131, am_c132, am_c133, am_c134, am_c135, am_c136, am_c137, am_c138, am_c139, am_c140, am_c141, am_c142, am_c143, am_c144, am_c145, am_c146, am_c147, am_c148, am_c149, am_c150, am_c151, am_c152, am_c153, am_c154, am_c155, am_c156, am_c157, am_c158, am_c159, am_c160, am_c161, am_c162, am_c163, am_c164, am_c165, am_c166, am_c167, am_c168, am_c169, am_c170, am_c171, am_c172, am_c173, am_c174, am_c175, am_c176, am_c177, am_c178, am_c179, am_c180, am_c181, am_c182, am_c183, am_c184, am_c185, am_c186, am_c187, am_c188, am_c189, am_c190, am_c191, am_c192, am_c193, am_c194, am_c195, am_c196, am_c197, am_c198, am_c199, am_c200, am_c201, am_c202, am_c203, am_c204, am_c205, am_c206, am_c207, am_c208, am_c209, am_c210, am_c211, am_c212, am_c213, am_c214, am_c215, am_c216, am_c217, am_c218, am_c219, am_c220, am_c221, am_c222, am_c223, am_c224, am_c225, am_c226, am_c227, am_c228, am_c229, am_c230, am_c231, am_c232, am_c233, am_c234, am_c235, am_c236, am_c237, am_c238, am_c239, am_c240, am_c241, am_c242, am_c243, am_c244, am_c245, am_c246, am_c247, am_c248, am_c249, am_c250, am_c251, am_c252, am_c253, am_c254, am_c255, am_c256, am_c257, am_c258, am_c259, am_c260, am_c261, am_c262, am_c263, am_c264, am_c265, am_c266, am_c267, am_c268, am_c269, am_c270, am_c271, am_c272, am_c273, am_c274, am_c275, am_c276, am_c277, am_c278, am_c279, am_c280, am_c281, am_c282, am_c283, am_c284, am_c285, am_c286, am_c287, am_c288, am_c289, am_c290, am_c291, am_c292, am_c293, am_c294, am_c295, am_c296, am_c297, am_c298, am_c299, am_c300, am_c301, am_c302, am_c303, am_c304, am_c305, am_c306, am_c307, am_c308, am_c309, am_c310, am_c311, am_c312, am_c313, am_c314, am_c315, am_c316, am_c317, am_c318, am_c319, am_c320, am_c321]
def am_ys : List MethodName := [yX0_init, yX0_size, yX0_item, yX0_holds, yX0_include, yX0_empty, yX1_init, yX1_evaluate, yX1_value, yX1_find, yX1_compute, yX1_apply, yX2_init, yX2_match, yX2_join, yX2_root, yX3_init, yX3_forget, yX3_keep, yX3_remove, yX3_begin, yX3_make, yX3_chain, yX3_chained, yX3_isOperatorHere, yX3_finish, yX3_clauses, yX3_slot, yX3_head, yX3_body, yX3_arity, yX3_goals, yX3_variables, yX3_uses, yX3_use, yX3_predicates, yX3_clauseFor, yX3_kind, yX3_value, yX3_name, yX3_first, yX3_next, yX3_from, yX3_isAlike, yX3_isOperator, yX4_init, yX4_readProgram, yX4_readQuestion, yX4_errorPlace, yX4_error, yX4_start, yX4_begin, yX4_readClause, yX4_readGoals, yX4_readGoal, yX4_readPlainGoal, yX4_readNot, yX4_readVar, yX4_readRelation, yX4_readTerm, yX4_readProduct, yX4_readSimple, yX4_readVariable, yX4_readNumber, yX4_readName, yX4_readList, yX4_makePairs, yX4_open, yX4_close, yX4_expect, yX4_take, yX4_refuse, yX4_tooMany, yX5_init, yX5_length, yX5_byteOn, yX5_wipe, yX5_compose, yX5_writeItem, yX5_writeTerm, yX5_writeNamed, yX5_writeOperand, yX5_writeTail, yX5_writeChain, yX5_writeOneGoal, yX5_writeBetween, yX5_writeName, yX5_writeDigits, yX5_numberOfFree, yX5_writeByte, yX5_push, yX5_hasRoom, yX6_init, yX6_begin, yX6_leave, yX6_isThere, yX6_has, yX6_variables, yX6_goals, yX6_steps, yX6_solutions, yX6_cuts, yX6_standing, yX6_firstGoal, yX6_advance, yX6_settle, yX6_isAtMark, yX6_goBack, yX6_stepAgain, yX6_step, yX6_useClause, yX6_assign, yX6_compare, yX6_stopByError, yX6_leaveChoice, yX6_chain, yX6_link, yX7_init, yX7_length, yX7_hasRoom, yX7_append, yX7_shorten, yX7_at, yX8_init, yX8_begin, yX8_open, yX8_head, yX8_body, yX8_node, yX8_kind, yX8_name, yX8_isOperator, yX8_isAlike, yX8_first, yX8_next, yX8_cell, yX8_end, yX8_isFree, yX8_isNumber, yX8_numberOf, yX8_result, yX8_bind, yX8_trailed, yX8_undo, yX8_standsIn, yX9_init, yX9_kind, yX9_start, yX9_text, yX9_read, yX9_behindBlanks, yX9_readToken, yX9_readWord, yX9_kindOfWord, yX9_readNumber, yX9_readSymbol, yX9_isSymbol, yX9_isSmall, yX9_isDigit, yX9_behindWord, yX9_nameOf, yX9_keep, yX10_init, yX10_feed, yX10_trim, yX10_consult, yX10_add, yX10_drop, yX10_errorAt, yX10_count, yX10_clause, yX10_finishReading, yX10_ask, yX10_run, yX10_status, yX10_write, yX10_writeGoal, yX10_byteAt, yX10_number, yX10_isSame, yX10_stepsEach, yX10_digest, yX10_at, yX10_put, yX11_init, yX12_init, yX12_thrown, yX12_no, yX12_isIn, yX12_feed, yX12_trim, yX12_byteAtTape, yX12_isSmall, yX12_isDigit, yX12_isBig, yX12_symbolAt, yX12_scan, yX12_is, yX12_which, yX12_isName, yX12_nameOf, yX12_numberOf, yX12_sees, yX12_goes, yX12_takes, yX12_programForm, yX12_clauseForm, yX12_questionForm, yX12_opens, yX12_argumentsForm, yX12_goalsForm, yX12_goalForm, yX12_simpleEnd, yX12_termForm, yX12_productForm, yX12_simpleForm, yX12_listForm, yX12_over, yX12_part, yX12_pair, yX12_variable, yX12_term, yX12_product, yX12_simple, yX12_named, yX12_list, yX12_goals, yX12_goal, yX12_forgetQuestion, yX12_wrong, yX12_read, yX12_consult, yX12_add, yX12_drop, yX12_errorAt, yX12_nameIn, yX12_sizeIn, yX12_areAlike, yX12_predicates, yX12_goalsLeft, yX12_counted, yX12_count, yX12_clauseTold, yX12_clause, yX12_cell, yX12_laid, yX12_end, yX12_argument, yX12_bind, yX12_undo, yX12_standsIn, yX12_leader, yX12_join, yX12_areOne, yX12_unify, yX12_isSameNow, yX12_value, yX12_fault, yX12_worth, yX12_keep, yX12_ask, yX12_rowCell, yX12_rowOf, yX12_innerRow, yX12_choose, yX12_isOf, yX12_nextOf, yX12_heads, yX12_use, yX12_call, yX12_goOn, yX12_canGoOn, yX12_compared, yX12_done, yX12_step, yX12_settle, yX12_run, yX12_status, yX12_put, yX12_put_, yX12_isFull, yX12_putNumber, yX12_putDigits, yX12_putName, yX12_isSigned, yX12_putFree, yX12_putTerm, yX12_isVariable, yX12_kept, yX12_write, yX12_putGoal, yX12_writeGoal, yX12_byteAt, yX12_number, yX12_isSame, yX12_stepsEach, yX12_digest, yJ9_abs_067f4, yJ9_max_7cf53, yJ9_min_7cf53, yJ0_length_8abf5, yJ0_charAt_5068e, yJ0_indexOf_0f7a4, yJ0_indexOf_7cf53, yJ0_coder_7d493, yJ0_isLatin1_aae02, yJ1_charAt_3b067, yJ1_canEncode_9a6ad, yJ1_indexOf_4cfef, yJ1_indexOfChar_4cfef, yL_feed, yL_trim, yL_drop, yL_count, yL_clause, yL_run, yL_write, yL_writeGoal, yL_byteAt, yL_number, yL_isSame, yL_law]
def am_bs : List ByteArray := [cX0_init, cX0_size, cX0_item, cX0_holds, cX0_include, cX0_empty, cX1_init, cX1_evaluate, cX1_value, cX1_find, cX1_compute, cX1_apply, cX2_init, cX2_match, cX2_join, cX2_root, cX3_init, cX3_forget, cX3_keep, cX3_remove, cX3_begin, cX3_make, cX3_chain, cX3_chained, cX3_isOperatorHere, cX3_finish, cX3_clauses, cX3_slot, cX3_head, cX3_body, cX3_arity, cX3_goals, cX3_variables, cX3_uses, cX3_use, cX3_predicates, cX3_clauseFor, cX3_kind, cX3_value, cX3_name, cX3_first, cX3_next, cX3_from, cX3_isAlike, cX3_isOperator, cX4_init, cX4_readProgram, cX4_readQuestion, cX4_errorPlace, cX4_error, cX4_start, cX4_begin, cX4_readClause, cX4_readGoals, cX4_readGoal, cX4_readPlainGoal, cX4_readNot, cX4_readVar, cX4_readRelation, cX4_readTerm, cX4_readProduct, cX4_readSimple, cX4_readVariable, cX4_readNumber, cX4_readName, cX4_readList, cX4_makePairs, cX4_open, cX4_close, cX4_expect, cX4_take, cX4_refuse, cX4_tooMany, cX5_init, cX5_length, cX5_byteOn, cX5_wipe, cX5_compose, cX5_writeItem, cX5_writeTerm, cX5_writeNamed, cX5_writeOperand, cX5_writeTail, cX5_writeChain, cX5_writeOneGoal, cX5_writeBetween, cX5_writeName, cX5_writeDigits, cX5_numberOfFree, cX5_writeByte, cX5_push, cX5_hasRoom, cX6_init, cX6_begin, cX6_leave, cX6_isThere, cX6_has, cX6_variables, cX6_goals, cX6_steps, cX6_solutions, cX6_cuts, cX6_standing, cX6_firstGoal, cX6_advance, cX6_settle, cX6_isAtMark, cX6_goBack, cX6_stepAgain, cX6_step, cX6_useClause, cX6_assign, cX6_compare, cX6_stopByError, cX6_leaveChoice, cX6_chain, cX6_link, cX7_init, cX7_length, cX7_hasRoom, cX7_append, cX7_shorten, cX7_at, cX8_init, cX8_begin, cX8_open, cX8_head, cX8_body, cX8_node, cX8_kind, cX8_name, cX8_isOperator, cX8_isAlike, cX8_first, cX8_next, cX8_cell, cX8_end, cX8_isFree, cX8_isNumber, cX8_numberOf, cX8_result, cX8_bind, cX8_trailed, cX8_undo, cX8_standsIn, cX9_init, cX9_kind, cX9_start, cX9_text, cX9_read, cX9_behindBlanks, cX9_readToken, cX9_readWord, cX9_kindOfWord, cX9_readNumber, cX9_readSymbol, cX9_isSymbol, cX9_isSmall, cX9_isDigit, cX9_behindWord, cX9_nameOf, cX9_keep, cX10_init, cX10_feed, cX10_trim, cX10_consult, cX10_add, cX10_drop, cX10_errorAt, cX10_count, cX10_clause, cX10_finishReading, cX10_ask, cX10_run, cX10_status, cX10_write, cX10_writeGoal, cX10_byteAt, cX10_number, cX10_isSame, cX10_stepsEach, cX10_digest, cX10_at, cX10_put, cX11_init, cX12_init, cX12_thrown, cX12_no, cX12_isIn, cX12_feed, cX12_trim, cX12_byteAtTape, cX12_isSmall, cX12_isDigit, cX12_isBig, cX12_symbolAt, cX12_scan, cX12_is, cX12_which, cX12_isName, cX12_nameOf, cX12_numberOf, cX12_sees, cX12_goes, cX12_takes, cX12_programForm, cX12_clauseForm, cX12_questionForm, cX12_opens, cX12_argumentsForm, cX12_goalsForm, cX12_goalForm, cX12_simpleEnd, cX12_termForm, cX12_productForm, cX12_simpleForm, cX12_listForm, cX12_over, cX12_part, cX12_pair, cX12_variable, cX12_term, cX12_product, cX12_simple, cX12_named, cX12_list, cX12_goals, cX12_goal, cX12_forgetQuestion, cX12_wrong, cX12_read, cX12_consult, cX12_add, cX12_drop, cX12_errorAt, cX12_nameIn, cX12_sizeIn, cX12_areAlike, cX12_predicates, cX12_goalsLeft, cX12_counted, cX12_count, cX12_clauseTold, cX12_clause, cX12_cell, cX12_laid, cX12_end, cX12_argument, cX12_bind, cX12_undo, cX12_standsIn, cX12_leader, cX12_join, cX12_areOne, cX12_unify, cX12_isSameNow, cX12_value, cX12_fault, cX12_worth, cX12_keep, cX12_ask, cX12_rowCell, cX12_rowOf, cX12_innerRow, cX12_choose, cX12_isOf, cX12_nextOf, cX12_heads, cX12_use, cX12_call, cX12_goOn, cX12_canGoOn, cX12_compared, cX12_done, cX12_step, cX12_settle, cX12_run, cX12_status, cX12_put, cX12_put_, cX12_isFull, cX12_putNumber, cX12_putDigits, cX12_putName, cX12_isSigned, cX12_putFree, cX12_putTerm, cX12_isVariable, cX12_kept, cX12_write, cX12_putGoal, cX12_writeGoal, cX12_byteAt, cX12_number, cX12_isSame, cX12_stepsEach, cX12_digest, cJ9_abs_067f4, cJ9_max_7cf53, cJ9_min_7cf53, cJ0_length_8abf5, cJ0_charAt_5068e, cJ0_indexOf_0f7a4, cJ0_indexOf_7cf53, cJ0_coder_7d493, cJ0_isLatin1_aae02, cJ1_charAt_3b067, cJ1_canEncode_9a6ad, cJ1_indexOf_4cfef, cJ1_indexOfChar_4cfef, cL_feed, cL_trim, cL_drop, cL_count, cL_clause, cL_run, cL_write, cL_writeGoal, cL_byteAt, cL_number, cL_isSame, cL_law]
def am_infos : List (Nat × Nat × List (Nat × Nat × Nat × Nat)) := [(2, 1, []), (2, 1, []), (2, 2, []), (2, 2, []), (2, 2, []), (2, 1, []), (3, 2, []), (3, 2, []), (3, 1, []), (3, 3, []), (3, 3, []), (3, 4, []), (4, 2, []), (4, 4, []), (4, 4, []), (4, 2, []), (5, 1, []), (5, 1, []), (5, 2, []), (5, 2, []), (5, 2, []), (5, 5, []), (5, 3, []), (5, 2, []), (5, 2, []), (5, 5, []), (5, 1, []), (5, 2, []), (5, 2, []), (5, 2, []), (5, 2, []), (5, 2, []), (5, 2, []), (5, 2, []), (5, 2, []), (5, 1, []), (5, 3, []), (5, 2, []), (5, 2, []), (5, 2, []), (5, 2, []), (5, 2, []), (5, 2, []), (5, 3, []), (5, 2, []), (6, 3, []), (6, 1, []), (6, 1, []), (6, 1, []), (6, 1, []), (6, 1, []), (6, 2, []), (6, 2, []), (6, 1, []), (6, 1, []), (6, 1, []), (6, 1, []), (6, 1, []), (6, 1, []), (6, 1, []), (6, 1, []), (6, 1, []), (6, 1, []), (6, 2, []), (6, 1, []), (6, 1, []), (6, 3, []), (6, 2, []), (6, 2, []), (6, 2, []), (6, 1, []), (6, 1, []), (6, 1, []), (7, 2, []), (7, 1, []), (7, 2, []), (7, 1, []), (7, 3, []), (7, 3, []), (7, 2, []), (7, 2, []), (7, 2, []), (7, 2, []), (7, 4, []), (7, 2, []), (7, 5, []), (7, 2, []), (7, 2, []), (7, 2, []), (7, 2, []), (7, 3, []), (7, 1, []), (8, 4, []), (8, 1, []), (8, 1, []), (8, 1, []), (8, 2, []), (8, 1, []), (8, 1, []), (8, 1, []), (8, 1, []), (8, 1, []), (8, 1, []), (8, 1, []), (8, 2, []), (8, 2, []), (8, 1, []), (8, 1, []), (8, 1, []), (8, 1, []), (8, 3, []), (8, 3, []), (8, 4, []), (8, 1, []), (8, 4, []), (8, 4, []), (8, 4, []), (9, 1, []), (9, 1, []), (9, 1, []), (9, 2, []), (9, 2, []), (9, 2, []), (10, 2, []), (10, 1, []), (10, 3, []), (10, 2, []), (10, 2, []), (10, 2, []), (10, 2, []), (10, 2, []), (10, 2, []), (10, 3, []), (10, 2, []), (10, 2, []), (10, 2, []), (10, 2, []), (10, 2, []), (10, 2, []), (10, 2, []), (10, 3, []), (10, 3, []), (10, 1, []), (10, 2, []), (10, 3, []), (11, 2, []), (11, 2, []), (11, 2, []), (11, 2, []), (11, 1, []), (11, 2, []), (11, 2, []), (11, 2, []), (1, 1, []), (11, 2, []), (11, 4, []), (1, 1, []), (1, 1, []), (1, 1, []), (11, 2, []), (11, 3, []), (11, 5, []), (12, 1, []), (12, 6, []), (12, 2, []), (12, 1, []), (12, 1, []), (12, 2, []), (12, 1, []), (12, 2, []), (12, 3, []), (12, 2, []), (12, 1, []), (12, 2, []), (12, 1, []), (12, 2, []), (12, 1, []), (12, 2, []), (12, 2, []), (12, 3, []), (12, 1, []), (12, 1, []), (1, 2, []), (1, 3, []), (13, 1, []), (14, 1, []), (14, 1, []), (14, 2, []), (1, 3, []), (14, 6, []), (14, 2, []), (14, 2, []), (1, 1, []), (1, 1, []), (1, 1, []), (14, 2, []), (14, 1, []), (14, 3, []), (14, 3, []), (14, 2, []), (14, 2, []), (14, 2, []), (14, 2, []), (14, 1, []), (14, 2, []), (14, 1, []), (14, 1, []), (14, 1, []), (14, 3, []), (14, 2, []), (14, 2, []), (14, 2, []), (14, 2, []), (14, 2, []), (14, 2, []), (14, 2, []), (14, 2, []), (14, 2, []), (14, 4, []), (14, 4, []), (14, 2, []), (14, 1, []), (14, 1, []), (14, 1, []), (14, 2, []), (14, 1, []), (14, 1, []), (14, 1, []), (14, 1, []), (14, 3, []), (14, 2, []), (14, 1, []), (14, 1, []), (14, 2, []), (14, 1, []), (1, 1, []), (1, 1, []), (1, 2, []), (14, 1, []), (14, 1, []), (14, 2, []), (14, 2, []), (14, 3, []), (14, 3, []), (14, 4, []), (14, 4, []), (14, 2, []), (14, 3, []), (14, 3, []), (14, 2, []), (14, 3, []), (14, 2, []), (14, 3, []), (14, 4, []), (14, 3, []), (14, 3, []), (14, 2, []), (14, 1, []), (14, 3, []), (14, 4, []), (14, 1, []), (14, 4, []), (14, 6, []), (14, 4, []), (14, 8, []), (14, 3, []), (14, 3, []), (14, 3, []), (14, 4, []), (14, 2, []), (14, 1, []), (14, 1, []), (14, 4, []), (14, 2, []), (14, 1, []), (14, 2, []), (14, 2, []), (14, 1, []), (14, 2, []), (14, 2, []), (14, 1, []), (14, 2, []), (14, 2, []), (14, 2, []), (1, 1, []), (14, 2, []), (14, 3, []), (14, 2, []), (14, 3, []), (14, 2, []), (14, 2, []), (14, 1, []), (14, 2, []), (14, 2, []), (14, 3, []), (14, 1, []), (14, 1, []), (1, 1, []), (1, 2, []), (1, 2, []), (78, 1, []), (78, 2, []), (78, 2, []), (78, 3, []), (78, 1, []), (78, 1, []), (1, 2, []), (1, 1, []), (1, 4, []), (1, 4, []), (1, 7, [(0, 11, 12, 0)]), (1, 3, [(0, 7, 8, 1)]), (1, 3, [(0, 7, 8, 2)]), (1, 3, [(0, 7, 8, 2)]), (1, 4, [(0, 8, 9, 2)]), (1, 3, [(0, 7, 8, 1), (0, 7, 11, 0)]), (1, 3, [(0, 7, 8, 2), (0, 7, 11, 0)]), (1, 2, [(0, 6, 7, 0)]), (1, 3, [(0, 7, 8, 2)]), (1, 3, [(0, 7, 8, 2), (0, 7, 11, 0)]), (1, 4, [(0, 11, 12, 2)]), (1, 1, [])]
def am_fks : List (List Nat) := [[3, 3, 0], [3, 3, 3, 3, 0, 0], [3, 3, 3, 0], [3, 3, 3, 3, 3, 3, 3, 3, 3, 3, 3, 3, 0, 0, 0], [3, 3, 3, 0, 0, 10, 0, 0, 0, 0, 0], [3, 3, 0, 3, 0, 3, 0, 3, 0, 10], [3, 3, 3, 3, 3, 3, 3, 0, 0, 3, 3, 3, 3, 0, 0, 10, 0, 0, 0], [3, 0], [3, 3, 3, 3, 3, 0, 3], [3, 3, 3, 3, 0], [3, 3, 3, 3, 3, 3, 3, 0], [3, 3, 3, 3, 3, 0, 0, 0, 0, 3, 0, 3, 3, 3, 3, 3, 0, 0], [0, 3, 0, 0, 3, 3, 3, 0, 0, 0, 3, 3, 0, 3, 3, 0, 0, 0, 0, 0, 3, 3, 3, 3, 0, 3, 0, 3, 3, 3, 3, 0, 3, 0, 3, 3, 3, 3, 3, 3, 0, 0, 3, 3, 3, 3, 3, 3, 3, 3, 10, 3, 0, 0, 3, 3, 3, 3, 10, 3, 0, 3]]
def am_fk (c k : Nat) : Nat := (am_fks.getD c []).getD k 0
/-- the texts of the string constants, by their numbers; the static rows of texts -/
def am_txs : List (List Nat) := [[110, 111, 116, 104, 105, 110, 103, 32, 111, 102, 32, 116, 104, 105, 115, 32, 107, 105, 110, 100, 32, 105, 115, 32, 99, 111, 117, 110, 116, 101, 100], [116, 104, 101, 114, 101, 32, 105, 115, 32, 110, 111, 32, 115, 117, 99, 104, 32, 99, 108, 97, 117, 115, 101, 44, 32, 111, 114, 32, 110, 111, 32, 115, 117, 99, 104, 32, 99, 111, 117, 110, 116, 32, 111, 102, 32, 111, 110, 101], [116, 104, 101, 32, 116, 97, 112, 101, 32, 105, 115, 32, 102, 117, 108, 108], [116, 104, 101, 32, 116, 97, 112, 101, 32, 104, 97, 115, 32, 110, 111, 116, 32, 115, 111, 32, 109, 97, 110, 121, 32, 98, 121, 116, 101, 115], [116, 104, 101, 114, 101, 32, 105, 115, 32, 110, 111, 32, 115, 117, 99, 104, 32, 99, 108, 97, 117, 115, 101], [49, 32, 116, 111, 32, 53, 48, 48, 32, 115, 116, 101, 112, 115, 32, 97, 114, 101, 32, 100, 111, 110, 101, 32, 97, 116, 32, 111, 110, 99, 101], [116, 104, 101, 114, 101, 32, 105, 115, 32, 110, 111, 32, 113, 117, 101, 115, 116, 105, 111, 110], [116, 104, 101, 114, 101, 32, 105, 115, 32, 110, 111, 32, 115, 117, 99, 104, 32, 118, 97, 114, 105, 97, 98, 108, 101], [116, 104, 101, 32, 112, 97, 112, 101, 114, 32, 105, 115, 32, 116, 111, 111, 32, 115, 109, 97, 108, 108], [116, 104, 101, 114, 101, 32, 105, 115, 32, 110, 111, 32, 115, 117, 99, 104, 32, 112, 108, 97, 99, 101, 32, 111, 110, 32, 116, 104, 101, 32, 112, 97, 112, 101, 114], [116, 104, 101, 32, 118, 97, 114, 105, 97, 98, 108, 101, 32, 105, 115, 32, 110, 111, 32, 110, 117, 109, 98, 101, 114], [40, 41, 91, 93, 44, 46, 124, 33, 43, 45, 42, 47, 60], [40], [45], [41], [91], [93], [44], [124], [42], [47], [109, 111, 100], [43], [58, 45], [33], [116, 114, 117, 101], [102, 97, 105, 108], [110, 111, 116], [118, 97, 114], [46], [91, 93], [32, 109, 111, 100, 32], [118, 97, 114, 40], [110, 111, 116, 40], [32, 105, 115, 32], [105, 115], [61], [92, 61], [61, 61], [60], [62], [61, 60], [62, 61]]
def am_sts : List (List Nat) := [[25, 26, 27, 28, 35, 21], [36, 37, 38, 39, 40, 41, 42, 35], [22, 13, 19, 20, 21]]
def am_NS : Nat := 43
def am_I0 (L : Nat) : Nat → Nat × Nat := fun k => cond (Nat.blt k am_EXT) (0, 0) (cond (Nat.beq k am_EXT) (71, L) (cond (Nat.blt k (am_EXT + 4)) (76, (am_sts.getD (k - (am_EXT + 1)) []).length) (cond (Nat.blt k (am_EXT + 4 + am_NS)) (77, 2) (cond (Nat.blt k (am_EXT + 4 + am_NS + am_NS)) (74, (am_txs.getD (k - (am_EXT + 4 + am_NS)) []).length) (0, 0)))))
def am_M0 (xs : Nat → Int32) : Nat → Nat → Value := fun k j => cond (Nat.blt k am_EXT) .null (cond (Nat.beq k am_EXT) (.int (xs j)) (cond (Nat.blt k (am_EXT + 4)) (.ref (am_EXT + 4 + (am_sts.getD (k - (am_EXT + 1)) []).getD j 0)) (cond (Nat.blt k (am_EXT + 4 + am_NS)) (cond (Nat.beq j 0) (.ref (k + am_NS)) (.int 0)) (cond (Nat.blt k (am_EXT + 4 + am_NS + am_NS)) (.int (Int32.ofNat ((am_txs.getD (k - (am_EXT + 4 + am_NS)) []).getD j 0))) .null))))
def am_S0 (L : Nat) (xs : Nat → Int32) : AmS := (am_I0 L, am_M0 xs, 0, 0, 0)
def am_P : AmP := (fun j => am_codes.getD j [], fun j => am_infos.getD j (0, 0, []), am_fk)
end
section
def tt_r (r : Option (AmO × AmS)) : Nat := match r with
  | some (.inl (some (.int x)), S) => 1000000000000 * x.toNatClampNeg + 1000000 * S.2.2.2.1 + S.2.2.2.2
  | some (.inr (e, _), _) => 7000000000000 + e
  | some _ => 5
  | none => 3
def tt_s (l : List Int) (k : Nat) : Int32 := Int32.ofInt (l.getD k 0)
theorem tt1 : tt_r (am_run am_P 100000 1000 321 0 [(0, .ref am_EXT)] [] (am_S0 0 (fun _ => 0))) ≥ 1000000000000 := by decide +kernel
theorem tt2 : tt_r (am_run am_P 100000 1000 321 0 [(0, .ref am_EXT)] [] (am_S0 6 (tt_s [2, 0, 0, 0, 0, 0]))) ≥ 1000000000000 := by decide +kernel
theorem tt3 : tt_r (am_run am_P 100000 1000 321 0 [(0, .ref am_EXT)] [] (am_S0 6 (tt_s [8, 0, 0, 0, 0, 0]))) ≥ 1000000000000 := by decide +kernel
theorem tt4 : tt_r (am_run am_P 100000 1000 321 0 [(0, .ref am_EXT)] [] (am_S0 6 (tt_s [17, 0, 0, 0, 0, 0]))) ≥ 1000000000000 := by decide +kernel
theorem tt5 : tt_r (am_run am_P 100000 1000 321 0 [(0, .ref am_EXT)] [] (am_S0 6 (tt_s [0, 1, 2, 3, 4, 5]))) ≥ 1000000000000 := by decide +kernel
theorem tt6 : tt_r (am_run am_P 100000 1000 321 0 [(0, .ref am_EXT)] [] (am_S0 6 (tt_s [1, 7, 2, 3, 4, 5]))) ≥ 1000000000000 := by decide +kernel
theorem tt7 : tt_r (am_run am_P 100000 1000 321 0 [(0, .ref am_EXT)] [] (am_S0 6 (tt_s [16, 7, 2, 3, 4, 5]))) ≥ 1000000000000 := by decide +kernel
theorem tt8 : tt_r (am_run am_P 100000 1000 321 0 [(0, .ref am_EXT)] [] (am_S0 0 (fun _ => 0))) = 1000000000000 := by decide +kernel
end
