section
-- ===== PART A: goes FIRST, ahead of the names: the tables' words, and 'selects' of the private methods out of them =====
/-- a private method of a class that the tables say can be made, by its rows of tables_1 -/
def lw_okq (q : MethodName × Nat) : Prop := (q.1.cls ≠ "java/lang/invoke/MethodHandle" ∧ q.1.cls ≠ "java/lang/invoke/VarHandle") ∧ Cond.instantiable q.1.cls q.2 ∈ tables_1 ∧ Cond.privateMethod q.1 ∈ tables_1 ∧ Cond.instanceMethod q.1 ∈ tables_1
theorem lw_p0 : lw_okq (⟨"HornBench$Parser", "start", "()V"⟩, 11) := ⟨⟨by decide +kernel, by decide +kernel⟩, List.mem_of_getElem? (i := 104) (by decide +kernel), List.mem_of_getElem? (i := 401) (by decide +kernel), List.mem_of_getElem? (i := 402) (by decide +kernel)⟩
theorem lw_p1 : lw_okq (⟨"HornBench$Tokens", "behindBlanks", "(I)I"⟩, 5) := ⟨⟨by decide +kernel, by decide +kernel⟩, List.mem_of_getElem? (i := 110) (by decide +kernel), List.mem_of_getElem? (i := 409) (by decide +kernel), List.mem_of_getElem? (i := 410) (by decide +kernel)⟩
theorem lw_p2 : lw_okq (⟨"HornBench$Tokens", "readToken", "(I)I"⟩, 5) := ⟨⟨by decide +kernel, by decide +kernel⟩, List.mem_of_getElem? (i := 110) (by decide +kernel), List.mem_of_getElem? (i := 417) (by decide +kernel), List.mem_of_getElem? (i := 418) (by decide +kernel)⟩
theorem lw_p3 : lw_okq (⟨"HornBench$Tokens", "keep", "(IIJI)I"⟩, 5) := ⟨⟨by decide +kernel, by decide +kernel⟩, List.mem_of_getElem? (i := 110) (by decide +kernel), List.mem_of_getElem? (i := 421) (by decide +kernel), List.mem_of_getElem? (i := 422) (by decide +kernel)⟩
theorem lw_p4 : lw_okq (⟨"HornBench$Tokens", "readNumber", "(I)I"⟩, 5) := ⟨⟨by decide +kernel, by decide +kernel⟩, List.mem_of_getElem? (i := 110) (by decide +kernel), List.mem_of_getElem? (i := 428) (by decide +kernel), List.mem_of_getElem? (i := 429) (by decide +kernel)⟩
theorem lw_p5 : lw_okq (⟨"HornBench$Tokens", "readWord", "(I)I"⟩, 5) := ⟨⟨by decide +kernel, by decide +kernel⟩, List.mem_of_getElem? (i := 110) (by decide +kernel), List.mem_of_getElem? (i := 436) (by decide +kernel), List.mem_of_getElem? (i := 437) (by decide +kernel)⟩
theorem lw_p6 : lw_okq (⟨"HornBench$Tokens", "behindWord", "(I)I"⟩, 5) := ⟨⟨by decide +kernel, by decide +kernel⟩, List.mem_of_getElem? (i := 110) (by decide +kernel), List.mem_of_getElem? (i := 440) (by decide +kernel), List.mem_of_getElem? (i := 441) (by decide +kernel)⟩
theorem lw_p7 : lw_okq (⟨"HornBench$Tokens", "nameOf", "(II)J"⟩, 5) := ⟨⟨by decide +kernel, by decide +kernel⟩, List.mem_of_getElem? (i := 110) (by decide +kernel), List.mem_of_getElem? (i := 444) (by decide +kernel), List.mem_of_getElem? (i := 445) (by decide +kernel)⟩
theorem lw_p8 : lw_okq (⟨"HornBench$Tokens", "readSymbol", "(III)I"⟩, 5) := ⟨⟨by decide +kernel, by decide +kernel⟩, List.mem_of_getElem? (i := 110) (by decide +kernel), List.mem_of_getElem? (i := 457) (by decide +kernel), List.mem_of_getElem? (i := 458) (by decide +kernel)⟩
theorem lw_p9 : lw_okq (⟨"HornBench$Parser", "readClause", "(I)V"⟩, 11) := ⟨⟨by decide +kernel, by decide +kernel⟩, List.mem_of_getElem? (i := 104) (by decide +kernel), List.mem_of_getElem? (i := 473) (by decide +kernel), List.mem_of_getElem? (i := 474) (by decide +kernel)⟩
theorem lw_p10 : lw_okq (⟨"HornBench$Parser", "tooMany", "()V"⟩, 11) := ⟨⟨by decide +kernel, by decide +kernel⟩, List.mem_of_getElem? (i := 104) (by decide +kernel), List.mem_of_getElem? (i := 477) (by decide +kernel), List.mem_of_getElem? (i := 478) (by decide +kernel)⟩
theorem lw_p11 : lw_okq (⟨"HornBench$Parser", "begin", "(I)V"⟩, 11) := ⟨⟨by decide +kernel, by decide +kernel⟩, List.mem_of_getElem? (i := 104) (by decide +kernel), List.mem_of_getElem? (i := 491) (by decide +kernel), List.mem_of_getElem? (i := 492) (by decide +kernel)⟩
theorem lw_p12 : lw_okq (⟨"HornBench$Parser", "refuse", "()V"⟩, 11) := ⟨⟨by decide +kernel, by decide +kernel⟩, List.mem_of_getElem? (i := 104) (by decide +kernel), List.mem_of_getElem? (i := 499) (by decide +kernel), List.mem_of_getElem? (i := 500) (by decide +kernel)⟩
theorem lw_p13 : lw_okq (⟨"HornBench$Parser", "readSimple", "()I"⟩, 11) := ⟨⟨by decide +kernel, by decide +kernel⟩, List.mem_of_getElem? (i := 104) (by decide +kernel), List.mem_of_getElem? (i := 503) (by decide +kernel), List.mem_of_getElem? (i := 504) (by decide +kernel)⟩
theorem lw_p14 : lw_okq (⟨"HornBench$Parser", "readVariable", "()I"⟩, 11) := ⟨⟨by decide +kernel, by decide +kernel⟩, List.mem_of_getElem? (i := 104) (by decide +kernel), List.mem_of_getElem? (i := 507) (by decide +kernel), List.mem_of_getElem? (i := 508) (by decide +kernel)⟩
theorem lw_p15 : lw_okq (⟨"HornBench$Parser", "take", "()V"⟩, 11) := ⟨⟨by decide +kernel, by decide +kernel⟩, List.mem_of_getElem? (i := 104) (by decide +kernel), List.mem_of_getElem? (i := 516) (by decide +kernel), List.mem_of_getElem? (i := 517) (by decide +kernel)⟩
def lw_privs_1 : List (MethodName × Nat) := [(⟨"HornBench$Parser", "start", "()V"⟩, 11), (⟨"HornBench$Tokens", "behindBlanks", "(I)I"⟩, 5), (⟨"HornBench$Tokens", "readToken", "(I)I"⟩, 5), (⟨"HornBench$Tokens", "keep", "(IIJI)I"⟩, 5), (⟨"HornBench$Tokens", "readNumber", "(I)I"⟩, 5), (⟨"HornBench$Tokens", "readWord", "(I)I"⟩, 5), (⟨"HornBench$Tokens", "behindWord", "(I)I"⟩, 5), (⟨"HornBench$Tokens", "nameOf", "(II)J"⟩, 5), (⟨"HornBench$Tokens", "readSymbol", "(III)I"⟩, 5), (⟨"HornBench$Parser", "readClause", "(I)V"⟩, 11), (⟨"HornBench$Parser", "tooMany", "()V"⟩, 11), (⟨"HornBench$Parser", "begin", "(I)V"⟩, 11), (⟨"HornBench$Parser", "refuse", "()V"⟩, 11), (⟨"HornBench$Parser", "readSimple", "()I"⟩, 11), (⟨"HornBench$Parser", "readVariable", "()I"⟩, 11), (⟨"HornBench$Parser", "take", "()V"⟩, 11)]
theorem lw_r1 : ∀ q ∈ lw_privs_1, lw_okq q := List.forall_mem_cons.mpr ⟨lw_p0, List.forall_mem_cons.mpr ⟨lw_p1, List.forall_mem_cons.mpr ⟨lw_p2, List.forall_mem_cons.mpr ⟨lw_p3, List.forall_mem_cons.mpr ⟨lw_p4, List.forall_mem_cons.mpr ⟨lw_p5, List.forall_mem_cons.mpr ⟨lw_p6, List.forall_mem_cons.mpr ⟨lw_p7, List.forall_mem_cons.mpr ⟨lw_p8, List.forall_mem_cons.mpr ⟨lw_p9, List.forall_mem_cons.mpr ⟨lw_p10, List.forall_mem_cons.mpr ⟨lw_p11, List.forall_mem_cons.mpr ⟨lw_p12, List.forall_mem_cons.mpr ⟨lw_p13, List.forall_mem_cons.mpr ⟨lw_p14, List.forall_mem_cons.mpr ⟨lw_p15, fun _ h => absurd h List.not_mem_nil⟩⟩⟩⟩⟩⟩⟩⟩⟩⟩⟩⟩⟩⟩⟩⟩
theorem lw_p16 : lw_okq (⟨"HornBench$Parser", "readNumber", "(I)I"⟩, 11) := ⟨⟨by decide +kernel, by decide +kernel⟩, List.mem_of_getElem? (i := 104) (by decide +kernel), List.mem_of_getElem? (i := 524) (by decide +kernel), List.mem_of_getElem? (i := 525) (by decide +kernel)⟩
theorem lw_p17 : lw_okq (⟨"HornBench$Parser", "readName", "()I"⟩, 11) := ⟨⟨by decide +kernel, by decide +kernel⟩, List.mem_of_getElem? (i := 104) (by decide +kernel), List.mem_of_getElem? (i := 528) (by decide +kernel), List.mem_of_getElem? (i := 529) (by decide +kernel)⟩
theorem lw_p18 : lw_okq (⟨"HornBench$Parser", "open", "(I)V"⟩, 11) := ⟨⟨by decide +kernel, by decide +kernel⟩, List.mem_of_getElem? (i := 104) (by decide +kernel), List.mem_of_getElem? (i := 532) (by decide +kernel), List.mem_of_getElem? (i := 533) (by decide +kernel)⟩
theorem lw_p19 : lw_okq (⟨"HornBench$Parser", "readTerm", "()I"⟩, 11) := ⟨⟨by decide +kernel, by decide +kernel⟩, List.mem_of_getElem? (i := 104) (by decide +kernel), List.mem_of_getElem? (i := 536) (by decide +kernel), List.mem_of_getElem? (i := 537) (by decide +kernel)⟩
theorem lw_p20 : lw_okq (⟨"HornBench$Parser", "readProduct", "()I"⟩, 11) := ⟨⟨by decide +kernel, by decide +kernel⟩, List.mem_of_getElem? (i := 104) (by decide +kernel), List.mem_of_getElem? (i := 540) (by decide +kernel), List.mem_of_getElem? (i := 541) (by decide +kernel)⟩
theorem lw_p21 : lw_okq (⟨"HornBench$Parser", "close", "(I)V"⟩, 11) := ⟨⟨by decide +kernel, by decide +kernel⟩, List.mem_of_getElem? (i := 104) (by decide +kernel), List.mem_of_getElem? (i := 548) (by decide +kernel), List.mem_of_getElem? (i := 549) (by decide +kernel)⟩
theorem lw_p22 : lw_okq (⟨"HornBench$Parser", "readList", "()I"⟩, 11) := ⟨⟨by decide +kernel, by decide +kernel⟩, List.mem_of_getElem? (i := 104) (by decide +kernel), List.mem_of_getElem? (i := 552) (by decide +kernel), List.mem_of_getElem? (i := 553) (by decide +kernel)⟩
theorem lw_p23 : lw_okq (⟨"HornBench$Parser", "makePairs", "(II)I"⟩, 11) := ⟨⟨by decide +kernel, by decide +kernel⟩, List.mem_of_getElem? (i := 104) (by decide +kernel), List.mem_of_getElem? (i := 557) (by decide +kernel), List.mem_of_getElem? (i := 558) (by decide +kernel)⟩
theorem lw_p24 : lw_okq (⟨"HornBench$Parser", "readGoals", "()I"⟩, 11) := ⟨⟨by decide +kernel, by decide +kernel⟩, List.mem_of_getElem? (i := 104) (by decide +kernel), List.mem_of_getElem? (i := 566) (by decide +kernel), List.mem_of_getElem? (i := 567) (by decide +kernel)⟩
theorem lw_p25 : lw_okq (⟨"HornBench$Parser", "readGoal", "()I"⟩, 11) := ⟨⟨by decide +kernel, by decide +kernel⟩, List.mem_of_getElem? (i := 104) (by decide +kernel), List.mem_of_getElem? (i := 570) (by decide +kernel), List.mem_of_getElem? (i := 571) (by decide +kernel)⟩
theorem lw_p26 : lw_okq (⟨"HornBench$Parser", "readPlainGoal", "()I"⟩, 11) := ⟨⟨by decide +kernel, by decide +kernel⟩, List.mem_of_getElem? (i := 104) (by decide +kernel), List.mem_of_getElem? (i := 574) (by decide +kernel), List.mem_of_getElem? (i := 575) (by decide +kernel)⟩
theorem lw_p27 : lw_okq (⟨"HornBench$Parser", "readNot", "()I"⟩, 11) := ⟨⟨by decide +kernel, by decide +kernel⟩, List.mem_of_getElem? (i := 104) (by decide +kernel), List.mem_of_getElem? (i := 578) (by decide +kernel), List.mem_of_getElem? (i := 579) (by decide +kernel)⟩
theorem lw_p28 : lw_okq (⟨"HornBench$Parser", "readVar", "()I"⟩, 11) := ⟨⟨by decide +kernel, by decide +kernel⟩, List.mem_of_getElem? (i := 104) (by decide +kernel), List.mem_of_getElem? (i := 583) (by decide +kernel), List.mem_of_getElem? (i := 584) (by decide +kernel)⟩
theorem lw_p29 : lw_okq (⟨"HornBench$Parser", "readRelation", "()I"⟩, 11) := ⟨⟨by decide +kernel, by decide +kernel⟩, List.mem_of_getElem? (i := 104) (by decide +kernel), List.mem_of_getElem? (i := 588) (by decide +kernel), List.mem_of_getElem? (i := 589) (by decide +kernel)⟩
theorem lw_p30 : lw_okq (⟨"HornBench$Parser", "expect", "(I)V"⟩, 11) := ⟨⟨by decide +kernel, by decide +kernel⟩, List.mem_of_getElem? (i := 104) (by decide +kernel), List.mem_of_getElem? (i := 605) (by decide +kernel), List.mem_of_getElem? (i := 606) (by decide +kernel)⟩
theorem lw_p31 : lw_okq (⟨"HornBench$Parser", "error", "()I"⟩, 11) := ⟨⟨by decide +kernel, by decide +kernel⟩, List.mem_of_getElem? (i := 104) (by decide +kernel), List.mem_of_getElem? (i := 616) (by decide +kernel), List.mem_of_getElem? (i := 617) (by decide +kernel)⟩
def lw_privs_2 : List (MethodName × Nat) := [(⟨"HornBench$Parser", "readNumber", "(I)I"⟩, 11), (⟨"HornBench$Parser", "readName", "()I"⟩, 11), (⟨"HornBench$Parser", "open", "(I)V"⟩, 11), (⟨"HornBench$Parser", "readTerm", "()I"⟩, 11), (⟨"HornBench$Parser", "readProduct", "()I"⟩, 11), (⟨"HornBench$Parser", "close", "(I)V"⟩, 11), (⟨"HornBench$Parser", "readList", "()I"⟩, 11), (⟨"HornBench$Parser", "makePairs", "(II)I"⟩, 11), (⟨"HornBench$Parser", "readGoals", "()I"⟩, 11), (⟨"HornBench$Parser", "readGoal", "()I"⟩, 11), (⟨"HornBench$Parser", "readPlainGoal", "()I"⟩, 11), (⟨"HornBench$Parser", "readNot", "()I"⟩, 11), (⟨"HornBench$Parser", "readVar", "()I"⟩, 11), (⟨"HornBench$Parser", "readRelation", "()I"⟩, 11), (⟨"HornBench$Parser", "expect", "(I)V"⟩, 11), (⟨"HornBench$Parser", "error", "()I"⟩, 11)]
theorem lw_r2 : ∀ q ∈ lw_privs_2, lw_okq q := List.forall_mem_cons.mpr ⟨lw_p16, List.forall_mem_cons.mpr ⟨lw_p17, List.forall_mem_cons.mpr ⟨lw_p18, List.forall_mem_cons.mpr ⟨lw_p19, List.forall_mem_cons.mpr ⟨lw_p20, List.forall_mem_cons.mpr ⟨lw_p21, List.forall_mem_cons.mpr ⟨lw_p22, List.forall_mem_cons.mpr ⟨lw_p23, List.forall_mem_cons.mpr ⟨lw_p24, List.forall_mem_cons.mpr ⟨lw_p25, List.forall_mem_cons.mpr ⟨lw_p26, List.forall_mem_cons.mpr ⟨lw_p27, List.forall_mem_cons.mpr ⟨lw_p28, List.forall_mem_cons.mpr ⟨lw_p29, List.forall_mem_cons.mpr ⟨lw_p30, List.forall_mem_cons.mpr ⟨lw_p31, fun _ h => absurd h List.not_mem_nil⟩⟩⟩⟩⟩⟩⟩⟩⟩⟩⟩⟩⟩⟩⟩⟩
theorem lw_p32 : lw_okq (⟨"HornBench", "finishReading", "(I)I"⟩, 8) := ⟨⟨by decide +kernel, by decide +kernel⟩, List.mem_of_getElem? (i := 28) (by decide +kernel), List.mem_of_getElem? (i := 624) (by decide +kernel), List.mem_of_getElem? (i := 625) (by decide +kernel)⟩
theorem lw_p33 : lw_okq (⟨"HornBench$Question", "chain", "(III)I"⟩, 19) := ⟨⟨by decide +kernel, by decide +kernel⟩, List.mem_of_getElem? (i := 232) (by decide +kernel), List.mem_of_getElem? (i := 678) (by decide +kernel), List.mem_of_getElem? (i := 679) (by decide +kernel)⟩
theorem lw_p34 : lw_okq (⟨"HornBench$Question", "link", "(III)I"⟩, 19) := ⟨⟨by decide +kernel, by decide +kernel⟩, List.mem_of_getElem? (i := 232) (by decide +kernel), List.mem_of_getElem? (i := 695) (by decide +kernel), List.mem_of_getElem? (i := 696) (by decide +kernel)⟩
theorem lw_p35 : lw_okq (⟨"java/lang/Throwable", "fillInStackTrace", "(I)Ljava/lang/Throwable;"⟩, 6) := ⟨⟨by decide +kernel, by decide +kernel⟩, List.mem_of_getElem? (i := 813) (by decide +kernel), List.mem_of_getElem? (i := 811) (by decide +kernel), List.mem_of_getElem? (i := 812) (by decide +kernel)⟩
theorem lw_p36 : lw_okq (⟨"HornBench$Question", "settle", "(Z)V"⟩, 19) := ⟨⟨by decide +kernel, by decide +kernel⟩, List.mem_of_getElem? (i := 232) (by decide +kernel), List.mem_of_getElem? (i := 957) (by decide +kernel), List.mem_of_getElem? (i := 958) (by decide +kernel)⟩
theorem lw_p37 : lw_okq (⟨"HornBench$Question", "isAtMark", "()Z"⟩, 19) := ⟨⟨by decide +kernel, by decide +kernel⟩, List.mem_of_getElem? (i := 232) (by decide +kernel), List.mem_of_getElem? (i := 961) (by decide +kernel), List.mem_of_getElem? (i := 962) (by decide +kernel)⟩
theorem lw_p38 : lw_okq (⟨"HornBench$Question", "goBack", "()V"⟩, 19) := ⟨⟨by decide +kernel, by decide +kernel⟩, List.mem_of_getElem? (i := 232) (by decide +kernel), List.mem_of_getElem? (i := 965) (by decide +kernel), List.mem_of_getElem? (i := 966) (by decide +kernel)⟩
theorem lw_p39 : lw_okq (⟨"HornBench$Matcher", "join", "(IIZ)Z"⟩, 4) := ⟨⟨by decide +kernel, by decide +kernel⟩, List.mem_of_getElem? (i := 212) (by decide +kernel), List.mem_of_getElem? (i := 994) (by decide +kernel), List.mem_of_getElem? (i := 995) (by decide +kernel)⟩
theorem lw_p40 : lw_okq (⟨"HornBench$Matcher", "root", "(I)I"⟩, 4) := ⟨⟨by decide +kernel, by decide +kernel⟩, List.mem_of_getElem? (i := 212) (by decide +kernel), List.mem_of_getElem? (i := 1011) (by decide +kernel), List.mem_of_getElem? (i := 1012) (by decide +kernel)⟩
theorem lw_p41 : lw_okq (⟨"HornBench$Question", "stepAgain", "()Z"⟩, 19) := ⟨⟨by decide +kernel, by decide +kernel⟩, List.mem_of_getElem? (i := 232) (by decide +kernel), List.mem_of_getElem? (i := 1079) (by decide +kernel), List.mem_of_getElem? (i := 1080) (by decide +kernel)⟩
theorem lw_p42 : lw_okq (⟨"HornBench$Question", "useClause", "(II)Z"⟩, 19) := ⟨⟨by decide +kernel, by decide +kernel⟩, List.mem_of_getElem? (i := 232) (by decide +kernel), List.mem_of_getElem? (i := 1083) (by decide +kernel), List.mem_of_getElem? (i := 1084) (by decide +kernel)⟩
theorem lw_p43 : lw_okq (⟨"HornBench$Question", "leaveChoice", "(III)V"⟩, 19) := ⟨⟨by decide +kernel, by decide +kernel⟩, List.mem_of_getElem? (i := 232) (by decide +kernel), List.mem_of_getElem? (i := 1088) (by decide +kernel), List.mem_of_getElem? (i := 1089) (by decide +kernel)⟩
theorem lw_p44 : lw_okq (⟨"HornBench$Question", "step", "()Z"⟩, 19) := ⟨⟨by decide +kernel, by decide +kernel⟩, List.mem_of_getElem? (i := 232) (by decide +kernel), List.mem_of_getElem? (i := 1096) (by decide +kernel), List.mem_of_getElem? (i := 1097) (by decide +kernel)⟩
theorem lw_p45 : lw_okq (⟨"HornBench$Question", "assign", "(II)Z"⟩, 19) := ⟨⟨by decide +kernel, by decide +kernel⟩, List.mem_of_getElem? (i := 232) (by decide +kernel), List.mem_of_getElem? (i := 1107) (by decide +kernel), List.mem_of_getElem? (i := 1108) (by decide +kernel)⟩
theorem lw_p46 : lw_okq (⟨"HornBench$Evaluator", "find", "(II)Z"⟩, 6) := ⟨⟨by decide +kernel, by decide +kernel⟩, List.mem_of_getElem? (i := 238) (by decide +kernel), List.mem_of_getElem? (i := 1115) (by decide +kernel), List.mem_of_getElem? (i := 1116) (by decide +kernel)⟩
theorem lw_p47 : lw_okq (⟨"HornBench$Evaluator", "compute", "(II)Z"⟩, 6) := ⟨⟨by decide +kernel, by decide +kernel⟩, List.mem_of_getElem? (i := 238) (by decide +kernel), List.mem_of_getElem? (i := 1126) (by decide +kernel), List.mem_of_getElem? (i := 1127) (by decide +kernel)⟩
def lw_privs_3 : List (MethodName × Nat) := [(⟨"HornBench", "finishReading", "(I)I"⟩, 8), (⟨"HornBench$Question", "chain", "(III)I"⟩, 19), (⟨"HornBench$Question", "link", "(III)I"⟩, 19), (⟨"java/lang/Throwable", "fillInStackTrace", "(I)Ljava/lang/Throwable;"⟩, 6), (⟨"HornBench$Question", "settle", "(Z)V"⟩, 19), (⟨"HornBench$Question", "isAtMark", "()Z"⟩, 19), (⟨"HornBench$Question", "goBack", "()V"⟩, 19), (⟨"HornBench$Matcher", "join", "(IIZ)Z"⟩, 4), (⟨"HornBench$Matcher", "root", "(I)I"⟩, 4), (⟨"HornBench$Question", "stepAgain", "()Z"⟩, 19), (⟨"HornBench$Question", "useClause", "(II)Z"⟩, 19), (⟨"HornBench$Question", "leaveChoice", "(III)V"⟩, 19), (⟨"HornBench$Question", "step", "()Z"⟩, 19), (⟨"HornBench$Question", "assign", "(II)Z"⟩, 19), (⟨"HornBench$Evaluator", "find", "(II)Z"⟩, 6), (⟨"HornBench$Evaluator", "compute", "(II)Z"⟩, 6)]
theorem lw_r3 : ∀ q ∈ lw_privs_3, lw_okq q := List.forall_mem_cons.mpr ⟨lw_p32, List.forall_mem_cons.mpr ⟨lw_p33, List.forall_mem_cons.mpr ⟨lw_p34, List.forall_mem_cons.mpr ⟨lw_p35, List.forall_mem_cons.mpr ⟨lw_p36, List.forall_mem_cons.mpr ⟨lw_p37, List.forall_mem_cons.mpr ⟨lw_p38, List.forall_mem_cons.mpr ⟨lw_p39, List.forall_mem_cons.mpr ⟨lw_p40, List.forall_mem_cons.mpr ⟨lw_p41, List.forall_mem_cons.mpr ⟨lw_p42, List.forall_mem_cons.mpr ⟨lw_p43, List.forall_mem_cons.mpr ⟨lw_p44, List.forall_mem_cons.mpr ⟨lw_p45, List.forall_mem_cons.mpr ⟨lw_p46, List.forall_mem_cons.mpr ⟨lw_p47, fun _ h => absurd h List.not_mem_nil⟩⟩⟩⟩⟩⟩⟩⟩⟩⟩⟩⟩⟩⟩⟩⟩
theorem lw_p48 : lw_okq (⟨"HornBench$Evaluator", "apply", "(JII)Z"⟩, 6) := ⟨⟨by decide +kernel, by decide +kernel⟩, List.mem_of_getElem? (i := 238) (by decide +kernel), List.mem_of_getElem? (i := 1148) (by decide +kernel), List.mem_of_getElem? (i := 1149) (by decide +kernel)⟩
theorem lw_p49 : lw_okq (⟨"HornBench$Question", "stopByError", "()Z"⟩, 19) := ⟨⟨by decide +kernel, by decide +kernel⟩, List.mem_of_getElem? (i := 232) (by decide +kernel), List.mem_of_getElem? (i := 1159) (by decide +kernel), List.mem_of_getElem? (i := 1160) (by decide +kernel)⟩
theorem lw_p50 : lw_okq (⟨"HornBench$Question", "compare", "(III)Z"⟩, 19) := ⟨⟨by decide +kernel, by decide +kernel⟩, List.mem_of_getElem? (i := 232) (by decide +kernel), List.mem_of_getElem? (i := 1171) (by decide +kernel), List.mem_of_getElem? (i := 1172) (by decide +kernel)⟩
theorem lw_p51 : lw_okq (⟨"HornBench$Pen", "push", "(II)V"⟩, 10) := ⟨⟨by decide +kernel, by decide +kernel⟩, List.mem_of_getElem? (i := 323) (by decide +kernel), List.mem_of_getElem? (i := 1193) (by decide +kernel), List.mem_of_getElem? (i := 1194) (by decide +kernel)⟩
theorem lw_p52 : lw_okq (⟨"HornBench$Pen", "hasRoom", "()Z"⟩, 10) := ⟨⟨by decide +kernel, by decide +kernel⟩, List.mem_of_getElem? (i := 323) (by decide +kernel), List.mem_of_getElem? (i := 1197) (by decide +kernel), List.mem_of_getElem? (i := 1198) (by decide +kernel)⟩
theorem lw_p53 : lw_okq (⟨"HornBench$Pen", "writeItem", "(II)V"⟩, 10) := ⟨⟨by decide +kernel, by decide +kernel⟩, List.mem_of_getElem? (i := 323) (by decide +kernel), List.mem_of_getElem? (i := 1203) (by decide +kernel), List.mem_of_getElem? (i := 1204) (by decide +kernel)⟩
theorem lw_p54 : lw_okq (⟨"HornBench$Pen", "writeTerm", "(I)V"⟩, 10) := ⟨⟨by decide +kernel, by decide +kernel⟩, List.mem_of_getElem? (i := 323) (by decide +kernel), List.mem_of_getElem? (i := 1208) (by decide +kernel), List.mem_of_getElem? (i := 1209) (by decide +kernel)⟩
theorem lw_p55 : lw_okq (⟨"HornBench$Pen", "writeByte", "(I)V"⟩, 10) := ⟨⟨by decide +kernel, by decide +kernel⟩, List.mem_of_getElem? (i := 323) (by decide +kernel), List.mem_of_getElem? (i := 1213) (by decide +kernel), List.mem_of_getElem? (i := 1214) (by decide +kernel)⟩
theorem lw_p56 : lw_okq (⟨"HornBench$Pen", "numberOfFree", "(I)I"⟩, 10) := ⟨⟨by decide +kernel, by decide +kernel⟩, List.mem_of_getElem? (i := 323) (by decide +kernel), List.mem_of_getElem? (i := 1217) (by decide +kernel), List.mem_of_getElem? (i := 1218) (by decide +kernel)⟩
theorem lw_p57 : lw_okq (⟨"HornBench$Pen", "writeDigits", "(I)V"⟩, 10) := ⟨⟨by decide +kernel, by decide +kernel⟩, List.mem_of_getElem? (i := 323) (by decide +kernel), List.mem_of_getElem? (i := 1221) (by decide +kernel), List.mem_of_getElem? (i := 1222) (by decide +kernel)⟩
theorem lw_p58 : lw_okq (⟨"HornBench$Pen", "writeNamed", "(I)V"⟩, 10) := ⟨⟨by decide +kernel, by decide +kernel⟩, List.mem_of_getElem? (i := 323) (by decide +kernel), List.mem_of_getElem? (i := 1229) (by decide +kernel), List.mem_of_getElem? (i := 1230) (by decide +kernel)⟩
theorem lw_p59 : lw_okq (⟨"HornBench$Pen", "writeName", "(J)V"⟩, 10) := ⟨⟨by decide +kernel, by decide +kernel⟩, List.mem_of_getElem? (i := 323) (by decide +kernel), List.mem_of_getElem? (i := 1235) (by decide +kernel), List.mem_of_getElem? (i := 1236) (by decide +kernel)⟩
theorem lw_p60 : lw_okq (⟨"HornBench$Pen", "writeBetween", "(IIJZ)V"⟩, 10) := ⟨⟨by decide +kernel, by decide +kernel⟩, List.mem_of_getElem? (i := 323) (by decide +kernel), List.mem_of_getElem? (i := 1244) (by decide +kernel), List.mem_of_getElem? (i := 1245) (by decide +kernel)⟩
theorem lw_p61 : lw_okq (⟨"HornBench$Pen", "writeOperand", "(I)V"⟩, 10) := ⟨⟨by decide +kernel, by decide +kernel⟩, List.mem_of_getElem? (i := 323) (by decide +kernel), List.mem_of_getElem? (i := 1248) (by decide +kernel), List.mem_of_getElem? (i := 1249) (by decide +kernel)⟩
theorem lw_p62 : lw_okq (⟨"HornBench$Pen", "writeChain", "(III)V"⟩, 10) := ⟨⟨by decide +kernel, by decide +kernel⟩, List.mem_of_getElem? (i := 323) (by decide +kernel), List.mem_of_getElem? (i := 1252) (by decide +kernel), List.mem_of_getElem? (i := 1253) (by decide +kernel)⟩
theorem lw_p63 : lw_okq (⟨"HornBench$Pen", "writeTail", "(I)V"⟩, 10) := ⟨⟨by decide +kernel, by decide +kernel⟩, List.mem_of_getElem? (i := 323) (by decide +kernel), List.mem_of_getElem? (i := 1256) (by decide +kernel), List.mem_of_getElem? (i := 1257) (by decide +kernel)⟩
def lw_privs_4 : List (MethodName × Nat) := [(⟨"HornBench$Evaluator", "apply", "(JII)Z"⟩, 6), (⟨"HornBench$Question", "stopByError", "()Z"⟩, 19), (⟨"HornBench$Question", "compare", "(III)Z"⟩, 19), (⟨"HornBench$Pen", "push", "(II)V"⟩, 10), (⟨"HornBench$Pen", "hasRoom", "()Z"⟩, 10), (⟨"HornBench$Pen", "writeItem", "(II)V"⟩, 10), (⟨"HornBench$Pen", "writeTerm", "(I)V"⟩, 10), (⟨"HornBench$Pen", "writeByte", "(I)V"⟩, 10), (⟨"HornBench$Pen", "numberOfFree", "(I)I"⟩, 10), (⟨"HornBench$Pen", "writeDigits", "(I)V"⟩, 10), (⟨"HornBench$Pen", "writeNamed", "(I)V"⟩, 10), (⟨"HornBench$Pen", "writeName", "(J)V"⟩, 10), (⟨"HornBench$Pen", "writeBetween", "(IIJZ)V"⟩, 10), (⟨"HornBench$Pen", "writeOperand", "(I)V"⟩, 10), (⟨"HornBench$Pen", "writeChain", "(III)V"⟩, 10), (⟨"HornBench$Pen", "writeTail", "(I)V"⟩, 10)]
theorem lw_r4 : ∀ q ∈ lw_privs_4, lw_okq q := List.forall_mem_cons.mpr ⟨lw_p48, List.forall_mem_cons.mpr ⟨lw_p49, List.forall_mem_cons.mpr ⟨lw_p50, List.forall_mem_cons.mpr ⟨lw_p51, List.forall_mem_cons.mpr ⟨lw_p52, List.forall_mem_cons.mpr ⟨lw_p53, List.forall_mem_cons.mpr ⟨lw_p54, List.forall_mem_cons.mpr ⟨lw_p55, List.forall_mem_cons.mpr ⟨lw_p56, List.forall_mem_cons.mpr ⟨lw_p57, List.forall_mem_cons.mpr ⟨lw_p58, List.forall_mem_cons.mpr ⟨lw_p59, List.forall_mem_cons.mpr ⟨lw_p60, List.forall_mem_cons.mpr ⟨lw_p61, List.forall_mem_cons.mpr ⟨lw_p62, List.forall_mem_cons.mpr ⟨lw_p63, fun _ h => absurd h List.not_mem_nil⟩⟩⟩⟩⟩⟩⟩⟩⟩⟩⟩⟩⟩⟩⟩⟩
theorem lw_p64 : lw_okq (⟨"HornBench$Pen", "writeOneGoal", "(I)V"⟩, 10) := ⟨⟨by decide +kernel, by decide +kernel⟩, List.mem_of_getElem? (i := 323) (by decide +kernel), List.mem_of_getElem? (i := 1261) (by decide +kernel), List.mem_of_getElem? (i := 1262) (by decide +kernel)⟩
theorem lw_p65 : lw_okq (⟨"HornBenchModel", "no", "(I)I"⟩, 62) := ⟨⟨by decide +kernel, by decide +kernel⟩, List.mem_of_getElem? (i := 1309) (by decide +kernel), List.mem_of_getElem? (i := 1513) (by decide +kernel), List.mem_of_getElem? (i := 1514) (by decide +kernel)⟩
theorem lw_p66 : lw_okq (⟨"HornBenchModel", "read", "(I)I"⟩, 62) := ⟨⟨by decide +kernel, by decide +kernel⟩, List.mem_of_getElem? (i := 1309) (by decide +kernel), List.mem_of_getElem? (i := 1528) (by decide +kernel), List.mem_of_getElem? (i := 1529) (by decide +kernel)⟩
theorem lw_p67 : lw_okq (⟨"HornBenchModel", "forgetQuestion", "()V"⟩, 62) := ⟨⟨by decide +kernel, by decide +kernel⟩, List.mem_of_getElem? (i := 1309) (by decide +kernel), List.mem_of_getElem? (i := 1532) (by decide +kernel), List.mem_of_getElem? (i := 1533) (by decide +kernel)⟩
theorem lw_p68 : lw_okq (⟨"HornBenchModel", "scan", "()V"⟩, 62) := ⟨⟨by decide +kernel, by decide +kernel⟩, List.mem_of_getElem? (i := 1309) (by decide +kernel), List.mem_of_getElem? (i := 1536) (by decide +kernel), List.mem_of_getElem? (i := 1537) (by decide +kernel)⟩
theorem lw_p69 : lw_okq (⟨"HornBenchModel", "byteAtTape", "(I)I"⟩, 62) := ⟨⟨by decide +kernel, by decide +kernel⟩, List.mem_of_getElem? (i := 1309) (by decide +kernel), List.mem_of_getElem? (i := 1540) (by decide +kernel), List.mem_of_getElem? (i := 1541) (by decide +kernel)⟩
theorem lw_p70 : lw_okq (⟨"HornBenchModel", "symbolAt", "(I)I"⟩, 62) := ⟨⟨by decide +kernel, by decide +kernel⟩, List.mem_of_getElem? (i := 1309) (by decide +kernel), List.mem_of_getElem? (i := 1553) (by decide +kernel), List.mem_of_getElem? (i := 1554) (by decide +kernel)⟩
theorem lw_p71 : lw_okq (⟨"HornBenchModel", "programForm", "()Z"⟩, 62) := ⟨⟨by decide +kernel, by decide +kernel⟩, List.mem_of_getElem? (i := 1309) (by decide +kernel), List.mem_of_getElem? (i := 1641) (by decide +kernel), List.mem_of_getElem? (i := 1642) (by decide +kernel)⟩
theorem lw_p72 : lw_okq (⟨"HornBenchModel", "clauseForm", "()Z"⟩, 62) := ⟨⟨by decide +kernel, by decide +kernel⟩, List.mem_of_getElem? (i := 1309) (by decide +kernel), List.mem_of_getElem? (i := 1645) (by decide +kernel), List.mem_of_getElem? (i := 1646) (by decide +kernel)⟩
theorem lw_p73 : lw_okq (⟨"HornBenchModel", "isName", "(I)Z"⟩, 62) := ⟨⟨by decide +kernel, by decide +kernel⟩, List.mem_of_getElem? (i := 1309) (by decide +kernel), List.mem_of_getElem? (i := 1649) (by decide +kernel), List.mem_of_getElem? (i := 1650) (by decide +kernel)⟩
theorem lw_p74 : lw_okq (⟨"HornBenchModel", "which", "(I[Ljava/lang/String;)I"⟩, 62) := ⟨⟨by decide +kernel, by decide +kernel⟩, List.mem_of_getElem? (i := 1309) (by decide +kernel), List.mem_of_getElem? (i := 1655) (by decide +kernel), List.mem_of_getElem? (i := 1656) (by decide +kernel)⟩
theorem lw_p75 : lw_okq (⟨"HornBenchModel", "is", "(ILjava/lang/String;)Z"⟩, 62) := ⟨⟨by decide +kernel, by decide +kernel⟩, List.mem_of_getElem? (i := 1309) (by decide +kernel), List.mem_of_getElem? (i := 1659) (by decide +kernel), List.mem_of_getElem? (i := 1660) (by decide +kernel)⟩
theorem lw_p76 : lw_okq (⟨"HornBenchModel", "goes", "()Z"⟩, 62) := ⟨⟨by decide +kernel, by decide +kernel⟩, List.mem_of_getElem? (i := 1309) (by decide +kernel), List.mem_of_getElem? (i := 1684) (by decide +kernel), List.mem_of_getElem? (i := 1685) (by decide +kernel)⟩
theorem lw_p77 : lw_okq (⟨"HornBenchModel", "sees", "(Ljava/lang/String;)Z"⟩, 62) := ⟨⟨by decide +kernel, by decide +kernel⟩, List.mem_of_getElem? (i := 1309) (by decide +kernel), List.mem_of_getElem? (i := 1689) (by decide +kernel), List.mem_of_getElem? (i := 1690) (by decide +kernel)⟩
theorem lw_p78 : lw_okq (⟨"HornBenchModel", "argumentsForm", "(I)Z"⟩, 62) := ⟨⟨by decide +kernel, by decide +kernel⟩, List.mem_of_getElem? (i := 1309) (by decide +kernel), List.mem_of_getElem? (i := 1693) (by decide +kernel), List.mem_of_getElem? (i := 1694) (by decide +kernel)⟩
theorem lw_p79 : lw_okq (⟨"HornBenchModel", "opens", "(Ljava/lang/String;I)Z"⟩, 62) := ⟨⟨by decide +kernel, by decide +kernel⟩, List.mem_of_getElem? (i := 1309) (by decide +kernel), List.mem_of_getElem? (i := 1697) (by decide +kernel), List.mem_of_getElem? (i := 1698) (by decide +kernel)⟩
def lw_privs_5 : List (MethodName × Nat) := [(⟨"HornBench$Pen", "writeOneGoal", "(I)V"⟩, 10), (⟨"HornBenchModel", "no", "(I)I"⟩, 62), (⟨"HornBenchModel", "read", "(I)I"⟩, 62), (⟨"HornBenchModel", "forgetQuestion", "()V"⟩, 62), (⟨"HornBenchModel", "scan", "()V"⟩, 62), (⟨"HornBenchModel", "byteAtTape", "(I)I"⟩, 62), (⟨"HornBenchModel", "symbolAt", "(I)I"⟩, 62), (⟨"HornBenchModel", "programForm", "()Z"⟩, 62), (⟨"HornBenchModel", "clauseForm", "()Z"⟩, 62), (⟨"HornBenchModel", "isName", "(I)Z"⟩, 62), (⟨"HornBenchModel", "which", "(I[Ljava/lang/String;)I"⟩, 62), (⟨"HornBenchModel", "is", "(ILjava/lang/String;)Z"⟩, 62), (⟨"HornBenchModel", "goes", "()Z"⟩, 62), (⟨"HornBenchModel", "sees", "(Ljava/lang/String;)Z"⟩, 62), (⟨"HornBenchModel", "argumentsForm", "(I)Z"⟩, 62), (⟨"HornBenchModel", "opens", "(Ljava/lang/String;I)Z"⟩, 62)]
theorem lw_r5 : ∀ q ∈ lw_privs_5, lw_okq q := List.forall_mem_cons.mpr ⟨lw_p64, List.forall_mem_cons.mpr ⟨lw_p65, List.forall_mem_cons.mpr ⟨lw_p66, List.forall_mem_cons.mpr ⟨lw_p67, List.forall_mem_cons.mpr ⟨lw_p68, List.forall_mem_cons.mpr ⟨lw_p69, List.forall_mem_cons.mpr ⟨lw_p70, List.forall_mem_cons.mpr ⟨lw_p71, List.forall_mem_cons.mpr ⟨lw_p72, List.forall_mem_cons.mpr ⟨lw_p73, List.forall_mem_cons.mpr ⟨lw_p74, List.forall_mem_cons.mpr ⟨lw_p75, List.forall_mem_cons.mpr ⟨lw_p76, List.forall_mem_cons.mpr ⟨lw_p77, List.forall_mem_cons.mpr ⟨lw_p78, List.forall_mem_cons.mpr ⟨lw_p79, fun _ h => absurd h List.not_mem_nil⟩⟩⟩⟩⟩⟩⟩⟩⟩⟩⟩⟩⟩⟩⟩⟩
theorem lw_p80 : lw_okq (⟨"HornBenchModel", "takes", "(Ljava/lang/String;)Z"⟩, 62) := ⟨⟨by decide +kernel, by decide +kernel⟩, List.mem_of_getElem? (i := 1309) (by decide +kernel), List.mem_of_getElem? (i := 1701) (by decide +kernel), List.mem_of_getElem? (i := 1702) (by decide +kernel)⟩
theorem lw_p81 : lw_okq (⟨"HornBenchModel", "termForm", "(I)Z"⟩, 62) := ⟨⟨by decide +kernel, by decide +kernel⟩, List.mem_of_getElem? (i := 1309) (by decide +kernel), List.mem_of_getElem? (i := 1705) (by decide +kernel), List.mem_of_getElem? (i := 1706) (by decide +kernel)⟩
theorem lw_p82 : lw_okq (⟨"HornBenchModel", "productForm", "(I)Z"⟩, 62) := ⟨⟨by decide +kernel, by decide +kernel⟩, List.mem_of_getElem? (i := 1309) (by decide +kernel), List.mem_of_getElem? (i := 1709) (by decide +kernel), List.mem_of_getElem? (i := 1710) (by decide +kernel)⟩
theorem lw_p83 : lw_okq (⟨"HornBenchModel", "simpleForm", "(I)Z"⟩, 62) := ⟨⟨by decide +kernel, by decide +kernel⟩, List.mem_of_getElem? (i := 1309) (by decide +kernel), List.mem_of_getElem? (i := 1713) (by decide +kernel), List.mem_of_getElem? (i := 1714) (by decide +kernel)⟩
theorem lw_p84 : lw_okq (⟨"HornBenchModel", "listForm", "(I)Z"⟩, 62) := ⟨⟨by decide +kernel, by decide +kernel⟩, List.mem_of_getElem? (i := 1309) (by decide +kernel), List.mem_of_getElem? (i := 1720) (by decide +kernel), List.mem_of_getElem? (i := 1721) (by decide +kernel)⟩
theorem lw_p85 : lw_okq (⟨"HornBenchModel", "goalsForm", "(I)Z"⟩, 62) := ⟨⟨by decide +kernel, by decide +kernel⟩, List.mem_of_getElem? (i := 1309) (by decide +kernel), List.mem_of_getElem? (i := 1732) (by decide +kernel), List.mem_of_getElem? (i := 1733) (by decide +kernel)⟩
theorem lw_p86 : lw_okq (⟨"HornBenchModel", "goalForm", "(I)Z"⟩, 62) := ⟨⟨by decide +kernel, by decide +kernel⟩, List.mem_of_getElem? (i := 1309) (by decide +kernel), List.mem_of_getElem? (i := 1736) (by decide +kernel), List.mem_of_getElem? (i := 1737) (by decide +kernel)⟩
theorem lw_p87 : lw_okq (⟨"HornBenchModel", "simpleEnd", "(I)I"⟩, 62) := ⟨⟨by decide +kernel, by decide +kernel⟩, List.mem_of_getElem? (i := 1309) (by decide +kernel), List.mem_of_getElem? (i := 1747) (by decide +kernel), List.mem_of_getElem? (i := 1748) (by decide +kernel)⟩
theorem lw_p88 : lw_okq (⟨"HornBenchModel", "wrong", "(II)I"⟩, 62) := ⟨⟨by decide +kernel, by decide +kernel⟩, List.mem_of_getElem? (i := 1309) (by decide +kernel), List.mem_of_getElem? (i := 1752) (by decide +kernel), List.mem_of_getElem? (i := 1753) (by decide +kernel)⟩
theorem lw_p89 : lw_okq (⟨"HornBenchModel", "over", "(I)V"⟩, 62) := ⟨⟨by decide +kernel, by decide +kernel⟩, List.mem_of_getElem? (i := 1309) (by decide +kernel), List.mem_of_getElem? (i := 1756) (by decide +kernel), List.mem_of_getElem? (i := 1757) (by decide +kernel)⟩
theorem lw_p90 : lw_okq (⟨"HornBenchModel", "named", "(I)I"⟩, 62) := ⟨⟨by decide +kernel, by decide +kernel⟩, List.mem_of_getElem? (i := 1309) (by decide +kernel), List.mem_of_getElem? (i := 1833) (by decide +kernel), List.mem_of_getElem? (i := 1834) (by decide +kernel)⟩
theorem lw_p91 : lw_okq (⟨"HornBenchModel", "term", "()I"⟩, 62) := ⟨⟨by decide +kernel, by decide +kernel⟩, List.mem_of_getElem? (i := 1309) (by decide +kernel), List.mem_of_getElem? (i := 1837) (by decide +kernel), List.mem_of_getElem? (i := 1838) (by decide +kernel)⟩
theorem lw_p92 : lw_okq (⟨"HornBenchModel", "product", "()I"⟩, 62) := ⟨⟨by decide +kernel, by decide +kernel⟩, List.mem_of_getElem? (i := 1309) (by decide +kernel), List.mem_of_getElem? (i := 1841) (by decide +kernel), List.mem_of_getElem? (i := 1842) (by decide +kernel)⟩
theorem lw_p93 : lw_okq (⟨"HornBenchModel", "simple", "()I"⟩, 62) := ⟨⟨by decide +kernel, by decide +kernel⟩, List.mem_of_getElem? (i := 1309) (by decide +kernel), List.mem_of_getElem? (i := 1845) (by decide +kernel), List.mem_of_getElem? (i := 1846) (by decide +kernel)⟩
theorem lw_p94 : lw_okq (⟨"HornBenchModel", "variable", "(I)I"⟩, 62) := ⟨⟨by decide +kernel, by decide +kernel⟩, List.mem_of_getElem? (i := 1309) (by decide +kernel), List.mem_of_getElem? (i := 1849) (by decide +kernel), List.mem_of_getElem? (i := 1850) (by decide +kernel)⟩
theorem lw_p95 : lw_okq (⟨"HornBenchModel", "nameOf", "(I)J"⟩, 62) := ⟨⟨by decide +kernel, by decide +kernel⟩, List.mem_of_getElem? (i := 1309) (by decide +kernel), List.mem_of_getElem? (i := 1853) (by decide +kernel), List.mem_of_getElem? (i := 1854) (by decide +kernel)⟩
def lw_privs_6 : List (MethodName × Nat) := [(⟨"HornBenchModel", "takes", "(Ljava/lang/String;)Z"⟩, 62), (⟨"HornBenchModel", "termForm", "(I)Z"⟩, 62), (⟨"HornBenchModel", "productForm", "(I)Z"⟩, 62), (⟨"HornBenchModel", "simpleForm", "(I)Z"⟩, 62), (⟨"HornBenchModel", "listForm", "(I)Z"⟩, 62), (⟨"HornBenchModel", "goalsForm", "(I)Z"⟩, 62), (⟨"HornBenchModel", "goalForm", "(I)Z"⟩, 62), (⟨"HornBenchModel", "simpleEnd", "(I)I"⟩, 62), (⟨"HornBenchModel", "wrong", "(II)I"⟩, 62), (⟨"HornBenchModel", "over", "(I)V"⟩, 62), (⟨"HornBenchModel", "named", "(I)I"⟩, 62), (⟨"HornBenchModel", "term", "()I"⟩, 62), (⟨"HornBenchModel", "product", "()I"⟩, 62), (⟨"HornBenchModel", "simple", "()I"⟩, 62), (⟨"HornBenchModel", "variable", "(I)I"⟩, 62), (⟨"HornBenchModel", "nameOf", "(I)J"⟩, 62)]
theorem lw_r6 : ∀ q ∈ lw_privs_6, lw_okq q := List.forall_mem_cons.mpr ⟨lw_p80, List.forall_mem_cons.mpr ⟨lw_p81, List.forall_mem_cons.mpr ⟨lw_p82, List.forall_mem_cons.mpr ⟨lw_p83, List.forall_mem_cons.mpr ⟨lw_p84, List.forall_mem_cons.mpr ⟨lw_p85, List.forall_mem_cons.mpr ⟨lw_p86, List.forall_mem_cons.mpr ⟨lw_p87, List.forall_mem_cons.mpr ⟨lw_p88, List.forall_mem_cons.mpr ⟨lw_p89, List.forall_mem_cons.mpr ⟨lw_p90, List.forall_mem_cons.mpr ⟨lw_p91, List.forall_mem_cons.mpr ⟨lw_p92, List.forall_mem_cons.mpr ⟨lw_p93, List.forall_mem_cons.mpr ⟨lw_p94, List.forall_mem_cons.mpr ⟨lw_p95, fun _ h => absurd h List.not_mem_nil⟩⟩⟩⟩⟩⟩⟩⟩⟩⟩⟩⟩⟩⟩⟩⟩
theorem lw_p96 : lw_okq (⟨"HornBenchModel", "part", "(IJI)I"⟩, 62) := ⟨⟨by decide +kernel, by decide +kernel⟩, List.mem_of_getElem? (i := 1309) (by decide +kernel), List.mem_of_getElem? (i := 1859) (by decide +kernel), List.mem_of_getElem? (i := 1860) (by decide +kernel)⟩
theorem lw_p97 : lw_okq (⟨"HornBenchModel", "numberOf", "(I)I"⟩, 62) := ⟨⟨by decide +kernel, by decide +kernel⟩, List.mem_of_getElem? (i := 1309) (by decide +kernel), List.mem_of_getElem? (i := 1863) (by decide +kernel), List.mem_of_getElem? (i := 1864) (by decide +kernel)⟩
theorem lw_p98 : lw_okq (⟨"HornBenchModel", "list", "()I"⟩, 62) := ⟨⟨by decide +kernel, by decide +kernel⟩, List.mem_of_getElem? (i := 1309) (by decide +kernel), List.mem_of_getElem? (i := 1867) (by decide +kernel), List.mem_of_getElem? (i := 1868) (by decide +kernel)⟩
theorem lw_p99 : lw_okq (⟨"HornBenchModel", "pair", "(JII)I"⟩, 62) := ⟨⟨by decide +kernel, by decide +kernel⟩, List.mem_of_getElem? (i := 1309) (by decide +kernel), List.mem_of_getElem? (i := 1873) (by decide +kernel), List.mem_of_getElem? (i := 1874) (by decide +kernel)⟩
theorem lw_p100 : lw_okq (⟨"HornBenchModel", "goals", "()I"⟩, 62) := ⟨⟨by decide +kernel, by decide +kernel⟩, List.mem_of_getElem? (i := 1309) (by decide +kernel), List.mem_of_getElem? (i := 1881) (by decide +kernel), List.mem_of_getElem? (i := 1882) (by decide +kernel)⟩
theorem lw_p101 : lw_okq (⟨"HornBenchModel", "goal", "()I"⟩, 62) := ⟨⟨by decide +kernel, by decide +kernel⟩, List.mem_of_getElem? (i := 1309) (by decide +kernel), List.mem_of_getElem? (i := 1885) (by decide +kernel), List.mem_of_getElem? (i := 1886) (by decide +kernel)⟩
theorem lw_p102 : lw_okq (⟨"HornBenchModel", "counted", "(I)I"⟩, 62) := ⟨⟨by decide +kernel, by decide +kernel⟩, List.mem_of_getElem? (i := 1309) (by decide +kernel), List.mem_of_getElem? (i := 1905) (by decide +kernel), List.mem_of_getElem? (i := 1906) (by decide +kernel)⟩
theorem lw_p103 : lw_okq (⟨"HornBenchModel", "predicates", "()I"⟩, 62) := ⟨⟨by decide +kernel, by decide +kernel⟩, List.mem_of_getElem? (i := 1309) (by decide +kernel), List.mem_of_getElem? (i := 1909) (by decide +kernel), List.mem_of_getElem? (i := 1910) (by decide +kernel)⟩
theorem lw_p104 : lw_okq (⟨"HornBenchModel", "goalsLeft", "()I"⟩, 62) := ⟨⟨by decide +kernel, by decide +kernel⟩, List.mem_of_getElem? (i := 1309) (by decide +kernel), List.mem_of_getElem? (i := 1922) (by decide +kernel), List.mem_of_getElem? (i := 1923) (by decide +kernel)⟩
theorem lw_p105 : lw_okq (⟨"HornBenchModel", "clauseTold", "(II)I"⟩, 62) := ⟨⟨by decide +kernel, by decide +kernel⟩, List.mem_of_getElem? (i := 1309) (by decide +kernel), List.mem_of_getElem? (i := 1930) (by decide +kernel), List.mem_of_getElem? (i := 1931) (by decide +kernel)⟩
theorem lw_p106 : lw_okq (⟨"HornBenchModel", "questionForm", "()Z"⟩, 62) := ⟨⟨by decide +kernel, by decide +kernel⟩, List.mem_of_getElem? (i := 1309) (by decide +kernel), List.mem_of_getElem? (i := 1938) (by decide +kernel), List.mem_of_getElem? (i := 1939) (by decide +kernel)⟩
theorem lw_p107 : lw_okq (⟨"HornBenchModel", "cell", "(IJI)I"⟩, 62) := ⟨⟨by decide +kernel, by decide +kernel⟩, List.mem_of_getElem? (i := 1309) (by decide +kernel), List.mem_of_getElem? (i := 1942) (by decide +kernel), List.mem_of_getElem? (i := 1943) (by decide +kernel)⟩
theorem lw_p108 : lw_okq (⟨"HornBenchModel", "rowOf", "(LHornBenchModel$Clause;I[III)I"⟩, 62) := ⟨⟨by decide +kernel, by decide +kernel⟩, List.mem_of_getElem? (i := 1309) (by decide +kernel), List.mem_of_getElem? (i := 1953) (by decide +kernel), List.mem_of_getElem? (i := 1954) (by decide +kernel)⟩
theorem lw_p109 : lw_okq (⟨"HornBenchModel", "rowCell", "(III)I"⟩, 62) := ⟨⟨by decide +kernel, by decide +kernel⟩, List.mem_of_getElem? (i := 1309) (by decide +kernel), List.mem_of_getElem? (i := 1957) (by decide +kernel), List.mem_of_getElem? (i := 1958) (by decide +kernel)⟩
theorem lw_p110 : lw_okq (⟨"HornBenchModel", "laid", "(LHornBenchModel$Clause;I[I)I"⟩, 62) := ⟨⟨by decide +kernel, by decide +kernel⟩, List.mem_of_getElem? (i := 1309) (by decide +kernel), List.mem_of_getElem? (i := 1961) (by decide +kernel), List.mem_of_getElem? (i := 1962) (by decide +kernel)⟩
theorem lw_p111 : lw_okq (⟨"HornBenchModel", "settle", "(Z)V"⟩, 62) := ⟨⟨by decide +kernel, by decide +kernel⟩, List.mem_of_getElem? (i := 1309) (by decide +kernel), List.mem_of_getElem? (i := 1969) (by decide +kernel), List.mem_of_getElem? (i := 1970) (by decide +kernel)⟩
def lw_privs_7 : List (MethodName × Nat) := [(⟨"HornBenchModel", "part", "(IJI)I"⟩, 62), (⟨"HornBenchModel", "numberOf", "(I)I"⟩, 62), (⟨"HornBenchModel", "list", "()I"⟩, 62), (⟨"HornBenchModel", "pair", "(JII)I"⟩, 62), (⟨"HornBenchModel", "goals", "()I"⟩, 62), (⟨"HornBenchModel", "goal", "()I"⟩, 62), (⟨"HornBenchModel", "counted", "(I)I"⟩, 62), (⟨"HornBenchModel", "predicates", "()I"⟩, 62), (⟨"HornBenchModel", "goalsLeft", "()I"⟩, 62), (⟨"HornBenchModel", "clauseTold", "(II)I"⟩, 62), (⟨"HornBenchModel", "questionForm", "()Z"⟩, 62), (⟨"HornBenchModel", "cell", "(IJI)I"⟩, 62), (⟨"HornBenchModel", "rowOf", "(LHornBenchModel$Clause;I[III)I"⟩, 62), (⟨"HornBenchModel", "rowCell", "(III)I"⟩, 62), (⟨"HornBenchModel", "laid", "(LHornBenchModel$Clause;I[I)I"⟩, 62), (⟨"HornBenchModel", "settle", "(Z)V"⟩, 62)]
theorem lw_r7 : ∀ q ∈ lw_privs_7, lw_okq q := List.forall_mem_cons.mpr ⟨lw_p96, List.forall_mem_cons.mpr ⟨lw_p97, List.forall_mem_cons.mpr ⟨lw_p98, List.forall_mem_cons.mpr ⟨lw_p99, List.forall_mem_cons.mpr ⟨lw_p100, List.forall_mem_cons.mpr ⟨lw_p101, List.forall_mem_cons.mpr ⟨lw_p102, List.forall_mem_cons.mpr ⟨lw_p103, List.forall_mem_cons.mpr ⟨lw_p104, List.forall_mem_cons.mpr ⟨lw_p105, List.forall_mem_cons.mpr ⟨lw_p106, List.forall_mem_cons.mpr ⟨lw_p107, List.forall_mem_cons.mpr ⟨lw_p108, List.forall_mem_cons.mpr ⟨lw_p109, List.forall_mem_cons.mpr ⟨lw_p110, List.forall_mem_cons.mpr ⟨lw_p111, fun _ h => absurd h List.not_mem_nil⟩⟩⟩⟩⟩⟩⟩⟩⟩⟩⟩⟩⟩⟩⟩⟩
theorem lw_p112 : lw_okq (⟨"HornBenchModel", "undo", "(I)V"⟩, 62) := ⟨⟨by decide +kernel, by decide +kernel⟩, List.mem_of_getElem? (i := 1309) (by decide +kernel), List.mem_of_getElem? (i := 1973) (by decide +kernel), List.mem_of_getElem? (i := 1974) (by decide +kernel)⟩
theorem lw_p113 : lw_okq (⟨"HornBenchModel", "canGoOn", "()Z"⟩, 62) := ⟨⟨by decide +kernel, by decide +kernel⟩, List.mem_of_getElem? (i := 1309) (by decide +kernel), List.mem_of_getElem? (i := 1977) (by decide +kernel), List.mem_of_getElem? (i := 1978) (by decide +kernel)⟩
theorem lw_p114 : lw_okq (⟨"HornBenchModel", "heads", "(II)Z"⟩, 62) := ⟨⟨by decide +kernel, by decide +kernel⟩, List.mem_of_getElem? (i := 1309) (by decide +kernel), List.mem_of_getElem? (i := 1981) (by decide +kernel), List.mem_of_getElem? (i := 1982) (by decide +kernel)⟩
theorem lw_p115 : lw_okq (⟨"HornBenchModel", "unify", "(II)Z"⟩, 62) := ⟨⟨by decide +kernel, by decide +kernel⟩, List.mem_of_getElem? (i := 1309) (by decide +kernel), List.mem_of_getElem? (i := 1985) (by decide +kernel), List.mem_of_getElem? (i := 1986) (by decide +kernel)⟩
theorem lw_p116 : lw_okq (⟨"HornBenchModel", "areOne", "(IIZ)Z"⟩, 62) := ⟨⟨by decide +kernel, by decide +kernel⟩, List.mem_of_getElem? (i := 1309) (by decide +kernel), List.mem_of_getElem? (i := 1989) (by decide +kernel), List.mem_of_getElem? (i := 1990) (by decide +kernel)⟩
theorem lw_p117 : lw_okq (⟨"HornBenchModel", "end", "(I)I"⟩, 62) := ⟨⟨by decide +kernel, by decide +kernel⟩, List.mem_of_getElem? (i := 1309) (by decide +kernel), List.mem_of_getElem? (i := 1993) (by decide +kernel), List.mem_of_getElem? (i := 1994) (by decide +kernel)⟩
theorem lw_p118 : lw_okq (⟨"HornBenchModel", "leader", "(I)I"⟩, 62) := ⟨⟨by decide +kernel, by decide +kernel⟩, List.mem_of_getElem? (i := 1309) (by decide +kernel), List.mem_of_getElem? (i := 1997) (by decide +kernel), List.mem_of_getElem? (i := 1998) (by decide +kernel)⟩
theorem lw_p119 : lw_okq (⟨"HornBenchModel", "standsIn", "(II)Z"⟩, 62) := ⟨⟨by decide +kernel, by decide +kernel⟩, List.mem_of_getElem? (i := 1309) (by decide +kernel), List.mem_of_getElem? (i := 2001) (by decide +kernel), List.mem_of_getElem? (i := 2002) (by decide +kernel)⟩
theorem lw_p120 : lw_okq (⟨"HornBenchModel", "argument", "(II)I"⟩, 62) := ⟨⟨by decide +kernel, by decide +kernel⟩, List.mem_of_getElem? (i := 1309) (by decide +kernel), List.mem_of_getElem? (i := 2005) (by decide +kernel), List.mem_of_getElem? (i := 2006) (by decide +kernel)⟩
theorem lw_p121 : lw_okq (⟨"HornBenchModel", "bind", "(II)V"⟩, 62) := ⟨⟨by decide +kernel, by decide +kernel⟩, List.mem_of_getElem? (i := 1309) (by decide +kernel), List.mem_of_getElem? (i := 2009) (by decide +kernel), List.mem_of_getElem? (i := 2010) (by decide +kernel)⟩
theorem lw_p122 : lw_okq (⟨"HornBenchModel", "join", "(II)V"⟩, 62) := ⟨⟨by decide +kernel, by decide +kernel⟩, List.mem_of_getElem? (i := 1309) (by decide +kernel), List.mem_of_getElem? (i := 2013) (by decide +kernel), List.mem_of_getElem? (i := 2014) (by decide +kernel)⟩
theorem lw_p123 : lw_okq (⟨"HornBenchModel", "nextOf", "(II)I"⟩, 62) := ⟨⟨by decide +kernel, by decide +kernel⟩, List.mem_of_getElem? (i := 1309) (by decide +kernel), List.mem_of_getElem? (i := 2017) (by decide +kernel), List.mem_of_getElem? (i := 2018) (by decide +kernel)⟩
theorem lw_p124 : lw_okq (⟨"HornBenchModel", "isOf", "(II)Z"⟩, 62) := ⟨⟨by decide +kernel, by decide +kernel⟩, List.mem_of_getElem? (i := 1309) (by decide +kernel), List.mem_of_getElem? (i := 2021) (by decide +kernel), List.mem_of_getElem? (i := 2022) (by decide +kernel)⟩
theorem lw_p125 : lw_okq (⟨"HornBenchModel", "step", "()V"⟩, 62) := ⟨⟨by decide +kernel, by decide +kernel⟩, List.mem_of_getElem? (i := 1309) (by decide +kernel), List.mem_of_getElem? (i := 2025) (by decide +kernel), List.mem_of_getElem? (i := 2026) (by decide +kernel)⟩
theorem lw_p126 : lw_okq (⟨"HornBenchModel", "goOn", "()V"⟩, 62) := ⟨⟨by decide +kernel, by decide +kernel⟩, List.mem_of_getElem? (i := 1309) (by decide +kernel), List.mem_of_getElem? (i := 2029) (by decide +kernel), List.mem_of_getElem? (i := 2030) (by decide +kernel)⟩
theorem lw_p127 : lw_okq (⟨"HornBenchModel", "use", "(III)V"⟩, 62) := ⟨⟨by decide +kernel, by decide +kernel⟩, List.mem_of_getElem? (i := 1309) (by decide +kernel), List.mem_of_getElem? (i := 2033) (by decide +kernel), List.mem_of_getElem? (i := 2034) (by decide +kernel)⟩
def lw_privs_8 : List (MethodName × Nat) := [(⟨"HornBenchModel", "undo", "(I)V"⟩, 62), (⟨"HornBenchModel", "canGoOn", "()Z"⟩, 62), (⟨"HornBenchModel", "heads", "(II)Z"⟩, 62), (⟨"HornBenchModel", "unify", "(II)Z"⟩, 62), (⟨"HornBenchModel", "areOne", "(IIZ)Z"⟩, 62), (⟨"HornBenchModel", "end", "(I)I"⟩, 62), (⟨"HornBenchModel", "leader", "(I)I"⟩, 62), (⟨"HornBenchModel", "standsIn", "(II)Z"⟩, 62), (⟨"HornBenchModel", "argument", "(II)I"⟩, 62), (⟨"HornBenchModel", "bind", "(II)V"⟩, 62), (⟨"HornBenchModel", "join", "(II)V"⟩, 62), (⟨"HornBenchModel", "nextOf", "(II)I"⟩, 62), (⟨"HornBenchModel", "isOf", "(II)Z"⟩, 62), (⟨"HornBenchModel", "step", "()V"⟩, 62), (⟨"HornBenchModel", "goOn", "()V"⟩, 62), (⟨"HornBenchModel", "use", "(III)V"⟩, 62)]
theorem lw_r8 : ∀ q ∈ lw_privs_8, lw_okq q := List.forall_mem_cons.mpr ⟨lw_p112, List.forall_mem_cons.mpr ⟨lw_p113, List.forall_mem_cons.mpr ⟨lw_p114, List.forall_mem_cons.mpr ⟨lw_p115, List.forall_mem_cons.mpr ⟨lw_p116, List.forall_mem_cons.mpr ⟨lw_p117, List.forall_mem_cons.mpr ⟨lw_p118, List.forall_mem_cons.mpr ⟨lw_p119, List.forall_mem_cons.mpr ⟨lw_p120, List.forall_mem_cons.mpr ⟨lw_p121, List.forall_mem_cons.mpr ⟨lw_p122, List.forall_mem_cons.mpr ⟨lw_p123, List.forall_mem_cons.mpr ⟨lw_p124, List.forall_mem_cons.mpr ⟨lw_p125, List.forall_mem_cons.mpr ⟨lw_p126, List.forall_mem_cons.mpr ⟨lw_p127, fun _ h => absurd h List.not_mem_nil⟩⟩⟩⟩⟩⟩⟩⟩⟩⟩⟩⟩⟩⟩⟩⟩
theorem lw_p128 : lw_okq (⟨"HornBenchModel", "done", "(I)Z"⟩, 62) := ⟨⟨by decide +kernel, by decide +kernel⟩, List.mem_of_getElem? (i := 1309) (by decide +kernel), List.mem_of_getElem? (i := 2037) (by decide +kernel), List.mem_of_getElem? (i := 2038) (by decide +kernel)⟩
theorem lw_p129 : lw_okq (⟨"HornBenchModel", "call", "(I)Z"⟩, 62) := ⟨⟨by decide +kernel, by decide +kernel⟩, List.mem_of_getElem? (i := 1309) (by decide +kernel), List.mem_of_getElem? (i := 2041) (by decide +kernel), List.mem_of_getElem? (i := 2042) (by decide +kernel)⟩
theorem lw_p130 : lw_okq (⟨"HornBenchModel", "choose", "(ZIIIIII)V"⟩, 62) := ⟨⟨by decide +kernel, by decide +kernel⟩, List.mem_of_getElem? (i := 1309) (by decide +kernel), List.mem_of_getElem? (i := 2045) (by decide +kernel), List.mem_of_getElem? (i := 2046) (by decide +kernel)⟩
theorem lw_p131 : lw_okq (⟨"HornBenchModel", "innerRow", "(III)I"⟩, 62) := ⟨⟨by decide +kernel, by decide +kernel⟩, List.mem_of_getElem? (i := 1309) (by decide +kernel), List.mem_of_getElem? (i := 2049) (by decide +kernel), List.mem_of_getElem? (i := 2050) (by decide +kernel)⟩
theorem lw_p132 : lw_okq (⟨"HornBenchModel", "isSameNow", "(II)Z"⟩, 62) := ⟨⟨by decide +kernel, by decide +kernel⟩, List.mem_of_getElem? (i := 1309) (by decide +kernel), List.mem_of_getElem? (i := 2053) (by decide +kernel), List.mem_of_getElem? (i := 2054) (by decide +kernel)⟩
theorem lw_p133 : lw_okq (⟨"HornBenchModel", "value", "(I)I"⟩, 62) := ⟨⟨by decide +kernel, by decide +kernel⟩, List.mem_of_getElem? (i := 1309) (by decide +kernel), List.mem_of_getElem? (i := 2057) (by decide +kernel), List.mem_of_getElem? (i := 2058) (by decide +kernel)⟩
theorem lw_p134 : lw_okq (⟨"HornBenchModel", "worth", "(II)I"⟩, 62) := ⟨⟨by decide +kernel, by decide +kernel⟩, List.mem_of_getElem? (i := 1309) (by decide +kernel), List.mem_of_getElem? (i := 2061) (by decide +kernel), List.mem_of_getElem? (i := 2062) (by decide +kernel)⟩
theorem lw_p135 : lw_okq (⟨"HornBenchModel", "keep", "(III)I"⟩, 62) := ⟨⟨by decide +kernel, by decide +kernel⟩, List.mem_of_getElem? (i := 1309) (by decide +kernel), List.mem_of_getElem? (i := 2065) (by decide +kernel), List.mem_of_getElem? (i := 2066) (by decide +kernel)⟩
theorem lw_p136 : lw_okq (⟨"HornBenchModel", "fault", "()I"⟩, 62) := ⟨⟨by decide +kernel, by decide +kernel⟩, List.mem_of_getElem? (i := 1309) (by decide +kernel), List.mem_of_getElem? (i := 2069) (by decide +kernel), List.mem_of_getElem? (i := 2070) (by decide +kernel)⟩
theorem lw_p137 : lw_okq (⟨"HornBenchModel", "compared", "(III)Z"⟩, 62) := ⟨⟨by decide +kernel, by decide +kernel⟩, List.mem_of_getElem? (i := 1309) (by decide +kernel), List.mem_of_getElem? (i := 2073) (by decide +kernel), List.mem_of_getElem? (i := 2074) (by decide +kernel)⟩
theorem lw_p138 : lw_okq (⟨"HornBenchModel", "isVariable", "(I)Z"⟩, 62) := ⟨⟨by decide +kernel, by decide +kernel⟩, List.mem_of_getElem? (i := 1309) (by decide +kernel), List.mem_of_getElem? (i := 2085) (by decide +kernel), List.mem_of_getElem? (i := 2086) (by decide +kernel)⟩
theorem lw_p139 : lw_okq (⟨"HornBenchModel", "putTerm", "(IZ)V"⟩, 62) := ⟨⟨by decide +kernel, by decide +kernel⟩, List.mem_of_getElem? (i := 1309) (by decide +kernel), List.mem_of_getElem? (i := 2089) (by decide +kernel), List.mem_of_getElem? (i := 2090) (by decide +kernel)⟩
theorem lw_p140 : lw_okq (⟨"HornBenchModel", "isFull", "()Z"⟩, 62) := ⟨⟨by decide +kernel, by decide +kernel⟩, List.mem_of_getElem? (i := 1309) (by decide +kernel), List.mem_of_getElem? (i := 2093) (by decide +kernel), List.mem_of_getElem? (i := 2094) (by decide +kernel)⟩
theorem lw_p141 : lw_okq (⟨"HornBenchModel", "putNumber", "(J)V"⟩, 62) := ⟨⟨by decide +kernel, by decide +kernel⟩, List.mem_of_getElem? (i := 1309) (by decide +kernel), List.mem_of_getElem? (i := 2097) (by decide +kernel), List.mem_of_getElem? (i := 2098) (by decide +kernel)⟩
theorem lw_p142 : lw_okq (⟨"HornBenchModel", "put", "(I)V"⟩, 62) := ⟨⟨by decide +kernel, by decide +kernel⟩, List.mem_of_getElem? (i := 1309) (by decide +kernel), List.mem_of_getElem? (i := 2101) (by decide +kernel), List.mem_of_getElem? (i := 2102) (by decide +kernel)⟩
theorem lw_p143 : lw_okq (⟨"HornBenchModel", "putDigits", "(J)V"⟩, 62) := ⟨⟨by decide +kernel, by decide +kernel⟩, List.mem_of_getElem? (i := 1309) (by decide +kernel), List.mem_of_getElem? (i := 2110) (by decide +kernel), List.mem_of_getElem? (i := 2111) (by decide +kernel)⟩
def lw_privs_9 : List (MethodName × Nat) := [(⟨"HornBenchModel", "done", "(I)Z"⟩, 62), (⟨"HornBenchModel", "call", "(I)Z"⟩, 62), (⟨"HornBenchModel", "choose", "(ZIIIIII)V"⟩, 62), (⟨"HornBenchModel", "innerRow", "(III)I"⟩, 62), (⟨"HornBenchModel", "isSameNow", "(II)Z"⟩, 62), (⟨"HornBenchModel", "value", "(I)I"⟩, 62), (⟨"HornBenchModel", "worth", "(II)I"⟩, 62), (⟨"HornBenchModel", "keep", "(III)I"⟩, 62), (⟨"HornBenchModel", "fault", "()I"⟩, 62), (⟨"HornBenchModel", "compared", "(III)Z"⟩, 62), (⟨"HornBenchModel", "isVariable", "(I)Z"⟩, 62), (⟨"HornBenchModel", "putTerm", "(IZ)V"⟩, 62), (⟨"HornBenchModel", "isFull", "()Z"⟩, 62), (⟨"HornBenchModel", "putNumber", "(J)V"⟩, 62), (⟨"HornBenchModel", "put", "(I)V"⟩, 62), (⟨"HornBenchModel", "putDigits", "(J)V"⟩, 62)]
theorem lw_r9 : ∀ q ∈ lw_privs_9, lw_okq q := List.forall_mem_cons.mpr ⟨lw_p128, List.forall_mem_cons.mpr ⟨lw_p129, List.forall_mem_cons.mpr ⟨lw_p130, List.forall_mem_cons.mpr ⟨lw_p131, List.forall_mem_cons.mpr ⟨lw_p132, List.forall_mem_cons.mpr ⟨lw_p133, List.forall_mem_cons.mpr ⟨lw_p134, List.forall_mem_cons.mpr ⟨lw_p135, List.forall_mem_cons.mpr ⟨lw_p136, List.forall_mem_cons.mpr ⟨lw_p137, List.forall_mem_cons.mpr ⟨lw_p138, List.forall_mem_cons.mpr ⟨lw_p139, List.forall_mem_cons.mpr ⟨lw_p140, List.forall_mem_cons.mpr ⟨lw_p141, List.forall_mem_cons.mpr ⟨lw_p142, List.forall_mem_cons.mpr ⟨lw_p143, fun _ h => absurd h List.not_mem_nil⟩⟩⟩⟩⟩⟩⟩⟩⟩⟩⟩⟩⟩⟩⟩⟩
theorem lw_p144 : lw_okq (⟨"HornBenchModel", "putFree", "(I)V"⟩, 62) := ⟨⟨by decide +kernel, by decide +kernel⟩, List.mem_of_getElem? (i := 1309) (by decide +kernel), List.mem_of_getElem? (i := 2115) (by decide +kernel), List.mem_of_getElem? (i := 2116) (by decide +kernel)⟩
theorem lw_p145 : lw_okq (⟨"HornBenchModel", "put", "(Ljava/lang/String;)V"⟩, 62) := ⟨⟨by decide +kernel, by decide +kernel⟩, List.mem_of_getElem? (i := 1309) (by decide +kernel), List.mem_of_getElem? (i := 2120) (by decide +kernel), List.mem_of_getElem? (i := 2121) (by decide +kernel)⟩
theorem lw_p146 : lw_okq (⟨"HornBenchModel", "putName", "(J)V"⟩, 62) := ⟨⟨by decide +kernel, by decide +kernel⟩, List.mem_of_getElem? (i := 1309) (by decide +kernel), List.mem_of_getElem? (i := 2130) (by decide +kernel), List.mem_of_getElem? (i := 2131) (by decide +kernel)⟩
theorem lw_p147 : lw_okq (⟨"HornBenchModel", "kept", "([II)I"⟩, 62) := ⟨⟨by decide +kernel, by decide +kernel⟩, List.mem_of_getElem? (i := 1309) (by decide +kernel), List.mem_of_getElem? (i := 2134) (by decide +kernel), List.mem_of_getElem? (i := 2135) (by decide +kernel)⟩
theorem lw_p148 : lw_okq (⟨"HornBenchModel", "putGoal", "(I)V"⟩, 62) := ⟨⟨by decide +kernel, by decide +kernel⟩, List.mem_of_getElem? (i := 1309) (by decide +kernel), List.mem_of_getElem? (i := 2145) (by decide +kernel), List.mem_of_getElem? (i := 2146) (by decide +kernel)⟩
def lw_privs_10 : List (MethodName × Nat) := [(⟨"HornBenchModel", "putFree", "(I)V"⟩, 62), (⟨"HornBenchModel", "put", "(Ljava/lang/String;)V"⟩, 62), (⟨"HornBenchModel", "putName", "(J)V"⟩, 62), (⟨"HornBenchModel", "kept", "([II)I"⟩, 62), (⟨"HornBenchModel", "putGoal", "(I)V"⟩, 62)]
theorem lw_r10 : ∀ q ∈ lw_privs_10, lw_okq q := List.forall_mem_cons.mpr ⟨lw_p144, List.forall_mem_cons.mpr ⟨lw_p145, List.forall_mem_cons.mpr ⟨lw_p146, List.forall_mem_cons.mpr ⟨lw_p147, List.forall_mem_cons.mpr ⟨lw_p148, fun _ h => absurd h List.not_mem_nil⟩⟩⟩⟩⟩
def lw_privs : List (MethodName × Nat) := lw_privs_1 ++ (lw_privs_2 ++ (lw_privs_3 ++ (lw_privs_4 ++ (lw_privs_5 ++ (lw_privs_6 ++ (lw_privs_7 ++ (lw_privs_8 ++ (lw_privs_9 ++ (lw_privs_10)))))))))
def lw_tbl : List Cond := k2_sels lw_privs ++ tables_1
theorem lw_privs_ok : ∀ q ∈ lw_privs, lw_okq q := by
  show ∀ q ∈ lw_privs_1 ++ (lw_privs_2 ++ (lw_privs_3 ++ (lw_privs_4 ++ (lw_privs_5 ++ (lw_privs_6 ++ (lw_privs_7 ++ (lw_privs_8 ++ (lw_privs_9 ++ (lw_privs_10))))))))), lw_okq q
  exact List.forall_mem_append.mpr ⟨lw_r1, List.forall_mem_append.mpr ⟨lw_r2, List.forall_mem_append.mpr ⟨lw_r3, List.forall_mem_append.mpr ⟨lw_r4, List.forall_mem_append.mpr ⟨lw_r5, List.forall_mem_append.mpr ⟨lw_r6, List.forall_mem_append.mpr ⟨lw_r7, List.forall_mem_append.mpr ⟨lw_r8, List.forall_mem_append.mpr ⟨lw_r9, lw_r10⟩⟩⟩⟩⟩⟩⟩⟩⟩
/-- the streams that the claim lets the run draw from -/
abbrev lw_cs : List Choice := [Jvm.Choice.named "NaN.bits"]
theorem lw_bits : nanBits ∈ lw_cs := by first | decide | exact List.mem_cons_self | simp [lw_cs, nanBits]
end
section
/-! ===== BEGIN words of one list among another's, by their places ===== -/
theorem goodIn_r {big : List Cond} (ws : List Cond) (ps : List Nat) (hp : ws = ps.filterMap (fun i => big[i]?)) (h : ws.all goodWord = true) : GoodIn big ws := by
  intro w hw
  have h1 := List.all_eq_true.mp h w hw
  rw [hp] at hw
  obtain ⟨i, -, hi⟩ := List.mem_filterMap.mp hw
  have hm : w ∈ big := by first | exact List.mem_of_getElem? hi | exact List.getElem?_mem hi
  exact ⟨hm, good_of_word h1⟩
theorem goodIn_app {big a b : List Cond} (ha : GoodIn big a) (hb : GoodIn big b) : GoodIn big (a ++ b) := fun w h => (List.mem_append.mp h).elim (ha w) (hb w)
theorem goodIn_ca {big a b : List Cond} {c : Cond} (ha : GoodIn big (c :: a)) (hb : GoodIn big b) : GoodIn big (c :: (a ++ b)) := fun w h => (List.mem_cons.mp h).elim (fun e => ha w (List.mem_cons.mpr (Or.inl e))) (fun h => (List.mem_append.mp h).elim (fun h => ha w (List.mem_cons.mpr (Or.inr h))) (hb w))
theorem goodIn_sub {big ws : List Cond} (hm : ∀ w ∈ ws, w ∈ big) (h : ws.all goodWord = true) : GoodIn big ws := fun w hw => ⟨hm w hw, good_of_word (List.all_eq_true.mp h w hw)⟩
/-! ===== END ===== -/

/-! ===== BEGIN exceptions that leave a method, and their catching by the caller (launches without stack traces) ===== -/
section VXA
/-! The laws vx_back, vx_callV, vx_callS, vx_callSW, vx_throw0, vx_throwS follow proofs of the library, with one case more: JvmDerived/Free/Laws.lean (Back.of_free), Shelf42/LK1.lean (callV, callS), Shelf/KitTraced.lean (throwNew0V, throwNewS). -/
/-- where a method has thrown q: the class by its name, the cell, what was written, the world -/
def vx_T (XC : String → State → State → Prop) (st : State) (q : Addr) (t : State) (mc ms : Nat) (free : Addr → Prop) : Prop :=
  ∃ (E : String) (ce : Cell) (L : List Loc), XC E st t ∧ t.heap[q]? = some ce ∧ ce.vm = .none ∧ st.vm.findClass E = some ce.cls ∧ st.WarmedH t.vm ∧ st.sameButNew ({ t with vm := st.vm } : State) L mc ms ∧ ∀ z ∈ L, free z.base
def vx_Q (Qc : Array Value → State → Outcome → State → Prop) (XC : String → State → State → Prop) (mc ms : Nat) (free : Addr → Prop) : Array Value → State → Outcome → State → Prop := fun a st o t =>
  (Qc a st o t ∧ ∃ L, FrameEnd st o t L mc ms ∧ ∀ q ∈ L, free q.base) ∨ ∃ q, o = .threw q ∧ vx_T XC st q t mc ms free
/-- a callee that returns or throws -/
def vx_Met (l : Launch) (y : MethodName) (ws : List Cond) (rm : Room) (Pc : Array Value → State → Prop) (Qc : Array Value → State → Outcome → State → Prop) (XC : String → State → State → Prop) (mc ms : Nat) (free : Addr → Prop) : Prop :=
  MetFree l y (headSpec ws rm) Pc (fun _ _ _ _ _ => True) (vx_Q Qc XC mc ms free)
def vx_Post (XC : String → State → State → Prop) (mc ms : Nat) (free : Addr → Prop) : Pt → Array Value → Addr → Pt → Prop := fun A a q B =>
  ∃ (g : JFrame) (mk : MethodId) (t : State) (L : List Loc) (E : String) (ce : Cell), B.U.heap = t.heap ∧ B.U.vm = t.vm ∧ XC E (A.U.calling g mk a) t ∧ t.heap[q]? = some ce ∧ ce.vm = .none ∧ A.U.vm.findClass E = some ce.cls ∧ B.locs = A.locs ++ L ∧ (∀ z ∈ L, free z.base) ∧ B.cells = A.cells + mc ∧ B.slots = A.slots + ms
def vx_Back (l : Launch) (R : Room) (p : Program) (e : Env) (below : List Frame) (s : State) (sargs : Array Value) (y : MethodName) (len W9 : Nat)
    (Pre : Pt → Array Value → Prop) (Post : Pt → Array Value → Option Value → Pt → Prop) (PostX : Pt → Array Value → Addr → Pt → Prop) : Prop :=
  ∀ (m : MethodId) (meth : Method) (c : Code) (A : Pt) (g : JFrame) (ig : Instr) (mk : MethodId) (a : Array Value),
    Stand p l e R s m sargs below meth c A.U A.locs A.cells A.slots → g.method = m → g.locals.size = c.maxLocals → decode c.code g.pc = .ok (ig, len) →
    2 * g.monitorRoom + (g.stack.map fun v => v.category).sum ≤ W9 → A.U.methodNamed? y = some mk → Pre A a →
    (∃ (v : Option Value) (B : Pt), Stand p l e R s m sargs below meth c B.U B.locs B.cells B.slots ∧ Post A a v B ∧
      Steps p.tables e below (doInvoke e (A.U.setTop g) [] mk a).1 (B.U.setTop { g with pc := g.pc + len, stack := v.toList ++ g.stack })) ∨
    (∃ (q : Addr) (B : Pt), Stand p l e R s m sargs below meth c B.U B.locs B.cells B.slots ∧ PostX A a q B ∧
      Steps p.tables e below (doInvoke e (A.U.setTop g) [] mk a).1 ((B.U.setTop g).pushFrame (.throwing q)))
section Payer
variable {l : Launch} {R : Room} {p : Program} {e : Env} {below : List Frame} {s : State} {sargs : Array Value} {y : MethodName} {len W9 : Nat}
theorem vx_back {ws : List Cond} {rm : Room} {Pc : Array Value → State → Prop} {Qc : Array Value → State → Outcome → State → Prop} {XC : String → State → State → Prop} {mc ms : Nat} {free : Addr → Prop} {bytes : ByteArray} {maxL : Nat} {ret : Option FieldType}
    (hM : vx_Met l y ws rm Pc Qc XC mc ms free) (hblind : FrameBlind Pc) (hrc : rm.cells = mc) (hrs : rm.slots = ms)
    (hframes : rm.frames + 1 ≤ R.frames) (hlocals : W9 + (maxL + 11) + rm.locals ≤ R.locals)
    (hws : ∀ w ∈ ws, ∀ a' U, s.WarmedH U.vm → w.before a' U = true) (hcode : Cond.code y bytes maxL ret ∈ ws) (hinit : ∀ a' U, s.WarmedH U.vm → (Cond.initialized y.cls).before a' U = true) :
    vx_Back l R p e below s sargs y len W9 (PreOf R mc ms Pc) (PostOf Qc mc ms free) (vx_Post XC mc ms free) := by
  intro m meth c A g ig mk a X hg hsize hdg hW hn hp
  have h1 : (headSpec ws rm).pre.before a A.U = true := atoms_intro fun w hw => hws w hw _ _ X.warmed
  have h2 : (Cond.code y bytes maxL ret).before a A.U = true := hws _ hcode _ _ X.warmed
  have h3 : (Cond.initialized y.cls).before a A.U = true := hinit _ _ X.warmed
  have h4 : A.cells + (headSpec ws rm).room.cells ≤ R.cells := by rw [show (headSpec ws rm).room.cells = mc from hrc]; exact hp.1
  have h5 : A.slots + (headSpec ws rm).room.slots ≤ R.slots := by rw [show (headSpec ws rm).room.slots = ms from hrs]; exact hp.2.1
  have hPc : Pc a (A.U.calling g mk a) := hblind _ _ _ _ hp.2.2
  obtain ⟨U, Ls, c0, s0⟩ := A
  dsimp only [Pt.U, Pt.locs, Pt.cells, Pt.slots] at h1 h2 h3 h4 h5 X hn hPc ⊢
  obtain ⟨methY, cY, hmY, hcY, -, hlY, -, -, -, -⟩ := Cond.code_spec hn h2
  obtain ⟨kY, hkY, -⟩ := className_of_methodNamed hn
  have hinitY : kY.init = .initialized := Cond.initialized_spec (findClass_of_methodNamed hn) hkY h3
  have h : At U g.method c below := by rw [hg]; exact X.here
  have hlocals9 : W9 + (maxL + 11) + (headSpec ws rm).room.locals ≤ R.locals := hlocals
  have happ : (headSpec ws rm).appliesLoose y e.platform (U.calling g mk a) = true :=
    Spec.appliesLoose_calling (g := g) h hdg hn hkY hinitY
      (X.room_calling (g := g) (R' := (headSpec ws rm).room) hsize hmY hcY hframes (by rw [hlY]; omega) h4 h5) h1
  obtain ⟨mid, hmid⟩ := h.above
  have hfr : (U.setTop g).frames = (.java g :: mid) ++ below := by rw [State.frames_setTop' g h.top, hmid]; rfl
  obtain ⟨o, s₂, hsteps, -, hend, hq⟩ := Steps.callFree hM p X.admits X.cas X.clock (acts := []) hfr happ hPc trivial
  have hq' : vx_Q Qc XC mc ms free a (U.calling g mk a) o s₂ := hq
  rw [State.frames_setTop' g h.top] at hend
  obtain ⟨g₀, hg0⟩ := Option.isSome_iff_exists.mp h.top
  obtain ⟨r, hr⟩ := State.topJava?_eq_some.mp hg0
  have hr' : (({ U with heap := s₂.heap, slotsUsed := s₂.slotsUsed } : State).setVm s₂.vm).frames = .java g₀ :: r := hr
  rcases hq' with ⟨hqc, L, hfe, hL⟩ | ⟨q, rfl, E, ce, L, hx, hce, hcv, hcl, hW₂, hsm, hL⟩
  · obtain ⟨⟨v, rfl⟩, hW₂, e2, q2, q3, q4, q5, q6⟩ := id hfe
    have e3 : s₂ = ({ (U.calling g mk a).setFrames s₂.frames with heap := s₂.heap, slotsUsed := s₂.slotsUsed } : State).setVm s₂.vm := by
      have : s₂ = ({ s₂ with vm := (U.calling g mk a).vm } : State).setVm s₂.vm := rfl
      rw [e2] at this
      exact this
    obtain ⟨c₂, i₂, len₂, hc₂, hd₂, hf₂⟩ := hend
    have hW' : U.WarmedH s₂.vm := hW₂
    have hcc : c₂ = c := by
      have h1 : s₂.code? g.method = U.code? g.method := by
        rw [State.code?_eq, State.code?_eq, hW'.alike.method?]
      exact Option.some.inj (hc₂.symm.trans (h1.trans h.code))
    subst hcc
    have hlen : len₂ = len := by rw [hdg] at hd₂; cases hd₂; rfl
    subst hlen
    have hs₂ : s₂ = (({ U with heap := s₂.heap, slotsUsed := s₂.slotsUsed } : State).setVm s₂.vm).setTop { g with pc := g.pc + len₂, stack := v.toList ++ g.stack } := by
      refine e3.trans ?_
      rw [hf₂, State.calling_eq h.top, State.setFrames_setFrames, State.setTop_of_frames _ hr', hr]
      rfl
    have hsame : U.sameButNew ({ U with heap := s₂.heap, slotsUsed := s₂.slotsUsed } : State) L mc ms := by
      refine ⟨?_, q2, q3, q4, q5, q6⟩
      obtain ⟨t, ht, -⟩ := State.frames_cons hr
      show ({ U with heap := s₂.heap, slotsUsed := s₂.slotsUsed } : State) = { U.setFrames U.frames with heap := s₂.heap, slotsUsed := s₂.slotsUsed }
      rw [State.setFrames_self ht]
    subst hg
    refine Or.inl ⟨v, ⟨(({ U with heap := s₂.heap, slotsUsed := s₂.slotsUsed } : State).setVm s₂.vm), Ls ++ L, c0 + mc, s0 + ms⟩,
      ⟨X.admits, X.cas, X.clock, X.frames, X.room, X.hears, X.method, X.code, (X.here.setHeapUsed s₂.heap s₂.slotsUsed).setVm hW'.alike, X.tail, State.WarmedH.trans X.warmed hW', X.limits, X.bytes, X.same.trans (hsame.setVm s.vm)⟩,
      ⟨g, mk, s₂, L, rfl, rfl, hqc, rfl, hL, rfl, rfl⟩, ?_⟩
    show Steps p.tables e below _ ((({ U with heap := s₂.heap, slotsUsed := s₂.slotsUsed } : State).setVm s₂.vm).setTop { g with pc := g.pc + len₂, stack := v.toList ++ g.stack })
    rw [← hs₂]
    exact hsteps
  · obtain ⟨e2, q2, q3, q4, q5, q6⟩ := id hsm
    have e3 : s₂ = ({ (U.calling g mk a).setFrames s₂.frames with heap := s₂.heap, slotsUsed := s₂.slotsUsed } : State).setVm s₂.vm := by
      have : s₂ = ({ s₂ with vm := (U.calling g mk a).vm } : State).setVm s₂.vm := rfl
      rw [e2] at this
      exact this
    have hf₂ : s₂.frames = .throwing q :: .java g :: U.frames.tail := hend
    have hW' : U.WarmedH s₂.vm := hW₂
    have hs₂ : s₂ = ((({ U with heap := s₂.heap, slotsUsed := s₂.slotsUsed } : State).setVm s₂.vm).setTop g).pushFrame (.throwing q) := by
      refine e3.trans ?_
      rw [hf₂, State.calling_eq h.top, State.setFrames_setFrames, State.pushFrame, State.frames_setTop _ hr', State.setTop_of_frames _ hr', State.setFrames_setFrames, hr]
      rfl
    have hsame : U.sameButNew ({ U with heap := s₂.heap, slotsUsed := s₂.slotsUsed } : State) L mc ms := by
      refine ⟨?_, q2, q3, q4, q5, q6⟩
      obtain ⟨t, ht, -⟩ := State.frames_cons hr
      show ({ U with heap := s₂.heap, slotsUsed := s₂.slotsUsed } : State) = { U.setFrames U.frames with heap := s₂.heap, slotsUsed := s₂.slotsUsed }
      rw [State.setFrames_self ht]
    subst hg
    refine Or.inr ⟨q, ⟨(({ U with heap := s₂.heap, slotsUsed := s₂.slotsUsed } : State).setVm s₂.vm), Ls ++ L, c0 + mc, s0 + ms⟩,
      ⟨X.admits, X.cas, X.clock, X.frames, X.room, X.hears, X.method, X.code, (X.here.setHeapUsed s₂.heap s₂.slotsUsed).setVm hW'.alike, X.tail, State.WarmedH.trans X.warmed hW', X.limits, X.bytes, X.same.trans (hsame.setVm s.vm)⟩,
      ⟨g, mk, s₂, L, E, ce, rfl, rfl, hx, hce, hcv, hcl, rfl, hL, rfl, rfl⟩, ?_⟩
    show Steps p.tables e below _ (((({ U with heap := s₂.heap, slotsUsed := s₂.slotsUsed } : State).setVm s₂.vm).setTop g).pushFrame (.throwing q))
    rw [← hs₂]
    exact hsteps
end Payer
section Calls
variable {p : Program} {l : Launch} {e : Env} {R : Room} {s : State} {m : MethodId} {args : Array Value} {below : List Frame} {meth : Method} {c : Code} {T : State} {locs : List Loc} {cells slots : Nat}
theorem vx_callV (X : Stand p l e R s m args below meth c T locs cells slots) (hexec : p.tables.exec = Jvm.exec) {own C : String} {index : Nat} {y : MethodName} {bytes : ByteArray} {maxL : Nat} {ret : Option FieldType}
    (hown : s.vm.findClass own = some m.cls) (hlink : (Cond.methodLink own index y).before args s = true) (hinst : (Cond.instanceMethod y).before args s = true) (hsel : (Cond.selects C y y).before args s = true)
    (hcode : (Cond.code y bytes maxL ret).before args s = true) (hy : y.cls ≠ "java/lang/invoke/MethodHandle" ∧ y.cls ≠ "java/lang/invoke/VarHandle")
    {W9 : Nat} {Pre : Pt → Array Value → Prop} {Post : Pt → Array Value → Option Value → Pt → Prop} {PostX : Pt → Array Value → Addr → Pt → Prop} (hK : vx_Back l R p e below s args y 3 W9 Pre Post PostX)
    {b : Addr} {cellB : Cell} (hcell : T.heap[b]? = some cellB) (hobj : cellB.vm.isStatics = false) (hcls : s.vm.findClass C = some cellB.cls)
    {g : JFrame} (hg : g.method = m) (hsize : g.locals.size = c.maxLocals) {argsL rest : List Value} (hlen : ∀ sig, parseMethodDescriptor y.desc = some sig → argsL.length = sig.parameters.length)
    (hstack : g.stack = argsL.reverse ++ .ref b :: rest) (hW : 2 * g.monitorRoom + (rest.map fun v => v.category).sum ≤ W9) (hdg : decode c.code g.pc = .ok (.invokevirtual index, 3))
    (hpre : ∀ vm₁, s.WarmedH vm₁ → Pre ⟨T.setVm vm₁, locs, cells, slots⟩ (Value.ref b :: argsL).toArray) :
    (∃ (v : Option Value) (vm₁ : Vm) (B : Pt), s.WarmedH vm₁ ∧ Stand p l e R s m args below meth c B.U B.locs B.cells B.slots ∧ Post ⟨T.setVm vm₁, locs, cells, slots⟩ (Value.ref b :: argsL).toArray v B ∧
      ∀ target, Steps p.tables e below (B.U.setTop { g with pc := g.pc + 3, stack := v.toList ++ rest }) target → Steps p.tables e below (T.setTop g) target) ∨
    (∃ (q : Addr) (vm₁ : Vm) (B : Pt), s.WarmedH vm₁ ∧ Stand p l e R s m args below meth c B.U B.locs B.cells B.slots ∧ PostX ⟨T.setVm vm₁, locs, cells, slots⟩ (Value.ref b :: argsL).toArray q B ∧
      Steps p.tables e below (T.setTop g) ((B.U.setTop { g with stack := rest }).pushFrame (.throwing q))) := by
  obtain ⟨mk, methM, hnamed, hmethM, hstM, habM⟩ := Cond.instanceMethod_spec hinst
  obtain ⟨methM', cM, hmethM', -, -, -, -, -, -, hsigM⟩ := Cond.code_spec hnamed hcode
  cases hmethM.symm.trans hmethM'
  obtain ⟨c2, r2, m2, q1, q2, q3, q4, kP, hkP, hkPi⟩ := Cond.selects_spec hsel
  cases hcls.symm.trans q1
  cases (State.methodFound?_of_named hnamed hy).symm.trans q2
  cases hnamed.symm.trans q3
  have hselP : selectMethod e.platform s.vm cellB.cls mk = .method mk := by rw [Launch.admits_selectMethod X.admits]; exact q4
  obtain ⟨vm₁, X₁, hstep₁⟩ := X.invokevirtual hexec hown hlink hnamed hmethM hstM hkP hkPi hy (a := b) (cell := cellB) hcell
    (fun z h => by rw [h] at hobj; cases hobj) hselP hmethM habM hkP hkPi (g := g) hg (argsL := argsL) (rest := rest) (hlen _ hsigM) hstack hdg
  rcases hK m meth c ⟨T.setVm vm₁, locs, cells, slots⟩ { g with stack := rest } (.invokevirtual index) mk (Value.ref b :: argsL).toArray X₁ hg hsize hdg hW (X₁.named hnamed) (hpre vm₁ X₁.warmed) with ⟨v, B, X', hpost, hsteps⟩ | ⟨q, B, X', hpost, hsteps⟩
  · exact Or.inl ⟨v, vm₁, B, X₁.warmed, X', hpost, fun target h => hstep₁ _ fun acts => by rw [doInvoke_state]; exact hsteps.trans h⟩
  · exact Or.inr ⟨q, vm₁, B, X₁.warmed, X', hpost, hstep₁ _ fun acts => by rw [doInvoke_state]; exact hsteps⟩
theorem vx_callS (X : Stand p l e R s m args below meth c T locs cells slots) (hexec : p.tables.exec = Jvm.exec) {own : String} {index : Nat} {y : MethodName} {bytes : ByteArray} {maxL : Nat} {ret : Option FieldType}
    (hown : s.vm.findClass own = some m.cls) (hlink : (Cond.methodLink own index y).before args s = true) (hstat : (Cond.static y).before args s = true) (hinit : (Cond.initialized y.cls).before args s = true)
    (hcode : (Cond.code y bytes maxL ret).before args s = true) (hy : y.cls ≠ "java/lang/invoke/MethodHandle" ∧ y.cls ≠ "java/lang/invoke/VarHandle")
    {W9 : Nat} {Pre : Pt → Array Value → Prop} {Post : Pt → Array Value → Option Value → Pt → Prop} {PostX : Pt → Array Value → Addr → Pt → Prop} (hK : vx_Back l R p e below s args y 3 W9 Pre Post PostX)
    {g : JFrame} (hg : g.method = m) (hsize : g.locals.size = c.maxLocals) {argsL rest : List Value} (hlen : ∀ sig, parseMethodDescriptor y.desc = some sig → argsL.length = sig.parameters.length)
    (hstack : g.stack = argsL.reverse ++ rest) (hW : 2 * g.monitorRoom + (rest.map fun v => v.category).sum ≤ W9) (hdg : decode c.code g.pc = .ok (.invokestatic index, 3))
    (hpre : ∀ vm₁, s.WarmedH vm₁ → Pre ⟨T.setVm vm₁, locs, cells, slots⟩ argsL.toArray) :
    (∃ (v : Option Value) (vm₁ : Vm) (B : Pt), s.WarmedH vm₁ ∧ Stand p l e R s m args below meth c B.U B.locs B.cells B.slots ∧ Post ⟨T.setVm vm₁, locs, cells, slots⟩ argsL.toArray v B ∧
      ∀ target, Steps p.tables e below (B.U.setTop { g with pc := g.pc + 3, stack := v.toList ++ rest }) target → Steps p.tables e below (T.setTop g) target) ∨
    (∃ (q : Addr) (vm₁ : Vm) (B : Pt), s.WarmedH vm₁ ∧ Stand p l e R s m args below meth c B.U B.locs B.cells B.slots ∧ PostX ⟨T.setVm vm₁, locs, cells, slots⟩ argsL.toArray q B ∧
      Steps p.tables e below (T.setTop g) ((B.U.setTop { g with stack := rest }).pushFrame (.throwing q))) := by
  obtain ⟨mk, hnamed⟩ := Cond.code_named hcode
  obtain ⟨methM, cM, hmethM, -, -, -, -, -, -, hsigM⟩ := Cond.code_spec hnamed hcode
  have hstatic : methM.isStatic = true := Cond.static_spec hnamed hmethM hstat
  obtain ⟨kP, hkP, -⟩ := className_of_methodNamed hnamed
  have hinitP : kP.init = .initialized := Cond.initialized_spec (findClass_of_methodNamed hnamed) hkP hinit
  obtain ⟨vm₁, X₁, hstep₁⟩ := X.invokestatic hexec hown hlink hnamed hmethM hstatic hkP hinitP hy (g := g) hg (argsL := argsL) (rest := rest) (hlen _ hsigM) hstack hdg
  rcases hK m meth c ⟨T.setVm vm₁, locs, cells, slots⟩ { g with stack := rest } (.invokestatic index) mk argsL.toArray X₁ hg hsize hdg hW (X₁.named hnamed) (hpre vm₁ X₁.warmed) with ⟨v, B, X', hpost, hsteps⟩ | ⟨q, B, X', hpost, hsteps⟩
  · exact Or.inl ⟨v, vm₁, B, X₁.warmed, X', hpost, fun target h => hstep₁ _ fun acts => by rw [doInvoke_state]; exact hsteps.trans h⟩
  · exact Or.inr ⟨q, vm₁, B, X₁.warmed, X', hpost, hstep₁ _ fun acts => by rw [doInvoke_state]; exact hsteps⟩
end Calls
theorem vx_cls {s : State} {T : State} {vm₁ : Vm} {E : String} {k : ClassId} (hW : s.WarmedH vm₁) (h : (T.setVm vm₁).vm.findClass E = some k) : s.vm.findClass E = some k := by
  have h1 : vm₁.findClass E = some k := h
  rw [hW.alike.findClass] at h1
  exact h1
/-- the method's frame g, with q thrown over it -/
def vx_W (p : Program) (l : Launch) (e : Env) (R : Room) (s : State) (m : MethodId) (args : Array Value) (below : List Frame) (meth : Method) (c : Code) (H : Heap) (locs : List Loc) (cells slots : Nat) (Q : State → Prop) (g : JFrame) (q : Addr) : Prop :=
  ∀ T : State, T.heap = H → Stand p l e R s m args below meth c T locs cells slots → ∃ t, Steps p.tables e below ((T.setTop g).pushFrame (.throwing q)) t ∧ Q t
def vx_Run (p : Program) (l : Launch) (e : Env) (R : Room) (s : State) (m : MethodId) (args : Array Value) (below : List Frame) (meth : Method) (c : Code) (H : Heap) (locs : List Loc) (cells slots mc ms : Nat) (g : JFrame) (rest : List Value) (Qa : State → Outcome → State → Prop) (XC : String → State → State → Prop) (free : Addr → Prop) : Prop :=
  ∀ T : State, T.heap = H → Stand p l e R s m args below meth c T locs cells slots →
    (∃ (v : Option Value) (st₀ t T' : State) (L : List Loc), st₀.heap = H ∧ Stand p l e R s m args below meth c T' (locs ++ L) (cells + mc) (slots + ms) ∧ (∀ q ∈ L, free q.base) ∧ T'.heap = t.heap ∧ T'.vm = t.vm ∧ Qa st₀ (.returned v) t ∧
      Goes p e below T g T' { g with pc := g.pc + 3, stack := v.toList ++ rest }) ∨
    (∃ (q : Addr) (st₀ t T' : State) (L : List Loc) (E : String) (ce : Cell), st₀.heap = H ∧ Stand p l e R s m args below meth c T' (locs ++ L) (cells + mc) (slots + ms) ∧ (∀ z ∈ L, free z.base) ∧ T'.heap = t.heap ∧ T'.vm = t.vm ∧ XC E st₀ t ∧ t.heap[q]? = some ce ∧ ce.vm = .none ∧ s.vm.findClass E = some ce.cls ∧
      Steps p.tables e below (T.setTop g) ((T'.setTop { g with stack := rest }).pushFrame (.throwing q)))
def vx_X {S : Type} (px : S → Prop) (B : String → S → State → Prop) (A : Nat → Prop) : String → State → State → Prop := fun E st t => ∃ u : S, px u ∧ B E u t ∧ va_F A st t
section Runs
variable {p : Program} {l : Launch} {e : Env} {R : Room} {s : State} {m : MethodId} {args : Array Value} {below : List Frame} {meth : Method} {c : Code} {H : Heap} {locs : List Loc} {cells slots : Nat}
variable {y : MethodName} {bytes cc : ByteArray} {maxL nL mc ms n index : Nat} {ret : Option FieldType} {ws : List Cond} {rm : Room} {Pc : Array Value → State → Prop} {Qc : Array Value → State → Outcome → State → Prop} {XC : String → State → State → Prop} {free : Addr → Prop} {Ts : List Cond} {own C : String} {b : Addr} {As rest : List Value} {g : JFrame}
theorem vx_callBack (cb : CallB R s args own index y bytes maxL ret ws rm mc ms n) (hM : vx_Met l y ws rm Pc Qc XC mc ms free) (hbl : FrameBlind Pc) : vx_Back l R p e below s args y 3 8 (PreOf R mc ms Pc) (PostOf Qc mc ms free) (vx_Post XC mc ms free) := by
  obtain ⟨hrc, hrs, hfr, hlo, hws, hcw, -, hini, -⟩ := cb
  exact vx_back (bytes := bytes) (maxL := maxL) (ret := ret) hM hbl hrc hrs hfr hlo hws hcw (fun a' U hW => word_at hW (Or.inl (by first | rfl | simp [Cond.onTables, Cond.keeps, Cond.steady])) hini)
theorem vx_runV (S : CallFix p m c cc nL s args Ts own) (hM : vx_Met l y ws rm Pc Qc XC mc ms free) (cw : CallW R s args own C index y bytes maxL ret ws rm mc ms n) (hp : PreV s H C b Pc As)
    (hg : g.method = m) (hn : As.length = n) (hsize : g.locals.size = nL) (hstack : g.stack = As.reverse ++ .ref b :: rest) (hW : 2 * g.monitorRoom + (rest.map fun v => v.category).sum ≤ 8) (hdg : decode cc g.pc = .ok (.invokevirtual index, 3)) (hf : cells + mc ≤ R.cells ∧ slots + ms ≤ R.slots) :
    vx_Run p l e R s m args below meth c H locs cells slots mc ms g rest (Qc (Value.ref b :: As).toArray) XC free := by
  have hK : vx_Back l R p e below s args y 3 8 (PreOf R mc ms Pc) (PostOf Qc mc ms free) (vx_Post XC mc ms free) := vx_callBack cw.1 hM hp.1
  obtain ⟨⟨-, -, -, -, -, -, hcode, -, hy, hlen, hl⟩, hin, hse⟩ := cw
  obtain ⟨hx, hb, hml, ho, -⟩ := S
  obtain ⟨-, ⟨cellB, hcB, hoB, hclB⟩, hPc⟩ := hp
  intro T hT X
  rcases vx_callV X hx (C := C) (bytes := bytes) (maxL := maxL) (ret := ret) ho hl hin hse hcode hy hK (by rw [hT]; exact hcB) hoB hclB hg (hsize.trans hml.symm) (argsL := As) (rest := rest) (fun sig h => hn.trans (hlen sig h)) hstack hW (by rw [hb]; exact hdg)
    (fun vm₁ hW₁ => ⟨hf.1, hf.2, hPc (T.setVm vm₁) hT hW₁⟩) with ⟨v, vm₁, ⟨U', l2, c2, s2⟩, hW₁, X', ⟨g', mk, t, L, e1, e2, hq, h1, hL, h2, h3⟩, st⟩ | ⟨q, vm₁, ⟨U', l2, c2, s2⟩, hW₁, X', ⟨g', mk, t, L, E, ce, e1, e2, hq, hce, hcv, hcl, h1, hL, h2, h3⟩, st⟩
  · dsimp only [Pt.U, Pt.locs, Pt.cells, Pt.slots] at X' e1 e2 h1 h2 h3 st
    subst h1; subst h2; subst h3
    exact Or.inl ⟨v, (T.setVm vm₁).calling g' mk (Value.ref b :: As).toArray, t, U', L, hT, X', hL, e1, e2, hq, st⟩
  · dsimp only [Pt.U, Pt.locs, Pt.cells, Pt.slots] at X' e1 e2 h1 h2 h3 st hcl
    subst h1; subst h2; subst h3
    exact Or.inr ⟨q, (T.setVm vm₁).calling g' mk (Value.ref b :: As).toArray, t, U', L, E, ce, hT, X', hL, e1, e2, hq, hce, hcv, vx_cls hW₁ hcl, st⟩
theorem vx_runS (S : CallFix p m c cc nL s args Ts own) (hM : vx_Met l y ws rm Pc Qc XC mc ms free) (cw : CallB R s args own index y bytes maxL ret ws rm mc ms n ∧ (Cond.static y).before args s = true) (hp : PreS s H Pc As)
    (hg : g.method = m) (hn : As.length = n) (hsize : g.locals.size = nL) (hstack : g.stack = As.reverse ++ rest) (hW : 2 * g.monitorRoom + (rest.map fun v => v.category).sum ≤ 8) (hdg : decode cc g.pc = .ok (.invokestatic index, 3)) (hf : cells + mc ≤ R.cells ∧ slots + ms ≤ R.slots) :
    vx_Run p l e R s m args below meth c H locs cells slots mc ms g rest (Qc As.toArray) XC free := by
  have hK : vx_Back l R p e below s args y 3 8 (PreOf R mc ms Pc) (PostOf Qc mc ms free) (vx_Post XC mc ms free) := vx_callBack cw.1 hM hp.1
  obtain ⟨⟨-, -, -, -, -, -, hcode, hini, hy, hlen, hl⟩, hstt⟩ := cw
  obtain ⟨hx, hb, hml, ho, -⟩ := S
  intro T hT X
  rcases vx_callS X hx (bytes := bytes) (maxL := maxL) (ret := ret) ho hl hstt hini hcode hy hK hg (hsize.trans hml.symm) (argsL := As) (rest := rest) (fun sig h => hn.trans (hlen sig h)) hstack hW (by rw [hb]; exact hdg)
    (fun vm₁ hW₁ => ⟨hf.1, hf.2, hp.2 (T.setVm vm₁) hT hW₁⟩) with ⟨v, vm₁, ⟨U', l2, c2, s2⟩, hW₁, X', ⟨g', mk, t, L, e1, e2, hq, h1, hL, h2, h3⟩, st⟩ | ⟨q, vm₁, ⟨U', l2, c2, s2⟩, hW₁, X', ⟨g', mk, t, L, E, ce, e1, e2, hq, hce, hcv, hcl, h1, hL, h2, h3⟩, st⟩
  · dsimp only [Pt.U, Pt.locs, Pt.cells, Pt.slots] at X' e1 e2 h1 h2 h3 st
    subst h1; subst h2; subst h3
    exact Or.inl ⟨v, (T.setVm vm₁).calling g' mk As.toArray, t, U', L, hT, X', hL, e1, e2, hq, st⟩
  · dsimp only [Pt.U, Pt.locs, Pt.cells, Pt.slots] at X' e1 e2 h1 h2 h3 st hcl
    subst h1; subst h2; subst h3
    exact Or.inr ⟨q, (T.setVm vm₁).calling g' mk As.toArray, t, U', L, E, ce, hT, X', hL, e1, e2, hq, hce, hcv, vx_cls hW₁ hcl, st⟩
end Runs
section Rows
variable {p : Program} {l : Launch} {e : Env} {R : Room} {s : State} {m : MethodId} {args : Array Value} {below : List Frame} {meth : Method} {c : Code} {H : Heap} {locs : List Loc} {cells slots : Nat} {Q : State → Prop}
variable {mc ms : Nat} {free : Addr → Prop} {A0 A1 : Nat → Prop} {H0 : Heap} {a : Array Value} {pc : Nat} {ls : Array Slot} {st0 rest : List Value}
theorem vx_keep {st₀ t T' : State} {L : List Loc} (h0 : st₀.heap = H) (e1 : T'.heap = t.heap) (hS : va_S A0 H0 H locs) (hA : ∀ q, q < H.size → A1 q → A0 q) (hf : ∀ q, free q → A0 q) (hL : ∀ q ∈ L, free q.base) (hF : va_F A1 st₀ t) :
    H.size ≤ T'.heap.size ∧ (∀ q : Nat, q < H.size → ¬ A1 q → T'.heap[q]? = H[q]?) ∧ va_S A0 H0 T'.heap (locs ++ L) := by
  obtain ⟨hz, hk⟩ := hF
  rw [h0] at hz hk
  exact ⟨by rw [e1]; exact hz, fun q h1 h2 => by rw [e1]; exact hk q h1 h2,
    ⟨Nat.le_trans hS.1 (by rw [e1]; exact hz), fun q h1 h2 => by rw [e1, hk q (Nat.lt_of_lt_of_le h1 hS.1) (fun z => h2 (hA q (Nat.lt_of_lt_of_le h1 hS.1) z))]; exact hS.2.1 q h1 h2, fun q hq => by
      rcases List.mem_append.mp hq with h | h
      · exact hS.2.2 q h
      · exact hf _ (hL q h)⟩⟩
theorem vx_calli {S SX : Type} {post : Int32 → S → Prop} {px : SX → Prop} {B : S → State → Prop} {BX : String → SX → State → Prop} {AX : Nat → Prop} (hr : vx_Run p l e R s m args below meth c H locs cells slots mc ms (F0 m pc ls st0) rest (va_Qi post B A1 a) (vx_X px BX AX) free) (hS : va_S A0 H0 H locs) (hA : ∀ q, q < H.size → A1 q → A0 q) (hf : ∀ q, free q → A0 q) (hAX : ∀ q, q < H.size → AX q → A0 q)
    (kx : ∀ (E : String) (ce : Cell) (q9 : Addr) (u : SX) (t : State) (H1 : Heap) (locs1 : List Loc), t.heap = H1 → s.vm.Alike t.vm → px u → BX E u t → H.size ≤ H1.size → (∀ q : Nat, q < H.size → ¬ AX q → H1[q]? = H[q]?) → va_S A0 H0 H1 locs1 → H1[q9]? = some ce → ce.vm = .none → s.vm.findClass E = some ce.cls → vx_W p l e R s m args below meth c H1 locs1 (cells + mc) (slots + ms) Q (F0 m pc ls rest) q9)
    (kk : ∀ (r : Int32) (u : S) (t : State) (H1 : Heap) (locs1 : List Loc), t.heap = H1 → s.vm.Alike t.vm → post r u → B u t → H.size ≤ H1.size → (∀ q : Nat, q < H.size → ¬ A1 q → H1[q]? = H[q]?) → va_S A0 H0 H1 locs1 → W p l e R s m args below meth c H1 locs1 (cells + mc) (slots + ms) Q (F0 m (pc + 3) ls (.int r :: rest))) : W p l e R s m args below meth c H locs cells slots Q (F0 m pc ls st0) := by
  intro T hT X
  rcases hr T hT X with ⟨v, st₀, t, T', L, h0, X', hL, e1, e2, ⟨⟨r, u, hv, hp, hb⟩, hF⟩, st⟩ | ⟨q, st₀, t, T', L, E, ce, h0, X', hL, e1, e2, ⟨u, hp, hb, hF⟩, hce, hcv, hcl, st⟩
  · cases hv
    obtain ⟨k1, k2, k3⟩ := vx_keep h0 e1 hS hA hf hL hF
    obtain ⟨t2, a1, b1⟩ := kk r u t T'.heap (locs ++ L) e1.symm (by rw [← e2]; exact X'.warmed.alike) hp hb k1 k2 k3 T' rfl X'
    exact ⟨t2, st t2 a1, b1⟩
  · obtain ⟨k1, k2, k3⟩ := vx_keep h0 e1 hS hAX hf hL hF
    obtain ⟨t2, a1, b1⟩ := kx E ce q u t T'.heap (locs ++ L) e1.symm (by rw [← e2]; exact X'.warmed.alike) hp hb k1 k2 k3 (by rw [e1]; exact hce) hcv hcl T' rfl X'
    exact ⟨t2, st.trans a1, b1⟩
theorem vx_calll {S SX : Type} {post : Int64 → S → Prop} {px : SX → Prop} {B : S → State → Prop} {BX : String → SX → State → Prop} {AX : Nat → Prop} (hr : vx_Run p l e R s m args below meth c H locs cells slots mc ms (F0 m pc ls st0) rest (va_Ql post B A1 a) (vx_X px BX AX) free) (hS : va_S A0 H0 H locs) (hA : ∀ q, q < H.size → A1 q → A0 q) (hf : ∀ q, free q → A0 q) (hAX : ∀ q, q < H.size → AX q → A0 q)
    (kx : ∀ (E : String) (ce : Cell) (q9 : Addr) (u : SX) (t : State) (H1 : Heap) (locs1 : List Loc), t.heap = H1 → s.vm.Alike t.vm → px u → BX E u t → H.size ≤ H1.size → (∀ q : Nat, q < H.size → ¬ AX q → H1[q]? = H[q]?) → va_S A0 H0 H1 locs1 → H1[q9]? = some ce → ce.vm = .none → s.vm.findClass E = some ce.cls → vx_W p l e R s m args below meth c H1 locs1 (cells + mc) (slots + ms) Q (F0 m pc ls rest) q9)
    (kk : ∀ (r : Int64) (u : S) (t : State) (H1 : Heap) (locs1 : List Loc), t.heap = H1 → s.vm.Alike t.vm → post r u → B u t → H.size ≤ H1.size → (∀ q : Nat, q < H.size → ¬ A1 q → H1[q]? = H[q]?) → va_S A0 H0 H1 locs1 → W p l e R s m args below meth c H1 locs1 (cells + mc) (slots + ms) Q (F0 m (pc + 3) ls (.long r :: rest))) : W p l e R s m args below meth c H locs cells slots Q (F0 m pc ls st0) := by
  intro T hT X
  rcases hr T hT X with ⟨v, st₀, t, T', L, h0, X', hL, e1, e2, ⟨⟨r, u, hv, hp, hb⟩, hF⟩, st⟩ | ⟨q, st₀, t, T', L, E, ce, h0, X', hL, e1, e2, ⟨u, hp, hb, hF⟩, hce, hcv, hcl, st⟩
  · cases hv
    obtain ⟨k1, k2, k3⟩ := vx_keep h0 e1 hS hA hf hL hF
    obtain ⟨t2, a1, b1⟩ := kk r u t T'.heap (locs ++ L) e1.symm (by rw [← e2]; exact X'.warmed.alike) hp hb k1 k2 k3 T' rfl X'
    exact ⟨t2, st t2 a1, b1⟩
  · obtain ⟨k1, k2, k3⟩ := vx_keep h0 e1 hS hAX hf hL hF
    obtain ⟨t2, a1, b1⟩ := kx E ce q u t T'.heap (locs ++ L) e1.symm (by rw [← e2]; exact X'.warmed.alike) hp hb k1 k2 k3 (by rw [e1]; exact hce) hcv hcl T' rfl X'
    exact ⟨t2, st.trans a1, b1⟩
theorem vx_callf {S SX : Type} {post : UInt32 → S → Prop} {px : SX → Prop} {B : S → State → Prop} {BX : String → SX → State → Prop} {AX : Nat → Prop} (hr : vx_Run p l e R s m args below meth c H locs cells slots mc ms (F0 m pc ls st0) rest (va_Qf post B A1 a) (vx_X px BX AX) free) (hS : va_S A0 H0 H locs) (hA : ∀ q, q < H.size → A1 q → A0 q) (hf : ∀ q, free q → A0 q) (hAX : ∀ q, q < H.size → AX q → A0 q)
    (kx : ∀ (E : String) (ce : Cell) (q9 : Addr) (u : SX) (t : State) (H1 : Heap) (locs1 : List Loc), t.heap = H1 → s.vm.Alike t.vm → px u → BX E u t → H.size ≤ H1.size → (∀ q : Nat, q < H.size → ¬ AX q → H1[q]? = H[q]?) → va_S A0 H0 H1 locs1 → H1[q9]? = some ce → ce.vm = .none → s.vm.findClass E = some ce.cls → vx_W p l e R s m args below meth c H1 locs1 (cells + mc) (slots + ms) Q (F0 m pc ls rest) q9)
    (kk : ∀ (r : UInt32) (u : S) (t : State) (H1 : Heap) (locs1 : List Loc), t.heap = H1 → s.vm.Alike t.vm → post r u → B u t → H.size ≤ H1.size → (∀ q : Nat, q < H.size → ¬ A1 q → H1[q]? = H[q]?) → va_S A0 H0 H1 locs1 → W p l e R s m args below meth c H1 locs1 (cells + mc) (slots + ms) Q (F0 m (pc + 3) ls (.float r :: rest))) : W p l e R s m args below meth c H locs cells slots Q (F0 m pc ls st0) := by
  intro T hT X
  rcases hr T hT X with ⟨v, st₀, t, T', L, h0, X', hL, e1, e2, ⟨⟨r, u, hv, hp, hb⟩, hF⟩, st⟩ | ⟨q, st₀, t, T', L, E, ce, h0, X', hL, e1, e2, ⟨u, hp, hb, hF⟩, hce, hcv, hcl, st⟩
  · cases hv
    obtain ⟨k1, k2, k3⟩ := vx_keep h0 e1 hS hA hf hL hF
    obtain ⟨t2, a1, b1⟩ := kk r u t T'.heap (locs ++ L) e1.symm (by rw [← e2]; exact X'.warmed.alike) hp hb k1 k2 k3 T' rfl X'
    exact ⟨t2, st t2 a1, b1⟩
  · obtain ⟨k1, k2, k3⟩ := vx_keep h0 e1 hS hAX hf hL hF
    obtain ⟨t2, a1, b1⟩ := kx E ce q u t T'.heap (locs ++ L) e1.symm (by rw [← e2]; exact X'.warmed.alike) hp hb k1 k2 k3 (by rw [e1]; exact hce) hcv hcl T' rfl X'
    exact ⟨t2, st.trans a1, b1⟩
theorem vx_calld {S SX : Type} {post : UInt64 → S → Prop} {px : SX → Prop} {B : S → State → Prop} {BX : String → SX → State → Prop} {AX : Nat → Prop} (hr : vx_Run p l e R s m args below meth c H locs cells slots mc ms (F0 m pc ls st0) rest (va_Qd post B A1 a) (vx_X px BX AX) free) (hS : va_S A0 H0 H locs) (hA : ∀ q, q < H.size → A1 q → A0 q) (hf : ∀ q, free q → A0 q) (hAX : ∀ q, q < H.size → AX q → A0 q)
    (kx : ∀ (E : String) (ce : Cell) (q9 : Addr) (u : SX) (t : State) (H1 : Heap) (locs1 : List Loc), t.heap = H1 → s.vm.Alike t.vm → px u → BX E u t → H.size ≤ H1.size → (∀ q : Nat, q < H.size → ¬ AX q → H1[q]? = H[q]?) → va_S A0 H0 H1 locs1 → H1[q9]? = some ce → ce.vm = .none → s.vm.findClass E = some ce.cls → vx_W p l e R s m args below meth c H1 locs1 (cells + mc) (slots + ms) Q (F0 m pc ls rest) q9)
    (kk : ∀ (r : UInt64) (u : S) (t : State) (H1 : Heap) (locs1 : List Loc), t.heap = H1 → s.vm.Alike t.vm → post r u → B u t → H.size ≤ H1.size → (∀ q : Nat, q < H.size → ¬ A1 q → H1[q]? = H[q]?) → va_S A0 H0 H1 locs1 → W p l e R s m args below meth c H1 locs1 (cells + mc) (slots + ms) Q (F0 m (pc + 3) ls (.double r :: rest))) : W p l e R s m args below meth c H locs cells slots Q (F0 m pc ls st0) := by
  intro T hT X
  rcases hr T hT X with ⟨v, st₀, t, T', L, h0, X', hL, e1, e2, ⟨⟨r, u, hv, hp, hb⟩, hF⟩, st⟩ | ⟨q, st₀, t, T', L, E, ce, h0, X', hL, e1, e2, ⟨u, hp, hb, hF⟩, hce, hcv, hcl, st⟩
  · cases hv
    obtain ⟨k1, k2, k3⟩ := vx_keep h0 e1 hS hA hf hL hF
    obtain ⟨t2, a1, b1⟩ := kk r u t T'.heap (locs ++ L) e1.symm (by rw [← e2]; exact X'.warmed.alike) hp hb k1 k2 k3 T' rfl X'
    exact ⟨t2, st t2 a1, b1⟩
  · obtain ⟨k1, k2, k3⟩ := vx_keep h0 e1 hS hAX hf hL hF
    obtain ⟨t2, a1, b1⟩ := kx E ce q u t T'.heap (locs ++ L) e1.symm (by rw [← e2]; exact X'.warmed.alike) hp hb k1 k2 k3 (by rw [e1]; exact hce) hcv hcl T' rfl X'
    exact ⟨t2, st.trans a1, b1⟩
theorem vx_callv {S SX : Type} {post : S → Prop} {px : SX → Prop} {B : S → State → Prop} {BX : String → SX → State → Prop} {AX : Nat → Prop} (hr : vx_Run p l e R s m args below meth c H locs cells slots mc ms (F0 m pc ls st0) rest (va_Qv post B A1 a) (vx_X px BX AX) free) (hS : va_S A0 H0 H locs) (hA : ∀ q, q < H.size → A1 q → A0 q) (hf : ∀ q, free q → A0 q) (hAX : ∀ q, q < H.size → AX q → A0 q)
    (kx : ∀ (E : String) (ce : Cell) (q9 : Addr) (u : SX) (t : State) (H1 : Heap) (locs1 : List Loc), t.heap = H1 → s.vm.Alike t.vm → px u → BX E u t → H.size ≤ H1.size → (∀ q : Nat, q < H.size → ¬ AX q → H1[q]? = H[q]?) → va_S A0 H0 H1 locs1 → H1[q9]? = some ce → ce.vm = .none → s.vm.findClass E = some ce.cls → vx_W p l e R s m args below meth c H1 locs1 (cells + mc) (slots + ms) Q (F0 m pc ls rest) q9)
    (kk : ∀ (u : S) (t : State) (H1 : Heap) (locs1 : List Loc), t.heap = H1 → s.vm.Alike t.vm → post u → B u t → H.size ≤ H1.size → (∀ q : Nat, q < H.size → ¬ A1 q → H1[q]? = H[q]?) → va_S A0 H0 H1 locs1 → W p l e R s m args below meth c H1 locs1 (cells + mc) (slots + ms) Q (F0 m (pc + 3) ls (rest))) : W p l e R s m args below meth c H locs cells slots Q (F0 m pc ls st0) := by
  intro T hT X
  rcases hr T hT X with ⟨v, st₀, t, T', L, h0, X', hL, e1, e2, ⟨⟨u, hv, hp, hb⟩, hF⟩, st⟩ | ⟨q, st₀, t, T', L, E, ce, h0, X', hL, e1, e2, ⟨u, hp, hb, hF⟩, hce, hcv, hcl, st⟩
  · cases hv
    obtain ⟨k1, k2, k3⟩ := vx_keep h0 e1 hS hA hf hL hF
    obtain ⟨t2, a1, b1⟩ := kk u t T'.heap (locs ++ L) e1.symm (by rw [← e2]; exact X'.warmed.alike) hp hb k1 k2 k3 T' rfl X'
    exact ⟨t2, st t2 a1, b1⟩
  · obtain ⟨k1, k2, k3⟩ := vx_keep h0 e1 hS hAX hf hL hF
    obtain ⟨t2, a1, b1⟩ := kx E ce q u t T'.heap (locs ++ L) e1.symm (by rw [← e2]; exact X'.warmed.alike) hp hb k1 k2 k3 (by rw [e1]; exact hce) hcv hcl T' rfl X'
    exact ⟨t2, st.trans a1, b1⟩
/-- caught by the row x of this method's table; the rows ahead don't take it -/
theorem vx_catch {own name : String} {E : String} {ce : Cell} {q : Addr} (hown : s.vm.findClass own = some m.cls) (pre : List ExceptionTableEntry) (x : ExceptionTableEntry) (suf : List ExceptionTableEntry) (hsplit : c.exceptionTable.toList = pre ++ x :: suf)
    (hpass : ∀ z ∈ pre, covers z pc = false ∨ (z.catchType ≠ 0 ∧ ∃ nm : String, (Cond.classLink own z.catchType nm).before args s = true ∧ va_Nc E nm s)) (hx : covers x pc = true) (h0 : x.catchType ≠ 0)
    (hlink : (Cond.classLink own x.catchType name).before args s = true) (hcast : (Cond.castable E name).before args s = true) (hcell : H[q]? = some ce) (hv : ce.vm = .none) (hcl : s.vm.findClass E = some ce.cls)
    (kk : W p l e R s m args below meth c H locs cells slots Q (F0 m x.handlerPc ls [.ref q])) : vx_W p l e R s m args below meth c H locs cells slots Q (F0 m pc ls rest) q := by
  intro T hT X
  have hpl : e.platform.magicAccessors = ({} : Platform).magicAccessors := by rw [X.admits.platform]
  obtain ⟨c3, c4, hc3, hc4, hasg⟩ := Cond.castable_spec hcast
  cases Option.some.inj (hc3.symm.trans hcl)
  obtain ⟨c5, hc5, hcl5⟩ := Cond.classLink_spec hown hlink e.platform hpl
  cases Option.some.inj (hc4.symm.trans hc5)
  obtain ⟨vm', X', st⟩ := X.thenCaughtThrough q (g := F0 m pc ls rest) rfl (Steps.refl _) (by rw [hT]; exact hcell) (by rw [hv]; rfl) (by obtain ⟨k9, h9, -⟩ := Vm.findClass_spec hcl; exact ⟨k9, h9⟩) pre x suf hsplit
    (fun z hz => by
      rcases hpass z hz with h | ⟨hz0, nm, hl1, hn1⟩
      · exact Or.inl h
      · obtain ⟨c6, hc6, hcl6⟩ := Cond.classLink_spec hown hl1 e.platform hpl
        obtain ⟨a8, b8, h1, h2, h3⟩ := hn1
        cases Option.some.inj (h1.symm.trans hcl)
        cases Option.some.inj (h2.symm.trans hc6)
        exact Or.inr ⟨hz0, _, hcl6, h3⟩) hx (Or.inr ⟨h0, c4, hcl5, hasg⟩)
  obtain ⟨t, a1, b1⟩ := kk (T.setVm vm') hT X'
  exact ⟨t, st.trans a1, b1⟩
end Rows
section Ends
variable {p : Program} {l : Launch} {e : Env} {R : Room} {s : State} {m : MethodId} {args : Array Value} {below : List Frame} {meth : Method} {c : Code} {H : Heap} {locs : List Loc} {cells slots : Nat} {Q : State → Prop}
variable {mc ms : Nat} {free : Addr → Prop} {A0 A1 : Nat → Prop} {H0 : Heap} {a : Array Value} {ls : Array Slot} {st0 rest : List Value}
variable {Qc : Array Value → State → Outcome → State → Prop} {XC : String → State → State → Prop}
/-- what a body that may throw owes at its end -/
def vx_MQ (below : List Frame) (Qc : Array Value → State → Outcome → State → Prop) (XC : String → State → State → Prop) (a : Array Value) (s : State) (mc ms : Nat) (free : Addr → Prop) : State → Prop := fun t =>
  ∃ o, t.status = .running ∧ Ended t below o ∧ vx_Q Qc XC mc ms free a s o t
theorem vx_ret {g : JFrame} {mc ms : Nat} (k : W p l e R s m args below meth c H locs cells slots (MQ below Qc args s mc ms free) g) : W p l e R s m args below meth c H locs cells slots (vx_MQ below Qc XC args s mc ms free) g := by
  intro T hT X
  obtain ⟨t, a1, o, b1, b2, b3, b4⟩ := k T hT X
  exact ⟨t, a1, o, b1, b2, Or.inl ⟨b3, b4⟩⟩
/-- not caught here: it goes on to the caller -/
theorem vx_widen {g : JFrame} {q : Addr} {k n : Nat} (h1 : cells ≤ k) (h2 : slots ≤ n) (kk : vx_W p l e R s m args below meth c H locs k n Q g q) : vx_W p l e R s m args below meth c H locs cells slots Q g q := fun T hT X => kk T hT (stand_widen X h1 h2)
theorem vx_out {pc : Nat} {E : String} {ce : Cell} {q : Addr} {mc ms : Nat} (hout : ∀ x ∈ c.exceptionTable.toList, covers x pc = false) (hlocks : meth.locks = false) (hcell : H[q]? = some ce) (hv : ce.vm = .none) (hcl : s.vm.findClass E = some ce.cls)
    (hx : ∀ t : State, t.heap = H → s.vm.Alike t.vm → XC E s t) (hf : ∀ z ∈ locs, free z.base) (hc : cells ≤ mc) (hs : slots ≤ ms) :
    vx_W p l e R s m args below meth c H locs cells slots (vx_MQ below Qc XC args s mc ms free) (F0 m pc ls rest) q := by
  intro T hT X
  obtain ⟨st1, hrun, hend, hW, hsm⟩ := X.leaveThrown q (g := F0 m pc ls rest) rfl rfl rfl hout hlocks
  have hcell9 : (T.setFrames (.throwing q :: below)).heap[q]? = some ce := by
    show T.heap[q]? = some ce
    rw [hT]; exact hcell
  exact ⟨_, st1, .threw q, hrun, hend, Or.inr ⟨q, rfl, E, ce, locs, hx _ hT hW.alike, hcell9, hv, hcl, hW, hsm.mono hc hs, hf⟩⟩
theorem vx_frame {U : State} {k n : Nat} (h : s.sameButNew ({ U with vm := s.vm } : State) locs k n) : s.heap.size ≤ U.heap.size ∧ ∀ q : Nat, q < s.heap.size → (∀ z ∈ locs, z.base ≠ q) → U.heap[q]? = s.heap[q]? := by
  obtain ⟨-, h2, -, -, -, h6⟩ := h
  refine ⟨h2, fun q hq hz => ?_⟩
  obtain ⟨c9, e1, e2, e3, e4⟩ := h6 q _ (Array.getElem?_eq_getElem hq)
  have hs : c9.slots = (s.heap[q]).slots := Array.ext_getElem? fun i => e4 i fun hm => hz _ hm rfl
  have h9 : c9 = s.heap[q] := by
    rw [hs] at e2
    exact e2
  have e5 : U.heap[q]? = some c9 := e1
  rw [e5, h9, Array.getElem?_eq_getElem hq]
/-- the words of a throw but the four that speak of the heap -/
def vx_no (w : Cond) : Bool := decide (w ≠ .isRef (.static Bundle.tN "UNASSIGNED_STACK" Bundle.steD)) && decide (w ≠ .isRef (.static Bundle.tN "SUPPRESSED_SENTINEL" Bundle.listD)) && decide (w ≠ .laysStatic Bundle.tN "UNASSIGNED_STACK" Bundle.steD) && decide (w ≠ .laysStatic Bundle.tN "SUPPRESSED_SENTINEL" Bundle.listD)
def vx_at0 (own : String) (ic : Nat) (X : String) (names : List String) : List Cond := (Bundle.ownAtoms0 own ic X names).filter vx_no
def vx_atS (own : String) (ic : Nat) (X : String) (names : List String) : List Cond := (Bundle.ownAtoms own ic X names).filter vx_no
/-- a word that the tables alone decide, or a good one -/
def vx_ot (w : Cond) : Bool := w.onTables || goodWord w
theorem vx_ot_at {args a' : Array Value} {s U : State} {w : Cond} (hW : s.WarmedH U.vm) (hvm : s.vm = U.vm) (hg : vx_ot w = true) (h : w.before args s = true) : w.before a' U = true := by
  simp only [vx_ot, Bool.or_eq_true] at hg
  rcases hg with hg | hg
  · exact va_tabs hg hvm h
  · exact word_at hW (good_of_word hg) h
/-- a list's words: the good ones out of the method's own list, the others by premises of their own -/
theorem vx_hat {args : Array Value} {s : State} {L B : List Cond} (h1 : ∀ w ∈ L.filter goodWord, w.before args s = true) (h2 : ∀ w ∈ L.filter (fun w => !goodWord w), w ∈ B) (h3 : ∀ w ∈ B, w.before args s = true) : ∀ w ∈ L, w.before args s = true := by
  intro w hw
  by_cases g : goodWord w = true
  · exact h1 w (List.mem_filter.mpr ⟨hw, g⟩)
  · refine h3 w (h2 w (List.mem_filter.mpr ⟨hw, ?_⟩))
    show (!goodWord w) = true
    cases hgw : goodWord w
    · rfl
    · exact absurd hgw g
theorem vx_c {args : Array Value} {s : State} {w : Cond} {B : List Cond} (h : w.before args s = true) (t : ∀ w ∈ B, w.before args s = true) : ∀ w' ∈ w :: B, w'.before args s = true := fun w' h' => (List.mem_cons.mp h').elim (fun e => by rw [e]; exact h) (t w')
theorem vx_n {args : Array Value} {s : State} : ∀ w ∈ ([] : List Cond), w.before args s = true := fun _ h => nomatch h
theorem vx_own {args : Array Value} {s : State} {L : List Cond} (h1 : ∀ w ∈ L.filter vx_no, w.before args s = true)
    (hU : (Cond.isRef (.static Bundle.tN "UNASSIGNED_STACK" Bundle.steD)).before args s = true) (hN : (Cond.isRef (.static Bundle.tN "SUPPRESSED_SENTINEL" Bundle.listD)).before args s = true)
    (lU : (Cond.laysStatic Bundle.tN "UNASSIGNED_STACK" Bundle.steD).before args s = true) (lN : (Cond.laysStatic Bundle.tN "SUPPRESSED_SENTINEL" Bundle.listD).before args s = true) : ∀ w ∈ L, w.before args s = true := by
  intro w hw
  by_cases e1 : w = .isRef (.static Bundle.tN "UNASSIGNED_STACK" Bundle.steD)
  · rw [e1]; exact hU
  · by_cases e2 : w = .isRef (.static Bundle.tN "SUPPRESSED_SENTINEL" Bundle.listD)
    · rw [e2]; exact hN
    · by_cases e3 : w = .laysStatic Bundle.tN "UNASSIGNED_STACK" Bundle.steD
      · rw [e3]; exact lU
      · by_cases e4 : w = .laysStatic Bundle.tN "SUPPRESSED_SENTINEL" Bundle.listD
        · rw [e4]; exact lN
        · exact h1 w (List.mem_filter.mpr ⟨hw, by unfold vx_no; rw [decide_eq_true e1, decide_eq_true e2, decide_eq_true e3, decide_eq_true e4]; rfl⟩)
/-- where a static field lies, its class's statics cell in H -/
def vx_L (C n d : String) (A : Nat → Prop) (U : State) (H : Heap) : Prop := ∃ (c : ClassId) (k : Class) (i : Nat) (f : Field) (a : Nat) (cell : Cell), U.vm.findClass C = some c ∧ U.fieldFound? C n d = some (c, k, i, f) ∧ f.isStatic = true ∧ k.statics = some a ∧ H[a]? = some cell ∧ cell.vm.isStatics = true ∧ cell.cls = c ∧ f.slot < cell.slots.size ∧ k.staticTypes[f.slot]? = some f.type ∧ ¬ A a
theorem vx_L.moved {C n d : String} {A : Nat → Prop} {u U : State} {H : Heap} (hvm : u.vm.Alike U.vm) (h : vx_L C n d A u H) : vx_L C n d A U H := by
  obtain ⟨c, k, i, f, a, cell, h1, h2, h3, h4, h5, h6, h7, h8, h9, h10⟩ := h
  obtain ⟨k', hi', he⟩ := State.fieldFound?_setVm hvm h2
  exact ⟨c, k', i, f, a, cell, by rw [hvm.findClass]; exact h1, hi', h3, by rw [he]; exact h4, h5, h6, h7, h8, by rw [he]; exact h9, h10⟩
theorem vx_L.kept {C n d : String} {A : Nat → Prop} {U : State} {H H1 : Heap} (h : vx_L C n d A U H) (hq : ∀ a : Nat, a < H.size → ¬ A a → H1[a]? = H[a]?) : vx_L C n d A U H1 := by
  obtain ⟨c, k, i, f, a, cell, h1, h2, h3, h4, h5, h6, h7, h8, h9, h10⟩ := h
  exact ⟨c, k, i, f, a, cell, h1, h2, h3, h4, by rw [hq a (Array.getElem?_eq_some_iff.mp h5).1 h10]; exact h5, h6, h7, h8, h9, h10⟩
theorem vx_L.narrow {C n d : String} {A B : Nat → Prop} {U : State} {H : Heap} (h : vx_L C n d A U H) (hAB : ∀ q, B q → A q) : vx_L C n d B U H := by
  obtain ⟨c, k, i, f, a, cell, h1, h2, h3, h4, h5, h6, h7, h8, h9, h10⟩ := h
  exact ⟨c, k, i, f, a, cell, h1, h2, h3, h4, h5, h6, h7, h8, h9, fun z => h10 (hAB _ z)⟩
theorem vx_L.word {C n d : String} {A : Nat → Prop} {s : State} {args : Array Value} (h : vx_L C n d A s s.heap) : (Cond.laysStatic C n d).before args s = true := by
  obtain ⟨c, k, i, f, a, cell, h1, h2, h3, h4, h5, h6, h7, h8, h9, -⟩ := h
  show (Cond.laysStatic C n d).holds args s none s [] = true
  exact Cond.laysStatic_of h1 h2 h3 h4 h5 h6 h7 h8 h9
/-- .. and what it holds: null or some reference -/
def vx_Zq (C n d : String) (A : Nat → Prop) (U : State) (H : Heap) : Prop := va_Zq C n d A U H ∧ vx_L C n d A U H
theorem vx_Zq.moved {C n d : String} {A : Nat → Prop} {u U : State} {H : Heap} (hvm : u.vm.Alike U.vm) (h : vx_Zq C n d A u H) : vx_Zq C n d A U H := ⟨va_Zq.moved hvm h.1, vx_L.moved hvm h.2⟩
theorem vx_Zq.kept {C n d : String} {A : Nat → Prop} {U : State} {H H1 : Heap} (h : vx_Zq C n d A U H) (hq : ∀ a : Nat, a < H.size → ¬ A a → H1[a]? = H[a]?) : vx_Zq C n d A U H1 := ⟨va_Zq.kept h.1 hq, vx_L.kept h.2 hq⟩
theorem vx_Zq.narrow {C n d : String} {A B : Nat → Prop} {U : State} {H : Heap} (h : vx_Zq C n d A U H) (hAB : ∀ q, B q → A q) : vx_Zq C n d B U H := ⟨va_Zq.narrow h.1 hAB, vx_L.narrow h.2 hAB⟩
theorem vx_Zqof {args : Array Value} {s : State} {C n d : String} {A : Nat → Prop} (hl : (Cond.laysStatic C n d).before args s = true) (hini : (Cond.initialized C).before args s = true) (h : (Cond.isRef (.static C n d)).before args s = true) (hA : ∀ a : Nat, a < s.heap.size → ¬ A a) : vx_Zq C n d A s s.heap := by
  refine ⟨va_Zqof hl hini h hA, ?_⟩
  obtain ⟨c, k, i, f, a, cell, h1, h2, h3, h4, h5, h6, h7, h8, h9⟩ := Cond.laysStatic_spec hl
  exact ⟨c, k, i, f, a, cell, h1, h2, h3, h4, h5, h6, h7, h8, h9, hA a (Array.getElem?_eq_some_iff.mp h5).1⟩
theorem vx_isRef {C n d : String} {v : Value} {A : Nat → Prop} {s : State} {args : Array Value} (h : va_Z C n d v A s s.heap) (hv : v.isRef = true) : (Cond.isRef (.static C n d)).before args s = true := by
  obtain ⟨cf, kf, fi, f, a, cell, h1, h2, h3, h4, h5, h6, h7, -⟩ := h
  have he : (Term.static C n d).eval args s none [] s = some v := by
    simp [Term.eval, State.fieldNamed?, h1, h2, h4, h5, h6, h7]
  simp only [Cond.before, Cond.holds, Cond.value, he]
  cases v <;> simp_all [Value.isRef]
theorem vx_isRefq {C n d : String} {A : Nat → Prop} {s : State} {args : Array Value} (h : va_Zq C n d A s s.heap) : (Cond.isRef (.static C n d)).before args s = true := by
  rcases h with h | ⟨t, h⟩
  · exact vx_isRef h rfl
  · exact vx_isRef h rfl
/-- the same frame, seen from here: as if the method were called anew in this heap -/
theorem vx_rebase {T : State} (X : Stand p l e R s m args below meth c T locs cells slots) {R' : Room} (hf : R'.frames ≤ R.frames) (hl : R'.locals ≤ R.locals) (hc : cells + R'.cells ≤ R.cells) (hs : slots + R'.slots ≤ R.slots) :
    Stand p l e R' ((T.setVm s.vm).setFrames (.invoking m args :: below)) m args below meth c T [] 0 0 := by
  have htop : (T.setVm s.vm).topJava?.isSome := X.here.top
  have hF : ((T.setVm s.vm).setFrames (.invoking m args :: below)).frames = .invoking m args :: below := State.frames_setFrames _ (State.cur_lt_of_top htop)
  obtain ⟨g₀, hg0⟩ := Option.isSome_iff_exists.mp htop
  obtain ⟨r, hr⟩ := State.topJava?_eq_some.mp hg0
  have hl9 : e.platform.stackLimits (T.setVm s.vm).me = e.platform.stackLimits s.me := X.limits
  have hb9 : (T.setVm s.vm).me.stackBytes = s.me.stackBytes := X.bytes
  refine ⟨X.admits, X.cas, X.clock, hF, ?_, X.hears, X.method, X.code, X.here, X.tail, X.warmed, ?_, ?_, ?_⟩
  · have h := X.room
    have hU : ((T.setVm s.vm).setFrames (.invoking m args :: below)).localsInUse = s.localsInUse := by
      rw [State.localsInUse_invoking hF (meth := meth) (c := c) X.method X.code, State.localsInUse_invoking X.frames X.method X.code]
    simp only [State.hasRoom, Bool.and_eq_true, decide_eq_true_eq] at h ⊢
    obtain ⟨⟨⟨⟨h1, h2, h3, h4, h5, h6⟩, h7⟩, h8⟩, h9⟩ := h
    rw [X.frames, List.length_cons] at h2 h3
    have q1 := X.heapSize
    have q2 := X.used
    simp only [hF, hU, List.length_cons, State.stackLimits_setFrames, State.stackBytes_setFrames, hl9, hb9]
    refine ⟨⟨⟨⟨by omega, by omega, by omega, by omega, by omega, h6⟩, ?_⟩, ?_⟩, X.book⟩
    · show T.heap.size + R'.cells ≤ e.platform.maxCells
      omega
    · show T.slotsUsed + R'.slots ≤ e.platform.maxSlots
      omega
  · rw [State.stackLimits_setFrames]; rfl
  · rw [State.stackBytes_setFrames]; rfl
  · refine ⟨?_, Nat.le_refl _, Nat.le_refl _, ?_, ?_, fun a c9 h9 => ⟨c9, h9, rfl, rfl, fun _ _ => rfl⟩⟩
    · obtain ⟨t, ht, -⟩ := State.frames_cons hr
      show T.setVm s.vm = { ((T.setVm s.vm).setFrames (.invoking m args :: below)).setFrames (T.setVm s.vm).frames with heap := T.heap, slotsUsed := T.slotsUsed }
      rw [State.setFrames_setFrames, State.setFrames_self ht]
      rfl
    · show T.slotsUsed = T.slotsUsed + ((T.heap.toList.drop T.heap.size).map (·.slots.size)).sum
      rw [List.drop_eq_nil_of_le (Nat.le_of_eq Array.length_toList)]
      rfl
    · show ((T.heap.toList.drop T.heap.size).map (·.slots.size)).sum ≤ 0
      rw [List.drop_eq_nil_of_le (Nat.le_of_eq Array.length_toList)]
      exact Nat.le_refl _
/-- 'throw new E()': new; dup; invokespecial; athrow -/
theorem vx_throw0 {cc : ByteArray} {pc : Nat} (hexec : p.tables.exec = Jvm.exec) (hb : c.code = cc) (hl : l.stackTraces = false) {own cls : String} {names : List String} {ik ic mc ms : Nat} {A : Nat → Prop}
    (hown : s.vm.findClass own = some m.cls) (hcls : Bundle.fit cls = true) (hnames : ∀ n ∈ names, Bundle.fit n = true)
    (hk : (Cond.classLink own ik cls).before args s = true) (hini : (Cond.initialized cls).before args s = true) (hat : ∀ w ∈ vx_at0 own ic cls names, w.before args s = true)
    (hgood : ∀ w ∈ Cond.classLink own ik cls :: Cond.initialized cls :: vx_at0 own ic cls names, vx_ot w = true)
    (hU : vx_Zq Bundle.tN "UNASSIGNED_STACK" Bundle.steD A s s.heap) (hN : vx_Zq Bundle.tN "SUPPRESSED_SENTINEL" Bundle.listD A s s.heap) (hS : va_S A s.heap H locs) (hsize : ls.size = c.maxLocals)
    (d0 : decode cc pc = .ok (.new ik, 3)) (d3 : decode cc (pc + 3) = .ok (.dup, 1)) (d4 : decode cc (pc + 4) = .ok (.invokespecial ic, 3)) (d7 : decode cc (pc + 7) = .ok (.athrow, 1))
    (hout : ∀ x ∈ c.exceptionTable.toList, covers x (pc + 7) = false)
    (hRframes : names.length + 3 < R.frames) (hRlocals : (rest.map fun v => v.category).sum + (13 * (names.length + 1) + 42) ≤ R.locals) (hRcells : cells + 1 ≤ R.cells) (hRslots : slots + 6 ≤ R.slots) (hlocks : meth.locks = false)
    (hx : ∀ t : State, s.vm.Alike t.vm → H.size ≤ t.heap.size → (∀ q : Nat, q < H.size → t.heap[q]? = H[q]?) → XC cls s t)
    (hf : ∀ z ∈ locs, free z.base) (hc : cells + 1 ≤ mc) (hs : slots + 6 ≤ ms) :
    W p l e R s m args below meth c H locs cells slots (vx_MQ below Qc XC args s mc ms free) (F0 m pc ls rest) := by
  intro T hT X
  have htr : e.platform.stackTraces = false := (show e.platform.stackTraces = l.stackTraces by rw [X.admits.platform]).trans hl
  have Y := vx_rebase X (R' := { frames := R.frames, locals := R.locals, cells := 1, slots := 6 }) (Nat.le_refl _) (Nat.le_refl _) hRcells hRslots
  obtain ⟨s', hA⟩ : ∃ z, z = (T.setVm s.vm).setFrames (.invoking m args :: below) := ⟨_, rfl⟩
  rw [← hA] at Y
  have hvm : s'.vm = s.vm := by rw [hA]; rfl
  have hhp : s'.heap = H := by rw [hA]; exact hT
  have hW0 : s.WarmedH s'.vm := by rw [hvm]; exact State.WarmedH.refl s
  have hat' : ∀ w ∈ vx_at0 own ic cls names, w.before args s' = true := fun w hw => vx_ot_at hW0 hvm.symm (hgood w (List.mem_cons_of_mem _ (List.mem_cons_of_mem _ hw))) (hat w hw)
  have hk' : (Cond.classLink own ik cls).before args s' = true := vx_ot_at hW0 hvm.symm (hgood _ List.mem_cons_self) hk
  have hini' : (Cond.initialized cls).before args s' = true := vx_ot_at hW0 hvm.symm (hgood _ (List.mem_cons_of_mem _ List.mem_cons_self)) hini
  have hU' : vx_Zq Bundle.tN "UNASSIGNED_STACK" Bundle.steD A s' s'.heap := by rw [hhp]; exact vx_Zq.moved hW0.alike (hU.kept hS.2.1)
  have hN' : vx_Zq Bundle.tN "SUPPRESSED_SENTINEL" Bundle.listD A s' s'.heap := by rw [hhp]; exact vx_Zq.moved hW0.alike (hN.kept hS.2.1)
  have h : ∀ w ∈ Bundle.ownAtoms0 own ic cls names, w.before args s' = true := vx_own hat' (vx_isRefq hU'.1) (vx_isRefq hN'.1) hU'.2.word hN'.2.word
  have hown' : s'.vm.findClass own = some m.cls := by rw [hvm]; exact hown
  have hins : (Cond.instantiable cls 6).before args s' = true := h _ (by simp [Bundle.ownAtoms0])
  obtain ⟨vm₁, cX, kX, hfX, hkX, -, -, X₁, st1⟩ := Y.newCold hexec (own := own) (C := cls) (index := ik) (n := 6) hown' hk' hins hini'
    (g := F0 m pc ls rest) rfl (by rw [hb]; exact d0) (Nat.le_refl _) (Nat.le_refl _)
  generalize hT1 : (T.setVm vm₁).pushCell { cls := cX, slots := kX.instanceTypes.map defaultValue, vm := .none } = T1 at X₁ st1
  have hcat : (Value.ref T.heap.size).category = 1 := rfl
  have hcellA : T1.heap[T.heap.size]? = some (freshCell cX kX) := by rw [← hT1]; exact State.heap_pushCell_size _ _
  have d3' : decode c.code (pc + 3) = .ok (.dup, 1) := by rw [hb]; exact d3
  obtain ⟨U, hsteps, hrun, hend, hW, hsame, ce, hce, hO⟩ := X₁.ctorThrow0 hexec htr (own := own) (cls := cls) (names := names) (ic := ic) hown' hcls hnames h (fun x hx => nomatch hx) hfX hkX hcellA (by rw [hhp, hT]; exact Nat.le_refl _)
    (g := { method := m, pc := pc + 4, locals := ls, stack := .ref T.heap.size :: .ref T.heap.size :: rest, locked := none }) rfl hsize rfl rfl (rest := rest) rfl
    (by rw [hb]; exact d4) (by rw [hb]; exact d7) hout hRframes (by simp only [List.map_cons, List.sum_cons, hcat]; omega) hlocks
  obtain ⟨f1, f2⟩ := vx_frame hsame
  rw [hhp] at f1 f2
  have hWs : s.WarmedH U.vm := State.WarmedH.trans hW0 hW
  have hcl : s.vm.findClass cls = some ce.cls := by
    have h9 := hO.cls
    rw [hvm] at h9
    exact h9
  have hall : s.sameButNew ({ U with vm := s.vm } : State) locs mc ms := by
    subst hA
    obtain ⟨e1, e2⟩ := hsame
    rw [State.setFrames_setFrames] at e1
    have h2 : (T.setVm s.vm).sameButNew ({ U with vm := s.vm } : State) [] (0 + 1) (0 + 6) := ⟨e1, e2⟩
    have h3 := X.same.trans h2
    rw [List.append_nil] at h3
    exact h3.mono hc hs
  refine ⟨U, ?_, .threw T.heap.size, hrun, hend, Or.inr ⟨T.heap.size, rfl, cls, ce, locs, hx U hWs.alike f1 (fun q hq => f2 q hq (fun z hz => nomatch hz)), hce, hO.vm, hcl, hWs, hall, hf⟩⟩
  refine st1 _ ?_
  show Steps p.tables e below (T1.setTop { method := m, pc := pc + 3, locals := ls, stack := .ref T.heap.size :: rest, locked := none }) _
  jvm_step X₁.here [X₁.here.top, hexec, d3', Value.category]
  exact hsteps
/-- 'throw new E("text")': new; dup; ldc; invokespecial; athrow -/
theorem vx_throwS {cc : ByteArray} {pc : Nat} (hexec : p.tables.exec = Jvm.exec) (hb : c.code = cc) (hl : l.stackTraces = false) {own cls text : String} {names : List String} {ik is ic mc ms sa : Nat} {A : Nat → Prop}
    (hown : s.vm.findClass own = some m.cls) (hcls : Bundle.fit cls = true) (hnames : ∀ n ∈ names, Bundle.fit n = true)
    (hk : (Cond.classLink own ik cls).before args s = true) (hini : (Cond.initialized cls).before args s = true) (hstr : vk_R own is text sa s) (hat : ∀ w ∈ vx_atS own ic cls names, w.before args s = true)
    (hgood : ∀ w ∈ Cond.classLink own ik cls :: Cond.initialized cls :: vx_atS own ic cls names, vx_ot w = true)
    (hU : vx_Zq Bundle.tN "UNASSIGNED_STACK" Bundle.steD A s s.heap) (hN : vx_Zq Bundle.tN "SUPPRESSED_SENTINEL" Bundle.listD A s s.heap) (hS : va_S A s.heap H locs) (hsize : ls.size = c.maxLocals)
    (d0 : decode cc pc = .ok (.new ik, 3)) (d3 : decode cc (pc + 3) = .ok (.dup, 1)) (d4 : decode cc (pc + 4) = .ok (.ldc is, 2)) (d6 : decode cc (pc + 6) = .ok (.invokespecial ic, 3)) (d9 : decode cc (pc + 9) = .ok (.athrow, 1))
    (hout : ∀ x ∈ c.exceptionTable.toList, covers x (pc + 9) = false)
    (hRframes : names.length + 3 < R.frames) (hRlocals : (rest.map fun v => v.category).sum + (13 * (names.length + 1) + 43) ≤ R.locals) (hRcells : cells + 1 ≤ R.cells) (hRslots : slots + 6 ≤ R.slots) (hlocks : meth.locks = false)
    (hx : ∀ t : State, s.vm.Alike t.vm → H.size ≤ t.heap.size → (∀ q : Nat, q < H.size → t.heap[q]? = H[q]?) → XC cls s t)
    (hf : ∀ z ∈ locs, free z.base) (hc : cells + 1 ≤ mc) (hs : slots + 6 ≤ ms) :
    W p l e R s m args below meth c H locs cells slots (vx_MQ below Qc XC args s mc ms free) (F0 m pc ls rest) := by
  intro T hT X
  have htr : e.platform.stackTraces = false := (show e.platform.stackTraces = l.stackTraces by rw [X.admits.platform]).trans hl
  have Y := vx_rebase X (R' := { frames := R.frames, locals := R.locals, cells := 1, slots := 6 }) (Nat.le_refl _) (Nat.le_refl _) hRcells hRslots
  obtain ⟨s', hA⟩ : ∃ z, z = (T.setVm s.vm).setFrames (.invoking m args :: below) := ⟨_, rfl⟩
  rw [← hA] at Y
  have hvm : s'.vm = s.vm := by rw [hA]; rfl
  have hhp : s'.heap = H := by rw [hA]; exact hT
  have hW0 : s.WarmedH s'.vm := by rw [hvm]; exact State.WarmedH.refl s
  have hat' : ∀ w ∈ vx_atS own ic cls names, w.before args s' = true := fun w hw => vx_ot_at hW0 hvm.symm (hgood w (List.mem_cons_of_mem _ (List.mem_cons_of_mem _ hw))) (hat w hw)
  have hk' : (Cond.classLink own ik cls).before args s' = true := vx_ot_at hW0 hvm.symm (hgood _ List.mem_cons_self) hk
  have hini' : (Cond.initialized cls).before args s' = true := vx_ot_at hW0 hvm.symm (hgood _ (List.mem_cons_of_mem _ List.mem_cons_self)) hini
  have hU' : vx_Zq Bundle.tN "UNASSIGNED_STACK" Bundle.steD A s' s'.heap := by rw [hhp]; exact vx_Zq.moved hW0.alike (hU.kept hS.2.1)
  have hN' : vx_Zq Bundle.tN "SUPPRESSED_SENTINEL" Bundle.listD A s' s'.heap := by rw [hhp]; exact vx_Zq.moved hW0.alike (hN.kept hS.2.1)
  have h : ∀ w ∈ Bundle.ownAtoms own ic cls names, w.before args s' = true := vx_own hat' (vx_isRefq hU'.1) (vx_isRefq hN'.1) hU'.2.word hN'.2.word
  have hown' : s'.vm.findClass own = some m.cls := by rw [hvm]; exact hown
  have hins : (Cond.instantiable cls 6).before args s' = true := h _ (by simp [Bundle.ownAtoms])
  obtain ⟨vm₁, cX, kX, hfX, hkX, -, -, X₁, st1⟩ := Y.newCold hexec (own := own) (C := cls) (index := ik) (n := 6) hown' hk' hins hini'
    (g := F0 m pc ls rest) rfl (by rw [hb]; exact d0) (Nat.le_refl _) (Nat.le_refl _)
  generalize hT1 : (T.setVm vm₁).pushCell { cls := cX, slots := kX.instanceTypes.map defaultValue, vm := .none } = T1 at X₁ st1
  have hcat : (Value.ref T.heap.size).category = 1 := rfl
  have hcellA : T1.heap[T.heap.size]? = some (freshCell cX kX) := by rw [← hT1]; exact State.heap_pushCell_size _ _
  have d3' : decode c.code (pc + 3) = .ok (.dup, 1) := by rw [hb]; exact d3
  have d4' : decode c.code (pc + 4) = .ok (.ldc is, 2) := by rw [hb]; exact d4
  have hstr' : vk_R own is text sa s' := vk_R.warm hW0 hstr
  obtain ⟨U, hsteps, hrun, hend, hW, hsame, ce, hce, hO⟩ := X₁.ctorThrowS hexec htr (own := own) (cls := cls) (names := names) (ic := ic) hown' hcls hnames h (fun x hx => nomatch hx) hfX hkX hcellA (by rw [hhp, hT]; exact Nat.le_refl _) (msg := .ref sa) rfl
    (g := { method := m, pc := pc + 6, locals := ls, stack := .ref sa :: .ref T.heap.size :: .ref T.heap.size :: rest, locked := none }) rfl hsize rfl rfl (rest := rest) rfl
    (by rw [hb]; exact d6) (by rw [hb]; exact d9) hout hRframes (by simp only [List.map_cons, List.sum_cons, hcat]; omega) hlocks
  obtain ⟨f1, f2⟩ := vx_frame hsame
  rw [hhp] at f1 f2
  have hWs : s.WarmedH U.vm := State.WarmedH.trans hW0 hW
  have hcl : s.vm.findClass cls = some ce.cls := by
    have h9 := hO.cls
    rw [hvm] at h9
    exact h9
  have hall : s.sameButNew ({ U with vm := s.vm } : State) locs mc ms := by
    subst hA
    obtain ⟨e1, e2⟩ := hsame
    rw [State.setFrames_setFrames] at e1
    have h2 : (T.setVm s.vm).sameButNew ({ U with vm := s.vm } : State) [] (0 + 1) (0 + 6) := ⟨e1, e2⟩
    have h3 := X.same.trans h2
    rw [List.append_nil] at h3
    exact h3.mono hc hs
  refine ⟨U, ?_, .threw T.heap.size, hrun, hend, Or.inr ⟨T.heap.size, rfl, cls, ce, locs, hx U hWs.alike f1 (fun q hq => f2 q hq (fun z hz => nomatch hz)), hce, hO.vm, hcl, hWs, hall, hf⟩⟩
  refine st1 _ ?_
  show Steps p.tables e below (T1.setTop { method := m, pc := pc + 3, locals := ls, stack := .ref T.heap.size :: rest, locked := none }) _
  jvm_step X₁.here [X₁.here.top, hexec, d3', Value.category]
  exact X₁.ldcString hexec (own := own) (text := text) (index := is) (a := sa) hown' hstr'.1 hstr'.2
    (g := { method := m, pc := pc + 4, locals := ls, stack := .ref T.heap.size :: .ref T.heap.size :: rest, locked := none }) rfl d4' _ hsteps
/-- 'throw new E("text")', the text by a wide index -/
theorem vx_throwSW {cc : ByteArray} {pc : Nat} (hexec : p.tables.exec = Jvm.exec) (hb : c.code = cc) (hl : l.stackTraces = false) {own cls text : String} {names : List String} {ik is ic mc ms sa : Nat} {A : Nat → Prop}
    (hown : s.vm.findClass own = some m.cls) (hcls : Bundle.fit cls = true) (hnames : ∀ n ∈ names, Bundle.fit n = true)
    (hk : (Cond.classLink own ik cls).before args s = true) (hini : (Cond.initialized cls).before args s = true) (hstr : vk_R own is text sa s) (hat : ∀ w ∈ vx_atS own ic cls names, w.before args s = true)
    (hgood : ∀ w ∈ Cond.classLink own ik cls :: Cond.initialized cls :: vx_atS own ic cls names, vx_ot w = true)
    (hU : vx_Zq Bundle.tN "UNASSIGNED_STACK" Bundle.steD A s s.heap) (hN : vx_Zq Bundle.tN "SUPPRESSED_SENTINEL" Bundle.listD A s s.heap) (hS : va_S A s.heap H locs) (hsize : ls.size = c.maxLocals)
    (d0 : decode cc pc = .ok (.new ik, 3)) (d3 : decode cc (pc + 3) = .ok (.dup, 1)) (d4 : decode cc (pc + 4) = .ok (.ldc_w is, 3)) (d7 : decode cc (pc + 7) = .ok (.invokespecial ic, 3)) (d10 : decode cc (pc + 10) = .ok (.athrow, 1))
    (hout : ∀ x ∈ c.exceptionTable.toList, covers x (pc + 10) = false)
    (hRframes : names.length + 3 < R.frames) (hRlocals : (rest.map fun v => v.category).sum + (13 * (names.length + 1) + 43) ≤ R.locals) (hRcells : cells + 1 ≤ R.cells) (hRslots : slots + 6 ≤ R.slots) (hlocks : meth.locks = false)
    (hx : ∀ t : State, s.vm.Alike t.vm → H.size ≤ t.heap.size → (∀ q : Nat, q < H.size → t.heap[q]? = H[q]?) → XC cls s t)
    (hf : ∀ z ∈ locs, free z.base) (hc : cells + 1 ≤ mc) (hs : slots + 6 ≤ ms) :
    W p l e R s m args below meth c H locs cells slots (vx_MQ below Qc XC args s mc ms free) (F0 m pc ls rest) := by
  intro T hT X
  have htr : e.platform.stackTraces = false := (show e.platform.stackTraces = l.stackTraces by rw [X.admits.platform]).trans hl
  have Y := vx_rebase X (R' := { frames := R.frames, locals := R.locals, cells := 1, slots := 6 }) (Nat.le_refl _) (Nat.le_refl _) hRcells hRslots
  obtain ⟨s', hA⟩ : ∃ z, z = (T.setVm s.vm).setFrames (.invoking m args :: below) := ⟨_, rfl⟩
  rw [← hA] at Y
  have hvm : s'.vm = s.vm := by rw [hA]; rfl
  have hhp : s'.heap = H := by rw [hA]; exact hT
  have hW0 : s.WarmedH s'.vm := by rw [hvm]; exact State.WarmedH.refl s
  have hat' : ∀ w ∈ vx_atS own ic cls names, w.before args s' = true := fun w hw => vx_ot_at hW0 hvm.symm (hgood w (List.mem_cons_of_mem _ (List.mem_cons_of_mem _ hw))) (hat w hw)
  have hk' : (Cond.classLink own ik cls).before args s' = true := vx_ot_at hW0 hvm.symm (hgood _ List.mem_cons_self) hk
  have hini' : (Cond.initialized cls).before args s' = true := vx_ot_at hW0 hvm.symm (hgood _ (List.mem_cons_of_mem _ List.mem_cons_self)) hini
  have hU' : vx_Zq Bundle.tN "UNASSIGNED_STACK" Bundle.steD A s' s'.heap := by rw [hhp]; exact vx_Zq.moved hW0.alike (hU.kept hS.2.1)
  have hN' : vx_Zq Bundle.tN "SUPPRESSED_SENTINEL" Bundle.listD A s' s'.heap := by rw [hhp]; exact vx_Zq.moved hW0.alike (hN.kept hS.2.1)
  have h : ∀ w ∈ Bundle.ownAtoms own ic cls names, w.before args s' = true := vx_own hat' (vx_isRefq hU'.1) (vx_isRefq hN'.1) hU'.2.word hN'.2.word
  have hown' : s'.vm.findClass own = some m.cls := by rw [hvm]; exact hown
  have hins : (Cond.instantiable cls 6).before args s' = true := h _ (by simp [Bundle.ownAtoms])
  obtain ⟨vm₁, cX, kX, hfX, hkX, -, -, X₁, st1⟩ := Y.newCold hexec (own := own) (C := cls) (index := ik) (n := 6) hown' hk' hins hini'
    (g := F0 m pc ls rest) rfl (by rw [hb]; exact d0) (Nat.le_refl _) (Nat.le_refl _)
  generalize hT1 : (T.setVm vm₁).pushCell { cls := cX, slots := kX.instanceTypes.map defaultValue, vm := .none } = T1 at X₁ st1
  have hcat : (Value.ref T.heap.size).category = 1 := rfl
  have hcellA : T1.heap[T.heap.size]? = some (freshCell cX kX) := by rw [← hT1]; exact State.heap_pushCell_size _ _
  have d3' : decode c.code (pc + 3) = .ok (.dup, 1) := by rw [hb]; exact d3
  have d4' : decode c.code (pc + 4) = .ok (.ldc_w is, 3) := by rw [hb]; exact d4
  have hstr' : vk_R own is text sa s' := vk_R.warm hW0 hstr
  obtain ⟨U, hsteps, hrun, hend, hW, hsame, ce, hce, hO⟩ := X₁.ctorThrowS hexec htr (own := own) (cls := cls) (names := names) (ic := ic) hown' hcls hnames h (fun x hx => nomatch hx) hfX hkX hcellA (by rw [hhp, hT]; exact Nat.le_refl _) (msg := .ref sa) rfl
    (g := { method := m, pc := pc + 7, locals := ls, stack := .ref sa :: .ref T.heap.size :: .ref T.heap.size :: rest, locked := none }) rfl hsize rfl rfl (rest := rest) rfl
    (by rw [hb]; exact d7) (by rw [hb]; exact d10) hout hRframes (by simp only [List.map_cons, List.sum_cons, hcat]; omega) hlocks
  obtain ⟨f1, f2⟩ := vx_frame hsame
  rw [hhp] at f1 f2
  have hWs : s.WarmedH U.vm := State.WarmedH.trans hW0 hW
  have hcl : s.vm.findClass cls = some ce.cls := by
    have h9 := hO.cls
    rw [hvm] at h9
    exact h9
  have hall : s.sameButNew ({ U with vm := s.vm } : State) locs mc ms := by
    subst hA
    obtain ⟨e1, e2⟩ := hsame
    rw [State.setFrames_setFrames] at e1
    have h2 : (T.setVm s.vm).sameButNew ({ U with vm := s.vm } : State) [] (0 + 1) (0 + 6) := ⟨e1, e2⟩
    have h3 := X.same.trans h2
    rw [List.append_nil] at h3
    exact h3.mono hc hs
  refine ⟨U, ?_, .threw T.heap.size, hrun, hend, Or.inr ⟨T.heap.size, rfl, cls, ce, locs, hx U hWs.alike f1 (fun q hq => f2 q hq (fun z hz => nomatch hz)), hce, hO.vm, hcl, hWs, hall, hf⟩⟩
  refine st1 _ ?_
  show Steps p.tables e below (T1.setTop { method := m, pc := pc + 3, locals := ls, stack := .ref T.heap.size :: rest, locked := none }) _
  jvm_step X₁.here [X₁.here.top, hexec, d3', Value.category]
  exact X₁.ldcStringW hexec (own := own) (text := text) (index := is) (a := sa) hown' hstr'.1 hstr'.2
    (g := { method := m, pc := pc + 4, locals := ls, stack := .ref T.heap.size :: .ref T.heap.size :: rest, locked := none }) rfl d4' _ hsteps
end Ends
section Bodies
variable {l : Launch}
theorem vx_ofW {y : MethodName} {ws ws' : List Cond} {rm : Room} {Pc : Array Value → State → Prop} {Qc : Array Value → State → Outcome → State → Prop} {XC : String → State → State → Prop} {mc ms : Nat} {free : Addr → Prop} {cc : ByteArray} {maxL : Nat} {ret : Option FieldType}
    (hy : plainName y.cls = true) (hw : ws = Cond.code y cc maxL ret :: ws')
    (body : ∀ p e s m args below meth c s₁, BodyLoose p l y (headSpec ws rm) cc maxL ret e s m args below meth c s₁ → c.maxLocals = maxL → (∀ x ∈ c.exceptionTable.toList, False) → Pc args s →
      W p l e (headSpec ws rm).room s m args below meth c s.heap [] 0 0 (vx_MQ below Qc XC args s mc ms free) (entryFrame m args maxL)) : vx_Met l y ws rm Pc Qc XC mc ms free := by
  refine MetFree.of_bodyS (code := cc) (maxLocals := maxL) (ret := ret) hy ?_ ?_
  · intro args s m h hn
    obtain ⟨meth, c, h1, h2, h3, h4, h5, h6, -, -⟩ := Cond.code_spec hn (atoms_spec (ws := ws) h _ (by rw [hw]; exact List.mem_cons_self))
    exact ⟨meth, c, h1, h2, h3, h4, h5, h6⟩
  · intro p e s m args below meth c s₁ B hml hP _
    have hh0 : s₁.heap = s.heap := by rw [B.state]; rfl
    have ht : ∀ x ∈ c.exceptionTable.toList, False := by
      obtain ⟨meth9, c9, h1, h2, -, -, -, -, h7, -⟩ := Cond.code_spec B.named (atoms_spec (ws := ws) B.pre _ (by rw [hw]; exact List.mem_cons_self))
      cases Option.some.inj (h1.symm.trans B.method)
      cases Option.some.inj (h2.symm.trans (Stand.of_body B).code)
      intro x hx
      rw [Array.isEmpty_iff.mp h7] at hx
      cases hx
    obtain ⟨t, a1, o, b1, b2, b3⟩ := body p e s m args below meth c s₁ B hml ht hP s₁ hh0 (Stand.of_body B)
    exact ⟨t, o, a1, b1, b2, b3⟩
/-- the table of a body with handlers -/
theorem vx_table {p : Program} {x y : MethodName} {S : Spec} {cc bytes : ByteArray} {maxL maxL' : Nat} {ret ret' : Option FieldType} {e : Env} {s s₁ : State} {m : MethodId} {args : Array Value} {below : List Frame} {meth : Method} {c : Code} {hh : List (Nat × Nat × Nat × Nat)}
    (B : BodyLoose p l y S cc maxL ret e s m args below meth c s₁) (h : (Cond.codeWith y bytes maxL' ret' hh).before args s = true) : c.exceptionTable.toList = tableOf hh := by
  obtain ⟨m9, meth9, c9, hn9, h1, h2, -, -, h6, -⟩ := Cond.codeWith_spec h
  cases Option.some.inj (hn9.symm.trans B.named)
  cases Option.some.inj (h1.symm.trans B.method)
  cases Option.some.inj (h2.symm.trans (Stand.of_body B).code)
  rw [← h6, table_eq]
end Bodies
end VXA
/-! ===== END ===== -/
/-! ===== BEGIN a static call of a method with an exception table ===== -/
section VXS
variable {p : Program} {l : Launch} {e : Env} {R : Room} {s : State} {m : MethodId} {args : Array Value} {below : List Frame} {meth : Method} {c : Code} {T : State} {H : Heap} {locs : List Loc} {cells slots : Nat}
abbrev vx_CSW (R : Room) (s : State) (args : Array Value) (own : String) (index : Nat) (y : MethodName) (bytes : ByteArray) (maxL : Nat) (ret : Option FieldType) (hh : List (Nat × Nat × Nat × Nat)) (ws : List Cond) (rm : Room) (mc ms n : Nat) : Prop :=
  (rm.cells = mc ∧ rm.slots = ms ∧ rm.frames + 1 ≤ R.frames ∧ 8 + (maxL + 11) + rm.locals ≤ R.locals ∧ (∀ w ∈ ws, ∀ (a' : Array Value) (U : State), s.WarmedH U.vm → w.before a' U = true) ∧ Cond.codeWith y bytes maxL ret hh ∈ ws) ∧
  (Cond.codeWith y bytes maxL ret hh).before args s = true ∧ (Cond.initialized y.cls).before args s = true ∧ (y.cls ≠ "java/lang/invoke/MethodHandle" ∧ y.cls ≠ "java/lang/invoke/VarHandle") ∧
  (∀ sig, parseMethodDescriptor y.desc = some sig → n = sig.parameters.length) ∧ (Cond.methodLink own index y).before args s = true ∧ (Cond.static y).before args s = true
theorem vx_cwSW {own : String} {index maxL mc ms : Nat} {y : MethodName} {bytes : ByteArray} {ret : Option FieldType} {hh : List (Nat × Nat × Nat × Nat)} {Ts ws ws' : List Cond} {rm : Room} (n : Nat) (ht : ∀ w ∈ Ts, w.before args s = true) (hT : GoodIn Ts (va_wsS own index y ws)) (hw : ws = Cond.codeWith y bytes maxL ret hh :: ws') (hrc : rm.cells = mc) (hrs : rm.slots = ms)
    (hd : y.cls ≠ "java/lang/invoke/MethodHandle" ∧ y.cls ≠ "java/lang/invoke/VarHandle" ∧ (parseMethodDescriptor y.desc).map (fun d => d.parameters.length) = some n) (hR : rm.frames + 1 ≤ R.frames ∧ 8 + (maxL + 11) + rm.locals ≤ R.locals) :
    vx_CSW R s args own index y bytes maxL ret hh ws rm mc ms n := by
  have ok : ∀ w ∈ va_wsS own index y ws, w.before args s = true := fun w h => ht w (hT w h).1
  have hG : GoodIn Ts ws := fun w h => hT w (by unfold va_wsS; exact List.mem_append_right _ h)
  have hc : Cond.codeWith y bytes maxL ret hh ∈ ws := by rw [hw]; exact List.mem_cons_self
  refine ⟨⟨hrc, hrs, hR.1, hR.2, pay_in ht hG, hc⟩, ht _ (hG _ hc).1, ok _ (by simp [va_wsS]), ⟨hd.1, hd.2.1⟩, fun sig h => ?_, ok _ (by simp [va_wsS]), ok _ (by simp [va_wsS])⟩
  have h2 := hd.2.2
  rw [h] at h2
  exact (Option.some.inj h2).symm
theorem vx_callSW (X : Stand p l e R s m args below meth c T locs cells slots) (hexec : p.tables.exec = Jvm.exec) {own : String} {index : Nat} {y : MethodName} {bytes : ByteArray} {maxL : Nat} {ret : Option FieldType} {hh : List (Nat × Nat × Nat × Nat)}
    (hown : s.vm.findClass own = some m.cls) (hlink : (Cond.methodLink own index y).before args s = true) (hstat : (Cond.static y).before args s = true) (hinit : (Cond.initialized y.cls).before args s = true)
    (hcode : (Cond.codeWith y bytes maxL ret hh).before args s = true) (hy : y.cls ≠ "java/lang/invoke/MethodHandle" ∧ y.cls ≠ "java/lang/invoke/VarHandle")
    {W9 : Nat} {Pre : Pt → Array Value → Prop} {Post : Pt → Array Value → Option Value → Pt → Prop} (hK : Back l R p e below s args y 3 W9 Pre Post)
    {g : JFrame} (hg : g.method = m) (hsize : g.locals.size = c.maxLocals) {argsL rest : List Value} (hlen : ∀ sig, parseMethodDescriptor y.desc = some sig → argsL.length = sig.parameters.length)
    (hstack : g.stack = argsL.reverse ++ rest) (hW : 2 * g.monitorRoom + (rest.map fun v => v.category).sum ≤ W9) (hdg : decode c.code g.pc = .ok (.invokestatic index, 3))
    (hpre : ∀ vm₁, s.WarmedH vm₁ → Pre ⟨T.setVm vm₁, locs, cells, slots⟩ argsL.toArray) :
    ∃ (v : Option Value) (vm₁ : Vm) (B : Pt), s.WarmedH vm₁ ∧ Stand p l e R s m args below meth c B.U B.locs B.cells B.slots ∧ Post ⟨T.setVm vm₁, locs, cells, slots⟩ argsL.toArray v B ∧
      ∀ target, Steps p.tables e below (B.U.setTop { g with pc := g.pc + 3, stack := v.toList ++ rest }) target → Steps p.tables e below (T.setTop g) target := by
  obtain ⟨mk, methM, cM, hnamed, hmethM, -, -, -, -, -, -, hsigM⟩ := Cond.codeWith_spec hcode
  have hstatic : methM.isStatic = true := Cond.static_spec hnamed hmethM hstat
  obtain ⟨kP, hkP, -⟩ := className_of_methodNamed hnamed
  have hinitP : kP.init = .initialized := Cond.initialized_spec (findClass_of_methodNamed hnamed) hkP hinit
  obtain ⟨vm₁, X₁, hstep₁⟩ := X.invokestatic hexec hown hlink hnamed hmethM hstatic hkP hinitP hy (g := g) hg (argsL := argsL) (rest := rest) (hlen _ hsigM) hstack hdg
  obtain ⟨v, B, X', hpost, hsteps⟩ := hK m meth c ⟨T.setVm vm₁, locs, cells, slots⟩ { g with stack := rest } (.invokestatic index) mk argsL.toArray X₁ hg hsize hdg hW (X₁.named hnamed) (hpre vm₁ X₁.warmed)
  exact ⟨v, vm₁, B, X₁.warmed, X', hpost, fun target h => hstep₁ _ fun acts => by rw [doInvoke_state]; exact hsteps.trans h⟩
theorem vx_runSW {y : MethodName} {bytes cc : ByteArray} {maxL nL mc ms n index : Nat} {ret : Option FieldType} {hh : List (Nat × Nat × Nat × Nat)} {ws : List Cond} {rm : Room} {Pc : Array Value → State → Prop} {Qc : Array Value → State → Outcome → State → Prop} {free : Addr → Prop} {Ts : List Cond} {own : String} {As rest : List Value} {g : JFrame}
    (S : CallFix p m c cc nL s args Ts own) (hM : Met l y ws rm Pc Qc mc ms free) (cw : vx_CSW R s args own index y bytes maxL ret hh ws rm mc ms n) (hp : PreS s H Pc As)
    (hg : g.method = m) (hn : As.length = n) (hsize : g.locals.size = nL) (hstack : g.stack = As.reverse ++ rest) (hW : 2 * g.monitorRoom + (rest.map fun v => v.category).sum ≤ 8) (hdg : decode cc g.pc = .ok (.invokestatic index, 3)) (hf : cells + mc ≤ R.cells ∧ slots + ms ≤ R.slots) :
    va_Run p l e R s m args below meth c H locs cells slots mc ms g rest (Qc As.toArray) (free) := by
  obtain ⟨⟨hrc, hrs, hfr, hlo, hws, hcw⟩, hcode, hini, hy, hlen, hl, hstt⟩ := cw
  have hK : Back l R p e below s args y 3 8 (PreOf R mc ms Pc) (PostOf Qc mc ms free) := va_backW (hh := hh) (bytes := bytes) (maxL := maxL) (ret := ret) hM hp.1 hrc hrs hfr hlo hws hcw (fun a' U hW => word_at hW (Or.inl (by first | rfl | simp [Cond.onTables, Cond.keeps, Cond.steady])) hini)
  obtain ⟨hx, hb, hml, ho, -⟩ := S
  intro T hT X
  obtain ⟨v, vm₁, ⟨U', l2, c2, s2⟩, hW₁, X', ⟨g', mk, t, L, e1, e2, hq, h1, hL, h2, h3⟩, st⟩ := vx_callSW X hx (hh := hh) (bytes := bytes) (maxL := maxL) (ret := ret) ho hl hstt hini hcode hy hK hg (hsize.trans hml.symm) (argsL := As) (rest := rest) (fun sig h => hn.trans (hlen sig h)) hstack hW (by rw [hb]; exact hdg)
    (fun vm₁ hW₁ => ⟨hf.1, hf.2, hp.2 (T.setVm vm₁) hT hW₁⟩)
  dsimp only [Pt.U, Pt.locs, Pt.cells, Pt.slots] at X' e1 e2 h1 h2 h3 st
  subst h1; subst h2; subst h3
  exact ⟨v, (T.setVm vm₁).calling g' mk As.toArray, t, U', L, hT, X', hL, e1, e2, hq, st⟩
/-- not caught here, past rows that name other classes: it goes on to the caller -/
theorem vx_outP {p : Program} {l : Launch} {e : Env} {R : Room} {s : State} {m : MethodId} {args : Array Value} {below : List Frame} {meth : Method} {c : Code} {H : Heap} {locs : List Loc} {cells slots : Nat} {free : Addr → Prop} {ls : Array Slot} {rest : List Value} {Qc : Array Value → State → Outcome → State → Prop} {XC : String → State → State → Prop}
    {pc : Nat} {own E : String} {ce : Cell} {q : Addr} {mc ms : Nat} (hown : s.vm.findClass own = some m.cls) (hlocks : meth.locks = false)
    (hpass : ∀ z ∈ c.exceptionTable.toList, covers z pc = false ∨ (z.catchType ≠ 0 ∧ ∃ nm : String, (Cond.classLink own z.catchType nm).before args s = true ∧ va_Nc E nm s)) (hcell : H[q]? = some ce) (hv : ce.vm = .none) (hcl : s.vm.findClass E = some ce.cls)
    (hx : ∀ t : State, t.heap = H → s.vm.Alike t.vm → XC E s t) (hf : ∀ z ∈ locs, free z.base) (hc : cells ≤ mc) (hs : slots ≤ ms) :
    vx_W p l e R s m args below meth c H locs cells slots (vx_MQ below Qc XC args s mc ms free) (F0 m pc ls rest) q := by
  intro T hT X
  have hpl : e.platform.magicAccessors = ({} : Platform).magicAccessors := by rw [X.admits.platform]
  obtain ⟨vm', hW', X', st⟩ := X.outThrough hlocks q (g := F0 m pc ls rest) rfl rfl rfl (cell := ce) (by rw [hT]; exact hcell) (by rw [hv]; rfl)
    (by obtain ⟨k9, h9, -⟩ := Vm.findClass_spec hcl; exact ⟨k9, h9⟩) (fun z hz => by
      rcases hpass z hz with h | ⟨hz0, nm, hl1, hn1⟩
      · exact Or.inl h
      · obtain ⟨c6, hc6, hcl6⟩ := Cond.classLink_spec hown hl1 e.platform hpl
        obtain ⟨a8, b8, h1, h2, h3⟩ := hn1
        cases Option.some.inj (h1.symm.trans hcl)
        cases Option.some.inj (h2.symm.trans hc6)
        exact Or.inr ⟨hz0, _, hcl6, h3⟩)
  obtain ⟨g₀, hfr⟩ := X'.frames_eq
  have hcell9 : ((T.setVm vm').setFrames (.throwing q :: below)).heap[q]? = some ce := by
    show T.heap[q]? = some ce
    rw [hT]; exact hcell
  have hend : Ended ((T.setVm vm').setFrames (.throwing q :: below)) below (.threw q) := State.frames_setFrames _ (State.cur_lt_of_frames hfr)
  refine ⟨(T.setVm vm').setFrames (.throwing q :: below), ?_, .threw q, X'.here.running, hend, Or.inr ⟨q, rfl, E, ce, locs, hx _ hT (X'.ends _).1.alike, hcell9, hv, hcl, (X'.ends _).1, (X'.ends _).2.mono hc hs, hf⟩⟩
  rw [X.pushThrowing_eq]
  exact st
/-- a thing of a world lies in the heap -/
theorem vx_lt {D : va_G} {cl : List vw_C} {ws : va_W} {H1 : Heap} (h : va_P D cl ws H1) {k : Nat} {q : Nat × va_E} (hk : ws[k]? = some q) : q.1 < H1.size := (h k q hk).lt
end VXS
/-! ===== END ===== -/
/-! ===== BEGIN methods with a table of their own: called by a name, returning or throwing ===== -/
section VXH
/-! vx_backW, vx_callVX, vx_callSX, vx_callVW, vx_runVW, vx_runVX, vx_runSX, vx_ofWH follow the same proofs as their sisters above (Free/Laws.lean, Shelf42/LK1.lean); vx_outP calls Shelf42/NT130.lean (outThrough). -/
section
variable {l : Launch} {R : Room} {p : Program} {e : Env} {below : List Frame} {s : State} {sargs : Array Value} {y : MethodName} {len W9 : Nat}
theorem vx_backW {ws : List Cond} {rm : Room} {Pc : Array Value → State → Prop} {Qc : Array Value → State → Outcome → State → Prop} {XC : String → State → State → Prop} {mc ms : Nat} {free : Addr → Prop} {bytes : ByteArray} {maxL : Nat} {ret : Option FieldType} {hh : List (Nat × Nat × Nat × Nat)}
    (hM : vx_Met l y ws rm Pc Qc XC mc ms free) (hblind : FrameBlind Pc) (hrc : rm.cells = mc) (hrs : rm.slots = ms)
    (hframes : rm.frames + 1 ≤ R.frames) (hlocals : W9 + (maxL + 11) + rm.locals ≤ R.locals)
    (hws : ∀ w ∈ ws, ∀ a' U, s.WarmedH U.vm → w.before a' U = true) (hcode : Cond.codeWith y bytes maxL ret hh ∈ ws) (hinit : ∀ a' U, s.WarmedH U.vm → (Cond.initialized y.cls).before a' U = true) :
    vx_Back l R p e below s sargs y len W9 (PreOf R mc ms Pc) (PostOf Qc mc ms free) (vx_Post XC mc ms free) := by
  intro m meth c A g ig mk a X hg hsize hdg hW hn hp
  have h1 : (headSpec ws rm).pre.before a A.U = true := atoms_intro fun w hw => hws w hw _ _ X.warmed
  have h2 : (Cond.codeWith y bytes maxL ret hh).before a A.U = true := hws _ hcode _ _ X.warmed
  have h3 : (Cond.initialized y.cls).before a A.U = true := hinit _ _ X.warmed
  have h4 : A.cells + (headSpec ws rm).room.cells ≤ R.cells := by rw [show (headSpec ws rm).room.cells = mc from hrc]; exact hp.1
  have h5 : A.slots + (headSpec ws rm).room.slots ≤ R.slots := by rw [show (headSpec ws rm).room.slots = ms from hrs]; exact hp.2.1
  have hPc : Pc a (A.U.calling g mk a) := hblind _ _ _ _ hp.2.2
  obtain ⟨U, Ls, c0, s0⟩ := A
  dsimp only [Pt.U, Pt.locs, Pt.cells, Pt.slots] at h1 h2 h3 h4 h5 X hn hPc ⊢
  obtain ⟨m9, methY, cY, hn9, hmY, hcY, -, hlY, -⟩ := Cond.codeWith_spec h2
  cases Option.some.inj (hn9.symm.trans hn)
  obtain ⟨kY, hkY, -⟩ := className_of_methodNamed hn
  have hinitY : kY.init = .initialized := Cond.initialized_spec (findClass_of_methodNamed hn) hkY h3
  have h : At U g.method c below := by rw [hg]; exact X.here
  have hlocals9 : W9 + (maxL + 11) + (headSpec ws rm).room.locals ≤ R.locals := hlocals
  have happ : (headSpec ws rm).appliesLoose y e.platform (U.calling g mk a) = true :=
    Spec.appliesLoose_calling (g := g) h hdg hn hkY hinitY
      (X.room_calling (g := g) (R' := (headSpec ws rm).room) hsize hmY hcY hframes (by rw [hlY]; omega) h4 h5) h1
  obtain ⟨mid, hmid⟩ := h.above
  have hfr : (U.setTop g).frames = (.java g :: mid) ++ below := by rw [State.frames_setTop' g h.top, hmid]; rfl
  obtain ⟨o, s₂, hsteps, -, hend, hq⟩ := Steps.callFree hM p X.admits X.cas X.clock (acts := []) hfr happ hPc trivial
  have hq' : vx_Q Qc XC mc ms free a (U.calling g mk a) o s₂ := hq
  rw [State.frames_setTop' g h.top] at hend
  obtain ⟨g₀, hg0⟩ := Option.isSome_iff_exists.mp h.top
  obtain ⟨r, hr⟩ := State.topJava?_eq_some.mp hg0
  have hr' : (({ U with heap := s₂.heap, slotsUsed := s₂.slotsUsed } : State).setVm s₂.vm).frames = .java g₀ :: r := hr
  rcases hq' with ⟨hqc, L, hfe, hL⟩ | ⟨q, rfl, E, ce, L, hx, hce, hcv, hcl, hW₂, hsm, hL⟩
  · obtain ⟨⟨v, rfl⟩, hW₂, e2, q2, q3, q4, q5, q6⟩ := id hfe
    have e3 : s₂ = ({ (U.calling g mk a).setFrames s₂.frames with heap := s₂.heap, slotsUsed := s₂.slotsUsed } : State).setVm s₂.vm := by
      have : s₂ = ({ s₂ with vm := (U.calling g mk a).vm } : State).setVm s₂.vm := rfl
      rw [e2] at this
      exact this
    obtain ⟨c₂, i₂, len₂, hc₂, hd₂, hf₂⟩ := hend
    have hW' : U.WarmedH s₂.vm := hW₂
    have hcc : c₂ = c := by
      have h1 : s₂.code? g.method = U.code? g.method := by
        rw [State.code?_eq, State.code?_eq, hW'.alike.method?]
      exact Option.some.inj (hc₂.symm.trans (h1.trans h.code))
    subst hcc
    have hlen : len₂ = len := by rw [hdg] at hd₂; cases hd₂; rfl
    subst hlen
    have hs₂ : s₂ = (({ U with heap := s₂.heap, slotsUsed := s₂.slotsUsed } : State).setVm s₂.vm).setTop { g with pc := g.pc + len₂, stack := v.toList ++ g.stack } := by
      refine e3.trans ?_
      rw [hf₂, State.calling_eq h.top, State.setFrames_setFrames, State.setTop_of_frames _ hr', hr]
      rfl
    have hsame : U.sameButNew ({ U with heap := s₂.heap, slotsUsed := s₂.slotsUsed } : State) L mc ms := by
      refine ⟨?_, q2, q3, q4, q5, q6⟩
      obtain ⟨t, ht, -⟩ := State.frames_cons hr
      show ({ U with heap := s₂.heap, slotsUsed := s₂.slotsUsed } : State) = { U.setFrames U.frames with heap := s₂.heap, slotsUsed := s₂.slotsUsed }
      rw [State.setFrames_self ht]
    subst hg
    refine Or.inl ⟨v, ⟨(({ U with heap := s₂.heap, slotsUsed := s₂.slotsUsed } : State).setVm s₂.vm), Ls ++ L, c0 + mc, s0 + ms⟩,
      ⟨X.admits, X.cas, X.clock, X.frames, X.room, X.hears, X.method, X.code, (X.here.setHeapUsed s₂.heap s₂.slotsUsed).setVm hW'.alike, X.tail, State.WarmedH.trans X.warmed hW', X.limits, X.bytes, X.same.trans (hsame.setVm s.vm)⟩,
      ⟨g, mk, s₂, L, rfl, rfl, hqc, rfl, hL, rfl, rfl⟩, ?_⟩
    show Steps p.tables e below _ ((({ U with heap := s₂.heap, slotsUsed := s₂.slotsUsed } : State).setVm s₂.vm).setTop { g with pc := g.pc + len₂, stack := v.toList ++ g.stack })
    rw [← hs₂]
    exact hsteps
  · obtain ⟨e2, q2, q3, q4, q5, q6⟩ := id hsm
    have e3 : s₂ = ({ (U.calling g mk a).setFrames s₂.frames with heap := s₂.heap, slotsUsed := s₂.slotsUsed } : State).setVm s₂.vm := by
      have : s₂ = ({ s₂ with vm := (U.calling g mk a).vm } : State).setVm s₂.vm := rfl
      rw [e2] at this
      exact this
    have hf₂ : s₂.frames = .throwing q :: .java g :: U.frames.tail := hend
    have hW' : U.WarmedH s₂.vm := hW₂
    have hs₂ : s₂ = ((({ U with heap := s₂.heap, slotsUsed := s₂.slotsUsed } : State).setVm s₂.vm).setTop g).pushFrame (.throwing q) := by
      refine e3.trans ?_
      rw [hf₂, State.calling_eq h.top, State.setFrames_setFrames, State.pushFrame, State.frames_setTop _ hr', State.setTop_of_frames _ hr', State.setFrames_setFrames, hr]
      rfl
    have hsame : U.sameButNew ({ U with heap := s₂.heap, slotsUsed := s₂.slotsUsed } : State) L mc ms := by
      refine ⟨?_, q2, q3, q4, q5, q6⟩
      obtain ⟨t, ht, -⟩ := State.frames_cons hr
      show ({ U with heap := s₂.heap, slotsUsed := s₂.slotsUsed } : State) = { U.setFrames U.frames with heap := s₂.heap, slotsUsed := s₂.slotsUsed }
      rw [State.setFrames_self ht]
    subst hg
    refine Or.inr ⟨q, ⟨(({ U with heap := s₂.heap, slotsUsed := s₂.slotsUsed } : State).setVm s₂.vm), Ls ++ L, c0 + mc, s0 + ms⟩,
      ⟨X.admits, X.cas, X.clock, X.frames, X.room, X.hears, X.method, X.code, (X.here.setHeapUsed s₂.heap s₂.slotsUsed).setVm hW'.alike, X.tail, State.WarmedH.trans X.warmed hW', X.limits, X.bytes, X.same.trans (hsame.setVm s.vm)⟩,
      ⟨g, mk, s₂, L, E, ce, rfl, rfl, hx, hce, hcv, hcl, rfl, hL, rfl, rfl⟩, ?_⟩
    show Steps p.tables e below _ (((({ U with heap := s₂.heap, slotsUsed := s₂.slotsUsed } : State).setVm s₂.vm).setTop g).pushFrame (.throwing q))
    rw [← hs₂]
    exact hsteps
end
variable {p : Program} {l : Launch} {e : Env} {R : Room} {s : State} {m : MethodId} {args : Array Value} {below : List Frame} {meth : Method} {c : Code} {T : State} {H : Heap} {locs : List Loc} {cells slots : Nat}
theorem vx_callVX (X : Stand p l e R s m args below meth c T locs cells slots) (hexec : p.tables.exec = Jvm.exec) {own C : String} {index : Nat} {y : MethodName} {bytes : ByteArray} {maxL : Nat} {ret : Option FieldType} {hh : List (Nat × Nat × Nat × Nat)}
    (hown : s.vm.findClass own = some m.cls) (hlink : (Cond.methodLink own index y).before args s = true) (hinst : (Cond.instanceMethod y).before args s = true) (hsel : (Cond.selects C y y).before args s = true)
    (hcode : (Cond.codeWith y bytes maxL ret hh).before args s = true) (hy : y.cls ≠ "java/lang/invoke/MethodHandle" ∧ y.cls ≠ "java/lang/invoke/VarHandle")
    {W9 : Nat} {Pre : Pt → Array Value → Prop} {Post : Pt → Array Value → Option Value → Pt → Prop} {PostX : Pt → Array Value → Addr → Pt → Prop} (hK : vx_Back l R p e below s args y 3 W9 Pre Post PostX)
    {b : Addr} {cellB : Cell} (hcell : T.heap[b]? = some cellB) (hobj : cellB.vm.isStatics = false) (hcls : s.vm.findClass C = some cellB.cls)
    {g : JFrame} (hg : g.method = m) (hsize : g.locals.size = c.maxLocals) {argsL rest : List Value} (hlen : ∀ sig, parseMethodDescriptor y.desc = some sig → argsL.length = sig.parameters.length)
    (hstack : g.stack = argsL.reverse ++ .ref b :: rest) (hW : 2 * g.monitorRoom + (rest.map fun v => v.category).sum ≤ W9) (hdg : decode c.code g.pc = .ok (.invokevirtual index, 3))
    (hpre : ∀ vm₁, s.WarmedH vm₁ → Pre ⟨T.setVm vm₁, locs, cells, slots⟩ (Value.ref b :: argsL).toArray) :
    (∃ (v : Option Value) (vm₁ : Vm) (B : Pt), s.WarmedH vm₁ ∧ Stand p l e R s m args below meth c B.U B.locs B.cells B.slots ∧ Post ⟨T.setVm vm₁, locs, cells, slots⟩ (Value.ref b :: argsL).toArray v B ∧
      ∀ target, Steps p.tables e below (B.U.setTop { g with pc := g.pc + 3, stack := v.toList ++ rest }) target → Steps p.tables e below (T.setTop g) target) ∨
    (∃ (q : Addr) (vm₁ : Vm) (B : Pt), s.WarmedH vm₁ ∧ Stand p l e R s m args below meth c B.U B.locs B.cells B.slots ∧ PostX ⟨T.setVm vm₁, locs, cells, slots⟩ (Value.ref b :: argsL).toArray q B ∧
      Steps p.tables e below (T.setTop g) ((B.U.setTop { g with stack := rest }).pushFrame (.throwing q))) := by
  obtain ⟨mk, methM, hnamed, hmethM, hstM, habM⟩ := Cond.instanceMethod_spec hinst
  obtain ⟨m8, methM', cM, hn8, hmethM', -, -, -, -, -, -, hsigM⟩ := Cond.codeWith_spec hcode
  cases Option.some.inj (hn8.symm.trans hnamed)
  cases hmethM.symm.trans hmethM'
  obtain ⟨c2, r2, m2, q1, q2, q3, q4, kP, hkP, hkPi⟩ := Cond.selects_spec hsel
  cases hcls.symm.trans q1
  cases (State.methodFound?_of_named hnamed hy).symm.trans q2
  cases hnamed.symm.trans q3
  have hselP : selectMethod e.platform s.vm cellB.cls mk = .method mk := by rw [Launch.admits_selectMethod X.admits]; exact q4
  obtain ⟨vm₁, X₁, hstep₁⟩ := X.invokevirtual hexec hown hlink hnamed hmethM hstM hkP hkPi hy (a := b) (cell := cellB) hcell
    (fun z h => by rw [h] at hobj; cases hobj) hselP hmethM habM hkP hkPi (g := g) hg (argsL := argsL) (rest := rest) (hlen _ hsigM) hstack hdg
  rcases hK m meth c ⟨T.setVm vm₁, locs, cells, slots⟩ { g with stack := rest } (.invokevirtual index) mk (Value.ref b :: argsL).toArray X₁ hg hsize hdg hW (X₁.named hnamed) (hpre vm₁ X₁.warmed) with ⟨v, B, X', hpost, hsteps⟩ | ⟨q, B, X', hpost, hsteps⟩
  · exact Or.inl ⟨v, vm₁, B, X₁.warmed, X', hpost, fun target h => hstep₁ _ fun acts => by rw [doInvoke_state]; exact hsteps.trans h⟩
  · exact Or.inr ⟨q, vm₁, B, X₁.warmed, X', hpost, hstep₁ _ fun acts => by rw [doInvoke_state]; exact hsteps⟩
theorem vx_callSX (X : Stand p l e R s m args below meth c T locs cells slots) (hexec : p.tables.exec = Jvm.exec) {own : String} {index : Nat} {y : MethodName} {bytes : ByteArray} {maxL : Nat} {ret : Option FieldType} {hh : List (Nat × Nat × Nat × Nat)}
    (hown : s.vm.findClass own = some m.cls) (hlink : (Cond.methodLink own index y).before args s = true) (hstat : (Cond.static y).before args s = true) (hinit : (Cond.initialized y.cls).before args s = true)
    (hcode : (Cond.codeWith y bytes maxL ret hh).before args s = true) (hy : y.cls ≠ "java/lang/invoke/MethodHandle" ∧ y.cls ≠ "java/lang/invoke/VarHandle")
    {W9 : Nat} {Pre : Pt → Array Value → Prop} {Post : Pt → Array Value → Option Value → Pt → Prop} {PostX : Pt → Array Value → Addr → Pt → Prop} (hK : vx_Back l R p e below s args y 3 W9 Pre Post PostX)
    {g : JFrame} (hg : g.method = m) (hsize : g.locals.size = c.maxLocals) {argsL rest : List Value} (hlen : ∀ sig, parseMethodDescriptor y.desc = some sig → argsL.length = sig.parameters.length)
    (hstack : g.stack = argsL.reverse ++ rest) (hW : 2 * g.monitorRoom + (rest.map fun v => v.category).sum ≤ W9) (hdg : decode c.code g.pc = .ok (.invokestatic index, 3))
    (hpre : ∀ vm₁, s.WarmedH vm₁ → Pre ⟨T.setVm vm₁, locs, cells, slots⟩ argsL.toArray) :
    (∃ (v : Option Value) (vm₁ : Vm) (B : Pt), s.WarmedH vm₁ ∧ Stand p l e R s m args below meth c B.U B.locs B.cells B.slots ∧ Post ⟨T.setVm vm₁, locs, cells, slots⟩ argsL.toArray v B ∧
      ∀ target, Steps p.tables e below (B.U.setTop { g with pc := g.pc + 3, stack := v.toList ++ rest }) target → Steps p.tables e below (T.setTop g) target) ∨
    (∃ (q : Addr) (vm₁ : Vm) (B : Pt), s.WarmedH vm₁ ∧ Stand p l e R s m args below meth c B.U B.locs B.cells B.slots ∧ PostX ⟨T.setVm vm₁, locs, cells, slots⟩ argsL.toArray q B ∧
      Steps p.tables e below (T.setTop g) ((B.U.setTop { g with stack := rest }).pushFrame (.throwing q))) := by
  obtain ⟨mk, methM, cM, hnamed, hmethM, -, -, -, -, -, -, hsigM⟩ := Cond.codeWith_spec hcode
  have hstatic : methM.isStatic = true := Cond.static_spec hnamed hmethM hstat
  obtain ⟨kP, hkP, -⟩ := className_of_methodNamed hnamed
  have hinitP : kP.init = .initialized := Cond.initialized_spec (findClass_of_methodNamed hnamed) hkP hinit
  obtain ⟨vm₁, X₁, hstep₁⟩ := X.invokestatic hexec hown hlink hnamed hmethM hstatic hkP hinitP hy (g := g) hg (argsL := argsL) (rest := rest) (hlen _ hsigM) hstack hdg
  rcases hK m meth c ⟨T.setVm vm₁, locs, cells, slots⟩ { g with stack := rest } (.invokestatic index) mk argsL.toArray X₁ hg hsize hdg hW (X₁.named hnamed) (hpre vm₁ X₁.warmed) with ⟨v, B, X', hpost, hsteps⟩ | ⟨q, B, X', hpost, hsteps⟩
  · exact Or.inl ⟨v, vm₁, B, X₁.warmed, X', hpost, fun target h => hstep₁ _ fun acts => by rw [doInvoke_state]; exact hsteps.trans h⟩
  · exact Or.inr ⟨q, vm₁, B, X₁.warmed, X', hpost, hstep₁ _ fun acts => by rw [doInvoke_state]; exact hsteps⟩
theorem vx_callVW (X : Stand p l e R s m args below meth c T locs cells slots) (hexec : p.tables.exec = Jvm.exec) {own C : String} {index : Nat} {y : MethodName} {bytes : ByteArray} {maxL : Nat} {ret : Option FieldType} {hh : List (Nat × Nat × Nat × Nat)}
    (hown : s.vm.findClass own = some m.cls) (hlink : (Cond.methodLink own index y).before args s = true) (hinst : (Cond.instanceMethod y).before args s = true) (hsel : (Cond.selects C y y).before args s = true)
    (hcode : (Cond.codeWith y bytes maxL ret hh).before args s = true) (hy : y.cls ≠ "java/lang/invoke/MethodHandle" ∧ y.cls ≠ "java/lang/invoke/VarHandle")
    {W9 : Nat} {Pre : Pt → Array Value → Prop} {Post : Pt → Array Value → Option Value → Pt → Prop} (hK : Back l R p e below s args y 3 W9 Pre Post)
    {b : Addr} {cellB : Cell} (hcell : T.heap[b]? = some cellB) (hobj : cellB.vm.isStatics = false) (hcls : s.vm.findClass C = some cellB.cls)
    {g : JFrame} (hg : g.method = m) (hsize : g.locals.size = c.maxLocals) {argsL rest : List Value} (hlen : ∀ sig, parseMethodDescriptor y.desc = some sig → argsL.length = sig.parameters.length)
    (hstack : g.stack = argsL.reverse ++ .ref b :: rest) (hW : 2 * g.monitorRoom + (rest.map fun v => v.category).sum ≤ W9) (hdg : decode c.code g.pc = .ok (.invokevirtual index, 3))
    (hpre : ∀ vm₁, s.WarmedH vm₁ → Pre ⟨T.setVm vm₁, locs, cells, slots⟩ (Value.ref b :: argsL).toArray) :
    ∃ (v : Option Value) (vm₁ : Vm) (B : Pt), s.WarmedH vm₁ ∧ Stand p l e R s m args below meth c B.U B.locs B.cells B.slots ∧ Post ⟨T.setVm vm₁, locs, cells, slots⟩ (Value.ref b :: argsL).toArray v B ∧
      ∀ target, Steps p.tables e below (B.U.setTop { g with pc := g.pc + 3, stack := v.toList ++ rest }) target → Steps p.tables e below (T.setTop g) target := by
  obtain ⟨mk, methM, hnamed, hmethM, hstM, habM⟩ := Cond.instanceMethod_spec hinst
  obtain ⟨m8, methM', cM, hn8, hmethM', -, -, -, -, -, -, hsigM⟩ := Cond.codeWith_spec hcode
  cases Option.some.inj (hn8.symm.trans hnamed)
  cases hmethM.symm.trans hmethM'
  obtain ⟨c2, r2, m2, q1, q2, q3, q4, kP, hkP, hkPi⟩ := Cond.selects_spec hsel
  cases hcls.symm.trans q1
  cases (State.methodFound?_of_named hnamed hy).symm.trans q2
  cases hnamed.symm.trans q3
  have hselP : selectMethod e.platform s.vm cellB.cls mk = .method mk := by rw [Launch.admits_selectMethod X.admits]; exact q4
  obtain ⟨vm₁, X₁, hstep₁⟩ := X.invokevirtual hexec hown hlink hnamed hmethM hstM hkP hkPi hy (a := b) (cell := cellB) hcell
    (fun z h => by rw [h] at hobj; cases hobj) hselP hmethM habM hkP hkPi (g := g) hg (argsL := argsL) (rest := rest) (hlen _ hsigM) hstack hdg
  obtain ⟨v, B, X', hpost, hsteps⟩ := hK m meth c ⟨T.setVm vm₁, locs, cells, slots⟩ { g with stack := rest } (.invokevirtual index) mk (Value.ref b :: argsL).toArray X₁ hg hsize hdg hW (X₁.named hnamed) (hpre vm₁ X₁.warmed)
  exact ⟨v, vm₁, B, X₁.warmed, X', hpost, fun target h => hstep₁ _ fun acts => by rw [doInvoke_state]; exact hsteps.trans h⟩
abbrev vx_CVW (R : Room) (s : State) (args : Array Value) (own C : String) (index : Nat) (y : MethodName) (bytes : ByteArray) (maxL : Nat) (ret : Option FieldType) (hh : List (Nat × Nat × Nat × Nat)) (ws : List Cond) (rm : Room) (mc ms n : Nat) : Prop :=
  (rm.cells = mc ∧ rm.slots = ms ∧ rm.frames + 1 ≤ R.frames ∧ 8 + (maxL + 11) + rm.locals ≤ R.locals ∧ (∀ w ∈ ws, ∀ (a' : Array Value) (U : State), s.WarmedH U.vm → w.before a' U = true) ∧ Cond.codeWith y bytes maxL ret hh ∈ ws) ∧
  (Cond.codeWith y bytes maxL ret hh).before args s = true ∧ (Cond.initialized y.cls).before args s = true ∧ (y.cls ≠ "java/lang/invoke/MethodHandle" ∧ y.cls ≠ "java/lang/invoke/VarHandle") ∧
  (∀ sig, parseMethodDescriptor y.desc = some sig → n = sig.parameters.length) ∧ (Cond.methodLink own index y).before args s = true ∧ (Cond.instanceMethod y).before args s = true ∧ (Cond.selects C y y).before args s = true
theorem vx_cwVW {own C : String} {index maxL mc ms : Nat} {y : MethodName} {bytes : ByteArray} {ret : Option FieldType} {hh : List (Nat × Nat × Nat × Nat)} {Ts ws ws' : List Cond} {rm : Room} (n : Nat) (ht : ∀ w ∈ Ts, w.before args s = true) (hT : GoodIn Ts (wsV own index C y ws)) (hw : ws = Cond.codeWith y bytes maxL ret hh :: ws') (hrc : rm.cells = mc) (hrs : rm.slots = ms)
    (hd : y.cls = C ∧ y.cls ≠ "java/lang/invoke/MethodHandle" ∧ y.cls ≠ "java/lang/invoke/VarHandle" ∧ (parseMethodDescriptor y.desc).map (fun d => d.parameters.length) = some n) (hR : rm.frames + 1 ≤ R.frames ∧ 8 + (maxL + 11) + rm.locals ≤ R.locals) :
    vx_CVW R s args own C index y bytes maxL ret hh ws rm mc ms n := by
  obtain ⟨hC, hd⟩ := hd
  subst hC
  have ok : ∀ w ∈ wsV own index y.cls y ws, w.before args s = true := fun w h => ht w (hT w h).1
  have hG : GoodIn Ts ws := fun w h => hT w (by unfold wsV; exact List.mem_append_right _ h)
  have hc : Cond.codeWith y bytes maxL ret hh ∈ ws := by rw [hw]; exact List.mem_cons_self
  refine ⟨⟨hrc, hrs, hR.1, hR.2, pay_in ht hG, hc⟩, ht _ (hG _ hc).1, ok _ (by simp [wsV]), ⟨hd.1, hd.2.1⟩, fun sig h => ?_, ok _ (by simp [wsV]), ok _ (by simp [wsV]), ok _ (by simp [wsV])⟩
  have h2 := hd.2.2
  rw [h] at h2
  exact (Option.some.inj h2).symm
theorem vx_runVW {y : MethodName} {bytes cc : ByteArray} {maxL nL mc ms n index : Nat} {ret : Option FieldType} {hh : List (Nat × Nat × Nat × Nat)} {ws : List Cond} {rm : Room} {Pc : Array Value → State → Prop} {Qc : Array Value → State → Outcome → State → Prop} {free : Addr → Prop} {Ts : List Cond} {own C : String} {b : Addr} {As rest : List Value} {g : JFrame}
    (S : CallFix p m c cc nL s args Ts own) (hM : Met l y ws rm Pc Qc mc ms free) (cw : vx_CVW R s args own C index y bytes maxL ret hh ws rm mc ms n) (hp : PreV s H C b Pc As)
    (hg : g.method = m) (hn : As.length = n) (hsize : g.locals.size = nL) (hstack : g.stack = As.reverse ++ .ref b :: rest) (hW : 2 * g.monitorRoom + (rest.map fun v => v.category).sum ≤ 8) (hdg : decode cc g.pc = .ok (.invokevirtual index, 3)) (hf : cells + mc ≤ R.cells ∧ slots + ms ≤ R.slots) :
    va_Run p l e R s m args below meth c H locs cells slots mc ms g rest (Qc (Value.ref b :: As).toArray) free := by
  obtain ⟨⟨hrc, hrs, hfr, hlo, hws, hcw⟩, hcode, hini, hy, hlen, hl, hin, hse⟩ := cw
  have hK : Back l R p e below s args y 3 8 (PreOf R mc ms Pc) (PostOf Qc mc ms free) := va_backW (hh := hh) (bytes := bytes) (maxL := maxL) (ret := ret) hM hp.1 hrc hrs hfr hlo hws hcw (fun a' U hW => word_at hW (Or.inl (by first | rfl | simp [Cond.onTables, Cond.keeps, Cond.steady])) hini)
  obtain ⟨hx, hb, hml, ho, -⟩ := S
  obtain ⟨-, ⟨cellB, hcB, hoB, hclB⟩, hPc⟩ := hp
  intro T hT X
  obtain ⟨v, vm₁, ⟨U', l2, c2, s2⟩, hW₁, X', ⟨g', mk, t, L, e1, e2, hq, h1, hL, h2, h3⟩, st⟩ := vx_callVW X hx (C := C) (hh := hh) (bytes := bytes) (maxL := maxL) (ret := ret) ho hl hin hse hcode hy hK (by rw [hT]; exact hcB) hoB hclB hg (hsize.trans hml.symm) (argsL := As) (rest := rest) (fun sig h => hn.trans (hlen sig h)) hstack hW (by rw [hb]; exact hdg)
    (fun vm₁ hW₁ => ⟨hf.1, hf.2, hPc (T.setVm vm₁) hT hW₁⟩)
  dsimp only [Pt.U, Pt.locs, Pt.cells, Pt.slots] at X' e1 e2 h1 h2 h3 st
  subst h1; subst h2; subst h3
  exact ⟨v, (T.setVm vm₁).calling g' mk (Value.ref b :: As).toArray, t, U', L, hT, X', hL, e1, e2, hq, st⟩
section
variable {y : MethodName} {bytes cc : ByteArray} {maxL nL mc ms n index : Nat} {ret : Option FieldType} {ws : List Cond} {rm : Room} {Pc : Array Value → State → Prop} {Qc : Array Value → State → Outcome → State → Prop} {XC : String → State → State → Prop} {free : Addr → Prop} {Ts : List Cond} {own C : String} {b : Addr} {As rest : List Value} {g : JFrame}
theorem vx_runVX {hh : List (Nat × Nat × Nat × Nat)} (S : CallFix p m c cc nL s args Ts own) (hM : vx_Met l y ws rm Pc Qc XC mc ms free) (cw : vx_CVW R s args own C index y bytes maxL ret hh ws rm mc ms n) (hp : PreV s H C b Pc As)
    (hg : g.method = m) (hn : As.length = n) (hsize : g.locals.size = nL) (hstack : g.stack = As.reverse ++ .ref b :: rest) (hW : 2 * g.monitorRoom + (rest.map fun v => v.category).sum ≤ 8) (hdg : decode cc g.pc = .ok (.invokevirtual index, 3)) (hf : cells + mc ≤ R.cells ∧ slots + ms ≤ R.slots) :
    vx_Run p l e R s m args below meth c H locs cells slots mc ms g rest (Qc (Value.ref b :: As).toArray) XC free := by
  obtain ⟨⟨hrc, hrs, hfr, hlo, hws, hcw⟩, hcode, hini, hy, hlen, hl, hin, hse⟩ := cw
  have hK : vx_Back l R p e below s args y 3 8 (PreOf R mc ms Pc) (PostOf Qc mc ms free) (vx_Post XC mc ms free) := vx_backW (hh := hh) (bytes := bytes) (maxL := maxL) (ret := ret) hM hp.1 hrc hrs hfr hlo hws hcw (fun a' U hW => word_at hW (Or.inl (by first | rfl | simp [Cond.onTables, Cond.keeps, Cond.steady])) hini)
  obtain ⟨hx, hb, hml, ho, -⟩ := S
  obtain ⟨-, ⟨cellB, hcB, hoB, hclB⟩, hPc⟩ := hp
  intro T hT X
  rcases vx_callVX X hx (C := C) (hh := hh) (bytes := bytes) (maxL := maxL) (ret := ret) ho hl hin hse hcode hy hK (by rw [hT]; exact hcB) hoB hclB hg (hsize.trans hml.symm) (argsL := As) (rest := rest) (fun sig h => hn.trans (hlen sig h)) hstack hW (by rw [hb]; exact hdg)
    (fun vm₁ hW₁ => ⟨hf.1, hf.2, hPc (T.setVm vm₁) hT hW₁⟩) with ⟨v, vm₁, ⟨U', l2, c2, s2⟩, hW₁, X', ⟨g', mk, t, L, e1, e2, hq, h1, hL, h2, h3⟩, st⟩ | ⟨q, vm₁, ⟨U', l2, c2, s2⟩, hW₁, X', ⟨g', mk, t, L, E, ce, e1, e2, hq, hce, hcv, hcl, h1, hL, h2, h3⟩, st⟩
  · dsimp only [Pt.U, Pt.locs, Pt.cells, Pt.slots] at X' e1 e2 h1 h2 h3 st
    subst h1; subst h2; subst h3
    exact Or.inl ⟨v, (T.setVm vm₁).calling g' mk (Value.ref b :: As).toArray, t, U', L, hT, X', hL, e1, e2, hq, st⟩
  · dsimp only [Pt.U, Pt.locs, Pt.cells, Pt.slots] at X' e1 e2 h1 h2 h3 st hcl
    subst h1; subst h2; subst h3
    exact Or.inr ⟨q, (T.setVm vm₁).calling g' mk (Value.ref b :: As).toArray, t, U', L, E, ce, hT, X', hL, e1, e2, hq, hce, hcv, vx_cls hW₁ hcl, st⟩
theorem vx_runSX {hh : List (Nat × Nat × Nat × Nat)} (S : CallFix p m c cc nL s args Ts own) (hM : vx_Met l y ws rm Pc Qc XC mc ms free) (cw : vx_CSW R s args own index y bytes maxL ret hh ws rm mc ms n) (hp : PreS s H Pc As)
    (hg : g.method = m) (hn : As.length = n) (hsize : g.locals.size = nL) (hstack : g.stack = As.reverse ++ rest) (hW : 2 * g.monitorRoom + (rest.map fun v => v.category).sum ≤ 8) (hdg : decode cc g.pc = .ok (.invokestatic index, 3)) (hf : cells + mc ≤ R.cells ∧ slots + ms ≤ R.slots) :
    vx_Run p l e R s m args below meth c H locs cells slots mc ms g rest (Qc As.toArray) XC free := by
  obtain ⟨⟨hrc, hrs, hfr, hlo, hws, hcw⟩, hcode, hini, hy, hlen, hl, hstt⟩ := cw
  have hK : vx_Back l R p e below s args y 3 8 (PreOf R mc ms Pc) (PostOf Qc mc ms free) (vx_Post XC mc ms free) := vx_backW (hh := hh) (bytes := bytes) (maxL := maxL) (ret := ret) hM hp.1 hrc hrs hfr hlo hws hcw (fun a' U hW => word_at hW (Or.inl (by first | rfl | simp [Cond.onTables, Cond.keeps, Cond.steady])) hini)
  obtain ⟨hx, hb, hml, ho, -⟩ := S
  intro T hT X
  rcases vx_callSX X hx (hh := hh) (bytes := bytes) (maxL := maxL) (ret := ret) ho hl hstt hini hcode hy hK hg (hsize.trans hml.symm) (argsL := As) (rest := rest) (fun sig h => hn.trans (hlen sig h)) hstack hW (by rw [hb]; exact hdg)
    (fun vm₁ hW₁ => ⟨hf.1, hf.2, hp.2 (T.setVm vm₁) hT hW₁⟩) with ⟨v, vm₁, ⟨U', l2, c2, s2⟩, hW₁, X', ⟨g', mk, t, L, e1, e2, hq, h1, hL, h2, h3⟩, st⟩ | ⟨q, vm₁, ⟨U', l2, c2, s2⟩, hW₁, X', ⟨g', mk, t, L, E, ce, e1, e2, hq, hce, hcv, hcl, h1, hL, h2, h3⟩, st⟩
  · dsimp only [Pt.U, Pt.locs, Pt.cells, Pt.slots] at X' e1 e2 h1 h2 h3 st
    subst h1; subst h2; subst h3
    exact Or.inl ⟨v, (T.setVm vm₁).calling g' mk As.toArray, t, U', L, hT, X', hL, e1, e2, hq, st⟩
  · dsimp only [Pt.U, Pt.locs, Pt.cells, Pt.slots] at X' e1 e2 h1 h2 h3 st hcl
    subst h1; subst h2; subst h3
    exact Or.inr ⟨q, (T.setVm vm₁).calling g' mk As.toArray, t, U', L, E, ce, hT, X', hL, e1, e2, hq, hce, hcv, vx_cls hW₁ hcl, st⟩
end
end VXH
theorem vx_ofWH {l : Launch} {y : MethodName} {ws ws' : List Cond} {rm : Room} {Pc : Array Value → State → Prop} {Qc : Array Value → State → Outcome → State → Prop} {XC : String → State → State → Prop} {mc ms : Nat} {free : Addr → Prop} {cc : ByteArray} {maxL : Nat} {ret : Option FieldType} {hh : List (Nat × Nat × Nat × Nat)}
    (hy : plainName y.cls = true) (hw : ws = Cond.codeWith y cc maxL ret hh :: ws')
    (body : ∀ p e s m args below meth c s₁, BodyLoose p l y (headSpec ws rm) cc maxL ret e s m args below meth c s₁ → c.maxLocals = maxL → Pc args s →
      W p l e (headSpec ws rm).room s m args below meth c s.heap [] 0 0 (vx_MQ below Qc XC args s mc ms free) (entryFrame m args maxL)) : vx_Met l y ws rm Pc Qc XC mc ms free := by
  refine MetFree.of_bodyS (code := cc) (maxLocals := maxL) (ret := ret) hy ?_ ?_
  · intro args s m h hn
    obtain ⟨m9, meth, c, hn9, h1, h2, h3, h4, -, h5, h6, -⟩ := Cond.codeWith_spec (atoms_spec (ws := ws) h _ (by rw [hw]; exact List.mem_cons_self))
    cases hn.symm.trans hn9
    exact ⟨meth, c, h1, h2, h3, h4, h5, h6⟩
  · intro p e s m args below meth c s₁ B hml hP _
    have hh0 : s₁.heap = s.heap := by rw [B.state]; rfl
    obtain ⟨t, a1, o, b1, b2, b3⟩ := body p e s m args below meth c s₁ B hml hP s₁ hh0 (Stand.of_body B)
    exact ⟨t, o, a1, b1, b2, b3⟩
/-! ===== END ===== -/
end
section
/-! ===== BEGIN printed: names, fields, word lists, decode rows ===== -/
def RX0 : String := "HornBench$Cells"
def TX0 : u_T := fun k => match k with
  | 0 => ("HornBench$Cells", "isIn", "[Z", true)
  | 1 => ("HornBench$Cells", "items", "[I", true)
  | _ => ("HornBench$Cells", "size", "I", false)
def tyX0 : Nat → FieldType := fun k => match k with
  | 0 => .array .boolean
  | 1 => .array .int
  | _ => .int
abbrev wsX00 : List Cond := u_ws RX0 TX0 3
theorem nmX0 : ∀ a, a < 3 → ∀ b, b < 3 → a ≠ b → (TX0 a).2.1 ≠ (TX0 b).2.1 := by decide +kernel
theorem tyX0_ok : ∀ k, k < 3 → parseFieldDescriptor (TX0 k).2.2.1 = some (tyX0 k) := by decide +kernel
abbrev cX0_init : ByteArray := prog_2_method_1_code
def yX0_init : MethodName := ⟨RX0, "<init>", "()V"⟩
abbrev cX0_size : ByteArray := prog_2_method_2_code
def yX0_size : MethodName := ⟨RX0, "size", "()I"⟩
abbrev cX0_item : ByteArray := prog_2_method_3_code
def yX0_item : MethodName := ⟨RX0, "item", "(I)I"⟩
abbrev cX0_holds : ByteArray := prog_2_method_4_code
def yX0_holds : MethodName := ⟨RX0, "holds", "(I)Z"⟩
abbrev cX0_include : ByteArray := prog_2_method_5_code
def yX0_include : MethodName := ⟨RX0, "include", "(I)V"⟩
abbrev cX0_empty : ByteArray := prog_2_method_6_code
def yX0_empty : MethodName := ⟨RX0, "empty", "()V"⟩
def RX1 : String := "HornBench$Evaluator"
def TX1 : u_T := fun k => match k with
  | 0 => ("HornBench$Evaluator", "terms", "LHornBench$Terms;", true)
  | 1 => ("HornBench$Evaluator", "known", "LHornBench$Cells;", true)
  | 2 => ("HornBench$Evaluator", "values", "[I", true)
  | 3 => ("HornBench$Evaluator", "heights", "[I", true)
  | 4 => ("HornBench$Evaluator", "value", "I", false)
  | _ => ("HornBench$Evaluator", "height", "I", false)
def tyX1 : Nat → FieldType := fun k => match k with
  | 0 => .object "HornBench$Terms"
  | 1 => .object "HornBench$Cells"
  | 2 => .array .int
  | 3 => .array .int
  | 4 => .int
  | _ => .int
abbrev wsX10 : List Cond := u_ws RX1 TX1 6
theorem nmX1 : ∀ a, a < 6 → ∀ b, b < 6 → a ≠ b → (TX1 a).2.1 ≠ (TX1 b).2.1 := by decide +kernel
theorem tyX1_ok : ∀ k, k < 6 → parseFieldDescriptor (TX1 k).2.2.1 = some (tyX1 k) := by decide +kernel
abbrev cX1_init : ByteArray := prog_3_method_1_code
def yX1_init : MethodName := ⟨RX1, "<init>", "(LHornBench$Terms;)V"⟩
abbrev cX1_evaluate : ByteArray := prog_3_method_2_code
def yX1_evaluate : MethodName := ⟨RX1, "evaluate", "(I)Z"⟩
abbrev cX1_value : ByteArray := prog_3_method_3_code
def yX1_value : MethodName := ⟨RX1, "value", "()I"⟩
abbrev cX1_find : ByteArray := prog_3_method_4_code
def yX1_find : MethodName := ⟨RX1, "find", "(II)Z"⟩
abbrev cX1_compute : ByteArray := prog_3_method_5_code
def yX1_compute : MethodName := ⟨RX1, "compute", "(II)Z"⟩
abbrev cX1_apply : ByteArray := prog_3_method_6_code
def yX1_apply : MethodName := ⟨RX1, "apply", "(JII)Z"⟩
def RX2 : String := "HornBench$Matcher"
def TX2 : u_T := fun k => match k with
  | 0 => ("HornBench$Matcher", "terms", "LHornBench$Terms;", true)
  | 1 => ("HornBench$Matcher", "links", "[I", true)
  | 2 => ("HornBench$Matcher", "joined", "[I", true)
  | _ => ("HornBench$Matcher", "size", "I", false)
def tyX2 : Nat → FieldType := fun k => match k with
  | 0 => .object "HornBench$Terms"
  | 1 => .array .int
  | 2 => .array .int
  | _ => .int
abbrev wsX20 : List Cond := u_ws RX2 TX2 4
theorem nmX2 : ∀ a, a < 4 → ∀ b, b < 4 → a ≠ b → (TX2 a).2.1 ≠ (TX2 b).2.1 := by decide +kernel
theorem tyX2_ok : ∀ k, k < 4 → parseFieldDescriptor (TX2 k).2.2.1 = some (tyX2 k) := by decide +kernel
abbrev cX2_init : ByteArray := prog_4_method_1_code
def yX2_init : MethodName := ⟨RX2, "<init>", "(LHornBench$Terms;)V"⟩
abbrev cX2_match : ByteArray := prog_4_method_2_code
def yX2_match : MethodName := ⟨RX2, "match", "(IIZ)Z"⟩
abbrev cX2_join : ByteArray := prog_4_method_3_code
def yX2_join : MethodName := ⟨RX2, "join", "(IIZ)Z"⟩
abbrev cX2_root : ByteArray := prog_4_method_4_code
def yX2_root : MethodName := ⟨RX2, "root", "(I)I"⟩
def RX3 : String := "HornBench$Nodes"
def TX3 : u_T := fun k => match k with
  | 0 => ("HornBench$Nodes", "kinds", "[I", true)
  | 1 => ("HornBench$Nodes", "values", "[I", true)
  | 2 => ("HornBench$Nodes", "names", "[J", true)
  | 3 => ("HornBench$Nodes", "firsts", "[I", true)
  | 4 => ("HornBench$Nodes", "nexts", "[I", true)
  | 5 => ("HornBench$Nodes", "froms", "[I", true)
  | 6 => ("HornBench$Nodes", "order", "[I", true)
  | 7 => ("HornBench$Nodes", "heads", "[I", true)
  | 8 => ("HornBench$Nodes", "bodies", "[I", true)
  | 9 => ("HornBench$Nodes", "goals", "[I", true)
  | 10 => ("HornBench$Nodes", "variables", "[I", true)
  | 11 => ("HornBench$Nodes", "uses", "[I", true)
  | 12 => ("HornBench$Nodes", "clauses", "I", false)
  | 13 => ("HornBench$Nodes", "slot", "I", false)
  | _ => ("HornBench$Nodes", "size", "I", false)
def tyX3 : Nat → FieldType := fun k => match k with
  | 0 => .array .int
  | 1 => .array .int
  | 2 => .array .long
  | 3 => .array .int
  | 4 => .array .int
  | 5 => .array .int
  | 6 => .array .int
  | 7 => .array .int
  | 8 => .array .int
  | 9 => .array .int
  | 10 => .array .int
  | 11 => .array .int
  | 12 => .int
  | 13 => .int
  | _ => .int
abbrev wsX30 : List Cond := u_ws RX3 TX3 15
theorem nmX3 : ∀ a, a < 15 → ∀ b, b < 15 → a ≠ b → (TX3 a).2.1 ≠ (TX3 b).2.1 := by decide +kernel
theorem tyX3_ok : ∀ k, k < 15 → parseFieldDescriptor (TX3 k).2.2.1 = some (tyX3 k) := by decide +kernel
abbrev cX3_init : ByteArray := prog_5_method_1_code
def yX3_init : MethodName := ⟨RX3, "<init>", "()V"⟩
abbrev cX3_forget : ByteArray := prog_5_method_2_code
def yX3_forget : MethodName := ⟨RX3, "forget", "()V"⟩
abbrev cX3_keep : ByteArray := prog_5_method_3_code
def yX3_keep : MethodName := ⟨RX3, "keep", "(I)V"⟩
abbrev cX3_remove : ByteArray := prog_5_method_4_code
def yX3_remove : MethodName := ⟨RX3, "remove", "(I)V"⟩
abbrev cX3_begin : ByteArray := prog_5_method_5_code
def yX3_begin : MethodName := ⟨RX3, "begin", "(I)V"⟩
abbrev cX3_make : ByteArray := prog_5_method_6_code
def yX3_make : MethodName := ⟨RX3, "make", "(IIJI)I"⟩
abbrev cX3_chain : ByteArray := prog_5_method_7_code
def yX3_chain : MethodName := ⟨RX3, "chain", "(II)V"⟩
abbrev cX3_chained : ByteArray := prog_5_method_8_code
def yX3_chained : MethodName := ⟨RX3, "chained", "(I)I"⟩
abbrev cX3_isOperatorHere : ByteArray := prog_5_method_9_code
def yX3_isOperatorHere : MethodName := ⟨RX3, "isOperatorHere", "(I)Z"⟩
abbrev cX3_finish : ByteArray := prog_5_method_10_code
def yX3_finish : MethodName := ⟨RX3, "finish", "(IIII)V"⟩
abbrev cX3_clauses : ByteArray := prog_5_method_11_code
def yX3_clauses : MethodName := ⟨RX3, "clauses", "()I"⟩
abbrev cX3_slot : ByteArray := prog_5_method_12_code
def yX3_slot : MethodName := ⟨RX3, "slot", "(I)I"⟩
abbrev cX3_head : ByteArray := prog_5_method_13_code
def yX3_head : MethodName := ⟨RX3, "head", "(I)I"⟩
abbrev cX3_body : ByteArray := prog_5_method_14_code
def yX3_body : MethodName := ⟨RX3, "body", "(I)I"⟩
abbrev cX3_arity : ByteArray := prog_5_method_15_code
def yX3_arity : MethodName := ⟨RX3, "arity", "(I)I"⟩
abbrev cX3_goals : ByteArray := prog_5_method_16_code
def yX3_goals : MethodName := ⟨RX3, "goals", "(I)I"⟩
abbrev cX3_variables : ByteArray := prog_5_method_17_code
def yX3_variables : MethodName := ⟨RX3, "variables", "(I)I"⟩
abbrev cX3_uses : ByteArray := prog_5_method_18_code
def yX3_uses : MethodName := ⟨RX3, "uses", "(I)I"⟩
abbrev cX3_use : ByteArray := prog_5_method_19_code
def yX3_use : MethodName := ⟨RX3, "use", "(I)V"⟩
abbrev cX3_predicates : ByteArray := prog_5_method_20_code
def yX3_predicates : MethodName := ⟨RX3, "predicates", "()I"⟩
abbrev cX3_clauseFor : ByteArray := prog_5_method_21_code
def yX3_clauseFor : MethodName := ⟨RX3, "clauseFor", "(II)I"⟩
abbrev cX3_kind : ByteArray := prog_5_method_22_code
def yX3_kind : MethodName := ⟨RX3, "kind", "(I)I"⟩
abbrev cX3_value : ByteArray := prog_5_method_23_code
def yX3_value : MethodName := ⟨RX3, "value", "(I)I"⟩
abbrev cX3_name : ByteArray := prog_5_method_24_code
def yX3_name : MethodName := ⟨RX3, "name", "(I)J"⟩
abbrev cX3_first : ByteArray := prog_5_method_25_code
def yX3_first : MethodName := ⟨RX3, "first", "(I)I"⟩
abbrev cX3_next : ByteArray := prog_5_method_26_code
def yX3_next : MethodName := ⟨RX3, "next", "(I)I"⟩
abbrev cX3_from : ByteArray := prog_5_method_27_code
def yX3_from : MethodName := ⟨RX3, "from", "(I)I"⟩
abbrev cX3_isAlike : ByteArray := prog_5_method_28_code
def yX3_isAlike : MethodName := ⟨RX3, "isAlike", "(II)Z"⟩
abbrev cX3_isOperator : ByteArray := prog_5_method_29_code
def yX3_isOperator : MethodName := ⟨RX3, "isOperator", "(I)Z"⟩
def RX4 : String := "HornBench$Parser"
def TX4 : u_T := fun k => match k with
  | 0 => ("HornBench$Parser", "tokens", "LHornBench$Tokens;", true)
  | 1 => ("HornBench$Parser", "nodes", "LHornBench$Nodes;", true)
  | 2 => ("HornBench$Parser", "names", "[J", true)
  | 3 => ("HornBench$Parser", "at", "I", false)
  | 4 => ("HornBench$Parser", "kind", "I", false)
  | 5 => ("HornBench$Parser", "refused", "Z", false)
  | 6 => ("HornBench$Parser", "excess", "I", false)
  | 7 => ("HornBench$Parser", "taken", "I", false)
  | 8 => ("HornBench$Parser", "depth", "I", false)
  | 9 => ("HornBench$Parser", "goals", "I", false)
  | _ => ("HornBench$Parser", "variables", "I", false)
def tyX4 : Nat → FieldType := fun k => match k with
  | 0 => .object "HornBench$Tokens"
  | 1 => .object "HornBench$Nodes"
  | 2 => .array .long
  | 3 => .int
  | 4 => .int
  | 5 => .boolean
  | 6 => .int
  | 7 => .int
  | 8 => .int
  | 9 => .int
  | _ => .int
abbrev wsX40 : List Cond := u_ws RX4 TX4 11
theorem nmX4 : ∀ a, a < 11 → ∀ b, b < 11 → a ≠ b → (TX4 a).2.1 ≠ (TX4 b).2.1 := by decide +kernel
theorem tyX4_ok : ∀ k, k < 11 → parseFieldDescriptor (TX4 k).2.2.1 = some (tyX4 k) := by decide +kernel
abbrev cX4_init : ByteArray := prog_6_method_1_code
def yX4_init : MethodName := ⟨RX4, "<init>", "(LHornBench$Tape;LHornBench$Nodes;)V"⟩
abbrev cX4_readProgram : ByteArray := prog_6_method_2_code
def yX4_readProgram : MethodName := ⟨RX4, "readProgram", "()I"⟩
abbrev cX4_readQuestion : ByteArray := prog_6_method_3_code
def yX4_readQuestion : MethodName := ⟨RX4, "readQuestion", "()I"⟩
abbrev cX4_errorPlace : ByteArray := prog_6_method_4_code
def yX4_errorPlace : MethodName := ⟨RX4, "errorPlace", "()I"⟩
abbrev cX4_error : ByteArray := prog_6_method_5_code
def yX4_error : MethodName := ⟨RX4, "error", "()I"⟩
abbrev cX4_start : ByteArray := prog_6_method_6_code
def yX4_start : MethodName := ⟨RX4, "start", "()V"⟩
abbrev cX4_begin : ByteArray := prog_6_method_7_code
def yX4_begin : MethodName := ⟨RX4, "begin", "(I)V"⟩
abbrev cX4_readClause : ByteArray := prog_6_method_8_code
def yX4_readClause : MethodName := ⟨RX4, "readClause", "(I)V"⟩
abbrev cX4_readGoals : ByteArray := prog_6_method_9_code
def yX4_readGoals : MethodName := ⟨RX4, "readGoals", "()I"⟩
abbrev cX4_readGoal : ByteArray := prog_6_method_10_code
def yX4_readGoal : MethodName := ⟨RX4, "readGoal", "()I"⟩
abbrev cX4_readPlainGoal : ByteArray := prog_6_method_11_code
def yX4_readPlainGoal : MethodName := ⟨RX4, "readPlainGoal", "()I"⟩
abbrev cX4_readNot : ByteArray := prog_6_method_12_code
def yX4_readNot : MethodName := ⟨RX4, "readNot", "()I"⟩
abbrev cX4_readVar : ByteArray := prog_6_method_13_code
def yX4_readVar : MethodName := ⟨RX4, "readVar", "()I"⟩
abbrev cX4_readRelation : ByteArray := prog_6_method_14_code
def yX4_readRelation : MethodName := ⟨RX4, "readRelation", "()I"⟩
abbrev cX4_readTerm : ByteArray := prog_6_method_15_code
def yX4_readTerm : MethodName := ⟨RX4, "readTerm", "()I"⟩
abbrev cX4_readProduct : ByteArray := prog_6_method_16_code
def yX4_readProduct : MethodName := ⟨RX4, "readProduct", "()I"⟩
abbrev cX4_readSimple : ByteArray := prog_6_method_17_code
def yX4_readSimple : MethodName := ⟨RX4, "readSimple", "()I"⟩
abbrev cX4_readVariable : ByteArray := prog_6_method_18_code
def yX4_readVariable : MethodName := ⟨RX4, "readVariable", "()I"⟩
abbrev cX4_readNumber : ByteArray := prog_6_method_19_code
def yX4_readNumber : MethodName := ⟨RX4, "readNumber", "(I)I"⟩
abbrev cX4_readName : ByteArray := prog_6_method_20_code
def yX4_readName : MethodName := ⟨RX4, "readName", "()I"⟩
abbrev cX4_readList : ByteArray := prog_6_method_21_code
def yX4_readList : MethodName := ⟨RX4, "readList", "()I"⟩
abbrev cX4_makePairs : ByteArray := prog_6_method_22_code
def yX4_makePairs : MethodName := ⟨RX4, "makePairs", "(II)I"⟩
abbrev cX4_open : ByteArray := prog_6_method_23_code
def yX4_open : MethodName := ⟨RX4, "open", "(I)V"⟩
abbrev cX4_close : ByteArray := prog_6_method_24_code
def yX4_close : MethodName := ⟨RX4, "close", "(I)V"⟩
abbrev cX4_expect : ByteArray := prog_6_method_25_code
def yX4_expect : MethodName := ⟨RX4, "expect", "(I)V"⟩
abbrev cX4_take : ByteArray := prog_6_method_26_code
def yX4_take : MethodName := ⟨RX4, "take", "()V"⟩
abbrev cX4_refuse : ByteArray := prog_6_method_27_code
def yX4_refuse : MethodName := ⟨RX4, "refuse", "()V"⟩
abbrev cX4_tooMany : ByteArray := prog_6_method_28_code
def yX4_tooMany : MethodName := ⟨RX4, "tooMany", "()V"⟩
def RX5 : String := "HornBench$Pen"
def TX5 : u_T := fun k => match k with
  | 0 => ("HornBench$Pen", "terms", "LHornBench$Terms;", true)
  | 1 => ("HornBench$Pen", "paper", "[B", true)
  | 2 => ("HornBench$Pen", "length", "I", false)
  | 3 => ("HornBench$Pen", "draft", "[B", true)
  | 4 => ("HornBench$Pen", "drafted", "I", false)
  | 5 => ("HornBench$Pen", "items", "[I", true)
  | 6 => ("HornBench$Pen", "open", "I", false)
  | 7 => ("HornBench$Pen", "met", "[I", true)
  | 8 => ("HornBench$Pen", "metSize", "I", false)
  | _ => ("HornBench$Pen", "full", "Z", false)
def tyX5 : Nat → FieldType := fun k => match k with
  | 0 => .object "HornBench$Terms"
  | 1 => .array .byte
  | 2 => .int
  | 3 => .array .byte
  | 4 => .int
  | 5 => .array .int
  | 6 => .int
  | 7 => .array .int
  | 8 => .int
  | _ => .boolean
abbrev wsX50 : List Cond := u_ws RX5 TX5 10
theorem nmX5 : ∀ a, a < 10 → ∀ b, b < 10 → a ≠ b → (TX5 a).2.1 ≠ (TX5 b).2.1 := by decide +kernel
theorem tyX5_ok : ∀ k, k < 10 → parseFieldDescriptor (TX5 k).2.2.1 = some (tyX5 k) := by decide +kernel
abbrev cX5_init : ByteArray := prog_7_method_1_code
def yX5_init : MethodName := ⟨RX5, "<init>", "(LHornBench$Terms;)V"⟩
abbrev cX5_length : ByteArray := prog_7_method_2_code
def yX5_length : MethodName := ⟨RX5, "length", "()I"⟩
abbrev cX5_byteOn : ByteArray := prog_7_method_3_code
def yX5_byteOn : MethodName := ⟨RX5, "byteOn", "(I)I"⟩
abbrev cX5_wipe : ByteArray := prog_7_method_4_code
def yX5_wipe : MethodName := ⟨RX5, "wipe", "()V"⟩
abbrev cX5_compose : ByteArray := prog_7_method_5_code
def yX5_compose : MethodName := ⟨RX5, "compose", "(II)Z"⟩
abbrev cX5_writeItem : ByteArray := prog_7_method_6_code
def yX5_writeItem : MethodName := ⟨RX5, "writeItem", "(II)V"⟩
abbrev cX5_writeTerm : ByteArray := prog_7_method_7_code
def yX5_writeTerm : MethodName := ⟨RX5, "writeTerm", "(I)V"⟩
abbrev cX5_writeNamed : ByteArray := prog_7_method_8_code
def yX5_writeNamed : MethodName := ⟨RX5, "writeNamed", "(I)V"⟩
abbrev cX5_writeOperand : ByteArray := prog_7_method_9_code
def yX5_writeOperand : MethodName := ⟨RX5, "writeOperand", "(I)V"⟩
abbrev cX5_writeTail : ByteArray := prog_7_method_10_code
def yX5_writeTail : MethodName := ⟨RX5, "writeTail", "(I)V"⟩
abbrev cX5_writeChain : ByteArray := prog_7_method_11_code
def yX5_writeChain : MethodName := ⟨RX5, "writeChain", "(III)V"⟩
abbrev cX5_writeOneGoal : ByteArray := prog_7_method_12_code
def yX5_writeOneGoal : MethodName := ⟨RX5, "writeOneGoal", "(I)V"⟩
abbrev cX5_writeBetween : ByteArray := prog_7_method_13_code
def yX5_writeBetween : MethodName := ⟨RX5, "writeBetween", "(IIJZ)V"⟩
abbrev cX5_writeName : ByteArray := prog_7_method_14_code
def yX5_writeName : MethodName := ⟨RX5, "writeName", "(J)V"⟩
abbrev cX5_writeDigits : ByteArray := prog_7_method_15_code
def yX5_writeDigits : MethodName := ⟨RX5, "writeDigits", "(I)V"⟩
abbrev cX5_numberOfFree : ByteArray := prog_7_method_16_code
def yX5_numberOfFree : MethodName := ⟨RX5, "numberOfFree", "(I)I"⟩
abbrev cX5_writeByte : ByteArray := prog_7_method_17_code
def yX5_writeByte : MethodName := ⟨RX5, "writeByte", "(I)V"⟩
abbrev cX5_push : ByteArray := prog_7_method_18_code
def yX5_push : MethodName := ⟨RX5, "push", "(II)V"⟩
abbrev cX5_hasRoom : ByteArray := prog_7_method_19_code
def yX5_hasRoom : MethodName := ⟨RX5, "hasRoom", "()Z"⟩
def RX6 : String := "HornBench$Question"
def TX6 : u_T := fun k => match k with
  | 0 => ("HornBench$Question", "nodes", "LHornBench$Nodes;", true)
  | 1 => ("HornBench$Question", "terms", "LHornBench$Terms;", true)
  | 2 => ("HornBench$Question", "matcher", "LHornBench$Matcher;", true)
  | 3 => ("HornBench$Question", "evaluator", "LHornBench$Evaluator;", true)
  | 4 => ("HornBench$Question", "linkGoals", "[I", true)
  | 5 => ("HornBench$Question", "linkNexts", "[I", true)
  | 6 => ("HornBench$Question", "linkCuts", "[I", true)
  | 7 => ("HornBench$Question", "links", "I", false)
  | 8 => ("HornBench$Question", "row", "I", false)
  | 9 => ("HornBench$Question", "choiceGoals", "[I", true)
  | 10 => ("HornBench$Question", "choiceClauses", "[I", true)
  | 11 => ("HornBench$Question", "choiceRows", "[I", true)
  | 12 => ("HornBench$Question", "choiceTrails", "[I", true)
  | 13 => ("HornBench$Question", "choices", "I", false)
  | 14 => ("HornBench$Question", "state", "I", false)
  | 15 => ("HornBench$Question", "again", "Z", false)
  | 16 => ("HornBench$Question", "steps", "I", false)
  | 17 => ("HornBench$Question", "solutions", "I", false)
  | _ => ("HornBench$Question", "cuts", "I", false)
def tyX6 : Nat → FieldType := fun k => match k with
  | 0 => .object "HornBench$Nodes"
  | 1 => .object "HornBench$Terms"
  | 2 => .object "HornBench$Matcher"
  | 3 => .object "HornBench$Evaluator"
  | 4 => .array .int
  | 5 => .array .int
  | 6 => .array .int
  | 7 => .int
  | 8 => .int
  | 9 => .array .int
  | 10 => .array .int
  | 11 => .array .int
  | 12 => .array .int
  | 13 => .int
  | 14 => .int
  | 15 => .boolean
  | 16 => .int
  | 17 => .int
  | _ => .int
abbrev wsX60 : List Cond := u_ws RX6 TX6 19
theorem nmX6 : ∀ a, a < 19 → ∀ b, b < 19 → a ≠ b → (TX6 a).2.1 ≠ (TX6 b).2.1 := by decide +kernel
theorem tyX6_ok : ∀ k, k < 19 → parseFieldDescriptor (TX6 k).2.2.1 = some (tyX6 k) := by decide +kernel
abbrev cX6_init : ByteArray := prog_8_method_1_code
def yX6_init : MethodName := ⟨RX6, "<init>", "(LHornBench$Nodes;LHornBench$Terms;LHornBench$Matcher;)V"⟩
abbrev cX6_begin : ByteArray := prog_8_method_2_code
def yX6_begin : MethodName := ⟨RX6, "begin", "()V"⟩
abbrev cX6_leave : ByteArray := prog_8_method_3_code
def yX6_leave : MethodName := ⟨RX6, "leave", "()V"⟩
abbrev cX6_isThere : ByteArray := prog_8_method_4_code
def yX6_isThere : MethodName := ⟨RX6, "isThere", "()Z"⟩
abbrev cX6_has : ByteArray := prog_8_method_5_code
def yX6_has : MethodName := ⟨RX6, "has", "(I)Z"⟩
abbrev cX6_variables : ByteArray := prog_8_method_6_code
def yX6_variables : MethodName := ⟨RX6, "variables", "()I"⟩
abbrev cX6_goals : ByteArray := prog_8_method_7_code
def yX6_goals : MethodName := ⟨RX6, "goals", "()I"⟩
abbrev cX6_steps : ByteArray := prog_8_method_8_code
def yX6_steps : MethodName := ⟨RX6, "steps", "()I"⟩
abbrev cX6_solutions : ByteArray := prog_8_method_9_code
def yX6_solutions : MethodName := ⟨RX6, "solutions", "()I"⟩
abbrev cX6_cuts : ByteArray := prog_8_method_10_code
def yX6_cuts : MethodName := ⟨RX6, "cuts", "()I"⟩
abbrev cX6_standing : ByteArray := prog_8_method_11_code
def yX6_standing : MethodName := ⟨RX6, "standing", "()I"⟩
abbrev cX6_firstGoal : ByteArray := prog_8_method_12_code
def yX6_firstGoal : MethodName := ⟨RX6, "firstGoal", "()I"⟩
abbrev cX6_advance : ByteArray := prog_8_method_13_code
def yX6_advance : MethodName := ⟨RX6, "advance", "(I)I"⟩
abbrev cX6_settle : ByteArray := prog_8_method_14_code
def yX6_settle : MethodName := ⟨RX6, "settle", "(Z)V"⟩
abbrev cX6_isAtMark : ByteArray := prog_8_method_15_code
def yX6_isAtMark : MethodName := ⟨RX6, "isAtMark", "()Z"⟩
abbrev cX6_goBack : ByteArray := prog_8_method_16_code
def yX6_goBack : MethodName := ⟨RX6, "goBack", "()V"⟩
abbrev cX6_stepAgain : ByteArray := prog_8_method_17_code
def yX6_stepAgain : MethodName := ⟨RX6, "stepAgain", "()Z"⟩
abbrev cX6_step : ByteArray := prog_8_method_18_code
def yX6_step : MethodName := ⟨RX6, "step", "()Z"⟩
abbrev cX6_useClause : ByteArray := prog_8_method_19_code
def yX6_useClause : MethodName := ⟨RX6, "useClause", "(II)Z"⟩
abbrev cX6_assign : ByteArray := prog_8_method_20_code
def yX6_assign : MethodName := ⟨RX6, "assign", "(II)Z"⟩
abbrev cX6_compare : ByteArray := prog_8_method_21_code
def yX6_compare : MethodName := ⟨RX6, "compare", "(III)Z"⟩
abbrev cX6_stopByError : ByteArray := prog_8_method_22_code
def yX6_stopByError : MethodName := ⟨RX6, "stopByError", "()Z"⟩
abbrev cX6_leaveChoice : ByteArray := prog_8_method_23_code
def yX6_leaveChoice : MethodName := ⟨RX6, "leaveChoice", "(III)V"⟩
abbrev cX6_chain : ByteArray := prog_8_method_24_code
def yX6_chain : MethodName := ⟨RX6, "chain", "(III)I"⟩
abbrev cX6_link : ByteArray := prog_8_method_25_code
def yX6_link : MethodName := ⟨RX6, "link", "(III)I"⟩
def RX7 : String := "HornBench$Tape"
def TX7 : u_T := fun k => match k with
  | 0 => ("HornBench$Tape", "bytes", "[B", true)
  | _ => ("HornBench$Tape", "length", "I", false)
def tyX7 : Nat → FieldType := fun k => match k with
  | 0 => .array .byte
  | _ => .int
abbrev wsX70 : List Cond := u_ws RX7 TX7 2
theorem nmX7 : ∀ a, a < 2 → ∀ b, b < 2 → a ≠ b → (TX7 a).2.1 ≠ (TX7 b).2.1 := by decide +kernel
theorem tyX7_ok : ∀ k, k < 2 → parseFieldDescriptor (TX7 k).2.2.1 = some (tyX7 k) := by decide +kernel
abbrev cX7_init : ByteArray := prog_9_method_1_code
def yX7_init : MethodName := ⟨RX7, "<init>", "()V"⟩
abbrev cX7_length : ByteArray := prog_9_method_2_code
def yX7_length : MethodName := ⟨RX7, "length", "()I"⟩
abbrev cX7_hasRoom : ByteArray := prog_9_method_3_code
def yX7_hasRoom : MethodName := ⟨RX7, "hasRoom", "()Z"⟩
abbrev cX7_append : ByteArray := prog_9_method_4_code
def yX7_append : MethodName := ⟨RX7, "append", "(I)V"⟩
abbrev cX7_shorten : ByteArray := prog_9_method_5_code
def yX7_shorten : MethodName := ⟨RX7, "shorten", "(I)V"⟩
abbrev cX7_at : ByteArray := prog_9_method_6_code
def yX7_at : MethodName := ⟨RX7, "at", "(I)I"⟩
def RX8 : String := "HornBench$Terms"
def TX8 : u_T := fun k => match k with
  | 0 => ("HornBench$Terms", "nodes", "LHornBench$Nodes;", true)
  | 1 => ("HornBench$Terms", "slots", "[I", true)
  | 2 => ("HornBench$Terms", "results", "[I", true)
  | 3 => ("HornBench$Terms", "bindings", "[I", true)
  | 4 => ("HornBench$Terms", "trail", "[I", true)
  | 5 => ("HornBench$Terms", "trailed", "I", false)
  | _ => ("HornBench$Terms", "seen", "LHornBench$Cells;", true)
def tyX8 : Nat → FieldType := fun k => match k with
  | 0 => .object "HornBench$Nodes"
  | 1 => .array .int
  | 2 => .array .int
  | 3 => .array .int
  | 4 => .array .int
  | 5 => .int
  | _ => .object "HornBench$Cells"
abbrev wsX80 : List Cond := u_ws RX8 TX8 7
theorem nmX8 : ∀ a, a < 7 → ∀ b, b < 7 → a ≠ b → (TX8 a).2.1 ≠ (TX8 b).2.1 := by decide +kernel
theorem tyX8_ok : ∀ k, k < 7 → parseFieldDescriptor (TX8 k).2.2.1 = some (tyX8 k) := by decide +kernel
abbrev cX8_init : ByteArray := prog_10_method_1_code
def yX8_init : MethodName := ⟨RX8, "<init>", "(LHornBench$Nodes;)V"⟩
abbrev cX8_begin : ByteArray := prog_10_method_2_code
def yX8_begin : MethodName := ⟨RX8, "begin", "()V"⟩
abbrev cX8_open : ByteArray := prog_10_method_3_code
def yX8_open : MethodName := ⟨RX8, "open", "(II)V"⟩
abbrev cX8_head : ByteArray := prog_10_method_4_code
def yX8_head : MethodName := ⟨RX8, "head", "(I)I"⟩
abbrev cX8_body : ByteArray := prog_10_method_5_code
def yX8_body : MethodName := ⟨RX8, "body", "(I)I"⟩
abbrev cX8_node : ByteArray := prog_10_method_6_code
def yX8_node : MethodName := ⟨RX8, "node", "(I)I"⟩
abbrev cX8_kind : ByteArray := prog_10_method_7_code
def yX8_kind : MethodName := ⟨RX8, "kind", "(I)I"⟩
abbrev cX8_name : ByteArray := prog_10_method_8_code
def yX8_name : MethodName := ⟨RX8, "name", "(I)J"⟩
abbrev cX8_isOperator : ByteArray := prog_10_method_9_code
def yX8_isOperator : MethodName := ⟨RX8, "isOperator", "(I)Z"⟩
abbrev cX8_isAlike : ByteArray := prog_10_method_10_code
def yX8_isAlike : MethodName := ⟨RX8, "isAlike", "(II)Z"⟩
abbrev cX8_first : ByteArray := prog_10_method_11_code
def yX8_first : MethodName := ⟨RX8, "first", "(I)I"⟩
abbrev cX8_next : ByteArray := prog_10_method_12_code
def yX8_next : MethodName := ⟨RX8, "next", "(I)I"⟩
abbrev cX8_cell : ByteArray := prog_10_method_13_code
def yX8_cell : MethodName := ⟨RX8, "cell", "(I)I"⟩
abbrev cX8_end : ByteArray := prog_10_method_14_code
def yX8_end : MethodName := ⟨RX8, "end", "(I)I"⟩
abbrev cX8_isFree : ByteArray := prog_10_method_15_code
def yX8_isFree : MethodName := ⟨RX8, "isFree", "(I)Z"⟩
abbrev cX8_isNumber : ByteArray := prog_10_method_16_code
def yX8_isNumber : MethodName := ⟨RX8, "isNumber", "(I)Z"⟩
abbrev cX8_numberOf : ByteArray := prog_10_method_17_code
def yX8_numberOf : MethodName := ⟨RX8, "numberOf", "(I)I"⟩
abbrev cX8_result : ByteArray := prog_10_method_18_code
def yX8_result : MethodName := ⟨RX8, "result", "(II)I"⟩
abbrev cX8_bind : ByteArray := prog_10_method_19_code
def yX8_bind : MethodName := ⟨RX8, "bind", "(II)V"⟩
abbrev cX8_trailed : ByteArray := prog_10_method_20_code
def yX8_trailed : MethodName := ⟨RX8, "trailed", "()I"⟩
abbrev cX8_undo : ByteArray := prog_10_method_21_code
def yX8_undo : MethodName := ⟨RX8, "undo", "(I)V"⟩
abbrev cX8_standsIn : ByteArray := prog_10_method_22_code
def yX8_standsIn : MethodName := ⟨RX8, "standsIn", "(II)Z"⟩
def RX9 : String := "HornBench$Tokens"
def TX9 : u_T := fun k => match k with
  | 0 => ("HornBench$Tokens", "tape", "LHornBench$Tape;", true)
  | 1 => ("HornBench$Tokens", "kinds", "[I", true)
  | 2 => ("HornBench$Tokens", "starts", "[I", true)
  | 3 => ("HornBench$Tokens", "texts", "[J", true)
  | _ => ("HornBench$Tokens", "size", "I", false)
def tyX9 : Nat → FieldType := fun k => match k with
  | 0 => .object "HornBench$Tape"
  | 1 => .array .int
  | 2 => .array .int
  | 3 => .array .long
  | _ => .int
abbrev wsX90 : List Cond := u_ws RX9 TX9 5
theorem nmX9 : ∀ a, a < 5 → ∀ b, b < 5 → a ≠ b → (TX9 a).2.1 ≠ (TX9 b).2.1 := by decide +kernel
theorem tyX9_ok : ∀ k, k < 5 → parseFieldDescriptor (TX9 k).2.2.1 = some (tyX9 k) := by decide +kernel
abbrev cX9_init : ByteArray := prog_11_method_1_code
def yX9_init : MethodName := ⟨RX9, "<init>", "(LHornBench$Tape;)V"⟩
abbrev cX9_kind : ByteArray := prog_11_method_2_code
def yX9_kind : MethodName := ⟨RX9, "kind", "(I)I"⟩
abbrev cX9_start : ByteArray := prog_11_method_3_code
def yX9_start : MethodName := ⟨RX9, "start", "(I)I"⟩
abbrev cX9_text : ByteArray := prog_11_method_4_code
def yX9_text : MethodName := ⟨RX9, "text", "(I)J"⟩
abbrev cX9_read : ByteArray := prog_11_method_5_code
def yX9_read : MethodName := ⟨RX9, "read", "()V"⟩
abbrev cX9_behindBlanks : ByteArray := prog_11_method_6_code
def yX9_behindBlanks : MethodName := ⟨RX9, "behindBlanks", "(I)I"⟩
abbrev cX9_readToken : ByteArray := prog_11_method_7_code
def yX9_readToken : MethodName := ⟨RX9, "readToken", "(I)I"⟩
abbrev cX9_readWord : ByteArray := prog_11_method_8_code
def yX9_readWord : MethodName := ⟨RX9, "readWord", "(I)I"⟩
abbrev cX9_kindOfWord : ByteArray := prog_11_method_9_code
def yX9_kindOfWord : MethodName := ⟨RX9, "kindOfWord", "(J)I"⟩
abbrev cX9_readNumber : ByteArray := prog_11_method_10_code
def yX9_readNumber : MethodName := ⟨RX9, "readNumber", "(I)I"⟩
abbrev cX9_readSymbol : ByteArray := prog_11_method_11_code
def yX9_readSymbol : MethodName := ⟨RX9, "readSymbol", "(III)I"⟩
abbrev cX9_isSymbol : ByteArray := prog_11_method_12_code
def yX9_isSymbol : MethodName := ⟨RX9, "isSymbol", "(I)Z"⟩
abbrev cX9_isSmall : ByteArray := prog_11_method_13_code
def yX9_isSmall : MethodName := ⟨RX9, "isSmall", "(I)Z"⟩
abbrev cX9_isDigit : ByteArray := prog_11_method_14_code
def yX9_isDigit : MethodName := ⟨RX9, "isDigit", "(I)Z"⟩
abbrev cX9_behindWord : ByteArray := prog_11_method_15_code
def yX9_behindWord : MethodName := ⟨RX9, "behindWord", "(I)I"⟩
abbrev cX9_nameOf : ByteArray := prog_11_method_16_code
def yX9_nameOf : MethodName := ⟨RX9, "nameOf", "(II)J"⟩
abbrev cX9_keep : ByteArray := prog_11_method_17_code
def yX9_keep : MethodName := ⟨RX9, "keep", "(IIJI)I"⟩
def RX10 : String := "HornBench"
def TX10 : u_T := fun k => match k with
  | 0 => ("HornBench", "tape", "LHornBench$Tape;", true)
  | 1 => ("HornBench", "nodes", "LHornBench$Nodes;", true)
  | 2 => ("HornBench", "parser", "LHornBench$Parser;", true)
  | 3 => ("HornBench", "terms", "LHornBench$Terms;", true)
  | 4 => ("HornBench", "matcher", "LHornBench$Matcher;", true)
  | 5 => ("HornBench", "question", "LHornBench$Question;", true)
  | 6 => ("HornBench", "pen", "LHornBench$Pen;", true)
  | _ => ("HornBench", "errorPlace", "I", false)
def tyX10 : Nat → FieldType := fun k => match k with
  | 0 => .object "HornBench$Tape"
  | 1 => .object "HornBench$Nodes"
  | 2 => .object "HornBench$Parser"
  | 3 => .object "HornBench$Terms"
  | 4 => .object "HornBench$Matcher"
  | 5 => .object "HornBench$Question"
  | 6 => .object "HornBench$Pen"
  | _ => .int
abbrev wsX100 : List Cond := u_ws RX10 TX10 8
theorem nmX10 : ∀ a, a < 8 → ∀ b, b < 8 → a ≠ b → (TX10 a).2.1 ≠ (TX10 b).2.1 := by decide +kernel
theorem tyX10_ok : ∀ k, k < 8 → parseFieldDescriptor (TX10 k).2.2.1 = some (tyX10 k) := by decide +kernel
abbrev cX10_init : ByteArray := prog_1_method_1_code
def yX10_init : MethodName := ⟨RX10, "<init>", "()V"⟩
abbrev cX10_feed : ByteArray := prog_1_method_2_code
def yX10_feed : MethodName := ⟨RX10, "feed", "(IIIII)I"⟩
abbrev cX10_trim : ByteArray := prog_1_method_3_code
def yX10_trim : MethodName := ⟨RX10, "trim", "(I)I"⟩
abbrev cX10_consult : ByteArray := prog_1_method_4_code
def yX10_consult : MethodName := ⟨RX10, "consult", "()I"⟩
abbrev cX10_add : ByteArray := prog_1_method_5_code
def yX10_add : MethodName := ⟨RX10, "add", "()I"⟩
abbrev cX10_drop : ByteArray := prog_1_method_6_code
def yX10_drop : MethodName := ⟨RX10, "drop", "(I)I"⟩
abbrev cX10_errorAt : ByteArray := prog_1_method_7_code
def yX10_errorAt : MethodName := ⟨RX10, "errorAt", "()I"⟩
abbrev cX10_count : ByteArray := prog_1_method_8_code
def yX10_count : MethodName := ⟨RX10, "count", "(I)I"⟩
abbrev cX10_clause : ByteArray := prog_1_method_9_code
def yX10_clause : MethodName := ⟨RX10, "clause", "(II)I"⟩
abbrev cX10_finishReading : ByteArray := prog_1_method_10_code
def yX10_finishReading : MethodName := ⟨RX10, "finishReading", "(I)I"⟩
abbrev cX10_ask : ByteArray := prog_1_method_11_code
def yX10_ask : MethodName := ⟨RX10, "ask", "()I"⟩
abbrev cX10_run : ByteArray := prog_1_method_12_code
def yX10_run : MethodName := ⟨RX10, "run", "(I)I"⟩
abbrev cX10_status : ByteArray := prog_1_method_13_code
def yX10_status : MethodName := ⟨RX10, "status", "()I"⟩
abbrev cX10_write : ByteArray := prog_1_method_14_code
def yX10_write : MethodName := ⟨RX10, "write", "(I)I"⟩
abbrev cX10_writeGoal : ByteArray := prog_1_method_15_code
def yX10_writeGoal : MethodName := ⟨RX10, "writeGoal", "()I"⟩
abbrev cX10_byteAt : ByteArray := prog_1_method_16_code
def yX10_byteAt : MethodName := ⟨RX10, "byteAt", "(I)I"⟩
abbrev cX10_number : ByteArray := prog_1_method_17_code
def yX10_number : MethodName := ⟨RX10, "number", "(I)I"⟩
abbrev cX10_isSame : ByteArray := prog_1_method_18_code
def yX10_isSame : MethodName := ⟨RX10, "isSame", "(II)Z"⟩
abbrev cX10_stepsEach : ByteArray := prog_1_method_19_code
def yX10_stepsEach : MethodName := ⟨RX10, "stepsEach", "()D"⟩
abbrev cX10_digest : ByteArray := prog_1_method_20_code
def yX10_digest : MethodName := ⟨RX10, "digest", "()J"⟩
abbrev cX10_at : ByteArray := prog_1_method_21_code
def yX10_at : MethodName := ⟨RX10, "at", "([II)I"⟩
abbrev cX10_put : ByteArray := prog_1_method_22_code
def yX10_put : MethodName := ⟨RX10, "put", "([III)V"⟩
def RX11 : String := "HornBenchModel$Clause"
def TX11 : u_T := fun k => match k with
  | 0 => ("HornBenchModel$Clause", "kinds", "[I", true)
  | 1 => ("HornBenchModel$Clause", "values", "[J", true)
  | 2 => ("HornBenchModel$Clause", "firsts", "[I", true)
  | 3 => ("HornBenchModel$Clause", "sizes", "[I", true)
  | 4 => ("HornBenchModel$Clause", "arguments", "[I", true)
  | 5 => ("HornBenchModel$Clause", "parts", "I", false)
  | 6 => ("HornBenchModel$Clause", "used", "I", false)
  | 7 => ("HornBenchModel$Clause", "head", "I", false)
  | 8 => ("HornBenchModel$Clause", "variables", "I", false)
  | 9 => ("HornBenchModel$Clause", "names", "[J", true)
  | 10 => ("HornBenchModel$Clause", "goals", "I", false)
  | 11 => ("HornBenchModel$Clause", "goalKinds", "[I", true)
  | 12 => ("HornBenchModel$Clause", "goalA", "[I", true)
  | 13 => ("HornBenchModel$Clause", "goalB", "[I", true)
  | 14 => ("HornBenchModel$Clause", "nexts", "[I", true)
  | 15 => ("HornBenchModel$Clause", "inners", "[I", true)
  | 16 => ("HornBenchModel$Clause", "first", "I", false)
  | _ => ("HornBenchModel$Clause", "uses", "I", false)
def tyX11 : Nat → FieldType := fun k => match k with
  | 0 => .array .int
  | 1 => .array .long
  | 2 => .array .int
  | 3 => .array .int
  | 4 => .array .int
  | 5 => .int
  | 6 => .int
  | 7 => .int
  | 8 => .int
  | 9 => .array .long
  | 10 => .int
  | 11 => .array .int
  | 12 => .array .int
  | 13 => .array .int
  | 14 => .array .int
  | 15 => .array .int
  | 16 => .int
  | _ => .int
abbrev wsX110 : List Cond := u_ws RX11 TX11 18
theorem nmX11 : ∀ a, a < 18 → ∀ b, b < 18 → a ≠ b → (TX11 a).2.1 ≠ (TX11 b).2.1 := by decide +kernel
theorem tyX11_ok : ∀ k, k < 18 → parseFieldDescriptor (TX11 k).2.2.1 = some (tyX11 k) := by decide +kernel
abbrev cX11_init : ByteArray := prog_14_method_1_code
def yX11_init : MethodName := ⟨RX11, "<init>", "()V"⟩
def RX12 : String := "HornBenchModel"
def TX12 : u_T := fun k => match k with
  | 0 => ("HornBenchModel", "thrown", "I", false)
  | 1 => ("HornBenchModel", "tape", "[I", true)
  | 2 => ("HornBenchModel", "length", "I", false)
  | 3 => ("HornBenchModel", "errorAt", "I", false)
  | 4 => ("HornBenchModel", "kinds", "[I", true)
  | 5 => ("HornBenchModel", "froms", "[I", true)
  | 6 => ("HornBenchModel", "ends", "[I", true)
  | 7 => ("HornBenchModel", "at", "I", false)
  | 8 => ("HornBenchModel", "begin", "I", false)
  | 9 => ("HornBenchModel", "clauses", "I", false)
  | 10 => ("HornBenchModel", "all", "[LHornBenchModel$Clause;", true)
  | 11 => ("HornBenchModel", "paper", "[I", true)
  | 12 => ("HornBenchModel", "papered", "I", false)
  | 13 => ("HornBenchModel", "question", "LHornBenchModel$Clause;", false)
  | 14 => ("HornBenchModel", "asked", "[I", true)
  | 15 => ("HornBenchModel", "status", "I", false)
  | 16 => ("HornBenchModel", "steps", "I", false)
  | 17 => ("HornBenchModel", "solutions", "I", false)
  | 18 => ("HornBenchModel", "cuts", "I", false)
  | 19 => ("HornBenchModel", "cells", "I", false)
  | 20 => ("HornBenchModel", "cellKinds", "[I", true)
  | 21 => ("HornBenchModel", "cellValues", "[J", true)
  | 22 => ("HornBenchModel", "cellFirsts", "[I", true)
  | 23 => ("HornBenchModel", "cellSizes", "[I", true)
  | 24 => ("HornBenchModel", "argumentsTop", "I", false)
  | 25 => ("HornBenchModel", "cellArguments", "[I", true)
  | 26 => ("HornBenchModel", "tour", "I", false)
  | 27 => ("HornBenchModel", "met", "[I", true)
  | 28 => ("HornBenchModel", "found", "[I", true)
  | 29 => ("HornBenchModel", "heights", "[I", true)
  | 30 => ("HornBenchModel", "waiting", "[I", true)
  | 31 => ("HornBenchModel", "bound", "I", false)
  | 32 => ("HornBenchModel", "trail", "[I", true)
  | 33 => ("HornBenchModel", "rowsTop", "I", false)
  | 34 => ("HornBenchModel", "rowKinds", "[I", true)
  | 35 => ("HornBenchModel", "rowA", "[I", true)
  | 36 => ("HornBenchModel", "rowB", "[I", true)
  | 37 => ("HornBenchModel", "rowInner", "[I", true)
  | 38 => ("HornBenchModel", "rowNext", "[I", true)
  | 39 => ("HornBenchModel", "rowCut", "[I", true)
  | 40 => ("HornBenchModel", "row", "I", false)
  | 41 => ("HornBenchModel", "choices", "I", false)
  | 42 => ("HornBenchModel", "areNots", "[Z", true)
  | 43 => ("HornBenchModel", "choiceRow", "[I", true)
  | 44 => ("HornBenchModel", "choiceGoal", "[I", true)
  | 45 => ("HornBenchModel", "choiceClause", "[I", true)
  | 46 => ("HornBenchModel", "choiceBound", "[I", true)
  | 47 => ("HornBenchModel", "choiceCells", "[I", true)
  | 48 => ("HornBenchModel", "choiceArguments", "[I", true)
  | 49 => ("HornBenchModel", "choiceRows", "[I", true)
  | 50 => ("HornBenchModel", "isPending", "Z", false)
  | 51 => ("HornBenchModel", "now", "LHornBenchModel$Clause;", false)
  | 52 => ("HornBenchModel", "tooMany", "I", false)
  | 53 => ("HornBenchModel", "makings", "I", false)
  | 54 => ("HornBenchModel", "made", "[I", true)
  | 55 => ("HornBenchModel", "leaders", "[I", true)
  | 56 => ("HornBenchModel", "lefts", "[I", true)
  | 57 => ("HornBenchModel", "rights", "[I", true)
  | 58 => ("HornBenchModel", "isFault", "Z", false)
  | 59 => ("HornBenchModel", "variablesNow", "[I", true)
  | 60 => ("HornBenchModel", "written", "I", false)
  | _ => ("HornBenchModel", "writtenCells", "[I", true)
def tyX12 : Nat → FieldType := fun k => match k with
  | 0 => .int
  | 1 => .array .int
  | 2 => .int
  | 3 => .int
  | 4 => .array .int
  | 5 => .array .int
  | 6 => .array .int
  | 7 => .int
  | 8 => .int
  | 9 => .int
  | 10 => .array (.object "HornBenchModel$Clause")
  | 11 => .array .int
  | 12 => .int
  | 13 => .object "HornBenchModel$Clause"
  | 14 => .array .int
  | 15 => .int
  | 16 => .int
  | 17 => .int
  | 18 => .int
  | 19 => .int
  | 20 => .array .int
  | 21 => .array .long
  | 22 => .array .int
  | 23 => .array .int
  | 24 => .int
  | 25 => .array .int
  | 26 => .int
  | 27 => .array .int
  | 28 => .array .int
  | 29 => .array .int
  | 30 => .array .int
  | 31 => .int
  | 32 => .array .int
  | 33 => .int
  | 34 => .array .int
  | 35 => .array .int
  | 36 => .array .int
  | 37 => .array .int
  | 38 => .array .int
  | 39 => .array .int
  | 40 => .int
  | 41 => .int
  | 42 => .array .boolean
  | 43 => .array .int
  | 44 => .array .int
  | 45 => .array .int
  | 46 => .array .int
  | 47 => .array .int
  | 48 => .array .int
  | 49 => .array .int
  | 50 => .boolean
  | 51 => .object "HornBenchModel$Clause"
  | 52 => .int
  | 53 => .int
  | 54 => .array .int
  | 55 => .array .int
  | 56 => .array .int
  | 57 => .array .int
  | 58 => .boolean
  | 59 => .array .int
  | 60 => .int
  | _ => .array .int
abbrev wsX120 : List Cond := u_ws RX12 TX12 62
theorem nmX12 : ∀ a, a < 62 → ∀ b, b < 62 → a ≠ b → (TX12 a).2.1 ≠ (TX12 b).2.1 := by decide +kernel
theorem tyX12_ok : ∀ k, k < 62 → parseFieldDescriptor (TX12 k).2.2.1 = some (tyX12 k) := by decide +kernel
abbrev cX12_init : ByteArray := prog_13_method_1_code
def yX12_init : MethodName := ⟨RX12, "<init>", "()V"⟩
abbrev cX12_thrown : ByteArray := prog_13_method_2_code
def yX12_thrown : MethodName := ⟨RX12, "thrown", "()I"⟩
abbrev cX12_no : ByteArray := prog_13_method_3_code
def yX12_no : MethodName := ⟨RX12, "no", "(I)I"⟩
abbrev cX12_isIn : ByteArray := prog_13_method_4_code
def yX12_isIn : MethodName := ⟨RX12, "isIn", "(III)Z"⟩
abbrev cX12_feed : ByteArray := prog_13_method_5_code
def yX12_feed : MethodName := ⟨RX12, "feed", "(IIIII)I"⟩
abbrev cX12_trim : ByteArray := prog_13_method_6_code
def yX12_trim : MethodName := ⟨RX12, "trim", "(I)I"⟩
abbrev cX12_byteAtTape : ByteArray := prog_13_method_7_code
def yX12_byteAtTape : MethodName := ⟨RX12, "byteAtTape", "(I)I"⟩
abbrev cX12_isSmall : ByteArray := prog_13_method_8_code
def yX12_isSmall : MethodName := ⟨RX12, "isSmall", "(I)Z"⟩
abbrev cX12_isDigit : ByteArray := prog_13_method_9_code
def yX12_isDigit : MethodName := ⟨RX12, "isDigit", "(I)Z"⟩
abbrev cX12_isBig : ByteArray := prog_13_method_10_code
def yX12_isBig : MethodName := ⟨RX12, "isBig", "(I)Z"⟩
abbrev cX12_symbolAt : ByteArray := prog_13_method_11_code
def yX12_symbolAt : MethodName := ⟨RX12, "symbolAt", "(I)I"⟩
abbrev cX12_scan : ByteArray := prog_13_method_12_code
def yX12_scan : MethodName := ⟨RX12, "scan", "()V"⟩
abbrev cX12_is : ByteArray := prog_13_method_13_code
def yX12_is : MethodName := ⟨RX12, "is", "(ILjava/lang/String;)Z"⟩
abbrev cX12_which : ByteArray := prog_13_method_14_code
def yX12_which : MethodName := ⟨RX12, "which", "(I[Ljava/lang/String;)I"⟩
abbrev cX12_isName : ByteArray := prog_13_method_15_code
def yX12_isName : MethodName := ⟨RX12, "isName", "(I)Z"⟩
abbrev cX12_nameOf : ByteArray := prog_13_method_16_code
def yX12_nameOf : MethodName := ⟨RX12, "nameOf", "(I)J"⟩
abbrev cX12_numberOf : ByteArray := prog_13_method_17_code
def yX12_numberOf : MethodName := ⟨RX12, "numberOf", "(I)I"⟩
abbrev cX12_sees : ByteArray := prog_13_method_18_code
def yX12_sees : MethodName := ⟨RX12, "sees", "(Ljava/lang/String;)Z"⟩
abbrev cX12_goes : ByteArray := prog_13_method_19_code
def yX12_goes : MethodName := ⟨RX12, "goes", "()Z"⟩
abbrev cX12_takes : ByteArray := prog_13_method_20_code
def yX12_takes : MethodName := ⟨RX12, "takes", "(Ljava/lang/String;)Z"⟩
abbrev cX12_programForm : ByteArray := prog_13_method_21_code
def yX12_programForm : MethodName := ⟨RX12, "programForm", "()Z"⟩
abbrev cX12_clauseForm : ByteArray := prog_13_method_22_code
def yX12_clauseForm : MethodName := ⟨RX12, "clauseForm", "()Z"⟩
abbrev cX12_questionForm : ByteArray := prog_13_method_23_code
def yX12_questionForm : MethodName := ⟨RX12, "questionForm", "()Z"⟩
abbrev cX12_opens : ByteArray := prog_13_method_24_code
def yX12_opens : MethodName := ⟨RX12, "opens", "(Ljava/lang/String;I)Z"⟩
abbrev cX12_argumentsForm : ByteArray := prog_13_method_25_code
def yX12_argumentsForm : MethodName := ⟨RX12, "argumentsForm", "(I)Z"⟩
abbrev cX12_goalsForm : ByteArray := prog_13_method_26_code
def yX12_goalsForm : MethodName := ⟨RX12, "goalsForm", "(I)Z"⟩
abbrev cX12_goalForm : ByteArray := prog_13_method_27_code
def yX12_goalForm : MethodName := ⟨RX12, "goalForm", "(I)Z"⟩
abbrev cX12_simpleEnd : ByteArray := prog_13_method_28_code
def yX12_simpleEnd : MethodName := ⟨RX12, "simpleEnd", "(I)I"⟩
abbrev cX12_termForm : ByteArray := prog_13_method_29_code
def yX12_termForm : MethodName := ⟨RX12, "termForm", "(I)Z"⟩
abbrev cX12_productForm : ByteArray := prog_13_method_30_code
def yX12_productForm : MethodName := ⟨RX12, "productForm", "(I)Z"⟩
abbrev cX12_simpleForm : ByteArray := prog_13_method_31_code
def yX12_simpleForm : MethodName := ⟨RX12, "simpleForm", "(I)Z"⟩
abbrev cX12_listForm : ByteArray := prog_13_method_32_code
def yX12_listForm : MethodName := ⟨RX12, "listForm", "(I)Z"⟩
abbrev cX12_over : ByteArray := prog_13_method_33_code
def yX12_over : MethodName := ⟨RX12, "over", "(I)V"⟩
abbrev cX12_part : ByteArray := prog_13_method_34_code
def yX12_part : MethodName := ⟨RX12, "part", "(IJI)I"⟩
abbrev cX12_pair : ByteArray := prog_13_method_35_code
def yX12_pair : MethodName := ⟨RX12, "pair", "(JII)I"⟩
abbrev cX12_variable : ByteArray := prog_13_method_36_code
def yX12_variable : MethodName := ⟨RX12, "variable", "(I)I"⟩
abbrev cX12_term : ByteArray := prog_13_method_37_code
def yX12_term : MethodName := ⟨RX12, "term", "()I"⟩
abbrev cX12_product : ByteArray := prog_13_method_38_code
def yX12_product : MethodName := ⟨RX12, "product", "()I"⟩
abbrev cX12_simple : ByteArray := prog_13_method_39_code
def yX12_simple : MethodName := ⟨RX12, "simple", "()I"⟩
abbrev cX12_named : ByteArray := prog_13_method_40_code
def yX12_named : MethodName := ⟨RX12, "named", "(I)I"⟩
abbrev cX12_list : ByteArray := prog_13_method_41_code
def yX12_list : MethodName := ⟨RX12, "list", "()I"⟩
abbrev cX12_goals : ByteArray := prog_13_method_42_code
def yX12_goals : MethodName := ⟨RX12, "goals", "()I"⟩
abbrev cX12_goal : ByteArray := prog_13_method_43_code
def yX12_goal : MethodName := ⟨RX12, "goal", "()I"⟩
abbrev cX12_forgetQuestion : ByteArray := prog_13_method_44_code
def yX12_forgetQuestion : MethodName := ⟨RX12, "forgetQuestion", "()V"⟩
abbrev cX12_wrong : ByteArray := prog_13_method_45_code
def yX12_wrong : MethodName := ⟨RX12, "wrong", "(II)I"⟩
abbrev cX12_read : ByteArray := prog_13_method_46_code
def yX12_read : MethodName := ⟨RX12, "read", "(I)I"⟩
abbrev cX12_consult : ByteArray := prog_13_method_47_code
def yX12_consult : MethodName := ⟨RX12, "consult", "()I"⟩
abbrev cX12_add : ByteArray := prog_13_method_48_code
def yX12_add : MethodName := ⟨RX12, "add", "()I"⟩
abbrev cX12_drop : ByteArray := prog_13_method_49_code
def yX12_drop : MethodName := ⟨RX12, "drop", "(I)I"⟩
abbrev cX12_errorAt : ByteArray := prog_13_method_50_code
def yX12_errorAt : MethodName := ⟨RX12, "errorAt", "()I"⟩
abbrev cX12_nameIn : ByteArray := prog_13_method_51_code
def yX12_nameIn : MethodName := ⟨RX12, "nameIn", "(LHornBenchModel$Clause;)J"⟩
abbrev cX12_sizeIn : ByteArray := prog_13_method_52_code
def yX12_sizeIn : MethodName := ⟨RX12, "sizeIn", "(LHornBenchModel$Clause;)I"⟩
abbrev cX12_areAlike : ByteArray := prog_13_method_53_code
def yX12_areAlike : MethodName := ⟨RX12, "areAlike", "(LHornBenchModel$Clause;LHornBenchModel$Clause;)Z"⟩
abbrev cX12_predicates : ByteArray := prog_13_method_54_code
def yX12_predicates : MethodName := ⟨RX12, "predicates", "()I"⟩
abbrev cX12_goalsLeft : ByteArray := prog_13_method_55_code
def yX12_goalsLeft : MethodName := ⟨RX12, "goalsLeft", "()I"⟩
abbrev cX12_counted : ByteArray := prog_13_method_56_code
def yX12_counted : MethodName := ⟨RX12, "counted", "(I)I"⟩
abbrev cX12_count : ByteArray := prog_13_method_57_code
def yX12_count : MethodName := ⟨RX12, "count", "(I)I"⟩
abbrev cX12_clauseTold : ByteArray := prog_13_method_58_code
def yX12_clauseTold : MethodName := ⟨RX12, "clauseTold", "(II)I"⟩
abbrev cX12_clause : ByteArray := prog_13_method_59_code
def yX12_clause : MethodName := ⟨RX12, "clause", "(II)I"⟩
abbrev cX12_cell : ByteArray := prog_13_method_60_code
def yX12_cell : MethodName := ⟨RX12, "cell", "(IJI)I"⟩
abbrev cX12_laid : ByteArray := prog_13_method_61_code
def yX12_laid : MethodName := ⟨RX12, "laid", "(LHornBenchModel$Clause;I[I)I"⟩
abbrev cX12_end : ByteArray := prog_13_method_62_code
def yX12_end : MethodName := ⟨RX12, "end", "(I)I"⟩
abbrev cX12_argument : ByteArray := prog_13_method_63_code
def yX12_argument : MethodName := ⟨RX12, "argument", "(II)I"⟩
abbrev cX12_bind : ByteArray := prog_13_method_64_code
def yX12_bind : MethodName := ⟨RX12, "bind", "(II)V"⟩
abbrev cX12_undo : ByteArray := prog_13_method_65_code
def yX12_undo : MethodName := ⟨RX12, "undo", "(I)V"⟩
abbrev cX12_standsIn : ByteArray := prog_13_method_66_code
def yX12_standsIn : MethodName := ⟨RX12, "standsIn", "(II)Z"⟩
abbrev cX12_leader : ByteArray := prog_13_method_67_code
def yX12_leader : MethodName := ⟨RX12, "leader", "(I)I"⟩
abbrev cX12_join : ByteArray := prog_13_method_68_code
def yX12_join : MethodName := ⟨RX12, "join", "(II)V"⟩
abbrev cX12_areOne : ByteArray := prog_13_method_69_code
def yX12_areOne : MethodName := ⟨RX12, "areOne", "(IIZ)Z"⟩
abbrev cX12_unify : ByteArray := prog_13_method_70_code
def yX12_unify : MethodName := ⟨RX12, "unify", "(II)Z"⟩
abbrev cX12_isSameNow : ByteArray := prog_13_method_71_code
def yX12_isSameNow : MethodName := ⟨RX12, "isSameNow", "(II)Z"⟩
abbrev cX12_value : ByteArray := prog_13_method_72_code
def yX12_value : MethodName := ⟨RX12, "value", "(I)I"⟩
abbrev cX12_fault : ByteArray := prog_13_method_73_code
def yX12_fault : MethodName := ⟨RX12, "fault", "()I"⟩
abbrev cX12_worth : ByteArray := prog_13_method_74_code
def yX12_worth : MethodName := ⟨RX12, "worth", "(II)I"⟩
abbrev cX12_keep : ByteArray := prog_13_method_75_code
def yX12_keep : MethodName := ⟨RX12, "keep", "(III)I"⟩
abbrev cX12_ask : ByteArray := prog_13_method_76_code
def yX12_ask : MethodName := ⟨RX12, "ask", "()I"⟩
abbrev cX12_rowCell : ByteArray := prog_13_method_77_code
def yX12_rowCell : MethodName := ⟨RX12, "rowCell", "(III)I"⟩
abbrev cX12_rowOf : ByteArray := prog_13_method_78_code
def yX12_rowOf : MethodName := ⟨RX12, "rowOf", "(LHornBenchModel$Clause;I[III)I"⟩
abbrev cX12_innerRow : ByteArray := prog_13_method_79_code
def yX12_innerRow : MethodName := ⟨RX12, "innerRow", "(III)I"⟩
abbrev cX12_choose : ByteArray := prog_13_method_80_code
def yX12_choose : MethodName := ⟨RX12, "choose", "(ZIIIIII)V"⟩
abbrev cX12_isOf : ByteArray := prog_13_method_81_code
def yX12_isOf : MethodName := ⟨RX12, "isOf", "(II)Z"⟩
abbrev cX12_nextOf : ByteArray := prog_13_method_82_code
def yX12_nextOf : MethodName := ⟨RX12, "nextOf", "(II)I"⟩
abbrev cX12_heads : ByteArray := prog_13_method_83_code
def yX12_heads : MethodName := ⟨RX12, "heads", "(II)Z"⟩
abbrev cX12_use : ByteArray := prog_13_method_84_code
def yX12_use : MethodName := ⟨RX12, "use", "(III)V"⟩
abbrev cX12_call : ByteArray := prog_13_method_85_code
def yX12_call : MethodName := ⟨RX12, "call", "(I)Z"⟩
abbrev cX12_goOn : ByteArray := prog_13_method_86_code
def yX12_goOn : MethodName := ⟨RX12, "goOn", "()V"⟩
abbrev cX12_canGoOn : ByteArray := prog_13_method_87_code
def yX12_canGoOn : MethodName := ⟨RX12, "canGoOn", "()Z"⟩
abbrev cX12_compared : ByteArray := prog_13_method_88_code
def yX12_compared : MethodName := ⟨RX12, "compared", "(III)Z"⟩
abbrev cX12_done : ByteArray := prog_13_method_89_code
def yX12_done : MethodName := ⟨RX12, "done", "(I)Z"⟩
abbrev cX12_step : ByteArray := prog_13_method_90_code
def yX12_step : MethodName := ⟨RX12, "step", "()V"⟩
abbrev cX12_settle : ByteArray := prog_13_method_91_code
def yX12_settle : MethodName := ⟨RX12, "settle", "(Z)V"⟩
abbrev cX12_run : ByteArray := prog_13_method_92_code
def yX12_run : MethodName := ⟨RX12, "run", "(I)I"⟩
abbrev cX12_status : ByteArray := prog_13_method_93_code
def yX12_status : MethodName := ⟨RX12, "status", "()I"⟩
abbrev cX12_put : ByteArray := prog_13_method_94_code
def yX12_put : MethodName := ⟨RX12, "put", "(I)V"⟩
abbrev cX12_put_ : ByteArray := prog_13_method_95_code
def yX12_put_ : MethodName := ⟨RX12, "put", "(Ljava/lang/String;)V"⟩
abbrev cX12_isFull : ByteArray := prog_13_method_96_code
def yX12_isFull : MethodName := ⟨RX12, "isFull", "()Z"⟩
abbrev cX12_putNumber : ByteArray := prog_13_method_97_code
def yX12_putNumber : MethodName := ⟨RX12, "putNumber", "(J)V"⟩
abbrev cX12_putDigits : ByteArray := prog_13_method_98_code
def yX12_putDigits : MethodName := ⟨RX12, "putDigits", "(J)V"⟩
abbrev cX12_putName : ByteArray := prog_13_method_99_code
def yX12_putName : MethodName := ⟨RX12, "putName", "(J)V"⟩
abbrev cX12_isSigned : ByteArray := prog_13_method_100_code
def yX12_isSigned : MethodName := ⟨RX12, "isSigned", "(J)Z"⟩
abbrev cX12_putFree : ByteArray := prog_13_method_101_code
def yX12_putFree : MethodName := ⟨RX12, "putFree", "(I)V"⟩
abbrev cX12_putTerm : ByteArray := prog_13_method_102_code
def yX12_putTerm : MethodName := ⟨RX12, "putTerm", "(IZ)V"⟩
abbrev cX12_isVariable : ByteArray := prog_13_method_103_code
def yX12_isVariable : MethodName := ⟨RX12, "isVariable", "(I)Z"⟩
abbrev cX12_kept : ByteArray := prog_13_method_104_code
def yX12_kept : MethodName := ⟨RX12, "kept", "([II)I"⟩
abbrev cX12_write : ByteArray := prog_13_method_105_code
def yX12_write : MethodName := ⟨RX12, "write", "(I)I"⟩
abbrev cX12_putGoal : ByteArray := prog_13_method_106_code
def yX12_putGoal : MethodName := ⟨RX12, "putGoal", "(I)V"⟩
abbrev cX12_writeGoal : ByteArray := prog_13_method_107_code
def yX12_writeGoal : MethodName := ⟨RX12, "writeGoal", "()I"⟩
abbrev cX12_byteAt : ByteArray := prog_13_method_108_code
def yX12_byteAt : MethodName := ⟨RX12, "byteAt", "(I)I"⟩
abbrev cX12_number : ByteArray := prog_13_method_109_code
def yX12_number : MethodName := ⟨RX12, "number", "(I)I"⟩
abbrev cX12_isSame : ByteArray := prog_13_method_110_code
def yX12_isSame : MethodName := ⟨RX12, "isSame", "(II)Z"⟩
abbrev cX12_stepsEach : ByteArray := prog_13_method_111_code
def yX12_stepsEach : MethodName := ⟨RX12, "stepsEach", "()D"⟩
abbrev cX12_digest : ByteArray := prog_13_method_112_code
def yX12_digest : MethodName := ⟨RX12, "digest", "()J"⟩
def RJ11 : String := "java/lang/Character"
def TJ11 : u_T := fun k => match k with
  | _ => ("", "", "", false)
def tyJ11 : Nat → FieldType := fun k => match k with
  | _ => .int
abbrev wsJ110 : List Cond := u_ws RJ11 TJ11 0
theorem nmJ11 : ∀ a, a < 0 → ∀ b, b < 0 → a ≠ b → (TJ11 a).2.1 ≠ (TJ11 b).2.1 := by decide +kernel
theorem tyJ11_ok : ∀ k, k < 0 → parseFieldDescriptor (TJ11 k).2.2.1 = some (tyJ11 k) := by decide +kernel
abbrev cJ11_isValidCodePoint_9a6ad : ByteArray := prog_15_method_11_code
def yJ11_isValidCodePoint_9a6ad : MethodName := ⟨RJ11, "isValidCodePoint", "(I)Z"⟩
abbrev cJ11_highSurrogate_5068e : ByteArray := prog_15_method_28_code
def yJ11_highSurrogate_5068e : MethodName := ⟨RJ11, "highSurrogate", "(I)C"⟩
abbrev cJ11_lowSurrogate_5068e : ByteArray := prog_15_method_29_code
def yJ11_lowSurrogate_5068e : MethodName := ⟨RJ11, "lowSurrogate", "(I)C"⟩
def RJx8e188 : String := "java/lang/Cloneable"
def TJx8e188 : u_T := fun k => match k with
  | _ => ("", "", "", false)
def tyJx8e188 : Nat → FieldType := fun k => match k with
  | _ => .int
abbrev wsJx8e1880 : List Cond := u_ws RJx8e188 TJx8e188 0
theorem nmJx8e188 : ∀ a, a < 0 → ∀ b, b < 0 → a ≠ b → (TJx8e188 a).2.1 ≠ (TJx8e188 b).2.1 := by decide +kernel
theorem tyJx8e188_ok : ∀ k, k < 0 → parseFieldDescriptor (TJx8e188 k).2.2.1 = some (tyJx8e188 k) := by decide +kernel
def RJ9 : String := "java/lang/Math"
def TJ9 : u_T := fun k => match k with
  | _ => ("", "", "", false)
def tyJ9 : Nat → FieldType := fun k => match k with
  | _ => .int
abbrev wsJ90 : List Cond := u_ws RJ9 TJ9 0
theorem nmJ9 : ∀ a, a < 0 → ∀ b, b < 0 → a ≠ b → (TJ9 a).2.1 ≠ (TJ9 b).2.1 := by decide +kernel
theorem tyJ9_ok : ∀ k, k < 0 → parseFieldDescriptor (TJ9 k).2.2.1 = some (tyJ9 k) := by decide +kernel
abbrev cJ9_abs_067f4 : ByteArray := prog_21_method_61_code
def yJ9_abs_067f4 : MethodName := ⟨RJ9, "abs", "(J)J"⟩
abbrev cJ9_max_7cf53 : ByteArray := prog_21_method_65_code
def yJ9_max_7cf53 : MethodName := ⟨RJ9, "max", "(II)I"⟩
abbrev cJ9_min_7cf53 : ByteArray := prog_21_method_69_code
def yJ9_min_7cf53 : MethodName := ⟨RJ9, "min", "(II)I"⟩
def RJ0 : String := "java/lang/String"
def TJ0 : u_T := fun k => match k with
  | _ => ("", "", "", false)
def tyJ0 : Nat → FieldType := fun k => match k with
  | _ => .int
abbrev wsJ00 : List Cond := u_ws RJ0 TJ0 0
theorem nmJ0 : ∀ a, a < 0 → ∀ b, b < 0 → a ≠ b → (TJ0 a).2.1 ≠ (TJ0 b).2.1 := by decide +kernel
theorem tyJ0_ok : ∀ k, k < 0 → parseFieldDescriptor (TJ0 k).2.2.1 = some (tyJ0 k) := by decide +kernel
abbrev cJ0_length_8abf5 : ByteArray := prog_23_method_54_code
def yJ0_length_8abf5 : MethodName := ⟨RJ0, "length", "()I"⟩
abbrev cJ0_charAt_5068e : ByteArray := prog_23_method_56_code
def yJ0_charAt_5068e : MethodName := ⟨RJ0, "charAt", "(I)C"⟩
abbrev cJ0_indexOf_0f7a4 : ByteArray := prog_23_method_79_code
def yJ0_indexOf_0f7a4 : MethodName := ⟨RJ0, "indexOf", "(I)I"⟩
abbrev cJ0_indexOf_7cf53 : ByteArray := prog_23_method_80_code
def yJ0_indexOf_7cf53 : MethodName := ⟨RJ0, "indexOf", "(II)I"⟩
abbrev cJ0_coder_7d493 : ByteArray := prog_23_method_152_code
def yJ0_coder_7d493 : MethodName := ⟨RJ0, "coder", "()B"⟩
abbrev cJ0_isLatin1_aae02 : ByteArray := prog_23_method_154_code
def yJ0_isLatin1_aae02 : MethodName := ⟨RJ0, "isLatin1", "()Z"⟩
abbrev cJ0_checkIndex_df160 : ByteArray := prog_23_method_155_code
def yJ0_checkIndex_df160 : MethodName := ⟨RJ0, "checkIndex", "(II)V"⟩
abbrev cJ0_checkBoundsBeginEnd_23922 : ByteArray := prog_23_method_158_code
def yJ0_checkBoundsBeginEnd_23922 : MethodName := ⟨RJ0, "checkBoundsBeginEnd", "(III)V"⟩
def RJ1 : String := "java/lang/StringLatin1"
def TJ1 : u_T := fun k => match k with
  | _ => ("", "", "", false)
def tyJ1 : Nat → FieldType := fun k => match k with
  | _ => .int
abbrev wsJ10 : List Cond := u_ws RJ1 TJ1 0
theorem nmJ1 : ∀ a, a < 0 → ∀ b, b < 0 → a ≠ b → (TJ1 a).2.1 ≠ (TJ1 b).2.1 := by decide +kernel
theorem tyJ1_ok : ∀ k, k < 0 → parseFieldDescriptor (TJ1 k).2.2.1 = some (tyJ1 k) := by decide +kernel
abbrev cJ1_charAt_3b067 : ByteArray := prog_24_method_2_code
def yJ1_charAt_3b067 : MethodName := ⟨RJ1, "charAt", "([BI)C"⟩
abbrev cJ1_canEncode_9a6ad : ByteArray := prog_24_method_4_code
def yJ1_canEncode_9a6ad : MethodName := ⟨RJ1, "canEncode", "(I)Z"⟩
abbrev cJ1_indexOf_4cfef : ByteArray := prog_24_method_22_code
def yJ1_indexOf_4cfef : MethodName := ⟨RJ1, "indexOf", "([BIII)I"⟩
abbrev cJ1_indexOfChar_4cfef : ByteArray := prog_24_method_23_code
def yJ1_indexOfChar_4cfef : MethodName := ⟨RJ1, "indexOfChar", "([BIII)I"⟩
def RJ2 : String := "java/lang/StringUTF16"
def TJ2 : u_T := fun k => match k with
  | _ => ("", "", "", false)
def tyJ2 : Nat → FieldType := fun k => match k with
  | _ => .int
abbrev wsJ20 : List Cond := u_ws RJ2 TJ2 0
theorem nmJ2 : ∀ a, a < 0 → ∀ b, b < 0 → a ≠ b → (TJ2 a).2.1 ≠ (TJ2 b).2.1 := by decide +kernel
theorem tyJ2_ok : ∀ k, k < 0 → parseFieldDescriptor (TJ2 k).2.2.1 = some (tyJ2 k) := by decide +kernel
abbrev cJ2_getChar_3b067 : ByteArray := prog_25_method_5_code
def yJ2_getChar_3b067 : MethodName := ⟨RJ2, "getChar", "([BI)C"⟩
abbrev cJ2_length_9d52b : ByteArray := prog_25_method_6_code
def yJ2_length_9d52b : MethodName := ⟨RJ2, "length", "([B)I"⟩
abbrev cJ2_indexOf_4cfef : ByteArray := prog_25_method_40_code
def yJ2_indexOf_4cfef : MethodName := ⟨RJ2, "indexOf", "([BIII)I"⟩
abbrev cJ2_indexOfChar_4cfef : ByteArray := prog_25_method_47_code
def yJ2_indexOfChar_4cfef : MethodName := ⟨RJ2, "indexOfChar", "([BIII)I"⟩
abbrev cJ2_indexOfCharUnsafe_4cfef : ByteArray := prog_25_method_48_code
def yJ2_indexOfCharUnsafe_4cfef : MethodName := ⟨RJ2, "indexOfCharUnsafe", "([BIII)I"⟩
abbrev cJ2_indexOfSupplementary_4cfef : ByteArray := prog_25_method_49_code
def yJ2_indexOfSupplementary_4cfef : MethodName := ⟨RJ2, "indexOfSupplementary", "([BIII)I"⟩
abbrev cJ2_charAt_3b067 : ByteArray := prog_25_method_83_code
def yJ2_charAt_3b067 : MethodName := ⟨RJ2, "charAt", "([BI)C"⟩
abbrev cJ2_checkIndex_2214a : ByteArray := prog_25_method_91_code
def yJ2_checkIndex_2214a : MethodName := ⟨RJ2, "checkIndex", "(I[B)V"⟩
abbrev cJ2_checkBoundsBeginEnd_d044e : ByteArray := prog_25_method_93_code
def yJ2_checkBoundsBeginEnd_d044e : MethodName := ⟨RJ2, "checkBoundsBeginEnd", "(II[B)V"⟩
def RJ10 : String := "java/lang/System"
def TJ10 : u_T := fun k => match k with
  | _ => ("", "", "", false)
def tyJ10 : Nat → FieldType := fun k => match k with
  | _ => .int
abbrev wsJ100 : List Cond := u_ws RJ10 TJ10 0
theorem nmJ10 : ∀ a, a < 0 → ∀ b, b < 0 → a ≠ b → (TJ10 a).2.1 ≠ (TJ10 b).2.1 := by decide +kernel
theorem tyJ10_ok : ∀ k, k < 0 → parseFieldDescriptor (TJ10 k).2.2.1 = some (tyJ10 k) := by decide +kernel
def RJ3 : String := "jdk/internal/util/Preconditions"
def TJ3 : u_T := fun k => match k with
  | _ => ("", "", "", false)
def tyJ3 : Nat → FieldType := fun k => match k with
  | _ => .int
abbrev wsJ30 : List Cond := u_ws RJ3 TJ3 0
theorem nmJ3 : ∀ a, a < 0 → ∀ b, b < 0 → a ≠ b → (TJ3 a).2.1 ≠ (TJ3 b).2.1 := by decide +kernel
theorem tyJ3_ok : ∀ k, k < 0 → parseFieldDescriptor (TJ3 k).2.2.1 = some (tyJ3 k) := by decide +kernel
abbrev cJ3_checkIndex_8e157 : ByteArray := prog_28_method_11_code
def yJ3_checkIndex_8e157 : MethodName := ⟨RJ3, "checkIndex", "(IILjava/util/function/BiFunction;)I"⟩
abbrev cJ3_checkFromToIndex_8c36e : ByteArray := prog_28_method_12_code
def yJ3_checkFromToIndex_8c36e : MethodName := ⟨RJ3, "checkFromToIndex", "(IIILjava/util/function/BiFunction;)I"⟩
def RL : String := "HornBenchLaw"
abbrev cL_feed : ByteArray := method_3_code
def yL_feed : MethodName := ⟨RL, "feed", "(LHornBench;IIIII[J)I"⟩
abbrev cL_trim : ByteArray := method_4_code
def yL_trim : MethodName := ⟨RL, "trim", "(LHornBench;I[J)I"⟩
abbrev cL_drop : ByteArray := method_5_code
def yL_drop : MethodName := ⟨RL, "drop", "(LHornBench;I[J)I"⟩
abbrev cL_count : ByteArray := method_6_code
def yL_count : MethodName := ⟨RL, "count", "(LHornBench;I[J)I"⟩
abbrev cL_clause : ByteArray := method_7_code
def yL_clause : MethodName := ⟨RL, "clause", "(LHornBench;II[J)I"⟩
abbrev cL_run : ByteArray := method_8_code
def yL_run : MethodName := ⟨RL, "run", "(LHornBench;I[J)I"⟩
abbrev cL_write : ByteArray := method_9_code
def yL_write : MethodName := ⟨RL, "write", "(LHornBench;I[J)I"⟩
abbrev cL_writeGoal : ByteArray := method_10_code
def yL_writeGoal : MethodName := ⟨RL, "writeGoal", "(LHornBench;[J)I"⟩
abbrev cL_byteAt : ByteArray := method_11_code
def yL_byteAt : MethodName := ⟨RL, "byteAt", "(LHornBench;I[J)I"⟩
abbrev cL_number : ByteArray := method_12_code
def yL_number : MethodName := ⟨RL, "number", "(LHornBench;I[J)I"⟩
abbrev cL_isSame : ByteArray := method_13_code
def yL_isSame : MethodName := ⟨RL, "isSame", "(LHornBench;II[J)I"⟩
abbrev cL_law : ByteArray := code
def yL_law : MethodName := ⟨RL, "law", "([I)Z"⟩
abbrev vwCl : List vw_C := [(RX0, TX0, 3), (RX1, TX1, 6), (RX2, TX2, 4), (RX3, TX3, 15), (RX4, TX4, 11), (RX5, TX5, 10), (RX6, TX6, 19), (RX7, TX7, 2), (RX8, TX8, 7), (RX9, TX9, 5), (RX10, TX10, 8), (RX11, TX11, 18), (RX12, TX12, 62)]
end
section
/-! A SMALL MACHINE: what a run of the code does, over cells with numbers of their own (0, 1, 2 .. in the order in which they are made; am_EXT and on: the things that are there at the start). Its runs are computed; part 06 shows that the machine itself does what a run of the small one tells. -/
abbrev AmL : Type := List (Nat × Value)
/-- info (tag, size) of each cell; contents; next cell; cells made; slots made -/
abbrev AmS : Type := (Nat → Nat × Nat) × (Nat → Nat → Value) × Nat × Nat × Nat
/-- op, a, b, c, table -/
abbrev AmIns : Type := Nat × Nat × Nat × Int × List (Int × Nat)
abbrev AmR : Type := Option (Nat × AmL × List Value × AmS)
def am_EXT : Nat := 1000000
def am_upI (f : Nat → Nat × Nat) (k : Nat) (v : Nat × Nat) : Nat → Nat × Nat := fun j => cond (Nat.beq j k) v (f j)
def am_upM (f : Nat → Nat → Value) (a k : Nat) (v : Value) : Nat → Nat → Value := fun b j => cond (Nat.beq b a) (cond (Nat.beq j k) v (f b j)) (f b j)
def am_newM (f : Nat → Nat → Value) (a : Nat) (d : Nat → Value) : Nat → Nat → Value := fun b j => cond (Nat.beq b a) (d j) (f b j)
def am_kd : Value → Nat
  | .int _ => 0
  | .long _ => 1
  | .double _ => 2
  | .ref _ => 3
  | .null => 3
  | _ => 9
def am_lk : AmL → Nat → Option Value
  | [], _ => none
  | q :: l, i => cond (Nat.beq q.1 i) (some q.2) (am_lk l i)
def am_ib (b : Nat) (x y : Int32) : Option Int32 :=
  match b with
  | 0 => some (x + y)
  | 1 => some (x - y)
  | 2 => some (x * y)
  | 3 => cond (decide (y = 0)) none (some (x / y))
  | 4 => cond (decide (y = 0)) none (some (x - x / y * y))
  | 5 => some (x &&& y)
  | 6 => some (x ||| y)
  | 7 => some (x <<< (y &&& 31))
  | 8 => some (x >>> (y &&& 31))
  | 9 => some (x.toUInt32 >>> (y.toUInt32 &&& Int32.toUInt32 31)).toInt32
  | _ => none
def am_lb (b : Nat) (x y : Int64) : Option Int64 :=
  match b with
  | 0 => some (x + y)
  | 1 => some (x - y)
  | 2 => some (x * y)
  | 3 => cond (decide (y = 0)) none (some (x / y))
  | 4 => cond (decide (y = 0)) none (some (x - x / y * y))
  | 5 => some (x &&& y)
  | 6 => some (x ||| y)
  | _ => none
def am_cv (b : Nat) (v : Value) : Option Value :=
  match b, v with
  | 0, .int x => some (.long x.toInt64)
  | 1, .long x => some (.int x.toInt32)
  | 2, .int x => some (.int x.toInt8.toInt32)
  | 3, .int x => some (.int (x.toUInt32 % 65536).toInt32)
  | 4, .int x => some (.double (FP.i2d x))
  | 5, .int x => some (.int (-x))
  | 6, .long x => some (.long (-x))
  | _, _ => none
def am_cn (b : Nat) (x y : Int32) : Bool :=
  match b with
  | 0 => decide (x = y)
  | 1 => !decide (x = y)
  | 2 => decide (x < y)
  | 3 => decide (y ≤ x)
  | 4 => decide (y < x)
  | _ => decide (x ≤ y)
def am_sw : List (Int × Nat) → Int → Nat → Nat
  | [], _, d => d
  | q :: l, x, d => cond (decide (q.1 = x)) q.2 (am_sw l x d)
/-- kinds of fields and answers: 0 int, 1 long, 2 double, 3 reference, 10 boolean, 11 byte, 12 char -/
def am_fit (k : Nat) (v : Value) : Bool :=
  match k, v with
  | 0, .int _ => true
  | 1, .long _ => true
  | 2, .double _ => true
  | 3, .ref _ => true
  | 3, .null => true
  | 10, .int x => decide (x = 0) || decide (x = 1)
  | 11, .int x => decide (x.toInt8.toInt32 = x)
  | 12, .int x => decide ((x.toUInt32 % 65536).toInt32 = x)
  | _, _ => false
def am_dv (k : Nat) : Value :=
  match k with
  | 1 => .long 0
  | 2 => .double 0
  | 3 => .null
  | _ => .int 0
/-- kind of the elements by the tag of an array: 61 int, 62 long, 63 boolean, 64 byte, 65 references; of the start: 71 int, 74 byte, 76 references -/
def am_ek (t : Nat) : Nat :=
  match t with
  | 61 => 0
  | 62 => 1
  | 63 => 10
  | 64 => 11
  | 65 => 3
  | 71 => 0
  | 74 => 11
  | 76 => 3
  | _ => 99
def am_in (i : Int32) (n : Nat) : Bool := !(decide (i < 0)) && Nat.blt i.toNatClampNeg n
def am_o0 (o : AmIns) (n : Nat) (ls : AmL) (st : List Value) (S : AmS) : AmR := match am_lk ls o.2.1 with
  | some v => cond (Nat.beq (am_kd v) o.2.2.1) (some (n + 1, ls, v :: st, S)) none
  | none => none
def am_o1 (o : AmIns) (n : Nat) (ls : AmL) (st : List Value) (S : AmS) : AmR := match st with
  | v :: r => cond (Nat.beq (am_kd v) o.2.2.1 && Nat.blt o.2.2.1 9) (cond (Nat.beq v.category 1)
      (some (n + 1, (o.2.1, v) :: ls.filter (fun q => !(q.1 == o.2.1) && !(q.1 + 1 == o.2.1 && q.2.category == 2)), r, S))
      (some (n + 1, (o.2.1, v) :: ls.filter (fun q => !(q.1 == o.2.1) && (!(q.1 == o.2.1 + 1) && !(q.1 + 1 == o.2.1 && q.2.category == 2))), r, S))) none
  | [] => none
def am_o2 (o : AmIns) (n : Nat) (ls : AmL) (st : List Value) (S : AmS) : AmR := some (n + 1, ls, .int (Int32.ofInt o.2.2.2.1) :: st, S)
def am_o3 (o : AmIns) (n : Nat) (ls : AmL) (st : List Value) (S : AmS) : AmR := some (n + 1, ls, .long (Int64.ofInt o.2.2.2.1) :: st, S)
def am_o4 (o : AmIns) (n : Nat) (ls : AmL) (st : List Value) (S : AmS) : AmR := some (n + 1, ls, .double 0 :: st, S)
def am_o5 (o : AmIns) (n : Nat) (ls : AmL) (st : List Value) (S : AmS) : AmR := some (n + 1, ls, .null :: st, S)
def am_o6 (o : AmIns) (n : Nat) (ls : AmL) (st : List Value) (S : AmS) : AmR := some (n + 1, ls, .ref (am_EXT + o.2.1) :: st, S)
def am_o8 (o : AmIns) (n : Nat) (ls : AmL) (st : List Value) (S : AmS) : AmR := match st with
  | .int y :: .int x :: r => match am_ib o.2.2.1 x y with
    | some z => some (n + 1, ls, .int z :: r, S)
    | none => none
  | _ => none
def am_o10 (o : AmIns) (n : Nat) (ls : AmL) (st : List Value) (S : AmS) : AmR := match st with
  | .long y :: .long x :: r => match am_lb o.2.2.1 x y with
    | some z => some (n + 1, ls, .long z :: r, S)
    | none => none
  | _ => none
def am_o11 (o : AmIns) (n : Nat) (ls : AmL) (st : List Value) (S : AmS) : AmR := match st with
  | .int y :: .long x :: r => cond (Nat.beq o.2.2.1 0) (some (n + 1, ls, .long (x <<< (y.toInt64 &&& 63)) :: r, S)) (some (n + 1, ls, .long (x >>> (y.toInt64 &&& 63)) :: r, S))
  | _ => none
def am_o13 (o : AmIns) (n : Nat) (ls : AmL) (st : List Value) (S : AmS) : AmR := match st with
  | .long y :: .long x :: r => some (n + 1, ls, .int (lg_cmp x y) :: r, S)
  | _ => none
def am_o14 (o : AmIns) (n : Nat) (ls : AmL) (st : List Value) (S : AmS) : AmR := match st with
  | v :: r => match am_cv o.2.2.1 v with
    | some w => some (n + 1, ls, w :: r, S)
    | none => none
  | _ => none
def am_o15 (o : AmIns) (n : Nat) (ls : AmL) (st : List Value) (S : AmS) : AmR := match st with
  | .double y :: .double x :: r => cond (decide (FP.ddiv x y &&& 0x7fffffffffffffff ≤ 0x7ff0000000000000)) (some (n + 1, ls, .double (FP.ddiv x y) :: r, S)) none
  | _ => none
def am_o16 (o : AmIns) (n : Nat) (ls : AmL) (st : List Value) (S : AmS) : AmR := match st with
  | .double y :: .double x :: r => some (n + 1, ls, .int (Op.cmpValue (FP.dcmp x y) (cond (Nat.beq o.2.2.1 0) .l .g)) :: r, S)
  | _ => none
def am_o17 (o : AmIns) (n : Nat) (ls : AmL) (st : List Value) (S : AmS) : AmR := match am_lk ls o.2.1 with
  | some (.int x) => some (n + 1, (o.2.1, .int (x + Int32.ofInt o.2.2.2.1)) :: ls.filter (fun q => !(q.1 == o.2.1) && !(q.1 + 1 == o.2.1 && q.2.category == 2)), st, S)
  | _ => none
def am_o18 (o : AmIns) (n : Nat) (ls : AmL) (st : List Value) (S : AmS) : AmR := match st with
  | .int x :: r => some (cond (am_cn o.2.2.1 x 0) o.2.1 (n + 1), ls, r, S)
  | _ => none
def am_o19 (o : AmIns) (n : Nat) (ls : AmL) (st : List Value) (S : AmS) : AmR := match st with
  | .int y :: .int x :: r => some (cond (am_cn o.2.2.1 x y) o.2.1 (n + 1), ls, r, S)
  | _ => none
def am_o20 (o : AmIns) (n : Nat) (ls : AmL) (st : List Value) (S : AmS) : AmR := match st with
  | .null :: r => some (cond (Nat.beq o.2.2.1 0) o.2.1 (n + 1), ls, r, S)
  | .ref _ :: r => some (cond (Nat.beq o.2.2.1 0) (n + 1) o.2.1, ls, r, S)
  | _ => none
def am_o22 (o : AmIns) (n : Nat) (ls : AmL) (st : List Value) (S : AmS) : AmR := some (o.2.1, ls, st, S)
def am_o23 (o : AmIns) (n : Nat) (ls : AmL) (st : List Value) (S : AmS) : AmR := match st with
  | .int x :: r => some (am_sw o.2.2.2.2 x.toInt o.2.1, ls, r, S)
  | _ => none
/-- getfield: class a, field b -/
def am_o24 (o : AmIns) (n : Nat) (ls : AmL) (st : List Value) (S : AmS) : AmR := match st with
  | .ref k :: r => cond (Nat.beq (S.1 k).1 (o.2.1 + 1)) (some (n + 1, ls, S.2.1 k o.2.2.1 :: r, S)) none
  | _ => none
/-- putfield: class a, field b, kind c -/
def am_o25 (o : AmIns) (n : Nat) (ls : AmL) (st : List Value) (S : AmS) : AmR := match st with
  | v :: .ref k :: r => cond (Nat.beq (S.1 k).1 (o.2.1 + 1) && (Nat.blt k S.2.2.1 && am_fit o.2.2.2.1.toNat v)) (some (n + 1, ls, r, (S.1, am_upM S.2.1 k o.2.2.1 v, S.2.2))) none
  | _ => none
def am_o26 (o : AmIns) (n : Nat) (ls : AmL) (st : List Value) (S : AmS) : AmR := match st with
  | v :: r => cond (Nat.beq v.category 1) (some (n + 1, ls, v :: v :: r, S)) none
  | _ => none
def am_o27 (o : AmIns) (n : Nat) (ls : AmL) (st : List Value) (S : AmS) : AmR := match st with
  | v :: r => cond (Nat.beq v.category 1) (some (n + 1, ls, r, S)) none
  | _ => none
/-- new: class a with b fields, their kinds -/
def am_o28 (o : AmIns) (n : Nat) (ls : AmL) (st : List Value) (S : AmS) (fk : Nat → Nat → Nat) : AmR := cond (Nat.blt S.2.2.1 am_EXT)
  (some (n + 1, ls, .ref S.2.2.1 :: st, (am_upI S.1 S.2.2.1 (o.2.1 + 1, o.2.2.1), am_newM S.2.1 S.2.2.1 (fun j => am_dv (fk o.2.1 j)), S.2.2.1 + 1, S.2.2.2.1 + 1, S.2.2.2.2 + o.2.2.1))) none
/-- newarray, anewarray: tag a -/
def am_o29 (o : AmIns) (n : Nat) (ls : AmL) (st : List Value) (S : AmS) : AmR := match st with
  | .int x :: r => cond (!(decide (x < 0)) && (Nat.ble x.toNatClampNeg 1000000 && Nat.blt S.2.2.1 am_EXT))
      (some (n + 1, ls, .ref S.2.2.1 :: r, (am_upI S.1 S.2.2.1 (o.2.1, x.toNatClampNeg), am_newM S.2.1 S.2.2.1 (fun _ => am_dv (am_ek o.2.1)), S.2.2.1 + 1, S.2.2.2.1 + 1, S.2.2.2.2 + x.toNatClampNeg))) none
  | _ => none
def am_o31 (o : AmIns) (n : Nat) (ls : AmL) (st : List Value) (S : AmS) : AmR := match st with
  | .ref k :: r => cond (Nat.blt 60 (S.1 k).1 && Nat.blt (S.1 k).1 77) (some (n + 1, ls, .int (Int32.ofNat (S.1 k).2) :: r, S)) none
  | _ => none
/-- a load of an element: kind b -/
def am_o32 (o : AmIns) (n : Nat) (ls : AmL) (st : List Value) (S : AmS) : AmR := match st with
  | .int i :: .ref k :: r => cond ((Nat.beq (am_ek (S.1 k).1) o.2.2.1 || (Nat.beq o.2.2.1 11 && Nat.beq (am_ek (S.1 k).1) 10)) && am_in i (S.1 k).2) (some (n + 1, ls, S.2.1 k i.toNatClampNeg :: r, S)) none
  | _ => none
def am_nar (t : Nat) (v : Value) : Value :=
  match t, v with
  | 63, .int x => .int (x &&& 1)
  | 64, .int x => .int x.toInt8.toInt32
  | _, v => v
/-- a store: the array's tag a (63 or 64 at a bastore), class of what is stored b -/
def am_o33 (o : AmIns) (n : Nat) (ls : AmL) (st : List Value) (S : AmS) : AmR := match st with
  | v :: .int i :: .ref k :: r => cond ((Nat.beq (S.1 k).1 o.2.1 || (Nat.beq o.2.1 64 && Nat.beq (S.1 k).1 63)) && (am_in i (S.1 k).2 && (Nat.blt k S.2.2.1 && cond (Nat.beq o.2.1 65) (match v with
      | .ref q => Nat.beq (S.1 q).1 (o.2.2.1 + 1)
      | _ => false) (Nat.beq (am_kd v) (cond (Nat.beq o.2.1 62) 1 0)))))
      (some (n + 1, ls, r, (S.1, am_upM S.2.1 k i.toNatClampNeg (am_nar (S.1 k).1 v), S.2.2))) none
  | _ => none
/-- checkcast of an array of int to its own class -/
def am_o34 (o : AmIns) (n : Nat) (ls : AmL) (st : List Value) (S : AmS) : AmR := match st with
  | .ref k :: r => cond (Nat.beq (S.1 k).1 61) (some (n + 1, ls, .ref k :: r, S)) none
  | _ => none
def am_o35 (o : AmIns) (n : Nat) (ls : AmL) (st : List Value) (S : AmS) : AmR := match st with
  | .ref _ :: r => cond (Nat.ble (r.map fun v => v.category).sum 100) (some (n + 1, ls, r, S)) none
  | _ => none
def am_o36 (o : AmIns) (n : Nat) (ls : AmL) (st : List Value) (S : AmS) : AmR := match st with
  | .int c :: .int dp :: .ref d :: .int sp :: .ref s :: r => cond (Nat.beq (S.1 s).1 61 && (Nat.beq (S.1 d).1 61 && (Nat.blt s S.2.2.1 && (Nat.blt d S.2.2.1 && (!(Nat.beq s d) && (decide (c = 600) && (decide (sp = 0) && (decide (dp = 0) && (Nat.beq (S.1 s).2 600 && (Nat.beq (S.1 d).2 600 && Nat.ble (r.map fun v => v.category).sum 8))))))))))
      (some (n + 1, ls, r, (S.1, (fun b j => cond (Nat.beq b d && Nat.blt j 600) (S.2.1 s j) (S.2.1 b j)), S.2.2))) none
  | _ => none
def am_o37 (o : AmIns) (n : Nat) (ls : AmL) (st : List Value) (S : AmS) : AmR := match st with
  | .ref k :: r => cond (Nat.beq (S.1 k).1 61 && (Nat.blt k S.2.2.1 && (Nat.blt S.2.2.1 am_EXT && (Nat.blt (S.1 k).2 1000000 && Nat.ble (r.map fun v => v.category).sum 8))))
      (some (n + 1, ls, .ref S.2.2.1 :: r, (am_upI S.1 S.2.2.1 (61, (S.1 k).2), am_newM S.2.1 S.2.2.1 (S.2.1 k), S.2.2.1 + 1, S.2.2.2.1 + 1, S.2.2.2.2 + (S.1 k).2))) none
  | _ => none
/-- Math: 0 max, 1 min, 2 abs of a long -/
def am_o38 (o : AmIns) (n : Nat) (ls : AmL) (st : List Value) (S : AmS) : AmR := match o.2.2.1, st with
  | 0, .int y :: .int x :: r => cond (Nat.ble (r.map fun v => v.category).sum 8) (some (n + 1, ls, .int (cond (decide (x < y)) y x) :: r, S)) none
  | 1, .int y :: .int x :: r => cond (Nat.ble (r.map fun v => v.category).sum 8) (some (n + 1, ls, .int (cond (decide (y < x)) y x) :: r, S)) none
  | 2, .long x :: r => cond (Nat.ble (r.map fun v => v.category).sum 8) (some (n + 1, ls, .long (cond (decide (0 < x)) x (-x)) :: r, S)) none
  | _, _ => none
/-- one instruction that is no call, no return and no throw -/
def am_nxt (o : AmIns) (n : Nat) (ls : AmL) (st : List Value) (S : AmS) (fk : Nat → Nat → Nat) : AmR :=
  cond (Nat.beq o.1 0) (am_o0 o n ls st S) <| cond (Nat.beq o.1 24) (am_o24 o n ls st S) <| cond (Nat.beq o.1 2) (am_o2 o n ls st S) <| cond (Nat.beq o.1 19) (am_o19 o n ls st S) <|
  cond (Nat.beq o.1 18) (am_o18 o n ls st S) <| cond (Nat.beq o.1 32) (am_o32 o n ls st S) <| cond (Nat.beq o.1 25) (am_o25 o n ls st S) <| cond (Nat.beq o.1 22) (am_o22 o n ls st S) <|
  cond (Nat.beq o.1 1) (am_o1 o n ls st S) <| cond (Nat.beq o.1 8) (am_o8 o n ls st S) <| cond (Nat.beq o.1 33) (am_o33 o n ls st S) <| cond (Nat.beq o.1 26) (am_o26 o n ls st S) <|
  cond (Nat.beq o.1 29) (am_o29 o n ls st S) <| cond (Nat.beq o.1 17) (am_o17 o n ls st S) <| cond (Nat.beq o.1 3) (am_o3 o n ls st S) <| cond (Nat.beq o.1 13) (am_o13 o n ls st S) <|
  cond (Nat.beq o.1 31) (am_o31 o n ls st S) <| cond (Nat.beq o.1 14) (am_o14 o n ls st S) <| cond (Nat.beq o.1 6) (am_o6 o n ls st S) <| cond (Nat.beq o.1 10) (am_o10 o n ls st S) <|
  cond (Nat.beq o.1 28) (am_o28 o n ls st S fk) <| cond (Nat.beq o.1 20) (am_o20 o n ls st S) <| cond (Nat.beq o.1 23) (am_o23 o n ls st S) <| cond (Nat.beq o.1 11) (am_o11 o n ls st S) <|
  cond (Nat.beq o.1 35) (am_o35 o n ls st S) <| cond (Nat.beq o.1 27) (am_o27 o n ls st S) <| cond (Nat.beq o.1 4) (am_o4 o n ls st S) <| cond (Nat.beq o.1 5) (am_o5 o n ls st S) <|
  cond (Nat.beq o.1 15) (am_o15 o n ls st S) <| cond (Nat.beq o.1 16) (am_o16 o n ls st S) <| cond (Nat.beq o.1 34) (am_o34 o n ls st S) <| cond (Nat.beq o.1 36) (am_o36 o n ls st S) <|
  cond (Nat.beq o.1 37) (am_o37 o n ls st S) <| cond (Nat.beq o.1 38) (am_o38 o n ls st S) none
/-- what a method comes to: an answer, or an exception (its class' number, its cell) -/
abbrev AmO : Type := Option Value ⊕ Nat × Nat
/-- code of each method; (static 1 or the receiver's class + 2, number of arguments with the receiver, the rows of its table: from, behind, handler, class); kinds of the fields -/
abbrev AmP : Type := (Nat → List AmIns) × (Nat → Nat × Nat × List (Nat × Nat × Nat × Nat)) × (Nat → Nat → Nat)
def am_hd : List (Nat × Nat × Nat × Nat) → Nat → Nat → Option Nat
  | [], _, _ => none
  | q :: l, n, E => cond (Nat.ble q.1 n && (Nat.blt n q.2.1 && Nat.beq q.2.2.2 E)) (some q.2.2.1) (am_hd l n E)
def am_ends (o : AmIns) (st : List Value) (S : AmS) : Option (AmO × AmS) := match st with
  | [] => cond (Nat.beq o.2.2.1 9) (some (.inl none, S)) none
  | v :: [] => cond (am_fit o.2.2.1 v && !(Nat.beq o.2.2.1 3)) (some (.inl (some v), S)) none
  | _ => none
def am_thr (o : AmIns) (st : List Value) (S : AmS) : Option (AmO × AmS) := cond (Nat.ble (st.map fun v => v.category).sum 8 && Nat.blt S.2.2.1 am_EXT) (some (.inr (o.2.1, S.2.2.1), (am_upI S.1 S.2.2.1 (0, 0), am_newM S.2.1 S.2.2.1 (fun _ => .null), S.2.2.1 + 1, S.2.2.2.1 + 1, S.2.2.2.2 + 6))) none
/-- may the method be called on these arguments? -/
def am_ok (f : Nat × Nat × List (Nat × Nat × Nat × Nat)) (as rest : List Value) (S : AmS) : Bool :=
  Nat.beq as.length f.2.1 && (Nat.ble (rest.map fun v => v.category).sum 8 && cond (Nat.beq f.1 1) true (match as with
    | .ref k :: _ => Nat.beq ((S.1 k).1 + 1) f.1
    | _ => false))
def am_run (P : AmP) : Nat → Nat → Nat → Nat → AmL → List Value → AmS → Option (AmO × AmS)
  | 0, _, _, _, _, _, _ => none
  | f + 1, d, j, n, ls, st, S => match (P.1 j)[n]? with
    | none => none
    | some o => cond (Nat.beq o.1 40)
      (match d with
      | 0 => none
      | d' + 1 => cond (am_ok (P.2.1 o.2.1) (st.take o.2.2.1).reverse (st.drop o.2.2.1) S)
        (match am_run P f d' o.2.1 0 (lv_args 0 (st.take o.2.2.1).reverse) [] S with
        | none => none
        | some (.inl none, S1) => am_run P f d j (n + 1) ls (st.drop o.2.2.1) S1
        | some (.inl (some v), S1) => am_run P f d j (n + 1) ls (v :: st.drop o.2.2.1) S1
        | some (.inr (E, a), S1) => cond (decide (o.2.2.2.1 = 0)) (match am_hd (P.2.1 j).2.2 n E with
          | some h => am_run P f d j h ls [.ref a] S1
          | none => none) none) none)
      (cond (Nat.beq o.1 41) (am_ends o st S) (cond (Nat.beq o.1 42) (am_thr o st S)
        (match am_nxt o n ls st S P.2.2 with
        | some (n', ls', st', S') => am_run P f d j n' ls' st' S'
        | none => none)))
end
section
/-! THE TABLES of the small machine (written by wip/am/gen_code.py out of the claim's own print): methods, their code in its words, and the machine's instruction and the place of its word behind each. -/
/-- 0: HornBench$Cells.<init>()V -/
def am_c0 : List AmIns := [(0, 0, 3, 0, []), (35, 0, 0, 0, []), (0, 0, 3, 0, []), (2, 0, 0, 8016, []), (29, 63, 0, 0, []), (25, 0, 0, 3, []), (0, 0, 3, 0, []), (2, 0, 0, 8016, []), (29, 61, 0, 0, []), (25, 0, 1, 3, []), (41, 0, 9, 0, [])]
/-- 1: HornBench$Cells.size()I -/
def am_c1 : List AmIns := [(0, 0, 3, 0, []), (24, 0, 2, 0, []), (41, 0, 0, 0, [])]
/-- 2: HornBench$Cells.item(I)I -/
def am_c2 : List AmIns := [(0, 1, 0, 0, []), (18, 16, 2, 0, []), (0, 1, 0, 0, []), (0, 0, 3, 0, []), (24, 0, 2, 0, []), (19, 16, 3, 0, []), (0, 1, 0, 0, []), (0, 0, 3, 0, []), (24, 0, 1, 3, []), (31, 0, 0, 0, []), (19, 16, 3, 0, []), (0, 0, 3, 0, []), (24, 0, 1, 3, []), (0, 1, 0, 0, []), (32, 0, 0, 0, []), (22, 17, 0, 0, []), (2, 0, 0, (-1), []), (41, 0, 0, 0, [])]
/-- 3: HornBench$Cells.holds(I)Z -/
def am_c3 : List AmIns := [(0, 1, 0, 0, []), (18, 14, 2, 0, []), (0, 1, 0, 0, []), (0, 0, 3, 0, []), (24, 0, 0, 3, []), (31, 0, 0, 0, []), (19, 14, 3, 0, []), (0, 0, 3, 0, []), (24, 0, 0, 3, []), (0, 1, 0, 0, []), (32, 0, 11, 0, []), (18, 14, 0, 0, []), (2, 0, 0, 1, []), (22, 15, 0, 0, []), (2, 0, 0, 0, []), (41, 0, 10, 0, [])]
/-- 4: HornBench$Cells.include(I)V -/
def am_c4 : List AmIns := [(0, 1, 0, 0, []), (18, 38, 2, 0, []), (0, 1, 0, 0, []), (0, 0, 3, 0, []), (24, 0, 0, 3, []), (31, 0, 0, 0, []), (19, 38, 3, 0, []), (0, 0, 3, 0, []), (24, 0, 0, 3, []), (0, 1, 0, 0, []), (32, 0, 11, 0, []), (18, 38, 1, 0, []), (0, 0, 3, 0, []), (24, 0, 2, 0, []), (18, 38, 2, 0, []), (0, 0, 3, 0, []), (24, 0, 2, 0, []), (0, 0, 3, 0, []), (24, 0, 1, 3, []), (31, 0, 0, 0, []), (19, 38, 3, 0, []), (0, 0, 3, 0, []), (24, 0, 0, 3, []), (0, 1, 0, 0, []), (2, 0, 0, 1, []), (33, 64, 11, 0, []), (0, 0, 3, 0, []), (24, 0, 1, 3, []), (0, 0, 3, 0, []), (24, 0, 2, 0, []), (0, 1, 0, 0, []), (33, 61, 11, 0, []), (0, 0, 3, 0, []), (26, 0, 0, 0, []), (24, 0, 2, 0, []), (2, 0, 0, 1, []), (8, 0, 0, 0, []), (25, 0, 2, 0, []), (41, 0, 9, 0, [])]
/-- 5: HornBench$Cells.empty()V -/
def am_c5 : List AmIns := [(2, 0, 0, 0, []), (1, 1, 0, 0, []), (0, 1, 0, 0, []), (0, 0, 3, 0, []), (24, 0, 2, 0, []), (19, 30, 3, 0, []), (0, 1, 0, 0, []), (0, 0, 3, 0, []), (24, 0, 1, 3, []), (31, 0, 0, 0, []), (19, 30, 3, 0, []), (0, 0, 3, 0, []), (24, 0, 1, 3, []), (0, 1, 0, 0, []), (32, 0, 0, 0, []), (1, 2, 0, 0, []), (0, 2, 0, 0, []), (18, 28, 2, 0, []), (0, 2, 0, 0, []), (0, 0, 3, 0, []), (24, 0, 0, 3, []), (31, 0, 0, 0, []), (19, 28, 3, 0, []), (0, 0, 3, 0, []), (24, 0, 0, 3, []), (0, 2, 0, 0, []), (2, 0, 0, 0, []), (33, 64, 11, 0, []), (17, 1, 0, 1, []), (22, 2, 0, 0, []), (0, 0, 3, 0, []), (2, 0, 0, 0, []), (25, 0, 2, 0, []), (41, 0, 9, 0, [])]
/-- 6: HornBench$Evaluator.<init>(LHornBench$Terms;)V -/
def am_c6 : List AmIns := [(0, 0, 3, 0, []), (35, 0, 0, 0, []), (0, 0, 3, 0, []), (28, 0, 3, 0, []), (26, 0, 0, 0, []), (40, 0, 1, 11, []), (25, 1, 1, 3, []), (0, 0, 3, 0, []), (2, 0, 0, 8016, []), (29, 61, 0, 0, []), (25, 1, 2, 3, []), (0, 0, 3, 0, []), (2, 0, 0, 8016, []), (29, 61, 0, 0, []), (25, 1, 3, 3, []), (0, 0, 3, 0, []), (0, 1, 3, 0, []), (25, 1, 0, 3, []), (41, 0, 9, 0, [])]
/-- 7: HornBench$Evaluator.evaluate(I)Z -/
def am_c7 : List AmIns := [(0, 0, 3, 0, []), (0, 1, 0, 0, []), (2, 0, 0, 0, []), (40, 9, 3, 0, []), (1, 2, 0, 0, []), (0, 0, 3, 0, []), (24, 1, 1, 3, []), (40, 5, 1, 0, []), (0, 2, 0, 0, []), (41, 0, 10, 0, [])]
/-- 8: HornBench$Evaluator.value()I -/
def am_c8 : List AmIns := [(0, 0, 3, 0, []), (24, 1, 4, 0, []), (41, 0, 0, 0, [])]
/-- 9: HornBench$Evaluator.find(II)Z -/
def am_c9 : List AmIns := [(0, 0, 3, 0, []), (24, 1, 0, 3, []), (0, 1, 0, 0, []), (40, 135, 2, 0, []), (1, 3, 0, 0, []), (0, 0, 3, 0, []), (24, 1, 1, 3, []), (0, 3, 0, 0, []), (40, 3, 2, 0, []), (18, 32, 0, 0, []), (0, 0, 3, 0, []), (0, 0, 3, 0, []), (24, 1, 2, 3, []), (0, 3, 0, 0, []), (40, 182, 2, 12, []), (25, 1, 4, 0, []), (0, 0, 3, 0, []), (0, 0, 3, 0, []), (24, 1, 3, 3, []), (0, 3, 0, 0, []), (40, 182, 2, 12, []), (25, 1, 5, 0, []), (0, 2, 0, 0, []), (0, 0, 3, 0, []), (24, 1, 5, 0, []), (8, 0, 0, 0, []), (2, 0, 0, 60, []), (19, 30, 4, 0, []), (2, 0, 0, 1, []), (22, 31, 0, 0, []), (2, 0, 0, 0, []), (41, 0, 10, 0, []), (0, 0, 3, 0, []), (0, 0, 3, 0, []), (24, 1, 0, 3, []), (0, 1, 0, 0, []), (40, 136, 2, 0, []), (0, 2, 0, 0, []), (40, 10, 3, 0, []), (1, 4, 0, 0, []), (0, 4, 0, 0, []), (18, 61, 0, 0, []), (0, 3, 0, 0, []), (2, 0, 0, (-1), []), (19, 61, 0, 0, []), (0, 0, 3, 0, []), (24, 1, 2, 3, []), (0, 3, 0, 0, []), (0, 0, 3, 0, []), (24, 1, 4, 0, []), (40, 183, 3, 12, []), (0, 0, 3, 0, []), (24, 1, 3, 3, []), (0, 3, 0, 0, []), (0, 0, 3, 0, []), (24, 1, 5, 0, []), (40, 183, 3, 12, []), (0, 0, 3, 0, []), (24, 1, 1, 3, []), (0, 3, 0, 0, []), (40, 4, 2, 0, []), (0, 4, 0, 0, []), (41, 0, 10, 0, [])]
/-- 10: HornBench$Evaluator.compute(II)Z -/
def am_c10 : List AmIns := [(0, 0, 3, 0, []), (24, 1, 0, 3, []), (0, 1, 0, 0, []), (40, 138, 2, 0, []), (18, 16, 0, 0, []), (0, 0, 3, 0, []), (0, 0, 3, 0, []), (24, 1, 0, 3, []), (0, 1, 0, 0, []), (40, 139, 2, 0, []), (25, 1, 4, 0, []), (0, 0, 3, 0, []), (2, 0, 0, 0, []), (25, 1, 5, 0, []), (2, 0, 0, 1, []), (41, 0, 10, 0, []), (0, 0, 3, 0, []), (24, 1, 0, 3, []), (0, 1, 0, 0, []), (40, 131, 2, 0, []), (18, 24, 0, 0, []), (0, 2, 0, 0, []), (2, 0, 0, 60, []), (19, 26, 2, 0, []), (2, 0, 0, 0, []), (41, 0, 10, 0, []), (0, 0, 3, 0, []), (24, 1, 0, 3, []), (0, 1, 0, 0, []), (40, 133, 2, 0, []), (1, 3, 0, 0, []), (0, 0, 3, 0, []), (0, 3, 0, 0, []), (0, 2, 0, 0, []), (2, 0, 0, 1, []), (8, 0, 0, 0, []), (40, 9, 3, 0, []), (18, 40, 1, 0, []), (2, 0, 0, 0, []), (41, 0, 10, 0, []), (0, 0, 3, 0, []), (24, 1, 4, 0, []), (1, 4, 0, 0, []), (0, 0, 3, 0, []), (24, 1, 5, 0, []), (1, 5, 0, 0, []), (0, 0, 3, 0, []), (0, 0, 3, 0, []), (24, 1, 0, 3, []), (0, 3, 0, 0, []), (40, 134, 2, 0, []), (0, 2, 0, 0, []), (2, 0, 0, 1, []), (8, 0, 0, 0, []), (40, 9, 3, 0, []), (18, 58, 1, 0, []), (2, 0, 0, 0, []), (41, 0, 10, 0, []), (0, 0, 3, 0, []), (2, 0, 0, 1, []), (0, 5, 0, 0, []), (0, 0, 3, 0, []), (24, 1, 5, 0, []), (38, 0, 0, 0, []), (8, 0, 0, 0, []), (25, 1, 5, 0, []), (0, 0, 3, 0, []), (0, 0, 3, 0, []), (24, 1, 0, 3, []), (0, 1, 0, 0, []), (40, 130, 2, 0, []), (0, 4, 0, 0, []), (0, 0, 3, 0, []), (24, 1, 4, 0, []), (40, 11, 4, 0, []), (41, 0, 10, 0, [])]
/-- 11: HornBench$Evaluator.apply(JII)Z -/
def am_c11 : List AmIns := [(0, 1, 1, 0, []), (3, 0, 0, 43, []), (13, 0, 0, 0, []), (18, 11, 1, 0, []), (0, 0, 3, 0, []), (0, 3, 0, 0, []), (0, 4, 0, 0, []), (8, 0, 0, 0, []), (25, 1, 4, 0, []), (2, 0, 0, 1, []), (41, 0, 10, 0, []), (0, 1, 1, 0, []), (3, 0, 0, 45, []), (13, 0, 0, 0, []), (18, 22, 1, 0, []), (0, 0, 3, 0, []), (0, 3, 0, 0, []), (0, 4, 0, 0, []), (8, 0, 1, 0, []), (25, 1, 4, 0, []), (2, 0, 0, 1, []), (41, 0, 10, 0, []), (0, 1, 1, 0, []), (3, 0, 0, 42, []), (13, 0, 0, 0, []), (18, 33, 1, 0, []), (0, 0, 3, 0, []), (0, 3, 0, 0, []), (0, 4, 0, 0, []), (8, 0, 2, 0, []), (25, 1, 4, 0, []), (2, 0, 0, 1, []), (41, 0, 10, 0, []), (0, 4, 0, 0, []), (18, 37, 1, 0, []), (2, 0, 0, 0, []), (41, 0, 10, 0, []), (0, 0, 3, 0, []), (0, 1, 1, 0, []), (3, 0, 0, 47, []), (13, 0, 0, 0, []), (18, 46, 1, 0, []), (0, 3, 0, 0, []), (0, 4, 0, 0, []), (8, 0, 3, 0, []), (22, 49, 0, 0, []), (0, 3, 0, 0, []), (0, 4, 0, 0, []), (8, 0, 4, 0, []), (25, 1, 4, 0, []), (2, 0, 0, 1, []), (41, 0, 10, 0, [])]
/-- 12: HornBench$Matcher.<init>(LHornBench$Terms;)V -/
def am_c12 : List AmIns := [(0, 0, 3, 0, []), (35, 0, 0, 0, []), (0, 0, 3, 0, []), (2, 0, 0, 64128, []), (29, 61, 0, 0, []), (25, 2, 1, 3, []), (0, 0, 3, 0, []), (2, 0, 0, 32064, []), (29, 61, 0, 0, []), (25, 2, 2, 3, []), (0, 0, 3, 0, []), (0, 1, 3, 0, []), (25, 2, 0, 3, []), (41, 0, 9, 0, [])]
/-- 13: HornBench$Matcher.match(IIZ)Z -/
def am_c13 : List AmIns := [(0, 0, 3, 0, []), (24, 2, 0, 3, []), (40, 142, 1, 0, []), (1, 4, 0, 0, []), (0, 0, 3, 0, []), (0, 1, 0, 0, []), (0, 2, 0, 0, []), (0, 3, 0, 0, []), (40, 14, 4, 0, []), (1, 5, 0, 0, []), (2, 0, 0, 0, []), (1, 6, 0, 0, []), (0, 6, 0, 0, []), (0, 0, 3, 0, []), (24, 2, 3, 0, []), (19, 71, 3, 0, []), (0, 5, 0, 0, []), (18, 71, 0, 0, []), (0, 0, 3, 0, []), (24, 2, 2, 3, []), (0, 6, 0, 0, []), (40, 182, 2, 12, []), (1, 7, 0, 0, []), (0, 0, 3, 0, []), (24, 2, 0, 3, []), (0, 7, 0, 0, []), (40, 133, 2, 0, []), (1, 8, 0, 0, []), (0, 0, 3, 0, []), (24, 2, 0, 3, []), (0, 0, 3, 0, []), (24, 2, 1, 3, []), (0, 7, 0, 0, []), (40, 182, 2, 12, []), (2, 0, 0, 1, []), (8, 0, 1, 0, []), (40, 133, 2, 0, []), (1, 9, 0, 0, []), (2, 0, 0, 0, []), (1, 10, 0, 0, []), (0, 10, 0, 0, []), (2, 0, 0, 4, []), (19, 69, 3, 0, []), (0, 5, 0, 0, []), (18, 69, 0, 0, []), (0, 8, 0, 0, []), (2, 0, 0, (-1), []), (19, 69, 0, 0, []), (0, 9, 0, 0, []), (2, 0, 0, (-1), []), (19, 69, 0, 0, []), (0, 0, 3, 0, []), (0, 8, 0, 0, []), (0, 9, 0, 0, []), (0, 3, 0, 0, []), (40, 14, 4, 0, []), (1, 5, 0, 0, []), (0, 0, 3, 0, []), (24, 2, 0, 3, []), (0, 8, 0, 0, []), (40, 134, 2, 0, []), (1, 8, 0, 0, []), (0, 0, 3, 0, []), (24, 2, 0, 3, []), (0, 9, 0, 0, []), (40, 134, 2, 0, []), (1, 9, 0, 0, []), (17, 10, 0, 1, []), (22, 40, 0, 0, []), (17, 6, 0, 1, []), (22, 12, 0, 0, []), (2, 0, 0, 0, []), (1, 6, 0, 0, []), (0, 6, 0, 0, []), (0, 0, 3, 0, []), (24, 2, 3, 0, []), (19, 87, 3, 0, []), (0, 0, 3, 0, []), (24, 2, 1, 3, []), (0, 0, 3, 0, []), (24, 2, 2, 3, []), (0, 6, 0, 0, []), (40, 182, 2, 12, []), (2, 0, 0, 0, []), (40, 183, 3, 12, []), (17, 6, 0, 1, []), (22, 73, 0, 0, []), (0, 0, 3, 0, []), (2, 0, 0, 0, []), (25, 2, 3, 0, []), (0, 5, 0, 0, []), (18, 96, 1, 0, []), (0, 0, 3, 0, []), (24, 2, 0, 3, []), (0, 4, 0, 0, []), (40, 143, 2, 0, []), (0, 5, 0, 0, []), (41, 0, 10, 0, [])]
/-- 14: HornBench$Matcher.join(IIZ)Z -/
def am_c14 : List AmIns := [(0, 0, 3, 0, []), (0, 0, 3, 0, []), (24, 2, 0, 3, []), (0, 1, 0, 0, []), (40, 136, 2, 0, []), (40, 15, 2, 0, []), (1, 4, 0, 0, []), (0, 0, 3, 0, []), (0, 0, 3, 0, []), (24, 2, 0, 3, []), (0, 2, 0, 0, []), (40, 136, 2, 0, []), (40, 15, 2, 0, []), (1, 5, 0, 0, []), (0, 4, 0, 0, []), (0, 5, 0, 0, []), (19, 19, 1, 0, []), (2, 0, 0, 1, []), (41, 0, 10, 0, []), (0, 4, 0, 0, []), (0, 5, 0, 0, []), (38, 0, 0, 0, []), (1, 6, 0, 0, []), (0, 4, 0, 0, []), (0, 5, 0, 0, []), (38, 0, 1, 0, []), (1, 7, 0, 0, []), (0, 0, 3, 0, []), (24, 2, 0, 3, []), (0, 6, 0, 0, []), (40, 137, 2, 0, []), (18, 49, 0, 0, []), (0, 3, 0, 0, []), (18, 40, 0, 0, []), (0, 0, 3, 0, []), (24, 2, 0, 3, []), (0, 6, 0, 0, []), (0, 7, 0, 0, []), (40, 144, 3, 0, []), (18, 42, 0, 0, []), (2, 0, 0, 0, []), (41, 0, 10, 0, []), (0, 0, 3, 0, []), (24, 2, 0, 3, []), (0, 6, 0, 0, []), (0, 7, 0, 0, []), (40, 141, 3, 0, []), (2, 0, 0, 1, []), (41, 0, 10, 0, []), (0, 0, 3, 0, []), (24, 2, 0, 3, []), (0, 4, 0, 0, []), (40, 138, 2, 0, []), (18, 59, 1, 0, []), (0, 0, 3, 0, []), (24, 2, 0, 3, []), (0, 5, 0, 0, []), (40, 138, 2, 0, []), (18, 82, 0, 0, []), (0, 0, 3, 0, []), (24, 2, 0, 3, []), (0, 4, 0, 0, []), (40, 138, 2, 0, []), (18, 80, 0, 0, []), (0, 0, 3, 0, []), (24, 2, 0, 3, []), (0, 5, 0, 0, []), (40, 138, 2, 0, []), (18, 80, 0, 0, []), (0, 0, 3, 0, []), (24, 2, 0, 3, []), (0, 4, 0, 0, []), (40, 139, 2, 0, []), (0, 0, 3, 0, []), (24, 2, 0, 3, []), (0, 5, 0, 0, []), (40, 139, 2, 0, []), (19, 80, 1, 0, []), (2, 0, 0, 1, []), (22, 81, 0, 0, []), (2, 0, 0, 0, []), (41, 0, 10, 0, []), (0, 0, 3, 0, []), (24, 2, 0, 3, []), (0, 4, 0, 0, []), (0, 5, 0, 0, []), (40, 132, 3, 0, []), (18, 90, 1, 0, []), (2, 0, 0, 0, []), (41, 0, 10, 0, []), (0, 0, 3, 0, []), (24, 2, 0, 3, []), (0, 4, 0, 0, []), (40, 133, 2, 0, []), (2, 0, 0, (-1), []), (19, 115, 0, 0, []), (0, 0, 3, 0, []), (24, 2, 1, 3, []), (0, 4, 0, 0, []), (0, 5, 0, 0, []), (2, 0, 0, 1, []), (8, 0, 0, 0, []), (40, 183, 3, 12, []), (0, 0, 3, 0, []), (24, 2, 2, 3, []), (0, 0, 3, 0, []), (24, 2, 3, 0, []), (0, 4, 0, 0, []), (40, 183, 3, 12, []), (0, 0, 3, 0, []), (26, 0, 0, 0, []), (24, 2, 3, 0, []), (2, 0, 0, 1, []), (8, 0, 0, 0, []), (25, 2, 3, 0, []), (2, 0, 0, 1, []), (41, 0, 10, 0, [])]
/-- 15: HornBench$Matcher.root(I)I -/
def am_c15 : List AmIns := [(0, 1, 0, 0, []), (1, 2, 0, 0, []), (2, 0, 0, 0, []), (1, 3, 0, 0, []), (0, 3, 0, 0, []), (2, 0, 0, 64128, []), (19, 47, 3, 0, []), (0, 2, 0, 0, []), (18, 47, 2, 0, []), (0, 2, 0, 0, []), (0, 0, 3, 0, []), (24, 2, 1, 3, []), (31, 0, 0, 0, []), (19, 47, 3, 0, []), (0, 0, 3, 0, []), (24, 2, 1, 3, []), (0, 2, 0, 0, []), (32, 0, 0, 0, []), (2, 0, 0, 1, []), (8, 0, 1, 0, []), (1, 4, 0, 0, []), (0, 4, 0, 0, []), (18, 28, 2, 0, []), (0, 4, 0, 0, []), (0, 0, 3, 0, []), (24, 2, 1, 3, []), (31, 0, 0, 0, []), (19, 30, 2, 0, []), (0, 2, 0, 0, []), (41, 0, 0, 0, []), (0, 0, 3, 0, []), (24, 2, 1, 3, []), (0, 4, 0, 0, []), (32, 0, 0, 0, []), (18, 43, 0, 0, []), (0, 0, 3, 0, []), (24, 2, 1, 3, []), (0, 2, 0, 0, []), (0, 0, 3, 0, []), (24, 2, 1, 3, []), (0, 4, 0, 0, []), (32, 0, 0, 0, []), (33, 61, 11, 0, []), (0, 4, 0, 0, []), (1, 2, 0, 0, []), (17, 3, 0, 1, []), (22, 4, 0, 0, []), (0, 2, 0, 0, []), (41, 0, 0, 0, [])]
/-- 16: HornBench$Nodes.<init>()V -/
def am_c16 : List AmIns := [(0, 0, 3, 0, []), (35, 0, 0, 0, []), (0, 0, 3, 0, []), (2, 0, 0, 2624, []), (29, 61, 0, 0, []), (25, 3, 0, 3, []), (0, 0, 3, 0, []), (2, 0, 0, 2624, []), (29, 61, 0, 0, []), (25, 3, 1, 3, []), (0, 0, 3, 0, []), (2, 0, 0, 2624, []), (29, 62, 0, 0, []), (25, 3, 2, 3, []), (0, 0, 3, 0, []), (2, 0, 0, 2624, []), (29, 61, 0, 0, []), (25, 3, 3, 3, []), (0, 0, 3, 0, []), (2, 0, 0, 2624, []), (29, 61, 0, 0, []), (25, 3, 4, 3, []), (0, 0, 3, 0, []), (2, 0, 0, 2624, []), (29, 61, 0, 0, []), (25, 3, 5, 3, []), (0, 0, 3, 0, []), (2, 0, 0, 41, []), (29, 61, 0, 0, []), (25, 3, 6, 3, []), (0, 0, 3, 0, []), (2, 0, 0, 41, []), (29, 61, 0, 0, []), (25, 3, 7, 3, []), (0, 0, 3, 0, []), (2, 0, 0, 41, []), (29, 61, 0, 0, []), (25, 3, 8, 3, []), (0, 0, 3, 0, []), (2, 0, 0, 41, []), (29, 61, 0, 0, []), (25, 3, 9, 3, []), (0, 0, 3, 0, []), (2, 0, 0, 41, []), (29, 61, 0, 0, []), (25, 3, 10, 3, []), (0, 0, 3, 0, []), (2, 0, 0, 41, []), (29, 61, 0, 0, []), (25, 3, 11, 3, []), (2, 0, 0, 0, []), (1, 1, 0, 0, []), (0, 1, 0, 0, []), (0, 0, 3, 0, []), (24, 3, 6, 3, []), (31, 0, 0, 0, []), (19, 64, 3, 0, []), (0, 0, 3, 0, []), (24, 3, 6, 3, []), (0, 1, 0, 0, []), (0, 1, 0, 0, []), (33, 61, 11, 0, []), (17, 1, 0, 1, []), (22, 52, 0, 0, []), (41, 0, 9, 0, [])]
/-- 17: HornBench$Nodes.forget()V -/
def am_c17 : List AmIns := [(0, 0, 3, 0, []), (2, 0, 0, 0, []), (25, 3, 12, 0, []), (41, 0, 9, 0, [])]
/-- 18: HornBench$Nodes.keep(I)V -/
def am_c18 : List AmIns := [(0, 0, 3, 0, []), (0, 1, 0, 0, []), (25, 3, 12, 0, []), (41, 0, 9, 0, [])]
/-- 19: HornBench$Nodes.remove(I)V -/
def am_c19 : List AmIns := [(0, 0, 3, 0, []), (24, 3, 6, 3, []), (0, 1, 0, 0, []), (40, 182, 2, 12, []), (1, 2, 0, 0, []), (0, 1, 0, 0, []), (1, 3, 0, 0, []), (0, 3, 0, 0, []), (2, 0, 0, 39, []), (19, 22, 3, 0, []), (0, 0, 3, 0, []), (24, 3, 6, 3, []), (0, 3, 0, 0, []), (0, 0, 3, 0, []), (24, 3, 6, 3, []), (0, 3, 0, 0, []), (2, 0, 0, 1, []), (8, 0, 0, 0, []), (40, 182, 2, 12, []), (40, 183, 3, 12, []), (17, 3, 0, 1, []), (22, 7, 0, 0, []), (0, 0, 3, 0, []), (24, 3, 6, 3, []), (2, 0, 0, 39, []), (0, 2, 0, 0, []), (40, 183, 3, 12, []), (0, 0, 3, 0, []), (26, 0, 0, 0, []), (24, 3, 12, 0, []), (2, 0, 0, 1, []), (8, 0, 1, 0, []), (25, 3, 12, 0, []), (41, 0, 9, 0, [])]
/-- 20: HornBench$Nodes.begin(I)V -/
def am_c20 : List AmIns := [(0, 0, 3, 0, []), (0, 1, 0, 0, []), (25, 3, 13, 0, []), (0, 0, 3, 0, []), (2, 0, 0, 0, []), (25, 3, 14, 0, []), (41, 0, 9, 0, [])]
/-- 21: HornBench$Nodes.make(IIJI)I -/
def am_c21 : List AmIns := [(0, 0, 3, 0, []), (24, 3, 13, 0, []), (2, 0, 0, 64, []), (8, 0, 2, 0, []), (0, 0, 3, 0, []), (24, 3, 14, 0, []), (8, 0, 0, 0, []), (1, 6, 0, 0, []), (0, 0, 3, 0, []), (24, 3, 14, 0, []), (2, 0, 0, 64, []), (19, 17, 3, 0, []), (0, 6, 0, 0, []), (18, 17, 2, 0, []), (0, 6, 0, 0, []), (2, 0, 0, 2624, []), (19, 19, 2, 0, []), (2, 0, 0, (-1), []), (41, 0, 0, 0, []), (0, 0, 3, 0, []), (24, 3, 0, 3, []), (0, 6, 0, 0, []), (0, 1, 0, 0, []), (33, 61, 11, 0, []), (0, 0, 3, 0, []), (24, 3, 1, 3, []), (0, 6, 0, 0, []), (0, 2, 0, 0, []), (33, 61, 11, 0, []), (0, 0, 3, 0, []), (24, 3, 2, 3, []), (0, 6, 0, 0, []), (0, 3, 1, 0, []), (33, 62, 11, 0, []), (0, 0, 3, 0, []), (24, 3, 3, 3, []), (0, 6, 0, 0, []), (0, 5, 0, 0, []), (33, 61, 11, 0, []), (0, 0, 3, 0, []), (24, 3, 4, 3, []), (0, 6, 0, 0, []), (2, 0, 0, (-1), []), (33, 61, 11, 0, []), (0, 0, 3, 0, []), (24, 3, 13, 0, []), (2, 0, 0, 64, []), (8, 0, 2, 0, []), (0, 5, 0, 0, []), (8, 0, 0, 0, []), (1, 7, 0, 0, []), (0, 0, 3, 0, []), (24, 3, 5, 3, []), (0, 6, 0, 0, []), (0, 5, 0, 0, []), (18, 66, 2, 0, []), (0, 7, 0, 0, []), (18, 66, 2, 0, []), (0, 7, 0, 0, []), (2, 0, 0, 2624, []), (19, 66, 3, 0, []), (0, 0, 3, 0, []), (24, 3, 5, 3, []), (0, 7, 0, 0, []), (32, 0, 0, 0, []), (22, 68, 0, 0, []), (0, 0, 3, 0, []), (24, 3, 14, 0, []), (33, 61, 11, 0, []), (0, 0, 3, 0, []), (26, 0, 0, 0, []), (24, 3, 14, 0, []), (2, 0, 0, 1, []), (8, 0, 0, 0, []), (25, 3, 14, 0, []), (0, 0, 3, 0, []), (24, 3, 14, 0, []), (2, 0, 0, 1, []), (8, 0, 1, 0, []), (41, 0, 0, 0, [])]
/-- 22: HornBench$Nodes.chain(II)V -/
def am_c22 : List AmIns := [(0, 0, 3, 0, []), (24, 3, 13, 0, []), (2, 0, 0, 64, []), (8, 0, 2, 0, []), (0, 1, 0, 0, []), (8, 0, 0, 0, []), (1, 3, 0, 0, []), (0, 1, 0, 0, []), (2, 0, 0, (-1), []), (19, 22, 0, 0, []), (0, 3, 0, 0, []), (18, 22, 2, 0, []), (0, 3, 0, 0, []), (0, 0, 3, 0, []), (24, 3, 4, 3, []), (31, 0, 0, 0, []), (19, 22, 3, 0, []), (0, 0, 3, 0, []), (24, 3, 4, 3, []), (0, 3, 0, 0, []), (0, 2, 0, 0, []), (33, 61, 11, 0, []), (41, 0, 9, 0, [])]
/-- 23: HornBench$Nodes.chained(I)I -/
def am_c23 : List AmIns := [(0, 0, 3, 0, []), (24, 3, 13, 0, []), (2, 0, 0, 64, []), (8, 0, 2, 0, []), (0, 1, 0, 0, []), (8, 0, 0, 0, []), (1, 2, 0, 0, []), (0, 2, 0, 0, []), (18, 19, 2, 0, []), (0, 2, 0, 0, []), (0, 0, 3, 0, []), (24, 3, 4, 3, []), (31, 0, 0, 0, []), (19, 19, 3, 0, []), (0, 0, 3, 0, []), (24, 3, 4, 3, []), (0, 2, 0, 0, []), (32, 0, 0, 0, []), (22, 20, 0, 0, []), (2, 0, 0, (-1), []), (41, 0, 0, 0, [])]
/-- 24: HornBench$Nodes.isOperatorHere(I)Z -/
def am_c24 : List AmIns := [(0, 0, 3, 0, []), (0, 0, 3, 0, []), (24, 3, 13, 0, []), (2, 0, 0, 64, []), (8, 0, 2, 0, []), (0, 1, 0, 0, []), (8, 0, 0, 0, []), (40, 44, 2, 0, []), (41, 0, 10, 0, [])]
/-- 25: HornBench$Nodes.finish(IIII)V -/
def am_c25 : List AmIns := [(0, 0, 3, 0, []), (24, 3, 7, 3, []), (0, 0, 3, 0, []), (24, 3, 13, 0, []), (0, 1, 0, 0, []), (40, 183, 3, 12, []), (0, 0, 3, 0, []), (24, 3, 8, 3, []), (0, 0, 3, 0, []), (24, 3, 13, 0, []), (0, 2, 0, 0, []), (40, 183, 3, 12, []), (0, 0, 3, 0, []), (24, 3, 9, 3, []), (0, 0, 3, 0, []), (24, 3, 13, 0, []), (0, 3, 0, 0, []), (40, 183, 3, 12, []), (0, 0, 3, 0, []), (24, 3, 10, 3, []), (0, 0, 3, 0, []), (24, 3, 13, 0, []), (0, 4, 0, 0, []), (40, 183, 3, 12, []), (0, 0, 3, 0, []), (24, 3, 11, 3, []), (0, 0, 3, 0, []), (24, 3, 13, 0, []), (2, 0, 0, 0, []), (40, 183, 3, 12, []), (41, 0, 9, 0, [])]
/-- 26: HornBench$Nodes.clauses()I -/
def am_c26 : List AmIns := [(0, 0, 3, 0, []), (24, 3, 12, 0, []), (41, 0, 0, 0, [])]
/-- 27: HornBench$Nodes.slot(I)I -/
def am_c27 : List AmIns := [(0, 0, 3, 0, []), (24, 3, 6, 3, []), (0, 1, 0, 0, []), (40, 182, 2, 12, []), (41, 0, 0, 0, [])]
/-- 28: HornBench$Nodes.head(I)I -/
def am_c28 : List AmIns := [(0, 0, 3, 0, []), (24, 3, 7, 3, []), (0, 1, 0, 0, []), (40, 182, 2, 12, []), (41, 0, 0, 0, [])]
/-- 29: HornBench$Nodes.body(I)I -/
def am_c29 : List AmIns := [(0, 0, 3, 0, []), (24, 3, 8, 3, []), (0, 1, 0, 0, []), (40, 182, 2, 12, []), (41, 0, 0, 0, [])]
/-- 30: HornBench$Nodes.arity(I)I -/
def am_c30 : List AmIns := [(0, 0, 3, 0, []), (24, 3, 1, 3, []), (0, 1, 0, 0, []), (2, 0, 0, 64, []), (8, 0, 2, 0, []), (0, 0, 3, 0, []), (24, 3, 7, 3, []), (0, 1, 0, 0, []), (40, 182, 2, 12, []), (8, 0, 0, 0, []), (40, 182, 2, 12, []), (41, 0, 0, 0, [])]
/-- 31: HornBench$Nodes.goals(I)I -/
def am_c31 : List AmIns := [(0, 0, 3, 0, []), (24, 3, 9, 3, []), (0, 1, 0, 0, []), (40, 182, 2, 12, []), (41, 0, 0, 0, [])]
/-- 32: HornBench$Nodes.variables(I)I -/
def am_c32 : List AmIns := [(0, 0, 3, 0, []), (24, 3, 10, 3, []), (0, 1, 0, 0, []), (40, 182, 2, 12, []), (41, 0, 0, 0, [])]
/-- 33: HornBench$Nodes.uses(I)I -/
def am_c33 : List AmIns := [(0, 0, 3, 0, []), (24, 3, 11, 3, []), (0, 1, 0, 0, []), (40, 182, 2, 12, []), (41, 0, 0, 0, [])]
/-- 34: HornBench$Nodes.use(I)V -/
def am_c34 : List AmIns := [(0, 0, 3, 0, []), (24, 3, 11, 3, []), (0, 1, 0, 0, []), (0, 0, 3, 0, []), (24, 3, 11, 3, []), (0, 1, 0, 0, []), (40, 182, 2, 12, []), (2, 0, 0, 1, []), (8, 0, 0, 0, []), (40, 183, 3, 12, []), (41, 0, 9, 0, [])]
/-- 35: HornBench$Nodes.predicates()I -/
def am_c35 : List AmIns := [(2, 0, 0, 0, []), (1, 1, 0, 0, []), (2, 0, 0, 0, []), (1, 2, 0, 0, []), (0, 2, 0, 0, []), (0, 0, 3, 0, []), (24, 3, 12, 0, []), (19, 29, 3, 0, []), (0, 0, 3, 0, []), (24, 3, 6, 3, []), (0, 2, 0, 0, []), (40, 182, 2, 12, []), (1, 3, 0, 0, []), (0, 0, 3, 0, []), (0, 3, 0, 0, []), (2, 0, 0, 64, []), (8, 0, 2, 0, []), (0, 0, 3, 0, []), (24, 3, 7, 3, []), (0, 3, 0, 0, []), (40, 182, 2, 12, []), (8, 0, 0, 0, []), (2, 0, 0, 0, []), (40, 36, 3, 0, []), (0, 2, 0, 0, []), (19, 27, 1, 0, []), (17, 1, 0, 1, []), (17, 2, 0, 1, []), (22, 4, 0, 0, []), (0, 1, 0, 0, []), (41, 0, 0, 0, [])]
/-- 36: HornBench$Nodes.clauseFor(II)I -/
def am_c36 : List AmIns := [(0, 2, 0, 0, []), (2, 0, 0, 0, []), (38, 0, 0, 0, []), (1, 3, 0, 0, []), (0, 3, 0, 0, []), (0, 0, 3, 0, []), (24, 3, 12, 0, []), (19, 45, 3, 0, []), (0, 3, 0, 0, []), (0, 0, 3, 0, []), (24, 3, 6, 3, []), (31, 0, 0, 0, []), (19, 45, 3, 0, []), (0, 0, 3, 0, []), (24, 3, 6, 3, []), (0, 3, 0, 0, []), (32, 0, 0, 0, []), (1, 4, 0, 0, []), (0, 4, 0, 0, []), (18, 30, 2, 0, []), (0, 4, 0, 0, []), (0, 0, 3, 0, []), (24, 3, 7, 3, []), (31, 0, 0, 0, []), (19, 30, 3, 0, []), (0, 0, 3, 0, []), (24, 3, 7, 3, []), (0, 4, 0, 0, []), (32, 0, 0, 0, []), (22, 31, 0, 0, []), (2, 0, 0, (-1), []), (1, 5, 0, 0, []), (0, 0, 3, 0, []), (0, 1, 0, 0, []), (0, 4, 0, 0, []), (2, 0, 0, 64, []), (8, 0, 2, 0, []), (0, 5, 0, 0, []), (8, 0, 0, 0, []), (40, 43, 3, 0, []), (18, 43, 0, 0, []), (0, 3, 0, 0, []), (41, 0, 0, 0, []), (17, 3, 0, 1, []), (22, 4, 0, 0, []), (2, 0, 0, (-1), []), (41, 0, 0, 0, [])]
/-- 37: HornBench$Nodes.kind(I)I -/
def am_c37 : List AmIns := [(0, 1, 0, 0, []), (18, 12, 2, 0, []), (0, 1, 0, 0, []), (0, 0, 3, 0, []), (24, 3, 0, 3, []), (31, 0, 0, 0, []), (19, 12, 3, 0, []), (0, 0, 3, 0, []), (24, 3, 0, 3, []), (0, 1, 0, 0, []), (32, 0, 0, 0, []), (22, 13, 0, 0, []), (2, 0, 0, 0, []), (41, 0, 0, 0, [])]
/-- 38: HornBench$Nodes.value(I)I -/
def am_c38 : List AmIns := [(0, 1, 0, 0, []), (18, 12, 2, 0, []), (0, 1, 0, 0, []), (0, 0, 3, 0, []), (24, 3, 1, 3, []), (31, 0, 0, 0, []), (19, 12, 3, 0, []), (0, 0, 3, 0, []), (24, 3, 1, 3, []), (0, 1, 0, 0, []), (32, 0, 0, 0, []), (22, 13, 0, 0, []), (2, 0, 0, 0, []), (41, 0, 0, 0, [])]
/-- 39: HornBench$Nodes.name(I)J -/
def am_c39 : List AmIns := [(0, 1, 0, 0, []), (18, 12, 2, 0, []), (0, 1, 0, 0, []), (0, 0, 3, 0, []), (24, 3, 2, 3, []), (31, 0, 0, 0, []), (19, 12, 3, 0, []), (0, 0, 3, 0, []), (24, 3, 2, 3, []), (0, 1, 0, 0, []), (32, 0, 1, 0, []), (22, 13, 0, 0, []), (3, 0, 0, 0, []), (41, 0, 1, 0, [])]
/-- 40: HornBench$Nodes.first(I)I -/
def am_c40 : List AmIns := [(0, 1, 0, 0, []), (18, 12, 2, 0, []), (0, 1, 0, 0, []), (0, 0, 3, 0, []), (24, 3, 3, 3, []), (31, 0, 0, 0, []), (19, 12, 3, 0, []), (0, 0, 3, 0, []), (24, 3, 3, 3, []), (0, 1, 0, 0, []), (32, 0, 0, 0, []), (22, 13, 0, 0, []), (2, 0, 0, (-1), []), (41, 0, 0, 0, [])]
/-- 41: HornBench$Nodes.next(I)I -/
def am_c41 : List AmIns := [(0, 1, 0, 0, []), (18, 12, 2, 0, []), (0, 1, 0, 0, []), (0, 0, 3, 0, []), (24, 3, 4, 3, []), (31, 0, 0, 0, []), (19, 12, 3, 0, []), (0, 0, 3, 0, []), (24, 3, 4, 3, []), (0, 1, 0, 0, []), (32, 0, 0, 0, []), (22, 13, 0, 0, []), (2, 0, 0, (-1), []), (41, 0, 0, 0, [])]
/-- 42: HornBench$Nodes.from(I)I -/
def am_c42 : List AmIns := [(0, 1, 0, 0, []), (18, 12, 2, 0, []), (0, 1, 0, 0, []), (0, 0, 3, 0, []), (24, 3, 5, 3, []), (31, 0, 0, 0, []), (19, 12, 3, 0, []), (0, 0, 3, 0, []), (24, 3, 5, 3, []), (0, 1, 0, 0, []), (32, 0, 0, 0, []), (22, 13, 0, 0, []), (2, 0, 0, (-1), []), (41, 0, 0, 0, [])]
/-- 43: HornBench$Nodes.isAlike(II)Z -/
def am_c43 : List AmIns := [(0, 1, 0, 0, []), (18, 43, 2, 0, []), (0, 1, 0, 0, []), (2, 0, 0, 2624, []), (19, 43, 3, 0, []), (0, 2, 0, 0, []), (18, 43, 2, 0, []), (0, 2, 0, 0, []), (2, 0, 0, 2624, []), (19, 43, 3, 0, []), (0, 0, 3, 0, []), (24, 3, 0, 3, []), (0, 1, 0, 0, []), (32, 0, 0, 0, []), (2, 0, 0, 5, []), (19, 43, 1, 0, []), (0, 0, 3, 0, []), (24, 3, 0, 3, []), (0, 2, 0, 0, []), (32, 0, 0, 0, []), (2, 0, 0, 5, []), (19, 43, 1, 0, []), (0, 0, 3, 0, []), (24, 3, 2, 3, []), (0, 1, 0, 0, []), (32, 0, 1, 0, []), (0, 0, 3, 0, []), (24, 3, 2, 3, []), (0, 2, 0, 0, []), (32, 0, 1, 0, []), (13, 0, 0, 0, []), (18, 43, 1, 0, []), (0, 0, 3, 0, []), (24, 3, 1, 3, []), (0, 1, 0, 0, []), (32, 0, 0, 0, []), (0, 0, 3, 0, []), (24, 3, 1, 3, []), (0, 2, 0, 0, []), (32, 0, 0, 0, []), (19, 43, 1, 0, []), (2, 0, 0, 1, []), (22, 44, 0, 0, []), (2, 0, 0, 0, []), (41, 0, 10, 0, [])]
/-- 44: HornBench$Nodes.isOperator(I)Z -/
def am_c44 : List AmIns := [(0, 1, 0, 0, []), (18, 11, 2, 0, []), (0, 1, 0, 0, []), (2, 0, 0, 2624, []), (19, 11, 3, 0, []), (0, 0, 3, 0, []), (24, 3, 0, 3, []), (0, 1, 0, 0, []), (32, 0, 0, 0, []), (2, 0, 0, 5, []), (19, 13, 0, 0, []), (2, 0, 0, 0, []), (41, 0, 10, 0, []), (0, 0, 3, 0, []), (24, 3, 2, 3, []), (0, 1, 0, 0, []), (32, 0, 1, 0, []), (1, 2, 1, 0, []), (0, 2, 1, 0, []), (3, 0, 0, 43, []), (13, 0, 0, 0, []), (18, 38, 0, 0, []), (0, 2, 1, 0, []), (3, 0, 0, 45, []), (13, 0, 0, 0, []), (18, 38, 0, 0, []), (0, 2, 1, 0, []), (3, 0, 0, 42, []), (13, 0, 0, 0, []), (18, 38, 0, 0, []), (0, 2, 1, 0, []), (3, 0, 0, 47, []), (13, 0, 0, 0, []), (18, 38, 0, 0, []), (0, 2, 1, 0, []), (3, 0, 0, 7171940, []), (13, 0, 0, 0, []), (18, 40, 1, 0, []), (2, 0, 0, 1, []), (22, 41, 0, 0, []), (2, 0, 0, 0, []), (41, 0, 10, 0, [])]
/-- 45: HornBench$Parser.<init>(LHornBench$Tape;LHornBench$Nodes;)V -/
def am_c45 : List AmIns := [(0, 0, 3, 0, []), (35, 0, 0, 0, []), (0, 0, 3, 0, []), (2, 0, 0, 8, []), (29, 62, 0, 0, []), (25, 4, 2, 3, []), (0, 0, 3, 0, []), (28, 9, 5, 0, []), (26, 0, 0, 0, []), (0, 1, 3, 0, []), (40, 145, 2, 1, []), (25, 4, 0, 3, []), (0, 0, 3, 0, []), (0, 2, 3, 0, []), (25, 4, 1, 3, []), (41, 0, 9, 0, [])]
/-- 46: HornBench$Parser.readProgram()I -/
def am_c46 : List AmIns := [(0, 0, 3, 0, []), (40, 50, 1, 0, []), (0, 0, 3, 0, []), (24, 4, 1, 3, []), (40, 26, 1, 0, []), (1, 1, 0, 0, []), (2, 0, 0, 0, []), (1, 2, 0, 0, []), (0, 2, 0, 0, []), (2, 0, 0, 2000, []), (19, 26, 3, 0, []), (0, 0, 3, 0, []), (24, 4, 5, 10, []), (18, 26, 1, 0, []), (0, 2, 0, 0, []), (18, 20, 0, 0, []), (0, 0, 3, 0, []), (24, 4, 4, 0, []), (2, 0, 0, 1, []), (19, 26, 0, 0, []), (0, 0, 3, 0, []), (0, 1, 0, 0, []), (40, 52, 2, 0, []), (17, 1, 0, 1, []), (17, 2, 0, 1, []), (22, 8, 0, 0, []), (0, 0, 3, 0, []), (40, 49, 1, 0, []), (18, 33, 1, 0, []), (0, 0, 3, 0, []), (24, 4, 1, 3, []), (0, 1, 0, 0, []), (40, 18, 2, 0, []), (0, 0, 3, 0, []), (40, 49, 1, 0, []), (41, 0, 0, 0, [])]
/-- 47: HornBench$Parser.readQuestion()I -/
def am_c47 : List AmIns := [(0, 0, 3, 0, []), (40, 50, 1, 0, []), (0, 0, 3, 0, []), (2, 0, 0, 40, []), (40, 51, 2, 0, []), (0, 0, 3, 0, []), (40, 53, 1, 0, []), (1, 1, 0, 0, []), (0, 0, 3, 0, []), (2, 0, 0, 46, []), (40, 69, 2, 0, []), (0, 0, 3, 0, []), (24, 4, 4, 0, []), (2, 0, 0, 1, []), (19, 17, 0, 0, []), (0, 0, 3, 0, []), (40, 71, 1, 0, []), (0, 0, 3, 0, []), (24, 4, 1, 3, []), (2, 0, 0, (-1), []), (0, 1, 0, 0, []), (0, 0, 3, 0, []), (24, 4, 9, 0, []), (0, 0, 3, 0, []), (24, 4, 10, 0, []), (40, 25, 5, 0, []), (0, 0, 3, 0, []), (40, 49, 1, 0, []), (41, 0, 0, 0, [])]
/-- 48: HornBench$Parser.errorPlace()I -/
def am_c48 : List AmIns := [(0, 0, 3, 0, []), (24, 4, 5, 10, []), (18, 9, 0, 0, []), (0, 0, 3, 0, []), (24, 4, 0, 3, []), (0, 0, 3, 0, []), (24, 4, 3, 0, []), (40, 147, 2, 0, []), (41, 0, 0, 0, []), (0, 0, 3, 0, []), (24, 4, 6, 0, []), (2, 0, 0, (-1), []), (19, 15, 1, 0, []), (2, 0, 0, (-1), []), (22, 20, 0, 0, []), (0, 0, 3, 0, []), (24, 4, 0, 3, []), (0, 0, 3, 0, []), (24, 4, 6, 0, []), (40, 147, 2, 0, []), (41, 0, 0, 0, [])]
/-- 49: HornBench$Parser.error()I -/
def am_c49 : List AmIns := [(0, 0, 3, 0, []), (24, 4, 5, 10, []), (18, 5, 0, 0, []), (2, 0, 0, 1, []), (41, 0, 0, 0, []), (0, 0, 3, 0, []), (24, 4, 6, 0, []), (2, 0, 0, (-1), []), (19, 11, 1, 0, []), (2, 0, 0, 0, []), (22, 12, 0, 0, []), (2, 0, 0, 2, []), (41, 0, 0, 0, [])]
/-- 50: HornBench$Parser.start()V -/
def am_c50 : List AmIns := [(0, 0, 3, 0, []), (24, 4, 0, 3, []), (40, 149, 1, 0, []), (0, 0, 3, 0, []), (2, 0, 0, 0, []), (25, 4, 3, 0, []), (0, 0, 3, 0, []), (0, 0, 3, 0, []), (24, 4, 0, 3, []), (0, 0, 3, 0, []), (24, 4, 3, 0, []), (40, 146, 2, 0, []), (25, 4, 4, 0, []), (0, 0, 3, 0, []), (2, 0, 0, 0, []), (25, 4, 5, 10, []), (0, 0, 3, 0, []), (2, 0, 0, (-1), []), (25, 4, 6, 0, []), (41, 0, 9, 0, [])]
/-- 51: HornBench$Parser.begin(I)V -/
def am_c51 : List AmIns := [(0, 0, 3, 0, []), (2, 0, 0, 0, []), (25, 4, 7, 0, []), (0, 0, 3, 0, []), (2, 0, 0, 0, []), (25, 4, 8, 0, []), (0, 0, 3, 0, []), (2, 0, 0, 0, []), (25, 4, 9, 0, []), (0, 0, 3, 0, []), (2, 0, 0, 0, []), (25, 4, 10, 0, []), (0, 0, 3, 0, []), (24, 4, 1, 3, []), (0, 1, 0, 0, []), (40, 20, 2, 0, []), (41, 0, 9, 0, [])]
/-- 52: HornBench$Parser.readClause(I)V -/
def am_c52 : List AmIns := [(0, 1, 0, 0, []), (2, 0, 0, 40, []), (19, 5, 2, 0, []), (0, 0, 3, 0, []), (40, 72, 1, 0, []), (0, 0, 3, 0, []), (0, 0, 3, 0, []), (24, 4, 1, 3, []), (0, 1, 0, 0, []), (2, 0, 0, 40, []), (38, 0, 1, 0, []), (40, 27, 2, 0, []), (40, 51, 2, 0, []), (0, 0, 3, 0, []), (24, 4, 4, 0, []), (2, 0, 0, 5, []), (19, 19, 0, 0, []), (0, 0, 3, 0, []), (40, 71, 1, 0, []), (0, 0, 3, 0, []), (40, 61, 1, 0, []), (1, 2, 0, 0, []), (2, 0, 0, (-1), []), (1, 3, 0, 0, []), (0, 0, 3, 0, []), (24, 4, 4, 0, []), (2, 0, 0, 16, []), (19, 33, 1, 0, []), (0, 0, 3, 0, []), (40, 70, 1, 0, []), (0, 0, 3, 0, []), (40, 53, 1, 0, []), (1, 3, 0, 0, []), (0, 0, 3, 0, []), (2, 0, 0, 46, []), (40, 69, 2, 0, []), (0, 0, 3, 0, []), (24, 4, 1, 3, []), (0, 2, 0, 0, []), (0, 3, 0, 0, []), (0, 0, 3, 0, []), (24, 4, 9, 0, []), (0, 0, 3, 0, []), (24, 4, 10, 0, []), (40, 25, 5, 0, []), (41, 0, 9, 0, [])]
/-- 53: HornBench$Parser.readGoals()I -/
def am_c53 : List AmIns := [(0, 0, 3, 0, []), (40, 54, 1, 0, []), (1, 1, 0, 0, []), (0, 1, 0, 0, []), (1, 2, 0, 0, []), (2, 0, 0, 0, []), (1, 3, 0, 0, []), (0, 3, 0, 0, []), (2, 0, 0, 60, []), (19, 28, 3, 0, []), (0, 0, 3, 0, []), (24, 4, 4, 0, []), (2, 0, 0, 44, []), (19, 28, 1, 0, []), (0, 0, 3, 0, []), (40, 70, 1, 0, []), (0, 0, 3, 0, []), (40, 54, 1, 0, []), (1, 4, 0, 0, []), (0, 0, 3, 0, []), (24, 4, 1, 3, []), (0, 2, 0, 0, []), (0, 4, 0, 0, []), (40, 22, 3, 0, []), (0, 4, 0, 0, []), (1, 2, 0, 0, []), (17, 3, 0, 1, []), (22, 7, 0, 0, []), (0, 1, 0, 0, []), (41, 0, 0, 0, [])]
/-- 54: HornBench$Parser.readGoal()I -/
def am_c54 : List AmIns := [(0, 0, 3, 0, []), (26, 0, 0, 0, []), (24, 4, 9, 0, []), (2, 0, 0, 1, []), (8, 0, 0, 0, []), (25, 4, 9, 0, []), (0, 0, 3, 0, []), (24, 4, 9, 0, []), (2, 0, 0, 8, []), (19, 12, 5, 0, []), (0, 0, 3, 0, []), (40, 72, 1, 0, []), (0, 0, 3, 0, []), (24, 4, 4, 0, []), (23, 24, 1, 0, [(6, 15), (7, 15), (8, 18), (9, 21), (33, 15)]), (0, 0, 3, 0, []), (40, 55, 1, 0, []), (41, 0, 0, 0, []), (0, 0, 3, 0, []), (40, 56, 1, 0, []), (41, 0, 0, 0, []), (0, 0, 3, 0, []), (40, 57, 1, 0, []), (41, 0, 0, 0, []), (0, 0, 3, 0, []), (40, 58, 1, 0, []), (41, 0, 0, 0, [])]
/-- 55: HornBench$Parser.readPlainGoal()I -/
def am_c55 : List AmIns := [(0, 0, 3, 0, []), (24, 4, 1, 3, []), (0, 0, 3, 0, []), (24, 4, 4, 0, []), (2, 0, 0, 0, []), (0, 0, 3, 0, []), (24, 4, 0, 3, []), (0, 0, 3, 0, []), (24, 4, 3, 0, []), (40, 148, 2, 0, []), (2, 0, 0, (-1), []), (40, 21, 5, 0, []), (1, 1, 0, 0, []), (0, 0, 3, 0, []), (40, 70, 1, 0, []), (0, 1, 0, 0, []), (41, 0, 0, 0, [])]
/-- 56: HornBench$Parser.readNot()I -/
def am_c56 : List AmIns := [(0, 0, 3, 0, []), (40, 70, 1, 0, []), (0, 0, 3, 0, []), (2, 0, 0, 40, []), (40, 67, 2, 0, []), (0, 0, 3, 0, []), (40, 53, 1, 0, []), (1, 1, 0, 0, []), (0, 0, 3, 0, []), (2, 0, 0, 41, []), (40, 68, 2, 0, []), (0, 0, 3, 0, []), (24, 4, 1, 3, []), (2, 0, 0, 8, []), (2, 0, 0, 0, []), (3, 0, 0, 7237492, []), (0, 1, 0, 0, []), (40, 21, 5, 0, []), (41, 0, 0, 0, [])]
/-- 57: HornBench$Parser.readVar()I -/
def am_c57 : List AmIns := [(0, 0, 3, 0, []), (40, 70, 1, 0, []), (0, 0, 3, 0, []), (2, 0, 0, 40, []), (40, 67, 2, 0, []), (0, 0, 3, 0, []), (40, 59, 1, 0, []), (1, 1, 0, 0, []), (0, 0, 3, 0, []), (2, 0, 0, 41, []), (40, 68, 2, 0, []), (0, 0, 3, 0, []), (24, 4, 1, 3, []), (2, 0, 0, 9, []), (2, 0, 0, 1, []), (3, 0, 0, 7758194, []), (0, 1, 0, 0, []), (40, 21, 5, 0, []), (41, 0, 0, 0, [])]
/-- 58: HornBench$Parser.readRelation()I -/
def am_c58 : List AmIns := [(0, 0, 3, 0, []), (24, 4, 4, 0, []), (2, 0, 0, 5, []), (19, 6, 1, 0, []), (2, 0, 0, 1, []), (22, 7, 0, 0, []), (2, 0, 0, 0, []), (1, 1, 0, 0, []), (0, 0, 3, 0, []), (40, 59, 1, 0, []), (1, 2, 0, 0, []), (0, 0, 3, 0, []), (24, 4, 4, 0, []), (1, 3, 0, 0, []), (0, 3, 0, 0, []), (23, 40, 1, 0, [(10, 16), (12, 16), (13, 16), (14, 16), (15, 16), (60, 16), (61, 16), (62, 16)]), (0, 0, 3, 0, []), (24, 4, 0, 3, []), (0, 0, 3, 0, []), (24, 4, 3, 0, []), (40, 148, 2, 0, []), (1, 4, 1, 0, []), (0, 0, 3, 0, []), (40, 70, 1, 0, []), (0, 0, 3, 0, []), (40, 59, 1, 0, []), (1, 6, 0, 0, []), (0, 0, 3, 0, []), (24, 4, 1, 3, []), (0, 2, 0, 0, []), (0, 6, 0, 0, []), (40, 22, 3, 0, []), (0, 0, 3, 0, []), (24, 4, 1, 3, []), (0, 3, 0, 0, []), (2, 0, 0, 2, []), (0, 4, 1, 0, []), (0, 2, 0, 0, []), (40, 21, 5, 0, []), (41, 0, 0, 0, []), (0, 1, 0, 0, []), (18, 47, 0, 0, []), (0, 0, 3, 0, []), (24, 4, 1, 3, []), (0, 2, 0, 0, []), (40, 24, 2, 0, []), (18, 49, 0, 0, []), (0, 0, 3, 0, []), (40, 71, 1, 0, []), (0, 2, 0, 0, []), (41, 0, 0, 0, [])]
/-- 59: HornBench$Parser.readTerm()I -/
def am_c59 : List AmIns := [(0, 0, 3, 0, []), (40, 60, 1, 0, []), (1, 1, 0, 0, []), (2, 0, 0, 0, []), (1, 2, 0, 0, []), (0, 2, 0, 0, []), (2, 0, 0, 60, []), (19, 42, 3, 0, []), (0, 0, 3, 0, []), (24, 4, 4, 0, []), (2, 0, 0, 43, []), (19, 16, 0, 0, []), (0, 0, 3, 0, []), (24, 4, 4, 0, []), (2, 0, 0, 45, []), (19, 42, 1, 0, []), (0, 0, 3, 0, []), (24, 4, 0, 3, []), (0, 0, 3, 0, []), (24, 4, 3, 0, []), (40, 148, 2, 0, []), (1, 3, 1, 0, []), (0, 0, 3, 0, []), (40, 70, 1, 0, []), (0, 0, 3, 0, []), (40, 60, 1, 0, []), (1, 5, 0, 0, []), (0, 0, 3, 0, []), (24, 4, 1, 3, []), (0, 1, 0, 0, []), (0, 5, 0, 0, []), (40, 22, 3, 0, []), (0, 0, 3, 0, []), (24, 4, 1, 3, []), (2, 0, 0, 5, []), (2, 0, 0, 2, []), (0, 3, 1, 0, []), (0, 1, 0, 0, []), (40, 21, 5, 0, []), (1, 1, 0, 0, []), (17, 2, 0, 1, []), (22, 5, 0, 0, []), (0, 1, 0, 0, []), (41, 0, 0, 0, [])]
/-- 60: HornBench$Parser.readProduct()I -/
def am_c60 : List AmIns := [(0, 0, 3, 0, []), (40, 61, 1, 0, []), (1, 1, 0, 0, []), (2, 0, 0, 0, []), (1, 2, 0, 0, []), (0, 2, 0, 0, []), (2, 0, 0, 60, []), (19, 46, 3, 0, []), (0, 0, 3, 0, []), (24, 4, 4, 0, []), (2, 0, 0, 42, []), (19, 20, 0, 0, []), (0, 0, 3, 0, []), (24, 4, 4, 0, []), (2, 0, 0, 47, []), (19, 20, 0, 0, []), (0, 0, 3, 0, []), (24, 4, 4, 0, []), (2, 0, 0, 11, []), (19, 46, 1, 0, []), (0, 0, 3, 0, []), (24, 4, 0, 3, []), (0, 0, 3, 0, []), (24, 4, 3, 0, []), (40, 148, 2, 0, []), (1, 3, 1, 0, []), (0, 0, 3, 0, []), (40, 70, 1, 0, []), (0, 0, 3, 0, []), (40, 61, 1, 0, []), (1, 5, 0, 0, []), (0, 0, 3, 0, []), (24, 4, 1, 3, []), (0, 1, 0, 0, []), (0, 5, 0, 0, []), (40, 22, 3, 0, []), (0, 0, 3, 0, []), (24, 4, 1, 3, []), (2, 0, 0, 5, []), (2, 0, 0, 2, []), (0, 3, 1, 0, []), (0, 1, 0, 0, []), (40, 21, 5, 0, []), (1, 1, 0, 0, []), (17, 2, 0, 1, []), (22, 5, 0, 0, []), (0, 1, 0, 0, []), (41, 0, 0, 0, [])]
/-- 61: HornBench$Parser.readSimple()I -/
def am_c61 : List AmIns := [(0, 0, 3, 0, []), (24, 4, 4, 0, []), (23, 33, 1, 0, [(3, 3), (4, 6), (5, 16), (40, 22), (45, 10), (91, 19)]), (0, 0, 3, 0, []), (40, 62, 1, 0, []), (41, 0, 0, 0, []), (0, 0, 3, 0, []), (2, 0, 0, 1, []), (40, 63, 2, 0, []), (41, 0, 0, 0, []), (0, 0, 3, 0, []), (40, 70, 1, 0, []), (0, 0, 3, 0, []), (2, 0, 0, (-1), []), (40, 63, 2, 0, []), (41, 0, 0, 0, []), (0, 0, 3, 0, []), (40, 64, 1, 0, []), (41, 0, 0, 0, []), (0, 0, 3, 0, []), (40, 65, 1, 0, []), (41, 0, 0, 0, []), (0, 0, 3, 0, []), (2, 0, 0, 40, []), (40, 67, 2, 0, []), (0, 0, 3, 0, []), (40, 59, 1, 0, []), (1, 1, 0, 0, []), (0, 0, 3, 0, []), (2, 0, 0, 41, []), (40, 68, 2, 0, []), (0, 1, 0, 0, []), (41, 0, 0, 0, []), (0, 0, 3, 0, []), (40, 71, 1, 0, []), (2, 0, 0, (-1), []), (41, 0, 0, 0, [])]
/-- 62: HornBench$Parser.readVariable()I -/
def am_c62 : List AmIns := [(0, 0, 3, 0, []), (24, 4, 0, 3, []), (0, 0, 3, 0, []), (24, 4, 3, 0, []), (40, 148, 2, 0, []), (3, 0, 0, 95, []), (13, 0, 0, 0, []), (18, 10, 1, 0, []), (3, 0, 0, 0, []), (22, 15, 0, 0, []), (0, 0, 3, 0, []), (24, 4, 0, 3, []), (0, 0, 3, 0, []), (24, 4, 3, 0, []), (40, 148, 2, 0, []), (1, 1, 1, 0, []), (2, 0, 0, (-1), []), (1, 3, 0, 0, []), (2, 0, 0, 0, []), (1, 4, 0, 0, []), (0, 4, 0, 0, []), (0, 0, 3, 0, []), (24, 4, 10, 0, []), (19, 44, 3, 0, []), (0, 4, 0, 0, []), (0, 0, 3, 0, []), (24, 4, 2, 3, []), (31, 0, 0, 0, []), (19, 44, 3, 0, []), (0, 1, 1, 0, []), (3, 0, 0, 0, []), (13, 0, 0, 0, []), (18, 44, 0, 0, []), (0, 0, 3, 0, []), (24, 4, 2, 3, []), (0, 4, 0, 0, []), (32, 0, 1, 0, []), (0, 1, 1, 0, []), (13, 0, 0, 0, []), (18, 42, 1, 0, []), (0, 4, 0, 0, []), (1, 3, 0, 0, []), (17, 4, 0, 1, []), (22, 20, 0, 0, []), (0, 3, 0, 0, []), (2, 0, 0, (-1), []), (19, 71, 1, 0, []), (0, 0, 3, 0, []), (24, 4, 10, 0, []), (1, 3, 0, 0, []), (0, 3, 0, 0, []), (18, 69, 2, 0, []), (0, 3, 0, 0, []), (0, 0, 3, 0, []), (24, 4, 2, 3, []), (31, 0, 0, 0, []), (19, 69, 3, 0, []), (0, 0, 3, 0, []), (24, 4, 2, 3, []), (0, 3, 0, 0, []), (0, 1, 1, 0, []), (33, 62, 11, 0, []), (0, 0, 3, 0, []), (26, 0, 0, 0, []), (24, 4, 10, 0, []), (2, 0, 0, 1, []), (8, 0, 0, 0, []), (25, 4, 10, 0, []), (22, 71, 0, 0, []), (0, 0, 3, 0, []), (40, 72, 1, 0, []), (0, 0, 3, 0, []), (40, 70, 1, 0, []), (0, 0, 3, 0, []), (24, 4, 1, 3, []), (2, 0, 0, 3, []), (0, 3, 0, 0, []), (3, 0, 0, 0, []), (2, 0, 0, (-1), []), (40, 21, 5, 0, []), (41, 0, 0, 0, [])]
/-- 63: HornBench$Parser.readNumber(I)I -/
def am_c63 : List AmIns := [(0, 0, 3, 0, []), (24, 4, 4, 0, []), (2, 0, 0, 4, []), (19, 6, 0, 0, []), (0, 0, 3, 0, []), (40, 71, 1, 0, []), (0, 1, 0, 0, []), (0, 0, 3, 0, []), (24, 4, 0, 3, []), (0, 0, 3, 0, []), (24, 4, 3, 0, []), (40, 148, 2, 0, []), (14, 0, 1, 0, []), (8, 0, 2, 0, []), (1, 2, 0, 0, []), (0, 0, 3, 0, []), (40, 70, 1, 0, []), (0, 0, 3, 0, []), (24, 4, 1, 3, []), (2, 0, 0, 4, []), (0, 2, 0, 0, []), (3, 0, 0, 0, []), (2, 0, 0, (-1), []), (40, 21, 5, 0, []), (41, 0, 0, 0, [])]
/-- 64: HornBench$Parser.readName()I -/
def am_c64 : List AmIns := [(0, 0, 3, 0, []), (24, 4, 0, 3, []), (0, 0, 3, 0, []), (24, 4, 3, 0, []), (40, 148, 2, 0, []), (1, 1, 1, 0, []), (0, 0, 3, 0, []), (40, 70, 1, 0, []), (0, 0, 3, 0, []), (24, 4, 4, 0, []), (2, 0, 0, 40, []), (19, 20, 0, 0, []), (0, 0, 3, 0, []), (24, 4, 1, 3, []), (2, 0, 0, 5, []), (2, 0, 0, 0, []), (0, 1, 1, 0, []), (2, 0, 0, (-1), []), (40, 21, 5, 0, []), (41, 0, 0, 0, []), (0, 0, 3, 0, []), (2, 0, 0, 40, []), (40, 67, 2, 0, []), (0, 0, 3, 0, []), (40, 59, 1, 0, []), (1, 3, 0, 0, []), (0, 3, 0, 0, []), (1, 4, 0, 0, []), (2, 0, 0, 1, []), (1, 5, 0, 0, []), (2, 0, 0, 0, []), (1, 6, 0, 0, []), (0, 6, 0, 0, []), (2, 0, 0, 60, []), (19, 59, 3, 0, []), (0, 0, 3, 0, []), (24, 4, 4, 0, []), (2, 0, 0, 44, []), (19, 59, 1, 0, []), (0, 0, 3, 0, []), (40, 70, 1, 0, []), (17, 5, 0, 1, []), (0, 5, 0, 0, []), (2, 0, 0, 4, []), (19, 47, 5, 0, []), (0, 0, 3, 0, []), (40, 72, 1, 0, []), (0, 0, 3, 0, []), (40, 59, 1, 0, []), (1, 7, 0, 0, []), (0, 0, 3, 0, []), (24, 4, 1, 3, []), (0, 4, 0, 0, []), (0, 7, 0, 0, []), (40, 22, 3, 0, []), (0, 7, 0, 0, []), (1, 4, 0, 0, []), (17, 6, 0, 1, []), (22, 32, 0, 0, []), (0, 0, 3, 0, []), (2, 0, 0, 41, []), (40, 68, 2, 0, []), (0, 0, 3, 0, []), (24, 4, 1, 3, []), (2, 0, 0, 5, []), (0, 5, 0, 0, []), (0, 1, 1, 0, []), (0, 3, 0, 0, []), (40, 21, 5, 0, []), (41, 0, 0, 0, [])]
/-- 65: HornBench$Parser.readList()I -/
def am_c65 : List AmIns := [(0, 0, 3, 0, []), (2, 0, 0, 91, []), (40, 67, 2, 0, []), (2, 0, 0, (-1), []), (1, 1, 0, 0, []), (0, 0, 3, 0, []), (24, 4, 4, 0, []), (2, 0, 0, 93, []), (19, 35, 0, 0, []), (0, 0, 3, 0, []), (40, 59, 1, 0, []), (1, 1, 0, 0, []), (2, 0, 0, 0, []), (1, 2, 0, 0, []), (0, 2, 0, 0, []), (2, 0, 0, 60, []), (19, 35, 3, 0, []), (0, 0, 3, 0, []), (24, 4, 4, 0, []), (2, 0, 0, 44, []), (19, 35, 1, 0, []), (0, 0, 3, 0, []), (40, 70, 1, 0, []), (0, 0, 3, 0, []), (40, 59, 1, 0, []), (1, 3, 0, 0, []), (0, 0, 3, 0, []), (24, 4, 1, 3, []), (0, 3, 0, 0, []), (0, 1, 0, 0, []), (40, 22, 3, 0, []), (0, 3, 0, 0, []), (1, 1, 0, 0, []), (17, 2, 0, 1, []), (22, 14, 0, 0, []), (2, 0, 0, (-1), []), (1, 2, 0, 0, []), (0, 0, 3, 0, []), (24, 4, 4, 0, []), (2, 0, 0, 124, []), (19, 50, 1, 0, []), (0, 1, 0, 0, []), (2, 0, 0, (-1), []), (19, 50, 0, 0, []), (0, 0, 3, 0, []), (40, 70, 1, 0, []), (0, 0, 3, 0, []), (40, 59, 1, 0, []), (1, 2, 0, 0, []), (22, 58, 0, 0, []), (0, 0, 3, 0, []), (24, 4, 1, 3, []), (2, 0, 0, 5, []), (2, 0, 0, 0, []), (3, 0, 0, 23389, []), (2, 0, 0, (-1), []), (40, 21, 5, 0, []), (1, 2, 0, 0, []), (0, 0, 3, 0, []), (2, 0, 0, 93, []), (40, 68, 2, 0, []), (0, 0, 3, 0, []), (0, 1, 0, 0, []), (0, 2, 0, 0, []), (40, 66, 3, 0, []), (41, 0, 0, 0, [])]
/-- 66: HornBench$Parser.makePairs(II)I -/
def am_c66 : List AmIns := [(0, 2, 0, 0, []), (1, 3, 0, 0, []), (0, 1, 0, 0, []), (1, 4, 0, 0, []), (2, 0, 0, 0, []), (1, 5, 0, 0, []), (0, 5, 0, 0, []), (2, 0, 0, 60, []), (19, 34, 3, 0, []), (0, 4, 0, 0, []), (2, 0, 0, (-1), []), (19, 34, 0, 0, []), (0, 0, 3, 0, []), (24, 4, 1, 3, []), (0, 4, 0, 0, []), (40, 23, 2, 0, []), (1, 6, 0, 0, []), (0, 0, 3, 0, []), (24, 4, 1, 3, []), (0, 4, 0, 0, []), (0, 3, 0, 0, []), (40, 22, 3, 0, []), (0, 0, 3, 0, []), (24, 4, 1, 3, []), (2, 0, 0, 5, []), (2, 0, 0, 2, []), (3, 0, 0, 46, []), (0, 4, 0, 0, []), (40, 21, 5, 0, []), (1, 3, 0, 0, []), (0, 6, 0, 0, []), (1, 4, 0, 0, []), (17, 5, 0, 1, []), (22, 6, 0, 0, []), (0, 3, 0, 0, []), (41, 0, 0, 0, [])]
/-- 67: HornBench$Parser.open(I)V -/
def am_c67 : List AmIns := [(0, 0, 3, 0, []), (24, 4, 4, 0, []), (0, 1, 0, 0, []), (19, 8, 1, 0, []), (0, 0, 3, 0, []), (24, 4, 8, 0, []), (2, 0, 0, 8, []), (19, 11, 2, 0, []), (0, 0, 3, 0, []), (40, 71, 1, 0, []), (22, 19, 0, 0, []), (0, 0, 3, 0, []), (26, 0, 0, 0, []), (24, 4, 8, 0, []), (2, 0, 0, 1, []), (8, 0, 0, 0, []), (25, 4, 8, 0, []), (0, 0, 3, 0, []), (40, 70, 1, 0, []), (41, 0, 9, 0, [])]
/-- 68: HornBench$Parser.close(I)V -/
def am_c68 : List AmIns := [(0, 0, 3, 0, []), (24, 4, 4, 0, []), (0, 1, 0, 0, []), (19, 7, 0, 0, []), (0, 0, 3, 0, []), (40, 71, 1, 0, []), (22, 15, 0, 0, []), (0, 0, 3, 0, []), (26, 0, 0, 0, []), (24, 4, 8, 0, []), (2, 0, 0, 1, []), (8, 0, 1, 0, []), (25, 4, 8, 0, []), (0, 0, 3, 0, []), (40, 70, 1, 0, []), (41, 0, 9, 0, [])]
/-- 69: HornBench$Parser.expect(I)V -/
def am_c69 : List AmIns := [(0, 0, 3, 0, []), (24, 4, 4, 0, []), (0, 1, 0, 0, []), (19, 7, 0, 0, []), (0, 0, 3, 0, []), (40, 71, 1, 0, []), (22, 9, 0, 0, []), (0, 0, 3, 0, []), (40, 70, 1, 0, []), (41, 0, 9, 0, [])]
/-- 70: HornBench$Parser.take()V -/
def am_c70 : List AmIns := [(0, 0, 3, 0, []), (24, 4, 5, 10, []), (18, 7, 1, 0, []), (0, 0, 3, 0, []), (24, 4, 7, 0, []), (2, 0, 0, 60, []), (19, 14, 2, 0, []), (0, 0, 3, 0, []), (2, 0, 0, 1, []), (25, 4, 5, 10, []), (0, 0, 3, 0, []), (2, 0, 0, 0, []), (25, 4, 4, 0, []), (22, 46, 0, 0, []), (0, 0, 3, 0, []), (26, 0, 0, 0, []), (24, 4, 7, 0, []), (2, 0, 0, 1, []), (8, 0, 0, 0, []), (25, 4, 7, 0, []), (0, 0, 3, 0, []), (26, 0, 0, 0, []), (24, 4, 3, 0, []), (2, 0, 0, 1, []), (8, 0, 0, 0, []), (25, 4, 3, 0, []), (0, 0, 3, 0, []), (0, 0, 3, 0, []), (24, 4, 3, 0, []), (18, 44, 2, 0, []), (0, 0, 3, 0, []), (24, 4, 3, 0, []), (0, 0, 3, 0, []), (24, 4, 0, 3, []), (24, 9, 1, 3, []), (31, 0, 0, 0, []), (19, 44, 3, 0, []), (0, 0, 3, 0, []), (24, 4, 0, 3, []), (24, 9, 1, 3, []), (0, 0, 3, 0, []), (24, 4, 3, 0, []), (32, 0, 0, 0, []), (22, 45, 0, 0, []), (2, 0, 0, 2, []), (25, 4, 4, 0, []), (41, 0, 9, 0, [])]
/-- 71: HornBench$Parser.refuse()V -/
def am_c71 : List AmIns := [(0, 0, 3, 0, []), (2, 0, 0, 1, []), (25, 4, 5, 10, []), (0, 0, 3, 0, []), (2, 0, 0, 0, []), (25, 4, 4, 0, []), (41, 0, 9, 0, [])]
/-- 72: HornBench$Parser.tooMany()V -/
def am_c72 : List AmIns := [(0, 0, 3, 0, []), (24, 4, 6, 0, []), (2, 0, 0, (-1), []), (19, 8, 1, 0, []), (0, 0, 3, 0, []), (0, 0, 3, 0, []), (24, 4, 3, 0, []), (25, 4, 6, 0, []), (41, 0, 9, 0, [])]
/-- 73: HornBench$Pen.<init>(LHornBench$Terms;)V -/
def am_c73 : List AmIns := [(0, 0, 3, 0, []), (35, 0, 0, 0, []), (0, 0, 3, 0, []), (2, 0, 0, 600, []), (29, 64, 0, 0, []), (25, 5, 1, 3, []), (0, 0, 3, 0, []), (2, 0, 0, 600, []), (29, 64, 0, 0, []), (25, 5, 3, 3, []), (0, 0, 3, 0, []), (2, 0, 0, 600, []), (29, 61, 0, 0, []), (25, 5, 5, 3, []), (0, 0, 3, 0, []), (2, 0, 0, 600, []), (29, 61, 0, 0, []), (25, 5, 7, 3, []), (0, 0, 3, 0, []), (0, 1, 3, 0, []), (25, 5, 0, 3, []), (41, 0, 9, 0, [])]
/-- 74: HornBench$Pen.length()I -/
def am_c74 : List AmIns := [(0, 0, 3, 0, []), (24, 5, 2, 0, []), (41, 0, 0, 0, [])]
/-- 75: HornBench$Pen.byteOn(I)I -/
def am_c75 : List AmIns := [(0, 1, 0, 0, []), (18, 16, 2, 0, []), (0, 1, 0, 0, []), (0, 0, 3, 0, []), (24, 5, 2, 0, []), (19, 16, 3, 0, []), (0, 1, 0, 0, []), (0, 0, 3, 0, []), (24, 5, 1, 3, []), (31, 0, 0, 0, []), (19, 16, 3, 0, []), (0, 0, 3, 0, []), (24, 5, 1, 3, []), (0, 1, 0, 0, []), (32, 0, 11, 0, []), (22, 17, 0, 0, []), (2, 0, 0, 0, []), (41, 0, 0, 0, [])]
/-- 76: HornBench$Pen.wipe()V -/
def am_c76 : List AmIns := [(0, 0, 3, 0, []), (2, 0, 0, 0, []), (25, 5, 2, 0, []), (41, 0, 9, 0, [])]
/-- 77: HornBench$Pen.compose(II)Z -/
def am_c77 : List AmIns := [(0, 0, 3, 0, []), (2, 0, 0, 0, []), (25, 5, 4, 0, []), (0, 0, 3, 0, []), (2, 0, 0, 0, []), (25, 5, 6, 0, []), (0, 0, 3, 0, []), (2, 0, 0, 0, []), (25, 5, 8, 0, []), (0, 0, 3, 0, []), (2, 0, 0, 0, []), (25, 5, 9, 10, []), (0, 0, 3, 0, []), (0, 1, 0, 0, []), (0, 2, 0, 0, []), (40, 90, 3, 0, []), (2, 0, 0, 0, []), (1, 3, 0, 0, []), (0, 3, 0, 0, []), (2, 0, 0, 1000000, []), (19, 49, 3, 0, []), (0, 0, 3, 0, []), (24, 5, 6, 0, []), (18, 49, 5, 0, []), (0, 0, 3, 0, []), (24, 5, 9, 10, []), (18, 49, 1, 0, []), (0, 0, 3, 0, []), (26, 0, 0, 0, []), (24, 5, 6, 0, []), (2, 0, 0, 1, []), (8, 0, 1, 0, []), (25, 5, 6, 0, []), (0, 0, 3, 0, []), (24, 5, 5, 3, []), (0, 0, 3, 0, []), (24, 5, 6, 0, []), (40, 182, 2, 12, []), (1, 4, 0, 0, []), (0, 0, 3, 0, []), (0, 4, 0, 0, []), (2, 0, 0, 8, []), (8, 0, 4, 0, []), (0, 4, 0, 0, []), (2, 0, 0, 8, []), (8, 0, 3, 0, []), (40, 78, 3, 0, []), (17, 3, 0, 1, []), (22, 18, 0, 0, []), (0, 0, 3, 0, []), (24, 5, 9, 10, []), (18, 55, 1, 0, []), (0, 0, 3, 0, []), (24, 5, 6, 0, []), (18, 57, 5, 0, []), (2, 0, 0, 0, []), (41, 0, 10, 0, []), (2, 0, 0, 0, []), (1, 3, 0, 0, []), (0, 3, 0, 0, []), (0, 0, 3, 0, []), (24, 5, 4, 0, []), (19, 83, 3, 0, []), (0, 3, 0, 0, []), (0, 0, 3, 0, []), (24, 5, 1, 3, []), (31, 0, 0, 0, []), (19, 83, 3, 0, []), (0, 3, 0, 0, []), (0, 0, 3, 0, []), (24, 5, 3, 3, []), (31, 0, 0, 0, []), (19, 83, 3, 0, []), (0, 0, 3, 0, []), (24, 5, 1, 3, []), (0, 3, 0, 0, []), (0, 0, 3, 0, []), (24, 5, 3, 3, []), (0, 3, 0, 0, []), (32, 0, 11, 0, []), (33, 64, 11, 0, []), (17, 3, 0, 1, []), (22, 59, 0, 0, []), (0, 0, 3, 0, []), (0, 0, 3, 0, []), (24, 5, 4, 0, []), (25, 5, 2, 0, []), (2, 0, 0, 1, []), (41, 0, 10, 0, [])]
/-- 78: HornBench$Pen.writeItem(II)V -/
def am_c78 : List AmIns := [(0, 1, 0, 0, []), (23, 39, 0, 0, [(1, 2), (2, 9), (3, 16), (4, 22), (5, 29), (6, 33)]), (0, 0, 3, 0, []), (0, 0, 3, 0, []), (24, 5, 0, 3, []), (0, 2, 0, 0, []), (40, 136, 2, 0, []), (40, 79, 2, 0, []), (22, 42, 0, 0, []), (0, 0, 3, 0, []), (0, 0, 3, 0, []), (24, 5, 0, 3, []), (0, 2, 0, 0, []), (40, 136, 2, 0, []), (40, 81, 2, 0, []), (22, 42, 0, 0, []), (0, 0, 3, 0, []), (2, 0, 0, 1, []), (2, 0, 0, 3, []), (0, 2, 0, 0, []), (40, 83, 4, 0, []), (22, 42, 0, 0, []), (0, 0, 3, 0, []), (0, 0, 3, 0, []), (24, 5, 0, 3, []), (0, 2, 0, 0, []), (40, 136, 2, 0, []), (40, 82, 2, 0, []), (22, 42, 0, 0, []), (0, 0, 3, 0, []), (0, 2, 0, 0, []), (40, 84, 2, 0, []), (22, 42, 0, 0, []), (0, 0, 3, 0, []), (2, 0, 0, 5, []), (2, 0, 0, 6, []), (0, 2, 0, 0, []), (40, 83, 4, 0, []), (22, 42, 0, 0, []), (0, 0, 3, 0, []), (0, 2, 0, 0, []), (40, 89, 2, 0, []), (41, 0, 9, 0, [])]
/-- 79: HornBench$Pen.writeTerm(I)V -/
def am_c79 : List AmIns := [(0, 0, 3, 0, []), (24, 5, 0, 3, []), (0, 1, 0, 0, []), (40, 137, 2, 0, []), (18, 14, 0, 0, []), (0, 0, 3, 0, []), (2, 0, 0, 95, []), (40, 89, 2, 0, []), (0, 0, 3, 0, []), (0, 0, 3, 0, []), (0, 1, 0, 0, []), (40, 88, 2, 0, []), (40, 87, 2, 0, []), (22, 29, 0, 0, []), (0, 0, 3, 0, []), (24, 5, 0, 3, []), (0, 1, 0, 0, []), (40, 138, 2, 0, []), (18, 26, 0, 0, []), (0, 0, 3, 0, []), (0, 0, 3, 0, []), (24, 5, 0, 3, []), (0, 1, 0, 0, []), (40, 139, 2, 0, []), (40, 87, 2, 0, []), (22, 29, 0, 0, []), (0, 0, 3, 0, []), (0, 1, 0, 0, []), (40, 80, 2, 0, []), (41, 0, 9, 0, [])]
/-- 80: HornBench$Pen.writeNamed(I)V -/
def am_c80 : List AmIns := [(0, 0, 3, 0, []), (24, 5, 0, 3, []), (0, 1, 0, 0, []), (40, 130, 2, 0, []), (1, 2, 1, 0, []), (0, 0, 3, 0, []), (24, 5, 0, 3, []), (0, 1, 0, 0, []), (40, 133, 2, 0, []), (1, 4, 0, 0, []), (0, 4, 0, 0, []), (2, 0, 0, (-1), []), (19, 17, 1, 0, []), (0, 0, 3, 0, []), (0, 2, 1, 0, []), (40, 86, 2, 0, []), (22, 69, 0, 0, []), (0, 2, 1, 0, []), (3, 0, 0, 46, []), (13, 0, 0, 0, []), (18, 37, 1, 0, []), (0, 0, 3, 0, []), (2, 0, 0, 4, []), (0, 0, 3, 0, []), (24, 5, 0, 3, []), (0, 4, 0, 0, []), (40, 134, 2, 0, []), (40, 90, 3, 0, []), (0, 0, 3, 0, []), (2, 0, 0, 1, []), (0, 4, 0, 0, []), (40, 90, 3, 0, []), (0, 0, 3, 0, []), (2, 0, 0, 0, []), (2, 0, 0, 91, []), (40, 90, 3, 0, []), (22, 69, 0, 0, []), (0, 0, 3, 0, []), (24, 5, 0, 3, []), (0, 1, 0, 0, []), (40, 131, 2, 0, []), (18, 55, 0, 0, []), (0, 0, 3, 0, []), (2, 0, 0, 2, []), (0, 4, 0, 0, []), (0, 2, 1, 0, []), (0, 2, 1, 0, []), (3, 0, 0, 7171940, []), (13, 0, 0, 0, []), (18, 52, 1, 0, []), (2, 0, 0, 1, []), (22, 53, 0, 0, []), (2, 0, 0, 0, []), (40, 85, 5, 0, []), (22, 69, 0, 0, []), (0, 0, 3, 0, []), (0, 2, 1, 0, []), (40, 86, 2, 0, []), (0, 0, 3, 0, []), (2, 0, 0, 40, []), (40, 89, 2, 0, []), (0, 0, 3, 0, []), (2, 0, 0, 0, []), (2, 0, 0, 41, []), (40, 90, 3, 0, []), (0, 0, 3, 0, []), (2, 0, 0, 3, []), (0, 4, 0, 0, []), (40, 90, 3, 0, []), (41, 0, 9, 0, [])]
/-- 81: HornBench$Pen.writeOperand(I)V -/
def am_c81 : List AmIns := [(0, 0, 3, 0, []), (24, 5, 0, 3, []), (0, 1, 0, 0, []), (40, 131, 2, 0, []), (18, 18, 0, 0, []), (0, 0, 3, 0, []), (2, 0, 0, 0, []), (2, 0, 0, 41, []), (40, 90, 3, 0, []), (0, 0, 3, 0, []), (2, 0, 0, 1, []), (0, 1, 0, 0, []), (40, 90, 3, 0, []), (0, 0, 3, 0, []), (2, 0, 0, 0, []), (2, 0, 0, 40, []), (40, 90, 3, 0, []), (22, 22, 0, 0, []), (0, 0, 3, 0, []), (2, 0, 0, 1, []), (0, 1, 0, 0, []), (40, 90, 3, 0, []), (41, 0, 9, 0, [])]
/-- 82: HornBench$Pen.writeTail(I)V -/
def am_c82 : List AmIns := [(0, 0, 3, 0, []), (24, 5, 0, 3, []), (0, 1, 0, 0, []), (40, 130, 2, 0, []), (1, 2, 1, 0, []), (0, 2, 1, 0, []), (3, 0, 0, 23389, []), (13, 0, 0, 0, []), (18, 13, 1, 0, []), (0, 0, 3, 0, []), (2, 0, 0, 93, []), (40, 89, 2, 0, []), (22, 50, 0, 0, []), (0, 2, 1, 0, []), (3, 0, 0, 46, []), (13, 0, 0, 0, []), (18, 38, 1, 0, []), (0, 0, 3, 0, []), (24, 5, 0, 3, []), (0, 1, 0, 0, []), (40, 133, 2, 0, []), (1, 4, 0, 0, []), (0, 0, 3, 0, []), (2, 0, 0, 4, []), (0, 0, 3, 0, []), (24, 5, 0, 3, []), (0, 4, 0, 0, []), (40, 134, 2, 0, []), (40, 90, 3, 0, []), (0, 0, 3, 0, []), (2, 0, 0, 1, []), (0, 4, 0, 0, []), (40, 90, 3, 0, []), (0, 0, 3, 0, []), (2, 0, 0, 0, []), (2, 0, 0, 44, []), (40, 90, 3, 0, []), (22, 50, 0, 0, []), (0, 0, 3, 0, []), (2, 0, 0, 0, []), (2, 0, 0, 93, []), (40, 90, 3, 0, []), (0, 0, 3, 0, []), (2, 0, 0, 1, []), (0, 1, 0, 0, []), (40, 90, 3, 0, []), (0, 0, 3, 0, []), (2, 0, 0, 0, []), (2, 0, 0, 124, []), (40, 90, 3, 0, []), (41, 0, 9, 0, [])]
/-- 83: HornBench$Pen.writeChain(III)V -/
def am_c83 : List AmIns := [(0, 0, 3, 0, []), (24, 5, 0, 3, []), (0, 3, 0, 0, []), (40, 134, 2, 0, []), (1, 4, 0, 0, []), (0, 4, 0, 0, []), (2, 0, 0, (-1), []), (19, 16, 0, 0, []), (0, 0, 3, 0, []), (0, 2, 0, 0, []), (0, 4, 0, 0, []), (40, 90, 3, 0, []), (0, 0, 3, 0, []), (2, 0, 0, 0, []), (2, 0, 0, 44, []), (40, 90, 3, 0, []), (0, 0, 3, 0, []), (0, 1, 0, 0, []), (0, 3, 0, 0, []), (40, 90, 3, 0, []), (41, 0, 9, 0, [])]
/-- 84: HornBench$Pen.writeOneGoal(I)V -/
def am_c84 : List AmIns := [(0, 0, 3, 0, []), (24, 5, 0, 3, []), (0, 1, 0, 0, []), (40, 129, 2, 0, []), (1, 2, 0, 0, []), (0, 0, 3, 0, []), (24, 5, 0, 3, []), (0, 1, 0, 0, []), (40, 133, 2, 0, []), (1, 3, 0, 0, []), (0, 2, 0, 0, []), (2, 0, 0, 5, []), (19, 18, 1, 0, []), (0, 0, 3, 0, []), (2, 0, 0, 1, []), (0, 1, 0, 0, []), (40, 90, 3, 0, []), (22, 71, 0, 0, []), (0, 2, 0, 0, []), (2, 0, 0, 8, []), (19, 24, 0, 0, []), (0, 2, 0, 0, []), (2, 0, 0, 9, []), (19, 47, 1, 0, []), (0, 0, 3, 0, []), (0, 0, 3, 0, []), (24, 5, 0, 3, []), (0, 1, 0, 0, []), (40, 130, 2, 0, []), (40, 86, 2, 0, []), (0, 0, 3, 0, []), (2, 0, 0, 40, []), (40, 89, 2, 0, []), (0, 0, 3, 0, []), (2, 0, 0, 0, []), (2, 0, 0, 41, []), (40, 90, 3, 0, []), (0, 0, 3, 0, []), (0, 2, 0, 0, []), (2, 0, 0, 8, []), (19, 43, 1, 0, []), (2, 0, 0, 6, []), (22, 44, 0, 0, []), (2, 0, 0, 1, []), (0, 3, 0, 0, []), (40, 90, 3, 0, []), (22, 71, 0, 0, []), (0, 3, 0, 0, []), (2, 0, 0, (-1), []), (19, 57, 1, 0, []), (0, 0, 3, 0, []), (0, 0, 3, 0, []), (24, 5, 0, 3, []), (0, 1, 0, 0, []), (40, 130, 2, 0, []), (40, 86, 2, 0, []), (22, 71, 0, 0, []), (0, 0, 3, 0, []), (2, 0, 0, 1, []), (0, 3, 0, 0, []), (0, 0, 3, 0, []), (24, 5, 0, 3, []), (0, 1, 0, 0, []), (40, 130, 2, 0, []), (0, 2, 0, 0, []), (2, 0, 0, 10, []), (19, 69, 1, 0, []), (2, 0, 0, 1, []), (22, 70, 0, 0, []), (2, 0, 0, 0, []), (40, 85, 5, 0, []), (41, 0, 9, 0, [])]
/-- 85: HornBench$Pen.writeBetween(IIJZ)V -/
def am_c85 : List AmIns := [(0, 0, 3, 0, []), (0, 1, 0, 0, []), (0, 0, 3, 0, []), (24, 5, 0, 3, []), (0, 2, 0, 0, []), (40, 134, 2, 0, []), (40, 90, 3, 0, []), (0, 5, 0, 0, []), (18, 13, 0, 0, []), (0, 0, 3, 0, []), (2, 0, 0, 0, []), (2, 0, 0, 32, []), (40, 90, 3, 0, []), (2, 0, 0, 0, []), (1, 6, 0, 0, []), (0, 6, 0, 0, []), (2, 0, 0, 64, []), (19, 33, 3, 0, []), (0, 3, 1, 0, []), (0, 6, 0, 0, []), (11, 0, 1, 0, []), (3, 0, 0, 255, []), (10, 0, 5, 0, []), (14, 0, 1, 0, []), (1, 7, 0, 0, []), (0, 7, 0, 0, []), (18, 31, 0, 0, []), (0, 0, 3, 0, []), (2, 0, 0, 0, []), (0, 7, 0, 0, []), (40, 90, 3, 0, []), (17, 6, 0, 8, []), (22, 15, 0, 0, []), (0, 5, 0, 0, []), (18, 39, 0, 0, []), (0, 0, 3, 0, []), (2, 0, 0, 0, []), (2, 0, 0, 32, []), (40, 90, 3, 0, []), (0, 0, 3, 0, []), (0, 1, 0, 0, []), (0, 2, 0, 0, []), (40, 90, 3, 0, []), (41, 0, 9, 0, [])]
/-- 86: HornBench$Pen.writeName(J)V -/
def am_c86 : List AmIns := [(2, 0, 0, 56, []), (1, 3, 0, 0, []), (0, 3, 0, 0, []), (18, 18, 2, 0, []), (0, 1, 1, 0, []), (0, 3, 0, 0, []), (11, 0, 1, 0, []), (3, 0, 0, 255, []), (10, 0, 5, 0, []), (14, 0, 1, 0, []), (1, 4, 0, 0, []), (0, 4, 0, 0, []), (18, 16, 0, 0, []), (0, 0, 3, 0, []), (0, 4, 0, 0, []), (40, 89, 2, 0, []), (17, 3, 0, (-8), []), (22, 2, 0, 0, []), (41, 0, 9, 0, [])]
/-- 87: HornBench$Pen.writeDigits(I)V -/
def am_c87 : List AmIns := [(0, 1, 0, 0, []), (14, 0, 0, 0, []), (1, 2, 1, 0, []), (0, 2, 1, 0, []), (3, 0, 0, 0, []), (13, 0, 0, 0, []), (18, 13, 3, 0, []), (0, 0, 3, 0, []), (2, 0, 0, 45, []), (40, 89, 2, 0, []), (0, 2, 1, 0, []), (14, 0, 6, 0, []), (1, 2, 1, 0, []), (3, 0, 0, 1, []), (1, 4, 1, 0, []), (2, 0, 0, 0, []), (1, 6, 0, 0, []), (0, 6, 0, 0, []), (2, 0, 0, 10, []), (19, 32, 3, 0, []), (0, 4, 1, 0, []), (3, 0, 0, 10, []), (10, 0, 2, 0, []), (0, 2, 1, 0, []), (13, 0, 0, 0, []), (18, 32, 4, 0, []), (0, 4, 1, 0, []), (3, 0, 0, 10, []), (10, 0, 2, 0, []), (1, 4, 1, 0, []), (17, 6, 0, 1, []), (22, 17, 0, 0, []), (0, 4, 1, 0, []), (3, 0, 0, 0, []), (13, 0, 0, 0, []), (18, 51, 5, 0, []), (0, 0, 3, 0, []), (3, 0, 0, 48, []), (0, 2, 1, 0, []), (0, 4, 1, 0, []), (10, 0, 3, 0, []), (3, 0, 0, 10, []), (10, 0, 4, 0, []), (10, 0, 0, 0, []), (14, 0, 1, 0, []), (40, 89, 2, 0, []), (0, 4, 1, 0, []), (3, 0, 0, 10, []), (10, 0, 3, 0, []), (1, 4, 1, 0, []), (22, 32, 0, 0, []), (41, 0, 9, 0, [])]
/-- 88: HornBench$Pen.numberOfFree(I)I -/
def am_c88 : List AmIns := [(2, 0, 0, 0, []), (1, 2, 0, 0, []), (0, 2, 0, 0, []), (0, 0, 3, 0, []), (24, 5, 8, 0, []), (19, 21, 3, 0, []), (0, 2, 0, 0, []), (0, 0, 3, 0, []), (24, 5, 7, 3, []), (31, 0, 0, 0, []), (19, 21, 3, 0, []), (0, 0, 3, 0, []), (24, 5, 7, 3, []), (0, 2, 0, 0, []), (32, 0, 0, 0, []), (0, 1, 0, 0, []), (19, 19, 1, 0, []), (0, 2, 0, 0, []), (41, 0, 0, 0, []), (17, 2, 0, 1, []), (22, 2, 0, 0, []), (0, 0, 3, 0, []), (24, 5, 8, 0, []), (18, 42, 2, 0, []), (0, 0, 3, 0, []), (24, 5, 8, 0, []), (0, 0, 3, 0, []), (24, 5, 7, 3, []), (31, 0, 0, 0, []), (19, 42, 3, 0, []), (0, 0, 3, 0, []), (24, 5, 7, 3, []), (0, 0, 3, 0, []), (24, 5, 8, 0, []), (0, 1, 0, 0, []), (33, 61, 11, 0, []), (0, 0, 3, 0, []), (26, 0, 0, 0, []), (24, 5, 8, 0, []), (2, 0, 0, 1, []), (8, 0, 0, 0, []), (25, 5, 8, 0, []), (0, 0, 3, 0, []), (24, 5, 8, 0, []), (2, 0, 0, 1, []), (8, 0, 1, 0, []), (41, 0, 0, 0, [])]
/-- 89: HornBench$Pen.writeByte(I)V -/
def am_c89 : List AmIns := [(0, 0, 3, 0, []), (40, 91, 1, 0, []), (18, 25, 0, 0, []), (0, 0, 3, 0, []), (24, 5, 4, 0, []), (18, 25, 2, 0, []), (0, 0, 3, 0, []), (24, 5, 4, 0, []), (0, 0, 3, 0, []), (24, 5, 3, 3, []), (31, 0, 0, 0, []), (19, 25, 3, 0, []), (0, 0, 3, 0, []), (24, 5, 3, 3, []), (0, 0, 3, 0, []), (24, 5, 4, 0, []), (0, 1, 0, 0, []), (14, 0, 2, 0, []), (33, 64, 11, 0, []), (0, 0, 3, 0, []), (26, 0, 0, 0, []), (24, 5, 4, 0, []), (2, 0, 0, 1, []), (8, 0, 0, 0, []), (25, 5, 4, 0, []), (41, 0, 9, 0, [])]
/-- 90: HornBench$Pen.push(II)V -/
def am_c90 : List AmIns := [(0, 0, 3, 0, []), (40, 91, 1, 0, []), (18, 28, 0, 0, []), (0, 0, 3, 0, []), (24, 5, 6, 0, []), (18, 28, 2, 0, []), (0, 0, 3, 0, []), (24, 5, 6, 0, []), (0, 0, 3, 0, []), (24, 5, 5, 3, []), (31, 0, 0, 0, []), (19, 28, 3, 0, []), (0, 0, 3, 0, []), (24, 5, 5, 3, []), (0, 0, 3, 0, []), (24, 5, 6, 0, []), (0, 2, 0, 0, []), (2, 0, 0, 8, []), (8, 0, 2, 0, []), (0, 1, 0, 0, []), (8, 0, 0, 0, []), (33, 61, 11, 0, []), (0, 0, 3, 0, []), (26, 0, 0, 0, []), (24, 5, 6, 0, []), (2, 0, 0, 1, []), (8, 0, 0, 0, []), (25, 5, 6, 0, []), (41, 0, 9, 0, [])]
/-- 91: HornBench$Pen.hasRoom()Z -/
def am_c91 : List AmIns := [(0, 0, 3, 0, []), (0, 0, 3, 0, []), (24, 5, 9, 10, []), (18, 11, 1, 0, []), (0, 0, 3, 0, []), (24, 5, 4, 0, []), (0, 0, 3, 0, []), (24, 5, 6, 0, []), (8, 0, 0, 0, []), (2, 0, 0, 600, []), (19, 13, 2, 0, []), (2, 0, 0, 1, []), (22, 14, 0, 0, []), (2, 0, 0, 0, []), (25, 5, 9, 10, []), (0, 0, 3, 0, []), (24, 5, 9, 10, []), (18, 20, 1, 0, []), (2, 0, 0, 1, []), (22, 21, 0, 0, []), (2, 0, 0, 0, []), (41, 0, 10, 0, [])]
/-- 92: HornBench$Question.<init>(LHornBench$Nodes;LHornBench$Terms;LHornBench$Matcher;)V -/
def am_c92 : List AmIns := [(0, 0, 3, 0, []), (35, 0, 0, 0, []), (0, 0, 3, 0, []), (2, 0, 0, 8008, []), (29, 61, 0, 0, []), (25, 6, 4, 3, []), (0, 0, 3, 0, []), (2, 0, 0, 8008, []), (29, 61, 0, 0, []), (25, 6, 5, 3, []), (0, 0, 3, 0, []), (2, 0, 0, 8008, []), (29, 61, 0, 0, []), (25, 6, 6, 3, []), (0, 0, 3, 0, []), (2, 0, 0, 1000, []), (29, 61, 0, 0, []), (25, 6, 9, 3, []), (0, 0, 3, 0, []), (2, 0, 0, 1000, []), (29, 61, 0, 0, []), (25, 6, 10, 3, []), (0, 0, 3, 0, []), (2, 0, 0, 1000, []), (29, 61, 0, 0, []), (25, 6, 11, 3, []), (0, 0, 3, 0, []), (2, 0, 0, 1000, []), (29, 61, 0, 0, []), (25, 6, 12, 3, []), (0, 0, 3, 0, []), (0, 1, 3, 0, []), (25, 6, 0, 3, []), (0, 0, 3, 0, []), (0, 2, 3, 0, []), (25, 6, 1, 3, []), (0, 0, 3, 0, []), (0, 3, 3, 0, []), (25, 6, 2, 3, []), (0, 0, 3, 0, []), (28, 1, 6, 0, []), (26, 0, 0, 0, []), (0, 2, 3, 0, []), (40, 6, 2, 1, []), (25, 6, 3, 3, []), (0, 0, 3, 0, []), (2, 0, 0, (-1), []), (25, 6, 14, 0, []), (0, 0, 3, 0, []), (2, 0, 0, (-1), []), (25, 6, 8, 0, []), (41, 0, 9, 0, [])]
/-- 93: HornBench$Question.begin()V -/
def am_c93 : List AmIns := [(0, 0, 3, 0, []), (24, 6, 1, 3, []), (40, 124, 1, 0, []), (0, 0, 3, 0, []), (2, 0, 0, 0, []), (25, 6, 7, 0, []), (0, 0, 3, 0, []), (2, 0, 0, 0, []), (25, 6, 13, 0, []), (0, 0, 3, 0, []), (2, 0, 0, 0, []), (25, 6, 15, 10, []), (0, 0, 3, 0, []), (2, 0, 0, 0, []), (25, 6, 16, 0, []), (0, 0, 3, 0, []), (2, 0, 0, 0, []), (25, 6, 17, 0, []), (0, 0, 3, 0, []), (2, 0, 0, 0, []), (25, 6, 18, 0, []), (0, 0, 3, 0, []), (2, 0, 0, 0, []), (25, 6, 14, 0, []), (0, 0, 3, 0, []), (0, 0, 3, 0, []), (0, 0, 3, 0, []), (24, 6, 1, 3, []), (2, 0, 0, 0, []), (40, 127, 2, 0, []), (2, 0, 0, 0, []), (2, 0, 0, (-1), []), (40, 115, 4, 0, []), (25, 6, 8, 0, []), (41, 0, 9, 0, [])]
/-- 94: HornBench$Question.leave()V -/
def am_c94 : List AmIns := [(0, 0, 3, 0, []), (2, 0, 0, (-1), []), (25, 6, 14, 0, []), (0, 0, 3, 0, []), (2, 0, 0, (-1), []), (25, 6, 8, 0, []), (41, 0, 9, 0, [])]
/-- 95: HornBench$Question.isThere()Z -/
def am_c95 : List AmIns := [(0, 0, 3, 0, []), (24, 6, 14, 0, []), (2, 0, 0, (-1), []), (19, 6, 0, 0, []), (2, 0, 0, 1, []), (22, 7, 0, 0, []), (2, 0, 0, 0, []), (41, 0, 10, 0, [])]
/-- 96: HornBench$Question.has(I)Z -/
def am_c96 : List AmIns := [(0, 1, 0, 0, []), (18, 8, 2, 0, []), (0, 1, 0, 0, []), (0, 0, 3, 0, []), (40, 97, 1, 0, []), (19, 8, 3, 0, []), (2, 0, 0, 1, []), (22, 9, 0, 0, []), (2, 0, 0, 0, []), (41, 0, 10, 0, [])]
/-- 97: HornBench$Question.variables()I -/
def am_c97 : List AmIns := [(0, 0, 3, 0, []), (40, 95, 1, 0, []), (18, 8, 0, 0, []), (0, 0, 3, 0, []), (24, 6, 0, 3, []), (2, 0, 0, 40, []), (40, 32, 2, 0, []), (22, 9, 0, 0, []), (2, 0, 0, 0, []), (41, 0, 0, 0, [])]
/-- 98: HornBench$Question.goals()I -/
def am_c98 : List AmIns := [(2, 0, 0, 0, []), (1, 1, 0, 0, []), (0, 0, 3, 0, []), (24, 6, 8, 0, []), (1, 2, 0, 0, []), (2, 0, 0, 0, []), (1, 3, 0, 0, []), (0, 3, 0, 0, []), (2, 0, 0, 8008, []), (19, 27, 3, 0, []), (0, 2, 0, 0, []), (2, 0, 0, (-1), []), (19, 27, 0, 0, []), (0, 0, 3, 0, []), (24, 6, 4, 3, []), (0, 2, 0, 0, []), (40, 182, 2, 12, []), (2, 0, 0, (-2), []), (19, 20, 0, 0, []), (17, 1, 0, 1, []), (0, 0, 3, 0, []), (24, 6, 5, 3, []), (0, 2, 0, 0, []), (40, 182, 2, 12, []), (1, 2, 0, 0, []), (17, 3, 0, 1, []), (22, 7, 0, 0, []), (0, 1, 0, 0, []), (41, 0, 0, 0, [])]
/-- 99: HornBench$Question.steps()I -/
def am_c99 : List AmIns := [(0, 0, 3, 0, []), (40, 95, 1, 0, []), (18, 6, 0, 0, []), (0, 0, 3, 0, []), (24, 6, 16, 0, []), (22, 7, 0, 0, []), (2, 0, 0, 0, []), (41, 0, 0, 0, [])]
/-- 100: HornBench$Question.solutions()I -/
def am_c100 : List AmIns := [(0, 0, 3, 0, []), (40, 95, 1, 0, []), (18, 6, 0, 0, []), (0, 0, 3, 0, []), (24, 6, 17, 0, []), (22, 7, 0, 0, []), (2, 0, 0, 0, []), (41, 0, 0, 0, [])]
/-- 101: HornBench$Question.cuts()I -/
def am_c101 : List AmIns := [(0, 0, 3, 0, []), (40, 95, 1, 0, []), (18, 6, 0, 0, []), (0, 0, 3, 0, []), (24, 6, 18, 0, []), (22, 7, 0, 0, []), (2, 0, 0, 0, []), (41, 0, 0, 0, [])]
/-- 102: HornBench$Question.standing()I -/
def am_c102 : List AmIns := [(0, 0, 3, 0, []), (24, 6, 14, 0, []), (18, 9, 1, 0, []), (0, 0, 3, 0, []), (24, 6, 16, 0, []), (2, 0, 0, 1000, []), (19, 9, 2, 0, []), (2, 0, 0, 4, []), (22, 11, 0, 0, []), (0, 0, 3, 0, []), (24, 6, 14, 0, []), (41, 0, 0, 0, [])]
/-- 103: HornBench$Question.firstGoal()I -/
def am_c103 : List AmIns := [(0, 0, 3, 0, []), (24, 6, 15, 10, []), (18, 7, 1, 0, []), (0, 0, 3, 0, []), (24, 6, 8, 0, []), (2, 0, 0, (-1), []), (19, 9, 1, 0, []), (2, 0, 0, (-1), []), (22, 14, 0, 0, []), (0, 0, 3, 0, []), (24, 6, 4, 3, []), (0, 0, 3, 0, []), (24, 6, 8, 0, []), (40, 182, 2, 12, []), (41, 0, 0, 0, [])]
/-- 104: HornBench$Question.advance(I)I -/
def am_c104 : List AmIns := [(0, 0, 3, 0, []), (24, 6, 16, 0, []), (1, 2, 0, 0, []), (0, 0, 3, 0, []), (24, 6, 14, 0, []), (2, 0, 0, 1, []), (19, 13, 1, 0, []), (0, 0, 3, 0, []), (2, 0, 0, 0, []), (25, 6, 14, 0, []), (0, 0, 3, 0, []), (2, 0, 0, 0, []), (40, 105, 2, 0, []), (2, 0, 0, 0, []), (1, 3, 0, 0, []), (0, 3, 0, 0, []), (0, 1, 0, 0, []), (19, 43, 3, 0, []), (0, 0, 3, 0, []), (24, 6, 14, 0, []), (18, 43, 1, 0, []), (0, 0, 3, 0, []), (24, 6, 16, 0, []), (2, 0, 0, 1000, []), (19, 43, 3, 0, []), (0, 0, 3, 0, []), (26, 0, 0, 0, []), (24, 6, 16, 0, []), (2, 0, 0, 1, []), (8, 0, 0, 0, []), (25, 6, 16, 0, []), (0, 0, 3, 0, []), (0, 0, 3, 0, []), (24, 6, 15, 10, []), (18, 38, 0, 0, []), (0, 0, 3, 0, []), (40, 108, 1, 0, []), (22, 40, 0, 0, []), (0, 0, 3, 0, []), (40, 109, 1, 0, []), (40, 105, 2, 0, []), (17, 3, 0, 1, []), (22, 15, 0, 0, []), (0, 0, 3, 0, []), (24, 6, 16, 0, []), (0, 2, 0, 0, []), (8, 0, 1, 0, []), (41, 0, 0, 0, [])]
/-- 105: HornBench$Question.settle(Z)V -/
def am_c105 : List AmIns := [(0, 1, 0, 0, []), (18, 4, 1, 0, []), (2, 0, 0, 1, []), (22, 5, 0, 0, []), (2, 0, 0, 0, []), (1, 2, 0, 0, []), (2, 0, 0, 0, []), (1, 3, 0, 0, []), (0, 3, 0, 0, []), (2, 0, 0, 1000, []), (19, 31, 4, 0, []), (0, 2, 0, 0, []), (18, 16, 1, 0, []), (0, 0, 3, 0, []), (40, 106, 1, 0, []), (18, 31, 0, 0, []), (0, 2, 0, 0, []), (18, 25, 1, 0, []), (0, 0, 3, 0, []), (0, 0, 3, 0, []), (24, 6, 6, 3, []), (0, 0, 3, 0, []), (24, 6, 8, 0, []), (40, 182, 2, 12, []), (25, 6, 13, 0, []), (0, 0, 3, 0, []), (40, 107, 1, 0, []), (2, 0, 0, 0, []), (1, 2, 0, 0, []), (17, 3, 0, 1, []), (22, 8, 0, 0, []), (0, 0, 3, 0, []), (24, 6, 14, 0, []), (18, 50, 1, 0, []), (0, 0, 3, 0, []), (24, 6, 15, 10, []), (18, 50, 1, 0, []), (0, 0, 3, 0, []), (24, 6, 8, 0, []), (2, 0, 0, (-1), []), (19, 50, 1, 0, []), (0, 0, 3, 0, []), (2, 0, 0, 1, []), (25, 6, 14, 0, []), (0, 0, 3, 0, []), (26, 0, 0, 0, []), (24, 6, 17, 0, []), (2, 0, 0, 1, []), (8, 0, 0, 0, []), (25, 6, 17, 0, []), (41, 0, 9, 0, [])]
/-- 106: HornBench$Question.isAtMark()Z -/
def am_c106 : List AmIns := [(0, 0, 3, 0, []), (24, 6, 15, 10, []), (18, 16, 1, 0, []), (0, 0, 3, 0, []), (24, 6, 8, 0, []), (2, 0, 0, (-1), []), (19, 16, 0, 0, []), (0, 0, 3, 0, []), (24, 6, 4, 3, []), (0, 0, 3, 0, []), (24, 6, 8, 0, []), (40, 182, 2, 12, []), (2, 0, 0, (-2), []), (19, 16, 1, 0, []), (2, 0, 0, 1, []), (22, 17, 0, 0, []), (2, 0, 0, 0, []), (41, 0, 10, 0, [])]
/-- 107: HornBench$Question.goBack()V -/
def am_c107 : List AmIns := [(2, 0, 0, 0, []), (1, 1, 0, 0, []), (0, 1, 0, 0, []), (2, 0, 0, 1000, []), (19, 112, 3, 0, []), (0, 0, 3, 0, []), (24, 6, 13, 0, []), (18, 112, 5, 0, []), (0, 0, 3, 0, []), (24, 6, 13, 0, []), (2, 0, 0, 1, []), (8, 0, 1, 0, []), (1, 2, 0, 0, []), (0, 0, 3, 0, []), (24, 6, 9, 3, []), (0, 2, 0, 0, []), (40, 182, 2, 12, []), (1, 3, 0, 0, []), (0, 0, 3, 0, []), (24, 6, 1, 3, []), (0, 0, 3, 0, []), (24, 6, 12, 3, []), (0, 2, 0, 0, []), (40, 182, 2, 12, []), (40, 143, 2, 0, []), (0, 0, 3, 0, []), (0, 0, 3, 0, []), (24, 6, 11, 3, []), (0, 2, 0, 0, []), (40, 182, 2, 12, []), (25, 6, 8, 0, []), (0, 3, 0, 0, []), (2, 0, 0, (-2), []), (19, 38, 1, 0, []), (0, 0, 3, 0, []), (0, 2, 0, 0, []), (25, 6, 13, 0, []), (41, 0, 9, 0, []), (0, 0, 3, 0, []), (24, 6, 1, 3, []), (0, 3, 0, 0, []), (40, 128, 2, 0, []), (1, 4, 0, 0, []), (0, 0, 3, 0, []), (24, 6, 10, 3, []), (0, 2, 0, 0, []), (40, 182, 2, 12, []), (1, 5, 0, 0, []), (2, 0, 0, 0, []), (1, 6, 0, 0, []), (0, 6, 0, 0, []), (2, 0, 0, 40, []), (19, 107, 3, 0, []), (0, 5, 0, 0, []), (2, 0, 0, (-1), []), (19, 107, 0, 0, []), (0, 0, 3, 0, []), (24, 6, 1, 3, []), (0, 0, 3, 0, []), (24, 6, 16, 0, []), (2, 0, 0, 1, []), (8, 0, 0, 0, []), (0, 0, 3, 0, []), (24, 6, 0, 3, []), (0, 5, 0, 0, []), (40, 27, 2, 0, []), (40, 125, 3, 0, []), (0, 0, 3, 0, []), (0, 0, 3, 0, []), (24, 6, 2, 3, []), (0, 3, 0, 0, []), (0, 0, 3, 0, []), (24, 6, 1, 3, []), (0, 0, 3, 0, []), (24, 6, 16, 0, []), (2, 0, 0, 1, []), (8, 0, 0, 0, []), (40, 126, 2, 0, []), (2, 0, 0, 1, []), (40, 13, 4, 0, []), (25, 6, 15, 10, []), (0, 0, 3, 0, []), (24, 6, 1, 3, []), (0, 0, 3, 0, []), (24, 6, 12, 3, []), (0, 2, 0, 0, []), (40, 182, 2, 12, []), (40, 143, 2, 0, []), (0, 0, 3, 0, []), (24, 6, 15, 10, []), (18, 97, 0, 0, []), (0, 0, 3, 0, []), (24, 6, 10, 3, []), (0, 2, 0, 0, []), (0, 5, 0, 0, []), (40, 183, 3, 12, []), (41, 0, 9, 0, []), (0, 0, 3, 0, []), (24, 6, 0, 3, []), (0, 4, 0, 0, []), (0, 5, 0, 0, []), (2, 0, 0, 1, []), (8, 0, 0, 0, []), (40, 36, 3, 0, []), (1, 5, 0, 0, []), (17, 6, 0, 1, []), (22, 50, 0, 0, []), (0, 0, 3, 0, []), (0, 2, 0, 0, []), (25, 6, 13, 0, []), (17, 1, 0, 1, []), (22, 2, 0, 0, []), (0, 0, 3, 0, []), (24, 6, 1, 3, []), (2, 0, 0, 0, []), (40, 143, 2, 0, []), (0, 0, 3, 0, []), (2, 0, 0, (-1), []), (25, 6, 8, 0, []), (0, 0, 3, 0, []), (2, 0, 0, 2, []), (25, 6, 14, 0, []), (41, 0, 9, 0, [])]
/-- 108: HornBench$Question.stepAgain()Z -/
def am_c108 : List AmIns := [(0, 0, 3, 0, []), (26, 0, 0, 0, []), (24, 6, 13, 0, []), (2, 0, 0, 1, []), (8, 0, 1, 0, []), (25, 6, 13, 0, []), (0, 0, 3, 0, []), (2, 0, 0, 0, []), (25, 6, 15, 10, []), (0, 0, 3, 0, []), (0, 0, 3, 0, []), (24, 6, 9, 3, []), (0, 0, 3, 0, []), (24, 6, 13, 0, []), (40, 182, 2, 12, []), (0, 0, 3, 0, []), (24, 6, 10, 3, []), (0, 0, 3, 0, []), (24, 6, 13, 0, []), (40, 182, 2, 12, []), (40, 110, 3, 0, []), (41, 0, 10, 0, [])]
/-- 109: HornBench$Question.step()Z -/
def am_c109 : List AmIns := [(0, 0, 3, 0, []), (24, 6, 8, 0, []), (1, 1, 0, 0, []), (0, 0, 3, 0, []), (24, 6, 4, 3, []), (0, 1, 0, 0, []), (40, 182, 2, 12, []), (1, 2, 0, 0, []), (0, 0, 3, 0, []), (0, 0, 3, 0, []), (24, 6, 5, 3, []), (0, 1, 0, 0, []), (40, 182, 2, 12, []), (25, 6, 8, 0, []), (0, 0, 3, 0, []), (24, 6, 1, 3, []), (0, 2, 0, 0, []), (40, 133, 2, 0, []), (1, 3, 0, 0, []), (0, 0, 3, 0, []), (24, 6, 1, 3, []), (0, 2, 0, 0, []), (40, 129, 2, 0, []), (1, 4, 0, 0, []), (0, 4, 0, 0, []), (23, 138, 1, 0, [(5, 26), (6, 38), (8, 54), (9, 79), (10, 121), (12, 129), (13, 129), (14, 111), (15, 97), (33, 40), (60, 129), (61, 87), (62, 129)]), (0, 0, 3, 0, []), (0, 2, 0, 0, []), (0, 0, 3, 0, []), (24, 6, 0, 3, []), (0, 0, 3, 0, []), (24, 6, 1, 3, []), (0, 2, 0, 0, []), (40, 128, 2, 0, []), (2, 0, 0, 0, []), (40, 36, 3, 0, []), (40, 110, 3, 0, []), (41, 0, 10, 0, []), (2, 0, 0, 1, []), (41, 0, 10, 0, []), (0, 0, 3, 0, []), (26, 0, 0, 0, []), (24, 6, 18, 0, []), (2, 0, 0, 1, []), (8, 0, 0, 0, []), (25, 6, 18, 0, []), (0, 0, 3, 0, []), (0, 0, 3, 0, []), (24, 6, 6, 3, []), (0, 1, 0, 0, []), (40, 182, 2, 12, []), (25, 6, 13, 0, []), (2, 0, 0, 1, []), (41, 0, 10, 0, []), (0, 0, 3, 0, []), (2, 0, 0, (-2), []), (2, 0, 0, (-1), []), (0, 0, 3, 0, []), (24, 6, 1, 3, []), (40, 142, 1, 0, []), (40, 114, 4, 0, []), (0, 0, 3, 0, []), (0, 0, 3, 0, []), (0, 3, 0, 0, []), (0, 0, 3, 0, []), (24, 6, 13, 0, []), (0, 0, 3, 0, []), (2, 0, 0, (-2), []), (0, 0, 3, 0, []), (24, 6, 13, 0, []), (2, 0, 0, 1, []), (8, 0, 1, 0, []), (0, 0, 3, 0, []), (24, 6, 8, 0, []), (40, 116, 4, 0, []), (40, 115, 4, 0, []), (25, 6, 8, 0, []), (2, 0, 0, 1, []), (41, 0, 10, 0, []), (0, 0, 3, 0, []), (24, 6, 1, 3, []), (0, 0, 3, 0, []), (24, 6, 1, 3, []), (0, 3, 0, 0, []), (40, 136, 2, 0, []), (40, 137, 2, 0, []), (41, 0, 10, 0, []), (0, 0, 3, 0, []), (24, 6, 2, 3, []), (0, 3, 0, 0, []), (0, 0, 3, 0, []), (24, 6, 1, 3, []), (0, 3, 0, 0, []), (40, 134, 2, 0, []), (2, 0, 0, 1, []), (40, 13, 4, 0, []), (41, 0, 10, 0, []), (0, 0, 3, 0, []), (24, 6, 2, 3, []), (0, 3, 0, 0, []), (0, 0, 3, 0, []), (24, 6, 1, 3, []), (0, 3, 0, 0, []), (40, 134, 2, 0, []), (2, 0, 0, 1, []), (40, 13, 4, 0, []), (18, 109, 1, 0, []), (2, 0, 0, 1, []), (22, 110, 0, 0, []), (2, 0, 0, 0, []), (41, 0, 10, 0, []), (0, 0, 3, 0, []), (24, 6, 2, 3, []), (0, 3, 0, 0, []), (0, 0, 3, 0, []), (24, 6, 1, 3, []), (0, 3, 0, 0, []), (40, 134, 2, 0, []), (2, 0, 0, 0, []), (40, 13, 4, 0, []), (41, 0, 10, 0, []), (0, 0, 3, 0, []), (0, 3, 0, 0, []), (0, 0, 3, 0, []), (24, 6, 1, 3, []), (0, 3, 0, 0, []), (40, 134, 2, 0, []), (40, 111, 3, 0, []), (41, 0, 10, 0, []), (0, 0, 3, 0, []), (0, 4, 0, 0, []), (0, 3, 0, 0, []), (0, 0, 3, 0, []), (24, 6, 1, 3, []), (0, 3, 0, 0, []), (40, 134, 2, 0, []), (40, 112, 4, 0, []), (41, 0, 10, 0, []), (2, 0, 0, 0, []), (41, 0, 10, 0, [])]
/-- 110: HornBench$Question.useClause(II)Z -/
def am_c110 : List AmIns := [(0, 0, 3, 0, []), (24, 6, 1, 3, []), (0, 1, 0, 0, []), (40, 128, 2, 0, []), (1, 3, 0, 0, []), (0, 0, 3, 0, []), (24, 6, 1, 3, []), (40, 142, 1, 0, []), (1, 4, 0, 0, []), (0, 2, 0, 0, []), (1, 5, 0, 0, []), (2, 0, 0, 0, []), (1, 6, 0, 0, []), (0, 6, 0, 0, []), (2, 0, 0, 40, []), (19, 82, 3, 0, []), (0, 5, 0, 0, []), (2, 0, 0, (-1), []), (19, 82, 0, 0, []), (0, 0, 3, 0, []), (24, 6, 0, 3, []), (0, 5, 0, 0, []), (40, 27, 2, 0, []), (1, 7, 0, 0, []), (0, 0, 3, 0, []), (24, 6, 0, 3, []), (0, 3, 0, 0, []), (0, 5, 0, 0, []), (2, 0, 0, 1, []), (8, 0, 0, 0, []), (40, 36, 3, 0, []), (1, 8, 0, 0, []), (0, 0, 3, 0, []), (24, 6, 1, 3, []), (0, 0, 3, 0, []), (24, 6, 16, 0, []), (0, 7, 0, 0, []), (40, 125, 3, 0, []), (0, 0, 3, 0, []), (24, 6, 2, 3, []), (0, 1, 0, 0, []), (0, 0, 3, 0, []), (24, 6, 1, 3, []), (0, 0, 3, 0, []), (24, 6, 16, 0, []), (40, 126, 2, 0, []), (2, 0, 0, 1, []), (40, 13, 4, 0, []), (18, 78, 0, 0, []), (0, 0, 3, 0, []), (24, 6, 13, 0, []), (1, 9, 0, 0, []), (0, 8, 0, 0, []), (2, 0, 0, (-1), []), (19, 60, 0, 0, []), (0, 0, 3, 0, []), (0, 1, 0, 0, []), (0, 8, 0, 0, []), (0, 4, 0, 0, []), (40, 114, 4, 0, []), (0, 0, 3, 0, []), (0, 0, 3, 0, []), (0, 0, 3, 0, []), (24, 6, 1, 3, []), (0, 0, 3, 0, []), (24, 6, 16, 0, []), (40, 127, 2, 0, []), (0, 9, 0, 0, []), (0, 0, 3, 0, []), (24, 6, 8, 0, []), (40, 115, 4, 0, []), (25, 6, 8, 0, []), (0, 0, 3, 0, []), (24, 6, 0, 3, []), (0, 7, 0, 0, []), (40, 34, 2, 0, []), (2, 0, 0, 1, []), (41, 0, 10, 0, []), (0, 8, 0, 0, []), (1, 5, 0, 0, []), (17, 6, 0, 1, []), (22, 13, 0, 0, []), (2, 0, 0, 0, []), (41, 0, 10, 0, [])]
/-- 111: HornBench$Question.assign(II)Z -/
def am_c111 : List AmIns := [(0, 0, 3, 0, []), (24, 6, 3, 3, []), (0, 2, 0, 0, []), (40, 7, 2, 0, []), (18, 8, 1, 0, []), (0, 0, 3, 0, []), (40, 113, 1, 0, []), (41, 0, 10, 0, []), (0, 0, 3, 0, []), (24, 6, 2, 3, []), (0, 1, 0, 0, []), (0, 0, 3, 0, []), (24, 6, 1, 3, []), (0, 0, 3, 0, []), (24, 6, 16, 0, []), (0, 0, 3, 0, []), (24, 6, 3, 3, []), (40, 8, 1, 0, []), (40, 140, 3, 0, []), (2, 0, 0, 1, []), (40, 13, 4, 0, []), (41, 0, 10, 0, [])]
/-- 112: HornBench$Question.compare(III)Z -/
def am_c112 : List AmIns := [(0, 0, 3, 0, []), (24, 6, 3, 3, []), (0, 2, 0, 0, []), (40, 7, 2, 0, []), (18, 8, 1, 0, []), (0, 0, 3, 0, []), (40, 113, 1, 0, []), (41, 0, 10, 0, []), (0, 0, 3, 0, []), (24, 6, 3, 3, []), (40, 8, 1, 0, []), (1, 4, 0, 0, []), (0, 0, 3, 0, []), (24, 6, 3, 3, []), (0, 3, 0, 0, []), (40, 7, 2, 0, []), (18, 20, 1, 0, []), (0, 0, 3, 0, []), (40, 113, 1, 0, []), (41, 0, 10, 0, []), (0, 0, 3, 0, []), (24, 6, 3, 3, []), (40, 8, 1, 0, []), (1, 5, 0, 0, []), (0, 1, 0, 0, []), (23, 47, 1, 0, [(12, 40), (60, 26), (62, 33)]), (0, 4, 0, 0, []), (0, 5, 0, 0, []), (19, 31, 3, 0, []), (2, 0, 0, 1, []), (22, 32, 0, 0, []), (2, 0, 0, 0, []), (41, 0, 10, 0, []), (0, 4, 0, 0, []), (0, 5, 0, 0, []), (19, 38, 5, 0, []), (2, 0, 0, 1, []), (22, 39, 0, 0, []), (2, 0, 0, 0, []), (41, 0, 10, 0, []), (0, 4, 0, 0, []), (0, 5, 0, 0, []), (19, 45, 4, 0, []), (2, 0, 0, 1, []), (22, 46, 0, 0, []), (2, 0, 0, 0, []), (41, 0, 10, 0, []), (0, 4, 0, 0, []), (0, 5, 0, 0, []), (19, 52, 2, 0, []), (2, 0, 0, 1, []), (22, 53, 0, 0, []), (2, 0, 0, 0, []), (41, 0, 10, 0, [])]
/-- 113: HornBench$Question.stopByError()Z -/
def am_c113 : List AmIns := [(0, 0, 3, 0, []), (2, 0, 0, 3, []), (25, 6, 14, 0, []), (0, 0, 3, 0, []), (2, 0, 0, (-1), []), (25, 6, 8, 0, []), (2, 0, 0, 1, []), (41, 0, 10, 0, [])]
/-- 114: HornBench$Question.leaveChoice(III)V -/
def am_c114 : List AmIns := [(0, 0, 3, 0, []), (24, 6, 9, 3, []), (0, 0, 3, 0, []), (24, 6, 13, 0, []), (0, 1, 0, 0, []), (40, 183, 3, 12, []), (0, 0, 3, 0, []), (24, 6, 10, 3, []), (0, 0, 3, 0, []), (24, 6, 13, 0, []), (0, 2, 0, 0, []), (40, 183, 3, 12, []), (0, 0, 3, 0, []), (24, 6, 11, 3, []), (0, 0, 3, 0, []), (24, 6, 13, 0, []), (0, 0, 3, 0, []), (24, 6, 8, 0, []), (40, 183, 3, 12, []), (0, 0, 3, 0, []), (24, 6, 12, 3, []), (0, 0, 3, 0, []), (24, 6, 13, 0, []), (0, 3, 0, 0, []), (40, 183, 3, 12, []), (0, 0, 3, 0, []), (26, 0, 0, 0, []), (24, 6, 13, 0, []), (2, 0, 0, 1, []), (8, 0, 0, 0, []), (25, 6, 13, 0, []), (41, 0, 9, 0, [])]
/-- 115: HornBench$Question.chain(III)I -/
def am_c115 : List AmIns := [(0, 1, 0, 0, []), (2, 0, 0, (-1), []), (19, 5, 1, 0, []), (0, 3, 0, 0, []), (22, 7, 0, 0, []), (0, 0, 3, 0, []), (24, 6, 7, 0, []), (1, 4, 0, 0, []), (0, 1, 0, 0, []), (1, 5, 0, 0, []), (2, 0, 0, 0, []), (1, 6, 0, 0, []), (0, 6, 0, 0, []), (2, 0, 0, 8, []), (19, 41, 3, 0, []), (0, 5, 0, 0, []), (2, 0, 0, (-1), []), (19, 41, 0, 0, []), (0, 0, 3, 0, []), (24, 6, 1, 3, []), (0, 5, 0, 0, []), (40, 134, 2, 0, []), (1, 7, 0, 0, []), (0, 0, 3, 0, []), (0, 5, 0, 0, []), (0, 2, 0, 0, []), (0, 7, 0, 0, []), (2, 0, 0, (-1), []), (19, 31, 1, 0, []), (0, 3, 0, 0, []), (22, 35, 0, 0, []), (0, 0, 3, 0, []), (24, 6, 7, 0, []), (2, 0, 0, 1, []), (8, 0, 0, 0, []), (40, 116, 4, 0, []), (27, 0, 0, 0, []), (0, 7, 0, 0, []), (1, 5, 0, 0, []), (17, 6, 0, 1, []), (22, 12, 0, 0, []), (0, 4, 0, 0, []), (41, 0, 0, 0, [])]
/-- 116: HornBench$Question.link(III)I -/
def am_c116 : List AmIns := [(0, 0, 3, 0, []), (24, 6, 4, 3, []), (0, 0, 3, 0, []), (24, 6, 7, 0, []), (0, 1, 0, 0, []), (40, 183, 3, 12, []), (0, 0, 3, 0, []), (24, 6, 6, 3, []), (0, 0, 3, 0, []), (24, 6, 7, 0, []), (0, 2, 0, 0, []), (40, 183, 3, 12, []), (0, 0, 3, 0, []), (24, 6, 5, 3, []), (0, 0, 3, 0, []), (24, 6, 7, 0, []), (0, 3, 0, 0, []), (40, 183, 3, 12, []), (0, 0, 3, 0, []), (26, 0, 0, 0, []), (24, 6, 7, 0, []), (2, 0, 0, 1, []), (8, 0, 0, 0, []), (25, 6, 7, 0, []), (0, 0, 3, 0, []), (24, 6, 7, 0, []), (2, 0, 0, 1, []), (8, 0, 1, 0, []), (41, 0, 0, 0, [])]
/-- 117: HornBench$Tape.<init>()V -/
def am_c117 : List AmIns := [(0, 0, 3, 0, []), (35, 0, 0, 0, []), (0, 0, 3, 0, []), (2, 0, 0, 2000, []), (29, 64, 0, 0, []), (25, 7, 0, 3, []), (41, 0, 9, 0, [])]
/-- 118: HornBench$Tape.length()I -/
def am_c118 : List AmIns := [(0, 0, 3, 0, []), (24, 7, 1, 0, []), (41, 0, 0, 0, [])]
/-- 119: HornBench$Tape.hasRoom()Z -/
def am_c119 : List AmIns := [(0, 0, 3, 0, []), (24, 7, 1, 0, []), (2, 0, 0, 1980, []), (19, 6, 4, 0, []), (2, 0, 0, 1, []), (22, 7, 0, 0, []), (2, 0, 0, 0, []), (41, 0, 10, 0, [])]
/-- 120: HornBench$Tape.append(I)V -/
def am_c120 : List AmIns := [(2, 0, 0, 24, []), (1, 2, 0, 0, []), (0, 2, 0, 0, []), (18, 30, 2, 0, []), (0, 0, 3, 0, []), (24, 7, 1, 0, []), (18, 28, 2, 0, []), (0, 0, 3, 0, []), (24, 7, 1, 0, []), (0, 0, 3, 0, []), (24, 7, 0, 3, []), (31, 0, 0, 0, []), (19, 28, 3, 0, []), (0, 0, 3, 0, []), (24, 7, 0, 3, []), (0, 0, 3, 0, []), (24, 7, 1, 0, []), (0, 1, 0, 0, []), (0, 2, 0, 0, []), (8, 0, 8, 0, []), (14, 0, 2, 0, []), (33, 64, 11, 0, []), (0, 0, 3, 0, []), (26, 0, 0, 0, []), (24, 7, 1, 0, []), (2, 0, 0, 1, []), (8, 0, 0, 0, []), (25, 7, 1, 0, []), (17, 2, 0, (-8), []), (22, 2, 0, 0, []), (41, 0, 9, 0, [])]
/-- 121: HornBench$Tape.shorten(I)V -/
def am_c121 : List AmIns := [(0, 0, 3, 0, []), (0, 1, 0, 0, []), (25, 7, 1, 0, []), (41, 0, 9, 0, [])]
/-- 122: HornBench$Tape.at(I)I -/
def am_c122 : List AmIns := [(0, 1, 0, 0, []), (18, 18, 2, 0, []), (0, 1, 0, 0, []), (0, 0, 3, 0, []), (24, 7, 1, 0, []), (19, 18, 3, 0, []), (0, 1, 0, 0, []), (0, 0, 3, 0, []), (24, 7, 0, 3, []), (31, 0, 0, 0, []), (19, 18, 3, 0, []), (0, 0, 3, 0, []), (24, 7, 0, 3, []), (0, 1, 0, 0, []), (32, 0, 11, 0, []), (2, 0, 0, 255, []), (8, 0, 5, 0, []), (22, 19, 0, 0, []), (2, 0, 0, (-1), []), (41, 0, 0, 0, [])]
/-- 123: HornBench$Terms.<init>(LHornBench$Nodes;)V -/
def am_c123 : List AmIns := [(0, 0, 3, 0, []), (35, 0, 0, 0, []), (0, 0, 3, 0, []), (2, 0, 0, 1002, []), (29, 61, 0, 0, []), (25, 8, 1, 3, []), (0, 0, 3, 0, []), (2, 0, 0, 1002, []), (29, 61, 0, 0, []), (25, 8, 2, 3, []), (0, 0, 3, 0, []), (2, 0, 0, 8016, []), (29, 61, 0, 0, []), (25, 8, 3, 3, []), (0, 0, 3, 0, []), (2, 0, 0, 8016, []), (29, 61, 0, 0, []), (25, 8, 4, 3, []), (0, 0, 3, 0, []), (28, 0, 3, 0, []), (26, 0, 0, 0, []), (40, 0, 1, 11, []), (25, 8, 6, 3, []), (0, 0, 3, 0, []), (0, 1, 3, 0, []), (25, 8, 0, 3, []), (41, 0, 9, 0, [])]
/-- 124: HornBench$Terms.begin()V -/
def am_c124 : List AmIns := [(0, 0, 3, 0, []), (2, 0, 0, 0, []), (25, 8, 5, 0, []), (0, 0, 3, 0, []), (2, 0, 0, 0, []), (2, 0, 0, 40, []), (40, 125, 3, 0, []), (41, 0, 9, 0, [])]
/-- 125: HornBench$Terms.open(II)V -/
def am_c125 : List AmIns := [(0, 0, 3, 0, []), (24, 8, 1, 3, []), (0, 1, 0, 0, []), (0, 2, 0, 0, []), (40, 183, 3, 12, []), (2, 0, 0, 0, []), (1, 3, 0, 0, []), (0, 3, 0, 0, []), (2, 0, 0, 8, []), (19, 21, 3, 0, []), (0, 0, 3, 0, []), (24, 8, 3, 3, []), (0, 1, 0, 0, []), (2, 0, 0, 8, []), (8, 0, 2, 0, []), (0, 3, 0, 0, []), (8, 0, 0, 0, []), (2, 0, 0, (-1), []), (40, 183, 3, 12, []), (17, 3, 0, 1, []), (22, 7, 0, 0, []), (41, 0, 9, 0, [])]
/-- 126: HornBench$Terms.head(I)I -/
def am_c126 : List AmIns := [(0, 1, 0, 0, []), (2, 0, 0, 64, []), (8, 0, 2, 0, []), (0, 0, 3, 0, []), (24, 8, 0, 3, []), (0, 0, 3, 0, []), (24, 8, 1, 3, []), (0, 1, 0, 0, []), (40, 182, 2, 12, []), (40, 28, 2, 0, []), (8, 0, 0, 0, []), (41, 0, 0, 0, [])]
/-- 127: HornBench$Terms.body(I)I -/
def am_c127 : List AmIns := [(0, 0, 3, 0, []), (24, 8, 0, 3, []), (0, 0, 3, 0, []), (24, 8, 1, 3, []), (0, 1, 0, 0, []), (40, 182, 2, 12, []), (40, 29, 2, 0, []), (1, 2, 0, 0, []), (0, 2, 0, 0, []), (2, 0, 0, (-1), []), (19, 13, 1, 0, []), (2, 0, 0, (-1), []), (22, 18, 0, 0, []), (0, 1, 0, 0, []), (2, 0, 0, 64, []), (8, 0, 2, 0, []), (0, 2, 0, 0, []), (8, 0, 0, 0, []), (41, 0, 0, 0, [])]
/-- 128: HornBench$Terms.node(I)I -/
def am_c128 : List AmIns := [(0, 1, 0, 0, []), (2, 0, 0, 64, []), (8, 0, 3, 0, []), (1, 2, 0, 0, []), (0, 1, 0, 0, []), (18, 14, 2, 0, []), (0, 1, 0, 0, []), (2, 0, 0, 64128, []), (19, 14, 3, 0, []), (0, 2, 0, 0, []), (0, 0, 3, 0, []), (24, 8, 1, 3, []), (31, 0, 0, 0, []), (19, 16, 2, 0, []), (2, 0, 0, (-1), []), (41, 0, 0, 0, []), (0, 0, 3, 0, []), (24, 8, 1, 3, []), (0, 2, 0, 0, []), (32, 0, 0, 0, []), (2, 0, 0, 64, []), (8, 0, 2, 0, []), (0, 1, 0, 0, []), (2, 0, 0, 64, []), (8, 0, 4, 0, []), (8, 0, 0, 0, []), (41, 0, 0, 0, [])]
/-- 129: HornBench$Terms.kind(I)I -/
def am_c129 : List AmIns := [(0, 0, 3, 0, []), (24, 8, 0, 3, []), (0, 0, 3, 0, []), (0, 1, 0, 0, []), (40, 128, 2, 0, []), (40, 37, 2, 0, []), (41, 0, 0, 0, [])]
/-- 130: HornBench$Terms.name(I)J -/
def am_c130 : List AmIns := [(0, 0, 3, 0, []), (24, 8, 0, 3, []), (0, 0, 3, 0, []), (0, 1, 0, 0, []), (40, 128, 2, 0, []), (40, 39, 2, 0, []), (41, 0, 1, 0, [])]
/-- 131: HornBench$Terms.isOperator(I)Z -/
def am_c131 : List AmIns := [(0, 0, 3, 0, []), (24, 8, 0, 3, []), (0, 0, 3, 0, []), (0, 1, 0, 0, []), (40, 128, 2, 0, []), (40, 44, 2, 0, []), (41, 0, 10, 0, [])]
/-- 132: HornBench$Terms.isAlike(II)Z -/
def am_c132 : List AmIns := [(0, 0, 3, 0, []), (24, 8, 0, 3, []), (0, 0, 3, 0, []), (0, 1, 0, 0, []), (40, 128, 2, 0, []), (0, 0, 3, 0, []), (0, 2, 0, 0, []), (40, 128, 2, 0, []), (40, 43, 3, 0, []), (41, 0, 10, 0, [])]
/-- 133: HornBench$Terms.first(I)I -/
def am_c133 : List AmIns := [(0, 0, 3, 0, []), (24, 8, 0, 3, []), (0, 0, 3, 0, []), (0, 1, 0, 0, []), (40, 128, 2, 0, []), (40, 40, 2, 0, []), (1, 2, 0, 0, []), (0, 2, 0, 0, []), (2, 0, 0, (-1), []), (19, 12, 1, 0, []), (2, 0, 0, (-1), []), (22, 19, 0, 0, []), (0, 1, 0, 0, []), (0, 1, 0, 0, []), (2, 0, 0, 64, []), (8, 0, 4, 0, []), (8, 0, 1, 0, []), (0, 2, 0, 0, []), (8, 0, 0, 0, []), (41, 0, 0, 0, [])]
/-- 134: HornBench$Terms.next(I)I -/
def am_c134 : List AmIns := [(0, 0, 3, 0, []), (24, 8, 0, 3, []), (0, 0, 3, 0, []), (0, 1, 0, 0, []), (40, 128, 2, 0, []), (40, 41, 2, 0, []), (1, 2, 0, 0, []), (0, 2, 0, 0, []), (2, 0, 0, (-1), []), (19, 12, 1, 0, []), (2, 0, 0, (-1), []), (22, 19, 0, 0, []), (0, 1, 0, 0, []), (0, 1, 0, 0, []), (2, 0, 0, 64, []), (8, 0, 4, 0, []), (8, 0, 1, 0, []), (0, 2, 0, 0, []), (8, 0, 0, 0, []), (41, 0, 0, 0, [])]
/-- 135: HornBench$Terms.cell(I)I -/
def am_c135 : List AmIns := [(0, 0, 3, 0, []), (0, 1, 0, 0, []), (40, 128, 2, 0, []), (1, 2, 0, 0, []), (0, 0, 3, 0, []), (24, 8, 0, 3, []), (0, 2, 0, 0, []), (40, 37, 2, 0, []), (2, 0, 0, 3, []), (19, 12, 0, 0, []), (2, 0, 0, (-1), []), (41, 0, 0, 0, []), (0, 1, 0, 0, []), (2, 0, 0, 64, []), (8, 0, 3, 0, []), (2, 0, 0, 8, []), (8, 0, 2, 0, []), (0, 0, 3, 0, []), (24, 8, 0, 3, []), (0, 2, 0, 0, []), (40, 38, 2, 0, []), (8, 0, 0, 0, []), (41, 0, 0, 0, [])]
/-- 136: HornBench$Terms.end(I)I -/
def am_c136 : List AmIns := [(0, 1, 0, 0, []), (1, 2, 0, 0, []), (0, 1, 0, 0, []), (2, 0, 0, 65130, []), (19, 30, 3, 0, []), (0, 0, 3, 0, []), (0, 1, 0, 0, []), (40, 128, 2, 0, []), (1, 3, 0, 0, []), (0, 0, 3, 0, []), (24, 8, 0, 3, []), (0, 3, 0, 0, []), (40, 37, 2, 0, []), (2, 0, 0, 3, []), (19, 17, 0, 0, []), (0, 1, 0, 0, []), (41, 0, 0, 0, []), (2, 0, 0, 65130, []), (0, 1, 0, 0, []), (2, 0, 0, 64, []), (8, 0, 3, 0, []), (2, 0, 0, 8, []), (8, 0, 2, 0, []), (8, 0, 0, 0, []), (0, 0, 3, 0, []), (24, 8, 0, 3, []), (0, 3, 0, 0, []), (40, 38, 2, 0, []), (8, 0, 0, 0, []), (1, 2, 0, 0, []), (2, 0, 0, 0, []), (1, 3, 0, 0, []), (0, 3, 0, 0, []), (2, 0, 0, 8016, []), (19, 62, 3, 0, []), (0, 2, 0, 0, []), (2, 0, 0, 65130, []), (19, 62, 2, 0, []), (0, 2, 0, 0, []), (2, 0, 0, 65130, []), (8, 0, 1, 0, []), (1, 4, 0, 0, []), (0, 4, 0, 0, []), (0, 0, 3, 0, []), (24, 8, 3, 3, []), (31, 0, 0, 0, []), (19, 53, 3, 0, []), (0, 0, 3, 0, []), (24, 8, 3, 3, []), (0, 4, 0, 0, []), (32, 0, 0, 0, []), (2, 0, 0, (-1), []), (19, 55, 1, 0, []), (0, 2, 0, 0, []), (41, 0, 0, 0, []), (0, 0, 3, 0, []), (24, 8, 3, 3, []), (0, 4, 0, 0, []), (32, 0, 0, 0, []), (1, 2, 0, 0, []), (17, 3, 0, 1, []), (22, 32, 0, 0, []), (0, 2, 0, 0, []), (41, 0, 0, 0, [])]
/-- 137: HornBench$Terms.isFree(I)Z -/
def am_c137 : List AmIns := [(0, 1, 0, 0, []), (2, 0, 0, 65130, []), (19, 5, 2, 0, []), (2, 0, 0, 1, []), (22, 6, 0, 0, []), (2, 0, 0, 0, []), (41, 0, 10, 0, [])]
/-- 138: HornBench$Terms.isNumber(I)Z -/
def am_c138 : List AmIns := [(0, 1, 0, 0, []), (2, 0, 0, 64128, []), (19, 6, 2, 0, []), (0, 1, 0, 0, []), (2, 0, 0, 65130, []), (19, 14, 2, 0, []), (0, 0, 3, 0, []), (24, 8, 0, 3, []), (0, 0, 3, 0, []), (0, 1, 0, 0, []), (40, 128, 2, 0, []), (40, 37, 2, 0, []), (2, 0, 0, 4, []), (19, 16, 1, 0, []), (2, 0, 0, 1, []), (22, 17, 0, 0, []), (2, 0, 0, 0, []), (41, 0, 10, 0, [])]
/-- 139: HornBench$Terms.numberOf(I)I -/
def am_c139 : List AmIns := [(0, 1, 0, 0, []), (2, 0, 0, 64128, []), (8, 0, 1, 0, []), (1, 2, 0, 0, []), (0, 2, 0, 0, []), (18, 16, 2, 0, []), (0, 2, 0, 0, []), (0, 0, 3, 0, []), (24, 8, 2, 3, []), (31, 0, 0, 0, []), (19, 16, 3, 0, []), (0, 0, 3, 0, []), (24, 8, 2, 3, []), (0, 2, 0, 0, []), (32, 0, 0, 0, []), (22, 22, 0, 0, []), (0, 0, 3, 0, []), (24, 8, 0, 3, []), (0, 0, 3, 0, []), (0, 1, 0, 0, []), (40, 128, 2, 0, []), (40, 38, 2, 0, []), (41, 0, 0, 0, [])]
/-- 140: HornBench$Terms.result(II)I -/
def am_c140 : List AmIns := [(0, 0, 3, 0, []), (24, 8, 2, 3, []), (0, 1, 0, 0, []), (0, 2, 0, 0, []), (40, 183, 3, 12, []), (2, 0, 0, 64128, []), (0, 1, 0, 0, []), (8, 0, 0, 0, []), (41, 0, 0, 0, [])]
/-- 141: HornBench$Terms.bind(II)V -/
def am_c141 : List AmIns := [(0, 1, 0, 0, []), (2, 0, 0, 65130, []), (8, 0, 1, 0, []), (1, 3, 0, 0, []), (0, 3, 0, 0, []), (18, 37, 2, 0, []), (0, 3, 0, 0, []), (0, 0, 3, 0, []), (24, 8, 3, 3, []), (31, 0, 0, 0, []), (19, 37, 3, 0, []), (0, 0, 3, 0, []), (24, 8, 5, 0, []), (18, 37, 2, 0, []), (0, 0, 3, 0, []), (24, 8, 5, 0, []), (0, 0, 3, 0, []), (24, 8, 4, 3, []), (31, 0, 0, 0, []), (19, 37, 3, 0, []), (0, 0, 3, 0, []), (24, 8, 3, 3, []), (0, 3, 0, 0, []), (0, 2, 0, 0, []), (33, 61, 11, 0, []), (0, 0, 3, 0, []), (24, 8, 4, 3, []), (0, 0, 3, 0, []), (24, 8, 5, 0, []), (0, 3, 0, 0, []), (33, 61, 11, 0, []), (0, 0, 3, 0, []), (26, 0, 0, 0, []), (24, 8, 5, 0, []), (2, 0, 0, 1, []), (8, 0, 0, 0, []), (25, 8, 5, 0, []), (41, 0, 9, 0, [])]
/-- 142: HornBench$Terms.trailed()I -/
def am_c142 : List AmIns := [(0, 0, 3, 0, []), (24, 8, 5, 0, []), (41, 0, 0, 0, [])]
/-- 143: HornBench$Terms.undo(I)V -/
def am_c143 : List AmIns := [(0, 1, 0, 0, []), (2, 0, 0, 0, []), (38, 0, 0, 0, []), (1, 2, 0, 0, []), (0, 0, 3, 0, []), (24, 8, 5, 0, []), (2, 0, 0, 1, []), (8, 0, 1, 0, []), (1, 3, 0, 0, []), (0, 3, 0, 0, []), (0, 2, 0, 0, []), (19, 22, 2, 0, []), (0, 0, 3, 0, []), (24, 8, 3, 3, []), (0, 0, 3, 0, []), (24, 8, 4, 3, []), (0, 3, 0, 0, []), (40, 182, 2, 12, []), (2, 0, 0, (-1), []), (40, 183, 3, 12, []), (17, 3, 0, (-1), []), (22, 9, 0, 0, []), (0, 0, 3, 0, []), (0, 0, 3, 0, []), (24, 8, 5, 0, []), (0, 2, 0, 0, []), (38, 0, 1, 0, []), (25, 8, 5, 0, []), (41, 0, 9, 0, [])]
/-- 144: HornBench$Terms.standsIn(II)Z -/
def am_c144 : List AmIns := [(2, 0, 0, 0, []), (1, 3, 0, 0, []), (0, 2, 0, 0, []), (1, 4, 0, 0, []), (2, 0, 0, 0, []), (1, 5, 0, 0, []), (0, 5, 0, 0, []), (0, 0, 3, 0, []), (24, 8, 6, 3, []), (40, 1, 1, 0, []), (19, 86, 4, 0, []), (0, 3, 0, 0, []), (18, 86, 1, 0, []), (0, 4, 0, 0, []), (2, 0, 0, 65130, []), (19, 23, 2, 0, []), (0, 0, 3, 0, []), (24, 8, 6, 3, []), (0, 4, 0, 0, []), (2, 0, 0, 65130, []), (8, 0, 1, 0, []), (40, 4, 2, 0, []), (22, 69, 0, 0, []), (0, 4, 0, 0, []), (18, 69, 2, 0, []), (0, 4, 0, 0, []), (2, 0, 0, 64128, []), (19, 69, 3, 0, []), (0, 0, 3, 0, []), (0, 4, 0, 0, []), (40, 128, 2, 0, []), (1, 6, 0, 0, []), (0, 4, 0, 0, []), (2, 0, 0, 64, []), (8, 0, 3, 0, []), (2, 0, 0, 8, []), (8, 0, 2, 0, []), (1, 7, 0, 0, []), (0, 6, 0, 0, []), (0, 4, 0, 0, []), (2, 0, 0, 64, []), (8, 0, 4, 0, []), (8, 0, 1, 0, []), (0, 0, 3, 0, []), (24, 8, 0, 3, []), (0, 6, 0, 0, []), (40, 42, 2, 0, []), (8, 0, 0, 0, []), (1, 8, 0, 0, []), (0, 8, 0, 0, []), (0, 6, 0, 0, []), (19, 69, 4, 0, []), (0, 0, 3, 0, []), (24, 8, 0, 3, []), (0, 8, 0, 0, []), (40, 37, 2, 0, []), (2, 0, 0, 3, []), (19, 67, 1, 0, []), (0, 0, 3, 0, []), (24, 8, 6, 3, []), (0, 7, 0, 0, []), (0, 0, 3, 0, []), (24, 8, 0, 3, []), (0, 8, 0, 0, []), (40, 38, 2, 0, []), (8, 0, 0, 0, []), (40, 4, 2, 0, []), (17, 8, 0, 1, []), (22, 49, 0, 0, []), (0, 0, 3, 0, []), (24, 8, 6, 3, []), (0, 1, 0, 0, []), (2, 0, 0, 65130, []), (8, 0, 1, 0, []), (40, 3, 2, 0, []), (1, 3, 0, 0, []), (0, 0, 3, 0, []), (24, 8, 3, 3, []), (0, 0, 3, 0, []), (24, 8, 6, 3, []), (0, 5, 0, 0, []), (40, 2, 2, 0, []), (40, 182, 2, 12, []), (1, 4, 0, 0, []), (17, 5, 0, 1, []), (22, 6, 0, 0, []), (0, 0, 3, 0, []), (24, 8, 6, 3, []), (40, 5, 1, 0, []), (0, 3, 0, 0, []), (41, 0, 10, 0, [])]
/-- 145: HornBench$Tokens.<init>(LHornBench$Tape;)V -/
def am_c145 : List AmIns := [(0, 0, 3, 0, []), (35, 0, 0, 0, []), (0, 0, 3, 0, []), (2, 0, 0, 2001, []), (29, 61, 0, 0, []), (25, 9, 1, 3, []), (0, 0, 3, 0, []), (2, 0, 0, 2001, []), (29, 61, 0, 0, []), (25, 9, 2, 3, []), (0, 0, 3, 0, []), (2, 0, 0, 2001, []), (29, 62, 0, 0, []), (25, 9, 3, 3, []), (0, 0, 3, 0, []), (0, 1, 3, 0, []), (25, 9, 0, 3, []), (41, 0, 9, 0, [])]
/-- 146: HornBench$Tokens.kind(I)I -/
def am_c146 : List AmIns := [(0, 1, 0, 0, []), (18, 16, 2, 0, []), (0, 1, 0, 0, []), (0, 0, 3, 0, []), (24, 9, 4, 0, []), (19, 16, 3, 0, []), (0, 1, 0, 0, []), (0, 0, 3, 0, []), (24, 9, 1, 3, []), (31, 0, 0, 0, []), (19, 16, 3, 0, []), (0, 0, 3, 0, []), (24, 9, 1, 3, []), (0, 1, 0, 0, []), (32, 0, 0, 0, []), (22, 17, 0, 0, []), (2, 0, 0, 2, []), (41, 0, 0, 0, [])]
/-- 147: HornBench$Tokens.start(I)I -/
def am_c147 : List AmIns := [(0, 1, 0, 0, []), (18, 16, 2, 0, []), (0, 1, 0, 0, []), (0, 0, 3, 0, []), (24, 9, 4, 0, []), (19, 16, 3, 0, []), (0, 1, 0, 0, []), (0, 0, 3, 0, []), (24, 9, 2, 3, []), (31, 0, 0, 0, []), (19, 16, 3, 0, []), (0, 0, 3, 0, []), (24, 9, 2, 3, []), (0, 1, 0, 0, []), (32, 0, 0, 0, []), (22, 17, 0, 0, []), (2, 0, 0, (-1), []), (41, 0, 0, 0, [])]
/-- 148: HornBench$Tokens.text(I)J -/
def am_c148 : List AmIns := [(0, 1, 0, 0, []), (18, 16, 2, 0, []), (0, 1, 0, 0, []), (0, 0, 3, 0, []), (24, 9, 4, 0, []), (19, 16, 3, 0, []), (0, 1, 0, 0, []), (0, 0, 3, 0, []), (24, 9, 3, 3, []), (31, 0, 0, 0, []), (19, 16, 3, 0, []), (0, 0, 3, 0, []), (24, 9, 3, 3, []), (0, 1, 0, 0, []), (32, 0, 1, 0, []), (22, 17, 0, 0, []), (3, 0, 0, 0, []), (41, 0, 1, 0, [])]
/-- 149: HornBench$Tokens.read()V -/
def am_c149 : List AmIns := [(0, 0, 3, 0, []), (2, 0, 0, 0, []), (25, 9, 4, 0, []), (2, 0, 0, 0, []), (1, 1, 0, 0, []), (2, 0, 0, 1, []), (1, 2, 0, 0, []), (2, 0, 0, 0, []), (1, 3, 0, 0, []), (0, 3, 0, 0, []), (2, 0, 0, 2001, []), (19, 39, 3, 0, []), (0, 2, 0, 0, []), (18, 39, 0, 0, []), (0, 0, 3, 0, []), (0, 0, 3, 0, []), (0, 1, 0, 0, []), (40, 150, 2, 0, []), (40, 151, 2, 0, []), (1, 1, 0, 0, []), (0, 0, 3, 0, []), (0, 0, 3, 0, []), (24, 9, 4, 0, []), (2, 0, 0, 1, []), (8, 0, 1, 0, []), (40, 146, 2, 0, []), (1, 4, 0, 0, []), (0, 4, 0, 0, []), (2, 0, 0, 1, []), (19, 35, 0, 0, []), (0, 4, 0, 0, []), (2, 0, 0, 2, []), (19, 35, 0, 0, []), (2, 0, 0, 1, []), (22, 36, 0, 0, []), (2, 0, 0, 0, []), (1, 2, 0, 0, []), (17, 3, 0, 1, []), (22, 9, 0, 0, []), (41, 0, 9, 0, [])]
/-- 150: HornBench$Tokens.behindBlanks(I)I -/
def am_c150 : List AmIns := [(0, 1, 0, 0, []), (1, 2, 0, 0, []), (0, 2, 0, 0, []), (2, 0, 0, 2000, []), (19, 19, 3, 0, []), (0, 0, 3, 0, []), (24, 9, 0, 3, []), (0, 2, 0, 0, []), (40, 122, 2, 0, []), (2, 0, 0, 32, []), (19, 17, 0, 0, []), (0, 0, 3, 0, []), (24, 9, 0, 3, []), (0, 2, 0, 0, []), (40, 122, 2, 0, []), (2, 0, 0, 10, []), (19, 19, 1, 0, []), (17, 2, 0, 1, []), (22, 2, 0, 0, []), (0, 2, 0, 0, []), (41, 0, 0, 0, [])]
/-- 151: HornBench$Tokens.readToken(I)I -/
def am_c151 : List AmIns := [(0, 0, 3, 0, []), (24, 9, 0, 3, []), (0, 1, 0, 0, []), (40, 122, 2, 0, []), (1, 2, 0, 0, []), (0, 2, 0, 0, []), (2, 0, 0, (-1), []), (19, 15, 1, 0, []), (0, 0, 3, 0, []), (2, 0, 0, 1, []), (0, 1, 0, 0, []), (3, 0, 0, 0, []), (0, 1, 0, 0, []), (40, 161, 5, 0, []), (41, 0, 0, 0, []), (0, 2, 0, 0, []), (40, 158, 1, 2, []), (18, 22, 0, 0, []), (0, 0, 3, 0, []), (0, 1, 0, 0, []), (40, 154, 2, 0, []), (41, 0, 0, 0, []), (0, 2, 0, 0, []), (40, 157, 1, 2, []), (18, 29, 0, 0, []), (0, 0, 3, 0, []), (0, 1, 0, 0, []), (40, 152, 2, 0, []), (41, 0, 0, 0, []), (0, 2, 0, 0, []), (2, 0, 0, 95, []), (19, 38, 0, 0, []), (0, 2, 0, 0, []), (2, 0, 0, 65, []), (19, 63, 2, 0, []), (0, 2, 0, 0, []), (2, 0, 0, 90, []), (19, 63, 4, 0, []), (0, 0, 3, 0, []), (0, 1, 0, 0, []), (2, 0, 0, 1, []), (8, 0, 0, 0, []), (40, 159, 2, 0, []), (1, 3, 0, 0, []), (0, 3, 0, 0, []), (0, 1, 0, 0, []), (8, 0, 1, 0, []), (2, 0, 0, 8, []), (19, 51, 5, 0, []), (2, 0, 0, 2, []), (22, 52, 0, 0, []), (2, 0, 0, 3, []), (1, 4, 0, 0, []), (0, 0, 3, 0, []), (0, 4, 0, 0, []), (0, 1, 0, 0, []), (0, 0, 3, 0, []), (0, 1, 0, 0, []), (0, 3, 0, 0, []), (40, 160, 3, 0, []), (0, 3, 0, 0, []), (40, 161, 5, 0, []), (41, 0, 0, 0, []), (0, 0, 3, 0, []), (0, 1, 0, 0, []), (0, 2, 0, 0, []), (0, 0, 3, 0, []), (24, 9, 0, 3, []), (0, 1, 0, 0, []), (2, 0, 0, 1, []), (8, 0, 0, 0, []), (40, 122, 2, 0, []), (40, 155, 4, 0, []), (41, 0, 0, 0, [])]
/-- 152: HornBench$Tokens.readWord(I)I -/
def am_c152 : List AmIns := [(0, 0, 3, 0, []), (0, 1, 0, 0, []), (40, 159, 2, 0, []), (1, 2, 0, 0, []), (0, 0, 3, 0, []), (0, 1, 0, 0, []), (0, 2, 0, 0, []), (40, 160, 3, 0, []), (1, 3, 1, 0, []), (0, 0, 3, 0, []), (0, 2, 0, 0, []), (0, 1, 0, 0, []), (8, 0, 1, 0, []), (2, 0, 0, 8, []), (19, 17, 5, 0, []), (2, 0, 0, 2, []), (22, 19, 0, 0, []), (0, 3, 1, 0, []), (40, 153, 1, 2, []), (0, 1, 0, 0, []), (0, 3, 1, 0, []), (0, 2, 0, 0, []), (40, 161, 5, 0, []), (41, 0, 0, 0, [])]
/-- 153: HornBench$Tokens.kindOfWord(J)I -/
def am_c153 : List AmIns := [(0, 0, 1, 0, []), (3, 0, 0, 1953658213, []), (13, 0, 0, 0, []), (18, 6, 1, 0, []), (2, 0, 0, 6, []), (41, 0, 0, 0, []), (0, 0, 1, 0, []), (3, 0, 0, 1717660012, []), (13, 0, 0, 0, []), (18, 12, 1, 0, []), (2, 0, 0, 7, []), (41, 0, 0, 0, []), (0, 0, 1, 0, []), (3, 0, 0, 7237492, []), (13, 0, 0, 0, []), (18, 18, 1, 0, []), (2, 0, 0, 8, []), (41, 0, 0, 0, []), (0, 0, 1, 0, []), (3, 0, 0, 7758194, []), (13, 0, 0, 0, []), (18, 24, 1, 0, []), (2, 0, 0, 9, []), (41, 0, 0, 0, []), (0, 0, 1, 0, []), (3, 0, 0, 26995, []), (13, 0, 0, 0, []), (18, 30, 1, 0, []), (2, 0, 0, 10, []), (41, 0, 0, 0, []), (0, 0, 1, 0, []), (3, 0, 0, 7171940, []), (13, 0, 0, 0, []), (18, 36, 1, 0, []), (2, 0, 0, 11, []), (22, 37, 0, 0, []), (2, 0, 0, 5, []), (41, 0, 0, 0, [])]
/-- 154: HornBench$Tokens.readNumber(I)I -/
def am_c154 : List AmIns := [(3, 0, 0, 0, []), (1, 2, 1, 0, []), (0, 1, 0, 0, []), (1, 4, 0, 0, []), (0, 4, 0, 0, []), (2, 0, 0, 2000, []), (19, 27, 3, 0, []), (0, 0, 3, 0, []), (24, 9, 0, 3, []), (0, 4, 0, 0, []), (40, 122, 2, 0, []), (40, 158, 1, 2, []), (18, 27, 0, 0, []), (0, 2, 1, 0, []), (3, 0, 0, 10, []), (10, 0, 2, 0, []), (0, 0, 3, 0, []), (24, 9, 0, 3, []), (0, 4, 0, 0, []), (40, 122, 2, 0, []), (2, 0, 0, 48, []), (8, 0, 1, 0, []), (14, 0, 0, 0, []), (10, 0, 0, 0, []), (1, 2, 1, 0, []), (17, 4, 0, 1, []), (22, 4, 0, 0, []), (0, 0, 3, 0, []), (0, 4, 0, 0, []), (0, 1, 0, 0, []), (8, 0, 1, 0, []), (2, 0, 0, 6, []), (19, 35, 5, 0, []), (2, 0, 0, 2, []), (22, 36, 0, 0, []), (2, 0, 0, 4, []), (0, 1, 0, 0, []), (0, 2, 1, 0, []), (0, 4, 0, 0, []), (40, 161, 5, 0, []), (41, 0, 0, 0, [])]
/-- 155: HornBench$Tokens.readSymbol(III)I -/
def am_c155 : List AmIns := [(0, 2, 0, 0, []), (2, 0, 0, 256, []), (8, 0, 2, 0, []), (0, 3, 0, 0, []), (8, 0, 0, 0, []), (1, 4, 0, 0, []), (0, 4, 0, 0, []), (23, 58, 1, 0, [(14893, 48), (15676, 8), (15677, 28), (15933, 18), (23613, 38)]), (0, 0, 3, 0, []), (2, 0, 0, 12, []), (0, 1, 0, 0, []), (0, 4, 0, 0, []), (14, 0, 0, 0, []), (0, 1, 0, 0, []), (2, 0, 0, 2, []), (8, 0, 0, 0, []), (40, 161, 5, 0, []), (41, 0, 0, 0, []), (0, 0, 3, 0, []), (2, 0, 0, 13, []), (0, 1, 0, 0, []), (0, 4, 0, 0, []), (14, 0, 0, 0, []), (0, 1, 0, 0, []), (2, 0, 0, 2, []), (8, 0, 0, 0, []), (40, 161, 5, 0, []), (41, 0, 0, 0, []), (0, 0, 3, 0, []), (2, 0, 0, 14, []), (0, 1, 0, 0, []), (0, 4, 0, 0, []), (14, 0, 0, 0, []), (0, 1, 0, 0, []), (2, 0, 0, 2, []), (8, 0, 0, 0, []), (40, 161, 5, 0, []), (41, 0, 0, 0, []), (0, 0, 3, 0, []), (2, 0, 0, 15, []), (0, 1, 0, 0, []), (0, 4, 0, 0, []), (14, 0, 0, 0, []), (0, 1, 0, 0, []), (2, 0, 0, 2, []), (8, 0, 0, 0, []), (40, 161, 5, 0, []), (41, 0, 0, 0, []), (0, 0, 3, 0, []), (2, 0, 0, 16, []), (0, 1, 0, 0, []), (0, 4, 0, 0, []), (14, 0, 0, 0, []), (0, 1, 0, 0, []), (2, 0, 0, 2, []), (8, 0, 0, 0, []), (40, 161, 5, 0, []), (41, 0, 0, 0, []), (0, 0, 3, 0, []), (0, 2, 0, 0, []), (40, 156, 1, 2, []), (18, 64, 0, 0, []), (0, 2, 0, 0, []), (22, 65, 0, 0, []), (2, 0, 0, 2, []), (0, 1, 0, 0, []), (0, 2, 0, 0, []), (14, 0, 0, 0, []), (0, 1, 0, 0, []), (2, 0, 0, 1, []), (8, 0, 0, 0, []), (40, 161, 5, 0, []), (41, 0, 0, 0, [])]
/-- 156: HornBench$Tokens.isSymbol(I)Z -/
def am_c156 : List AmIns := [(0, 0, 0, 0, []), (23, 4, 1, 0, [(33, 2), (40, 2), (41, 2), (42, 2), (43, 2), (44, 2), (45, 2), (46, 2), (47, 2), (60, 2), (61, 2), (62, 2), (91, 2), (93, 2), (124, 2)]), (2, 0, 0, 1, []), (41, 0, 10, 0, []), (2, 0, 0, 0, []), (41, 0, 10, 0, [])]
/-- 157: HornBench$Tokens.isSmall(I)Z -/
def am_c157 : List AmIns := [(0, 0, 0, 0, []), (2, 0, 0, 97, []), (19, 8, 2, 0, []), (0, 0, 0, 0, []), (2, 0, 0, 122, []), (19, 8, 4, 0, []), (2, 0, 0, 1, []), (22, 9, 0, 0, []), (2, 0, 0, 0, []), (41, 0, 10, 0, [])]
/-- 158: HornBench$Tokens.isDigit(I)Z -/
def am_c158 : List AmIns := [(0, 0, 0, 0, []), (2, 0, 0, 48, []), (19, 8, 2, 0, []), (0, 0, 0, 0, []), (2, 0, 0, 57, []), (19, 8, 4, 0, []), (2, 0, 0, 1, []), (22, 9, 0, 0, []), (2, 0, 0, 0, []), (41, 0, 10, 0, [])]
/-- 159: HornBench$Tokens.behindWord(I)I -/
def am_c159 : List AmIns := [(0, 1, 0, 0, []), (1, 2, 0, 0, []), (0, 2, 0, 0, []), (2, 0, 0, 2000, []), (19, 19, 3, 0, []), (0, 0, 3, 0, []), (24, 9, 0, 3, []), (0, 2, 0, 0, []), (40, 122, 2, 0, []), (40, 157, 1, 2, []), (18, 17, 1, 0, []), (0, 0, 3, 0, []), (24, 9, 0, 3, []), (0, 2, 0, 0, []), (40, 122, 2, 0, []), (40, 158, 1, 2, []), (18, 19, 0, 0, []), (17, 2, 0, 1, []), (22, 2, 0, 0, []), (0, 2, 0, 0, []), (41, 0, 0, 0, [])]
/-- 160: HornBench$Tokens.nameOf(II)J -/
def am_c160 : List AmIns := [(3, 0, 0, 0, []), (1, 3, 1, 0, []), (0, 1, 0, 0, []), (1, 5, 0, 0, []), (0, 5, 0, 0, []), (0, 2, 0, 0, []), (19, 19, 3, 0, []), (0, 3, 1, 0, []), (2, 0, 0, 8, []), (11, 0, 0, 0, []), (0, 0, 3, 0, []), (24, 9, 0, 3, []), (0, 5, 0, 0, []), (40, 122, 2, 0, []), (14, 0, 0, 0, []), (10, 0, 6, 0, []), (1, 3, 1, 0, []), (17, 5, 0, 1, []), (22, 4, 0, 0, []), (0, 3, 1, 0, []), (41, 0, 1, 0, [])]
/-- 161: HornBench$Tokens.keep(IIJI)I -/
def am_c161 : List AmIns := [(0, 0, 3, 0, []), (24, 9, 4, 0, []), (18, 45, 2, 0, []), (0, 0, 3, 0, []), (24, 9, 4, 0, []), (0, 0, 3, 0, []), (24, 9, 1, 3, []), (31, 0, 0, 0, []), (19, 45, 3, 0, []), (0, 0, 3, 0, []), (24, 9, 4, 0, []), (0, 0, 3, 0, []), (24, 9, 2, 3, []), (31, 0, 0, 0, []), (19, 45, 3, 0, []), (0, 0, 3, 0, []), (24, 9, 4, 0, []), (0, 0, 3, 0, []), (24, 9, 3, 3, []), (31, 0, 0, 0, []), (19, 45, 3, 0, []), (0, 0, 3, 0, []), (24, 9, 1, 3, []), (0, 0, 3, 0, []), (24, 9, 4, 0, []), (0, 1, 0, 0, []), (33, 61, 11, 0, []), (0, 0, 3, 0, []), (24, 9, 2, 3, []), (0, 0, 3, 0, []), (24, 9, 4, 0, []), (0, 2, 0, 0, []), (33, 61, 11, 0, []), (0, 0, 3, 0, []), (24, 9, 3, 3, []), (0, 0, 3, 0, []), (24, 9, 4, 0, []), (0, 3, 1, 0, []), (33, 62, 11, 0, []), (0, 0, 3, 0, []), (26, 0, 0, 0, []), (24, 9, 4, 0, []), (2, 0, 0, 1, []), (8, 0, 0, 0, []), (25, 9, 4, 0, []), (0, 5, 0, 0, []), (41, 0, 0, 0, [])]
/-- 162: HornBench.<init>()V -/
def am_c162 : List AmIns := [(0, 0, 3, 0, []), (35, 0, 0, 0, []), (0, 0, 3, 0, []), (28, 7, 2, 0, []), (26, 0, 0, 0, []), (40, 117, 1, 11, []), (25, 10, 0, 3, []), (0, 0, 3, 0, []), (28, 3, 15, 0, []), (26, 0, 0, 0, []), (40, 16, 1, 1, []), (25, 10, 1, 3, []), (0, 0, 3, 0, []), (28, 4, 11, 0, []), (26, 0, 0, 0, []), (0, 0, 3, 0, []), (24, 10, 0, 3, []), (0, 0, 3, 0, []), (24, 10, 1, 3, []), (40, 45, 3, 1, []), (25, 10, 2, 3, []), (0, 0, 3, 0, []), (28, 8, 7, 0, []), (26, 0, 0, 0, []), (0, 0, 3, 0, []), (24, 10, 1, 3, []), (40, 123, 2, 1, []), (25, 10, 3, 3, []), (0, 0, 3, 0, []), (28, 2, 4, 0, []), (26, 0, 0, 0, []), (0, 0, 3, 0, []), (24, 10, 3, 3, []), (40, 12, 2, 1, []), (25, 10, 4, 3, []), (0, 0, 3, 0, []), (28, 6, 19, 0, []), (26, 0, 0, 0, []), (0, 0, 3, 0, []), (24, 10, 1, 3, []), (0, 0, 3, 0, []), (24, 10, 3, 3, []), (0, 0, 3, 0, []), (24, 10, 4, 3, []), (40, 92, 4, 1, []), (25, 10, 5, 3, []), (0, 0, 3, 0, []), (28, 5, 10, 0, []), (26, 0, 0, 0, []), (0, 0, 3, 0, []), (24, 10, 3, 3, []), (40, 73, 2, 1, []), (25, 10, 6, 3, []), (0, 0, 3, 0, []), (2, 0, 0, (-1), []), (25, 10, 7, 0, []), (41, 0, 9, 0, [])]
/-- 163: HornBench.feed(IIIII)I -/
def am_c163 : List AmIns := [(0, 0, 3, 0, []), (24, 10, 0, 3, []), (40, 119, 1, 0, []), (18, 9, 1, 0, []), (42, 0, 0, 0, []), (99, 0, 0, 0, []), (99, 0, 0, 0, []), (99, 0, 0, 0, []), (99, 0, 0, 0, []), (0, 0, 3, 0, []), (24, 10, 0, 3, []), (0, 1, 0, 0, []), (40, 120, 2, 0, []), (0, 0, 3, 0, []), (24, 10, 0, 3, []), (0, 2, 0, 0, []), (40, 120, 2, 0, []), (0, 0, 3, 0, []), (24, 10, 0, 3, []), (0, 3, 0, 0, []), (40, 120, 2, 0, []), (0, 0, 3, 0, []), (24, 10, 0, 3, []), (0, 4, 0, 0, []), (40, 120, 2, 0, []), (0, 0, 3, 0, []), (24, 10, 0, 3, []), (0, 5, 0, 0, []), (40, 120, 2, 0, []), (0, 0, 3, 0, []), (24, 10, 0, 3, []), (40, 118, 1, 0, []), (41, 0, 0, 0, [])]
/-- 164: HornBench.trim(I)I -/
def am_c164 : List AmIns := [(0, 1, 0, 0, []), (18, 7, 2, 0, []), (0, 1, 0, 0, []), (0, 0, 3, 0, []), (24, 10, 0, 3, []), (40, 118, 1, 0, []), (19, 12, 5, 0, []), (42, 1, 0, 0, []), (99, 0, 0, 0, []), (99, 0, 0, 0, []), (99, 0, 0, 0, []), (99, 0, 0, 0, []), (0, 0, 3, 0, []), (24, 10, 0, 3, []), (0, 1, 0, 0, []), (40, 121, 2, 0, []), (0, 1, 0, 0, []), (41, 0, 0, 0, [])]
/-- 165: HornBench.consult()I -/
def am_c165 : List AmIns := [(0, 0, 3, 0, []), (24, 10, 1, 3, []), (40, 17, 1, 0, []), (0, 0, 3, 0, []), (24, 10, 5, 3, []), (40, 94, 1, 0, []), (0, 0, 3, 0, []), (0, 0, 3, 0, []), (24, 10, 2, 3, []), (40, 46, 1, 0, []), (40, 171, 2, 0, []), (41, 0, 0, 0, [])]
/-- 166: HornBench.add()I -/
def am_c166 : List AmIns := [(0, 0, 3, 0, []), (24, 10, 5, 3, []), (40, 94, 1, 0, []), (0, 0, 3, 0, []), (0, 0, 3, 0, []), (24, 10, 2, 3, []), (40, 46, 1, 0, []), (40, 171, 2, 0, []), (41, 0, 0, 0, [])]
/-- 167: HornBench.drop(I)I -/
def am_c167 : List AmIns := [(0, 1, 0, 0, []), (18, 7, 2, 0, []), (0, 1, 0, 0, []), (0, 0, 3, 0, []), (24, 10, 1, 3, []), (40, 26, 1, 0, []), (19, 12, 2, 0, []), (42, 2, 0, 0, []), (99, 0, 0, 0, []), (99, 0, 0, 0, []), (99, 0, 0, 0, []), (99, 0, 0, 0, []), (0, 0, 3, 0, []), (24, 10, 5, 3, []), (40, 94, 1, 0, []), (0, 0, 3, 0, []), (24, 10, 1, 3, []), (0, 1, 0, 0, []), (40, 19, 2, 0, []), (0, 0, 3, 0, []), (24, 10, 1, 3, []), (40, 26, 1, 0, []), (41, 0, 0, 0, [])]
/-- 168: HornBench.errorAt()I -/
def am_c168 : List AmIns := [(0, 0, 3, 0, []), (24, 10, 7, 0, []), (41, 0, 0, 0, [])]
/-- 169: HornBench.count(I)I -/
def am_c169 : List AmIns := [(0, 1, 0, 0, []), (23, 38, 0, 0, [(0, 2), (1, 6), (2, 10), (3, 14), (4, 18), (5, 22), (6, 26), (7, 30), (8, 34)]), (0, 0, 3, 0, []), (24, 10, 1, 3, []), (40, 26, 1, 0, []), (41, 0, 0, 0, []), (0, 0, 3, 0, []), (24, 10, 1, 3, []), (40, 35, 1, 0, []), (41, 0, 0, 0, []), (0, 0, 3, 0, []), (24, 10, 0, 3, []), (40, 118, 1, 0, []), (41, 0, 0, 0, []), (0, 0, 3, 0, []), (24, 10, 6, 3, []), (40, 74, 1, 0, []), (41, 0, 0, 0, []), (0, 0, 3, 0, []), (24, 10, 5, 3, []), (40, 97, 1, 0, []), (41, 0, 0, 0, []), (0, 0, 3, 0, []), (24, 10, 5, 3, []), (40, 98, 1, 0, []), (41, 0, 0, 0, []), (0, 0, 3, 0, []), (24, 10, 5, 3, []), (40, 99, 1, 0, []), (41, 0, 0, 0, []), (0, 0, 3, 0, []), (24, 10, 5, 3, []), (40, 100, 1, 0, []), (41, 0, 0, 0, []), (0, 0, 3, 0, []), (24, 10, 5, 3, []), (40, 101, 1, 0, []), (41, 0, 0, 0, []), (42, 2, 0, 0, []), (99, 0, 0, 0, []), (99, 0, 0, 0, []), (99, 0, 0, 0, []), (99, 0, 0, 0, [])]
/-- 170: HornBench.clause(II)I -/
def am_c170 : List AmIns := [(0, 1, 0, 0, []), (18, 12, 2, 0, []), (0, 1, 0, 0, []), (0, 0, 3, 0, []), (24, 10, 1, 3, []), (40, 26, 1, 0, []), (19, 12, 3, 0, []), (0, 2, 0, 0, []), (18, 12, 2, 0, []), (0, 2, 0, 0, []), (2, 0, 0, 3, []), (19, 17, 5, 0, []), (42, 2, 0, 0, []), (99, 0, 0, 0, []), (99, 0, 0, 0, []), (99, 0, 0, 0, []), (99, 0, 0, 0, []), (0, 0, 3, 0, []), (24, 10, 1, 3, []), (0, 1, 0, 0, []), (40, 27, 2, 0, []), (1, 3, 0, 0, []), (0, 2, 0, 0, []), (23, 39, 0, 0, [(0, 24), (1, 29), (2, 34)]), (0, 0, 3, 0, []), (24, 10, 1, 3, []), (0, 3, 0, 0, []), (40, 30, 2, 0, []), (41, 0, 0, 0, []), (0, 0, 3, 0, []), (24, 10, 1, 3, []), (0, 3, 0, 0, []), (40, 31, 2, 0, []), (41, 0, 0, 0, []), (0, 0, 3, 0, []), (24, 10, 1, 3, []), (0, 3, 0, 0, []), (40, 32, 2, 0, []), (41, 0, 0, 0, []), (0, 0, 3, 0, []), (24, 10, 1, 3, []), (0, 3, 0, 0, []), (40, 33, 2, 0, []), (41, 0, 0, 0, [])]
/-- 171: HornBench.finishReading(I)I -/
def am_c171 : List AmIns := [(0, 0, 3, 0, []), (0, 0, 3, 0, []), (24, 10, 2, 3, []), (40, 48, 1, 0, []), (25, 10, 7, 0, []), (0, 0, 3, 0, []), (24, 10, 0, 3, []), (2, 0, 0, 0, []), (40, 121, 2, 0, []), (0, 1, 0, 0, []), (41, 0, 0, 0, [])]
/-- 172: HornBench.ask()I -/
def am_c172 : List AmIns := [(0, 0, 3, 0, []), (24, 10, 5, 3, []), (40, 94, 1, 0, []), (0, 0, 3, 0, []), (24, 10, 2, 3, []), (40, 47, 1, 0, []), (1, 1, 0, 0, []), (0, 1, 0, 0, []), (18, 12, 1, 0, []), (0, 0, 3, 0, []), (24, 10, 5, 3, []), (40, 93, 1, 0, []), (0, 0, 3, 0, []), (0, 1, 0, 0, []), (40, 171, 2, 0, []), (41, 0, 0, 0, [])]
/-- 173: HornBench.run(I)I -/
def am_c173 : List AmIns := [(0, 1, 0, 0, []), (2, 0, 0, 1, []), (19, 6, 2, 0, []), (0, 1, 0, 0, []), (2, 0, 0, 500, []), (19, 11, 5, 0, []), (42, 1, 0, 0, []), (99, 0, 0, 0, []), (99, 0, 0, 0, []), (99, 0, 0, 0, []), (99, 0, 0, 0, []), (0, 0, 3, 0, []), (24, 10, 5, 3, []), (40, 95, 1, 0, []), (18, 20, 1, 0, []), (42, 0, 0, 0, []), (99, 0, 0, 0, []), (99, 0, 0, 0, []), (99, 0, 0, 0, []), (99, 0, 0, 0, []), (0, 0, 3, 0, []), (24, 10, 5, 3, []), (0, 1, 0, 0, []), (40, 104, 2, 0, []), (41, 0, 0, 0, [])]
/-- 174: HornBench.status()I -/
def am_c174 : List AmIns := [(0, 0, 3, 0, []), (24, 10, 5, 3, []), (40, 102, 1, 0, []), (41, 0, 0, 0, [])]
/-- 175: HornBench.write(I)I -/
def am_c175 : List AmIns := [(0, 0, 3, 0, []), (24, 10, 5, 3, []), (0, 1, 0, 0, []), (40, 96, 2, 0, []), (18, 10, 1, 0, []), (42, 2, 0, 0, []), (99, 0, 0, 0, []), (99, 0, 0, 0, []), (99, 0, 0, 0, []), (99, 0, 0, 0, []), (0, 0, 3, 0, []), (24, 10, 6, 3, []), (2, 0, 0, 1, []), (2, 0, 0, 65130, []), (0, 1, 0, 0, []), (8, 0, 0, 0, []), (40, 77, 3, 0, []), (18, 23, 1, 0, []), (42, 0, 0, 0, []), (99, 0, 0, 0, []), (99, 0, 0, 0, []), (99, 0, 0, 0, []), (99, 0, 0, 0, []), (0, 0, 3, 0, []), (24, 10, 6, 3, []), (40, 74, 1, 0, []), (41, 0, 0, 0, [])]
/-- 176: HornBench.writeGoal()I -/
def am_c176 : List AmIns := [(0, 0, 3, 0, []), (24, 10, 5, 3, []), (40, 95, 1, 0, []), (18, 9, 1, 0, []), (42, 0, 0, 0, []), (99, 0, 0, 0, []), (99, 0, 0, 0, []), (99, 0, 0, 0, []), (99, 0, 0, 0, []), (0, 0, 3, 0, []), (24, 10, 5, 3, []), (40, 103, 1, 0, []), (1, 1, 0, 0, []), (0, 1, 0, 0, []), (2, 0, 0, (-1), []), (19, 20, 1, 0, []), (0, 0, 3, 0, []), (24, 10, 6, 3, []), (40, 76, 1, 0, []), (22, 31, 0, 0, []), (0, 0, 3, 0, []), (24, 10, 6, 3, []), (2, 0, 0, 5, []), (0, 1, 0, 0, []), (40, 77, 3, 0, []), (18, 31, 1, 0, []), (42, 0, 0, 0, []), (99, 0, 0, 0, []), (99, 0, 0, 0, []), (99, 0, 0, 0, []), (99, 0, 0, 0, []), (0, 0, 3, 0, []), (24, 10, 6, 3, []), (40, 74, 1, 0, []), (41, 0, 0, 0, [])]
/-- 177: HornBench.byteAt(I)I -/
def am_c177 : List AmIns := [(0, 1, 0, 0, []), (18, 7, 2, 0, []), (0, 1, 0, 0, []), (0, 0, 3, 0, []), (24, 10, 6, 3, []), (40, 74, 1, 0, []), (19, 12, 2, 0, []), (42, 2, 0, 0, []), (99, 0, 0, 0, []), (99, 0, 0, 0, []), (99, 0, 0, 0, []), (99, 0, 0, 0, []), (0, 0, 3, 0, []), (24, 10, 6, 3, []), (0, 1, 0, 0, []), (40, 75, 2, 0, []), (41, 0, 0, 0, [])]
/-- 178: HornBench.number(I)I -/
def am_c178 : List AmIns := [(0, 0, 3, 0, []), (24, 10, 5, 3, []), (0, 1, 0, 0, []), (40, 96, 2, 0, []), (18, 10, 1, 0, []), (42, 2, 0, 0, []), (99, 0, 0, 0, []), (99, 0, 0, 0, []), (99, 0, 0, 0, []), (99, 0, 0, 0, []), (0, 0, 3, 0, []), (24, 10, 3, 3, []), (2, 0, 0, 65130, []), (0, 1, 0, 0, []), (8, 0, 0, 0, []), (40, 136, 2, 0, []), (1, 2, 0, 0, []), (0, 0, 3, 0, []), (24, 10, 3, 3, []), (0, 2, 0, 0, []), (40, 138, 2, 0, []), (18, 27, 1, 0, []), (42, 0, 0, 0, []), (99, 0, 0, 0, []), (99, 0, 0, 0, []), (99, 0, 0, 0, []), (99, 0, 0, 0, []), (0, 0, 3, 0, []), (24, 10, 3, 3, []), (0, 2, 0, 0, []), (40, 139, 2, 0, []), (41, 0, 0, 0, [])]
/-- 179: HornBench.isSame(II)Z -/
def am_c179 : List AmIns := [(0, 0, 3, 0, []), (24, 10, 5, 3, []), (0, 1, 0, 0, []), (40, 96, 2, 0, []), (18, 10, 0, 0, []), (0, 0, 3, 0, []), (24, 10, 5, 3, []), (0, 2, 0, 0, []), (40, 96, 2, 0, []), (18, 15, 1, 0, []), (42, 2, 0, 0, []), (99, 0, 0, 0, []), (99, 0, 0, 0, []), (99, 0, 0, 0, []), (99, 0, 0, 0, []), (0, 0, 3, 0, []), (24, 10, 4, 3, []), (2, 0, 0, 65130, []), (0, 1, 0, 0, []), (8, 0, 0, 0, []), (2, 0, 0, 65130, []), (0, 2, 0, 0, []), (8, 0, 0, 0, []), (2, 0, 0, 0, []), (40, 13, 4, 0, []), (41, 0, 10, 0, [])]
/-- 180: HornBench.stepsEach()D -/
def am_c180 : List AmIns := [(0, 0, 3, 0, []), (24, 10, 5, 3, []), (40, 100, 1, 0, []), (1, 1, 0, 0, []), (0, 1, 0, 0, []), (18, 8, 1, 0, []), (4, 0, 0, 0, []), (22, 15, 0, 0, []), (0, 0, 3, 0, []), (24, 10, 5, 3, []), (40, 99, 1, 0, []), (14, 0, 4, 0, []), (0, 1, 0, 0, []), (14, 0, 4, 0, []), (15, 0, 0, 0, []), (41, 0, 2, 0, [])]
/-- 181: HornBench.digest()J -/
def am_c181 : List AmIns := [(3, 0, 0, 389, []), (1, 1, 1, 0, []), (2, 0, 0, 0, []), (1, 3, 0, 0, []), (0, 3, 0, 0, []), (2, 0, 0, 8, []), (19, 18, 4, 0, []), (0, 1, 1, 0, []), (3, 0, 0, 31, []), (10, 0, 2, 0, []), (0, 0, 3, 0, []), (0, 3, 0, 0, []), (40, 169, 2, 0, []), (14, 0, 0, 0, []), (10, 0, 0, 0, []), (1, 1, 1, 0, []), (17, 3, 0, 1, []), (22, 4, 0, 0, []), (0, 1, 1, 0, []), (3, 0, 0, 31, []), (10, 0, 2, 0, []), (0, 0, 3, 0, []), (40, 174, 1, 0, []), (14, 0, 0, 0, []), (10, 0, 0, 0, []), (1, 1, 1, 0, []), (2, 0, 0, 0, []), (1, 3, 0, 0, []), (0, 3, 0, 0, []), (0, 0, 3, 0, []), (24, 10, 1, 3, []), (40, 26, 1, 0, []), (19, 52, 3, 0, []), (2, 0, 0, 0, []), (1, 4, 0, 0, []), (0, 4, 0, 0, []), (2, 0, 0, 3, []), (19, 50, 4, 0, []), (0, 1, 1, 0, []), (3, 0, 0, 31, []), (10, 0, 2, 0, []), (0, 0, 3, 0, []), (0, 3, 0, 0, []), (0, 4, 0, 0, []), (40, 170, 3, 0, []), (14, 0, 0, 0, []), (10, 0, 0, 0, []), (1, 1, 1, 0, []), (17, 4, 0, 1, []), (22, 35, 0, 0, []), (17, 3, 0, 1, []), (22, 28, 0, 0, []), (2, 0, 0, 0, []), (1, 3, 0, 0, []), (0, 3, 0, 0, []), (0, 0, 3, 0, []), (24, 10, 6, 3, []), (40, 74, 1, 0, []), (19, 71, 3, 0, []), (0, 1, 1, 0, []), (3, 0, 0, 31, []), (10, 0, 2, 0, []), (0, 0, 3, 0, []), (24, 10, 6, 3, []), (0, 3, 0, 0, []), (40, 75, 2, 0, []), (14, 0, 0, 0, []), (10, 0, 0, 0, []), (1, 1, 1, 0, []), (17, 3, 0, 1, []), (22, 54, 0, 0, []), (0, 1, 1, 0, []), (41, 0, 1, 0, [])]
/-- 182: HornBench.at([II)I -/
def am_c182 : List AmIns := [(0, 1, 0, 0, []), (18, 10, 2, 0, []), (0, 1, 0, 0, []), (0, 0, 3, 0, []), (31, 0, 0, 0, []), (19, 10, 3, 0, []), (0, 0, 3, 0, []), (0, 1, 0, 0, []), (32, 0, 0, 0, []), (22, 11, 0, 0, []), (2, 0, 0, (-1), []), (41, 0, 0, 0, [])]
/-- 183: HornBench.put([III)V -/
def am_c183 : List AmIns := [(0, 1, 0, 0, []), (18, 10, 2, 0, []), (0, 1, 0, 0, []), (0, 0, 3, 0, []), (31, 0, 0, 0, []), (19, 10, 3, 0, []), (0, 0, 3, 0, []), (0, 1, 0, 0, []), (0, 2, 0, 0, []), (33, 61, 11, 0, []), (41, 0, 9, 0, [])]
/-- 184: HornBenchModel$Clause.<init>()V -/
def am_c184 : List AmIns := [(0, 0, 3, 0, []), (35, 0, 0, 0, []), (0, 0, 3, 0, []), (2, 0, 0, 61, []), (29, 61, 0, 0, []), (25, 11, 0, 3, []), (0, 0, 3, 0, []), (2, 0, 0, 61, []), (29, 62, 0, 0, []), (25, 11, 1, 3, []), (0, 0, 3, 0, []), (2, 0, 0, 61, []), (29, 61, 0, 0, []), (25, 11, 2, 3, []), (0, 0, 3, 0, []), (2, 0, 0, 61, []), (29, 61, 0, 0, []), (25, 11, 3, 3, []), (0, 0, 3, 0, []), (2, 0, 0, 122, []), (29, 61, 0, 0, []), (25, 11, 4, 3, []), (0, 0, 3, 0, []), (2, 0, 0, 8, []), (29, 62, 0, 0, []), (25, 11, 9, 3, []), (0, 0, 3, 0, []), (2, 0, 0, 8, []), (29, 61, 0, 0, []), (25, 11, 11, 3, []), (0, 0, 3, 0, []), (2, 0, 0, 8, []), (29, 61, 0, 0, []), (25, 11, 12, 3, []), (0, 0, 3, 0, []), (2, 0, 0, 8, []), (29, 61, 0, 0, []), (25, 11, 13, 3, []), (0, 0, 3, 0, []), (2, 0, 0, 8, []), (29, 61, 0, 0, []), (25, 11, 14, 3, []), (0, 0, 3, 0, []), (2, 0, 0, 8, []), (29, 61, 0, 0, []), (25, 11, 15, 3, []), (0, 0, 3, 0, []), (2, 0, 0, (-1), []), (25, 11, 16, 0, []), (41, 0, 9, 0, [])]
/-- 185: HornBenchModel.<init>()V -/
def am_c185 : List AmIns := [(0, 0, 3, 0, []), (35, 0, 0, 0, []), (0, 0, 3, 0, []), (2, 0, 0, 2000, []), (29, 61, 0, 0, []), (25, 12, 1, 3, []), (0, 0, 3, 0, []), (2, 0, 0, (-1), []), (25, 12, 3, 0, []), (0, 0, 3, 0, []), (2, 0, 0, 2001, []), (29, 61, 0, 0, []), (25, 12, 4, 3, []), (0, 0, 3, 0, []), (2, 0, 0, 2001, []), (29, 61, 0, 0, []), (25, 12, 5, 3, []), (0, 0, 3, 0, []), (2, 0, 0, 2001, []), (29, 61, 0, 0, []), (25, 12, 6, 3, []), (0, 0, 3, 0, []), (2, 0, 0, 40, []), (29, 65, 11, 0, []), (25, 12, 10, 3, []), (0, 0, 3, 0, []), (2, 0, 0, 600, []), (29, 61, 0, 0, []), (25, 12, 11, 3, []), (0, 0, 3, 0, []), (2, 0, 0, 8, []), (29, 61, 0, 0, []), (25, 12, 14, 3, []), (0, 0, 3, 0, []), (2, 0, 0, (-1), []), (25, 12, 15, 0, []), (0, 0, 3, 0, []), (2, 0, 0, 61000, []), (29, 61, 0, 0, []), (25, 12, 20, 3, []), (0, 0, 3, 0, []), (2, 0, 0, 61000, []), (29, 62, 0, 0, []), (25, 12, 21, 3, []), (0, 0, 3, 0, []), (2, 0, 0, 61000, []), (29, 61, 0, 0, []), (25, 12, 22, 3, []), (0, 0, 3, 0, []), (2, 0, 0, 61000, []), (29, 61, 0, 0, []), (25, 12, 23, 3, []), (0, 0, 3, 0, []), (2, 0, 0, 61000, []), (29, 61, 0, 0, []), (25, 12, 25, 3, []), (0, 0, 3, 0, []), (2, 0, 0, 61000, []), (29, 61, 0, 0, []), (25, 12, 27, 3, []), (0, 0, 3, 0, []), (2, 0, 0, 61000, []), (29, 61, 0, 0, []), (25, 12, 28, 3, []), (0, 0, 3, 0, []), (2, 0, 0, 61000, []), (29, 61, 0, 0, []), (25, 12, 29, 3, []), (0, 0, 3, 0, []), (2, 0, 0, 61000, []), (29, 61, 0, 0, []), (25, 12, 30, 3, []), (0, 0, 3, 0, []), (2, 0, 0, 8016, []), (29, 61, 0, 0, []), (25, 12, 32, 3, []), (0, 0, 3, 0, []), (2, 0, 0, 10000, []), (29, 61, 0, 0, []), (25, 12, 34, 3, []), (0, 0, 3, 0, []), (2, 0, 0, 10000, []), (29, 61, 0, 0, []), (25, 12, 35, 3, []), (0, 0, 3, 0, []), (2, 0, 0, 10000, []), (29, 61, 0, 0, []), (25, 12, 36, 3, []), (0, 0, 3, 0, []), (2, 0, 0, 10000, []), (29, 61, 0, 0, []), (25, 12, 37, 3, []), (0, 0, 3, 0, []), (2, 0, 0, 10000, []), (29, 61, 0, 0, []), (25, 12, 38, 3, []), (0, 0, 3, 0, []), (2, 0, 0, 10000, []), (29, 61, 0, 0, []), (25, 12, 39, 3, []), (0, 0, 3, 0, []), (2, 0, 0, (-1), []), (25, 12, 40, 0, []), (0, 0, 3, 0, []), (2, 0, 0, 1001, []), (29, 63, 0, 0, []), (25, 12, 42, 3, []), (0, 0, 3, 0, []), (2, 0, 0, 1001, []), (29, 61, 0, 0, []), (25, 12, 43, 3, []), (0, 0, 3, 0, []), (2, 0, 0, 1001, []), (29, 61, 0, 0, []), (25, 12, 44, 3, []), (0, 0, 3, 0, []), (2, 0, 0, 1001, []), (29, 61, 0, 0, []), (25, 12, 45, 3, []), (0, 0, 3, 0, []), (2, 0, 0, 1001, []), (29, 61, 0, 0, []), (25, 12, 46, 3, []), (0, 0, 3, 0, []), (2, 0, 0, 1001, []), (29, 61, 0, 0, []), (25, 12, 47, 3, []), (0, 0, 3, 0, []), (2, 0, 0, 1001, []), (29, 61, 0, 0, []), (25, 12, 48, 3, []), (0, 0, 3, 0, []), (2, 0, 0, 1001, []), (29, 61, 0, 0, []), (25, 12, 49, 3, []), (0, 0, 3, 0, []), (2, 0, 0, 61000, []), (29, 61, 0, 0, []), (25, 12, 54, 3, []), (0, 0, 3, 0, []), (2, 0, 0, 61000, []), (29, 61, 0, 0, []), (25, 12, 55, 3, []), (0, 0, 3, 0, []), (2, 0, 0, 61000, []), (29, 61, 0, 0, []), (25, 12, 56, 3, []), (0, 0, 3, 0, []), (2, 0, 0, 61000, []), (29, 61, 0, 0, []), (25, 12, 57, 3, []), (0, 0, 3, 0, []), (2, 0, 0, 8, []), (29, 61, 0, 0, []), (25, 12, 59, 3, []), (0, 0, 3, 0, []), (2, 0, 0, 600, []), (29, 61, 0, 0, []), (25, 12, 61, 3, []), (41, 0, 9, 0, [])]
/-- 186: HornBenchModel.thrown()I -/
def am_c186 : List AmIns := [(0, 0, 3, 0, []), (24, 12, 0, 0, []), (41, 0, 0, 0, [])]
/-- 187: HornBenchModel.no(I)I -/
def am_c187 : List AmIns := [(0, 0, 3, 0, []), (0, 1, 0, 0, []), (25, 12, 0, 0, []), (2, 0, 0, 0, []), (41, 0, 0, 0, [])]
/-- 188: HornBenchModel.isIn(III)Z -/
def am_c188 : List AmIns := [(0, 0, 0, 0, []), (0, 1, 0, 0, []), (19, 8, 2, 0, []), (0, 0, 0, 0, []), (0, 2, 0, 0, []), (19, 8, 4, 0, []), (2, 0, 0, 1, []), (22, 9, 0, 0, []), (2, 0, 0, 0, []), (41, 0, 10, 0, [])]
/-- 189: HornBenchModel.feed(IIIII)I -/
def am_c189 : List AmIns := [(0, 0, 3, 0, []), (2, 0, 0, 0, []), (25, 12, 0, 0, []), (0, 0, 3, 0, []), (24, 12, 2, 0, []), (2, 0, 0, 20, []), (8, 0, 0, 0, []), (2, 0, 0, 2000, []), (19, 13, 5, 0, []), (0, 0, 3, 0, []), (2, 0, 0, 1, []), (40, 187, 2, 0, []), (41, 0, 0, 0, []), (2, 0, 0, 5, []), (29, 61, 0, 0, []), (26, 0, 0, 0, []), (2, 0, 0, 0, []), (0, 1, 0, 0, []), (33, 61, 11, 0, []), (26, 0, 0, 0, []), (2, 0, 0, 1, []), (0, 2, 0, 0, []), (33, 61, 11, 0, []), (26, 0, 0, 0, []), (2, 0, 0, 2, []), (0, 3, 0, 0, []), (33, 61, 11, 0, []), (26, 0, 0, 0, []), (2, 0, 0, 3, []), (0, 4, 0, 0, []), (33, 61, 11, 0, []), (26, 0, 0, 0, []), (2, 0, 0, 4, []), (0, 5, 0, 0, []), (33, 61, 11, 0, []), (1, 6, 3, 0, []), (0, 6, 3, 0, []), (1, 7, 3, 0, []), (0, 7, 3, 0, []), (31, 0, 0, 0, []), (1, 8, 0, 0, []), (2, 0, 0, 0, []), (1, 9, 0, 0, []), (0, 9, 0, 0, []), (0, 8, 0, 0, []), (19, 76, 3, 0, []), (0, 7, 3, 0, []), (0, 9, 0, 0, []), (32, 0, 0, 0, []), (1, 10, 0, 0, []), (2, 0, 0, 3, []), (1, 11, 0, 0, []), (0, 11, 0, 0, []), (18, 74, 2, 0, []), (0, 0, 3, 0, []), (24, 12, 1, 3, []), (0, 0, 3, 0, []), (24, 12, 2, 0, []), (0, 10, 0, 0, []), (2, 0, 0, 8, []), (0, 11, 0, 0, []), (8, 0, 2, 0, []), (8, 0, 8, 0, []), (2, 0, 0, 255, []), (8, 0, 5, 0, []), (33, 61, 11, 0, []), (0, 0, 3, 0, []), (26, 0, 0, 0, []), (24, 12, 2, 0, []), (2, 0, 0, 1, []), (8, 0, 0, 0, []), (25, 12, 2, 0, []), (17, 11, 0, (-1), []), (22, 52, 0, 0, []), (17, 9, 0, 1, []), (22, 43, 0, 0, []), (0, 0, 3, 0, []), (24, 12, 2, 0, []), (41, 0, 0, 0, [])]
/-- 190: HornBenchModel.trim(I)I -/
def am_c190 : List AmIns := [(0, 0, 3, 0, []), (2, 0, 0, 0, []), (25, 12, 0, 0, []), (0, 1, 0, 0, []), (2, 0, 0, 0, []), (0, 0, 3, 0, []), (24, 12, 2, 0, []), (40, 188, 3, 2, []), (18, 13, 1, 0, []), (0, 0, 3, 0, []), (2, 0, 0, 1, []), (40, 187, 2, 0, []), (41, 0, 0, 0, []), (0, 0, 3, 0, []), (0, 1, 0, 0, []), (25, 12, 2, 0, []), (0, 1, 0, 0, []), (41, 0, 0, 0, [])]
/-- 191: HornBenchModel.byteAtTape(I)I -/
def am_c191 : List AmIns := [(0, 1, 0, 0, []), (0, 0, 3, 0, []), (24, 12, 2, 0, []), (19, 9, 3, 0, []), (0, 0, 3, 0, []), (24, 12, 1, 3, []), (0, 1, 0, 0, []), (32, 0, 0, 0, []), (22, 10, 0, 0, []), (2, 0, 0, (-1), []), (41, 0, 0, 0, [])]
/-- 192: HornBenchModel.isSmall(I)Z -/
def am_c192 : List AmIns := [(0, 0, 0, 0, []), (2, 0, 0, 97, []), (2, 0, 0, 122, []), (40, 188, 3, 2, []), (41, 0, 10, 0, [])]
/-- 193: HornBenchModel.isDigit(I)Z -/
def am_c193 : List AmIns := [(0, 0, 0, 0, []), (2, 0, 0, 48, []), (2, 0, 0, 57, []), (40, 188, 3, 2, []), (41, 0, 10, 0, [])]
/-- 194: HornBenchModel.isBig(I)Z -/
def am_c194 : List AmIns := [(0, 0, 0, 0, []), (2, 0, 0, 65, []), (2, 0, 0, 90, []), (40, 188, 3, 2, []), (18, 8, 1, 0, []), (0, 0, 0, 0, []), (2, 0, 0, 95, []), (19, 10, 1, 0, []), (2, 0, 0, 1, []), (22, 11, 0, 0, []), (2, 0, 0, 0, []), (41, 0, 10, 0, [])]
/-- 195: HornBenchModel.symbolAt(I)I -/
def am_c195 : List AmIns := [(0, 0, 3, 0, []), (0, 1, 0, 0, []), (40, 191, 2, 0, []), (1, 2, 0, 0, []), (0, 0, 3, 0, []), (0, 1, 0, 0, []), (2, 0, 0, 1, []), (8, 0, 0, 0, []), (40, 191, 2, 0, []), (1, 3, 0, 0, []), (0, 2, 0, 0, []), (2, 0, 0, 92, []), (19, 20, 1, 0, []), (0, 3, 0, 0, []), (2, 0, 0, 61, []), (19, 18, 1, 0, []), (2, 0, 0, 2, []), (22, 19, 0, 0, []), (2, 0, 0, 0, []), (41, 0, 0, 0, []), (0, 2, 0, 0, []), (2, 0, 0, 58, []), (19, 30, 1, 0, []), (0, 3, 0, 0, []), (2, 0, 0, 45, []), (19, 28, 1, 0, []), (2, 0, 0, 2, []), (22, 29, 0, 0, []), (2, 0, 0, 0, []), (41, 0, 0, 0, []), (0, 2, 0, 0, []), (2, 0, 0, 61, []), (19, 43, 1, 0, []), (0, 3, 0, 0, []), (2, 0, 0, 60, []), (19, 39, 0, 0, []), (0, 3, 0, 0, []), (2, 0, 0, 61, []), (19, 41, 1, 0, []), (2, 0, 0, 2, []), (22, 42, 0, 0, []), (2, 0, 0, 1, []), (41, 0, 0, 0, []), (0, 2, 0, 0, []), (2, 0, 0, 62, []), (19, 53, 1, 0, []), (0, 3, 0, 0, []), (2, 0, 0, 61, []), (19, 51, 1, 0, []), (2, 0, 0, 2, []), (22, 52, 0, 0, []), (2, 0, 0, 1, []), (41, 0, 0, 0, []), (0, 2, 0, 0, []), (18, 61, 5, 0, []), (6, 15, 0, 0, []), (0, 2, 0, 0, []), (40, 299, 2, 0, []), (18, 61, 2, 0, []), (2, 0, 0, 1, []), (22, 62, 0, 0, []), (2, 0, 0, 0, []), (41, 0, 0, 0, [])]
/-- 196: HornBenchModel.scan()V -/
def am_c196 : List AmIns := [(2, 0, 0, 0, []), (1, 1, 0, 0, []), (2, 0, 0, 0, []), (1, 2, 0, 0, []), (2, 0, 0, 1, []), (1, 3, 0, 0, []), (0, 3, 0, 0, []), (18, 131, 0, 0, []), (0, 0, 3, 0, []), (0, 2, 0, 0, []), (40, 191, 2, 0, []), (2, 0, 0, 32, []), (19, 18, 0, 0, []), (0, 0, 3, 0, []), (0, 2, 0, 0, []), (40, 191, 2, 0, []), (2, 0, 0, 10, []), (19, 20, 1, 0, []), (17, 2, 0, 1, []), (22, 8, 0, 0, []), (0, 2, 0, 0, []), (1, 4, 0, 0, []), (2, 0, 0, 0, []), (1, 5, 0, 0, []), (0, 0, 3, 0, []), (0, 2, 0, 0, []), (40, 191, 2, 0, []), (40, 192, 1, 2, []), (18, 34, 1, 0, []), (0, 0, 3, 0, []), (0, 2, 0, 0, []), (40, 191, 2, 0, []), (40, 194, 1, 2, []), (18, 64, 0, 0, []), (17, 4, 0, 1, []), (0, 0, 3, 0, []), (0, 4, 0, 0, []), (40, 191, 2, 0, []), (40, 192, 1, 2, []), (18, 45, 1, 0, []), (0, 0, 3, 0, []), (0, 4, 0, 0, []), (40, 191, 2, 0, []), (40, 193, 1, 2, []), (18, 47, 0, 0, []), (17, 4, 0, 1, []), (22, 35, 0, 0, []), (0, 4, 0, 0, []), (0, 2, 0, 0, []), (8, 0, 1, 0, []), (2, 0, 0, 8, []), (19, 54, 5, 0, []), (2, 0, 0, 5, []), (22, 62, 0, 0, []), (0, 0, 3, 0, []), (0, 2, 0, 0, []), (40, 191, 2, 0, []), (40, 192, 1, 2, []), (18, 61, 0, 0, []), (2, 0, 0, 1, []), (22, 62, 0, 0, []), (2, 0, 0, 2, []), (1, 5, 0, 0, []), (22, 106, 0, 0, []), (0, 0, 3, 0, []), (0, 2, 0, 0, []), (40, 191, 2, 0, []), (40, 193, 1, 2, []), (18, 86, 0, 0, []), (0, 0, 3, 0, []), (0, 4, 0, 0, []), (40, 191, 2, 0, []), (40, 193, 1, 2, []), (18, 76, 0, 0, []), (17, 4, 0, 1, []), (22, 69, 0, 0, []), (0, 4, 0, 0, []), (0, 2, 0, 0, []), (8, 0, 1, 0, []), (2, 0, 0, 6, []), (19, 83, 4, 0, []), (2, 0, 0, 3, []), (22, 84, 0, 0, []), (2, 0, 0, 5, []), (1, 5, 0, 0, []), (22, 106, 0, 0, []), (0, 2, 0, 0, []), (0, 0, 3, 0, []), (24, 12, 2, 0, []), (19, 106, 3, 0, []), (0, 4, 0, 0, []), (2, 0, 0, 1, []), (0, 0, 3, 0, []), (0, 2, 0, 0, []), (40, 195, 2, 0, []), (38, 0, 0, 0, []), (8, 0, 0, 0, []), (1, 4, 0, 0, []), (0, 0, 3, 0, []), (0, 2, 0, 0, []), (40, 195, 2, 0, []), (18, 104, 5, 0, []), (2, 0, 0, 4, []), (22, 105, 0, 0, []), (2, 0, 0, 5, []), (1, 5, 0, 0, []), (0, 0, 3, 0, []), (24, 12, 4, 3, []), (0, 1, 0, 0, []), (0, 5, 0, 0, []), (33, 61, 11, 0, []), (0, 0, 3, 0, []), (24, 12, 5, 3, []), (0, 1, 0, 0, []), (0, 2, 0, 0, []), (33, 61, 11, 0, []), (0, 0, 3, 0, []), (24, 12, 6, 3, []), (0, 1, 0, 0, []), (0, 4, 0, 0, []), (33, 61, 11, 0, []), (17, 1, 0, 1, []), (0, 4, 0, 0, []), (1, 2, 0, 0, []), (0, 5, 0, 0, []), (18, 128, 0, 0, []), (2, 0, 0, 1, []), (22, 129, 0, 0, []), (2, 0, 0, 0, []), (1, 3, 0, 0, []), (22, 6, 0, 0, []), (41, 0, 9, 0, [])]
/-- 197: HornBenchModel.is(ILjava/lang/String;)Z -/
def am_c197 : List AmIns := [(0, 0, 3, 0, []), (24, 12, 4, 3, []), (0, 1, 0, 0, []), (32, 0, 0, 0, []), (2, 0, 0, 1, []), (19, 12, 0, 0, []), (0, 0, 3, 0, []), (24, 12, 4, 3, []), (0, 1, 0, 0, []), (32, 0, 0, 0, []), (2, 0, 0, 4, []), (19, 26, 1, 0, []), (0, 0, 3, 0, []), (24, 12, 6, 3, []), (0, 1, 0, 0, []), (32, 0, 0, 0, []), (0, 0, 3, 0, []), (24, 12, 5, 3, []), (0, 1, 0, 0, []), (32, 0, 0, 0, []), (8, 0, 1, 0, []), (0, 2, 3, 0, []), (40, 297, 1, 0, []), (19, 26, 1, 0, []), (2, 0, 0, 1, []), (22, 27, 0, 0, []), (2, 0, 0, 0, []), (1, 3, 0, 0, []), (2, 0, 0, 0, []), (1, 4, 0, 0, []), (0, 4, 0, 0, []), (0, 2, 3, 0, []), (40, 297, 1, 0, []), (19, 55, 3, 0, []), (0, 3, 0, 0, []), (18, 55, 0, 0, []), (0, 0, 3, 0, []), (24, 12, 1, 3, []), (0, 0, 3, 0, []), (24, 12, 5, 3, []), (0, 1, 0, 0, []), (32, 0, 0, 0, []), (0, 4, 0, 0, []), (8, 0, 0, 0, []), (32, 0, 0, 0, []), (0, 2, 3, 0, []), (0, 4, 0, 0, []), (40, 298, 2, 0, []), (19, 51, 1, 0, []), (2, 0, 0, 1, []), (22, 52, 0, 0, []), (2, 0, 0, 0, []), (1, 3, 0, 0, []), (17, 4, 0, 1, []), (22, 30, 0, 0, []), (0, 3, 0, 0, []), (41, 0, 10, 0, [])]
/-- 198: HornBenchModel.which(I[Ljava/lang/String;)I -/
def am_c198 : List AmIns := [(2, 0, 0, (-1), []), (1, 3, 0, 0, []), (2, 0, 0, 0, []), (1, 4, 0, 0, []), (0, 4, 0, 0, []), (0, 2, 3, 0, []), (31, 0, 0, 0, []), (19, 19, 3, 0, []), (0, 0, 3, 0, []), (0, 1, 0, 0, []), (0, 2, 3, 0, []), (0, 4, 0, 0, []), (32, 0, 3, 0, []), (40, 197, 3, 0, []), (18, 17, 0, 0, []), (0, 4, 0, 0, []), (1, 3, 0, 0, []), (17, 4, 0, 1, []), (22, 4, 0, 0, []), (0, 3, 0, 0, []), (41, 0, 0, 0, [])]
/-- 199: HornBenchModel.isName(I)Z -/
def am_c199 : List AmIns := [(0, 0, 3, 0, []), (24, 12, 4, 3, []), (0, 1, 0, 0, []), (32, 0, 0, 0, []), (2, 0, 0, 1, []), (19, 14, 1, 0, []), (0, 0, 3, 0, []), (0, 1, 0, 0, []), (6, 1, 1, 0, []), (40, 198, 3, 0, []), (2, 0, 0, (-1), []), (19, 14, 1, 0, []), (2, 0, 0, 1, []), (22, 15, 0, 0, []), (2, 0, 0, 0, []), (41, 0, 10, 0, [])]
/-- 200: HornBenchModel.nameOf(I)J -/
def am_c200 : List AmIns := [(3, 0, 0, 0, []), (1, 2, 1, 0, []), (0, 0, 3, 0, []), (24, 12, 5, 3, []), (0, 1, 0, 0, []), (32, 0, 0, 0, []), (1, 4, 0, 0, []), (0, 4, 0, 0, []), (0, 0, 3, 0, []), (24, 12, 6, 3, []), (0, 1, 0, 0, []), (32, 0, 0, 0, []), (19, 61, 3, 0, []), (3, 0, 0, 64, []), (0, 2, 1, 0, []), (10, 0, 2, 0, []), (0, 0, 3, 0, []), (24, 12, 1, 3, []), (0, 4, 0, 0, []), (32, 0, 0, 0, []), (40, 193, 1, 2, []), (18, 29, 0, 0, []), (0, 0, 3, 0, []), (24, 12, 1, 3, []), (0, 4, 0, 0, []), (32, 0, 0, 0, []), (2, 0, 0, 47, []), (8, 0, 1, 0, []), (22, 56, 0, 0, []), (0, 0, 3, 0, []), (24, 12, 1, 3, []), (0, 4, 0, 0, []), (32, 0, 0, 0, []), (40, 192, 1, 2, []), (18, 42, 0, 0, []), (0, 0, 3, 0, []), (24, 12, 1, 3, []), (0, 4, 0, 0, []), (32, 0, 0, 0, []), (2, 0, 0, 86, []), (8, 0, 1, 0, []), (22, 56, 0, 0, []), (0, 0, 3, 0, []), (24, 12, 1, 3, []), (0, 4, 0, 0, []), (32, 0, 0, 0, []), (2, 0, 0, 95, []), (19, 50, 1, 0, []), (2, 0, 0, 63, []), (22, 56, 0, 0, []), (0, 0, 3, 0, []), (24, 12, 1, 3, []), (0, 4, 0, 0, []), (32, 0, 0, 0, []), (2, 0, 0, 28, []), (8, 0, 1, 0, []), (14, 0, 0, 0, []), (10, 0, 0, 0, []), (1, 2, 1, 0, []), (17, 4, 0, 1, []), (22, 7, 0, 0, []), (0, 2, 1, 0, []), (41, 0, 1, 0, [])]
/-- 201: HornBenchModel.numberOf(I)I -/
def am_c201 : List AmIns := [(2, 0, 0, 0, []), (1, 2, 0, 0, []), (0, 0, 3, 0, []), (24, 12, 5, 3, []), (0, 1, 0, 0, []), (32, 0, 0, 0, []), (1, 3, 0, 0, []), (0, 3, 0, 0, []), (0, 0, 3, 0, []), (24, 12, 6, 3, []), (0, 1, 0, 0, []), (32, 0, 0, 0, []), (19, 26, 3, 0, []), (2, 0, 0, 10, []), (0, 2, 0, 0, []), (8, 0, 2, 0, []), (0, 0, 3, 0, []), (24, 12, 1, 3, []), (0, 3, 0, 0, []), (32, 0, 0, 0, []), (8, 0, 0, 0, []), (2, 0, 0, 48, []), (8, 0, 1, 0, []), (1, 2, 0, 0, []), (17, 3, 0, 1, []), (22, 7, 0, 0, []), (0, 2, 0, 0, []), (41, 0, 0, 0, [])]
/-- 202: HornBenchModel.sees(Ljava/lang/String;)Z -/
def am_c202 : List AmIns := [(0, 0, 3, 0, []), (0, 0, 3, 0, []), (24, 12, 7, 0, []), (0, 1, 3, 0, []), (40, 197, 3, 0, []), (41, 0, 10, 0, [])]
/-- 203: HornBenchModel.goes()Z -/
def am_c203 : List AmIns := [(0, 0, 3, 0, []), (24, 12, 7, 0, []), (0, 0, 3, 0, []), (24, 12, 8, 0, []), (8, 0, 1, 0, []), (2, 0, 0, 60, []), (19, 9, 1, 0, []), (2, 0, 0, 0, []), (41, 0, 10, 0, []), (0, 0, 3, 0, []), (26, 0, 0, 0, []), (24, 12, 7, 0, []), (2, 0, 0, 1, []), (8, 0, 0, 0, []), (25, 12, 7, 0, []), (2, 0, 0, 1, []), (41, 0, 10, 0, [])]
/-- 204: HornBenchModel.takes(Ljava/lang/String;)Z -/
def am_c204 : List AmIns := [(0, 0, 3, 0, []), (0, 1, 3, 0, []), (40, 202, 2, 0, []), (18, 9, 0, 0, []), (0, 0, 3, 0, []), (40, 203, 1, 0, []), (18, 9, 0, 0, []), (2, 0, 0, 1, []), (22, 10, 0, 0, []), (2, 0, 0, 0, []), (41, 0, 10, 0, [])]
/-- 205: HornBenchModel.programForm()Z -/
def am_c205 : List AmIns := [(0, 0, 3, 0, []), (2, 0, 0, 0, []), (25, 12, 7, 0, []), (0, 0, 3, 0, []), (0, 0, 3, 0, []), (24, 12, 7, 0, []), (25, 12, 8, 0, []), (0, 0, 3, 0, []), (40, 206, 1, 0, []), (18, 12, 1, 0, []), (2, 0, 0, 0, []), (41, 0, 10, 0, []), (0, 0, 3, 0, []), (24, 12, 4, 3, []), (0, 0, 3, 0, []), (24, 12, 7, 0, []), (32, 0, 0, 0, []), (18, 3, 1, 0, []), (2, 0, 0, 1, []), (41, 0, 10, 0, [])]
/-- 206: HornBenchModel.clauseForm()Z -/
def am_c206 : List AmIns := [(0, 0, 3, 0, []), (0, 0, 3, 0, []), (24, 12, 7, 0, []), (40, 199, 2, 0, []), (18, 16, 0, 0, []), (0, 0, 3, 0, []), (40, 203, 1, 0, []), (18, 16, 0, 0, []), (0, 0, 3, 0, []), (6, 16, 0, 0, []), (40, 202, 2, 0, []), (18, 18, 0, 0, []), (0, 0, 3, 0, []), (2, 0, 0, 0, []), (40, 209, 2, 0, []), (18, 18, 1, 0, []), (2, 0, 0, 0, []), (41, 0, 10, 0, []), (0, 0, 3, 0, []), (6, 27, 0, 0, []), (40, 202, 2, 0, []), (18, 29, 0, 0, []), (0, 0, 3, 0, []), (40, 203, 1, 0, []), (18, 35, 0, 0, []), (0, 0, 3, 0, []), (2, 0, 0, 0, []), (40, 210, 2, 0, []), (18, 35, 0, 0, []), (0, 0, 3, 0, []), (6, 33, 0, 0, []), (40, 204, 2, 0, []), (18, 35, 0, 0, []), (2, 0, 0, 1, []), (22, 36, 0, 0, []), (2, 0, 0, 0, []), (41, 0, 10, 0, [])]
/-- 207: HornBenchModel.questionForm()Z -/
def am_c207 : List AmIns := [(0, 0, 3, 0, []), (2, 0, 0, 0, []), (25, 12, 7, 0, []), (0, 0, 3, 0, []), (2, 0, 0, 0, []), (25, 12, 8, 0, []), (0, 0, 3, 0, []), (2, 0, 0, 0, []), (40, 210, 2, 0, []), (18, 22, 0, 0, []), (0, 0, 3, 0, []), (6, 33, 0, 0, []), (40, 204, 2, 0, []), (18, 22, 0, 0, []), (0, 0, 3, 0, []), (24, 12, 4, 3, []), (0, 0, 3, 0, []), (24, 12, 7, 0, []), (32, 0, 0, 0, []), (18, 22, 1, 0, []), (2, 0, 0, 1, []), (22, 23, 0, 0, []), (2, 0, 0, 0, []), (41, 0, 10, 0, [])]
/-- 208: HornBenchModel.opens(Ljava/lang/String;I)Z -/
def am_c208 : List AmIns := [(0, 2, 0, 0, []), (2, 0, 0, 8, []), (19, 9, 3, 0, []), (0, 0, 3, 0, []), (0, 1, 3, 0, []), (40, 204, 2, 0, []), (18, 9, 0, 0, []), (2, 0, 0, 1, []), (22, 10, 0, 0, []), (2, 0, 0, 0, []), (41, 0, 10, 0, [])]
/-- 209: HornBenchModel.argumentsForm(I)Z -/
def am_c209 : List AmIns := [(0, 0, 3, 0, []), (6, 16, 0, 0, []), (0, 1, 0, 0, []), (40, 208, 3, 0, []), (18, 11, 0, 0, []), (0, 0, 3, 0, []), (0, 1, 0, 0, []), (2, 0, 0, 1, []), (8, 0, 0, 0, []), (40, 213, 2, 0, []), (18, 13, 1, 0, []), (2, 0, 0, 0, []), (41, 0, 10, 0, []), (0, 0, 3, 0, []), (6, 21, 0, 0, []), (40, 202, 2, 0, []), (18, 28, 0, 0, []), (0, 0, 3, 0, []), (40, 203, 1, 0, []), (18, 26, 0, 0, []), (0, 0, 3, 0, []), (0, 1, 0, 0, []), (2, 0, 0, 1, []), (8, 0, 0, 0, []), (40, 213, 2, 0, []), (18, 13, 1, 0, []), (2, 0, 0, 0, []), (41, 0, 10, 0, []), (0, 0, 3, 0, []), (6, 18, 0, 0, []), (40, 204, 2, 0, []), (41, 0, 10, 0, [])]
/-- 210: HornBenchModel.goalsForm(I)Z -/
def am_c210 : List AmIns := [(0, 0, 3, 0, []), (0, 1, 0, 0, []), (40, 211, 2, 0, []), (18, 6, 1, 0, []), (2, 0, 0, 0, []), (41, 0, 10, 0, []), (0, 0, 3, 0, []), (6, 21, 0, 0, []), (40, 202, 2, 0, []), (18, 19, 0, 0, []), (0, 0, 3, 0, []), (40, 203, 1, 0, []), (18, 17, 0, 0, []), (0, 0, 3, 0, []), (0, 1, 0, 0, []), (40, 211, 2, 0, []), (18, 6, 1, 0, []), (2, 0, 0, 0, []), (41, 0, 10, 0, []), (2, 0, 0, 1, []), (41, 0, 10, 0, [])]
/-- 211: HornBenchModel.goalForm(I)Z -/
def am_c211 : List AmIns := [(0, 0, 3, 0, []), (6, 28, 0, 0, []), (40, 202, 2, 0, []), (18, 12, 1, 0, []), (0, 0, 3, 0, []), (6, 29, 0, 0, []), (40, 202, 2, 0, []), (18, 12, 1, 0, []), (0, 0, 3, 0, []), (6, 30, 0, 0, []), (40, 202, 2, 0, []), (18, 15, 0, 0, []), (0, 0, 3, 0, []), (40, 203, 1, 0, []), (41, 0, 10, 0, []), (0, 0, 3, 0, []), (6, 31, 0, 0, []), (40, 202, 2, 0, []), (18, 41, 0, 0, []), (0, 0, 3, 0, []), (40, 203, 1, 0, []), (18, 39, 0, 0, []), (0, 0, 3, 0, []), (6, 16, 0, 0, []), (0, 1, 0, 0, []), (40, 208, 3, 0, []), (18, 39, 0, 0, []), (0, 0, 3, 0, []), (0, 1, 0, 0, []), (2, 0, 0, 1, []), (8, 0, 0, 0, []), (40, 210, 2, 0, []), (18, 39, 0, 0, []), (0, 0, 3, 0, []), (6, 18, 0, 0, []), (40, 204, 2, 0, []), (18, 39, 0, 0, []), (2, 0, 0, 1, []), (22, 40, 0, 0, []), (2, 0, 0, 0, []), (41, 0, 10, 0, []), (0, 0, 3, 0, []), (6, 32, 0, 0, []), (40, 202, 2, 0, []), (18, 67, 0, 0, []), (0, 0, 3, 0, []), (40, 203, 1, 0, []), (18, 65, 0, 0, []), (0, 0, 3, 0, []), (6, 16, 0, 0, []), (0, 1, 0, 0, []), (40, 208, 3, 0, []), (18, 65, 0, 0, []), (0, 0, 3, 0, []), (0, 1, 0, 0, []), (2, 0, 0, 1, []), (8, 0, 0, 0, []), (40, 213, 2, 0, []), (18, 65, 0, 0, []), (0, 0, 3, 0, []), (6, 18, 0, 0, []), (40, 204, 2, 0, []), (18, 65, 0, 0, []), (2, 0, 0, 1, []), (22, 66, 0, 0, []), (2, 0, 0, 0, []), (41, 0, 10, 0, []), (0, 0, 3, 0, []), (24, 12, 7, 0, []), (1, 2, 0, 0, []), (0, 0, 3, 0, []), (0, 1, 0, 0, []), (40, 213, 2, 0, []), (18, 76, 1, 0, []), (2, 0, 0, 0, []), (41, 0, 10, 0, []), (0, 0, 3, 0, []), (0, 0, 3, 0, []), (24, 12, 7, 0, []), (6, 2, 1, 0, []), (40, 198, 3, 0, []), (2, 0, 0, (-1), []), (19, 94, 0, 0, []), (0, 0, 3, 0, []), (40, 203, 1, 0, []), (18, 92, 0, 0, []), (0, 0, 3, 0, []), (0, 1, 0, 0, []), (40, 213, 2, 0, []), (18, 92, 0, 0, []), (2, 0, 0, 1, []), (22, 93, 0, 0, []), (2, 0, 0, 0, []), (41, 0, 10, 0, []), (0, 0, 3, 0, []), (0, 2, 0, 0, []), (40, 199, 2, 0, []), (18, 106, 0, 0, []), (0, 0, 3, 0, []), (0, 2, 0, 0, []), (40, 212, 2, 0, []), (0, 0, 3, 0, []), (24, 12, 7, 0, []), (19, 106, 1, 0, []), (2, 0, 0, 1, []), (22, 107, 0, 0, []), (2, 0, 0, 0, []), (41, 0, 10, 0, [])]
/-- 212: HornBenchModel.simpleEnd(I)I -/
def am_c212 : List AmIns := [(0, 1, 0, 0, []), (2, 0, 0, 1, []), (8, 0, 0, 0, []), (1, 2, 0, 0, []), (2, 0, 0, 0, []), (1, 3, 0, 0, []), (0, 0, 3, 0, []), (0, 2, 0, 0, []), (6, 16, 0, 0, []), (40, 197, 3, 0, []), (18, 13, 1, 0, []), (0, 2, 0, 0, []), (41, 0, 0, 0, []), (0, 3, 0, 0, []), (0, 0, 3, 0, []), (0, 2, 0, 0, []), (6, 16, 0, 0, []), (40, 197, 3, 0, []), (18, 21, 0, 0, []), (2, 0, 0, 1, []), (22, 29, 0, 0, []), (0, 0, 3, 0, []), (0, 2, 0, 0, []), (6, 18, 0, 0, []), (40, 197, 3, 0, []), (18, 28, 0, 0, []), (2, 0, 0, (-1), []), (22, 29, 0, 0, []), (2, 0, 0, 0, []), (8, 0, 0, 0, []), (1, 3, 0, 0, []), (17, 2, 0, 1, []), (0, 3, 0, 0, []), (18, 13, 4, 0, []), (0, 2, 0, 0, []), (41, 0, 0, 0, [])]
/-- 213: HornBenchModel.termForm(I)Z -/
def am_c213 : List AmIns := [(0, 0, 3, 0, []), (0, 1, 0, 0, []), (40, 214, 2, 0, []), (18, 6, 1, 0, []), (2, 0, 0, 0, []), (41, 0, 10, 0, []), (0, 0, 3, 0, []), (6, 26, 0, 0, []), (40, 202, 2, 0, []), (18, 14, 1, 0, []), (0, 0, 3, 0, []), (6, 17, 0, 0, []), (40, 202, 2, 0, []), (18, 23, 0, 0, []), (0, 0, 3, 0, []), (40, 203, 1, 0, []), (18, 21, 0, 0, []), (0, 0, 3, 0, []), (0, 1, 0, 0, []), (40, 214, 2, 0, []), (18, 6, 1, 0, []), (2, 0, 0, 0, []), (41, 0, 10, 0, []), (2, 0, 0, 1, []), (41, 0, 10, 0, [])]
/-- 214: HornBenchModel.productForm(I)Z -/
def am_c214 : List AmIns := [(0, 0, 3, 0, []), (0, 1, 0, 0, []), (40, 215, 2, 0, []), (18, 6, 1, 0, []), (2, 0, 0, 0, []), (41, 0, 10, 0, []), (0, 0, 3, 0, []), (6, 23, 0, 0, []), (40, 202, 2, 0, []), (18, 18, 1, 0, []), (0, 0, 3, 0, []), (6, 24, 0, 0, []), (40, 202, 2, 0, []), (18, 18, 1, 0, []), (0, 0, 3, 0, []), (6, 25, 0, 0, []), (40, 202, 2, 0, []), (18, 27, 0, 0, []), (0, 0, 3, 0, []), (40, 203, 1, 0, []), (18, 25, 0, 0, []), (0, 0, 3, 0, []), (0, 1, 0, 0, []), (40, 215, 2, 0, []), (18, 6, 1, 0, []), (2, 0, 0, 0, []), (41, 0, 10, 0, []), (2, 0, 0, 1, []), (41, 0, 10, 0, [])]
/-- 215: HornBenchModel.simpleForm(I)Z -/
def am_c215 : List AmIns := [(0, 0, 3, 0, []), (24, 12, 4, 3, []), (0, 0, 3, 0, []), (24, 12, 7, 0, []), (32, 0, 0, 0, []), (2, 0, 0, 2, []), (19, 14, 0, 0, []), (0, 0, 3, 0, []), (24, 12, 4, 3, []), (0, 0, 3, 0, []), (24, 12, 7, 0, []), (32, 0, 0, 0, []), (2, 0, 0, 3, []), (19, 17, 1, 0, []), (0, 0, 3, 0, []), (40, 203, 1, 0, []), (41, 0, 10, 0, []), (0, 0, 3, 0, []), (6, 17, 0, 0, []), (40, 202, 2, 0, []), (18, 38, 0, 0, []), (0, 0, 3, 0, []), (40, 203, 1, 0, []), (18, 36, 0, 0, []), (0, 0, 3, 0, []), (24, 12, 4, 3, []), (0, 0, 3, 0, []), (24, 12, 7, 0, []), (32, 0, 0, 0, []), (2, 0, 0, 3, []), (19, 36, 1, 0, []), (0, 0, 3, 0, []), (40, 203, 1, 0, []), (18, 36, 0, 0, []), (2, 0, 0, 1, []), (22, 37, 0, 0, []), (2, 0, 0, 0, []), (41, 0, 10, 0, []), (0, 0, 3, 0, []), (0, 0, 3, 0, []), (24, 12, 7, 0, []), (40, 199, 2, 0, []), (18, 58, 0, 0, []), (0, 0, 3, 0, []), (40, 203, 1, 0, []), (18, 56, 0, 0, []), (0, 0, 3, 0, []), (6, 16, 0, 0, []), (40, 202, 2, 0, []), (18, 54, 0, 0, []), (0, 0, 3, 0, []), (0, 1, 0, 0, []), (40, 209, 2, 0, []), (18, 56, 0, 0, []), (2, 0, 0, 1, []), (22, 57, 0, 0, []), (2, 0, 0, 0, []), (41, 0, 10, 0, []), (0, 0, 3, 0, []), (6, 16, 0, 0, []), (40, 202, 2, 0, []), (18, 81, 0, 0, []), (0, 0, 3, 0, []), (6, 16, 0, 0, []), (0, 1, 0, 0, []), (40, 208, 3, 0, []), (18, 79, 0, 0, []), (0, 0, 3, 0, []), (0, 1, 0, 0, []), (2, 0, 0, 1, []), (8, 0, 0, 0, []), (40, 213, 2, 0, []), (18, 79, 0, 0, []), (0, 0, 3, 0, []), (6, 18, 0, 0, []), (40, 204, 2, 0, []), (18, 79, 0, 0, []), (2, 0, 0, 1, []), (22, 80, 0, 0, []), (2, 0, 0, 0, []), (41, 0, 10, 0, []), (0, 0, 3, 0, []), (6, 19, 0, 0, []), (40, 202, 2, 0, []), (18, 91, 0, 0, []), (0, 0, 3, 0, []), (0, 1, 0, 0, []), (40, 216, 2, 0, []), (18, 91, 0, 0, []), (2, 0, 0, 1, []), (22, 92, 0, 0, []), (2, 0, 0, 0, []), (41, 0, 10, 0, [])]
/-- 216: HornBenchModel.listForm(I)Z -/
def am_c216 : List AmIns := [(0, 0, 3, 0, []), (6, 19, 0, 0, []), (0, 1, 0, 0, []), (40, 208, 3, 0, []), (18, 7, 1, 0, []), (2, 0, 0, 0, []), (41, 0, 10, 0, []), (0, 0, 3, 0, []), (6, 20, 0, 0, []), (40, 202, 2, 0, []), (18, 14, 0, 0, []), (0, 0, 3, 0, []), (40, 203, 1, 0, []), (41, 0, 10, 0, []), (0, 0, 3, 0, []), (0, 1, 0, 0, []), (2, 0, 0, 1, []), (8, 0, 0, 0, []), (40, 213, 2, 0, []), (18, 22, 1, 0, []), (2, 0, 0, 0, []), (41, 0, 10, 0, []), (0, 0, 3, 0, []), (6, 21, 0, 0, []), (40, 202, 2, 0, []), (18, 37, 0, 0, []), (0, 0, 3, 0, []), (40, 203, 1, 0, []), (18, 35, 0, 0, []), (0, 0, 3, 0, []), (0, 1, 0, 0, []), (2, 0, 0, 1, []), (8, 0, 0, 0, []), (40, 213, 2, 0, []), (18, 22, 1, 0, []), (2, 0, 0, 0, []), (41, 0, 10, 0, []), (0, 0, 3, 0, []), (6, 22, 0, 0, []), (40, 202, 2, 0, []), (18, 50, 0, 0, []), (0, 0, 3, 0, []), (40, 203, 1, 0, []), (18, 56, 0, 0, []), (0, 0, 3, 0, []), (0, 1, 0, 0, []), (2, 0, 0, 1, []), (8, 0, 0, 0, []), (40, 213, 2, 0, []), (18, 56, 0, 0, []), (0, 0, 3, 0, []), (6, 20, 0, 0, []), (40, 204, 2, 0, []), (18, 56, 0, 0, []), (2, 0, 0, 1, []), (22, 57, 0, 0, []), (2, 0, 0, 0, []), (41, 0, 10, 0, [])]
/-- 217: HornBenchModel.over(I)V -/
def am_c217 : List AmIns := [(0, 0, 3, 0, []), (0, 0, 3, 0, []), (24, 12, 52, 0, []), (0, 0, 3, 0, []), (24, 12, 5, 3, []), (0, 1, 0, 0, []), (32, 0, 0, 0, []), (38, 0, 1, 0, []), (25, 12, 52, 0, []), (41, 0, 9, 0, [])]
/-- 218: HornBenchModel.part(IJI)I -/
def am_c218 : List AmIns := [(0, 0, 3, 0, []), (24, 12, 51, 3, []), (24, 11, 5, 0, []), (1, 5, 0, 0, []), (0, 0, 3, 0, []), (24, 12, 51, 3, []), (24, 11, 0, 3, []), (0, 5, 0, 0, []), (0, 1, 0, 0, []), (33, 61, 11, 0, []), (0, 0, 3, 0, []), (24, 12, 51, 3, []), (24, 11, 1, 3, []), (0, 5, 0, 0, []), (0, 2, 1, 0, []), (33, 62, 11, 0, []), (0, 0, 3, 0, []), (24, 12, 51, 3, []), (24, 11, 3, 3, []), (0, 5, 0, 0, []), (0, 4, 0, 0, []), (33, 61, 11, 0, []), (0, 0, 3, 0, []), (24, 12, 51, 3, []), (24, 11, 2, 3, []), (0, 5, 0, 0, []), (0, 0, 3, 0, []), (24, 12, 51, 3, []), (24, 11, 6, 0, []), (33, 61, 11, 0, []), (0, 0, 3, 0, []), (24, 12, 51, 3, []), (26, 0, 0, 0, []), (24, 11, 6, 0, []), (0, 4, 0, 0, []), (8, 0, 0, 0, []), (25, 11, 6, 0, []), (0, 0, 3, 0, []), (24, 12, 51, 3, []), (26, 0, 0, 0, []), (24, 11, 5, 0, []), (2, 0, 0, 1, []), (8, 0, 0, 0, []), (25, 11, 5, 0, []), (0, 5, 0, 0, []), (41, 0, 0, 0, [])]
/-- 219: HornBenchModel.pair(JII)I -/
def am_c219 : List AmIns := [(0, 0, 3, 0, []), (2, 0, 0, 2, []), (0, 1, 1, 0, []), (2, 0, 0, 2, []), (40, 218, 4, 0, []), (1, 5, 0, 0, []), (0, 0, 3, 0, []), (24, 12, 51, 3, []), (24, 11, 4, 3, []), (0, 0, 3, 0, []), (24, 12, 51, 3, []), (24, 11, 2, 3, []), (0, 5, 0, 0, []), (32, 0, 0, 0, []), (0, 3, 0, 0, []), (33, 61, 11, 0, []), (0, 0, 3, 0, []), (24, 12, 51, 3, []), (24, 11, 4, 3, []), (0, 0, 3, 0, []), (24, 12, 51, 3, []), (24, 11, 2, 3, []), (0, 5, 0, 0, []), (32, 0, 0, 0, []), (2, 0, 0, 1, []), (8, 0, 0, 0, []), (0, 4, 0, 0, []), (33, 61, 11, 0, []), (0, 5, 0, 0, []), (41, 0, 0, 0, [])]
/-- 220: HornBenchModel.variable(I)I -/
def am_c220 : List AmIns := [(0, 0, 3, 0, []), (0, 1, 0, 0, []), (40, 200, 2, 0, []), (1, 2, 1, 0, []), (0, 0, 3, 0, []), (24, 12, 6, 3, []), (0, 1, 0, 0, []), (32, 0, 0, 0, []), (0, 0, 3, 0, []), (24, 12, 5, 3, []), (0, 1, 0, 0, []), (32, 0, 0, 0, []), (8, 0, 1, 0, []), (2, 0, 0, 1, []), (19, 26, 1, 0, []), (0, 0, 3, 0, []), (24, 12, 1, 3, []), (0, 0, 3, 0, []), (24, 12, 5, 3, []), (0, 1, 0, 0, []), (32, 0, 0, 0, []), (32, 0, 0, 0, []), (2, 0, 0, 95, []), (19, 26, 1, 0, []), (2, 0, 0, 1, []), (22, 27, 0, 0, []), (2, 0, 0, 0, []), (1, 4, 0, 0, []), (2, 0, 0, (-1), []), (1, 5, 0, 0, []), (2, 0, 0, 0, []), (1, 6, 0, 0, []), (0, 6, 0, 0, []), (0, 0, 3, 0, []), (24, 12, 51, 3, []), (24, 11, 8, 0, []), (19, 51, 3, 0, []), (0, 4, 0, 0, []), (18, 51, 1, 0, []), (0, 0, 3, 0, []), (24, 12, 51, 3, []), (24, 11, 9, 3, []), (0, 6, 0, 0, []), (32, 0, 1, 0, []), (0, 2, 1, 0, []), (13, 0, 0, 0, []), (18, 49, 1, 0, []), (0, 6, 0, 0, []), (1, 5, 0, 0, []), (17, 6, 0, 1, []), (22, 32, 0, 0, []), (0, 5, 0, 0, []), (2, 0, 0, (-1), []), (19, 64, 1, 0, []), (0, 0, 3, 0, []), (24, 12, 51, 3, []), (24, 11, 8, 0, []), (2, 0, 0, 8, []), (19, 64, 1, 0, []), (0, 0, 3, 0, []), (0, 1, 0, 0, []), (40, 217, 2, 0, []), (2, 0, 0, 0, []), (1, 5, 0, 0, []), (0, 5, 0, 0, []), (2, 0, 0, (-1), []), (19, 88, 1, 0, []), (0, 0, 3, 0, []), (24, 12, 51, 3, []), (24, 11, 8, 0, []), (1, 5, 0, 0, []), (0, 0, 3, 0, []), (24, 12, 51, 3, []), (24, 11, 9, 3, []), (0, 5, 0, 0, []), (0, 4, 0, 0, []), (18, 79, 0, 0, []), (3, 0, 0, (-1), []), (22, 80, 0, 0, []), (0, 2, 1, 0, []), (33, 62, 11, 0, []), (0, 0, 3, 0, []), (24, 12, 51, 3, []), (26, 0, 0, 0, []), (24, 11, 8, 0, []), (2, 0, 0, 1, []), (8, 0, 0, 0, []), (25, 11, 8, 0, []), (0, 0, 3, 0, []), (2, 0, 0, 0, []), (0, 5, 0, 0, []), (14, 0, 0, 0, []), (2, 0, 0, 0, []), (40, 218, 4, 0, []), (41, 0, 0, 0, [])]
/-- 221: HornBenchModel.term()I -/
def am_c221 : List AmIns := [(0, 0, 3, 0, []), (40, 222, 1, 0, []), (1, 1, 0, 0, []), (0, 0, 3, 0, []), (6, 26, 0, 0, []), (40, 202, 2, 0, []), (18, 11, 1, 0, []), (0, 0, 3, 0, []), (6, 17, 0, 0, []), (40, 202, 2, 0, []), (18, 33, 0, 0, []), (0, 0, 3, 0, []), (6, 26, 0, 0, []), (40, 202, 2, 0, []), (18, 17, 0, 0, []), (3, 0, 0, (-1), []), (22, 18, 0, 0, []), (3, 0, 0, (-2), []), (1, 2, 1, 0, []), (0, 0, 3, 0, []), (26, 0, 0, 0, []), (24, 12, 7, 0, []), (2, 0, 0, 1, []), (8, 0, 0, 0, []), (25, 12, 7, 0, []), (0, 0, 3, 0, []), (0, 2, 1, 0, []), (0, 1, 0, 0, []), (0, 0, 3, 0, []), (40, 222, 1, 0, []), (40, 219, 4, 0, []), (1, 1, 0, 0, []), (22, 3, 0, 0, []), (0, 1, 0, 0, []), (41, 0, 0, 0, [])]
/-- 222: HornBenchModel.product()I -/
def am_c222 : List AmIns := [(0, 0, 3, 0, []), (40, 223, 1, 0, []), (1, 1, 0, 0, []), (0, 0, 3, 0, []), (6, 23, 0, 0, []), (40, 202, 2, 0, []), (18, 15, 1, 0, []), (0, 0, 3, 0, []), (6, 24, 0, 0, []), (40, 202, 2, 0, []), (18, 15, 1, 0, []), (0, 0, 3, 0, []), (6, 25, 0, 0, []), (40, 202, 2, 0, []), (18, 43, 0, 0, []), (0, 0, 3, 0, []), (6, 23, 0, 0, []), (40, 202, 2, 0, []), (18, 21, 0, 0, []), (3, 0, 0, (-3), []), (22, 28, 0, 0, []), (0, 0, 3, 0, []), (6, 24, 0, 0, []), (40, 202, 2, 0, []), (18, 27, 0, 0, []), (3, 0, 0, (-4), []), (22, 28, 0, 0, []), (3, 0, 0, (-5), []), (1, 2, 1, 0, []), (0, 0, 3, 0, []), (26, 0, 0, 0, []), (24, 12, 7, 0, []), (2, 0, 0, 1, []), (8, 0, 0, 0, []), (25, 12, 7, 0, []), (0, 0, 3, 0, []), (0, 2, 1, 0, []), (0, 1, 0, 0, []), (0, 0, 3, 0, []), (40, 223, 1, 0, []), (40, 219, 4, 0, []), (1, 1, 0, 0, []), (22, 3, 0, 0, []), (0, 1, 0, 0, []), (41, 0, 0, 0, [])]
/-- 223: HornBenchModel.simple()I -/
def am_c223 : List AmIns := [(0, 0, 3, 0, []), (24, 12, 7, 0, []), (1, 1, 0, 0, []), (0, 0, 3, 0, []), (26, 0, 0, 0, []), (24, 12, 7, 0, []), (2, 0, 0, 1, []), (8, 0, 0, 0, []), (25, 12, 7, 0, []), (0, 0, 3, 0, []), (24, 12, 4, 3, []), (0, 1, 0, 0, []), (32, 0, 0, 0, []), (2, 0, 0, 2, []), (19, 19, 1, 0, []), (0, 0, 3, 0, []), (0, 1, 0, 0, []), (40, 220, 2, 0, []), (41, 0, 0, 0, []), (0, 0, 3, 0, []), (24, 12, 4, 3, []), (0, 1, 0, 0, []), (32, 0, 0, 0, []), (2, 0, 0, 3, []), (19, 34, 1, 0, []), (0, 0, 3, 0, []), (2, 0, 0, 1, []), (0, 0, 3, 0, []), (0, 1, 0, 0, []), (40, 201, 2, 0, []), (14, 0, 0, 0, []), (2, 0, 0, 0, []), (40, 218, 4, 0, []), (41, 0, 0, 0, []), (0, 0, 3, 0, []), (0, 1, 0, 0, []), (40, 199, 2, 0, []), (18, 42, 0, 0, []), (0, 0, 3, 0, []), (0, 1, 0, 0, []), (40, 224, 2, 0, []), (41, 0, 0, 0, []), (0, 0, 3, 0, []), (0, 1, 0, 0, []), (6, 17, 0, 0, []), (40, 197, 3, 0, []), (18, 66, 0, 0, []), (0, 0, 3, 0, []), (26, 0, 0, 0, []), (24, 12, 7, 0, []), (2, 0, 0, 1, []), (8, 0, 0, 0, []), (25, 12, 7, 0, []), (0, 0, 3, 0, []), (2, 0, 0, 1, []), (0, 0, 3, 0, []), (0, 0, 3, 0, []), (24, 12, 7, 0, []), (2, 0, 0, 1, []), (8, 0, 1, 0, []), (40, 201, 2, 0, []), (14, 0, 5, 0, []), (14, 0, 0, 0, []), (2, 0, 0, 0, []), (40, 218, 4, 0, []), (41, 0, 0, 0, []), (0, 0, 3, 0, []), (0, 1, 0, 0, []), (6, 19, 0, 0, []), (40, 197, 3, 0, []), (18, 74, 0, 0, []), (0, 0, 3, 0, []), (40, 225, 1, 0, []), (41, 0, 0, 0, []), (0, 0, 3, 0, []), (40, 221, 1, 0, []), (1, 2, 0, 0, []), (0, 0, 3, 0, []), (26, 0, 0, 0, []), (24, 12, 7, 0, []), (2, 0, 0, 1, []), (8, 0, 0, 0, []), (25, 12, 7, 0, []), (0, 2, 0, 0, []), (41, 0, 0, 0, [])]
/-- 224: HornBenchModel.named(I)I -/
def am_c224 : List AmIns := [(2, 0, 0, 4, []), (29, 61, 0, 0, []), (1, 2, 3, 0, []), (2, 0, 0, 0, []), (1, 3, 0, 0, []), (0, 0, 3, 0, []), (6, 16, 0, 0, []), (40, 202, 2, 0, []), (18, 43, 0, 0, []), (0, 0, 3, 0, []), (26, 0, 0, 0, []), (24, 12, 7, 0, []), (2, 0, 0, 1, []), (8, 0, 0, 0, []), (25, 12, 7, 0, []), (0, 3, 0, 0, []), (2, 0, 0, 4, []), (19, 22, 1, 0, []), (0, 0, 3, 0, []), (0, 0, 3, 0, []), (24, 12, 7, 0, []), (40, 217, 2, 0, []), (0, 0, 3, 0, []), (40, 221, 1, 0, []), (1, 4, 0, 0, []), (0, 3, 0, 0, []), (2, 0, 0, 4, []), (19, 33, 3, 0, []), (0, 2, 3, 0, []), (0, 3, 0, 0, []), (0, 4, 0, 0, []), (33, 61, 11, 0, []), (17, 3, 0, 1, []), (0, 0, 3, 0, []), (6, 21, 0, 0, []), (40, 202, 2, 0, []), (18, 9, 1, 0, []), (0, 0, 3, 0, []), (26, 0, 0, 0, []), (24, 12, 7, 0, []), (2, 0, 0, 1, []), (8, 0, 0, 0, []), (25, 12, 7, 0, []), (0, 0, 3, 0, []), (2, 0, 0, 2, []), (0, 0, 3, 0, []), (0, 1, 0, 0, []), (40, 200, 2, 0, []), (0, 3, 0, 0, []), (40, 218, 4, 0, []), (1, 4, 0, 0, []), (2, 0, 0, 0, []), (1, 5, 0, 0, []), (0, 5, 0, 0, []), (0, 3, 0, 0, []), (19, 72, 3, 0, []), (0, 0, 3, 0, []), (24, 12, 51, 3, []), (24, 11, 4, 3, []), (0, 0, 3, 0, []), (24, 12, 51, 3, []), (24, 11, 2, 3, []), (0, 4, 0, 0, []), (32, 0, 0, 0, []), (0, 5, 0, 0, []), (8, 0, 0, 0, []), (0, 2, 3, 0, []), (0, 5, 0, 0, []), (32, 0, 0, 0, []), (33, 61, 11, 0, []), (17, 5, 0, 1, []), (22, 53, 0, 0, []), (0, 4, 0, 0, []), (41, 0, 0, 0, [])]
/-- 225: HornBenchModel.list()I -/
def am_c225 : List AmIns := [(2, 0, 0, 60, []), (29, 61, 0, 0, []), (1, 1, 3, 0, []), (2, 0, 0, 0, []), (1, 2, 0, 0, []), (0, 0, 3, 0, []), (6, 20, 0, 0, []), (40, 202, 2, 0, []), (18, 21, 0, 0, []), (0, 0, 3, 0, []), (26, 0, 0, 0, []), (24, 12, 7, 0, []), (2, 0, 0, 1, []), (8, 0, 0, 0, []), (25, 12, 7, 0, []), (0, 0, 3, 0, []), (2, 0, 0, 2, []), (3, 0, 0, (-7), []), (2, 0, 0, 0, []), (40, 218, 4, 0, []), (41, 0, 0, 0, []), (0, 0, 3, 0, []), (26, 0, 0, 0, []), (24, 12, 7, 0, []), (2, 0, 0, 1, []), (8, 0, 1, 0, []), (25, 12, 7, 0, []), (0, 0, 3, 0, []), (26, 0, 0, 0, []), (24, 12, 7, 0, []), (2, 0, 0, 1, []), (8, 0, 0, 0, []), (25, 12, 7, 0, []), (0, 1, 3, 0, []), (0, 2, 0, 0, []), (0, 0, 3, 0, []), (40, 221, 1, 0, []), (33, 61, 11, 0, []), (17, 2, 0, 1, []), (0, 0, 3, 0, []), (6, 21, 0, 0, []), (40, 202, 2, 0, []), (18, 27, 1, 0, []), (2, 0, 0, (-1), []), (1, 3, 0, 0, []), (0, 0, 3, 0, []), (6, 22, 0, 0, []), (40, 202, 2, 0, []), (18, 58, 0, 0, []), (0, 0, 3, 0, []), (26, 0, 0, 0, []), (24, 12, 7, 0, []), (2, 0, 0, 1, []), (8, 0, 0, 0, []), (25, 12, 7, 0, []), (0, 0, 3, 0, []), (40, 221, 1, 0, []), (1, 3, 0, 0, []), (0, 0, 3, 0, []), (26, 0, 0, 0, []), (24, 12, 7, 0, []), (2, 0, 0, 1, []), (8, 0, 0, 0, []), (25, 12, 7, 0, []), (0, 3, 0, 0, []), (2, 0, 0, (-1), []), (19, 73, 1, 0, []), (0, 0, 3, 0, []), (2, 0, 0, 2, []), (3, 0, 0, (-7), []), (2, 0, 0, 0, []), (40, 218, 4, 0, []), (22, 74, 0, 0, []), (0, 3, 0, 0, []), (1, 4, 0, 0, []), (0, 2, 0, 0, []), (2, 0, 0, 1, []), (8, 0, 1, 0, []), (1, 5, 0, 0, []), (0, 5, 0, 0, []), (18, 91, 2, 0, []), (0, 0, 3, 0, []), (3, 0, 0, (-6), []), (0, 1, 3, 0, []), (0, 5, 0, 0, []), (32, 0, 0, 0, []), (0, 4, 0, 0, []), (40, 219, 4, 0, []), (1, 4, 0, 0, []), (17, 5, 0, (-1), []), (22, 79, 0, 0, []), (0, 4, 0, 0, []), (41, 0, 0, 0, [])]
/-- 226: HornBenchModel.goals()I -/
def am_c226 : List AmIns := [(2, 0, 0, (-1), []), (1, 1, 0, 0, []), (2, 0, 0, (-1), []), (1, 2, 0, 0, []), (0, 0, 3, 0, []), (26, 0, 0, 0, []), (24, 12, 7, 0, []), (2, 0, 0, 1, []), (8, 0, 1, 0, []), (25, 12, 7, 0, []), (0, 0, 3, 0, []), (26, 0, 0, 0, []), (24, 12, 7, 0, []), (2, 0, 0, 1, []), (8, 0, 0, 0, []), (25, 12, 7, 0, []), (0, 0, 3, 0, []), (40, 227, 1, 0, []), (1, 3, 0, 0, []), (0, 2, 0, 0, []), (2, 0, 0, (-1), []), (19, 31, 0, 0, []), (0, 2, 0, 0, []), (0, 3, 0, 0, []), (19, 31, 0, 0, []), (0, 0, 3, 0, []), (24, 12, 51, 3, []), (24, 11, 14, 3, []), (0, 2, 0, 0, []), (0, 3, 0, 0, []), (33, 61, 11, 0, []), (0, 1, 0, 0, []), (2, 0, 0, (-1), []), (19, 36, 1, 0, []), (0, 3, 0, 0, []), (22, 37, 0, 0, []), (0, 1, 0, 0, []), (1, 1, 0, 0, []), (0, 3, 0, 0, []), (1, 2, 0, 0, []), (0, 0, 3, 0, []), (6, 21, 0, 0, []), (40, 202, 2, 0, []), (18, 10, 1, 0, []), (0, 1, 0, 0, []), (41, 0, 0, 0, [])]
/-- 227: HornBenchModel.goal()I -/
def am_c227 : List AmIns := [(0, 0, 3, 0, []), (24, 12, 51, 3, []), (24, 11, 10, 0, []), (2, 0, 0, 8, []), (19, 9, 1, 0, []), (0, 0, 3, 0, []), (0, 0, 3, 0, []), (24, 12, 7, 0, []), (40, 217, 2, 0, []), (0, 0, 3, 0, []), (24, 12, 51, 3, []), (24, 11, 10, 0, []), (2, 0, 0, 7, []), (38, 0, 1, 0, []), (1, 1, 0, 0, []), (0, 0, 3, 0, []), (24, 12, 51, 3, []), (0, 1, 0, 0, []), (2, 0, 0, 1, []), (8, 0, 0, 0, []), (25, 11, 10, 0, []), (0, 0, 3, 0, []), (24, 12, 51, 3, []), (24, 11, 14, 3, []), (0, 1, 0, 0, []), (2, 0, 0, (-1), []), (33, 61, 11, 0, []), (0, 0, 3, 0, []), (24, 12, 51, 3, []), (24, 11, 15, 3, []), (0, 1, 0, 0, []), (2, 0, 0, (-1), []), (33, 61, 11, 0, []), (0, 0, 3, 0, []), (24, 12, 7, 0, []), (1, 2, 0, 0, []), (0, 0, 3, 0, []), (0, 2, 0, 0, []), (6, 28, 0, 0, []), (40, 197, 3, 0, []), (18, 51, 1, 0, []), (0, 0, 3, 0, []), (0, 2, 0, 0, []), (6, 29, 0, 0, []), (40, 197, 3, 0, []), (18, 51, 1, 0, []), (0, 0, 3, 0, []), (0, 2, 0, 0, []), (6, 30, 0, 0, []), (40, 197, 3, 0, []), (18, 78, 0, 0, []), (0, 0, 3, 0, []), (26, 0, 0, 0, []), (24, 12, 7, 0, []), (2, 0, 0, 1, []), (8, 0, 0, 0, []), (25, 12, 7, 0, []), (0, 0, 3, 0, []), (24, 12, 51, 3, []), (24, 11, 11, 3, []), (0, 1, 0, 0, []), (0, 0, 3, 0, []), (0, 2, 0, 0, []), (6, 28, 0, 0, []), (40, 197, 3, 0, []), (18, 68, 0, 0, []), (2, 0, 0, 1, []), (22, 76, 0, 0, []), (0, 0, 3, 0, []), (0, 2, 0, 0, []), (6, 29, 0, 0, []), (40, 197, 3, 0, []), (18, 75, 0, 0, []), (2, 0, 0, 2, []), (22, 76, 0, 0, []), (2, 0, 0, 3, []), (33, 61, 11, 0, []), (22, 188, 0, 0, []), (0, 0, 3, 0, []), (0, 2, 0, 0, []), (6, 31, 0, 0, []), (40, 197, 3, 0, []), (18, 111, 0, 0, []), (0, 0, 3, 0, []), (26, 0, 0, 0, []), (24, 12, 7, 0, []), (2, 0, 0, 2, []), (8, 0, 0, 0, []), (25, 12, 7, 0, []), (0, 0, 3, 0, []), (40, 226, 1, 0, []), (1, 3, 0, 0, []), (0, 0, 3, 0, []), (26, 0, 0, 0, []), (24, 12, 7, 0, []), (2, 0, 0, 1, []), (8, 0, 0, 0, []), (25, 12, 7, 0, []), (0, 0, 3, 0, []), (24, 12, 51, 3, []), (24, 11, 11, 3, []), (0, 1, 0, 0, []), (2, 0, 0, 4, []), (33, 61, 11, 0, []), (0, 0, 3, 0, []), (24, 12, 51, 3, []), (24, 11, 15, 3, []), (0, 1, 0, 0, []), (0, 3, 0, 0, []), (33, 61, 11, 0, []), (22, 188, 0, 0, []), (0, 0, 3, 0, []), (0, 2, 0, 0, []), (6, 32, 0, 0, []), (40, 197, 3, 0, []), (18, 144, 0, 0, []), (0, 0, 3, 0, []), (26, 0, 0, 0, []), (24, 12, 7, 0, []), (2, 0, 0, 2, []), (8, 0, 0, 0, []), (25, 12, 7, 0, []), (0, 0, 3, 0, []), (40, 221, 1, 0, []), (1, 3, 0, 0, []), (0, 0, 3, 0, []), (26, 0, 0, 0, []), (24, 12, 7, 0, []), (2, 0, 0, 1, []), (8, 0, 0, 0, []), (25, 12, 7, 0, []), (0, 0, 3, 0, []), (24, 12, 51, 3, []), (24, 11, 11, 3, []), (0, 1, 0, 0, []), (2, 0, 0, 5, []), (33, 61, 11, 0, []), (0, 0, 3, 0, []), (24, 12, 51, 3, []), (24, 11, 12, 3, []), (0, 1, 0, 0, []), (0, 3, 0, 0, []), (33, 61, 11, 0, []), (22, 188, 0, 0, []), (0, 0, 3, 0, []), (40, 221, 1, 0, []), (1, 3, 0, 0, []), (0, 0, 3, 0, []), (0, 0, 3, 0, []), (24, 12, 7, 0, []), (6, 2, 1, 0, []), (40, 198, 3, 0, []), (1, 4, 0, 0, []), (0, 0, 3, 0, []), (24, 12, 51, 3, []), (24, 11, 11, 3, []), (0, 1, 0, 0, []), (0, 4, 0, 0, []), (2, 0, 0, (-1), []), (19, 162, 1, 0, []), (2, 0, 0, 0, []), (22, 165, 0, 0, []), (2, 0, 0, 7, []), (0, 4, 0, 0, []), (8, 0, 0, 0, []), (33, 61, 11, 0, []), (0, 4, 0, 0, []), (2, 0, 0, (-1), []), (19, 182, 0, 0, []), (0, 0, 3, 0, []), (26, 0, 0, 0, []), (24, 12, 7, 0, []), (2, 0, 0, 1, []), (8, 0, 0, 0, []), (25, 12, 7, 0, []), (0, 0, 3, 0, []), (24, 12, 51, 3, []), (24, 11, 13, 3, []), (0, 1, 0, 0, []), (0, 0, 3, 0, []), (40, 221, 1, 0, []), (33, 61, 11, 0, []), (0, 0, 3, 0, []), (24, 12, 51, 3, []), (24, 11, 12, 3, []), (0, 1, 0, 0, []), (0, 3, 0, 0, []), (33, 61, 11, 0, []), (0, 1, 0, 0, []), (41, 0, 0, 0, [])]
/-- 228: HornBenchModel.forgetQuestion()V -/
def am_c228 : List AmIns := [(0, 0, 3, 0, []), (5, 0, 0, 0, []), (25, 12, 13, 3, []), (0, 0, 3, 0, []), (2, 0, 0, (-1), []), (25, 12, 15, 0, []), (0, 0, 3, 0, []), (2, 0, 0, 0, []), (25, 12, 16, 0, []), (0, 0, 3, 0, []), (2, 0, 0, 0, []), (25, 12, 17, 0, []), (0, 0, 3, 0, []), (2, 0, 0, 0, []), (25, 12, 18, 0, []), (0, 0, 3, 0, []), (2, 0, 0, (-1), []), (25, 12, 40, 0, []), (0, 0, 3, 0, []), (2, 0, 0, 0, []), (25, 12, 50, 10, []), (0, 0, 3, 0, []), (2, 0, 0, 0, []), (25, 12, 41, 0, []), (41, 0, 9, 0, [])]
/-- 229: HornBenchModel.wrong(II)I -/
def am_c229 : List AmIns := [(0, 0, 3, 0, []), (0, 2, 0, 0, []), (25, 12, 3, 0, []), (0, 1, 0, 0, []), (41, 0, 0, 0, [])]
/-- 230: HornBenchModel.read(I)I -/
def am_c230 : List AmIns := [(0, 0, 3, 0, []), (2, 0, 0, (-1), []), (25, 12, 3, 0, []), (0, 0, 3, 0, []), (40, 228, 1, 0, []), (0, 0, 3, 0, []), (40, 196, 1, 0, []), (0, 0, 3, 0, []), (40, 205, 1, 0, []), (1, 2, 0, 0, []), (0, 0, 3, 0, []), (2, 0, 0, 0, []), (25, 12, 2, 0, []), (0, 2, 0, 0, []), (18, 24, 1, 0, []), (0, 0, 3, 0, []), (2, 0, 0, 1, []), (0, 0, 3, 0, []), (24, 12, 5, 3, []), (0, 0, 3, 0, []), (24, 12, 7, 0, []), (32, 0, 0, 0, []), (40, 229, 3, 0, []), (41, 0, 0, 0, []), (0, 0, 3, 0, []), (2, 0, 0, 2001, []), (25, 12, 52, 0, []), (0, 1, 0, 0, []), (1, 3, 0, 0, []), (0, 0, 3, 0, []), (2, 0, 0, 0, []), (25, 12, 7, 0, []), (0, 0, 3, 0, []), (24, 12, 4, 3, []), (0, 0, 3, 0, []), (24, 12, 7, 0, []), (32, 0, 0, 0, []), (18, 97, 0, 0, []), (0, 3, 0, 0, []), (2, 0, 0, 40, []), (19, 45, 2, 0, []), (0, 0, 3, 0, []), (0, 0, 3, 0, []), (24, 12, 7, 0, []), (40, 217, 2, 0, []), (0, 0, 3, 0, []), (28, 11, 18, 0, []), (26, 0, 0, 0, []), (40, 184, 1, 21, []), (25, 12, 51, 3, []), (0, 0, 3, 0, []), (24, 12, 7, 0, []), (1, 4, 0, 0, []), (0, 0, 3, 0, []), (26, 0, 0, 0, []), (24, 12, 7, 0, []), (2, 0, 0, 1, []), (8, 0, 0, 0, []), (25, 12, 7, 0, []), (0, 0, 3, 0, []), (24, 12, 51, 3, []), (0, 0, 3, 0, []), (0, 4, 0, 0, []), (40, 224, 2, 0, []), (25, 11, 7, 0, []), (0, 0, 3, 0, []), (6, 27, 0, 0, []), (40, 202, 2, 0, []), (18, 80, 0, 0, []), (0, 0, 3, 0, []), (26, 0, 0, 0, []), (24, 12, 7, 0, []), (2, 0, 0, 1, []), (8, 0, 0, 0, []), (25, 12, 7, 0, []), (0, 0, 3, 0, []), (24, 12, 51, 3, []), (0, 0, 3, 0, []), (40, 226, 1, 0, []), (25, 11, 16, 0, []), (0, 0, 3, 0, []), (26, 0, 0, 0, []), (24, 12, 7, 0, []), (2, 0, 0, 1, []), (8, 0, 0, 0, []), (25, 12, 7, 0, []), (0, 3, 0, 0, []), (2, 0, 0, 40, []), (19, 95, 3, 0, []), (0, 0, 3, 0, []), (24, 12, 10, 3, []), (0, 3, 0, 0, []), (0, 0, 3, 0, []), (24, 12, 51, 3, []), (33, 65, 11, 0, []), (17, 3, 0, 1, []), (22, 32, 0, 0, []), (0, 0, 3, 0, []), (24, 12, 52, 0, []), (2, 0, 0, 2000, []), (19, 107, 4, 0, []), (0, 0, 3, 0, []), (2, 0, 0, 2, []), (0, 0, 3, 0, []), (24, 12, 52, 0, []), (40, 229, 3, 0, []), (41, 0, 0, 0, []), (0, 0, 3, 0, []), (0, 3, 0, 0, []), (25, 12, 9, 0, []), (2, 0, 0, 0, []), (41, 0, 0, 0, [])]
/-- 231: HornBenchModel.consult()I -/
def am_c231 : List AmIns := [(0, 0, 3, 0, []), (2, 0, 0, 0, []), (25, 12, 0, 0, []), (0, 0, 3, 0, []), (2, 0, 0, 0, []), (25, 12, 9, 0, []), (0, 0, 3, 0, []), (2, 0, 0, 0, []), (40, 230, 2, 0, []), (41, 0, 0, 0, [])]
/-- 232: HornBenchModel.add()I -/
def am_c232 : List AmIns := [(0, 0, 3, 0, []), (2, 0, 0, 0, []), (25, 12, 0, 0, []), (0, 0, 3, 0, []), (0, 0, 3, 0, []), (24, 12, 9, 0, []), (40, 230, 2, 0, []), (41, 0, 0, 0, [])]
/-- 233: HornBenchModel.drop(I)I -/
def am_c233 : List AmIns := [(0, 0, 3, 0, []), (2, 0, 0, 0, []), (25, 12, 0, 0, []), (0, 1, 0, 0, []), (2, 0, 0, 0, []), (0, 0, 3, 0, []), (24, 12, 9, 0, []), (2, 0, 0, 1, []), (8, 0, 1, 0, []), (40, 188, 3, 2, []), (18, 15, 1, 0, []), (0, 0, 3, 0, []), (2, 0, 0, 1, []), (40, 187, 2, 0, []), (41, 0, 0, 0, []), (0, 1, 0, 0, []), (1, 2, 0, 0, []), (0, 2, 0, 0, []), (2, 0, 0, 1, []), (8, 0, 0, 0, []), (0, 0, 3, 0, []), (24, 12, 9, 0, []), (19, 35, 3, 0, []), (0, 0, 3, 0, []), (24, 12, 10, 3, []), (0, 2, 0, 0, []), (0, 0, 3, 0, []), (24, 12, 10, 3, []), (0, 2, 0, 0, []), (2, 0, 0, 1, []), (8, 0, 0, 0, []), (32, 0, 3, 0, []), (33, 65, 11, 0, []), (17, 2, 0, 1, []), (22, 17, 0, 0, []), (0, 0, 3, 0, []), (26, 0, 0, 0, []), (24, 12, 9, 0, []), (2, 0, 0, 1, []), (8, 0, 1, 0, []), (25, 12, 9, 0, []), (0, 0, 3, 0, []), (40, 228, 1, 0, []), (0, 0, 3, 0, []), (24, 12, 9, 0, []), (41, 0, 0, 0, [])]
/-- 234: HornBenchModel.errorAt()I -/
def am_c234 : List AmIns := [(0, 0, 3, 0, []), (2, 0, 0, 0, []), (25, 12, 0, 0, []), (0, 0, 3, 0, []), (24, 12, 3, 0, []), (41, 0, 0, 0, [])]
/-- 235: HornBenchModel.nameIn(LHornBenchModel$Clause;)J -/
def am_c235 : List AmIns := [(0, 0, 3, 0, []), (24, 11, 1, 3, []), (0, 0, 3, 0, []), (24, 11, 7, 0, []), (32, 0, 1, 0, []), (41, 0, 1, 0, [])]
/-- 236: HornBenchModel.sizeIn(LHornBenchModel$Clause;)I -/
def am_c236 : List AmIns := [(0, 0, 3, 0, []), (24, 11, 3, 3, []), (0, 0, 3, 0, []), (24, 11, 7, 0, []), (32, 0, 0, 0, []), (41, 0, 0, 0, [])]
/-- 237: HornBenchModel.areAlike(LHornBenchModel$Clause;LHornBenchModel$Clause;)Z -/
def am_c237 : List AmIns := [(0, 0, 3, 0, []), (40, 235, 1, 2, []), (0, 1, 3, 0, []), (40, 235, 1, 2, []), (13, 0, 0, 0, []), (18, 13, 1, 0, []), (0, 0, 3, 0, []), (40, 236, 1, 2, []), (0, 1, 3, 0, []), (40, 236, 1, 2, []), (19, 13, 1, 0, []), (2, 0, 0, 1, []), (22, 14, 0, 0, []), (2, 0, 0, 0, []), (41, 0, 10, 0, [])]
/-- 238: HornBenchModel.predicates()I -/
def am_c238 : List AmIns := [(2, 0, 0, 0, []), (1, 1, 0, 0, []), (2, 0, 0, 0, []), (1, 2, 0, 0, []), (0, 2, 0, 0, []), (0, 0, 3, 0, []), (24, 12, 9, 0, []), (19, 43, 3, 0, []), (2, 0, 0, 1, []), (1, 3, 0, 0, []), (2, 0, 0, 0, []), (1, 4, 0, 0, []), (0, 4, 0, 0, []), (0, 2, 0, 0, []), (19, 33, 3, 0, []), (0, 3, 0, 0, []), (18, 29, 0, 0, []), (0, 0, 3, 0, []), (24, 12, 10, 3, []), (0, 4, 0, 0, []), (32, 0, 3, 0, []), (0, 0, 3, 0, []), (24, 12, 10, 3, []), (0, 2, 0, 0, []), (32, 0, 3, 0, []), (40, 237, 2, 2, []), (18, 29, 1, 0, []), (2, 0, 0, 1, []), (22, 30, 0, 0, []), (2, 0, 0, 0, []), (1, 3, 0, 0, []), (17, 4, 0, 1, []), (22, 12, 0, 0, []), (0, 1, 0, 0, []), (0, 3, 0, 0, []), (18, 38, 0, 0, []), (2, 0, 0, 1, []), (22, 39, 0, 0, []), (2, 0, 0, 0, []), (8, 0, 0, 0, []), (1, 1, 0, 0, []), (17, 2, 0, 1, []), (22, 4, 0, 0, []), (0, 1, 0, 0, []), (41, 0, 0, 0, [])]
/-- 239: HornBenchModel.goalsLeft()I -/
def am_c239 : List AmIns := [(2, 0, 0, 0, []), (1, 1, 0, 0, []), (0, 0, 3, 0, []), (24, 12, 15, 0, []), (2, 0, 0, 2, []), (19, 10, 0, 0, []), (0, 0, 3, 0, []), (24, 12, 15, 0, []), (2, 0, 0, 3, []), (19, 12, 1, 0, []), (2, 0, 0, 0, []), (41, 0, 0, 0, []), (0, 0, 3, 0, []), (24, 12, 40, 0, []), (1, 2, 0, 0, []), (0, 2, 0, 0, []), (2, 0, 0, (-1), []), (19, 36, 0, 0, []), (0, 1, 0, 0, []), (0, 0, 3, 0, []), (24, 12, 34, 3, []), (0, 2, 0, 0, []), (32, 0, 0, 0, []), (2, 0, 0, 6, []), (19, 27, 1, 0, []), (2, 0, 0, 0, []), (22, 28, 0, 0, []), (2, 0, 0, 1, []), (8, 0, 0, 0, []), (1, 1, 0, 0, []), (0, 0, 3, 0, []), (24, 12, 38, 3, []), (0, 2, 0, 0, []), (32, 0, 0, 0, []), (1, 2, 0, 0, []), (22, 15, 0, 0, []), (0, 1, 0, 0, []), (41, 0, 0, 0, [])]
/-- 240: HornBenchModel.counted(I)I -/
def am_c240 : List AmIns := [(0, 1, 0, 0, []), (2, 0, 0, 4, []), (19, 23, 3, 0, []), (0, 1, 0, 0, []), (18, 8, 1, 0, []), (0, 0, 3, 0, []), (24, 12, 9, 0, []), (22, 22, 0, 0, []), (0, 1, 0, 0, []), (2, 0, 0, 1, []), (19, 14, 1, 0, []), (0, 0, 3, 0, []), (40, 238, 1, 0, []), (22, 22, 0, 0, []), (0, 1, 0, 0, []), (2, 0, 0, 2, []), (19, 20, 1, 0, []), (0, 0, 3, 0, []), (24, 12, 2, 0, []), (22, 22, 0, 0, []), (0, 0, 3, 0, []), (24, 12, 12, 0, []), (41, 0, 0, 0, []), (0, 0, 3, 0, []), (24, 12, 13, 3, []), (20, 28, 1, 0, []), (2, 0, 0, 0, []), (41, 0, 0, 0, []), (0, 1, 0, 0, []), (2, 0, 0, 4, []), (19, 35, 1, 0, []), (0, 0, 3, 0, []), (24, 12, 13, 3, []), (24, 11, 8, 0, []), (22, 55, 0, 0, []), (0, 1, 0, 0, []), (2, 0, 0, 5, []), (19, 41, 1, 0, []), (0, 0, 3, 0, []), (40, 239, 1, 0, []), (22, 55, 0, 0, []), (0, 1, 0, 0, []), (2, 0, 0, 6, []), (19, 47, 1, 0, []), (0, 0, 3, 0, []), (24, 12, 16, 0, []), (22, 55, 0, 0, []), (0, 1, 0, 0, []), (2, 0, 0, 7, []), (19, 53, 1, 0, []), (0, 0, 3, 0, []), (24, 12, 17, 0, []), (22, 55, 0, 0, []), (0, 0, 3, 0, []), (24, 12, 18, 0, []), (41, 0, 0, 0, [])]
/-- 241: HornBenchModel.count(I)I -/
def am_c241 : List AmIns := [(0, 0, 3, 0, []), (2, 0, 0, 0, []), (25, 12, 0, 0, []), (0, 1, 0, 0, []), (2, 0, 0, 0, []), (2, 0, 0, 8, []), (40, 188, 3, 2, []), (18, 12, 0, 0, []), (0, 0, 3, 0, []), (0, 1, 0, 0, []), (40, 240, 2, 0, []), (22, 15, 0, 0, []), (0, 0, 3, 0, []), (2, 0, 0, 1, []), (40, 187, 2, 0, []), (41, 0, 0, 0, [])]
/-- 242: HornBenchModel.clauseTold(II)I -/
def am_c242 : List AmIns := [(0, 2, 0, 0, []), (18, 8, 1, 0, []), (0, 0, 3, 0, []), (24, 12, 10, 3, []), (0, 1, 0, 0, []), (32, 0, 3, 0, []), (40, 236, 1, 2, []), (22, 31, 0, 0, []), (0, 2, 0, 0, []), (2, 0, 0, 1, []), (19, 17, 1, 0, []), (0, 0, 3, 0, []), (24, 12, 10, 3, []), (0, 1, 0, 0, []), (32, 0, 3, 0, []), (24, 11, 10, 0, []), (22, 31, 0, 0, []), (0, 2, 0, 0, []), (2, 0, 0, 2, []), (19, 26, 1, 0, []), (0, 0, 3, 0, []), (24, 12, 10, 3, []), (0, 1, 0, 0, []), (32, 0, 3, 0, []), (24, 11, 8, 0, []), (22, 31, 0, 0, []), (0, 0, 3, 0, []), (24, 12, 10, 3, []), (0, 1, 0, 0, []), (32, 0, 3, 0, []), (24, 11, 17, 0, []), (41, 0, 0, 0, [])]
/-- 243: HornBenchModel.clause(II)I -/
def am_c243 : List AmIns := [(0, 0, 3, 0, []), (2, 0, 0, 0, []), (25, 12, 0, 0, []), (0, 1, 0, 0, []), (2, 0, 0, 0, []), (0, 0, 3, 0, []), (24, 12, 9, 0, []), (2, 0, 0, 1, []), (8, 0, 1, 0, []), (40, 188, 3, 2, []), (18, 21, 0, 0, []), (0, 2, 0, 0, []), (2, 0, 0, 0, []), (2, 0, 0, 3, []), (40, 188, 3, 2, []), (18, 21, 0, 0, []), (0, 0, 3, 0, []), (0, 1, 0, 0, []), (0, 2, 0, 0, []), (40, 242, 3, 0, []), (22, 24, 0, 0, []), (0, 0, 3, 0, []), (2, 0, 0, 1, []), (40, 187, 2, 0, []), (41, 0, 0, 0, [])]
/-- 244: HornBenchModel.cell(IJI)I -/
def am_c244 : List AmIns := [(0, 0, 3, 0, []), (24, 12, 19, 0, []), (1, 5, 0, 0, []), (0, 0, 3, 0, []), (24, 12, 20, 3, []), (0, 5, 0, 0, []), (0, 1, 0, 0, []), (33, 61, 11, 0, []), (0, 0, 3, 0, []), (24, 12, 21, 3, []), (0, 5, 0, 0, []), (0, 2, 1, 0, []), (33, 62, 11, 0, []), (0, 0, 3, 0, []), (24, 12, 23, 3, []), (0, 5, 0, 0, []), (0, 4, 0, 0, []), (33, 61, 11, 0, []), (0, 0, 3, 0, []), (24, 12, 22, 3, []), (0, 5, 0, 0, []), (0, 0, 3, 0, []), (24, 12, 24, 0, []), (33, 61, 11, 0, []), (0, 0, 3, 0, []), (24, 12, 27, 3, []), (0, 5, 0, 0, []), (2, 0, 0, 0, []), (33, 61, 11, 0, []), (0, 0, 3, 0, []), (26, 0, 0, 0, []), (24, 12, 24, 0, []), (0, 4, 0, 0, []), (8, 0, 0, 0, []), (25, 12, 24, 0, []), (0, 0, 3, 0, []), (26, 0, 0, 0, []), (24, 12, 19, 0, []), (2, 0, 0, 1, []), (8, 0, 0, 0, []), (25, 12, 19, 0, []), (0, 5, 0, 0, []), (41, 0, 0, 0, [])]
/-- 245: HornBenchModel.laid(LHornBenchModel$Clause;I[I)I -/
def am_c245 : List AmIns := [(0, 1, 3, 0, []), (24, 11, 0, 3, []), (0, 2, 0, 0, []), (32, 0, 0, 0, []), (18, 28, 1, 0, []), (0, 1, 3, 0, []), (24, 11, 1, 3, []), (0, 2, 0, 0, []), (32, 0, 1, 0, []), (14, 0, 1, 0, []), (1, 4, 0, 0, []), (0, 3, 3, 0, []), (0, 4, 0, 0, []), (32, 0, 0, 0, []), (2, 0, 0, (-1), []), (19, 24, 1, 0, []), (0, 3, 3, 0, []), (0, 4, 0, 0, []), (0, 0, 3, 0, []), (2, 0, 0, 0, []), (3, 0, 0, (-1), []), (2, 0, 0, 0, []), (40, 244, 4, 0, []), (33, 61, 11, 0, []), (0, 3, 3, 0, []), (0, 4, 0, 0, []), (32, 0, 0, 0, []), (41, 0, 0, 0, []), (0, 1, 3, 0, []), (24, 11, 3, 3, []), (0, 2, 0, 0, []), (32, 0, 0, 0, []), (1, 4, 0, 0, []), (0, 0, 3, 0, []), (0, 1, 3, 0, []), (24, 11, 0, 3, []), (0, 2, 0, 0, []), (32, 0, 0, 0, []), (0, 1, 3, 0, []), (24, 11, 1, 3, []), (0, 2, 0, 0, []), (32, 0, 1, 0, []), (0, 4, 0, 0, []), (40, 244, 4, 0, []), (1, 5, 0, 0, []), (2, 0, 0, 0, []), (1, 6, 0, 0, []), (0, 6, 0, 0, []), (0, 4, 0, 0, []), (19, 74, 3, 0, []), (0, 0, 3, 0, []), (24, 12, 25, 3, []), (0, 0, 3, 0, []), (24, 12, 22, 3, []), (0, 5, 0, 0, []), (32, 0, 0, 0, []), (0, 6, 0, 0, []), (8, 0, 0, 0, []), (0, 0, 3, 0, []), (0, 1, 3, 0, []), (0, 1, 3, 0, []), (24, 11, 4, 3, []), (0, 1, 3, 0, []), (24, 11, 2, 3, []), (0, 2, 0, 0, []), (32, 0, 0, 0, []), (0, 6, 0, 0, []), (8, 0, 0, 0, []), (32, 0, 0, 0, []), (0, 3, 3, 0, []), (40, 245, 4, 0, []), (33, 61, 11, 0, []), (17, 6, 0, 1, []), (22, 47, 0, 0, []), (0, 5, 0, 0, []), (41, 0, 0, 0, [])]
/-- 246: HornBenchModel.end(I)I -/
def am_c246 : List AmIns := [(0, 1, 0, 0, []), (1, 2, 0, 0, []), (0, 0, 3, 0, []), (24, 12, 20, 3, []), (0, 2, 0, 0, []), (32, 0, 0, 0, []), (18, 21, 1, 0, []), (0, 0, 3, 0, []), (24, 12, 21, 3, []), (0, 2, 0, 0, []), (32, 0, 1, 0, []), (3, 0, 0, (-1), []), (13, 0, 0, 0, []), (18, 21, 0, 0, []), (0, 0, 3, 0, []), (24, 12, 21, 3, []), (0, 2, 0, 0, []), (32, 0, 1, 0, []), (14, 0, 1, 0, []), (1, 2, 0, 0, []), (22, 2, 0, 0, []), (0, 2, 0, 0, []), (41, 0, 0, 0, [])]
/-- 247: HornBenchModel.argument(II)I -/
def am_c247 : List AmIns := [(0, 0, 3, 0, []), (0, 0, 3, 0, []), (24, 12, 25, 3, []), (0, 0, 3, 0, []), (24, 12, 22, 3, []), (0, 1, 0, 0, []), (32, 0, 0, 0, []), (0, 2, 0, 0, []), (8, 0, 0, 0, []), (32, 0, 0, 0, []), (40, 246, 2, 0, []), (41, 0, 0, 0, [])]
/-- 248: HornBenchModel.bind(II)V -/
def am_c248 : List AmIns := [(0, 0, 3, 0, []), (24, 12, 21, 3, []), (0, 1, 0, 0, []), (0, 2, 0, 0, []), (14, 0, 0, 0, []), (33, 62, 11, 0, []), (0, 0, 3, 0, []), (24, 12, 32, 3, []), (0, 0, 3, 0, []), (24, 12, 31, 0, []), (0, 1, 0, 0, []), (33, 61, 11, 0, []), (0, 0, 3, 0, []), (26, 0, 0, 0, []), (24, 12, 31, 0, []), (2, 0, 0, 1, []), (8, 0, 0, 0, []), (25, 12, 31, 0, []), (41, 0, 9, 0, [])]
/-- 249: HornBenchModel.undo(I)V -/
def am_c249 : List AmIns := [(0, 0, 3, 0, []), (24, 12, 31, 0, []), (0, 1, 0, 0, []), (19, 20, 5, 0, []), (0, 0, 3, 0, []), (26, 0, 0, 0, []), (24, 12, 31, 0, []), (2, 0, 0, 1, []), (8, 0, 1, 0, []), (25, 12, 31, 0, []), (0, 0, 3, 0, []), (24, 12, 21, 3, []), (0, 0, 3, 0, []), (24, 12, 32, 3, []), (0, 0, 3, 0, []), (24, 12, 31, 0, []), (32, 0, 0, 0, []), (3, 0, 0, (-1), []), (33, 62, 11, 0, []), (22, 0, 0, 0, []), (41, 0, 9, 0, [])]
/-- 250: HornBenchModel.standsIn(II)Z -/
def am_c250 : List AmIns := [(0, 0, 3, 0, []), (26, 0, 0, 0, []), (24, 12, 26, 0, []), (2, 0, 0, 1, []), (8, 0, 0, 0, []), (25, 12, 26, 0, []), (2, 0, 0, 1, []), (1, 3, 0, 0, []), (0, 0, 3, 0, []), (24, 12, 30, 3, []), (2, 0, 0, 0, []), (0, 2, 0, 0, []), (33, 61, 11, 0, []), (0, 0, 3, 0, []), (24, 12, 27, 3, []), (0, 2, 0, 0, []), (0, 0, 3, 0, []), (24, 12, 26, 0, []), (33, 61, 11, 0, []), (0, 3, 0, 0, []), (18, 68, 5, 0, []), (17, 3, 0, (-1), []), (0, 0, 3, 0, []), (24, 12, 30, 3, []), (0, 3, 0, 0, []), (32, 0, 0, 0, []), (1, 4, 0, 0, []), (0, 4, 0, 0, []), (0, 1, 0, 0, []), (19, 32, 1, 0, []), (2, 0, 0, 1, []), (41, 0, 10, 0, []), (2, 0, 0, 0, []), (1, 5, 0, 0, []), (0, 5, 0, 0, []), (0, 0, 3, 0, []), (24, 12, 23, 3, []), (0, 4, 0, 0, []), (32, 0, 0, 0, []), (19, 67, 3, 0, []), (0, 0, 3, 0, []), (0, 4, 0, 0, []), (0, 5, 0, 0, []), (40, 247, 3, 0, []), (1, 6, 0, 0, []), (0, 0, 3, 0, []), (24, 12, 27, 3, []), (0, 6, 0, 0, []), (32, 0, 0, 0, []), (0, 0, 3, 0, []), (24, 12, 26, 0, []), (19, 53, 1, 0, []), (22, 65, 0, 0, []), (0, 0, 3, 0, []), (24, 12, 27, 3, []), (0, 6, 0, 0, []), (0, 0, 3, 0, []), (24, 12, 26, 0, []), (33, 61, 11, 0, []), (0, 0, 3, 0, []), (24, 12, 30, 3, []), (0, 3, 0, 0, []), (0, 6, 0, 0, []), (33, 61, 11, 0, []), (17, 3, 0, 1, []), (17, 5, 0, 1, []), (22, 34, 0, 0, []), (22, 19, 0, 0, []), (2, 0, 0, 0, []), (41, 0, 10, 0, [])]
/-- 251: HornBenchModel.leader(I)I -/
def am_c251 : List AmIns := [(0, 1, 0, 0, []), (1, 2, 0, 0, []), (0, 0, 3, 0, []), (24, 12, 54, 3, []), (0, 2, 0, 0, []), (32, 0, 0, 0, []), (0, 0, 3, 0, []), (24, 12, 53, 0, []), (19, 21, 1, 0, []), (0, 0, 3, 0, []), (24, 12, 55, 3, []), (0, 2, 0, 0, []), (32, 0, 0, 0, []), (0, 2, 0, 0, []), (19, 21, 0, 0, []), (0, 0, 3, 0, []), (24, 12, 55, 3, []), (0, 2, 0, 0, []), (32, 0, 0, 0, []), (1, 2, 0, 0, []), (22, 2, 0, 0, []), (0, 2, 0, 0, []), (41, 0, 0, 0, [])]
/-- 252: HornBenchModel.join(II)V -/
def am_c252 : List AmIns := [(0, 0, 3, 0, []), (24, 12, 54, 3, []), (0, 1, 0, 0, []), (32, 0, 0, 0, []), (0, 0, 3, 0, []), (24, 12, 53, 0, []), (19, 18, 0, 0, []), (0, 0, 3, 0, []), (24, 12, 54, 3, []), (0, 1, 0, 0, []), (0, 0, 3, 0, []), (24, 12, 53, 0, []), (33, 61, 11, 0, []), (0, 0, 3, 0, []), (24, 12, 55, 3, []), (0, 1, 0, 0, []), (0, 1, 0, 0, []), (33, 61, 11, 0, []), (0, 0, 3, 0, []), (24, 12, 54, 3, []), (0, 2, 0, 0, []), (32, 0, 0, 0, []), (0, 0, 3, 0, []), (24, 12, 53, 0, []), (19, 36, 0, 0, []), (0, 0, 3, 0, []), (24, 12, 54, 3, []), (0, 2, 0, 0, []), (0, 0, 3, 0, []), (24, 12, 53, 0, []), (33, 61, 11, 0, []), (0, 0, 3, 0, []), (24, 12, 55, 3, []), (0, 2, 0, 0, []), (0, 2, 0, 0, []), (33, 61, 11, 0, []), (0, 0, 3, 0, []), (24, 12, 55, 3, []), (0, 0, 3, 0, []), (0, 2, 0, 0, []), (40, 251, 2, 0, []), (0, 0, 3, 0, []), (0, 1, 0, 0, []), (40, 251, 2, 0, []), (33, 61, 11, 0, []), (41, 0, 9, 0, [])]
/-- 253: HornBenchModel.areOne(IIZ)Z -/
def am_c253 : List AmIns := [(2, 0, 0, 1, []), (1, 4, 0, 0, []), (0, 0, 3, 0, []), (24, 12, 56, 3, []), (2, 0, 0, 0, []), (0, 1, 0, 0, []), (33, 61, 11, 0, []), (0, 0, 3, 0, []), (24, 12, 57, 3, []), (2, 0, 0, 0, []), (0, 2, 0, 0, []), (33, 61, 11, 0, []), (0, 4, 0, 0, []), (18, 163, 5, 0, []), (17, 4, 0, (-1), []), (0, 0, 3, 0, []), (0, 0, 3, 0, []), (24, 12, 56, 3, []), (0, 4, 0, 0, []), (32, 0, 0, 0, []), (40, 246, 2, 0, []), (1, 5, 0, 0, []), (0, 0, 3, 0, []), (0, 0, 3, 0, []), (24, 12, 57, 3, []), (0, 4, 0, 0, []), (32, 0, 0, 0, []), (40, 246, 2, 0, []), (1, 6, 0, 0, []), (0, 5, 0, 0, []), (0, 6, 0, 0, []), (19, 12, 0, 0, []), (0, 0, 3, 0, []), (0, 5, 0, 0, []), (40, 251, 2, 0, []), (0, 0, 3, 0, []), (0, 6, 0, 0, []), (40, 251, 2, 0, []), (19, 40, 1, 0, []), (22, 12, 0, 0, []), (0, 3, 0, 0, []), (18, 80, 0, 0, []), (0, 0, 3, 0, []), (24, 12, 20, 3, []), (0, 5, 0, 0, []), (32, 0, 0, 0, []), (18, 52, 0, 0, []), (0, 0, 3, 0, []), (24, 12, 20, 3, []), (0, 6, 0, 0, []), (32, 0, 0, 0, []), (18, 80, 1, 0, []), (0, 0, 3, 0, []), (24, 12, 20, 3, []), (0, 5, 0, 0, []), (32, 0, 0, 0, []), (18, 59, 1, 0, []), (0, 5, 0, 0, []), (22, 60, 0, 0, []), (0, 6, 0, 0, []), (1, 7, 0, 0, []), (0, 7, 0, 0, []), (0, 5, 0, 0, []), (19, 66, 1, 0, []), (0, 6, 0, 0, []), (22, 67, 0, 0, []), (0, 5, 0, 0, []), (1, 8, 0, 0, []), (0, 0, 3, 0, []), (0, 7, 0, 0, []), (0, 8, 0, 0, []), (40, 250, 3, 0, []), (18, 75, 0, 0, []), (2, 0, 0, 0, []), (41, 0, 10, 0, []), (0, 0, 3, 0, []), (0, 7, 0, 0, []), (0, 8, 0, 0, []), (40, 248, 3, 0, []), (22, 12, 0, 0, []), (0, 0, 3, 0, []), (24, 12, 20, 3, []), (0, 5, 0, 0, []), (32, 0, 0, 0, []), (0, 0, 3, 0, []), (24, 12, 20, 3, []), (0, 6, 0, 0, []), (32, 0, 0, 0, []), (19, 113, 1, 0, []), (0, 0, 3, 0, []), (24, 12, 20, 3, []), (0, 5, 0, 0, []), (32, 0, 0, 0, []), (18, 113, 0, 0, []), (0, 0, 3, 0, []), (24, 12, 21, 3, []), (0, 5, 0, 0, []), (32, 0, 1, 0, []), (0, 0, 3, 0, []), (24, 12, 21, 3, []), (0, 6, 0, 0, []), (32, 0, 1, 0, []), (13, 0, 0, 0, []), (18, 113, 1, 0, []), (0, 0, 3, 0, []), (24, 12, 23, 3, []), (0, 5, 0, 0, []), (32, 0, 0, 0, []), (0, 0, 3, 0, []), (24, 12, 23, 3, []), (0, 6, 0, 0, []), (32, 0, 0, 0, []), (19, 115, 0, 0, []), (2, 0, 0, 0, []), (41, 0, 10, 0, []), (0, 0, 3, 0, []), (24, 12, 23, 3, []), (0, 5, 0, 0, []), (32, 0, 0, 0, []), (18, 124, 5, 0, []), (0, 0, 3, 0, []), (0, 5, 0, 0, []), (0, 6, 0, 0, []), (40, 252, 3, 0, []), (0, 0, 3, 0, []), (24, 12, 23, 3, []), (0, 5, 0, 0, []), (32, 0, 0, 0, []), (2, 0, 0, 1, []), (8, 0, 1, 0, []), (1, 7, 0, 0, []), (0, 7, 0, 0, []), (18, 162, 2, 0, []), (0, 0, 3, 0, []), (24, 12, 56, 3, []), (0, 4, 0, 0, []), (0, 0, 3, 0, []), (24, 12, 25, 3, []), (0, 0, 3, 0, []), (24, 12, 22, 3, []), (0, 5, 0, 0, []), (32, 0, 0, 0, []), (0, 7, 0, 0, []), (8, 0, 0, 0, []), (32, 0, 0, 0, []), (33, 61, 11, 0, []), (0, 0, 3, 0, []), (24, 12, 57, 3, []), (0, 4, 0, 0, []), (0, 0, 3, 0, []), (24, 12, 25, 3, []), (0, 0, 3, 0, []), (24, 12, 22, 3, []), (0, 6, 0, 0, []), (32, 0, 0, 0, []), (0, 7, 0, 0, []), (8, 0, 0, 0, []), (32, 0, 0, 0, []), (33, 61, 11, 0, []), (17, 4, 0, 1, []), (17, 7, 0, (-1), []), (22, 131, 0, 0, []), (22, 12, 0, 0, []), (2, 0, 0, 1, []), (41, 0, 10, 0, [])]
/-- 254: HornBenchModel.unify(II)Z -/
def am_c254 : List AmIns := [(0, 0, 3, 0, []), (26, 0, 0, 0, []), (24, 12, 53, 0, []), (2, 0, 0, 1, []), (8, 0, 0, 0, []), (25, 12, 53, 0, []), (0, 0, 3, 0, []), (0, 1, 0, 0, []), (0, 2, 0, 0, []), (2, 0, 0, 1, []), (40, 253, 4, 0, []), (41, 0, 10, 0, [])]
/-- 255: HornBenchModel.isSameNow(II)Z -/
def am_c255 : List AmIns := [(0, 0, 3, 0, []), (26, 0, 0, 0, []), (24, 12, 53, 0, []), (2, 0, 0, 1, []), (8, 0, 0, 0, []), (25, 12, 53, 0, []), (0, 0, 3, 0, []), (0, 1, 0, 0, []), (0, 2, 0, 0, []), (2, 0, 0, 0, []), (40, 253, 4, 0, []), (41, 0, 10, 0, [])]
/-- 256: HornBenchModel.value(I)I -/
def am_c256 : List AmIns := [(0, 0, 3, 0, []), (26, 0, 0, 0, []), (24, 12, 26, 0, []), (2, 0, 0, 1, []), (8, 0, 0, 0, []), (25, 12, 26, 0, []), (0, 0, 3, 0, []), (2, 0, 0, 0, []), (25, 12, 58, 10, []), (0, 0, 3, 0, []), (0, 0, 3, 0, []), (0, 1, 0, 0, []), (40, 246, 2, 0, []), (2, 0, 0, 0, []), (40, 258, 3, 0, []), (1, 2, 0, 0, []), (0, 0, 3, 0, []), (0, 0, 3, 0, []), (24, 12, 58, 10, []), (18, 28, 1, 0, []), (0, 0, 3, 0, []), (24, 12, 29, 3, []), (0, 0, 3, 0, []), (0, 1, 0, 0, []), (40, 246, 2, 0, []), (32, 0, 0, 0, []), (2, 0, 0, 60, []), (19, 30, 5, 0, []), (2, 0, 0, 1, []), (22, 31, 0, 0, []), (2, 0, 0, 0, []), (25, 12, 58, 10, []), (0, 2, 0, 0, []), (41, 0, 0, 0, [])]
/-- 257: HornBenchModel.fault()I -/
def am_c257 : List AmIns := [(0, 0, 3, 0, []), (2, 0, 0, 1, []), (25, 12, 58, 10, []), (2, 0, 0, 0, []), (41, 0, 0, 0, [])]
/-- 258: HornBenchModel.worth(II)I -/
def am_c258 : List AmIns := [(0, 0, 3, 0, []), (24, 12, 27, 3, []), (0, 1, 0, 0, []), (32, 0, 0, 0, []), (0, 0, 3, 0, []), (24, 12, 26, 0, []), (19, 12, 1, 0, []), (0, 0, 3, 0, []), (24, 12, 28, 3, []), (0, 1, 0, 0, []), (32, 0, 0, 0, []), (41, 0, 0, 0, []), (0, 0, 3, 0, []), (24, 12, 20, 3, []), (0, 1, 0, 0, []), (32, 0, 0, 0, []), (2, 0, 0, 1, []), (19, 28, 1, 0, []), (0, 0, 3, 0, []), (0, 1, 0, 0, []), (0, 0, 3, 0, []), (24, 12, 21, 3, []), (0, 1, 0, 0, []), (32, 0, 1, 0, []), (14, 0, 1, 0, []), (2, 0, 0, 0, []), (40, 259, 4, 0, []), (41, 0, 0, 0, []), (0, 0, 3, 0, []), (24, 12, 20, 3, []), (0, 1, 0, 0, []), (32, 0, 0, 0, []), (2, 0, 0, 2, []), (19, 59, 1, 0, []), (0, 0, 3, 0, []), (24, 12, 23, 3, []), (0, 1, 0, 0, []), (32, 0, 0, 0, []), (2, 0, 0, 2, []), (19, 59, 1, 0, []), (0, 0, 3, 0, []), (24, 12, 21, 3, []), (0, 1, 0, 0, []), (32, 0, 1, 0, []), (14, 0, 6, 0, []), (14, 0, 1, 0, []), (2, 0, 0, 1, []), (2, 0, 0, 5, []), (40, 188, 3, 2, []), (18, 59, 0, 0, []), (0, 0, 3, 0, []), (24, 12, 21, 3, []), (0, 1, 0, 0, []), (32, 0, 1, 0, []), (3, 0, 0, 0, []), (13, 0, 0, 0, []), (18, 59, 3, 0, []), (2, 0, 0, 1, []), (22, 60, 0, 0, []), (2, 0, 0, 0, []), (1, 3, 0, 0, []), (0, 3, 0, 0, []), (18, 66, 0, 0, []), (0, 2, 0, 0, []), (2, 0, 0, 60, []), (19, 69, 1, 0, []), (0, 0, 3, 0, []), (40, 257, 1, 0, []), (41, 0, 0, 0, []), (0, 0, 3, 0, []), (0, 1, 0, 0, []), (2, 0, 0, 0, []), (40, 247, 3, 0, []), (1, 4, 0, 0, []), (0, 0, 3, 0, []), (0, 4, 0, 0, []), (0, 2, 0, 0, []), (2, 0, 0, 1, []), (8, 0, 0, 0, []), (40, 258, 3, 0, []), (1, 5, 0, 0, []), (0, 0, 3, 0, []), (24, 12, 58, 10, []), (18, 86, 0, 0, []), (2, 0, 0, 0, []), (41, 0, 0, 0, []), (0, 0, 3, 0, []), (0, 1, 0, 0, []), (2, 0, 0, 1, []), (40, 247, 3, 0, []), (1, 6, 0, 0, []), (0, 0, 3, 0, []), (0, 6, 0, 0, []), (0, 2, 0, 0, []), (2, 0, 0, 1, []), (8, 0, 0, 0, []), (40, 258, 3, 0, []), (1, 7, 0, 0, []), (0, 0, 3, 0, []), (24, 12, 58, 10, []), (18, 103, 0, 0, []), (2, 0, 0, 0, []), (41, 0, 0, 0, []), (0, 0, 3, 0, []), (24, 12, 21, 3, []), (0, 1, 0, 0, []), (32, 0, 1, 0, []), (1, 8, 1, 0, []), (0, 8, 1, 0, []), (3, 0, 0, (-4), []), (13, 0, 0, 0, []), (18, 116, 0, 0, []), (0, 8, 1, 0, []), (3, 0, 0, (-5), []), (13, 0, 0, 0, []), (18, 121, 1, 0, []), (0, 7, 0, 0, []), (18, 121, 1, 0, []), (0, 0, 3, 0, []), (40, 257, 1, 0, []), (41, 0, 0, 0, []), (0, 8, 1, 0, []), (3, 0, 0, (-1), []), (13, 0, 0, 0, []), (18, 129, 1, 0, []), (0, 5, 0, 0, []), (0, 7, 0, 0, []), (8, 0, 0, 0, []), (22, 156, 0, 0, []), (0, 8, 1, 0, []), (3, 0, 0, (-2), []), (13, 0, 0, 0, []), (18, 137, 1, 0, []), (0, 5, 0, 0, []), (0, 7, 0, 0, []), (8, 0, 1, 0, []), (22, 156, 0, 0, []), (0, 8, 1, 0, []), (3, 0, 0, (-3), []), (13, 0, 0, 0, []), (18, 145, 1, 0, []), (0, 5, 0, 0, []), (0, 7, 0, 0, []), (8, 0, 2, 0, []), (22, 156, 0, 0, []), (0, 8, 1, 0, []), (3, 0, 0, (-4), []), (13, 0, 0, 0, []), (18, 153, 1, 0, []), (0, 5, 0, 0, []), (0, 7, 0, 0, []), (8, 0, 3, 0, []), (22, 156, 0, 0, []), (0, 5, 0, 0, []), (0, 7, 0, 0, []), (8, 0, 4, 0, []), (1, 10, 0, 0, []), (0, 0, 3, 0, []), (0, 1, 0, 0, []), (0, 10, 0, 0, []), (2, 0, 0, 1, []), (0, 0, 3, 0, []), (24, 12, 29, 3, []), (0, 4, 0, 0, []), (32, 0, 0, 0, []), (0, 0, 3, 0, []), (24, 12, 29, 3, []), (0, 6, 0, 0, []), (32, 0, 0, 0, []), (38, 0, 0, 0, []), (8, 0, 0, 0, []), (40, 259, 4, 0, []), (41, 0, 0, 0, [])]
/-- 259: HornBenchModel.keep(III)I -/
def am_c259 : List AmIns := [(0, 0, 3, 0, []), (24, 12, 27, 3, []), (0, 1, 0, 0, []), (0, 0, 3, 0, []), (24, 12, 26, 0, []), (33, 61, 11, 0, []), (0, 0, 3, 0, []), (24, 12, 28, 3, []), (0, 1, 0, 0, []), (0, 2, 0, 0, []), (33, 61, 11, 0, []), (0, 0, 3, 0, []), (24, 12, 29, 3, []), (0, 1, 0, 0, []), (0, 3, 0, 0, []), (33, 61, 11, 0, []), (0, 2, 0, 0, []), (41, 0, 0, 0, [])]
/-- 260: HornBenchModel.ask()I -/
def am_c260 : List AmIns := [(0, 0, 3, 0, []), (2, 0, 0, 0, []), (25, 12, 0, 0, []), (0, 0, 3, 0, []), (2, 0, 0, (-1), []), (25, 12, 3, 0, []), (0, 0, 3, 0, []), (40, 228, 1, 0, []), (0, 0, 3, 0, []), (40, 196, 1, 0, []), (0, 0, 3, 0, []), (40, 207, 1, 0, []), (1, 1, 0, 0, []), (0, 0, 3, 0, []), (2, 0, 0, 0, []), (25, 12, 2, 0, []), (0, 1, 0, 0, []), (18, 27, 1, 0, []), (0, 0, 3, 0, []), (2, 0, 0, 1, []), (0, 0, 3, 0, []), (24, 12, 5, 3, []), (0, 0, 3, 0, []), (24, 12, 7, 0, []), (32, 0, 0, 0, []), (40, 229, 3, 0, []), (41, 0, 0, 0, []), (0, 0, 3, 0, []), (2, 0, 0, 2001, []), (25, 12, 52, 0, []), (0, 0, 3, 0, []), (2, 0, 0, 0, []), (25, 12, 7, 0, []), (0, 0, 3, 0, []), (28, 11, 18, 0, []), (26, 0, 0, 0, []), (40, 184, 1, 21, []), (25, 12, 51, 3, []), (0, 0, 3, 0, []), (24, 12, 51, 3, []), (0, 0, 3, 0, []), (40, 226, 1, 0, []), (25, 11, 16, 0, []), (0, 0, 3, 0, []), (24, 12, 52, 0, []), (2, 0, 0, 2000, []), (19, 53, 4, 0, []), (0, 0, 3, 0, []), (2, 0, 0, 2, []), (0, 0, 3, 0, []), (24, 12, 52, 0, []), (40, 229, 3, 0, []), (41, 0, 0, 0, []), (0, 0, 3, 0, []), (0, 0, 3, 0, []), (24, 12, 51, 3, []), (25, 12, 13, 3, []), (0, 0, 3, 0, []), (2, 0, 0, 0, []), (25, 12, 15, 0, []), (0, 0, 3, 0, []), (2, 0, 0, 0, []), (25, 12, 19, 0, []), (0, 0, 3, 0, []), (2, 0, 0, 0, []), (25, 12, 24, 0, []), (0, 0, 3, 0, []), (2, 0, 0, 0, []), (25, 12, 31, 0, []), (0, 0, 3, 0, []), (2, 0, 0, 0, []), (25, 12, 33, 0, []), (2, 0, 0, 0, []), (1, 2, 0, 0, []), (0, 2, 0, 0, []), (0, 0, 3, 0, []), (24, 12, 13, 3, []), (24, 11, 8, 0, []), (19, 90, 3, 0, []), (0, 0, 3, 0, []), (24, 12, 14, 3, []), (0, 2, 0, 0, []), (0, 0, 3, 0, []), (2, 0, 0, 0, []), (3, 0, 0, (-1), []), (2, 0, 0, 0, []), (40, 244, 4, 0, []), (33, 61, 11, 0, []), (17, 2, 0, 1, []), (22, 74, 0, 0, []), (0, 0, 3, 0, []), (0, 0, 3, 0, []), (0, 0, 3, 0, []), (24, 12, 13, 3, []), (0, 0, 3, 0, []), (24, 12, 13, 3, []), (24, 11, 16, 0, []), (0, 0, 3, 0, []), (24, 12, 14, 3, []), (37, 0, 0, 0, []), (34, 0, 0, 0, []), (2, 0, 0, 0, []), (2, 0, 0, (-1), []), (40, 262, 6, 0, []), (25, 12, 40, 0, []), (2, 0, 0, 0, []), (41, 0, 0, 0, [])]
/-- 261: HornBenchModel.rowCell(III)I -/
def am_c261 : List AmIns := [(0, 0, 3, 0, []), (24, 12, 33, 0, []), (1, 4, 0, 0, []), (0, 0, 3, 0, []), (24, 12, 34, 3, []), (0, 4, 0, 0, []), (0, 1, 0, 0, []), (33, 61, 11, 0, []), (0, 0, 3, 0, []), (24, 12, 39, 3, []), (0, 4, 0, 0, []), (0, 2, 0, 0, []), (33, 61, 11, 0, []), (0, 0, 3, 0, []), (24, 12, 38, 3, []), (0, 4, 0, 0, []), (0, 3, 0, 0, []), (33, 61, 11, 0, []), (0, 0, 3, 0, []), (26, 0, 0, 0, []), (24, 12, 33, 0, []), (2, 0, 0, 1, []), (8, 0, 0, 0, []), (25, 12, 33, 0, []), (0, 4, 0, 0, []), (41, 0, 0, 0, [])]
/-- 262: HornBenchModel.rowOf(LHornBenchModel$Clause;I[III)I -/
def am_c262 : List AmIns := [(0, 2, 0, 0, []), (2, 0, 0, (-1), []), (19, 5, 1, 0, []), (0, 5, 0, 0, []), (41, 0, 0, 0, []), (2, 0, 0, (-1), []), (1, 6, 0, 0, []), (2, 0, 0, (-1), []), (1, 7, 0, 0, []), (0, 2, 0, 0, []), (1, 8, 0, 0, []), (0, 8, 0, 0, []), (2, 0, 0, (-1), []), (19, 112, 0, 0, []), (0, 1, 3, 0, []), (24, 11, 11, 3, []), (0, 8, 0, 0, []), (32, 0, 0, 0, []), (1, 9, 0, 0, []), (0, 0, 3, 0, []), (0, 9, 0, 0, []), (0, 4, 0, 0, []), (2, 0, 0, (-1), []), (40, 261, 4, 0, []), (1, 10, 0, 0, []), (0, 0, 3, 0, []), (24, 12, 37, 3, []), (0, 10, 0, 0, []), (0, 9, 0, 0, []), (2, 0, 0, 4, []), (19, 42, 1, 0, []), (0, 0, 3, 0, []), (0, 1, 3, 0, []), (0, 1, 3, 0, []), (24, 11, 15, 3, []), (0, 8, 0, 0, []), (32, 0, 0, 0, []), (0, 3, 3, 0, []), (2, 0, 0, (-1), []), (2, 0, 0, (-1), []), (40, 262, 6, 0, []), (22, 43, 0, 0, []), (2, 0, 0, (-1), []), (33, 61, 11, 0, []), (0, 9, 0, 0, []), (18, 52, 0, 0, []), (0, 9, 0, 0, []), (2, 0, 0, 5, []), (19, 52, 0, 0, []), (0, 9, 0, 0, []), (2, 0, 0, 7, []), (19, 54, 2, 0, []), (2, 0, 0, 1, []), (22, 55, 0, 0, []), (2, 0, 0, 0, []), (1, 11, 0, 0, []), (0, 0, 3, 0, []), (24, 12, 35, 3, []), (0, 10, 0, 0, []), (0, 11, 0, 0, []), (18, 70, 0, 0, []), (0, 0, 3, 0, []), (0, 1, 3, 0, []), (0, 1, 3, 0, []), (24, 11, 12, 3, []), (0, 8, 0, 0, []), (32, 0, 0, 0, []), (0, 3, 3, 0, []), (40, 245, 4, 0, []), (22, 71, 0, 0, []), (2, 0, 0, (-1), []), (33, 61, 11, 0, []), (0, 0, 3, 0, []), (24, 12, 36, 3, []), (0, 10, 0, 0, []), (0, 9, 0, 0, []), (2, 0, 0, 7, []), (19, 87, 2, 0, []), (0, 0, 3, 0, []), (0, 1, 3, 0, []), (0, 1, 3, 0, []), (24, 11, 13, 3, []), (0, 8, 0, 0, []), (32, 0, 0, 0, []), (0, 3, 3, 0, []), (40, 245, 4, 0, []), (22, 88, 0, 0, []), (2, 0, 0, (-1), []), (33, 61, 11, 0, []), (0, 7, 0, 0, []), (2, 0, 0, (-1), []), (19, 97, 0, 0, []), (0, 0, 3, 0, []), (24, 12, 38, 3, []), (0, 7, 0, 0, []), (0, 10, 0, 0, []), (33, 61, 11, 0, []), (0, 6, 0, 0, []), (2, 0, 0, (-1), []), (19, 102, 1, 0, []), (0, 10, 0, 0, []), (22, 103, 0, 0, []), (0, 6, 0, 0, []), (1, 6, 0, 0, []), (0, 10, 0, 0, []), (1, 7, 0, 0, []), (0, 1, 3, 0, []), (24, 11, 14, 3, []), (0, 8, 0, 0, []), (32, 0, 0, 0, []), (1, 8, 0, 0, []), (22, 11, 0, 0, []), (0, 0, 3, 0, []), (24, 12, 38, 3, []), (0, 7, 0, 0, []), (0, 5, 0, 0, []), (33, 61, 11, 0, []), (0, 6, 0, 0, []), (41, 0, 0, 0, [])]
/-- 263: HornBenchModel.innerRow(III)I -/
def am_c263 : List AmIns := [(2, 0, 0, (-1), []), (1, 4, 0, 0, []), (2, 0, 0, (-1), []), (1, 5, 0, 0, []), (0, 1, 0, 0, []), (1, 6, 0, 0, []), (0, 6, 0, 0, []), (2, 0, 0, (-1), []), (19, 65, 0, 0, []), (0, 0, 3, 0, []), (0, 0, 3, 0, []), (24, 12, 34, 3, []), (0, 6, 0, 0, []), (32, 0, 0, 0, []), (0, 2, 0, 0, []), (2, 0, 0, (-1), []), (40, 261, 4, 0, []), (1, 7, 0, 0, []), (0, 0, 3, 0, []), (24, 12, 35, 3, []), (0, 7, 0, 0, []), (0, 0, 3, 0, []), (24, 12, 35, 3, []), (0, 6, 0, 0, []), (32, 0, 0, 0, []), (33, 61, 11, 0, []), (0, 0, 3, 0, []), (24, 12, 36, 3, []), (0, 7, 0, 0, []), (0, 0, 3, 0, []), (24, 12, 36, 3, []), (0, 6, 0, 0, []), (32, 0, 0, 0, []), (33, 61, 11, 0, []), (0, 0, 3, 0, []), (24, 12, 37, 3, []), (0, 7, 0, 0, []), (0, 0, 3, 0, []), (24, 12, 37, 3, []), (0, 6, 0, 0, []), (32, 0, 0, 0, []), (33, 61, 11, 0, []), (0, 5, 0, 0, []), (2, 0, 0, (-1), []), (19, 50, 0, 0, []), (0, 0, 3, 0, []), (24, 12, 38, 3, []), (0, 5, 0, 0, []), (0, 7, 0, 0, []), (33, 61, 11, 0, []), (0, 4, 0, 0, []), (2, 0, 0, (-1), []), (19, 55, 1, 0, []), (0, 7, 0, 0, []), (22, 56, 0, 0, []), (0, 4, 0, 0, []), (1, 4, 0, 0, []), (0, 7, 0, 0, []), (1, 5, 0, 0, []), (0, 0, 3, 0, []), (24, 12, 38, 3, []), (0, 6, 0, 0, []), (32, 0, 0, 0, []), (1, 6, 0, 0, []), (22, 6, 0, 0, []), (0, 0, 3, 0, []), (24, 12, 38, 3, []), (0, 5, 0, 0, []), (0, 3, 0, 0, []), (33, 61, 11, 0, []), (0, 4, 0, 0, []), (41, 0, 0, 0, [])]
/-- 264: HornBenchModel.choose(ZIIIIII)V -/
def am_c264 : List AmIns := [(0, 0, 3, 0, []), (24, 12, 42, 3, []), (0, 0, 3, 0, []), (24, 12, 41, 0, []), (0, 1, 0, 0, []), (33, 64, 11, 0, []), (0, 0, 3, 0, []), (24, 12, 43, 3, []), (0, 0, 3, 0, []), (24, 12, 41, 0, []), (0, 0, 3, 0, []), (24, 12, 40, 0, []), (33, 61, 11, 0, []), (0, 0, 3, 0, []), (24, 12, 44, 3, []), (0, 0, 3, 0, []), (24, 12, 41, 0, []), (0, 2, 0, 0, []), (33, 61, 11, 0, []), (0, 0, 3, 0, []), (24, 12, 45, 3, []), (0, 0, 3, 0, []), (24, 12, 41, 0, []), (0, 3, 0, 0, []), (33, 61, 11, 0, []), (0, 0, 3, 0, []), (24, 12, 46, 3, []), (0, 0, 3, 0, []), (24, 12, 41, 0, []), (0, 4, 0, 0, []), (33, 61, 11, 0, []), (0, 0, 3, 0, []), (24, 12, 47, 3, []), (0, 0, 3, 0, []), (24, 12, 41, 0, []), (0, 5, 0, 0, []), (33, 61, 11, 0, []), (0, 0, 3, 0, []), (24, 12, 48, 3, []), (0, 0, 3, 0, []), (24, 12, 41, 0, []), (0, 6, 0, 0, []), (33, 61, 11, 0, []), (0, 0, 3, 0, []), (24, 12, 49, 3, []), (0, 0, 3, 0, []), (24, 12, 41, 0, []), (0, 7, 0, 0, []), (33, 61, 11, 0, []), (0, 0, 3, 0, []), (26, 0, 0, 0, []), (24, 12, 41, 0, []), (2, 0, 0, 1, []), (8, 0, 0, 0, []), (25, 12, 41, 0, []), (41, 0, 9, 0, [])]
/-- 265: HornBenchModel.isOf(II)Z -/
def am_c265 : List AmIns := [(0, 0, 3, 0, []), (24, 12, 10, 3, []), (0, 1, 0, 0, []), (32, 0, 3, 0, []), (40, 235, 1, 2, []), (0, 0, 3, 0, []), (24, 12, 21, 3, []), (0, 2, 0, 0, []), (32, 0, 1, 0, []), (13, 0, 0, 0, []), (18, 23, 1, 0, []), (0, 0, 3, 0, []), (24, 12, 10, 3, []), (0, 1, 0, 0, []), (32, 0, 3, 0, []), (40, 236, 1, 2, []), (0, 0, 3, 0, []), (24, 12, 23, 3, []), (0, 2, 0, 0, []), (32, 0, 0, 0, []), (19, 23, 1, 0, []), (2, 0, 0, 1, []), (22, 24, 0, 0, []), (2, 0, 0, 0, []), (41, 0, 10, 0, [])]
/-- 266: HornBenchModel.nextOf(II)I -/
def am_c266 : List AmIns := [(0, 2, 0, 0, []), (1, 3, 0, 0, []), (0, 3, 0, 0, []), (0, 0, 3, 0, []), (24, 12, 9, 0, []), (19, 15, 3, 0, []), (0, 0, 3, 0, []), (0, 3, 0, 0, []), (0, 1, 0, 0, []), (40, 265, 3, 0, []), (18, 13, 0, 0, []), (0, 3, 0, 0, []), (41, 0, 0, 0, []), (17, 3, 0, 1, []), (22, 2, 0, 0, []), (2, 0, 0, (-1), []), (41, 0, 0, 0, [])]
/-- 267: HornBenchModel.heads(II)Z -/
def am_c267 : List AmIns := [(0, 0, 3, 0, []), (24, 12, 19, 0, []), (1, 3, 0, 0, []), (0, 0, 3, 0, []), (24, 12, 24, 0, []), (1, 4, 0, 0, []), (0, 0, 3, 0, []), (24, 12, 31, 0, []), (1, 5, 0, 0, []), (2, 0, 0, 0, []), (1, 6, 0, 0, []), (0, 6, 0, 0, []), (2, 0, 0, 8, []), (19, 21, 3, 0, []), (0, 0, 3, 0, []), (24, 12, 59, 3, []), (0, 6, 0, 0, []), (2, 0, 0, (-1), []), (33, 61, 11, 0, []), (17, 6, 0, 1, []), (22, 11, 0, 0, []), (0, 0, 3, 0, []), (0, 0, 3, 0, []), (0, 0, 3, 0, []), (24, 12, 10, 3, []), (0, 1, 0, 0, []), (32, 0, 3, 0, []), (0, 0, 3, 0, []), (24, 12, 10, 3, []), (0, 1, 0, 0, []), (32, 0, 3, 0, []), (24, 11, 7, 0, []), (0, 0, 3, 0, []), (24, 12, 59, 3, []), (40, 245, 4, 0, []), (0, 2, 0, 0, []), (40, 254, 3, 0, []), (18, 40, 0, 0, []), (2, 0, 0, 1, []), (41, 0, 10, 0, []), (0, 0, 3, 0, []), (0, 5, 0, 0, []), (40, 249, 2, 0, []), (0, 0, 3, 0, []), (0, 3, 0, 0, []), (25, 12, 19, 0, []), (0, 0, 3, 0, []), (0, 4, 0, 0, []), (25, 12, 24, 0, []), (2, 0, 0, 0, []), (41, 0, 10, 0, [])]
/-- 268: HornBenchModel.use(III)V -/
def am_c268 : List AmIns := [(0, 0, 3, 0, []), (24, 12, 10, 3, []), (0, 1, 0, 0, []), (32, 0, 3, 0, []), (26, 0, 0, 0, []), (24, 11, 17, 0, []), (2, 0, 0, 1, []), (8, 0, 0, 0, []), (25, 11, 17, 0, []), (0, 0, 3, 0, []), (0, 0, 3, 0, []), (0, 0, 3, 0, []), (24, 12, 10, 3, []), (0, 1, 0, 0, []), (32, 0, 3, 0, []), (0, 0, 3, 0, []), (24, 12, 10, 3, []), (0, 1, 0, 0, []), (32, 0, 3, 0, []), (24, 11, 16, 0, []), (0, 0, 3, 0, []), (24, 12, 59, 3, []), (0, 2, 0, 0, []), (0, 3, 0, 0, []), (40, 262, 6, 0, []), (25, 12, 40, 0, []), (41, 0, 9, 0, [])]
/-- 269: HornBenchModel.call(I)Z -/
def am_c269 : List AmIns := [(0, 0, 3, 0, []), (24, 12, 31, 0, []), (1, 2, 0, 0, []), (0, 0, 3, 0, []), (24, 12, 19, 0, []), (1, 3, 0, 0, []), (0, 0, 3, 0, []), (24, 12, 24, 0, []), (1, 4, 0, 0, []), (0, 0, 3, 0, []), (24, 12, 33, 0, []), (1, 5, 0, 0, []), (0, 0, 3, 0, []), (24, 12, 40, 0, []), (1, 6, 0, 0, []), (0, 0, 3, 0, []), (0, 1, 0, 0, []), (2, 0, 0, 0, []), (40, 266, 3, 0, []), (1, 7, 0, 0, []), (0, 7, 0, 0, []), (2, 0, 0, (-1), []), (19, 66, 0, 0, []), (0, 0, 3, 0, []), (0, 7, 0, 0, []), (0, 1, 0, 0, []), (40, 267, 3, 0, []), (18, 29, 1, 0, []), (22, 58, 0, 0, []), (0, 0, 3, 0, []), (24, 12, 41, 0, []), (1, 8, 0, 0, []), (0, 0, 3, 0, []), (0, 1, 0, 0, []), (0, 7, 0, 0, []), (2, 0, 0, 1, []), (8, 0, 0, 0, []), (40, 266, 3, 0, []), (1, 9, 0, 0, []), (0, 9, 0, 0, []), (2, 0, 0, (-1), []), (19, 51, 0, 0, []), (0, 0, 3, 0, []), (2, 0, 0, 0, []), (0, 1, 0, 0, []), (0, 9, 0, 0, []), (0, 2, 0, 0, []), (0, 3, 0, 0, []), (0, 4, 0, 0, []), (0, 5, 0, 0, []), (40, 264, 8, 0, []), (0, 0, 3, 0, []), (0, 7, 0, 0, []), (0, 8, 0, 0, []), (0, 6, 0, 0, []), (40, 268, 4, 0, []), (2, 0, 0, 1, []), (41, 0, 10, 0, []), (0, 0, 3, 0, []), (0, 1, 0, 0, []), (0, 7, 0, 0, []), (2, 0, 0, 1, []), (8, 0, 0, 0, []), (40, 266, 3, 0, []), (1, 7, 0, 0, []), (22, 20, 0, 0, []), (2, 0, 0, 0, []), (41, 0, 10, 0, [])]
/-- 270: HornBenchModel.goOn()V -/
def am_c270 : List AmIns := [(0, 0, 3, 0, []), (24, 12, 41, 0, []), (2, 0, 0, 1, []), (8, 0, 1, 0, []), (1, 1, 0, 0, []), (0, 0, 3, 0, []), (24, 12, 44, 3, []), (0, 1, 0, 0, []), (32, 0, 0, 0, []), (1, 2, 0, 0, []), (0, 0, 3, 0, []), (24, 12, 45, 3, []), (0, 1, 0, 0, []), (32, 0, 0, 0, []), (1, 3, 0, 0, []), (0, 0, 3, 0, []), (0, 3, 0, 0, []), (0, 2, 0, 0, []), (40, 267, 3, 0, []), (27, 0, 0, 0, []), (0, 0, 3, 0, []), (0, 2, 0, 0, []), (0, 3, 0, 0, []), (2, 0, 0, 1, []), (8, 0, 0, 0, []), (40, 266, 3, 0, []), (1, 4, 0, 0, []), (0, 0, 3, 0, []), (24, 12, 43, 3, []), (0, 1, 0, 0, []), (32, 0, 0, 0, []), (1, 5, 0, 0, []), (0, 4, 0, 0, []), (2, 0, 0, (-1), []), (19, 42, 1, 0, []), (0, 0, 3, 0, []), (26, 0, 0, 0, []), (24, 12, 41, 0, []), (2, 0, 0, 1, []), (8, 0, 1, 0, []), (25, 12, 41, 0, []), (22, 47, 0, 0, []), (0, 0, 3, 0, []), (24, 12, 45, 3, []), (0, 1, 0, 0, []), (0, 4, 0, 0, []), (33, 61, 11, 0, []), (0, 0, 3, 0, []), (0, 3, 0, 0, []), (0, 1, 0, 0, []), (0, 5, 0, 0, []), (40, 268, 4, 0, []), (41, 0, 9, 0, [])]
/-- 271: HornBenchModel.canGoOn()Z -/
def am_c271 : List AmIns := [(0, 0, 3, 0, []), (24, 12, 41, 0, []), (2, 0, 0, 1, []), (8, 0, 1, 0, []), (1, 1, 0, 0, []), (0, 0, 3, 0, []), (24, 12, 45, 3, []), (0, 1, 0, 0, []), (32, 0, 0, 0, []), (1, 2, 0, 0, []), (0, 2, 0, 0, []), (2, 0, 0, (-1), []), (19, 58, 0, 0, []), (0, 0, 3, 0, []), (24, 12, 19, 0, []), (1, 3, 0, 0, []), (0, 0, 3, 0, []), (24, 12, 24, 0, []), (1, 4, 0, 0, []), (0, 0, 3, 0, []), (24, 12, 31, 0, []), (1, 5, 0, 0, []), (0, 0, 3, 0, []), (0, 2, 0, 0, []), (0, 0, 3, 0, []), (24, 12, 44, 3, []), (0, 1, 0, 0, []), (32, 0, 0, 0, []), (40, 267, 3, 0, []), (18, 31, 1, 0, []), (22, 47, 0, 0, []), (0, 0, 3, 0, []), (0, 5, 0, 0, []), (40, 249, 2, 0, []), (0, 0, 3, 0, []), (0, 3, 0, 0, []), (25, 12, 19, 0, []), (0, 0, 3, 0, []), (0, 4, 0, 0, []), (25, 12, 24, 0, []), (0, 0, 3, 0, []), (24, 12, 45, 3, []), (0, 1, 0, 0, []), (0, 2, 0, 0, []), (33, 61, 11, 0, []), (2, 0, 0, 1, []), (41, 0, 10, 0, []), (0, 0, 3, 0, []), (0, 0, 3, 0, []), (24, 12, 44, 3, []), (0, 1, 0, 0, []), (32, 0, 0, 0, []), (0, 2, 0, 0, []), (2, 0, 0, 1, []), (8, 0, 0, 0, []), (40, 266, 3, 0, []), (1, 2, 0, 0, []), (22, 10, 0, 0, []), (2, 0, 0, 0, []), (41, 0, 10, 0, [])]
/-- 272: HornBenchModel.compared(III)Z -/
def am_c272 : List AmIns := [(0, 1, 0, 0, []), (2, 0, 0, 10, []), (19, 10, 1, 0, []), (0, 2, 0, 0, []), (0, 3, 0, 0, []), (19, 8, 3, 0, []), (2, 0, 0, 1, []), (22, 36, 0, 0, []), (2, 0, 0, 0, []), (22, 36, 0, 0, []), (0, 1, 0, 0, []), (2, 0, 0, 11, []), (19, 20, 1, 0, []), (0, 2, 0, 0, []), (0, 3, 0, 0, []), (19, 18, 5, 0, []), (2, 0, 0, 1, []), (22, 36, 0, 0, []), (2, 0, 0, 0, []), (22, 36, 0, 0, []), (0, 1, 0, 0, []), (2, 0, 0, 12, []), (19, 30, 1, 0, []), (0, 2, 0, 0, []), (0, 3, 0, 0, []), (19, 28, 4, 0, []), (2, 0, 0, 1, []), (22, 36, 0, 0, []), (2, 0, 0, 0, []), (22, 36, 0, 0, []), (0, 2, 0, 0, []), (0, 3, 0, 0, []), (19, 35, 2, 0, []), (2, 0, 0, 1, []), (22, 36, 0, 0, []), (2, 0, 0, 0, []), (41, 0, 10, 0, [])]
/-- 273: HornBenchModel.done(I)Z -/
def am_c273 : List AmIns := [(0, 0, 3, 0, []), (24, 12, 35, 3, []), (0, 1, 0, 0, []), (32, 0, 0, 0, []), (1, 2, 0, 0, []), (0, 0, 3, 0, []), (24, 12, 36, 3, []), (0, 1, 0, 0, []), (32, 0, 0, 0, []), (1, 3, 0, 0, []), (0, 0, 3, 0, []), (24, 12, 34, 3, []), (0, 1, 0, 0, []), (32, 0, 0, 0, []), (23, 134, 0, 0, [(0, 15), (1, 21), (2, 35), (3, 37), (4, 39), (5, 75), (6, 134), (7, 86), (8, 91), (9, 108), (10, 134), (11, 134), (12, 134), (13, 134), (14, 113)]), (0, 0, 3, 0, []), (0, 0, 3, 0, []), (0, 2, 0, 0, []), (40, 246, 2, 0, []), (40, 269, 2, 0, []), (41, 0, 10, 0, []), (0, 0, 3, 0, []), (26, 0, 0, 0, []), (24, 12, 18, 0, []), (2, 0, 0, 1, []), (8, 0, 0, 0, []), (25, 12, 18, 0, []), (0, 0, 3, 0, []), (0, 0, 3, 0, []), (24, 12, 39, 3, []), (0, 1, 0, 0, []), (32, 0, 0, 0, []), (25, 12, 41, 0, []), (2, 0, 0, 1, []), (41, 0, 10, 0, []), (2, 0, 0, 1, []), (41, 0, 10, 0, []), (2, 0, 0, 0, []), (41, 0, 10, 0, []), (0, 0, 3, 0, []), (24, 12, 41, 0, []), (1, 4, 0, 0, []), (0, 0, 3, 0, []), (2, 0, 0, 1, []), (2, 0, 0, (-1), []), (2, 0, 0, (-1), []), (0, 0, 3, 0, []), (24, 12, 31, 0, []), (0, 0, 3, 0, []), (24, 12, 19, 0, []), (0, 0, 3, 0, []), (24, 12, 24, 0, []), (0, 0, 3, 0, []), (24, 12, 33, 0, []), (40, 264, 8, 0, []), (0, 0, 3, 0, []), (2, 0, 0, 6, []), (0, 4, 0, 0, []), (0, 0, 3, 0, []), (24, 12, 40, 0, []), (40, 261, 4, 0, []), (1, 5, 0, 0, []), (0, 0, 3, 0, []), (0, 0, 3, 0, []), (0, 0, 3, 0, []), (24, 12, 37, 3, []), (0, 1, 0, 0, []), (32, 0, 0, 0, []), (0, 0, 3, 0, []), (24, 12, 41, 0, []), (0, 5, 0, 0, []), (40, 263, 4, 0, []), (25, 12, 40, 0, []), (2, 0, 0, 1, []), (41, 0, 10, 0, []), (0, 0, 3, 0, []), (24, 12, 20, 3, []), (0, 0, 3, 0, []), (0, 2, 0, 0, []), (40, 246, 2, 0, []), (32, 0, 0, 0, []), (18, 84, 1, 0, []), (2, 0, 0, 1, []), (22, 85, 0, 0, []), (2, 0, 0, 0, []), (41, 0, 10, 0, []), (0, 0, 3, 0, []), (0, 2, 0, 0, []), (0, 3, 0, 0, []), (40, 254, 3, 0, []), (41, 0, 10, 0, []), (0, 0, 3, 0, []), (24, 12, 31, 0, []), (1, 4, 0, 0, []), (0, 0, 3, 0, []), (0, 2, 0, 0, []), (0, 3, 0, 0, []), (40, 254, 3, 0, []), (1, 5, 0, 0, []), (0, 0, 3, 0, []), (0, 4, 0, 0, []), (40, 249, 2, 0, []), (0, 5, 0, 0, []), (18, 106, 1, 0, []), (2, 0, 0, 1, []), (22, 107, 0, 0, []), (2, 0, 0, 0, []), (41, 0, 10, 0, []), (0, 0, 3, 0, []), (0, 2, 0, 0, []), (0, 3, 0, 0, []), (40, 255, 3, 0, []), (41, 0, 10, 0, []), (0, 0, 3, 0, []), (0, 3, 0, 0, []), (40, 256, 2, 0, []), (1, 4, 0, 0, []), (0, 0, 3, 0, []), (24, 12, 58, 10, []), (18, 132, 1, 0, []), (0, 0, 3, 0, []), (0, 2, 0, 0, []), (0, 0, 3, 0, []), (2, 0, 0, 1, []), (0, 4, 0, 0, []), (14, 0, 0, 0, []), (2, 0, 0, 0, []), (40, 244, 4, 0, []), (40, 254, 3, 0, []), (18, 132, 0, 0, []), (2, 0, 0, 1, []), (22, 133, 0, 0, []), (2, 0, 0, 0, []), (41, 0, 10, 0, []), (0, 0, 3, 0, []), (0, 2, 0, 0, []), (40, 256, 2, 0, []), (1, 4, 0, 0, []), (0, 0, 3, 0, []), (24, 12, 58, 10, []), (18, 143, 0, 0, []), (2, 0, 0, 0, []), (41, 0, 10, 0, []), (0, 0, 3, 0, []), (0, 3, 0, 0, []), (40, 256, 2, 0, []), (1, 5, 0, 0, []), (0, 0, 3, 0, []), (24, 12, 58, 10, []), (18, 161, 1, 0, []), (0, 0, 3, 0, []), (0, 0, 3, 0, []), (24, 12, 34, 3, []), (0, 1, 0, 0, []), (32, 0, 0, 0, []), (0, 4, 0, 0, []), (0, 5, 0, 0, []), (40, 272, 4, 0, []), (18, 161, 0, 0, []), (2, 0, 0, 1, []), (22, 162, 0, 0, []), (2, 0, 0, 0, []), (41, 0, 10, 0, [])]
/-- 274: HornBenchModel.step()V -/
def am_c274 : List AmIns := [(0, 0, 3, 0, []), (2, 0, 0, 0, []), (25, 12, 58, 10, []), (2, 0, 0, 1, []), (1, 1, 0, 0, []), (0, 0, 3, 0, []), (26, 0, 0, 0, []), (24, 12, 16, 0, []), (2, 0, 0, 1, []), (8, 0, 0, 0, []), (25, 12, 16, 0, []), (0, 0, 3, 0, []), (24, 12, 50, 10, []), (18, 20, 0, 0, []), (0, 0, 3, 0, []), (2, 0, 0, 0, []), (25, 12, 50, 10, []), (0, 0, 3, 0, []), (40, 270, 1, 0, []), (22, 33, 0, 0, []), (0, 0, 3, 0, []), (24, 12, 40, 0, []), (1, 2, 0, 0, []), (0, 0, 3, 0, []), (0, 0, 3, 0, []), (24, 12, 38, 3, []), (0, 2, 0, 0, []), (32, 0, 0, 0, []), (25, 12, 40, 0, []), (0, 0, 3, 0, []), (0, 2, 0, 0, []), (40, 273, 2, 0, []), (1, 1, 0, 0, []), (0, 0, 3, 0, []), (24, 12, 58, 10, []), (18, 40, 0, 0, []), (0, 0, 3, 0, []), (2, 0, 0, 3, []), (25, 12, 15, 0, []), (22, 43, 0, 0, []), (0, 0, 3, 0, []), (0, 1, 0, 0, []), (40, 275, 2, 0, []), (41, 0, 9, 0, [])]
/-- 275: HornBenchModel.settle(Z)V -/
def am_c275 : List AmIns := [(0, 1, 0, 0, []), (18, 4, 1, 0, []), (2, 0, 0, 1, []), (22, 5, 0, 0, []), (2, 0, 0, 0, []), (1, 2, 0, 0, []), (0, 2, 0, 0, []), (18, 93, 0, 0, []), (0, 0, 3, 0, []), (24, 12, 41, 0, []), (18, 21, 1, 0, []), (0, 0, 3, 0, []), (2, 0, 0, 0, []), (40, 249, 2, 0, []), (0, 0, 3, 0, []), (2, 0, 0, (-1), []), (25, 12, 40, 0, []), (0, 0, 3, 0, []), (2, 0, 0, 2, []), (25, 12, 15, 0, []), (41, 0, 9, 0, []), (0, 0, 3, 0, []), (24, 12, 41, 0, []), (2, 0, 0, 1, []), (8, 0, 1, 0, []), (1, 3, 0, 0, []), (0, 0, 3, 0, []), (0, 0, 3, 0, []), (24, 12, 46, 3, []), (0, 3, 0, 0, []), (32, 0, 0, 0, []), (40, 249, 2, 0, []), (0, 0, 3, 0, []), (0, 0, 3, 0, []), (24, 12, 47, 3, []), (0, 3, 0, 0, []), (32, 0, 0, 0, []), (25, 12, 19, 0, []), (0, 0, 3, 0, []), (0, 0, 3, 0, []), (24, 12, 48, 3, []), (0, 3, 0, 0, []), (32, 0, 0, 0, []), (25, 12, 24, 0, []), (0, 0, 3, 0, []), (0, 0, 3, 0, []), (24, 12, 49, 3, []), (0, 3, 0, 0, []), (32, 0, 0, 0, []), (25, 12, 33, 0, []), (0, 0, 3, 0, []), (0, 0, 3, 0, []), (24, 12, 43, 3, []), (0, 3, 0, 0, []), (32, 0, 0, 0, []), (25, 12, 40, 0, []), (0, 0, 3, 0, []), (24, 12, 42, 3, []), (0, 3, 0, 0, []), (32, 0, 11, 0, []), (18, 70, 0, 0, []), (0, 0, 3, 0, []), (26, 0, 0, 0, []), (24, 12, 41, 0, []), (2, 0, 0, 1, []), (8, 0, 1, 0, []), (25, 12, 41, 0, []), (2, 0, 0, 0, []), (1, 2, 0, 0, []), (22, 92, 0, 0, []), (0, 0, 3, 0, []), (40, 271, 1, 0, []), (18, 86, 0, 0, []), (0, 0, 3, 0, []), (2, 0, 0, 1, []), (25, 12, 50, 10, []), (0, 0, 3, 0, []), (0, 0, 3, 0, []), (24, 12, 16, 0, []), (2, 0, 0, 1000, []), (19, 83, 1, 0, []), (2, 0, 0, 4, []), (22, 84, 0, 0, []), (2, 0, 0, 0, []), (25, 12, 15, 0, []), (41, 0, 9, 0, []), (0, 0, 3, 0, []), (26, 0, 0, 0, []), (24, 12, 41, 0, []), (2, 0, 0, 1, []), (8, 0, 1, 0, []), (25, 12, 41, 0, []), (22, 6, 0, 0, []), (0, 0, 3, 0, []), (24, 12, 40, 0, []), (2, 0, 0, (-1), []), (19, 107, 1, 0, []), (0, 0, 3, 0, []), (26, 0, 0, 0, []), (24, 12, 17, 0, []), (2, 0, 0, 1, []), (8, 0, 0, 0, []), (25, 12, 17, 0, []), (0, 0, 3, 0, []), (2, 0, 0, 1, []), (25, 12, 15, 0, []), (41, 0, 9, 0, []), (0, 0, 3, 0, []), (24, 12, 34, 3, []), (0, 0, 3, 0, []), (24, 12, 40, 0, []), (32, 0, 0, 0, []), (2, 0, 0, 6, []), (19, 124, 1, 0, []), (0, 0, 3, 0, []), (0, 0, 3, 0, []), (24, 12, 39, 3, []), (0, 0, 3, 0, []), (24, 12, 40, 0, []), (32, 0, 0, 0, []), (25, 12, 41, 0, []), (2, 0, 0, 1, []), (1, 2, 0, 0, []), (22, 6, 0, 0, []), (0, 0, 3, 0, []), (0, 0, 3, 0, []), (24, 12, 16, 0, []), (2, 0, 0, 1000, []), (19, 131, 1, 0, []), (2, 0, 0, 4, []), (22, 132, 0, 0, []), (2, 0, 0, 0, []), (25, 12, 15, 0, []), (41, 0, 9, 0, [])]
/-- 276: HornBenchModel.run(I)I -/
def am_c276 : List AmIns := [(0, 0, 3, 0, []), (2, 0, 0, 0, []), (25, 12, 0, 0, []), (0, 1, 0, 0, []), (2, 0, 0, 1, []), (2, 0, 0, 500, []), (40, 188, 3, 2, []), (18, 12, 1, 0, []), (0, 0, 3, 0, []), (2, 0, 0, 1, []), (40, 187, 2, 0, []), (41, 0, 0, 0, []), (0, 0, 3, 0, []), (24, 12, 13, 3, []), (20, 19, 1, 0, []), (0, 0, 3, 0, []), (2, 0, 0, 2, []), (40, 187, 2, 0, []), (41, 0, 0, 0, []), (0, 0, 3, 0, []), (24, 12, 16, 0, []), (1, 2, 0, 0, []), (0, 0, 3, 0, []), (24, 12, 15, 0, []), (2, 0, 0, 1, []), (19, 29, 1, 0, []), (0, 0, 3, 0, []), (2, 0, 0, 0, []), (40, 275, 2, 0, []), (0, 0, 3, 0, []), (24, 12, 15, 0, []), (18, 41, 1, 0, []), (0, 0, 3, 0, []), (24, 12, 16, 0, []), (0, 2, 0, 0, []), (8, 0, 1, 0, []), (0, 1, 0, 0, []), (19, 41, 3, 0, []), (0, 0, 3, 0, []), (40, 274, 1, 0, []), (22, 29, 0, 0, []), (0, 0, 3, 0, []), (24, 12, 16, 0, []), (0, 2, 0, 0, []), (8, 0, 1, 0, []), (41, 0, 0, 0, [])]
/-- 277: HornBenchModel.status()I -/
def am_c277 : List AmIns := [(0, 0, 3, 0, []), (2, 0, 0, 0, []), (25, 12, 0, 0, []), (0, 0, 3, 0, []), (24, 12, 15, 0, []), (41, 0, 0, 0, [])]
/-- 278: HornBenchModel.put(I)V -/
def am_c278 : List AmIns := [(0, 0, 3, 0, []), (24, 12, 12, 0, []), (2, 0, 0, 600, []), (19, 10, 3, 0, []), (0, 0, 3, 0, []), (24, 12, 11, 3, []), (0, 0, 3, 0, []), (24, 12, 12, 0, []), (0, 1, 0, 0, []), (33, 61, 11, 0, []), (0, 0, 3, 0, []), (26, 0, 0, 0, []), (24, 12, 12, 0, []), (2, 0, 0, 1, []), (8, 0, 0, 0, []), (25, 12, 12, 0, []), (41, 0, 9, 0, [])]
/-- 279: HornBenchModel.put(Ljava/lang/String;)V -/
def am_c279 : List AmIns := [(2, 0, 0, 0, []), (1, 2, 0, 0, []), (0, 2, 0, 0, []), (0, 1, 3, 0, []), (40, 297, 1, 0, []), (19, 13, 3, 0, []), (0, 0, 3, 0, []), (0, 1, 3, 0, []), (0, 2, 0, 0, []), (40, 298, 2, 0, []), (40, 278, 2, 0, []), (17, 2, 0, 1, []), (22, 2, 0, 0, []), (41, 0, 9, 0, [])]
/-- 280: HornBenchModel.isFull()Z -/
def am_c280 : List AmIns := [(0, 0, 3, 0, []), (24, 12, 12, 0, []), (2, 0, 0, 600, []), (19, 6, 5, 0, []), (2, 0, 0, 1, []), (22, 7, 0, 0, []), (2, 0, 0, 0, []), (41, 0, 10, 0, [])]
/-- 281: HornBenchModel.putNumber(J)V -/
def am_c281 : List AmIns := [(0, 1, 1, 0, []), (3, 0, 0, 0, []), (13, 0, 0, 0, []), (18, 7, 3, 0, []), (0, 0, 3, 0, []), (2, 0, 0, 45, []), (40, 278, 2, 0, []), (0, 1, 1, 0, []), (38, 0, 2, 0, []), (1, 3, 1, 0, []), (0, 3, 1, 0, []), (3, 0, 0, 9, []), (13, 0, 0, 0, []), (18, 19, 5, 0, []), (0, 0, 3, 0, []), (0, 3, 1, 0, []), (3, 0, 0, 10, []), (10, 0, 3, 0, []), (40, 282, 2, 0, []), (0, 0, 3, 0, []), (3, 0, 0, 48, []), (0, 3, 1, 0, []), (3, 0, 0, 10, []), (10, 0, 4, 0, []), (10, 0, 0, 0, []), (14, 0, 1, 0, []), (40, 278, 2, 0, []), (41, 0, 9, 0, [])]
/-- 282: HornBenchModel.putDigits(J)V -/
def am_c282 : List AmIns := [(0, 1, 1, 0, []), (3, 0, 0, 9, []), (13, 0, 0, 0, []), (18, 9, 5, 0, []), (0, 0, 3, 0, []), (0, 1, 1, 0, []), (3, 0, 0, 10, []), (10, 0, 3, 0, []), (40, 282, 2, 0, []), (0, 0, 3, 0, []), (3, 0, 0, 48, []), (0, 1, 1, 0, []), (3, 0, 0, 10, []), (10, 0, 4, 0, []), (10, 0, 0, 0, []), (14, 0, 1, 0, []), (40, 278, 2, 0, []), (41, 0, 9, 0, [])]
/-- 283: HornBenchModel.putName(J)V -/
def am_c283 : List AmIns := [(0, 1, 1, 0, []), (3, 0, 0, 64, []), (13, 0, 0, 0, []), (18, 9, 2, 0, []), (0, 0, 3, 0, []), (0, 1, 1, 0, []), (3, 0, 0, 64, []), (10, 0, 3, 0, []), (40, 283, 2, 0, []), (0, 1, 1, 0, []), (3, 0, 0, 64, []), (10, 0, 4, 0, []), (14, 0, 1, 0, []), (1, 3, 0, 0, []), (0, 0, 3, 0, []), (0, 3, 0, 0, []), (2, 0, 0, 11, []), (19, 22, 3, 0, []), (0, 3, 0, 0, []), (2, 0, 0, 47, []), (8, 0, 0, 0, []), (22, 25, 0, 0, []), (0, 3, 0, 0, []), (2, 0, 0, 86, []), (8, 0, 0, 0, []), (40, 278, 2, 0, []), (41, 0, 9, 0, [])]
/-- 284: HornBenchModel.isSigned(J)Z -/
def am_c284 : List AmIns := [(0, 0, 1, 0, []), (3, 0, 0, (-1), []), (13, 0, 0, 0, []), (18, 10, 4, 0, []), (0, 0, 1, 0, []), (3, 0, 0, (-5), []), (13, 0, 0, 0, []), (18, 10, 2, 0, []), (2, 0, 0, 1, []), (22, 11, 0, 0, []), (2, 0, 0, 0, []), (41, 0, 10, 0, [])]
/-- 285: HornBenchModel.putFree(I)V -/
def am_c285 : List AmIns := [(2, 0, 0, 0, []), (1, 2, 0, 0, []), (0, 2, 0, 0, []), (0, 0, 3, 0, []), (24, 12, 60, 0, []), (19, 14, 3, 0, []), (0, 0, 3, 0, []), (24, 12, 61, 3, []), (0, 2, 0, 0, []), (32, 0, 0, 0, []), (0, 1, 0, 0, []), (19, 14, 0, 0, []), (17, 2, 0, 1, []), (22, 2, 0, 0, []), (0, 2, 0, 0, []), (0, 0, 3, 0, []), (24, 12, 60, 0, []), (19, 30, 1, 0, []), (0, 0, 3, 0, []), (24, 12, 61, 3, []), (0, 0, 3, 0, []), (24, 12, 60, 0, []), (0, 1, 0, 0, []), (33, 61, 11, 0, []), (0, 0, 3, 0, []), (26, 0, 0, 0, []), (24, 12, 60, 0, []), (2, 0, 0, 1, []), (8, 0, 0, 0, []), (25, 12, 60, 0, []), (0, 0, 3, 0, []), (2, 0, 0, 95, []), (40, 278, 2, 0, []), (0, 0, 3, 0, []), (0, 2, 0, 0, []), (14, 0, 0, 0, []), (40, 281, 2, 0, []), (41, 0, 9, 0, [])]
/-- 286: HornBenchModel.putTerm(IZ)V -/
def am_c286 : List AmIns := [(0, 0, 3, 0, []), (0, 1, 0, 0, []), (40, 246, 2, 0, []), (1, 3, 0, 0, []), (0, 0, 3, 0, []), (40, 280, 1, 0, []), (18, 8, 0, 0, []), (41, 0, 9, 0, []), (0, 0, 3, 0, []), (24, 12, 21, 3, []), (0, 3, 0, 0, []), (32, 0, 1, 0, []), (1, 4, 1, 0, []), (0, 0, 3, 0, []), (24, 12, 20, 3, []), (0, 3, 0, 0, []), (32, 0, 0, 0, []), (2, 0, 0, 1, []), (19, 23, 1, 0, []), (0, 0, 3, 0, []), (0, 4, 1, 0, []), (40, 281, 2, 0, []), (22, 192, 0, 0, []), (0, 0, 3, 0, []), (24, 12, 20, 3, []), (0, 3, 0, 0, []), (32, 0, 0, 0, []), (18, 32, 1, 0, []), (0, 0, 3, 0, []), (0, 3, 0, 0, []), (40, 285, 2, 0, []), (22, 192, 0, 0, []), (0, 4, 1, 0, []), (3, 0, 0, (-7), []), (13, 0, 0, 0, []), (18, 40, 1, 0, []), (0, 0, 3, 0, []), (6, 34, 0, 0, []), (40, 279, 2, 0, []), (22, 192, 0, 0, []), (0, 4, 1, 0, []), (3, 0, 0, (-6), []), (13, 0, 0, 0, []), (18, 115, 1, 0, []), (0, 0, 3, 0, []), (2, 0, 0, 91, []), (40, 278, 2, 0, []), (0, 0, 3, 0, []), (0, 0, 3, 0, []), (0, 3, 0, 0, []), (2, 0, 0, 0, []), (40, 247, 3, 0, []), (2, 0, 0, 0, []), (40, 286, 3, 0, []), (0, 0, 3, 0, []), (0, 3, 0, 0, []), (2, 0, 0, 1, []), (40, 247, 3, 0, []), (1, 6, 0, 0, []), (0, 0, 3, 0, []), (24, 12, 20, 3, []), (0, 6, 0, 0, []), (32, 0, 0, 0, []), (2, 0, 0, 2, []), (19, 91, 1, 0, []), (0, 0, 3, 0, []), (24, 12, 21, 3, []), (0, 6, 0, 0, []), (32, 0, 1, 0, []), (3, 0, 0, (-6), []), (13, 0, 0, 0, []), (18, 91, 1, 0, []), (0, 0, 3, 0, []), (40, 280, 1, 0, []), (18, 91, 1, 0, []), (0, 0, 3, 0, []), (2, 0, 0, 44, []), (40, 278, 2, 0, []), (0, 0, 3, 0, []), (0, 0, 3, 0, []), (0, 6, 0, 0, []), (2, 0, 0, 0, []), (40, 247, 3, 0, []), (2, 0, 0, 0, []), (40, 286, 3, 0, []), (0, 0, 3, 0, []), (0, 6, 0, 0, []), (2, 0, 0, 1, []), (40, 247, 3, 0, []), (1, 6, 0, 0, []), (22, 59, 0, 0, []), (0, 0, 3, 0, []), (24, 12, 20, 3, []), (0, 6, 0, 0, []), (32, 0, 0, 0, []), (2, 0, 0, 2, []), (19, 104, 1, 0, []), (0, 0, 3, 0, []), (24, 12, 21, 3, []), (0, 6, 0, 0, []), (32, 0, 1, 0, []), (3, 0, 0, (-7), []), (13, 0, 0, 0, []), (18, 111, 0, 0, []), (0, 0, 3, 0, []), (2, 0, 0, 124, []), (40, 278, 2, 0, []), (0, 0, 3, 0, []), (0, 6, 0, 0, []), (2, 0, 0, 0, []), (40, 286, 3, 0, []), (0, 0, 3, 0, []), (2, 0, 0, 93, []), (40, 278, 2, 0, []), (22, 192, 0, 0, []), (0, 4, 1, 0, []), (40, 284, 1, 2, []), (18, 157, 0, 0, []), (0, 2, 0, 0, []), (18, 123, 0, 0, []), (0, 0, 3, 0, []), (2, 0, 0, 40, []), (40, 278, 2, 0, []), (0, 0, 3, 0, []), (0, 0, 3, 0, []), (0, 3, 0, 0, []), (2, 0, 0, 0, []), (40, 247, 3, 0, []), (2, 0, 0, 1, []), (40, 286, 3, 0, []), (0, 0, 3, 0, []), (0, 4, 1, 0, []), (3, 0, 0, (-5), []), (13, 0, 0, 0, []), (18, 137, 1, 0, []), (6, 35, 0, 0, []), (22, 143, 0, 0, []), (6, 3, 1, 0, []), (3, 0, 0, (-1), []), (0, 4, 1, 0, []), (10, 0, 1, 0, []), (14, 0, 1, 0, []), (32, 0, 3, 0, []), (40, 279, 2, 0, []), (0, 0, 3, 0, []), (0, 0, 3, 0, []), (0, 3, 0, 0, []), (2, 0, 0, 1, []), (40, 247, 3, 0, []), (2, 0, 0, 1, []), (40, 286, 3, 0, []), (0, 2, 0, 0, []), (18, 192, 0, 0, []), (0, 0, 3, 0, []), (2, 0, 0, 41, []), (40, 278, 2, 0, []), (22, 192, 0, 0, []), (0, 0, 3, 0, []), (0, 4, 1, 0, []), (40, 283, 2, 0, []), (2, 0, 0, 0, []), (1, 6, 0, 0, []), (0, 6, 0, 0, []), (0, 0, 3, 0, []), (24, 12, 23, 3, []), (0, 3, 0, 0, []), (32, 0, 0, 0, []), (19, 184, 3, 0, []), (0, 0, 3, 0, []), (0, 6, 0, 0, []), (18, 173, 1, 0, []), (2, 0, 0, 40, []), (22, 174, 0, 0, []), (2, 0, 0, 44, []), (40, 278, 2, 0, []), (0, 0, 3, 0, []), (0, 0, 3, 0, []), (0, 3, 0, 0, []), (0, 6, 0, 0, []), (40, 247, 3, 0, []), (2, 0, 0, 0, []), (40, 286, 3, 0, []), (17, 6, 0, 1, []), (22, 162, 0, 0, []), (0, 0, 3, 0, []), (24, 12, 23, 3, []), (0, 3, 0, 0, []), (32, 0, 0, 0, []), (18, 192, 5, 0, []), (0, 0, 3, 0, []), (2, 0, 0, 41, []), (40, 278, 2, 0, []), (41, 0, 9, 0, [])]
/-- 287: HornBenchModel.isVariable(I)Z -/
def am_c287 : List AmIns := [(0, 0, 3, 0, []), (24, 12, 13, 3, []), (20, 14, 0, 0, []), (0, 1, 0, 0, []), (2, 0, 0, 0, []), (0, 0, 3, 0, []), (24, 12, 13, 3, []), (24, 11, 8, 0, []), (2, 0, 0, 1, []), (8, 0, 1, 0, []), (40, 188, 3, 2, []), (18, 14, 0, 0, []), (2, 0, 0, 1, []), (22, 15, 0, 0, []), (2, 0, 0, 0, []), (41, 0, 10, 0, [])]
/-- 288: HornBenchModel.kept([II)I -/
def am_c288 : List AmIns := [(0, 0, 3, 0, []), (40, 280, 1, 0, []), (18, 6, 1, 0, []), (0, 0, 3, 0, []), (24, 12, 12, 0, []), (41, 0, 0, 0, []), (0, 1, 3, 0, []), (2, 0, 0, 0, []), (0, 0, 3, 0, []), (24, 12, 11, 3, []), (2, 0, 0, 0, []), (2, 0, 0, 600, []), (36, 0, 0, 0, []), (0, 0, 3, 0, []), (0, 2, 0, 0, []), (25, 12, 12, 0, []), (2, 0, 0, (-1), []), (41, 0, 0, 0, [])]
/-- 289: HornBenchModel.write(I)I -/
def am_c289 : List AmIns := [(0, 0, 3, 0, []), (2, 0, 0, 0, []), (25, 12, 0, 0, []), (0, 0, 3, 0, []), (0, 1, 0, 0, []), (40, 287, 2, 0, []), (18, 11, 1, 0, []), (0, 0, 3, 0, []), (2, 0, 0, 1, []), (40, 187, 2, 0, []), (41, 0, 0, 0, []), (0, 0, 3, 0, []), (24, 12, 11, 3, []), (37, 0, 0, 0, []), (34, 0, 0, 0, []), (1, 2, 3, 0, []), (0, 0, 3, 0, []), (24, 12, 12, 0, []), (1, 3, 0, 0, []), (0, 0, 3, 0, []), (2, 0, 0, 0, []), (25, 12, 12, 0, []), (0, 0, 3, 0, []), (2, 0, 0, 0, []), (25, 12, 60, 0, []), (0, 0, 3, 0, []), (0, 0, 3, 0, []), (24, 12, 14, 3, []), (0, 1, 0, 0, []), (32, 0, 0, 0, []), (2, 0, 0, 0, []), (40, 286, 3, 0, []), (0, 0, 3, 0, []), (0, 2, 3, 0, []), (0, 3, 0, 0, []), (40, 288, 3, 0, []), (1, 4, 0, 0, []), (0, 4, 0, 0, []), (2, 0, 0, (-1), []), (19, 44, 1, 0, []), (0, 0, 3, 0, []), (2, 0, 0, 2, []), (40, 187, 2, 0, []), (22, 45, 0, 0, []), (0, 4, 0, 0, []), (41, 0, 0, 0, [])]
/-- 290: HornBenchModel.putGoal(I)V -/
def am_c290 : List AmIns := [(0, 0, 3, 0, []), (24, 12, 34, 3, []), (0, 1, 0, 0, []), (32, 0, 0, 0, []), (1, 2, 0, 0, []), (0, 2, 0, 0, []), (2, 0, 0, 1, []), (19, 12, 1, 0, []), (0, 0, 3, 0, []), (2, 0, 0, 33, []), (40, 278, 2, 0, []), (22, 115, 0, 0, []), (0, 2, 0, 0, []), (2, 0, 0, 2, []), (19, 19, 1, 0, []), (0, 0, 3, 0, []), (6, 29, 0, 0, []), (40, 279, 2, 0, []), (22, 115, 0, 0, []), (0, 2, 0, 0, []), (2, 0, 0, 3, []), (19, 26, 1, 0, []), (0, 0, 3, 0, []), (6, 30, 0, 0, []), (40, 279, 2, 0, []), (22, 115, 0, 0, []), (0, 2, 0, 0, []), (18, 36, 1, 0, []), (0, 0, 3, 0, []), (0, 0, 3, 0, []), (24, 12, 35, 3, []), (0, 1, 0, 0, []), (32, 0, 0, 0, []), (2, 0, 0, 0, []), (40, 286, 3, 0, []), (22, 115, 0, 0, []), (0, 2, 0, 0, []), (2, 0, 0, 5, []), (19, 53, 1, 0, []), (0, 0, 3, 0, []), (6, 36, 0, 0, []), (40, 279, 2, 0, []), (0, 0, 3, 0, []), (0, 0, 3, 0, []), (24, 12, 35, 3, []), (0, 1, 0, 0, []), (32, 0, 0, 0, []), (2, 0, 0, 0, []), (40, 286, 3, 0, []), (0, 0, 3, 0, []), (2, 0, 0, 41, []), (40, 278, 2, 0, []), (22, 115, 0, 0, []), (0, 2, 0, 0, []), (2, 0, 0, 4, []), (19, 89, 1, 0, []), (0, 0, 3, 0, []), (6, 37, 0, 0, []), (40, 279, 2, 0, []), (0, 0, 3, 0, []), (24, 12, 37, 3, []), (0, 1, 0, 0, []), (32, 0, 0, 0, []), (1, 3, 0, 0, []), (0, 3, 0, 0, []), (2, 0, 0, (-1), []), (19, 85, 0, 0, []), (0, 3, 0, 0, []), (0, 0, 3, 0, []), (24, 12, 37, 3, []), (0, 1, 0, 0, []), (32, 0, 0, 0, []), (19, 76, 0, 0, []), (0, 0, 3, 0, []), (2, 0, 0, 44, []), (40, 278, 2, 0, []), (0, 0, 3, 0, []), (0, 3, 0, 0, []), (40, 290, 2, 0, []), (0, 0, 3, 0, []), (24, 12, 38, 3, []), (0, 3, 0, 0, []), (32, 0, 0, 0, []), (1, 3, 0, 0, []), (22, 64, 0, 0, []), (0, 0, 3, 0, []), (2, 0, 0, 41, []), (40, 278, 2, 0, []), (22, 115, 0, 0, []), (0, 0, 3, 0, []), (0, 0, 3, 0, []), (24, 12, 35, 3, []), (0, 1, 0, 0, []), (32, 0, 0, 0, []), (2, 0, 0, 0, []), (40, 286, 3, 0, []), (0, 0, 3, 0, []), (0, 2, 0, 0, []), (2, 0, 0, 14, []), (19, 102, 1, 0, []), (6, 38, 0, 0, []), (22, 107, 0, 0, []), (6, 2, 1, 0, []), (0, 2, 0, 0, []), (2, 0, 0, 7, []), (8, 0, 1, 0, []), (32, 0, 3, 0, []), (40, 279, 2, 0, []), (0, 0, 3, 0, []), (0, 0, 3, 0, []), (24, 12, 36, 3, []), (0, 1, 0, 0, []), (32, 0, 0, 0, []), (2, 0, 0, 0, []), (40, 286, 3, 0, []), (41, 0, 9, 0, [])]
/-- 291: HornBenchModel.writeGoal()I -/
def am_c291 : List AmIns := [(0, 0, 3, 0, []), (2, 0, 0, 0, []), (25, 12, 0, 0, []), (0, 0, 3, 0, []), (24, 12, 13, 3, []), (20, 10, 1, 0, []), (0, 0, 3, 0, []), (2, 0, 0, 1, []), (40, 187, 2, 0, []), (41, 0, 0, 0, []), (0, 0, 3, 0, []), (24, 12, 11, 3, []), (37, 0, 0, 0, []), (34, 0, 0, 0, []), (1, 1, 3, 0, []), (0, 0, 3, 0, []), (24, 12, 12, 0, []), (1, 2, 0, 0, []), (0, 0, 3, 0, []), (2, 0, 0, 0, []), (25, 12, 12, 0, []), (0, 0, 3, 0, []), (2, 0, 0, 0, []), (25, 12, 60, 0, []), (0, 0, 3, 0, []), (24, 12, 50, 10, []), (18, 47, 1, 0, []), (0, 0, 3, 0, []), (24, 12, 40, 0, []), (2, 0, 0, (-1), []), (19, 47, 0, 0, []), (0, 0, 3, 0, []), (24, 12, 15, 0, []), (2, 0, 0, 1, []), (19, 47, 0, 0, []), (0, 0, 3, 0, []), (24, 12, 15, 0, []), (2, 0, 0, 2, []), (19, 47, 0, 0, []), (0, 0, 3, 0, []), (24, 12, 15, 0, []), (2, 0, 0, 3, []), (19, 47, 0, 0, []), (0, 0, 3, 0, []), (0, 0, 3, 0, []), (24, 12, 40, 0, []), (40, 290, 2, 0, []), (0, 0, 3, 0, []), (0, 1, 3, 0, []), (0, 2, 0, 0, []), (40, 288, 3, 0, []), (1, 3, 0, 0, []), (0, 3, 0, 0, []), (2, 0, 0, (-1), []), (19, 59, 1, 0, []), (0, 0, 3, 0, []), (2, 0, 0, 1, []), (40, 187, 2, 0, []), (22, 60, 0, 0, []), (0, 3, 0, 0, []), (41, 0, 0, 0, [])]
/-- 292: HornBenchModel.byteAt(I)I -/
def am_c292 : List AmIns := [(0, 0, 3, 0, []), (2, 0, 0, 0, []), (25, 12, 0, 0, []), (0, 1, 0, 0, []), (2, 0, 0, 0, []), (0, 0, 3, 0, []), (24, 12, 12, 0, []), (2, 0, 0, 1, []), (8, 0, 1, 0, []), (40, 188, 3, 2, []), (18, 16, 0, 0, []), (0, 0, 3, 0, []), (24, 12, 11, 3, []), (0, 1, 0, 0, []), (32, 0, 0, 0, []), (22, 19, 0, 0, []), (0, 0, 3, 0, []), (2, 0, 0, 1, []), (40, 187, 2, 0, []), (41, 0, 0, 0, [])]
/-- 293: HornBenchModel.number(I)I -/
def am_c293 : List AmIns := [(0, 0, 3, 0, []), (2, 0, 0, 0, []), (25, 12, 0, 0, []), (0, 0, 3, 0, []), (0, 1, 0, 0, []), (40, 287, 2, 0, []), (18, 11, 1, 0, []), (0, 0, 3, 0, []), (2, 0, 0, 1, []), (40, 187, 2, 0, []), (41, 0, 0, 0, []), (0, 0, 3, 0, []), (0, 0, 3, 0, []), (24, 12, 14, 3, []), (0, 1, 0, 0, []), (32, 0, 0, 0, []), (40, 246, 2, 0, []), (1, 2, 0, 0, []), (0, 0, 3, 0, []), (24, 12, 20, 3, []), (0, 2, 0, 0, []), (32, 0, 0, 0, []), (2, 0, 0, 1, []), (19, 30, 1, 0, []), (0, 0, 3, 0, []), (24, 12, 21, 3, []), (0, 2, 0, 0, []), (32, 0, 1, 0, []), (14, 0, 1, 0, []), (22, 33, 0, 0, []), (0, 0, 3, 0, []), (2, 0, 0, 2, []), (40, 187, 2, 0, []), (41, 0, 0, 0, [])]
/-- 294: HornBenchModel.isSame(II)Z -/
def am_c294 : List AmIns := [(0, 0, 3, 0, []), (0, 0, 3, 0, []), (0, 1, 0, 0, []), (40, 287, 2, 0, []), (18, 11, 0, 0, []), (0, 0, 3, 0, []), (0, 2, 0, 0, []), (40, 287, 2, 0, []), (18, 11, 0, 0, []), (2, 0, 0, 0, []), (22, 12, 0, 0, []), (2, 0, 0, 1, []), (25, 12, 0, 0, []), (0, 0, 3, 0, []), (24, 12, 0, 0, []), (18, 29, 1, 0, []), (0, 0, 3, 0, []), (0, 0, 3, 0, []), (24, 12, 14, 3, []), (0, 1, 0, 0, []), (32, 0, 0, 0, []), (0, 0, 3, 0, []), (24, 12, 14, 3, []), (0, 2, 0, 0, []), (32, 0, 0, 0, []), (40, 255, 3, 0, []), (18, 29, 0, 0, []), (2, 0, 0, 1, []), (22, 30, 0, 0, []), (2, 0, 0, 0, []), (41, 0, 10, 0, [])]
/-- 295: HornBenchModel.stepsEach()D -/
def am_c295 : List AmIns := [(0, 0, 3, 0, []), (2, 0, 0, 0, []), (25, 12, 0, 0, []), (0, 0, 3, 0, []), (24, 12, 13, 3, []), (20, 9, 0, 0, []), (0, 0, 3, 0, []), (24, 12, 17, 0, []), (18, 11, 1, 0, []), (4, 0, 0, 0, []), (22, 18, 0, 0, []), (0, 0, 3, 0, []), (24, 12, 16, 0, []), (14, 0, 4, 0, []), (0, 0, 3, 0, []), (24, 12, 17, 0, []), (14, 0, 4, 0, []), (15, 0, 0, 0, []), (41, 0, 2, 0, [])]
/-- 296: HornBenchModel.digest()J -/
def am_c296 : List AmIns := [(0, 0, 3, 0, []), (2, 0, 0, 0, []), (25, 12, 0, 0, []), (3, 0, 0, 389, []), (1, 1, 1, 0, []), (2, 0, 0, 0, []), (1, 3, 0, 0, []), (0, 3, 0, 0, []), (2, 0, 0, 9, []), (19, 21, 3, 0, []), (0, 1, 1, 0, []), (3, 0, 0, 31, []), (10, 0, 2, 0, []), (0, 0, 3, 0, []), (0, 3, 0, 0, []), (40, 240, 2, 0, []), (14, 0, 0, 0, []), (10, 0, 0, 0, []), (1, 1, 1, 0, []), (17, 3, 0, 1, []), (22, 7, 0, 0, []), (0, 1, 1, 0, []), (3, 0, 0, 31, []), (10, 0, 2, 0, []), (0, 0, 3, 0, []), (24, 12, 15, 0, []), (14, 0, 0, 0, []), (10, 0, 0, 0, []), (1, 1, 1, 0, []), (2, 0, 0, 0, []), (1, 3, 0, 0, []), (0, 3, 0, 0, []), (0, 0, 3, 0, []), (24, 12, 9, 0, []), (19, 54, 3, 0, []), (2, 0, 0, 0, []), (1, 4, 0, 0, []), (0, 4, 0, 0, []), (2, 0, 0, 4, []), (19, 52, 3, 0, []), (0, 1, 1, 0, []), (3, 0, 0, 31, []), (10, 0, 2, 0, []), (0, 0, 3, 0, []), (0, 3, 0, 0, []), (0, 4, 0, 0, []), (40, 242, 3, 0, []), (14, 0, 0, 0, []), (10, 0, 0, 0, []), (1, 1, 1, 0, []), (17, 4, 0, 1, []), (22, 37, 0, 0, []), (17, 3, 0, 1, []), (22, 31, 0, 0, []), (2, 0, 0, 0, []), (1, 3, 0, 0, []), (0, 3, 0, 0, []), (0, 0, 3, 0, []), (24, 12, 12, 0, []), (19, 72, 3, 0, []), (0, 1, 1, 0, []), (3, 0, 0, 31, []), (10, 0, 2, 0, []), (0, 0, 3, 0, []), (24, 12, 11, 3, []), (0, 3, 0, 0, []), (32, 0, 0, 0, []), (14, 0, 0, 0, []), (10, 0, 0, 0, []), (1, 1, 1, 0, []), (17, 3, 0, 1, []), (22, 56, 0, 0, []), (0, 1, 1, 0, []), (41, 0, 1, 0, [])]
/-- 297: java/lang/String.length()I -/
def am_c297 : List AmIns := [(0, 0, 3, 0, []), (24, 76, 0, 3, []), (31, 0, 0, 0, []), (0, 0, 3, 0, []), (40, 301, 1, 0, []), (8, 0, 8, 0, []), (41, 0, 0, 0, [])]
/-- 298: java/lang/String.charAt(I)C -/
def am_c298 : List AmIns := [(0, 0, 3, 0, []), (40, 302, 1, 0, []), (18, 8, 0, 0, []), (0, 0, 3, 0, []), (24, 76, 0, 3, []), (0, 1, 0, 0, []), (40, 303, 2, 2, []), (41, 0, 12, 0, []), (0, 0, 3, 0, []), (24, 76, 0, 3, []), (0, 1, 0, 0, []), (99, 0, 0, 0, []), (41, 0, 12, 0, [])]
/-- 299: java/lang/String.indexOf(I)I -/
def am_c299 : List AmIns := [(0, 0, 3, 0, []), (0, 1, 0, 0, []), (2, 0, 0, 0, []), (40, 300, 3, 0, []), (41, 0, 0, 0, [])]
/-- 300: java/lang/String.indexOf(II)I -/
def am_c300 : List AmIns := [(0, 0, 3, 0, []), (40, 302, 1, 0, []), (18, 11, 0, 0, []), (0, 0, 3, 0, []), (24, 76, 0, 3, []), (0, 1, 0, 0, []), (0, 2, 0, 0, []), (0, 0, 3, 0, []), (40, 297, 1, 0, []), (40, 305, 4, 2, []), (22, 18, 0, 0, []), (0, 0, 3, 0, []), (24, 76, 0, 3, []), (0, 1, 0, 0, []), (0, 2, 0, 0, []), (0, 0, 3, 0, []), (40, 297, 1, 0, []), (99, 0, 0, 0, []), (41, 0, 0, 0, [])]
/-- 301: java/lang/String.coder()B -/
def am_c301 : List AmIns := [(2, 0, 0, 1, []), (18, 5, 0, 0, []), (0, 0, 3, 0, []), (24, 76, 1, 11, []), (22, 6, 0, 0, []), (2, 0, 0, 1, []), (41, 0, 11, 0, [])]
/-- 302: java/lang/String.isLatin1()Z -/
def am_c302 : List AmIns := [(2, 0, 0, 1, []), (18, 7, 0, 0, []), (0, 0, 3, 0, []), (24, 76, 1, 11, []), (18, 7, 1, 0, []), (2, 0, 0, 1, []), (22, 8, 0, 0, []), (2, 0, 0, 0, []), (41, 0, 10, 0, [])]
/-- 303: java/lang/StringLatin1.charAt([BI)C -/
def am_c303 : List AmIns := [(0, 1, 0, 0, []), (0, 0, 3, 0, []), (31, 0, 0, 0, []), (99, 0, 0, 0, []), (0, 0, 3, 0, []), (0, 1, 0, 0, []), (32, 0, 11, 0, []), (2, 0, 0, 255, []), (8, 0, 5, 0, []), (14, 0, 3, 0, []), (41, 0, 12, 0, [])]
/-- 304: java/lang/StringLatin1.canEncode(I)Z -/
def am_c304 : List AmIns := [(0, 0, 0, 0, []), (18, 7, 2, 0, []), (0, 0, 0, 0, []), (2, 0, 0, 255, []), (19, 7, 4, 0, []), (2, 0, 0, 1, []), (22, 8, 0, 0, []), (2, 0, 0, 0, []), (41, 0, 10, 0, [])]
/-- 305: java/lang/StringLatin1.indexOf([BIII)I -/
def am_c305 : List AmIns := [(0, 1, 0, 0, []), (40, 304, 1, 2, []), (18, 5, 1, 0, []), (2, 0, 0, (-1), []), (41, 0, 0, 0, []), (0, 2, 0, 0, []), (2, 0, 0, 0, []), (38, 0, 0, 0, []), (1, 2, 0, 0, []), (0, 3, 0, 0, []), (0, 0, 3, 0, []), (31, 0, 0, 0, []), (38, 0, 1, 0, []), (1, 3, 0, 0, []), (0, 2, 0, 0, []), (0, 3, 0, 0, []), (19, 19, 2, 0, []), (2, 0, 0, (-1), []), (41, 0, 0, 0, []), (0, 0, 3, 0, []), (0, 1, 0, 0, []), (0, 2, 0, 0, []), (0, 3, 0, 0, []), (40, 306, 4, 2, []), (41, 0, 0, 0, [])]
/-- 306: java/lang/StringLatin1.indexOfChar([BIII)I -/
def am_c306 : List AmIns := [(0, 1, 0, 0, []), (14, 0, 2, 0, []), (1, 4, 0, 0, []), (0, 2, 0, 0, []), (1, 5, 0, 0, []), (0, 5, 0, 0, []), (0, 3, 0, 0, []), (19, 17, 3, 0, []), (0, 0, 3, 0, []), (0, 5, 0, 0, []), (32, 0, 11, 0, []), (0, 4, 0, 0, []), (19, 15, 1, 0, []), (0, 5, 0, 0, []), (41, 0, 0, 0, []), (17, 5, 0, 1, []), (22, 5, 0, 0, []), (2, 0, 0, (-1), []), (41, 0, 0, 0, [])]
/-- 307: HornBenchLaw.feed(LHornBench;IIIII[J)I -/
def am_c307 : List AmIns := [(0, 6, 3, 0, []), (2, 0, 0, 0, []), (0, 0, 3, 0, []), (0, 1, 0, 0, []), (0, 2, 0, 0, []), (0, 3, 0, 0, []), (0, 4, 0, 0, []), (0, 5, 0, 0, []), (40, 163, 6, 0, []), (14, 0, 0, 0, []), (33, 62, 11, 0, []), (22, 15, 0, 0, []), (1, 7, 3, 0, []), (2, 0, 0, 1, []), (41, 0, 0, 0, []), (2, 0, 0, 0, []), (41, 0, 0, 0, [])]
/-- 308: HornBenchLaw.trim(LHornBench;I[J)I -/
def am_c308 : List AmIns := [(0, 2, 3, 0, []), (2, 0, 0, 0, []), (0, 0, 3, 0, []), (0, 1, 0, 0, []), (40, 164, 2, 0, []), (14, 0, 0, 0, []), (33, 62, 11, 0, []), (22, 11, 0, 0, []), (1, 3, 3, 0, []), (2, 0, 0, 1, []), (41, 0, 0, 0, []), (2, 0, 0, 0, []), (41, 0, 0, 0, [])]
/-- 309: HornBenchLaw.drop(LHornBench;I[J)I -/
def am_c309 : List AmIns := [(0, 2, 3, 0, []), (2, 0, 0, 0, []), (0, 0, 3, 0, []), (0, 1, 0, 0, []), (40, 167, 2, 0, []), (14, 0, 0, 0, []), (33, 62, 11, 0, []), (22, 11, 0, 0, []), (1, 3, 3, 0, []), (2, 0, 0, 1, []), (41, 0, 0, 0, []), (2, 0, 0, 0, []), (41, 0, 0, 0, [])]
/-- 310: HornBenchLaw.count(LHornBench;I[J)I -/
def am_c310 : List AmIns := [(0, 2, 3, 0, []), (2, 0, 0, 0, []), (0, 0, 3, 0, []), (0, 1, 0, 0, []), (40, 169, 2, 0, []), (14, 0, 0, 0, []), (33, 62, 11, 0, []), (22, 11, 0, 0, []), (1, 3, 3, 0, []), (2, 0, 0, 1, []), (41, 0, 0, 0, []), (2, 0, 0, 0, []), (41, 0, 0, 0, [])]
/-- 311: HornBenchLaw.clause(LHornBench;II[J)I -/
def am_c311 : List AmIns := [(0, 3, 3, 0, []), (2, 0, 0, 0, []), (0, 0, 3, 0, []), (0, 1, 0, 0, []), (0, 2, 0, 0, []), (40, 170, 3, 0, []), (14, 0, 0, 0, []), (33, 62, 11, 0, []), (22, 12, 0, 0, []), (1, 4, 3, 0, []), (2, 0, 0, 1, []), (41, 0, 0, 0, []), (2, 0, 0, 0, []), (41, 0, 0, 0, [])]
/-- 312: HornBenchLaw.run(LHornBench;I[J)I -/
def am_c312 : List AmIns := [(0, 2, 3, 0, []), (2, 0, 0, 0, []), (0, 0, 3, 0, []), (0, 1, 0, 0, []), (40, 173, 2, 0, []), (14, 0, 0, 0, []), (33, 62, 11, 0, []), (22, 14, 0, 0, []), (1, 3, 3, 0, []), (2, 0, 0, 1, []), (41, 0, 0, 0, []), (1, 3, 3, 0, []), (2, 0, 0, 2, []), (41, 0, 0, 0, []), (2, 0, 0, 0, []), (41, 0, 0, 0, [])]
/-- 313: HornBenchLaw.write(LHornBench;I[J)I -/
def am_c313 : List AmIns := [(0, 2, 3, 0, []), (2, 0, 0, 0, []), (0, 0, 3, 0, []), (0, 1, 0, 0, []), (40, 175, 2, 0, []), (14, 0, 0, 0, []), (33, 62, 11, 0, []), (22, 14, 0, 0, []), (1, 3, 3, 0, []), (2, 0, 0, 1, []), (41, 0, 0, 0, []), (1, 3, 3, 0, []), (2, 0, 0, 2, []), (41, 0, 0, 0, []), (2, 0, 0, 0, []), (41, 0, 0, 0, [])]
/-- 314: HornBenchLaw.writeGoal(LHornBench;[J)I -/
def am_c314 : List AmIns := [(0, 1, 3, 0, []), (2, 0, 0, 0, []), (0, 0, 3, 0, []), (40, 176, 1, 0, []), (14, 0, 0, 0, []), (33, 62, 11, 0, []), (22, 10, 0, 0, []), (1, 2, 3, 0, []), (2, 0, 0, 1, []), (41, 0, 0, 0, []), (2, 0, 0, 0, []), (41, 0, 0, 0, [])]
/-- 315: HornBenchLaw.byteAt(LHornBench;I[J)I -/
def am_c315 : List AmIns := [(0, 2, 3, 0, []), (2, 0, 0, 0, []), (0, 0, 3, 0, []), (0, 1, 0, 0, []), (40, 177, 2, 0, []), (14, 0, 0, 0, []), (33, 62, 11, 0, []), (22, 11, 0, 0, []), (1, 3, 3, 0, []), (2, 0, 0, 1, []), (41, 0, 0, 0, []), (2, 0, 0, 0, []), (41, 0, 0, 0, [])]
/-- 316: HornBenchLaw.number(LHornBench;I[J)I -/
def am_c316 : List AmIns := [(0, 2, 3, 0, []), (2, 0, 0, 0, []), (0, 0, 3, 0, []), (0, 1, 0, 0, []), (40, 178, 2, 0, []), (14, 0, 0, 0, []), (33, 62, 11, 0, []), (22, 14, 0, 0, []), (1, 3, 3, 0, []), (2, 0, 0, 1, []), (41, 0, 0, 0, []), (1, 3, 3, 0, []), (2, 0, 0, 2, []), (41, 0, 0, 0, []), (2, 0, 0, 0, []), (41, 0, 0, 0, [])]
/-- 317: HornBenchLaw.isSame(LHornBench;II[J)I -/
def am_c317 : List AmIns := [(0, 3, 3, 0, []), (2, 0, 0, 0, []), (0, 0, 3, 0, []), (0, 1, 0, 0, []), (0, 2, 0, 0, []), (40, 179, 3, 0, []), (18, 9, 0, 0, []), (3, 0, 0, 1, []), (22, 10, 0, 0, []), (3, 0, 0, 0, []), (33, 62, 11, 0, []), (22, 15, 0, 0, []), (1, 4, 3, 0, []), (2, 0, 0, 1, []), (41, 0, 0, 0, []), (2, 0, 0, 0, []), (41, 0, 0, 0, [])]
/-- 318: HornBenchLaw.law([I)Z -/
def am_c318 : List AmIns := [(28, 10, 8, 0, []), (26, 0, 0, 0, []), (40, 162, 1, 1, []), (1, 1, 3, 0, []), (28, 12, 62, 0, []), (26, 0, 0, 0, []), (40, 185, 1, 1, []), (1, 2, 3, 0, []), (2, 0, 0, 1, []), (29, 62, 0, 0, []), (1, 3, 3, 0, []), (2, 0, 0, 0, []), (1, 4, 0, 0, []), (0, 4, 0, 0, []), (0, 0, 3, 0, []), (31, 0, 0, 0, []), (2, 0, 0, 6, []), (8, 0, 1, 0, []), (19, 529, 4, 0, []), (0, 0, 3, 0, []), (0, 4, 0, 0, []), (32, 0, 0, 0, []), (2, 0, 0, 31, []), (8, 0, 5, 0, []), (23, 527, 0, 0, [(0, 25), (1, 100), (2, 135), (3, 142), (4, 149), (5, 184), (6, 191), (7, 226), (8, 271), (9, 278), (10, 313), (11, 320), (12, 355), (13, 380), (14, 415), (15, 450), (16, 498), (17, 519)]), (0, 1, 3, 0, []), (0, 0, 3, 0, []), (0, 4, 0, 0, []), (2, 0, 0, 1, []), (8, 0, 0, 0, []), (32, 0, 0, 0, []), (0, 0, 3, 0, []), (0, 4, 0, 0, []), (2, 0, 0, 2, []), (8, 0, 0, 0, []), (32, 0, 0, 0, []), (0, 0, 3, 0, []), (0, 4, 0, 0, []), (2, 0, 0, 3, []), (8, 0, 0, 0, []), (32, 0, 0, 0, []), (0, 0, 3, 0, []), (0, 4, 0, 0, []), (2, 0, 0, 4, []), (8, 0, 0, 0, []), (32, 0, 0, 0, []), (0, 0, 3, 0, []), (0, 4, 0, 0, []), (2, 0, 0, 5, []), (8, 0, 0, 0, []), (32, 0, 0, 0, []), (0, 3, 3, 0, []), (40, 307, 7, 2, []), (1, 5, 0, 0, []), (0, 2, 3, 0, []), (0, 0, 3, 0, []), (0, 4, 0, 0, []), (2, 0, 0, 1, []), (8, 0, 0, 0, []), (32, 0, 0, 0, []), (0, 0, 3, 0, []), (0, 4, 0, 0, []), (2, 0, 0, 2, []), (8, 0, 0, 0, []), (32, 0, 0, 0, []), (0, 0, 3, 0, []), (0, 4, 0, 0, []), (2, 0, 0, 3, []), (8, 0, 0, 0, []), (32, 0, 0, 0, []), (0, 0, 3, 0, []), (0, 4, 0, 0, []), (2, 0, 0, 4, []), (8, 0, 0, 0, []), (32, 0, 0, 0, []), (0, 0, 3, 0, []), (0, 4, 0, 0, []), (2, 0, 0, 5, []), (8, 0, 0, 0, []), (32, 0, 0, 0, []), (40, 189, 6, 0, []), (1, 6, 0, 0, []), (0, 2, 3, 0, []), (40, 186, 1, 0, []), (0, 5, 0, 0, []), (19, 88, 0, 0, []), (2, 0, 0, 0, []), (41, 0, 10, 0, []), (0, 5, 0, 0, []), (18, 99, 1, 0, []), (0, 3, 3, 0, []), (2, 0, 0, 0, []), (32, 0, 1, 0, []), (0, 6, 0, 0, []), (14, 0, 0, 0, []), (13, 0, 0, 0, []), (18, 99, 0, 0, []), (2, 0, 0, 0, []), (41, 0, 10, 0, []), (22, 527, 0, 0, []), (0, 1, 3, 0, []), (0, 0, 3, 0, []), (0, 4, 0, 0, []), (2, 0, 0, 1, []), (8, 0, 0, 0, []), (32, 0, 0, 0, []), (0, 3, 3, 0, []), (40, 308, 3, 2, []), (1, 5, 0, 0, []), (0, 2, 3, 0, []), (0, 0, 3, 0, []), (0, 4, 0, 0, []), (2, 0, 0, 1, []), (8, 0, 0, 0, []), (32, 0, 0, 0, []), (40, 190, 2, 0, []), (1, 6, 0, 0, []), (0, 2, 3, 0, []), (40, 186, 1, 0, []), (0, 5, 0, 0, []), (19, 123, 0, 0, []), (2, 0, 0, 0, []), (41, 0, 10, 0, []), (0, 5, 0, 0, []), (18, 134, 1, 0, []), (0, 3, 3, 0, []), (2, 0, 0, 0, []), (32, 0, 1, 0, []), (0, 6, 0, 0, []), (14, 0, 0, 0, []), (13, 0, 0, 0, []), (18, 134, 0, 0, []), (2, 0, 0, 0, []), (41, 0, 10, 0, []), (22, 527, 0, 0, []), (0, 1, 3, 0, []), (40, 165, 1, 0, []), (0, 2, 3, 0, []), (40, 231, 1, 0, []), (19, 527, 0, 0, []), (2, 0, 0, 0, []), (41, 0, 10, 0, []), (0, 1, 3, 0, []), (40, 166, 1, 0, []), (0, 2, 3, 0, []), (40, 232, 1, 0, []), (19, 527, 0, 0, []), (2, 0, 0, 0, []), (41, 0, 10, 0, []), (0, 1, 3, 0, []), (0, 0, 3, 0, []), (0, 4, 0, 0, []), (2, 0, 0, 1, []), (8, 0, 0, 0, []), (32, 0, 0, 0, []), (0, 3, 3, 0, []), (40, 309, 3, 2, []), (1, 5, 0, 0, []), (0, 2, 3, 0, []), (0, 0, 3, 0, []), (0, 4, 0, 0, []), (2, 0, 0, 1, []), (8, 0, 0, 0, []), (32, 0, 0, 0, []), (40, 233, 2, 0, []), (1, 6, 0, 0, []), (0, 2, 3, 0, []), (40, 186, 1, 0, []), (0, 5, 0, 0, []), (19, 172, 0, 0, []), (2, 0, 0, 0, []), (41, 0, 10, 0, []), (0, 5, 0, 0, []), (18, 183, 1, 0, []), (0, 3, 3, 0, []), (2, 0, 0, 0, []), (32, 0, 1, 0, []), (0, 6, 0, 0, []), (14, 0, 0, 0, []), (13, 0, 0, 0, []), (18, 183, 0, 0, []), (2, 0, 0, 0, []), (41, 0, 10, 0, []), (22, 527, 0, 0, []), (0, 1, 3, 0, []), (40, 168, 1, 0, []), (0, 2, 3, 0, []), (40, 234, 1, 0, []), (19, 527, 0, 0, []), (2, 0, 0, 0, []), (41, 0, 10, 0, []), (0, 1, 3, 0, []), (0, 0, 3, 0, []), (0, 4, 0, 0, []), (2, 0, 0, 1, []), (8, 0, 0, 0, []), (32, 0, 0, 0, []), (0, 3, 3, 0, []), (40, 310, 3, 2, []), (1, 5, 0, 0, []), (0, 2, 3, 0, []), (0, 0, 3, 0, []), (0, 4, 0, 0, []), (2, 0, 0, 1, []), (8, 0, 0, 0, []), (32, 0, 0, 0, []), (40, 241, 2, 0, []), (1, 6, 0, 0, []), (0, 2, 3, 0, []), (40, 186, 1, 0, []), (0, 5, 0, 0, []), (19, 214, 0, 0, []), (2, 0, 0, 0, []), (41, 0, 10, 0, []), (0, 5, 0, 0, []), (18, 225, 1, 0, []), (0, 3, 3, 0, []), (2, 0, 0, 0, []), (32, 0, 1, 0, []), (0, 6, 0, 0, []), (14, 0, 0, 0, []), (13, 0, 0, 0, []), (18, 225, 0, 0, []), (2, 0, 0, 0, []), (41, 0, 10, 0, []), (22, 527, 0, 0, []), (0, 1, 3, 0, []), (0, 0, 3, 0, []), (0, 4, 0, 0, []), (2, 0, 0, 1, []), (8, 0, 0, 0, []), (32, 0, 0, 0, []), (0, 0, 3, 0, []), (0, 4, 0, 0, []), (2, 0, 0, 2, []), (8, 0, 0, 0, []), (32, 0, 0, 0, []), (0, 3, 3, 0, []), (40, 311, 4, 2, []), (1, 5, 0, 0, []), (0, 2, 3, 0, []), (0, 0, 3, 0, []), (0, 4, 0, 0, []), (2, 0, 0, 1, []), (8, 0, 0, 0, []), (32, 0, 0, 0, []), (0, 0, 3, 0, []), (0, 4, 0, 0, []), (2, 0, 0, 2, []), (8, 0, 0, 0, []), (32, 0, 0, 0, []), (40, 243, 3, 0, []), (1, 6, 0, 0, []), (0, 2, 3, 0, []), (40, 186, 1, 0, []), (0, 5, 0, 0, []), (19, 259, 0, 0, []), (2, 0, 0, 0, []), (41, 0, 10, 0, []), (0, 5, 0, 0, []), (18, 270, 1, 0, []), (0, 3, 3, 0, []), (2, 0, 0, 0, []), (32, 0, 1, 0, []), (0, 6, 0, 0, []), (14, 0, 0, 0, []), (13, 0, 0, 0, []), (18, 270, 0, 0, []), (2, 0, 0, 0, []), (41, 0, 10, 0, []), (22, 527, 0, 0, []), (0, 1, 3, 0, []), (40, 172, 1, 0, []), (0, 2, 3, 0, []), (40, 260, 1, 0, []), (19, 527, 0, 0, []), (2, 0, 0, 0, []), (41, 0, 10, 0, []), (0, 1, 3, 0, []), (0, 0, 3, 0, []), (0, 4, 0, 0, []), (2, 0, 0, 1, []), (8, 0, 0, 0, []), (32, 0, 0, 0, []), (0, 3, 3, 0, []), (40, 312, 3, 2, []), (1, 5, 0, 0, []), (0, 2, 3, 0, []), (0, 0, 3, 0, []), (0, 4, 0, 0, []), (2, 0, 0, 1, []), (8, 0, 0, 0, []), (32, 0, 0, 0, []), (40, 276, 2, 0, []), (1, 6, 0, 0, []), (0, 2, 3, 0, []), (40, 186, 1, 0, []), (0, 5, 0, 0, []), (19, 301, 0, 0, []), (2, 0, 0, 0, []), (41, 0, 10, 0, []), (0, 5, 0, 0, []), (18, 312, 1, 0, []), (0, 3, 3, 0, []), (2, 0, 0, 0, []), (32, 0, 1, 0, []), (0, 6, 0, 0, []), (14, 0, 0, 0, []), (13, 0, 0, 0, []), (18, 312, 0, 0, []), (2, 0, 0, 0, []), (41, 0, 10, 0, []), (22, 527, 0, 0, []), (0, 1, 3, 0, []), (40, 174, 1, 0, []), (0, 2, 3, 0, []), (40, 277, 1, 0, []), (19, 527, 0, 0, []), (2, 0, 0, 0, []), (41, 0, 10, 0, []), (0, 1, 3, 0, []), (0, 0, 3, 0, []), (0, 4, 0, 0, []), (2, 0, 0, 1, []), (8, 0, 0, 0, []), (32, 0, 0, 0, []), (0, 3, 3, 0, []), (40, 313, 3, 2, []), (1, 5, 0, 0, []), (0, 2, 3, 0, []), (0, 0, 3, 0, []), (0, 4, 0, 0, []), (2, 0, 0, 1, []), (8, 0, 0, 0, []), (32, 0, 0, 0, []), (40, 289, 2, 0, []), (1, 6, 0, 0, []), (0, 2, 3, 0, []), (40, 186, 1, 0, []), (0, 5, 0, 0, []), (19, 343, 0, 0, []), (2, 0, 0, 0, []), (41, 0, 10, 0, []), (0, 5, 0, 0, []), (18, 354, 1, 0, []), (0, 3, 3, 0, []), (2, 0, 0, 0, []), (32, 0, 1, 0, []), (0, 6, 0, 0, []), (14, 0, 0, 0, []), (13, 0, 0, 0, []), (18, 354, 0, 0, []), (2, 0, 0, 0, []), (41, 0, 10, 0, []), (22, 527, 0, 0, []), (0, 1, 3, 0, []), (0, 3, 3, 0, []), (40, 314, 2, 2, []), (1, 5, 0, 0, []), (0, 2, 3, 0, []), (40, 291, 1, 0, []), (1, 6, 0, 0, []), (0, 2, 3, 0, []), (40, 186, 1, 0, []), (0, 5, 0, 0, []), (19, 368, 0, 0, []), (2, 0, 0, 0, []), (41, 0, 10, 0, []), (0, 5, 0, 0, []), (18, 379, 1, 0, []), (0, 3, 3, 0, []), (2, 0, 0, 0, []), (32, 0, 1, 0, []), (0, 6, 0, 0, []), (14, 0, 0, 0, []), (13, 0, 0, 0, []), (18, 379, 0, 0, []), (2, 0, 0, 0, []), (41, 0, 10, 0, []), (22, 527, 0, 0, []), (0, 1, 3, 0, []), (0, 0, 3, 0, []), (0, 4, 0, 0, []), (2, 0, 0, 1, []), (8, 0, 0, 0, []), (32, 0, 0, 0, []), (0, 3, 3, 0, []), (40, 315, 3, 2, []), (1, 5, 0, 0, []), (0, 2, 3, 0, []), (0, 0, 3, 0, []), (0, 4, 0, 0, []), (2, 0, 0, 1, []), (8, 0, 0, 0, []), (32, 0, 0, 0, []), (40, 292, 2, 0, []), (1, 6, 0, 0, []), (0, 2, 3, 0, []), (40, 186, 1, 0, []), (0, 5, 0, 0, []), (19, 403, 0, 0, []), (2, 0, 0, 0, []), (41, 0, 10, 0, []), (0, 5, 0, 0, []), (18, 414, 1, 0, []), (0, 3, 3, 0, []), (2, 0, 0, 0, []), (32, 0, 1, 0, []), (0, 6, 0, 0, []), (14, 0, 0, 0, []), (13, 0, 0, 0, []), (18, 414, 0, 0, []), (2, 0, 0, 0, []), (41, 0, 10, 0, []), (22, 527, 0, 0, []), (0, 1, 3, 0, []), (0, 0, 3, 0, []), (0, 4, 0, 0, []), (2, 0, 0, 1, []), (8, 0, 0, 0, []), (32, 0, 0, 0, []), (0, 3, 3, 0, []), (40, 316, 3, 2, []), (1, 5, 0, 0, []), (0, 2, 3, 0, []), (0, 0, 3, 0, []), (0, 4, 0, 0, []), (2, 0, 0, 1, []), (8, 0, 0, 0, []), (32, 0, 0, 0, []), (40, 293, 2, 0, []), (1, 6, 0, 0, []), (0, 2, 3, 0, []), (40, 186, 1, 0, []), (0, 5, 0, 0, []), (19, 438, 0, 0, []), (2, 0, 0, 0, []), (41, 0, 10, 0, []), (0, 5, 0, 0, []), (18, 449, 1, 0, []), (0, 3, 3, 0, []), (2, 0, 0, 0, []), (32, 0, 1, 0, []), (0, 6, 0, 0, []), (14, 0, 0, 0, []), (13, 0, 0, 0, []), (18, 449, 0, 0, []), (2, 0, 0, 0, []), (41, 0, 10, 0, []), (22, 527, 0, 0, []), (0, 1, 3, 0, []), (0, 0, 3, 0, []), (0, 4, 0, 0, []), (2, 0, 0, 1, []), (8, 0, 0, 0, []), (32, 0, 0, 0, []), (0, 0, 3, 0, []), (0, 4, 0, 0, []), (2, 0, 0, 2, []), (8, 0, 0, 0, []), (32, 0, 0, 0, []), (0, 3, 3, 0, []), (40, 317, 4, 2, []), (1, 5, 0, 0, []), (0, 2, 3, 0, []), (0, 0, 3, 0, []), (0, 4, 0, 0, []), (2, 0, 0, 1, []), (8, 0, 0, 0, []), (32, 0, 0, 0, []), (0, 0, 3, 0, []), (0, 4, 0, 0, []), (2, 0, 0, 2, []), (8, 0, 0, 0, []), (32, 0, 0, 0, []), (40, 294, 3, 0, []), (1, 6, 0, 0, []), (0, 2, 3, 0, []), (40, 186, 1, 0, []), (0, 5, 0, 0, []), (19, 483, 0, 0, []), (2, 0, 0, 0, []), (41, 0, 10, 0, []), (0, 5, 0, 0, []), (18, 497, 1, 0, []), (0, 3, 3, 0, []), (2, 0, 0, 0, []), (32, 0, 1, 0, []), (0, 6, 0, 0, []), (18, 492, 0, 0, []), (3, 0, 0, 1, []), (22, 493, 0, 0, []), (3, 0, 0, 0, []), (13, 0, 0, 0, []), (18, 497, 0, 0, []), (2, 0, 0, 0, []), (41, 0, 10, 0, []), (22, 527, 0, 0, []), (0, 1, 3, 0, []), (40, 180, 1, 0, []), (1, 5, 2, 0, []), (0, 2, 3, 0, []), (40, 295, 1, 0, []), (1, 7, 2, 0, []), (0, 5, 2, 0, []), (0, 7, 2, 0, []), (16, 0, 0, 0, []), (18, 518, 0, 0, []), (0, 5, 2, 0, []), (0, 5, 2, 0, []), (16, 0, 0, 0, []), (18, 516, 0, 0, []), (0, 7, 2, 0, []), (0, 7, 2, 0, []), (16, 0, 0, 0, []), (18, 518, 1, 0, []), (2, 0, 0, 0, []), (41, 0, 10, 0, []), (22, 527, 0, 0, []), (0, 1, 3, 0, []), (40, 181, 1, 0, []), (0, 2, 3, 0, []), (40, 296, 1, 0, []), (13, 0, 0, 0, []), (18, 527, 0, 0, []), (2, 0, 0, 0, []), (41, 0, 10, 0, []), (17, 4, 0, 6, []), (22, 13, 0, 0, []), (2, 0, 0, 1, []), (41, 0, 10, 0, [])]
def am_codes : List (List AmIns) := [am_c0, am_c1, am_c2, am_c3, am_c4, am_c5, am_c6, am_c7, am_c8, am_c9, am_c10, am_c11, am_c12, am_c13, am_c14, am_c15, am_c16, am_c17, am_c18, am_c19, am_c20, am_c21, am_c22, am_c23, am_c24, am_c25, am_c26, am_c27, am_c28, am_c29, am_c30, am_c31, am_c32, am_c33, am_c34, am_c35, am_c36, am_c37, am_c38, am_c39, am_c40, am_c41, am_c42, am_c43, am_c44, am_c45, am_c46, am_c47, am_c48, am_c49, am_c50, am_c51, am_c52, am_c53, am_c54, am_c55, am_c56, am_c57, am_c58, am_c59, am_c60, am_c61, am_c62, am_c63, am_c64, am_c65, am_c66, am_c67, am_c68, am_c69, am_c70, am_c71, am_c72, am_c73, am_c74, am_c75, am_c76, am_c77, am_c78, am_c79, am_c80, am_c81, am_c82, am_c83, am_c84, am_c85, am_c86, am_c87, am_c88, am_c89, am_c90, am_c91, am_c92, am_c93, am_c94, am_c95, am_c96, am_c97, am_c98, am_c99, am_c100, am_c101, am_c102, am_c103, am_c104, am_c105, am_c106, am_c107, am_c108, am_c109, am_c110, am_c111, am_c112, am_c113, am_c114, am_c115, am_c116, am_c117, am_c118, am_c119, am_c120, am_c121, am_c122, am_c123, am_c124, am_c125, am_c126, am_c127, am_c128, am_c129, am_c130, am_c131, am_c132, am_c133, am_c134, am_c135, am_c136, am_c137, am_c138, am_c139, am_c140, am_c141, am_c142, am_c143, am_c144, am_c145, am_c146, am_c147, am_c148, am_c149, am_c150, am_c151, am_c152, am_c153, am_c154, am_c155, am_c156, am_c157, am_c158, am_c159, am_c160, am_c161, am_c162, am_c163, am_c164, am_c165, am_c166, am_c167, am_c168, am_c169, am_c170, am_c171, am_c172, am_c173, am_c174, am_c175, am_c176, am_c177, am_c178, am_c179, am_c180, am_c181, am_c182, am_c183, am_c184, am_c185, am_c186, am_c187, am_c188, am_c189, am_c190, am_c191, am_c192, am_c193, am_c194, am_c195, am_c196, am_c197, am_c198, am_c199, am_c200, am_c201, am_c202, am_c203, am_c204, am_c205, am_c206, am_c207, am_c208, am_c209, am_c210, am_c211, am_c212, am_c213, am_c214, am_c215, am_c216, am_c217, am_c218, am_c219, am_c220, am_c221, am_c222, am_c223, am_c224, am_c225, am_c226, am_c227, am_c228, am_c229, am_c230, am_c231, am_c232, am_c233, am_c234, am_c235, am_c236, am_c237, am_c238, am_c239, am_c240, am_c241, am_c242, am_c243, am_c244, am_c245, am_c246, am_c247, am_c248, am_c249, am_c250, am_c251, am_c252, am_c253, am_c254, am_c255, am_c256, am_c257, am_c258, am_c259, am_c260, am_c261, am_c262, am_c263, am_c264, am_c265, am_c266, am_c267, am_c268, am_c269, am_c270, am_c271, am_c272, am_c273, am_c274, am_c275, am_c276, am_c277, am_c278, am_c279, am_c280, am_c281, am_c282, am_c283, am_c284, am_c285, am_c286, am_c287, am_c288, am_c289, am_c290, am_c291, am_c292, am_c293, am_c294, am_c295, am_c296, am_c297, am_c298, am_c299, am_c300, am_c301, am_c302, am_c303, am_c304, am_c305, am_c306, am_c307, am_c308, am_c309, am_c310, am_c311, am_c312, am_c313, am_c314, am_c315, am_c316, am_c317, am_c318]
def am_ys : List MethodName := [yX0_init, yX0_size, yX0_item, yX0_holds, yX0_include, yX0_empty, yX1_init, yX1_evaluate, yX1_value, yX1_find, yX1_compute, yX1_apply, yX2_init, yX2_match, yX2_join, yX2_root, yX3_init, yX3_forget, yX3_keep, yX3_remove, yX3_begin, yX3_make, yX3_chain, yX3_chained, yX3_isOperatorHere, yX3_finish, yX3_clauses, yX3_slot, yX3_head, yX3_body, yX3_arity, yX3_goals, yX3_variables, yX3_uses, yX3_use, yX3_predicates, yX3_clauseFor, yX3_kind, yX3_value, yX3_name, yX3_first, yX3_next, yX3_from, yX3_isAlike, yX3_isOperator, yX4_init, yX4_readProgram, yX4_readQuestion, yX4_errorPlace, yX4_error, yX4_start, yX4_begin, yX4_readClause, yX4_readGoals, yX4_readGoal, yX4_readPlainGoal, yX4_readNot, yX4_readVar, yX4_readRelation, yX4_readTerm, yX4_readProduct, yX4_readSimple, yX4_readVariable, yX4_readNumber, yX4_readName, yX4_readList, yX4_makePairs, yX4_open, yX4_close, yX4_expect, yX4_take, yX4_refuse, yX4_tooMany, yX5_init, yX5_length, yX5_byteOn, yX5_wipe, yX5_compose, yX5_writeItem, yX5_writeTerm, yX5_writeNamed, yX5_writeOperand, yX5_writeTail, yX5_writeChain, yX5_writeOneGoal, yX5_writeBetween, yX5_writeName, yX5_writeDigits, yX5_numberOfFree, yX5_writeByte, yX5_push, yX5_hasRoom, yX6_init, yX6_begin, yX6_leave, yX6_isThere, yX6_has, yX6_variables, yX6_goals, yX6_steps, yX6_solutions, yX6_cuts, yX6_standing, yX6_firstGoal, yX6_advance, yX6_settle, yX6_isAtMark, yX6_goBack, yX6_stepAgain, yX6_step, yX6_useClause, yX6_assign, yX6_compare, yX6_stopByError, yX6_leaveChoice, yX6_chain, yX6_link, yX7_init, yX7_length, yX7_hasRoom, yX7_append, yX7_shorten, yX7_at, yX8_init, yX8_begin, yX8_open, yX8_head, yX8_body, yX8_node, yX8_kind, yX8_name, yX8_isOperator, yX8_isAlike, yX8_first, yX8_next, yX8_cell, yX8_end, yX8_isFree, yX8_isNumber, yX8_numberOf, yX8_result, yX8_bind, yX8_trailed, yX8_undo, yX8_standsIn, yX9_init, yX9_kind, yX9_start, yX9_text, yX9_read, yX9_behindBlanks, yX9_readToken, yX9_readWord, yX9_kindOfWord, yX9_readNumber, yX9_readSymbol, yX9_isSymbol, yX9_isSmall, yX9_isDigit, yX9_behindWord, yX9_nameOf, yX9_keep, yX10_init, yX10_feed, yX10_trim, yX10_consult, yX10_add, yX10_drop, yX10_errorAt, yX10_count, yX10_clause, yX10_finishReading, yX10_ask, yX10_run, yX10_status, yX10_write, yX10_writeGoal, yX10_byteAt, yX10_number, yX10_isSame, yX10_stepsEach, yX10_digest, yX10_at, yX10_put, yX11_init, yX12_init, yX12_thrown, yX12_no, yX12_isIn, yX12_feed, yX12_trim, yX12_byteAtTape, yX12_isSmall, yX12_isDigit, yX12_isBig, yX12_symbolAt, yX12_scan, yX12_is, yX12_which, yX12_isName, yX12_nameOf, yX12_numberOf, yX12_sees, yX12_goes, yX12_takes, yX12_programForm, yX12_clauseForm, yX12_questionForm, yX12_opens, yX12_argumentsForm, yX12_goalsForm, yX12_goalForm, yX12_simpleEnd, yX12_termForm, yX12_productForm, yX12_simpleForm, yX12_listForm, yX12_over, yX12_part, yX12_pair, yX12_variable, yX12_term, yX12_product, yX12_simple, yX12_named, yX12_list, yX12_goals, yX12_goal, yX12_forgetQuestion, yX12_wrong, yX12_read, yX12_consult, yX12_add, yX12_drop, yX12_errorAt, yX12_nameIn, yX12_sizeIn, yX12_areAlike, yX12_predicates, yX12_goalsLeft, yX12_counted, yX12_count, yX12_clauseTold, yX12_clause, yX12_cell, yX12_laid, yX12_end, yX12_argument, yX12_bind, yX12_undo, yX12_standsIn, yX12_leader, yX12_join, yX12_areOne, yX12_unify, yX12_isSameNow, yX12_value, yX12_fault, yX12_worth, yX12_keep, yX12_ask, yX12_rowCell, yX12_rowOf, yX12_innerRow, yX12_choose, yX12_isOf, yX12_nextOf, yX12_heads, yX12_use, yX12_call, yX12_goOn, yX12_canGoOn, yX12_compared, yX12_done, yX12_step, yX12_settle, yX12_run, yX12_status, yX12_put, yX12_put_, yX12_isFull, yX12_putNumber, yX12_putDigits, yX12_putName, yX12_isSigned, yX12_putFree, yX12_putTerm, yX12_isVariable, yX12_kept, yX12_write, yX12_putGoal, yX12_writeGoal, yX12_byteAt, yX12_number, yX12_isSame, yX12_stepsEach, yX12_digest, yJ0_length_8abf5, yJ0_charAt_5068e, yJ0_indexOf_0f7a4, yJ0_indexOf_7cf53, yJ0_coder_7d493, yJ0_isLatin1_aae02, yJ1_charAt_3b067, yJ1_canEncode_9a6ad, yJ1_indexOf_4cfef, yJ1_indexOfChar_4cfef, yL_feed, yL_trim, yL_drop, yL_count, yL_clause, yL_run, yL_write, yL_writeGoal, yL_byteAt, yL_number, yL_isSame, yL_law]
def am_bs : List ByteArray := [cX0_init, cX0_size, cX0_item, cX0_holds, cX0_include, cX0_empty, cX1_init, cX1_evaluate, cX1_value, cX1_find, cX1_compute, cX1_apply, cX2_init, cX2_match, cX2_join, cX2_root, cX3_init, cX3_forget, cX3_keep, cX3_remove, cX3_begin, cX3_make, cX3_chain, cX3_chained, cX3_isOperatorHere, cX3_finish, cX3_clauses, cX3_slot, cX3_head, cX3_body, cX3_arity, cX3_goals, cX3_variables, cX3_uses, cX3_use, cX3_predicates, cX3_clauseFor, cX3_kind, cX3_value, cX3_name, cX3_first, cX3_next, cX3_from, cX3_isAlike, cX3_isOperator, cX4_init, cX4_readProgram, cX4_readQuestion, cX4_errorPlace, cX4_error, cX4_start, cX4_begin, cX4_readClause, cX4_readGoals, cX4_readGoal, cX4_readPlainGoal, cX4_readNot, cX4_readVar, cX4_readRelation, cX4_readTerm, cX4_readProduct, cX4_readSimple, cX4_readVariable, cX4_readNumber, cX4_readName, cX4_readList, cX4_makePairs, cX4_open, cX4_close, cX4_expect, cX4_take, cX4_refuse, cX4_tooMany, cX5_init, cX5_length, cX5_byteOn, cX5_wipe, cX5_compose, cX5_writeItem, cX5_writeTerm, cX5_writeNamed, cX5_writeOperand, cX5_writeTail, cX5_writeChain, cX5_writeOneGoal, cX5_writeBetween, cX5_writeName, cX5_writeDigits, cX5_numberOfFree, cX5_writeByte, cX5_push, cX5_hasRoom, cX6_init, cX6_begin, cX6_leave, cX6_isThere, cX6_has, cX6_variables, cX6_goals, cX6_steps, cX6_solutions, cX6_cuts, cX6_standing, cX6_firstGoal, cX6_advance, cX6_settle, cX6_isAtMark, cX6_goBack, cX6_stepAgain, cX6_step, cX6_useClause, cX6_assign, cX6_compare, cX6_stopByError, cX6_leaveChoice, cX6_chain, cX6_link, cX7_init, cX7_length, cX7_hasRoom, cX7_append, cX7_shorten, cX7_at, cX8_init, cX8_begin, cX8_open, cX8_head, cX8_body, cX8_node, cX8_kind, cX8_name, cX8_isOperator, cX8_isAlike, cX8_first, cX8_next, cX8_cell, cX8_end, cX8_isFree, cX8_isNumber, cX8_numberOf, cX8_result, cX8_bind, cX8_trailed, cX8_undo, cX8_standsIn, cX9_init, cX9_kind, cX9_start, cX9_text, cX9_read, cX9_behindBlanks, cX9_readToken, cX9_readWord, cX9_kindOfWord, cX9_readNumber, cX9_readSymbol, cX9_isSymbol, cX9_isSmall, cX9_isDigit, cX9_behindWord, cX9_nameOf, cX9_keep, cX10_init, cX10_feed, cX10_trim, cX10_consult, cX10_add, cX10_drop, cX10_errorAt, cX10_count, cX10_clause, cX10_finishReading, cX10_ask, cX10_run, cX10_status, cX10_write, cX10_writeGoal, cX10_byteAt, cX10_number, cX10_isSame, cX10_stepsEach, cX10_digest, cX10_at, cX10_put, cX11_init, cX12_init, cX12_thrown, cX12_no, cX12_isIn, cX12_feed, cX12_trim, cX12_byteAtTape, cX12_isSmall, cX12_isDigit, cX12_isBig, cX12_symbolAt, cX12_scan, cX12_is, cX12_which, cX12_isName, cX12_nameOf, cX12_numberOf, cX12_sees, cX12_goes, cX12_takes, cX12_programForm, cX12_clauseForm, cX12_questionForm, cX12_opens, cX12_argumentsForm, cX12_goalsForm, cX12_goalForm, cX12_simpleEnd, cX12_termForm, cX12_productForm, cX12_simpleForm, cX12_listForm, cX12_over, cX12_part, cX12_pair, cX12_variable, cX12_term, cX12_product, cX12_simple, cX12_named, cX12_list, cX12_goals, cX12_goal, cX12_forgetQuestion, cX12_wrong, cX12_read, cX12_consult, cX12_add, cX12_drop, cX12_errorAt, cX12_nameIn, cX12_sizeIn, cX12_areAlike, cX12_predicates, cX12_goalsLeft, cX12_counted, cX12_count, cX12_clauseTold, cX12_clause, cX12_cell, cX12_laid, cX12_end, cX12_argument, cX12_bind, cX12_undo, cX12_standsIn, cX12_leader, cX12_join, cX12_areOne, cX12_unify, cX12_isSameNow, cX12_value, cX12_fault, cX12_worth, cX12_keep, cX12_ask, cX12_rowCell, cX12_rowOf, cX12_innerRow, cX12_choose, cX12_isOf, cX12_nextOf, cX12_heads, cX12_use, cX12_call, cX12_goOn, cX12_canGoOn, cX12_compared, cX12_done, cX12_step, cX12_settle, cX12_run, cX12_status, cX12_put, cX12_put_, cX12_isFull, cX12_putNumber, cX12_putDigits, cX12_putName, cX12_isSigned, cX12_putFree, cX12_putTerm, cX12_isVariable, cX12_kept, cX12_write, cX12_putGoal, cX12_writeGoal, cX12_byteAt, cX12_number, cX12_isSame, cX12_stepsEach, cX12_digest, cJ0_length_8abf5, cJ0_charAt_5068e, cJ0_indexOf_0f7a4, cJ0_indexOf_7cf53, cJ0_coder_7d493, cJ0_isLatin1_aae02, cJ1_charAt_3b067, cJ1_canEncode_9a6ad, cJ1_indexOf_4cfef, cJ1_indexOfChar_4cfef, cL_feed, cL_trim, cL_drop, cL_count, cL_clause, cL_run, cL_write, cL_writeGoal, cL_byteAt, cL_number, cL_isSame, cL_law]
def am_infos : List (Nat × Nat × List (Nat × Nat × Nat × Nat)) := [(2, 1, []), (2, 1, []), (2, 2, []), (2, 2, []), (2, 2, []), (2, 1, []), (3, 2, []), (3, 2, []), (3, 1, []), (3, 3, []), (3, 3, []), (3, 4, []), (4, 2, []), (4, 4, []), (4, 4, []), (4, 2, []), (5, 1, []), (5, 1, []), (5, 2, []), (5, 2, []), (5, 2, []), (5, 5, []), (5, 3, []), (5, 2, []), (5, 2, []), (5, 5, []), (5, 1, []), (5, 2, []), (5, 2, []), (5, 2, []), (5, 2, []), (5, 2, []), (5, 2, []), (5, 2, []), (5, 2, []), (5, 1, []), (5, 3, []), (5, 2, []), (5, 2, []), (5, 2, []), (5, 2, []), (5, 2, []), (5, 2, []), (5, 3, []), (5, 2, []), (6, 3, []), (6, 1, []), (6, 1, []), (6, 1, []), (6, 1, []), (6, 1, []), (6, 2, []), (6, 2, []), (6, 1, []), (6, 1, []), (6, 1, []), (6, 1, []), (6, 1, []), (6, 1, []), (6, 1, []), (6, 1, []), (6, 1, []), (6, 1, []), (6, 2, []), (6, 1, []), (6, 1, []), (6, 3, []), (6, 2, []), (6, 2, []), (6, 2, []), (6, 1, []), (6, 1, []), (6, 1, []), (7, 2, []), (7, 1, []), (7, 2, []), (7, 1, []), (7, 3, []), (7, 3, []), (7, 2, []), (7, 2, []), (7, 2, []), (7, 2, []), (7, 4, []), (7, 2, []), (7, 5, []), (7, 2, []), (7, 2, []), (7, 2, []), (7, 2, []), (7, 3, []), (7, 1, []), (8, 4, []), (8, 1, []), (8, 1, []), (8, 1, []), (8, 2, []), (8, 1, []), (8, 1, []), (8, 1, []), (8, 1, []), (8, 1, []), (8, 1, []), (8, 1, []), (8, 2, []), (8, 2, []), (8, 1, []), (8, 1, []), (8, 1, []), (8, 1, []), (8, 3, []), (8, 3, []), (8, 4, []), (8, 1, []), (8, 4, []), (8, 4, []), (8, 4, []), (9, 1, []), (9, 1, []), (9, 1, []), (9, 2, []), (9, 2, []), (9, 2, []), (10, 2, []), (10, 1, []), (10, 3, []), (10, 2, []), (10, 2, []), (10, 2, []), (10, 2, []), (10, 2, []), (10, 2, []), (10, 3, []), (10, 2, []), (10, 2, []), (10, 2, []), (10, 2, []), (10, 2, []), (10, 2, []), (10, 2, []), (10, 3, []), (10, 3, []), (10, 1, []), (10, 2, []), (10, 3, []), (11, 2, []), (11, 2, []), (11, 2, []), (11, 2, []), (11, 1, []), (11, 2, []), (11, 2, []), (11, 2, []), (1, 1, []), (11, 2, []), (11, 4, []), (1, 1, []), (1, 1, []), (1, 1, []), (11, 2, []), (11, 3, []), (11, 5, []), (12, 1, []), (12, 6, []), (12, 2, []), (12, 1, []), (12, 1, []), (12, 2, []), (12, 1, []), (12, 2, []), (12, 3, []), (12, 2, []), (12, 1, []), (12, 2, []), (12, 1, []), (12, 2, []), (12, 1, []), (12, 2, []), (12, 2, []), (12, 3, []), (12, 1, []), (12, 1, []), (1, 2, []), (1, 3, []), (13, 1, []), (14, 1, []), (14, 1, []), (14, 2, []), (1, 3, []), (14, 6, []), (14, 2, []), (14, 2, []), (1, 1, []), (1, 1, []), (1, 1, []), (14, 2, []), (14, 1, []), (14, 3, []), (14, 3, []), (14, 2, []), (14, 2, []), (14, 2, []), (14, 2, []), (14, 1, []), (14, 2, []), (14, 1, []), (14, 1, []), (14, 1, []), (14, 3, []), (14, 2, []), (14, 2, []), (14, 2, []), (14, 2, []), (14, 2, []), (14, 2, []), (14, 2, []), (14, 2, []), (14, 2, []), (14, 4, []), (14, 4, []), (14, 2, []), (14, 1, []), (14, 1, []), (14, 1, []), (14, 2, []), (14, 1, []), (14, 1, []), (14, 1, []), (14, 1, []), (14, 3, []), (14, 2, []), (14, 1, []), (14, 1, []), (14, 2, []), (14, 1, []), (1, 1, []), (1, 1, []), (1, 2, []), (14, 1, []), (14, 1, []), (14, 2, []), (14, 2, []), (14, 3, []), (14, 3, []), (14, 4, []), (14, 4, []), (14, 2, []), (14, 3, []), (14, 3, []), (14, 2, []), (14, 3, []), (14, 2, []), (14, 3, []), (14, 4, []), (14, 3, []), (14, 3, []), (14, 2, []), (14, 1, []), (14, 3, []), (14, 4, []), (14, 1, []), (14, 4, []), (14, 6, []), (14, 4, []), (14, 8, []), (14, 3, []), (14, 3, []), (14, 3, []), (14, 4, []), (14, 2, []), (14, 1, []), (14, 1, []), (14, 4, []), (14, 2, []), (14, 1, []), (14, 2, []), (14, 2, []), (14, 1, []), (14, 2, []), (14, 2, []), (14, 1, []), (14, 2, []), (14, 2, []), (14, 2, []), (1, 1, []), (14, 2, []), (14, 3, []), (14, 2, []), (14, 3, []), (14, 2, []), (14, 2, []), (14, 1, []), (14, 2, []), (14, 2, []), (14, 3, []), (14, 1, []), (14, 1, []), (78, 1, []), (78, 2, []), (78, 2, []), (78, 3, []), (78, 1, []), (78, 1, []), (1, 2, []), (1, 1, []), (1, 4, []), (1, 4, []), (1, 7, [(0, 11, 12, 0)]), (1, 3, [(0, 7, 8, 1)]), (1, 3, [(0, 7, 8, 2)]), (1, 3, [(0, 7, 8, 2)]), (1, 4, [(0, 8, 9, 2)]), (1, 3, [(0, 7, 8, 1), (0, 7, 11, 0)]), (1, 3, [(0, 7, 8, 2), (0, 7, 11, 0)]), (1, 2, [(0, 6, 7, 0)]), (1, 3, [(0, 7, 8, 2)]), (1, 3, [(0, 7, 8, 2), (0, 7, 11, 0)]), (1, 4, [(0, 11, 12, 2)]), (1, 1, [])]
def am_fks : List (List Nat) := [[3, 3, 0], [3, 3, 3, 3, 0, 0], [3, 3, 3, 0], [3, 3, 3, 3, 3, 3, 3, 3, 3, 3, 3, 3, 0, 0, 0], [3, 3, 3, 0, 0, 10, 0, 0, 0, 0, 0], [3, 3, 0, 3, 0, 3, 0, 3, 0, 10], [3, 3, 3, 3, 3, 3, 3, 0, 0, 3, 3, 3, 3, 0, 0, 10, 0, 0, 0], [3, 0], [3, 3, 3, 3, 3, 0, 3], [3, 3, 3, 3, 0], [3, 3, 3, 3, 3, 3, 3, 0], [3, 3, 3, 3, 3, 0, 0, 0, 0, 3, 0, 3, 3, 3, 3, 3, 0, 0], [0, 3, 0, 0, 3, 3, 3, 0, 0, 0, 3, 3, 0, 3, 3, 0, 0, 0, 0, 0, 3, 3, 3, 3, 0, 3, 0, 3, 3, 3, 3, 0, 3, 0, 3, 3, 3, 3, 3, 3, 0, 0, 3, 3, 3, 3, 3, 3, 3, 3, 10, 3, 0, 0, 3, 3, 3, 3, 10, 3, 0, 3]]
def am_fk (c k : Nat) : Nat := (am_fks.getD c []).getD k 0
/-- the texts of the string constants, by their numbers; the static rows of texts -/
def am_txs : List (List Nat) := [[110, 111, 116, 104, 105, 110, 103, 32, 111, 102, 32, 116, 104, 105, 115, 32, 107, 105, 110, 100, 32, 105, 115, 32, 99, 111, 117, 110, 116, 101, 100], [116, 104, 101, 114, 101, 32, 105, 115, 32, 110, 111, 32, 115, 117, 99, 104, 32, 99, 108, 97, 117, 115, 101, 44, 32, 111, 114, 32, 110, 111, 32, 115, 117, 99, 104, 32, 99, 111, 117, 110, 116, 32, 111, 102, 32, 111, 110, 101], [116, 104, 101, 32, 116, 97, 112, 101, 32, 105, 115, 32, 102, 117, 108, 108], [116, 104, 101, 32, 116, 97, 112, 101, 32, 104, 97, 115, 32, 110, 111, 116, 32, 115, 111, 32, 109, 97, 110, 121, 32, 98, 121, 116, 101, 115], [116, 104, 101, 114, 101, 32, 105, 115, 32, 110, 111, 32, 115, 117, 99, 104, 32, 99, 108, 97, 117, 115, 101], [49, 32, 116, 111, 32, 53, 48, 48, 32, 115, 116, 101, 112, 115, 32, 97, 114, 101, 32, 100, 111, 110, 101, 32, 97, 116, 32, 111, 110, 99, 101], [116, 104, 101, 114, 101, 32, 105, 115, 32, 110, 111, 32, 113, 117, 101, 115, 116, 105, 111, 110], [116, 104, 101, 114, 101, 32, 105, 115, 32, 110, 111, 32, 115, 117, 99, 104, 32, 118, 97, 114, 105, 97, 98, 108, 101], [116, 104, 101, 32, 112, 97, 112, 101, 114, 32, 105, 115, 32, 116, 111, 111, 32, 115, 109, 97, 108, 108], [116, 104, 101, 114, 101, 32, 105, 115, 32, 110, 111, 32, 115, 117, 99, 104, 32, 112, 108, 97, 99, 101, 32, 111, 110, 32, 116, 104, 101, 32, 112, 97, 112, 101, 114], [116, 104, 101, 32, 118, 97, 114, 105, 97, 98, 108, 101, 32, 105, 115, 32, 110, 111, 32, 110, 117, 109, 98, 101, 114], [40, 41, 91, 93, 44, 46, 124, 33, 43, 45, 42, 47, 60], [40], [45], [41], [91], [93], [44], [124], [42], [47], [109, 111, 100], [43], [58, 45], [33], [116, 114, 117, 101], [102, 97, 105, 108], [110, 111, 116], [118, 97, 114], [46], [91, 93], [32, 109, 111, 100, 32], [118, 97, 114, 40], [110, 111, 116, 40], [32, 105, 115, 32], [105, 115], [61], [92, 61], [61, 61], [60], [62], [61, 60], [62, 61]]
def am_sts : List (List Nat) := [[25, 26, 27, 28, 35, 21], [36, 37, 38, 39, 40, 41, 42, 35], [22, 13, 19, 20, 21]]
def am_NS : Nat := 43
def am_I0 (L : Nat) : Nat → Nat × Nat := fun k => cond (Nat.blt k am_EXT) (0, 0) (cond (Nat.beq k am_EXT) (71, L) (cond (Nat.blt k (am_EXT + 4)) (76, (am_sts.getD (k - (am_EXT + 1)) []).length) (cond (Nat.blt k (am_EXT + 4 + am_NS)) (77, 2) (cond (Nat.blt k (am_EXT + 4 + am_NS + am_NS)) (74, (am_txs.getD (k - (am_EXT + 4 + am_NS)) []).length) (0, 0)))))
def am_M0 (xs : Nat → Int32) : Nat → Nat → Value := fun k j => cond (Nat.blt k am_EXT) .null (cond (Nat.beq k am_EXT) (.int (xs j)) (cond (Nat.blt k (am_EXT + 4)) (.ref (am_EXT + 4 + (am_sts.getD (k - (am_EXT + 1)) []).getD j 0)) (cond (Nat.blt k (am_EXT + 4 + am_NS)) (cond (Nat.beq j 0) (.ref (k + am_NS)) (.int 0)) (cond (Nat.blt k (am_EXT + 4 + am_NS + am_NS)) (.int (Int32.ofNat ((am_txs.getD (k - (am_EXT + 4 + am_NS)) []).getD j 0))) .null))))
def am_S0 (L : Nat) (xs : Nat → Int32) : AmS := (am_I0 L, am_M0 xs, 0, 0, 0)
def am_P : AmP := (fun j => am_codes.getD j [], fun j => am_infos.getD j (0, 0, []), am_fk)
end
section
def am_e0 : List (Nat × Instr × Nat × List Nat) := [(0, .aload_n 0, 1, []), (1, .invokespecial 3, 3, [326]), (4, .aload_n 0, 1, []), (5, .sipush 8016, 3, []), (8, .newarray .boolean, 2, []), (10, .putfield 11, 3, [327]), (13, .aload_n 0, 1, []), (14, .sipush 8016, 3, []), (17, .newarray .int, 2, []), (19, .putfield 17, 3, [328]), (22, .return_, 1, [])]
def am_e1 : List (Nat × Instr × Nat × List Nat) := [(0, .aload_n 0, 1, []), (1, .getfield 21, 3, [329]), (4, .ireturn, 1, [])]
def am_e2 : List (Nat × Instr × Nat × List Nat) := [(0, .iload_n 1, 1, []), (1, .ifCond .lt 29, 3, []), (4, .iload_n 1, 1, []), (5, .aload_n 0, 1, []), (6, .getfield 21, 3, [329]), (9, .if_icmp .ge 21, 3, []), (12, .iload_n 1, 1, []), (13, .aload_n 0, 1, []), (14, .getfield 17, 3, [328]), (17, .arraylength, 1, []), (18, .if_icmp .ge 12, 3, []), (21, .aload_n 0, 1, []), (22, .getfield 17, 3, [328]), (25, .iload_n 1, 1, []), (26, .iaload, 1, []), (27, .goto 4, 3, []), (30, .iconst (-1), 1, []), (31, .ireturn, 1, [])]
def am_e3 : List (Nat × Instr × Nat × List Nat) := [(0, .iload_n 1, 1, []), (1, .ifCond .lt 25, 3, []), (4, .iload_n 1, 1, []), (5, .aload_n 0, 1, []), (6, .getfield 11, 3, [327]), (9, .arraylength, 1, []), (10, .if_icmp .ge 16, 3, []), (13, .aload_n 0, 1, []), (14, .getfield 11, 3, [327]), (17, .iload_n 1, 1, []), (18, .baload, 1, []), (19, .ifCond .eq 7, 3, []), (22, .iconst 1, 1, []), (23, .goto 4, 3, []), (26, .iconst 0, 1, []), (27, .ireturn, 1, [])]
def am_e4 : List (Nat × Instr × Nat × List Nat) := [(0, .iload_n 1, 1, []), (1, .ifCond .lt 67, 3, []), (4, .iload_n 1, 1, []), (5, .aload_n 0, 1, []), (6, .getfield 11, 3, [327]), (9, .arraylength, 1, []), (10, .if_icmp .ge 58, 3, []), (13, .aload_n 0, 1, []), (14, .getfield 11, 3, [327]), (17, .iload_n 1, 1, []), (18, .baload, 1, []), (19, .ifCond .ne 49, 3, []), (22, .aload_n 0, 1, []), (23, .getfield 21, 3, [329]), (26, .ifCond .lt 42, 3, []), (29, .aload_n 0, 1, []), (30, .getfield 21, 3, [329]), (33, .aload_n 0, 1, []), (34, .getfield 17, 3, [328]), (37, .arraylength, 1, []), (38, .if_icmp .ge 30, 3, []), (41, .aload_n 0, 1, []), (42, .getfield 11, 3, [327]), (45, .iload_n 1, 1, []), (46, .iconst 1, 1, []), (47, .bastore, 1, []), (48, .aload_n 0, 1, []), (49, .getfield 17, 3, [328]), (52, .aload_n 0, 1, []), (53, .getfield 21, 3, [329]), (56, .iload_n 1, 1, []), (57, .iastore, 1, []), (58, .aload_n 0, 1, []), (59, .dup, 1, []), (60, .getfield 21, 3, [329]), (63, .iconst 1, 1, []), (64, .iadd, 1, []), (65, .putfield 21, 3, [329]), (68, .return_, 1, [])]
def am_e5 : List (Nat × Instr × Nat × List Nat) := [(0, .iconst 0, 1, []), (1, .istore_n 1, 1, []), (2, .iload_n 1, 1, []), (3, .aload_n 0, 1, []), (4, .getfield 21, 3, [329]), (7, .if_icmp .ge 45, 3, []), (10, .iload_n 1, 1, []), (11, .aload_n 0, 1, []), (12, .getfield 17, 3, [328]), (15, .arraylength, 1, []), (16, .if_icmp .ge 36, 3, []), (19, .aload_n 0, 1, []), (20, .getfield 17, 3, [328]), (23, .iload_n 1, 1, []), (24, .iaload, 1, []), (25, .istore_n 2, 1, []), (26, .iload_n 2, 1, []), (27, .ifCond .lt 19, 3, []), (30, .iload_n 2, 1, []), (31, .aload_n 0, 1, []), (32, .getfield 11, 3, [327]), (35, .arraylength, 1, []), (36, .if_icmp .ge 10, 3, []), (39, .aload_n 0, 1, []), (40, .getfield 11, 3, [327]), (43, .iload_n 2, 1, []), (44, .iconst 0, 1, []), (45, .bastore, 1, []), (46, .iinc 1 1, 3, []), (49, .goto (-47), 3, []), (52, .aload_n 0, 1, []), (53, .iconst 0, 1, []), (54, .putfield 21, 3, [329]), (57, .return_, 1, [])]
def am_e6 : List (Nat × Instr × Nat × List Nat) := [(0, .aload_n 0, 1, []), (1, .invokespecial 3, 3, [391]), (4, .aload_n 0, 1, []), (5, .new 9, 3, [392]), (8, .dup, 1, []), (9, .invokespecial 11, 3, [393]), (12, .putfield 12, 3, [395]), (15, .aload_n 0, 1, []), (16, .sipush 8016, 3, []), (19, .newarray .int, 2, []), (21, .putfield 20, 3, [396]), (24, .aload_n 0, 1, []), (25, .sipush 8016, 3, []), (28, .newarray .int, 2, []), (30, .putfield 24, 3, [397]), (33, .aload_n 0, 1, []), (34, .aload_n 1, 1, []), (35, .putfield 27, 3, [394]), (38, .return_, 1, [])]
def am_e7 : List (Nat × Instr × Nat × List Nat) := [(0, .aload_n 0, 1, []), (1, .iload_n 1, 1, []), (2, .iconst 0, 1, []), (3, .invokevirtual 31, 3, [1263]), (6, .istore_n 2, 1, []), (7, .aload_n 0, 1, []), (8, .getfield 12, 3, [395]), (11, .invokevirtual 35, 3, [1306]), (14, .iload_n 2, 1, []), (15, .ireturn, 1, [])]
def am_e8 : List (Nat × Instr × Nat × List Nat) := [(0, .aload_n 0, 1, []), (1, .getfield 38, 3, [398]), (4, .ireturn, 1, [])]
def am_e9 : List (Nat × Instr × Nat × List Nat) := [(0, .aload_n 0, 1, []), (1, .getfield 27, 3, [394]), (4, .iload_n 1, 1, []), (5, .invokevirtual 42, 3, [1267]), (8, .istore_n 3, 1, []), (9, .aload_n 0, 1, []), (10, .getfield 12, 3, [395]), (13, .iload_n 3, 1, []), (14, .invokevirtual 46, 3, [1271]), (17, .ifCond .eq 44, 3, []), (20, .aload_n 0, 1, []), (21, .aload_n 0, 1, []), (22, .getfield 20, 3, [396]), (25, .iload_n 3, 1, []), (26, .invokestatic 50, 3, [1272]), (29, .putfield 38, 3, [398]), (32, .aload_n 0, 1, []), (33, .aload_n 0, 1, []), (34, .getfield 24, 3, [397]), (37, .iload_n 3, 1, []), (38, .invokestatic 50, 3, [1272]), (41, .putfield 54, 3, [399]), (44, .iload_n 2, 1, []), (45, .aload_n 0, 1, []), (46, .getfield 54, 3, [399]), (49, .iadd, 1, []), (50, .bipush 60, 2, []), (52, .if_icmp .gt 7, 3, []), (55, .iconst 1, 1, []), (56, .goto 4, 3, []), (59, .iconst 0, 1, []), (60, .ireturn, 1, []), (61, .aload_n 0, 1, []), (62, .aload_n 0, 1, []), (63, .getfield 27, 3, [394]), (66, .iload_n 1, 1, []), (67, .invokevirtual 57, 3, [1273]), (70, .iload_n 2, 1, []), (71, .invokevirtual 60, 3, [1274]), (74, .istore 4, 2, []), (76, .iload 4, 2, []), (78, .ifCond .eq 40, 3, []), (81, .iload_n 3, 1, []), (82, .iconst (-1), 1, []), (83, .if_icmp .eq 35, 3, []), (86, .aload_n 0, 1, []), (87, .getfield 20, 3, [396]), (90, .iload_n 3, 1, []), (91, .aload_n 0, 1, []), (92, .getfield 38, 3, [398]), (95, .invokestatic 63, 3, [1304]), (98, .aload_n 0, 1, []), (99, .getfield 24, 3, [397]), (102, .iload_n 3, 1, []), (103, .aload_n 0, 1, []), (104, .getfield 54, 3, [399]), (107, .invokestatic 63, 3, [1304]), (110, .aload_n 0, 1, []), (111, .getfield 12, 3, [395]), (114, .iload_n 3, 1, []), (115, .invokevirtual 67, 3, [1305]), (118, .iload 4, 2, []), (120, .ireturn, 1, [])]
def am_e10 : List (Nat × Instr × Nat × List Nat) := [(0, .aload_n 0, 1, []), (1, .getfield 27, 3, [394]), (4, .iload_n 1, 1, []), (5, .invokevirtual 71, 3, [1278]), (8, .ifCond .eq 22, 3, []), (11, .aload_n 0, 1, []), (12, .aload_n 0, 1, []), (13, .getfield 27, 3, [394]), (16, .iload_n 1, 1, []), (17, .invokevirtual 74, 3, [1279]), (20, .putfield 38, 3, [398]), (23, .aload_n 0, 1, []), (24, .iconst 0, 1, []), (25, .putfield 54, 3, [399]), (28, .iconst 1, 1, []), (29, .ireturn, 1, []), (30, .aload_n 0, 1, []), (31, .getfield 27, 3, [394]), (34, .iload_n 1, 1, []), (35, .invokevirtual 77, 3, [1280]), (38, .ifCond .eq 9, 3, []), (41, .iload_n 2, 1, []), (42, .bipush 60, 2, []), (44, .if_icmp .lt 5, 3, []), (47, .iconst 0, 1, []), (48, .ireturn, 1, []), (49, .aload_n 0, 1, []), (50, .getfield 27, 3, [394]), (53, .iload_n 1, 1, []), (54, .invokevirtual 80, 3, [1285]), (57, .istore_n 3, 1, []), (58, .aload_n 0, 1, []), (59, .iload_n 3, 1, []), (60, .iload_n 2, 1, []), (61, .iconst 1, 1, []), (62, .iadd, 1, []), (63, .invokevirtual 31, 3, [1263]), (66, .ifCond .ne 5, 3, []), (69, .iconst 0, 1, []), (70, .ireturn, 1, []), (71, .aload_n 0, 1, []), (72, .getfield 38, 3, [398]), (75, .istore 4, 2, []), (77, .aload_n 0, 1, []), (78, .getfield 54, 3, [399]), (81, .istore 5, 2, []), (83, .aload_n 0, 1, []), (84, .aload_n 0, 1, []), (85, .getfield 27, 3, [394]), (88, .iload_n 3, 1, []), (89, .invokevirtual 83, 3, [1286]), (92, .iload_n 2, 1, []), (93, .iconst 1, 1, []), (94, .iadd, 1, []), (95, .invokevirtual 31, 3, [1263]), (98, .ifCond .ne 5, 3, []), (101, .iconst 0, 1, []), (102, .ireturn, 1, []), (103, .aload_n 0, 1, []), (104, .iconst 1, 1, []), (105, .iload 5, 2, []), (107, .aload_n 0, 1, []), (108, .getfield 54, 3, [399]), (111, .invokestatic 86, 3, [1287]), (114, .iadd, 1, []), (115, .putfield 54, 3, [399]), (118, .aload_n 0, 1, []), (119, .aload_n 0, 1, []), (120, .getfield 27, 3, [394]), (123, .iload_n 1, 1, []), (124, .invokevirtual 92, 3, [1288]), (127, .iload 4, 2, []), (129, .aload_n 0, 1, []), (130, .getfield 38, 3, [398]), (133, .invokevirtual 96, 3, [1296]), (136, .ireturn, 1, [])]
def am_e11 : List (Nat × Instr × Nat × List Nat) := [(0, .lload_n 1, 1, []), (1, .ldc2_w 100, 3, [1300]), (4, .lcmp, 1, []), (5, .ifCond .ne 13, 3, []), (8, .aload_n 0, 1, []), (9, .iload_n 3, 1, []), (10, .iload 4, 2, []), (12, .iadd, 1, []), (13, .putfield 38, 3, [398]), (16, .iconst 1, 1, []), (17, .ireturn, 1, []), (18, .lload_n 1, 1, []), (19, .ldc2_w 102, 3, [1301]), (22, .lcmp, 1, []), (23, .ifCond .ne 13, 3, []), (26, .aload_n 0, 1, []), (27, .iload_n 3, 1, []), (28, .iload 4, 2, []), (30, .isub, 1, []), (31, .putfield 38, 3, [398]), (34, .iconst 1, 1, []), (35, .ireturn, 1, []), (36, .lload_n 1, 1, []), (37, .ldc2_w 104, 3, [1302]), (40, .lcmp, 1, []), (41, .ifCond .ne 13, 3, []), (44, .aload_n 0, 1, []), (45, .iload_n 3, 1, []), (46, .iload 4, 2, []), (48, .imul, 1, []), (49, .putfield 38, 3, [398]), (52, .iconst 1, 1, []), (53, .ireturn, 1, []), (54, .iload 4, 2, []), (56, .ifCond .ne 5, 3, []), (59, .iconst 0, 1, []), (60, .ireturn, 1, []), (61, .aload_n 0, 1, []), (62, .lload_n 1, 1, []), (63, .ldc2_w 106, 3, [1303]), (66, .lcmp, 1, []), (67, .ifCond .ne 10, 3, []), (70, .iload_n 3, 1, []), (71, .iload 4, 2, []), (73, .idiv, 1, []), (74, .goto 7, 3, []), (77, .iload_n 3, 1, []), (78, .iload 4, 2, []), (80, .irem, 1, []), (81, .putfield 38, 3, [398]), (84, .iconst 1, 1, []), (85, .ireturn, 1, [])]
def am_e12 : List (Nat × Instr × Nat × List Nat) := [(0, .aload_n 0, 1, []), (1, .invokespecial 3, 3, [365]), (4, .aload_n 0, 1, []), (5, .ldc 11, 2, [366]), (7, .newarray .int, 2, []), (9, .putfield 12, 3, [368]), (12, .aload_n 0, 1, []), (13, .sipush 32064, 3, []), (16, .newarray .int, 2, []), (18, .putfield 18, 3, [369]), (21, .aload_n 0, 1, []), (22, .aload_n 1, 1, []), (23, .putfield 21, 3, [367]), (26, .return_, 1, [])]
def am_e13 : List (Nat × Instr × Nat × List Nat) := [(0, .aload_n 0, 1, []), (1, .getfield 21, 3, [367]), (4, .invokevirtual 25, 3, [1138]), (7, .istore 4, 2, []), (9, .aload_n 0, 1, []), (10, .iload_n 1, 1, []), (11, .iload_n 2, 1, []), (12, .iload_n 3, 1, []), (13, .invokevirtual 29, 3, [1142]), (16, .istore 5, 2, []), (18, .iconst 0, 1, []), (19, .istore 6, 2, []), (21, .iload 6, 2, []), (23, .aload_n 0, 1, []), (24, .getfield 33, 3, [370]), (27, .if_icmp .ge 121, 3, []), (30, .iload 5, 2, []), (32, .ifCond .eq 116, 3, []), (35, .aload_n 0, 1, []), (36, .getfield 18, 3, [369]), (39, .iload 6, 2, []), (41, .invokestatic 37, 3, [1223]), (44, .istore 7, 2, []), (46, .aload_n 0, 1, []), (47, .getfield 21, 3, [367]), (50, .iload 7, 2, []), (52, .invokevirtual 41, 3, [1214]), (55, .istore 8, 2, []), (57, .aload_n 0, 1, []), (58, .getfield 21, 3, [367]), (61, .aload_n 0, 1, []), (62, .getfield 12, 3, [368]), (65, .iload 7, 2, []), (67, .invokestatic 37, 3, [1223]), (70, .iconst 1, 1, []), (71, .isub, 1, []), (72, .invokevirtual 41, 3, [1214]), (75, .istore 9, 2, []), (77, .iconst 0, 1, []), (78, .istore 10, 2, []), (80, .iload 10, 2, []), (82, .iconst 4, 1, []), (83, .if_icmp .ge 59, 3, []), (86, .iload 5, 2, []), (88, .ifCond .eq 54, 3, []), (91, .iload 8, 2, []), (93, .iconst (-1), 1, []), (94, .if_icmp .eq 48, 3, []), (97, .iload 9, 2, []), (99, .iconst (-1), 1, []), (100, .if_icmp .eq 42, 3, []), (103, .aload_n 0, 1, []), (104, .iload 8, 2, []), (106, .iload 9, 2, []), (108, .iload_n 3, 1, []), (109, .invokevirtual 29, 3, [1142]), (112, .istore 5, 2, []), (114, .aload_n 0, 1, []), (115, .getfield 21, 3, [367]), (118, .iload 8, 2, []), (120, .invokevirtual 45, 3, [1224]), (123, .istore 8, 2, []), (125, .aload_n 0, 1, []), (126, .getfield 21, 3, [367]), (129, .iload 9, 2, []), (131, .invokevirtual 45, 3, [1224]), (134, .istore 9, 2, []), (136, .iinc 10 1, 3, []), (139, .goto (-59), 3, []), (142, .iinc 6 1, 3, []), (145, .goto (-124), 3, []), (148, .iconst 0, 1, []), (149, .istore 6, 2, []), (151, .iload 6, 2, []), (153, .aload_n 0, 1, []), (154, .getfield 33, 3, [370]), (157, .if_icmp .ge 26, 3, []), (160, .aload_n 0, 1, []), (161, .getfield 12, 3, [368]), (164, .aload_n 0, 1, []), (165, .getfield 18, 3, [369]), (168, .iload 6, 2, []), (170, .invokestatic 37, 3, [1223]), (173, .iconst 0, 1, []), (174, .invokestatic 48, 3, [1222]), (177, .iinc 6 1, 3, []), (180, .goto (-29), 3, []), (183, .aload_n 0, 1, []), (184, .iconst 0, 1, []), (185, .putfield 33, 3, [370]), (188, .iload 5, 2, []), (190, .ifCond .ne 12, 3, []), (193, .aload_n 0, 1, []), (194, .getfield 21, 3, [367]), (197, .iload 4, 2, []), (199, .invokevirtual 52, 3, [1225]), (202, .iload 5, 2, []), (204, .ireturn, 1, [])]
def am_e14 : List (Nat × Instr × Nat × List Nat) := [(0, .aload_n 0, 1, []), (1, .aload_n 0, 1, []), (2, .getfield 21, 3, [367]), (5, .iload_n 1, 1, []), (6, .invokevirtual 56, 3, [1146]), (9, .invokevirtual 59, 3, [1159]), (12, .istore 4, 2, []), (14, .aload_n 0, 1, []), (15, .aload_n 0, 1, []), (16, .getfield 21, 3, [367]), (19, .iload_n 2, 1, []), (20, .invokevirtual 56, 3, [1146]), (23, .invokevirtual 59, 3, [1159]), (26, .istore 5, 2, []), (28, .iload 4, 2, []), (30, .iload 5, 2, []), (32, .if_icmp .ne 5, 3, []), (35, .iconst 1, 1, []), (36, .ireturn, 1, []), (37, .iload 4, 2, []), (39, .iload 5, 2, []), (41, .invokestatic 62, 3, [1163]), (44, .istore 6, 2, []), (46, .iload 4, 2, []), (48, .iload 5, 2, []), (50, .invokestatic 68, 3, [1164]), (53, .istore 7, 2, []), (55, .aload_n 0, 1, []), (56, .getfield 21, 3, [367]), (59, .iload 6, 2, []), (61, .invokevirtual 71, 3, [1165]), (64, .ifCond .eq 36, 3, []), (67, .iload_n 3, 1, []), (68, .ifCond .eq 17, 3, []), (71, .aload_n 0, 1, []), (72, .getfield 21, 3, [367]), (75, .iload 6, 2, []), (77, .iload 7, 2, []), (79, .invokevirtual 75, 3, [1169]), (82, .ifCond .eq 5, 3, []), (85, .iconst 0, 1, []), (86, .ireturn, 1, []), (87, .aload_n 0, 1, []), (88, .getfield 21, 3, [367]), (91, .iload 6, 2, []), (93, .iload 7, 2, []), (95, .invokevirtual 79, 3, [1197]), (98, .iconst 1, 1, []), (99, .ireturn, 1, []), (100, .aload_n 0, 1, []), (101, .getfield 21, 3, [367]), (104, .iload 4, 2, []), (106, .invokevirtual 83, 3, [1201]), (109, .ifCond .ne 15, 3, []), (112, .aload_n 0, 1, []), (113, .getfield 21, 3, [367]), (116, .iload 5, 2, []), (118, .invokevirtual 83, 3, [1201]), (121, .ifCond .eq 54, 3, []), (124, .aload_n 0, 1, []), (125, .getfield 21, 3, [367]), (128, .iload 4, 2, []), (130, .invokevirtual 83, 3, [1201]), (133, .ifCond .eq 40, 3, []), (136, .aload_n 0, 1, []), (137, .getfield 21, 3, [367]), (140, .iload 5, 2, []), (142, .invokevirtual 83, 3, [1201]), (145, .ifCond .eq 28, 3, []), (148, .aload_n 0, 1, []), (149, .getfield 21, 3, [367]), (152, .iload 4, 2, []), (154, .invokevirtual 86, 3, [1205]), (157, .aload_n 0, 1, []), (158, .getfield 21, 3, [367]), (161, .iload 5, 2, []), (163, .invokevirtual 86, 3, [1205]), (166, .if_icmp .ne 7, 3, []), (169, .iconst 1, 1, []), (170, .goto 4, 3, []), (173, .iconst 0, 1, []), (174, .ireturn, 1, []), (175, .aload_n 0, 1, []), (176, .getfield 21, 3, [367]), (179, .iload 4, 2, []), (181, .iload 5, 2, []), (183, .invokevirtual 89, 3, [1209]), (186, .ifCond .ne 5, 3, []), (189, .iconst 0, 1, []), (190, .ireturn, 1, []), (191, .aload_n 0, 1, []), (192, .getfield 21, 3, [367]), (195, .iload 4, 2, []), (197, .invokevirtual 41, 3, [1214]), (200, .iconst (-1), 1, []), (201, .if_icmp .eq 39, 3, []), (204, .aload_n 0, 1, []), (205, .getfield 12, 3, [368]), (208, .iload 4, 2, []), (210, .iload 5, 2, []), (212, .iconst 1, 1, []), (213, .iadd, 1, []), (214, .invokestatic 48, 3, [1222]), (217, .aload_n 0, 1, []), (218, .getfield 18, 3, [369]), (221, .aload_n 0, 1, []), (222, .getfield 33, 3, [370]), (225, .iload 4, 2, []), (227, .invokestatic 48, 3, [1222]), (230, .aload_n 0, 1, []), (231, .dup, 1, []), (232, .getfield 33, 3, [370]), (235, .iconst 1, 1, []), (236, .iadd, 1, []), (237, .putfield 33, 3, [370]), (240, .iconst 1, 1, []), (241, .ireturn, 1, [])]
def am_e15 : List (Nat × Instr × Nat × List Nat) := [(0, .iload_n 1, 1, []), (1, .istore_n 2, 1, []), (2, .iconst 0, 1, []), (3, .istore_n 3, 1, []), (4, .iload_n 3, 1, []), (5, .ldc 11, 2, [366]), (7, .if_icmp .ge 75, 3, []), (10, .iload_n 2, 1, []), (11, .ifCond .lt 71, 3, []), (14, .iload_n 2, 1, []), (15, .aload_n 0, 1, []), (16, .getfield 12, 3, [368]), (19, .arraylength, 1, []), (20, .if_icmp .ge 62, 3, []), (23, .aload_n 0, 1, []), (24, .getfield 12, 3, [368]), (27, .iload_n 2, 1, []), (28, .iaload, 1, []), (29, .iconst 1, 1, []), (30, .isub, 1, []), (31, .istore 4, 2, []), (33, .iload 4, 2, []), (35, .ifCond .lt 13, 3, []), (38, .iload 4, 2, []), (40, .aload_n 0, 1, []), (41, .getfield 12, 3, [368]), (44, .arraylength, 1, []), (45, .if_icmp .lt 5, 3, []), (48, .iload_n 2, 1, []), (49, .ireturn, 1, []), (50, .aload_n 0, 1, []), (51, .getfield 12, 3, [368]), (54, .iload 4, 2, []), (56, .iaload, 1, []), (57, .ifCond .eq 16, 3, []), (60, .aload_n 0, 1, []), (61, .getfield 12, 3, [368]), (64, .iload_n 2, 1, []), (65, .aload_n 0, 1, []), (66, .getfield 12, 3, [368]), (69, .iload 4, 2, []), (71, .iaload, 1, []), (72, .iastore, 1, []), (73, .iload 4, 2, []), (75, .istore_n 2, 1, []), (76, .iinc 3 1, 3, []), (79, .goto (-75), 3, []), (82, .iload_n 2, 1, []), (83, .ireturn, 1, [])]
def am_e16 : List (Nat × Instr × Nat × List Nat) := [(0, .aload_n 0, 1, []), (1, .invokespecial 5, 3, [203]), (4, .aload_n 0, 1, []), (5, .sipush 2624, 3, []), (8, .newarray .int, 2, []), (10, .putfield 11, 3, [204]), (13, .aload_n 0, 1, []), (14, .sipush 2624, 3, []), (17, .newarray .int, 2, []), (19, .putfield 15, 3, [205]), (22, .aload_n 0, 1, []), (23, .sipush 2624, 3, []), (26, .newarray .long, 2, []), (28, .putfield 18, 3, [206]), (31, .aload_n 0, 1, []), (32, .sipush 2624, 3, []), (35, .newarray .int, 2, []), (37, .putfield 22, 3, [207]), (40, .aload_n 0, 1, []), (41, .sipush 2624, 3, []), (44, .newarray .int, 2, []), (46, .putfield 25, 3, [208]), (49, .aload_n 0, 1, []), (50, .sipush 2624, 3, []), (53, .newarray .int, 2, []), (55, .putfield 28, 3, [209]), (58, .aload_n 0, 1, []), (59, .bipush 41, 2, []), (61, .newarray .int, 2, []), (63, .putfield 31, 3, [210]), (66, .aload_n 0, 1, []), (67, .bipush 41, 2, []), (69, .newarray .int, 2, []), (71, .putfield 34, 3, [211]), (74, .aload_n 0, 1, []), (75, .bipush 41, 2, []), (77, .newarray .int, 2, []), (79, .putfield 37, 3, [212]), (82, .aload_n 0, 1, []), (83, .bipush 41, 2, []), (85, .newarray .int, 2, []), (87, .putfield 40, 3, [213]), (90, .aload_n 0, 1, []), (91, .bipush 41, 2, []), (93, .newarray .int, 2, []), (95, .putfield 43, 3, [214]), (98, .aload_n 0, 1, []), (99, .bipush 41, 2, []), (101, .newarray .int, 2, []), (103, .putfield 46, 3, [215]), (106, .iconst 0, 1, []), (107, .istore_n 1, 1, []), (108, .iload_n 1, 1, []), (109, .aload_n 0, 1, []), (110, .getfield 31, 3, [210]), (113, .arraylength, 1, []), (114, .if_icmp .ge 16, 3, []), (117, .aload_n 0, 1, []), (118, .getfield 31, 3, [210]), (121, .iload_n 1, 1, []), (122, .iload_n 1, 1, []), (123, .iastore, 1, []), (124, .iinc 1 1, 3, []), (127, .goto (-19), 3, []), (130, .return_, 1, [])]
def am_e17 : List (Nat × Instr × Nat × List Nat) := [(0, .aload_n 0, 1, []), (1, .iconst 0, 1, []), (2, .putfield 49, 3, [216]), (5, .return_, 1, [])]
def am_e18 : List (Nat × Instr × Nat × List Nat) := [(0, .aload_n 0, 1, []), (1, .iload_n 1, 1, []), (2, .putfield 49, 3, [216]), (5, .return_, 1, [])]
def am_e19 : List (Nat × Instr × Nat × List Nat) := [(0, .aload_n 0, 1, []), (1, .getfield 31, 3, [210]), (4, .iload_n 1, 1, []), (5, .invokestatic 53, 3, [636]), (8, .istore_n 2, 1, []), (9, .iload_n 1, 1, []), (10, .istore_n 3, 1, []), (11, .iload_n 3, 1, []), (12, .bipush 39, 2, []), (14, .if_icmp .ge 27, 3, []), (17, .aload_n 0, 1, []), (18, .getfield 31, 3, [210]), (21, .iload_n 3, 1, []), (22, .aload_n 0, 1, []), (23, .getfield 31, 3, [210]), (26, .iload_n 3, 1, []), (27, .iconst 1, 1, []), (28, .iadd, 1, []), (29, .invokestatic 53, 3, [636]), (32, .invokestatic 57, 3, [761]), (35, .iinc 3 1, 3, []), (38, .goto (-27), 3, []), (41, .aload_n 0, 1, []), (42, .getfield 31, 3, [210]), (45, .bipush 39, 2, []), (47, .iload_n 2, 1, []), (48, .invokestatic 57, 3, [761]), (51, .aload_n 0, 1, []), (52, .dup, 1, []), (53, .getfield 49, 3, [216]), (56, .iconst 1, 1, []), (57, .isub, 1, []), (58, .putfield 49, 3, [216]), (61, .return_, 1, [])]
def am_e20 : List (Nat × Instr × Nat × List Nat) := [(0, .aload_n 0, 1, []), (1, .iload_n 1, 1, []), (2, .putfield 61, 3, [217]), (5, .aload_n 0, 1, []), (6, .iconst 0, 1, []), (7, .putfield 64, 3, [218]), (10, .return_, 1, [])]
def am_e21 : List (Nat × Instr × Nat × List Nat) := [(0, .aload_n 0, 1, []), (1, .getfield 61, 3, [217]), (4, .bipush 64, 2, []), (6, .imul, 1, []), (7, .aload_n 0, 1, []), (8, .getfield 64, 3, [218]), (11, .iadd, 1, []), (12, .istore 6, 2, []), (14, .aload_n 0, 1, []), (15, .getfield 64, 3, [218]), (18, .bipush 64, 2, []), (20, .if_icmp .ge 16, 3, []), (23, .iload 6, 2, []), (25, .ifCond .lt 11, 3, []), (28, .iload 6, 2, []), (30, .sipush 2624, 3, []), (33, .if_icmp .lt 5, 3, []), (36, .iconst (-1), 1, []), (37, .ireturn, 1, []), (38, .aload_n 0, 1, []), (39, .getfield 11, 3, [204]), (42, .iload 6, 2, []), (44, .iload_n 1, 1, []), (45, .iastore, 1, []), (46, .aload_n 0, 1, []), (47, .getfield 15, 3, [205]), (50, .iload 6, 2, []), (52, .iload_n 2, 1, []), (53, .iastore, 1, []), (54, .aload_n 0, 1, []), (55, .getfield 18, 3, [206]), (58, .iload 6, 2, []), (60, .lload_n 3, 1, []), (61, .lastore, 1, []), (62, .aload_n 0, 1, []), (63, .getfield 22, 3, [207]), (66, .iload 6, 2, []), (68, .iload 5, 2, []), (70, .iastore, 1, []), (71, .aload_n 0, 1, []), (72, .getfield 25, 3, [208]), (75, .iload 6, 2, []), (77, .iconst (-1), 1, []), (78, .iastore, 1, []), (79, .aload_n 0, 1, []), (80, .getfield 61, 3, [217]), (83, .bipush 64, 2, []), (85, .imul, 1, []), (86, .iload 5, 2, []), (88, .iadd, 1, []), (89, .istore 7, 2, []), (91, .aload_n 0, 1, []), (92, .getfield 28, 3, [209]), (95, .iload 6, 2, []), (97, .iload 5, 2, []), (99, .ifCond .lt 26, 3, []), (102, .iload 7, 2, []), (104, .ifCond .lt 21, 3, []), (107, .iload 7, 2, []), (109, .sipush 2624, 3, []), (112, .if_icmp .ge 13, 3, []), (115, .aload_n 0, 1, []), (116, .getfield 28, 3, [209]), (119, .iload 7, 2, []), (121, .iaload, 1, []), (122, .goto 7, 3, []), (125, .aload_n 0, 1, []), (126, .getfield 64, 3, [218]), (129, .iastore, 1, []), (130, .aload_n 0, 1, []), (131, .dup, 1, []), (132, .getfield 64, 3, [218]), (135, .iconst 1, 1, []), (136, .iadd, 1, []), (137, .putfield 64, 3, [218]), (140, .aload_n 0, 1, []), (141, .getfield 64, 3, [218]), (144, .iconst 1, 1, []), (145, .isub, 1, []), (146, .ireturn, 1, [])]
def am_e22 : List (Nat × Instr × Nat × List Nat) := [(0, .aload_n 0, 1, []), (1, .getfield 61, 3, [217]), (4, .bipush 64, 2, []), (6, .imul, 1, []), (7, .iload_n 1, 1, []), (8, .iadd, 1, []), (9, .istore_n 3, 1, []), (10, .iload_n 1, 1, []), (11, .iconst (-1), 1, []), (12, .if_icmp .eq 23, 3, []), (15, .iload_n 3, 1, []), (16, .ifCond .lt 19, 3, []), (19, .iload_n 3, 1, []), (20, .aload_n 0, 1, []), (21, .getfield 25, 3, [208]), (24, .arraylength, 1, []), (25, .if_icmp .ge 10, 3, []), (28, .aload_n 0, 1, []), (29, .getfield 25, 3, [208]), (32, .iload_n 3, 1, []), (33, .iload_n 2, 1, []), (34, .iastore, 1, []), (35, .return_, 1, [])]
def am_e23 : List (Nat × Instr × Nat × List Nat) := [(0, .aload_n 0, 1, []), (1, .getfield 61, 3, [217]), (4, .bipush 64, 2, []), (6, .imul, 1, []), (7, .iload_n 1, 1, []), (8, .iadd, 1, []), (9, .istore_n 2, 1, []), (10, .iload_n 2, 1, []), (11, .ifCond .lt 21, 3, []), (14, .iload_n 2, 1, []), (15, .aload_n 0, 1, []), (16, .getfield 25, 3, [208]), (19, .arraylength, 1, []), (20, .if_icmp .ge 12, 3, []), (23, .aload_n 0, 1, []), (24, .getfield 25, 3, [208]), (27, .iload_n 2, 1, []), (28, .iaload, 1, []), (29, .goto 4, 3, []), (32, .iconst (-1), 1, []), (33, .ireturn, 1, [])]
def am_e24 : List (Nat × Instr × Nat × List Nat) := [(0, .aload_n 0, 1, []), (1, .aload_n 0, 1, []), (2, .getfield 61, 3, [217]), (5, .bipush 64, 2, []), (7, .imul, 1, []), (8, .iload_n 1, 1, []), (9, .iadd, 1, []), (10, .invokevirtual 67, 3, [744]), (13, .ireturn, 1, [])]
def am_e25 : List (Nat × Instr × Nat × List Nat) := [(0, .aload_n 0, 1, []), (1, .getfield 34, 3, [211]), (4, .aload_n 0, 1, []), (5, .getfield 61, 3, [217]), (8, .iload_n 1, 1, []), (9, .invokestatic 57, 3, [761]), (12, .aload_n 0, 1, []), (13, .getfield 37, 3, [212]), (16, .aload_n 0, 1, []), (17, .getfield 61, 3, [217]), (20, .iload_n 2, 1, []), (21, .invokestatic 57, 3, [761]), (24, .aload_n 0, 1, []), (25, .getfield 40, 3, [213]), (28, .aload_n 0, 1, []), (29, .getfield 61, 3, [217]), (32, .iload_n 3, 1, []), (33, .invokestatic 57, 3, [761]), (36, .aload_n 0, 1, []), (37, .getfield 43, 3, [214]), (40, .aload_n 0, 1, []), (41, .getfield 61, 3, [217]), (44, .iload 4, 2, []), (46, .invokestatic 57, 3, [761]), (49, .aload_n 0, 1, []), (50, .getfield 46, 3, [215]), (53, .aload_n 0, 1, []), (54, .getfield 61, 3, [217]), (57, .iconst 0, 1, []), (58, .invokestatic 57, 3, [761]), (61, .return_, 1, [])]
def am_e26 : List (Nat × Instr × Nat × List Nat) := [(0, .aload_n 0, 1, []), (1, .getfield 49, 3, [216]), (4, .ireturn, 1, [])]
def am_e27 : List (Nat × Instr × Nat × List Nat) := [(0, .aload_n 0, 1, []), (1, .getfield 31, 3, [210]), (4, .iload_n 1, 1, []), (5, .invokestatic 53, 3, [636]), (8, .ireturn, 1, [])]
def am_e28 : List (Nat × Instr × Nat × List Nat) := [(0, .aload_n 0, 1, []), (1, .getfield 34, 3, [211]), (4, .iload_n 1, 1, []), (5, .invokestatic 53, 3, [636]), (8, .ireturn, 1, [])]
def am_e29 : List (Nat × Instr × Nat × List Nat) := [(0, .aload_n 0, 1, []), (1, .getfield 37, 3, [212]), (4, .iload_n 1, 1, []), (5, .invokestatic 53, 3, [636]), (8, .ireturn, 1, [])]
def am_e30 : List (Nat × Instr × Nat × List Nat) := [(0, .aload_n 0, 1, []), (1, .getfield 15, 3, [205]), (4, .iload_n 1, 1, []), (5, .bipush 64, 2, []), (7, .imul, 1, []), (8, .aload_n 0, 1, []), (9, .getfield 34, 3, [211]), (12, .iload_n 1, 1, []), (13, .invokestatic 53, 3, [636]), (16, .iadd, 1, []), (17, .invokestatic 53, 3, [636]), (20, .ireturn, 1, [])]
def am_e31 : List (Nat × Instr × Nat × List Nat) := [(0, .aload_n 0, 1, []), (1, .getfield 40, 3, [213]), (4, .iload_n 1, 1, []), (5, .invokestatic 53, 3, [636]), (8, .ireturn, 1, [])]
def am_e32 : List (Nat × Instr × Nat × List Nat) := [(0, .aload_n 0, 1, []), (1, .getfield 43, 3, [214]), (4, .iload_n 1, 1, []), (5, .invokestatic 53, 3, [636]), (8, .ireturn, 1, [])]
def am_e33 : List (Nat × Instr × Nat × List Nat) := [(0, .aload_n 0, 1, []), (1, .getfield 46, 3, [215]), (4, .iload_n 1, 1, []), (5, .invokestatic 53, 3, [636]), (8, .ireturn, 1, [])]
def am_e34 : List (Nat × Instr × Nat × List Nat) := [(0, .aload_n 0, 1, []), (1, .getfield 46, 3, [215]), (4, .iload_n 1, 1, []), (5, .aload_n 0, 1, []), (6, .getfield 46, 3, [215]), (9, .iload_n 1, 1, []), (10, .invokestatic 53, 3, [636]), (13, .iconst 1, 1, []), (14, .iadd, 1, []), (15, .invokestatic 57, 3, [761]), (18, .return_, 1, [])]
def am_e35 : List (Nat × Instr × Nat × List Nat) := [(0, .iconst 0, 1, []), (1, .istore_n 1, 1, []), (2, .iconst 0, 1, []), (3, .istore_n 2, 1, []), (4, .iload_n 2, 1, []), (5, .aload_n 0, 1, []), (6, .getfield 49, 3, [216]), (9, .if_icmp .ge 43, 3, []), (12, .aload_n 0, 1, []), (13, .getfield 31, 3, [210]), (16, .iload_n 2, 1, []), (17, .invokestatic 53, 3, [636]), (20, .istore_n 3, 1, []), (21, .aload_n 0, 1, []), (22, .iload_n 3, 1, []), (23, .bipush 64, 2, []), (25, .imul, 1, []), (26, .aload_n 0, 1, []), (27, .getfield 34, 3, [211]), (30, .iload_n 3, 1, []), (31, .invokestatic 53, 3, [636]), (34, .iadd, 1, []), (35, .iconst 0, 1, []), (36, .invokevirtual 71, 3, [887]), (39, .iload_n 2, 1, []), (40, .if_icmp .ne 6, 3, []), (43, .iinc 1 1, 3, []), (46, .iinc 2 1, 3, []), (49, .goto (-45), 3, []), (52, .iload_n 1, 1, []), (53, .ireturn, 1, [])]
def am_e36 : List (Nat × Instr × Nat × List Nat) := [(0, .iload_n 2, 1, []), (1, .iconst 0, 1, []), (2, .invokestatic 75, 3, [891]), (5, .istore_n 3, 1, []), (6, .iload_n 3, 1, []), (7, .aload_n 0, 1, []), (8, .getfield 49, 3, [216]), (11, .if_icmp .ge 72, 3, []), (14, .iload_n 3, 1, []), (15, .aload_n 0, 1, []), (16, .getfield 31, 3, [210]), (19, .arraylength, 1, []), (20, .if_icmp .ge 63, 3, []), (23, .aload_n 0, 1, []), (24, .getfield 31, 3, [210]), (27, .iload_n 3, 1, []), (28, .iaload, 1, []), (29, .istore 4, 2, []), (31, .iload 4, 2, []), (33, .ifCond .lt 23, 3, []), (36, .iload 4, 2, []), (38, .aload_n 0, 1, []), (39, .getfield 34, 3, [211]), (42, .arraylength, 1, []), (43, .if_icmp .ge 13, 3, []), (46, .aload_n 0, 1, []), (47, .getfield 34, 3, [211]), (50, .iload 4, 2, []), (52, .iaload, 1, []), (53, .goto 4, 3, []), (56, .iconst (-1), 1, []), (57, .istore 5, 2, []), (59, .aload_n 0, 1, []), (60, .iload_n 1, 1, []), (61, .iload 4, 2, []), (63, .bipush 64, 2, []), (65, .imul, 1, []), (66, .iload 5, 2, []), (68, .iadd, 1, []), (69, .invokevirtual 80, 3, [894]), (72, .ifCond .eq 5, 3, []), (75, .iload_n 3, 1, []), (76, .ireturn, 1, []), (77, .iinc 3 1, 3, []), (80, .goto (-74), 3, []), (83, .iconst (-1), 1, []), (84, .ireturn, 1, [])]
def am_e37 : List (Nat × Instr × Nat × List Nat) := [(0, .iload_n 1, 1, []), (1, .ifCond .lt 21, 3, []), (4, .iload_n 1, 1, []), (5, .aload_n 0, 1, []), (6, .getfield 11, 3, [204]), (9, .arraylength, 1, []), (10, .if_icmp .ge 12, 3, []), (13, .aload_n 0, 1, []), (14, .getfield 11, 3, [204]), (17, .iload_n 1, 1, []), (18, .iaload, 1, []), (19, .goto 4, 3, []), (22, .iconst 0, 1, []), (23, .ireturn, 1, [])]
def am_e38 : List (Nat × Instr × Nat × List Nat) := [(0, .iload_n 1, 1, []), (1, .ifCond .lt 21, 3, []), (4, .iload_n 1, 1, []), (5, .aload_n 0, 1, []), (6, .getfield 15, 3, [205]), (9, .arraylength, 1, []), (10, .if_icmp .ge 12, 3, []), (13, .aload_n 0, 1, []), (14, .getfield 15, 3, [205]), (17, .iload_n 1, 1, []), (18, .iaload, 1, []), (19, .goto 4, 3, []), (22, .iconst 0, 1, []), (23, .ireturn, 1, [])]
def am_e39 : List (Nat × Instr × Nat × List Nat) := [(0, .iload_n 1, 1, []), (1, .ifCond .lt 21, 3, []), (4, .iload_n 1, 1, []), (5, .aload_n 0, 1, []), (6, .getfield 18, 3, [206]), (9, .arraylength, 1, []), (10, .if_icmp .ge 12, 3, []), (13, .aload_n 0, 1, []), (14, .getfield 18, 3, [206]), (17, .iload_n 1, 1, []), (18, .laload, 1, []), (19, .goto 4, 3, []), (22, .lconst 0, 1, []), (23, .lreturn, 1, [])]
def am_e40 : List (Nat × Instr × Nat × List Nat) := [(0, .iload_n 1, 1, []), (1, .ifCond .lt 21, 3, []), (4, .iload_n 1, 1, []), (5, .aload_n 0, 1, []), (6, .getfield 22, 3, [207]), (9, .arraylength, 1, []), (10, .if_icmp .ge 12, 3, []), (13, .aload_n 0, 1, []), (14, .getfield 22, 3, [207]), (17, .iload_n 1, 1, []), (18, .iaload, 1, []), (19, .goto 4, 3, []), (22, .iconst (-1), 1, []), (23, .ireturn, 1, [])]
def am_e41 : List (Nat × Instr × Nat × List Nat) := [(0, .iload_n 1, 1, []), (1, .ifCond .lt 21, 3, []), (4, .iload_n 1, 1, []), (5, .aload_n 0, 1, []), (6, .getfield 25, 3, [208]), (9, .arraylength, 1, []), (10, .if_icmp .ge 12, 3, []), (13, .aload_n 0, 1, []), (14, .getfield 25, 3, [208]), (17, .iload_n 1, 1, []), (18, .iaload, 1, []), (19, .goto 4, 3, []), (22, .iconst (-1), 1, []), (23, .ireturn, 1, [])]
def am_e42 : List (Nat × Instr × Nat × List Nat) := [(0, .iload_n 1, 1, []), (1, .ifCond .lt 21, 3, []), (4, .iload_n 1, 1, []), (5, .aload_n 0, 1, []), (6, .getfield 28, 3, [209]), (9, .arraylength, 1, []), (10, .if_icmp .ge 12, 3, []), (13, .aload_n 0, 1, []), (14, .getfield 28, 3, [209]), (17, .iload_n 1, 1, []), (18, .iaload, 1, []), (19, .goto 4, 3, []), (22, .iconst (-1), 1, []), (23, .ireturn, 1, [])]
def am_e43 : List (Nat × Instr × Nat × List Nat) := [(0, .iload_n 1, 1, []), (1, .ifCond .lt 76, 3, []), (4, .iload_n 1, 1, []), (5, .sipush 2624, 3, []), (8, .if_icmp .ge 69, 3, []), (11, .iload_n 2, 1, []), (12, .ifCond .lt 65, 3, []), (15, .iload_n 2, 1, []), (16, .sipush 2624, 3, []), (19, .if_icmp .ge 58, 3, []), (22, .aload_n 0, 1, []), (23, .getfield 11, 3, [204]), (26, .iload_n 1, 1, []), (27, .iaload, 1, []), (28, .iconst 5, 1, []), (29, .if_icmp .ne 48, 3, []), (32, .aload_n 0, 1, []), (33, .getfield 11, 3, [204]), (36, .iload_n 2, 1, []), (37, .iaload, 1, []), (38, .iconst 5, 1, []), (39, .if_icmp .ne 38, 3, []), (42, .aload_n 0, 1, []), (43, .getfield 18, 3, [206]), (46, .iload_n 1, 1, []), (47, .laload, 1, []), (48, .aload_n 0, 1, []), (49, .getfield 18, 3, [206]), (52, .iload_n 2, 1, []), (53, .laload, 1, []), (54, .lcmp, 1, []), (55, .ifCond .ne 22, 3, []), (58, .aload_n 0, 1, []), (59, .getfield 15, 3, [205]), (62, .iload_n 1, 1, []), (63, .iaload, 1, []), (64, .aload_n 0, 1, []), (65, .getfield 15, 3, [205]), (68, .iload_n 2, 1, []), (69, .iaload, 1, []), (70, .if_icmp .ne 7, 3, []), (73, .iconst 1, 1, []), (74, .goto 4, 3, []), (77, .iconst 0, 1, []), (78, .ireturn, 1, [])]
def am_e44 : List (Nat × Instr × Nat × List Nat) := [(0, .iload_n 1, 1, []), (1, .ifCond .lt 20, 3, []), (4, .iload_n 1, 1, []), (5, .sipush 2624, 3, []), (8, .if_icmp .ge 13, 3, []), (11, .aload_n 0, 1, []), (12, .getfield 11, 3, [204]), (15, .iload_n 1, 1, []), (16, .iaload, 1, []), (17, .iconst 5, 1, []), (18, .if_icmp .eq 5, 3, []), (21, .iconst 0, 1, []), (22, .ireturn, 1, []), (23, .aload_n 0, 1, []), (24, .getfield 18, 3, [206]), (27, .iload_n 1, 1, []), (28, .laload, 1, []), (29, .lstore_n 2, 1, []), (30, .lload_n 2, 1, []), (31, .ldc2_w 84, 3, [748]), (34, .lcmp, 1, []), (35, .ifCond .eq 35, 3, []), (38, .lload_n 2, 1, []), (39, .ldc2_w 86, 3, [749]), (42, .lcmp, 1, []), (43, .ifCond .eq 27, 3, []), (46, .lload_n 2, 1, []), (47, .ldc2_w 88, 3, [750]), (50, .lcmp, 1, []), (51, .ifCond .eq 19, 3, []), (54, .lload_n 2, 1, []), (55, .ldc2_w 90, 3, [751]), (58, .lcmp, 1, []), (59, .ifCond .eq 11, 3, []), (62, .lload_n 2, 1, []), (63, .ldc2_w 92, 3, [752]), (66, .lcmp, 1, []), (67, .ifCond .ne 7, 3, []), (70, .iconst 1, 1, []), (71, .goto 4, 3, []), (74, .iconst 0, 1, []), (75, .ireturn, 1, [])]
def am_e45 : List (Nat × Instr × Nat × List Nat) := [(0, .aload_n 0, 1, []), (1, .invokespecial 3, 3, [257]), (4, .aload_n 0, 1, []), (5, .bipush 8, 2, []), (7, .newarray .long, 2, []), (9, .putfield 9, 3, [283]), (12, .aload_n 0, 1, []), (13, .new 15, 3, [258]), (16, .dup, 1, []), (17, .aload_n 1, 1, []), (18, .invokespecial 17, 3, [260]), (21, .putfield 20, 3, [281]), (24, .aload_n 0, 1, []), (25, .aload_n 2, 1, []), (26, .putfield 24, 3, [282]), (29, .return_, 1, [])]
def am_e46 : List (Nat × Instr × Nat × List Nat) := [(0, .aload_n 0, 1, []), (1, .invokevirtual 28, 3, [549]), (4, .aload_n 0, 1, []), (5, .getfield 24, 3, [282]), (8, .invokevirtual 31, 3, [617]), (11, .istore_n 1, 1, []), (12, .iconst 0, 1, []), (13, .istore_n 2, 1, []), (14, .iload_n 2, 1, []), (15, .sipush 2000, 3, []), (18, .if_icmp .ge 36, 3, []), (21, .aload_n 0, 1, []), (22, .getfield 37, 3, [286]), (25, .ifCond .ne 29, 3, []), (28, .iload_n 2, 1, []), (29, .ifCond .eq 11, 3, []), (32, .aload_n 0, 1, []), (33, .getfield 41, 3, [285]), (36, .iconst 1, 1, []), (37, .if_icmp .eq 17, 3, []), (40, .aload_n 0, 1, []), (41, .iload_n 1, 1, []), (42, .invokevirtual 45, 3, [621]), (45, .iinc 1 1, 3, []), (48, .iinc 2 1, 3, []), (51, .goto (-37), 3, []), (54, .aload_n 0, 1, []), (55, .invokevirtual 49, 3, [764]), (58, .ifCond .ne 11, 3, []), (61, .aload_n 0, 1, []), (62, .getfield 24, 3, [282]), (65, .iload_n 1, 1, []), (66, .invokevirtual 52, 3, [768]), (69, .aload_n 0, 1, []), (70, .invokevirtual 49, 3, [764]), (73, .ireturn, 1, [])]
def am_e47 : List (Nat × Instr × Nat × List Nat) := [(0, .aload_n 0, 1, []), (1, .invokevirtual 28, 3, [549]), (4, .aload_n 0, 1, []), (5, .bipush 40, 2, []), (7, .invokevirtual 55, 3, [639]), (10, .aload_n 0, 1, []), (11, .invokevirtual 58, 3, [714]), (14, .istore_n 1, 1, []), (15, .aload_n 0, 1, []), (16, .bipush 46, 2, []), (18, .invokevirtual 61, 3, [753]), (21, .aload_n 0, 1, []), (22, .getfield 41, 3, [285]), (25, .iconst 1, 1, []), (26, .if_icmp .eq 7, 3, []), (29, .aload_n 0, 1, []), (30, .invokevirtual 64, 3, [647]), (33, .aload_n 0, 1, []), (34, .getfield 24, 3, [282]), (37, .iconst (-1), 1, []), (38, .iload_n 1, 1, []), (39, .aload_n 0, 1, []), (40, .getfield 67, 3, [290]), (43, .aload_n 0, 1, []), (44, .getfield 70, 3, [291]), (47, .invokevirtual 73, 3, [757]), (50, .aload_n 0, 1, []), (51, .invokevirtual 49, 3, [764]), (54, .ireturn, 1, [])]
def am_e48 : List (Nat × Instr × Nat × List Nat) := [(0, .aload_n 0, 1, []), (1, .getfield 37, 3, [286]), (4, .ifCond .eq 15, 3, []), (7, .aload_n 0, 1, []), (8, .getfield 20, 3, [281]), (11, .aload_n 0, 1, []), (12, .getfield 77, 3, [284]), (15, .invokevirtual 80, 3, [780]), (18, .ireturn, 1, []), (19, .aload_n 0, 1, []), (20, .getfield 83, 3, [287]), (23, .iconst (-1), 1, []), (24, .if_icmp .ne 7, 3, []), (27, .iconst (-1), 1, []), (28, .goto 14, 3, []), (31, .aload_n 0, 1, []), (32, .getfield 20, 3, [281]), (35, .aload_n 0, 1, []), (36, .getfield 83, 3, [287]), (39, .invokevirtual 80, 3, [780]), (42, .ireturn, 1, [])]
def am_e49 : List (Nat × Instr × Nat × List Nat) := [(0, .aload_n 0, 1, []), (1, .getfield 37, 3, [286]), (4, .ifCond .eq 5, 3, []), (7, .iconst 1, 1, []), (8, .ireturn, 1, []), (9, .aload_n 0, 1, []), (10, .getfield 83, 3, [287]), (13, .iconst (-1), 1, []), (14, .if_icmp .ne 7, 3, []), (17, .iconst 0, 1, []), (18, .goto 4, 3, []), (21, .iconst 2, 1, []), (22, .ireturn, 1, [])]
def am_e50 : List (Nat × Instr × Nat × List Nat) := [(0, .aload_n 0, 1, []), (1, .getfield 20, 3, [281]), (4, .invokevirtual 86, 3, [553]), (7, .aload_n 0, 1, []), (8, .iconst 0, 1, []), (9, .putfield 77, 3, [284]), (12, .aload_n 0, 1, []), (13, .aload_n 0, 1, []), (14, .getfield 20, 3, [281]), (17, .aload_n 0, 1, []), (18, .getfield 77, 3, [284]), (21, .invokevirtual 89, 3, [616]), (24, .putfield 41, 3, [285]), (27, .aload_n 0, 1, []), (28, .iconst 0, 1, []), (29, .putfield 37, 3, [286]), (32, .aload_n 0, 1, []), (33, .iconst (-1), 1, []), (34, .putfield 83, 3, [287]), (37, .return_, 1, [])]
def am_e51 : List (Nat × Instr × Nat × List Nat) := [(0, .aload_n 0, 1, []), (1, .iconst 0, 1, []), (2, .putfield 91, 3, [288]), (5, .aload_n 0, 1, []), (6, .iconst 0, 1, []), (7, .putfield 94, 3, [289]), (10, .aload_n 0, 1, []), (11, .iconst 0, 1, []), (12, .putfield 67, 3, [290]), (15, .aload_n 0, 1, []), (16, .iconst 0, 1, []), (17, .putfield 70, 3, [291]), (20, .aload_n 0, 1, []), (21, .getfield 24, 3, [282]), (24, .iload_n 1, 1, []), (25, .invokevirtual 97, 3, [643]), (28, .return_, 1, [])]
def am_e52 : List (Nat × Instr × Nat × List Nat) := [(0, .iload_n 1, 1, []), (1, .bipush 40, 2, []), (3, .if_icmp .lt 7, 3, []), (6, .aload_n 0, 1, []), (7, .invokevirtual 98, 3, [625]), (10, .aload_n 0, 1, []), (11, .aload_n 0, 1, []), (12, .getfield 24, 3, [282]), (15, .iload_n 1, 1, []), (16, .bipush 40, 2, []), (18, .invokestatic 101, 3, [629]), (21, .invokevirtual 107, 3, [632]), (24, .invokevirtual 55, 3, [639]), (27, .aload_n 0, 1, []), (28, .getfield 41, 3, [285]), (31, .iconst 5, 1, []), (32, .if_icmp .eq 7, 3, []), (35, .aload_n 0, 1, []), (36, .invokevirtual 64, 3, [647]), (39, .aload_n 0, 1, []), (40, .invokevirtual 110, 3, [651]), (43, .istore_n 2, 1, []), (44, .iconst (-1), 1, []), (45, .istore_n 3, 1, []), (46, .aload_n 0, 1, []), (47, .getfield 41, 3, [285]), (50, .bipush 16, 2, []), (52, .if_icmp .ne 12, 3, []), (55, .aload_n 0, 1, []), (56, .invokevirtual 113, 3, [664]), (59, .aload_n 0, 1, []), (60, .invokevirtual 58, 3, [714]), (63, .istore_n 3, 1, []), (64, .aload_n 0, 1, []), (65, .bipush 46, 2, []), (67, .invokevirtual 61, 3, [753]), (70, .aload_n 0, 1, []), (71, .getfield 24, 3, [282]), (74, .iload_n 2, 1, []), (75, .iload_n 3, 1, []), (76, .aload_n 0, 1, []), (77, .getfield 67, 3, [290]), (80, .aload_n 0, 1, []), (81, .getfield 70, 3, [291]), (84, .invokevirtual 73, 3, [757]), (87, .return_, 1, [])]
def am_e53 : List (Nat × Instr × Nat × List Nat) := [(0, .aload_n 0, 1, []), (1, .invokevirtual 116, 3, [718]), (4, .istore_n 1, 1, []), (5, .iload_n 1, 1, []), (6, .istore_n 2, 1, []), (7, .iconst 0, 1, []), (8, .istore_n 3, 1, []), (9, .iload_n 3, 1, []), (10, .bipush 60, 2, []), (12, .if_icmp .ge 41, 3, []), (15, .aload_n 0, 1, []), (16, .getfield 41, 3, [285]), (19, .bipush 44, 2, []), (21, .if_icmp .ne 32, 3, []), (24, .aload_n 0, 1, []), (25, .invokevirtual 113, 3, [664]), (28, .aload_n 0, 1, []), (29, .invokevirtual 116, 3, [718]), (32, .istore 4, 2, []), (34, .aload_n 0, 1, []), (35, .getfield 24, 3, [282]), (38, .iload_n 2, 1, []), (39, .iload 4, 2, []), (41, .invokevirtual 119, 3, [692]), (44, .iload 4, 2, []), (46, .istore_n 2, 1, []), (47, .iinc 3 1, 3, []), (50, .goto (-41), 3, []), (53, .iload_n 1, 1, []), (54, .ireturn, 1, [])]
def am_e54 : List (Nat × Instr × Nat × List Nat) := [(0, .aload_n 0, 1, []), (1, .dup, 1, []), (2, .getfield 67, 3, [290]), (5, .iconst 1, 1, []), (6, .iadd, 1, []), (7, .putfield 67, 3, [290]), (10, .aload_n 0, 1, []), (11, .getfield 67, 3, [290]), (14, .bipush 8, 2, []), (16, .if_icmp .le 7, 3, []), (19, .aload_n 0, 1, []), (20, .invokevirtual 98, 3, [625]), (23, .aload_n 0, 1, []), (24, .getfield 41, 3, [285]), (27, .lookupswitch 64 #[(6, 49), (7, 49), (8, 54), (9, 59), (33, 49)], 49, []), (76, .aload_n 0, 1, []), (77, .invokevirtual 123, 3, [722]), (80, .ireturn, 1, []), (81, .aload_n 0, 1, []), (82, .invokevirtual 126, 3, [726]), (85, .ireturn, 1, []), (86, .aload_n 0, 1, []), (87, .invokevirtual 129, 3, [731]), (90, .ireturn, 1, []), (91, .aload_n 0, 1, []), (92, .invokevirtual 132, 3, [736]), (95, .ireturn, 1, [])]
def am_e55 : List (Nat × Instr × Nat × List Nat) := [(0, .aload_n 0, 1, []), (1, .getfield 24, 3, [282]), (4, .aload_n 0, 1, []), (5, .getfield 41, 3, [285]), (8, .iconst 0, 1, []), (9, .aload_n 0, 1, []), (10, .getfield 20, 3, [281]), (13, .aload_n 0, 1, []), (14, .getfield 77, 3, [284]), (17, .invokevirtual 135, 3, [659]), (20, .iconst (-1), 1, []), (21, .invokevirtual 139, 3, [668]), (24, .istore_n 1, 1, []), (25, .aload_n 0, 1, []), (26, .invokevirtual 113, 3, [664]), (29, .iload_n 1, 1, []), (30, .ireturn, 1, [])]
def am_e56 : List (Nat × Instr × Nat × List Nat) := [(0, .aload_n 0, 1, []), (1, .invokevirtual 113, 3, [664]), (4, .aload_n 0, 1, []), (5, .bipush 40, 2, []), (7, .invokevirtual 143, 3, [680]), (10, .aload_n 0, 1, []), (11, .invokevirtual 58, 3, [714]), (14, .istore_n 1, 1, []), (15, .aload_n 0, 1, []), (16, .bipush 41, 2, []), (18, .invokevirtual 146, 3, [696]), (21, .aload_n 0, 1, []), (22, .getfield 24, 3, [282]), (25, .bipush 8, 2, []), (27, .iconst 0, 1, []), (28, .ldc2_w 149, 3, [730]), (31, .iload_n 1, 1, []), (32, .invokevirtual 139, 3, [668]), (35, .ireturn, 1, [])]
def am_e57 : List (Nat × Instr × Nat × List Nat) := [(0, .aload_n 0, 1, []), (1, .invokevirtual 113, 3, [664]), (4, .aload_n 0, 1, []), (5, .bipush 40, 2, []), (7, .invokevirtual 143, 3, [680]), (10, .aload_n 0, 1, []), (11, .invokevirtual 151, 3, [684]), (14, .istore_n 1, 1, []), (15, .aload_n 0, 1, []), (16, .bipush 41, 2, []), (18, .invokevirtual 146, 3, [696]), (21, .aload_n 0, 1, []), (22, .getfield 24, 3, [282]), (25, .bipush 9, 2, []), (27, .iconst 1, 1, []), (28, .ldc2_w 154, 3, [735]), (31, .iload_n 1, 1, []), (32, .invokevirtual 139, 3, [668]), (35, .ireturn, 1, [])]
def am_e58 : List (Nat × Instr × Nat × List Nat) := [(0, .aload_n 0, 1, []), (1, .getfield 41, 3, [285]), (4, .iconst 5, 1, []), (5, .if_icmp .ne 7, 3, []), (8, .iconst 1, 1, []), (9, .goto 4, 3, []), (12, .iconst 0, 1, []), (13, .istore_n 1, 1, []), (14, .aload_n 0, 1, []), (15, .invokevirtual 151, 3, [684]), (18, .istore_n 2, 1, []), (19, .aload_n 0, 1, []), (20, .getfield 41, 3, [285]), (23, .istore_n 3, 1, []), (24, .iload_n 3, 1, []), (25, .lookupswitch 121 #[(10, 75), (12, 75), (13, 75), (14, 75), (15, 75), (60, 75), (61, 75), (62, 75)], 75, []), (100, .aload_n 0, 1, []), (101, .getfield 20, 3, [281]), (104, .aload_n 0, 1, []), (105, .getfield 77, 3, [284]), (108, .invokevirtual 135, 3, [659]), (111, .lstore 4, 2, []), (113, .aload_n 0, 1, []), (114, .invokevirtual 113, 3, [664]), (117, .aload_n 0, 1, []), (118, .invokevirtual 151, 3, [684]), (121, .istore 6, 2, []), (123, .aload_n 0, 1, []), (124, .getfield 24, 3, [282]), (127, .iload_n 2, 1, []), (128, .iload 6, 2, []), (130, .invokevirtual 119, 3, [692]), (133, .aload_n 0, 1, []), (134, .getfield 24, 3, [282]), (137, .iload_n 3, 1, []), (138, .iconst 2, 1, []), (139, .lload 4, 2, []), (141, .iload_n 2, 1, []), (142, .invokevirtual 139, 3, [668]), (145, .ireturn, 1, []), (146, .iload_n 1, 1, []), (147, .ifCond .eq 14, 3, []), (150, .aload_n 0, 1, []), (151, .getfield 24, 3, [282]), (154, .iload_n 2, 1, []), (155, .invokevirtual 156, 3, [740]), (158, .ifCond .eq 7, 3, []), (161, .aload_n 0, 1, []), (162, .invokevirtual 64, 3, [647]), (165, .iload_n 2, 1, []), (166, .ireturn, 1, [])]
def am_e59 : List (Nat × Instr × Nat × List Nat) := [(0, .aload_n 0, 1, []), (1, .invokevirtual 160, 3, [688]), (4, .istore_n 1, 1, []), (5, .iconst 0, 1, []), (6, .istore_n 2, 1, []), (7, .iload_n 2, 1, []), (8, .bipush 60, 2, []), (10, .if_icmp .ge 71, 3, []), (13, .aload_n 0, 1, []), (14, .getfield 41, 3, [285]), (17, .bipush 43, 2, []), (19, .if_icmp .eq 12, 3, []), (22, .aload_n 0, 1, []), (23, .getfield 41, 3, [285]), (26, .bipush 45, 2, []), (28, .if_icmp .ne 53, 3, []), (31, .aload_n 0, 1, []), (32, .getfield 20, 3, [281]), (35, .aload_n 0, 1, []), (36, .getfield 77, 3, [284]), (39, .invokevirtual 135, 3, [659]), (42, .lstore_n 3, 1, []), (43, .aload_n 0, 1, []), (44, .invokevirtual 113, 3, [664]), (47, .aload_n 0, 1, []), (48, .invokevirtual 160, 3, [688]), (51, .istore 5, 2, []), (53, .aload_n 0, 1, []), (54, .getfield 24, 3, [282]), (57, .iload_n 1, 1, []), (58, .iload 5, 2, []), (60, .invokevirtual 119, 3, [692]), (63, .aload_n 0, 1, []), (64, .getfield 24, 3, [282]), (67, .iconst 5, 1, []), (68, .iconst 2, 1, []), (69, .lload_n 3, 1, []), (70, .iload_n 1, 1, []), (71, .invokevirtual 139, 3, [668]), (74, .istore_n 1, 1, []), (75, .iinc 2 1, 3, []), (78, .goto (-71), 3, []), (81, .iload_n 1, 1, []), (82, .ireturn, 1, [])]
def am_e60 : List (Nat × Instr × Nat × List Nat) := [(0, .aload_n 0, 1, []), (1, .invokevirtual 110, 3, [651]), (4, .istore_n 1, 1, []), (5, .iconst 0, 1, []), (6, .istore_n 2, 1, []), (7, .iload_n 2, 1, []), (8, .bipush 60, 2, []), (10, .if_icmp .ge 80, 3, []), (13, .aload_n 0, 1, []), (14, .getfield 41, 3, [285]), (17, .bipush 42, 2, []), (19, .if_icmp .eq 21, 3, []), (22, .aload_n 0, 1, []), (23, .getfield 41, 3, [285]), (26, .bipush 47, 2, []), (28, .if_icmp .eq 12, 3, []), (31, .aload_n 0, 1, []), (32, .getfield 41, 3, [285]), (35, .bipush 11, 2, []), (37, .if_icmp .ne 53, 3, []), (40, .aload_n 0, 1, []), (41, .getfield 20, 3, [281]), (44, .aload_n 0, 1, []), (45, .getfield 77, 3, [284]), (48, .invokevirtual 135, 3, [659]), (51, .lstore_n 3, 1, []), (52, .aload_n 0, 1, []), (53, .invokevirtual 113, 3, [664]), (56, .aload_n 0, 1, []), (57, .invokevirtual 110, 3, [651]), (60, .istore 5, 2, []), (62, .aload_n 0, 1, []), (63, .getfield 24, 3, [282]), (66, .iload_n 1, 1, []), (67, .iload 5, 2, []), (69, .invokevirtual 119, 3, [692]), (72, .aload_n 0, 1, []), (73, .getfield 24, 3, [282]), (76, .iconst 5, 1, []), (77, .iconst 2, 1, []), (78, .lload_n 3, 1, []), (79, .iload_n 1, 1, []), (80, .invokevirtual 139, 3, [668]), (83, .istore_n 1, 1, []), (84, .iinc 2 1, 3, []), (87, .goto (-80), 3, []), (90, .iload_n 1, 1, []), (91, .ireturn, 1, [])]
def am_e61 : List (Nat × Instr × Nat × List Nat) := [(0, .aload_n 0, 1, []), (1, .getfield 41, 3, [285]), (4, .lookupswitch 110 #[(3, 60), (4, 65), (5, 81), (40, 91), (45, 71), (91, 86)], 60, []), (64, .aload_n 0, 1, []), (65, .invokevirtual 163, 3, [655]), (68, .ireturn, 1, []), (69, .aload_n 0, 1, []), (70, .iconst 1, 1, []), (71, .invokevirtual 166, 3, [672]), (74, .ireturn, 1, []), (75, .aload_n 0, 1, []), (76, .invokevirtual 113, 3, [664]), (79, .aload_n 0, 1, []), (80, .iconst (-1), 1, []), (81, .invokevirtual 166, 3, [672]), (84, .ireturn, 1, []), (85, .aload_n 0, 1, []), (86, .invokevirtual 169, 3, [676]), (89, .ireturn, 1, []), (90, .aload_n 0, 1, []), (91, .invokevirtual 172, 3, [700]), (94, .ireturn, 1, []), (95, .aload_n 0, 1, []), (96, .bipush 40, 2, []), (98, .invokevirtual 143, 3, [680]), (101, .aload_n 0, 1, []), (102, .invokevirtual 151, 3, [684]), (105, .istore_n 1, 1, []), (106, .aload_n 0, 1, []), (107, .bipush 41, 2, []), (109, .invokevirtual 146, 3, [696]), (112, .iload_n 1, 1, []), (113, .ireturn, 1, []), (114, .aload_n 0, 1, []), (115, .invokevirtual 64, 3, [647]), (118, .iconst (-1), 1, []), (119, .ireturn, 1, [])]
def am_e62 : List (Nat × Instr × Nat × List Nat) := [(0, .aload_n 0, 1, []), (1, .getfield 20, 3, [281]), (4, .aload_n 0, 1, []), (5, .getfield 77, 3, [284]), (8, .invokevirtual 135, 3, [659]), (11, .ldc2_w 175, 3, [663]), (14, .lcmp, 1, []), (15, .ifCond .ne 7, 3, []), (18, .lconst 0, 1, []), (19, .goto 14, 3, []), (22, .aload_n 0, 1, []), (23, .getfield 20, 3, [281]), (26, .aload_n 0, 1, []), (27, .getfield 77, 3, [284]), (30, .invokevirtual 135, 3, [659]), (33, .lstore_n 1, 1, []), (34, .iconst (-1), 1, []), (35, .istore_n 3, 1, []), (36, .iconst 0, 1, []), (37, .istore 4, 2, []), (39, .iload 4, 2, []), (41, .aload_n 0, 1, []), (42, .getfield 70, 3, [291]), (45, .if_icmp .ge 40, 3, []), (48, .iload 4, 2, []), (50, .aload_n 0, 1, []), (51, .getfield 9, 3, [283]), (54, .arraylength, 1, []), (55, .if_icmp .ge 30, 3, []), (58, .lload_n 1, 1, []), (59, .lconst 0, 1, []), (60, .lcmp, 1, []), (61, .ifCond .eq 24, 3, []), (64, .aload_n 0, 1, []), (65, .getfield 9, 3, [283]), (68, .iload 4, 2, []), (70, .laload, 1, []), (71, .lload_n 1, 1, []), (72, .lcmp, 1, []), (73, .ifCond .ne 6, 3, []), (76, .iload 4, 2, []), (78, .istore_n 3, 1, []), (79, .iinc 4 1, 3, []), (82, .goto (-43), 3, []), (85, .iload_n 3, 1, []), (86, .iconst (-1), 1, []), (87, .if_icmp .ne 45, 3, []), (90, .aload_n 0, 1, []), (91, .getfield 70, 3, [291]), (94, .istore_n 3, 1, []), (95, .iload_n 3, 1, []), (96, .ifCond .lt 32, 3, []), (99, .iload_n 3, 1, []), (100, .aload_n 0, 1, []), (101, .getfield 9, 3, [283]), (104, .arraylength, 1, []), (105, .if_icmp .ge 23, 3, []), (108, .aload_n 0, 1, []), (109, .getfield 9, 3, [283]), (112, .iload_n 3, 1, []), (113, .lload_n 1, 1, []), (114, .lastore, 1, []), (115, .aload_n 0, 1, []), (116, .dup, 1, []), (117, .getfield 70, 3, [291]), (120, .iconst 1, 1, []), (121, .iadd, 1, []), (122, .putfield 70, 3, [291]), (125, .goto 7, 3, []), (128, .aload_n 0, 1, []), (129, .invokevirtual 98, 3, [625]), (132, .aload_n 0, 1, []), (133, .invokevirtual 113, 3, [664]), (136, .aload_n 0, 1, []), (137, .getfield 24, 3, [282]), (140, .iconst 3, 1, []), (141, .iload_n 3, 1, []), (142, .lconst 0, 1, []), (143, .iconst (-1), 1, []), (144, .invokevirtual 139, 3, [668]), (147, .ireturn, 1, [])]
def am_e63 : List (Nat × Instr × Nat × List Nat) := [(0, .aload_n 0, 1, []), (1, .getfield 41, 3, [285]), (4, .iconst 4, 1, []), (5, .if_icmp .eq 7, 3, []), (8, .aload_n 0, 1, []), (9, .invokevirtual 64, 3, [647]), (12, .iload_n 1, 1, []), (13, .aload_n 0, 1, []), (14, .getfield 20, 3, [281]), (17, .aload_n 0, 1, []), (18, .getfield 77, 3, [284]), (21, .invokevirtual 135, 3, [659]), (24, .l2i, 1, []), (25, .imul, 1, []), (26, .istore_n 2, 1, []), (27, .aload_n 0, 1, []), (28, .invokevirtual 113, 3, [664]), (31, .aload_n 0, 1, []), (32, .getfield 24, 3, [282]), (35, .iconst 4, 1, []), (36, .iload_n 2, 1, []), (37, .lconst 0, 1, []), (38, .iconst (-1), 1, []), (39, .invokevirtual 139, 3, [668]), (42, .ireturn, 1, [])]
def am_e64 : List (Nat × Instr × Nat × List Nat) := [(0, .aload_n 0, 1, []), (1, .getfield 20, 3, [281]), (4, .aload_n 0, 1, []), (5, .getfield 77, 3, [284]), (8, .invokevirtual 135, 3, [659]), (11, .lstore_n 1, 1, []), (12, .aload_n 0, 1, []), (13, .invokevirtual 113, 3, [664]), (16, .aload_n 0, 1, []), (17, .getfield 41, 3, [285]), (20, .bipush 40, 2, []), (22, .if_icmp .eq 15, 3, []), (25, .aload_n 0, 1, []), (26, .getfield 24, 3, [282]), (29, .iconst 5, 1, []), (30, .iconst 0, 1, []), (31, .lload_n 1, 1, []), (32, .iconst (-1), 1, []), (33, .invokevirtual 139, 3, [668]), (36, .ireturn, 1, []), (37, .aload_n 0, 1, []), (38, .bipush 40, 2, []), (40, .invokevirtual 143, 3, [680]), (43, .aload_n 0, 1, []), (44, .invokevirtual 151, 3, [684]), (47, .istore_n 3, 1, []), (48, .iload_n 3, 1, []), (49, .istore 4, 2, []), (51, .iconst 1, 1, []), (52, .istore 5, 2, []), (54, .iconst 0, 1, []), (55, .istore 6, 2, []), (57, .iload 6, 2, []), (59, .bipush 60, 2, []), (61, .if_icmp .ge 56, 3, []), (64, .aload_n 0, 1, []), (65, .getfield 41, 3, [285]), (68, .bipush 44, 2, []), (70, .if_icmp .ne 47, 3, []), (73, .aload_n 0, 1, []), (74, .invokevirtual 113, 3, [664]), (77, .iinc 5 1, 3, []), (80, .iload 5, 2, []), (82, .iconst 4, 1, []), (83, .if_icmp .le 7, 3, []), (86, .aload_n 0, 1, []), (87, .invokevirtual 98, 3, [625]), (90, .aload_n 0, 1, []), (91, .invokevirtual 151, 3, [684]), (94, .istore 7, 2, []), (96, .aload_n 0, 1, []), (97, .getfield 24, 3, [282]), (100, .iload 4, 2, []), (102, .iload 7, 2, []), (104, .invokevirtual 119, 3, [692]), (107, .iload 7, 2, []), (109, .istore 4, 2, []), (111, .iinc 6 1, 3, []), (114, .goto (-57), 3, []), (117, .aload_n 0, 1, []), (118, .bipush 41, 2, []), (120, .invokevirtual 146, 3, [696]), (123, .aload_n 0, 1, []), (124, .getfield 24, 3, [282]), (127, .iconst 5, 1, []), (128, .iload 5, 2, []), (130, .lload_n 1, 1, []), (131, .iload_n 3, 1, []), (132, .invokevirtual 139, 3, [668]), (135, .ireturn, 1, [])]
def am_e65 : List (Nat × Instr × Nat × List Nat) := [(0, .aload_n 0, 1, []), (1, .bipush 91, 2, []), (3, .invokevirtual 143, 3, [680]), (6, .iconst (-1), 1, []), (7, .istore_n 1, 1, []), (8, .aload_n 0, 1, []), (9, .getfield 41, 3, [285]), (12, .bipush 93, 2, []), (14, .if_icmp .eq 51, 3, []), (17, .aload_n 0, 1, []), (18, .invokevirtual 151, 3, [684]), (21, .istore_n 1, 1, []), (22, .iconst 0, 1, []), (23, .istore_n 2, 1, []), (24, .iload_n 2, 1, []), (25, .bipush 60, 2, []), (27, .if_icmp .ge 38, 3, []), (30, .aload_n 0, 1, []), (31, .getfield 41, 3, [285]), (34, .bipush 44, 2, []), (36, .if_icmp .ne 29, 3, []), (39, .aload_n 0, 1, []), (40, .invokevirtual 113, 3, [664]), (43, .aload_n 0, 1, []), (44, .invokevirtual 151, 3, [684]), (47, .istore_n 3, 1, []), (48, .aload_n 0, 1, []), (49, .getfield 24, 3, [282]), (52, .iload_n 3, 1, []), (53, .iload_n 1, 1, []), (54, .invokevirtual 119, 3, [692]), (57, .iload_n 3, 1, []), (58, .istore_n 1, 1, []), (59, .iinc 2 1, 3, []), (62, .goto (-38), 3, []), (65, .iconst (-1), 1, []), (66, .istore_n 2, 1, []), (67, .aload_n 0, 1, []), (68, .getfield 41, 3, [285]), (71, .bipush 124, 2, []), (73, .if_icmp .ne 20, 3, []), (76, .iload_n 1, 1, []), (77, .iconst (-1), 1, []), (78, .if_icmp .eq 15, 3, []), (81, .aload_n 0, 1, []), (82, .invokevirtual 113, 3, [664]), (85, .aload_n 0, 1, []), (86, .invokevirtual 151, 3, [684]), (89, .istore_n 2, 1, []), (90, .goto 17, 3, []), (93, .aload_n 0, 1, []), (94, .getfield 24, 3, [282]), (97, .iconst 5, 1, []), (98, .iconst 0, 1, []), (99, .ldc2_w 177, 3, [704]), (102, .iconst (-1), 1, []), (103, .invokevirtual 139, 3, [668]), (106, .istore_n 2, 1, []), (107, .aload_n 0, 1, []), (108, .bipush 93, 2, []), (110, .invokevirtual 146, 3, [696]), (113, .aload_n 0, 1, []), (114, .iload_n 1, 1, []), (115, .iload_n 2, 1, []), (116, .invokevirtual 179, 3, [705]), (119, .ireturn, 1, [])]
def am_e66 : List (Nat × Instr × Nat × List Nat) := [(0, .iload_n 2, 1, []), (1, .istore_n 3, 1, []), (2, .iload_n 1, 1, []), (3, .istore 4, 2, []), (5, .iconst 0, 1, []), (6, .istore 5, 2, []), (8, .iload 5, 2, []), (10, .bipush 60, 2, []), (12, .if_icmp .ge 55, 3, []), (15, .iload 4, 2, []), (17, .iconst (-1), 1, []), (18, .if_icmp .eq 49, 3, []), (21, .aload_n 0, 1, []), (22, .getfield 24, 3, [282]), (25, .iload 4, 2, []), (27, .invokevirtual 182, 3, [709]), (30, .istore 6, 2, []), (32, .aload_n 0, 1, []), (33, .getfield 24, 3, [282]), (36, .iload 4, 2, []), (38, .iload_n 3, 1, []), (39, .invokevirtual 119, 3, [692]), (42, .aload_n 0, 1, []), (43, .getfield 24, 3, [282]), (46, .iconst 5, 1, []), (47, .iconst 2, 1, []), (48, .ldc2_w 185, 3, [713]), (51, .iload 4, 2, []), (53, .invokevirtual 139, 3, [668]), (56, .istore_n 3, 1, []), (57, .iload 6, 2, []), (59, .istore 4, 2, []), (61, .iinc 5 1, 3, []), (64, .goto (-56), 3, []), (67, .iload_n 3, 1, []), (68, .ireturn, 1, [])]
def am_e67 : List (Nat × Instr × Nat × List Nat) := [(0, .aload_n 0, 1, []), (1, .getfield 41, 3, [285]), (4, .iload_n 1, 1, []), (5, .if_icmp .ne 12, 3, []), (8, .aload_n 0, 1, []), (9, .getfield 94, 3, [289]), (12, .bipush 8, 2, []), (14, .if_icmp .lt 10, 3, []), (17, .aload_n 0, 1, []), (18, .invokevirtual 64, 3, [647]), (21, .goto 17, 3, []), (24, .aload_n 0, 1, []), (25, .dup, 1, []), (26, .getfield 94, 3, [289]), (29, .iconst 1, 1, []), (30, .iadd, 1, []), (31, .putfield 94, 3, [289]), (34, .aload_n 0, 1, []), (35, .invokevirtual 113, 3, [664]), (38, .return_, 1, [])]
def am_e68 : List (Nat × Instr × Nat × List Nat) := [(0, .aload_n 0, 1, []), (1, .getfield 41, 3, [285]), (4, .iload_n 1, 1, []), (5, .if_icmp .eq 10, 3, []), (8, .aload_n 0, 1, []), (9, .invokevirtual 64, 3, [647]), (12, .goto 17, 3, []), (15, .aload_n 0, 1, []), (16, .dup, 1, []), (17, .getfield 94, 3, [289]), (20, .iconst 1, 1, []), (21, .isub, 1, []), (22, .putfield 94, 3, [289]), (25, .aload_n 0, 1, []), (26, .invokevirtual 113, 3, [664]), (29, .return_, 1, [])]
def am_e69 : List (Nat × Instr × Nat × List Nat) := [(0, .aload_n 0, 1, []), (1, .getfield 41, 3, [285]), (4, .iload_n 1, 1, []), (5, .if_icmp .eq 10, 3, []), (8, .aload_n 0, 1, []), (9, .invokevirtual 64, 3, [647]), (12, .goto 7, 3, []), (15, .aload_n 0, 1, []), (16, .invokevirtual 113, 3, [664]), (19, .return_, 1, [])]
def am_e70 : List (Nat × Instr × Nat × List Nat) := [(0, .aload_n 0, 1, []), (1, .getfield 37, 3, [286]), (4, .ifCond .ne 12, 3, []), (7, .aload_n 0, 1, []), (8, .getfield 91, 3, [288]), (11, .bipush 60, 2, []), (13, .if_icmp .lt 16, 3, []), (16, .aload_n 0, 1, []), (17, .iconst 1, 1, []), (18, .putfield 37, 3, [286]), (21, .aload_n 0, 1, []), (22, .iconst 0, 1, []), (23, .putfield 41, 3, [285]), (26, .goto 65, 3, []), (29, .aload_n 0, 1, []), (30, .dup, 1, []), (31, .getfield 91, 3, [288]), (34, .iconst 1, 1, []), (35, .iadd, 1, []), (36, .putfield 91, 3, [288]), (39, .aload_n 0, 1, []), (40, .dup, 1, []), (41, .getfield 77, 3, [284]), (44, .iconst 1, 1, []), (45, .iadd, 1, []), (46, .putfield 77, 3, [284]), (49, .aload_n 0, 1, []), (50, .aload_n 0, 1, []), (51, .getfield 77, 3, [284]), (54, .ifCond .lt 33, 3, []), (57, .aload_n 0, 1, []), (58, .getfield 77, 3, [284]), (61, .aload_n 0, 1, []), (62, .getfield 20, 3, [281]), (65, .getfield 187, 3, [266]), (68, .arraylength, 1, []), (69, .if_icmp .ge 18, 3, []), (72, .aload_n 0, 1, []), (73, .getfield 20, 3, [281]), (76, .getfield 187, 3, [266]), (79, .aload_n 0, 1, []), (80, .getfield 77, 3, [284]), (83, .iaload, 1, []), (84, .goto 4, 3, []), (87, .iconst 2, 1, []), (88, .putfield 41, 3, [285]), (91, .return_, 1, [])]
def am_e71 : List (Nat × Instr × Nat × List Nat) := [(0, .aload_n 0, 1, []), (1, .iconst 1, 1, []), (2, .putfield 37, 3, [286]), (5, .aload_n 0, 1, []), (6, .iconst 0, 1, []), (7, .putfield 41, 3, [285]), (10, .return_, 1, [])]
def am_e72 : List (Nat × Instr × Nat × List Nat) := [(0, .aload_n 0, 1, []), (1, .getfield 83, 3, [287]), (4, .iconst (-1), 1, []), (5, .if_icmp .ne 11, 3, []), (8, .aload_n 0, 1, []), (9, .aload_n 0, 1, []), (10, .getfield 77, 3, [284]), (13, .putfield 83, 3, [287]), (16, .return_, 1, [])]
def am_e73 : List (Nat × Instr × Nat × List Nat) := [(0, .aload_n 0, 1, []), (1, .invokespecial 3, 3, [476]), (4, .aload_n 0, 1, []), (5, .sipush 600, 3, []), (8, .newarray .byte, 2, []), (10, .putfield 9, 3, [478]), (13, .aload_n 0, 1, []), (14, .sipush 600, 3, []), (17, .newarray .byte, 2, []), (19, .putfield 15, 3, [480]), (22, .aload_n 0, 1, []), (23, .sipush 600, 3, []), (26, .newarray .int, 2, []), (28, .putfield 18, 3, [482]), (31, .aload_n 0, 1, []), (32, .sipush 600, 3, []), (35, .newarray .int, 2, []), (37, .putfield 22, 3, [484]), (40, .aload_n 0, 1, []), (41, .aload_n 1, 1, []), (42, .putfield 25, 3, [477]), (45, .return_, 1, [])]
def am_e74 : List (Nat × Instr × Nat × List Nat) := [(0, .aload_n 0, 1, []), (1, .getfield 29, 3, [479]), (4, .ireturn, 1, [])]
def am_e75 : List (Nat × Instr × Nat × List Nat) := [(0, .iload_n 1, 1, []), (1, .ifCond .lt 29, 3, []), (4, .iload_n 1, 1, []), (5, .aload_n 0, 1, []), (6, .getfield 29, 3, [479]), (9, .if_icmp .ge 21, 3, []), (12, .iload_n 1, 1, []), (13, .aload_n 0, 1, []), (14, .getfield 9, 3, [478]), (17, .arraylength, 1, []), (18, .if_icmp .ge 12, 3, []), (21, .aload_n 0, 1, []), (22, .getfield 9, 3, [478]), (25, .iload_n 1, 1, []), (26, .baload, 1, []), (27, .goto 4, 3, []), (30, .iconst 0, 1, []), (31, .ireturn, 1, [])]
def am_e76 : List (Nat × Instr × Nat × List Nat) := [(0, .aload_n 0, 1, []), (1, .iconst 0, 1, []), (2, .putfield 29, 3, [479]), (5, .return_, 1, [])]
def am_e77 : List (Nat × Instr × Nat × List Nat) := [(0, .aload_n 0, 1, []), (1, .iconst 0, 1, []), (2, .putfield 33, 3, [481]), (5, .aload_n 0, 1, []), (6, .iconst 0, 1, []), (7, .putfield 36, 3, [483]), (10, .aload_n 0, 1, []), (11, .iconst 0, 1, []), (12, .putfield 39, 3, [485]), (15, .aload_n 0, 1, []), (16, .iconst 0, 1, []), (17, .putfield 42, 3, [486]), (20, .aload_n 0, 1, []), (21, .iload_n 1, 1, []), (22, .iload_n 2, 1, []), (23, .invokevirtual 46, 3, [1341]), (26, .iconst 0, 1, []), (27, .istore_n 3, 1, []), (28, .iload_n 3, 1, []), (29, .ldc 50, 2, [1349]), (31, .if_icmp .ge 60, 3, []), (34, .aload_n 0, 1, []), (35, .getfield 36, 3, [483]), (38, .ifCond .le 53, 3, []), (41, .aload_n 0, 1, []), (42, .getfield 42, 3, [486]), (45, .ifCond .ne 46, 3, []), (48, .aload_n 0, 1, []), (49, .dup, 1, []), (50, .getfield 36, 3, [483]), (53, .iconst 1, 1, []), (54, .isub, 1, []), (55, .putfield 36, 3, [483]), (58, .aload_n 0, 1, []), (59, .getfield 18, 3, [482]), (62, .aload_n 0, 1, []), (63, .getfield 36, 3, [483]), (66, .invokestatic 51, 3, [1350]), (69, .istore 4, 2, []), (71, .aload_n 0, 1, []), (72, .iload 4, 2, []), (74, .bipush 8, 2, []), (76, .irem, 1, []), (77, .iload 4, 2, []), (79, .bipush 8, 2, []), (81, .idiv, 1, []), (82, .invokevirtual 55, 3, [1351]), (85, .iinc 3 1, 3, []), (88, .goto (-60), 3, []), (91, .aload_n 0, 1, []), (92, .getfield 42, 3, [486]), (95, .ifCond .ne 10, 3, []), (98, .aload_n 0, 1, []), (99, .getfield 36, 3, [483]), (102, .ifCond .le 5, 3, []), (105, .iconst 0, 1, []), (106, .ireturn, 1, []), (107, .iconst 0, 1, []), (108, .istore_n 3, 1, []), (109, .iload_n 3, 1, []), (110, .aload_n 0, 1, []), (111, .getfield 33, 3, [481]), (114, .if_icmp .ge 39, 3, []), (117, .iload_n 3, 1, []), (118, .aload_n 0, 1, []), (119, .getfield 9, 3, [478]), (122, .arraylength, 1, []), (123, .if_icmp .ge 30, 3, []), (126, .iload_n 3, 1, []), (127, .aload_n 0, 1, []), (128, .getfield 15, 3, [480]), (131, .arraylength, 1, []), (132, .if_icmp .ge 21, 3, []), (135, .aload_n 0, 1, []), (136, .getfield 9, 3, [478]), (139, .iload_n 3, 1, []), (140, .aload_n 0, 1, []), (141, .getfield 15, 3, [480]), (144, .iload_n 3, 1, []), (145, .baload, 1, []), (146, .bastore, 1, []), (147, .iinc 3 1, 3, []), (150, .goto (-41), 3, []), (153, .aload_n 0, 1, []), (154, .aload_n 0, 1, []), (155, .getfield 33, 3, [481]), (158, .putfield 29, 3, [479]), (161, .iconst 1, 1, []), (162, .ireturn, 1, [])]
def am_e78 : List (Nat × Instr × Nat × List Nat) := [(0, .iload_n 1, 1, []), (1, .tableswitch 113 1 6 #[39, 54, 69, 79, 94, 102], 39, []), (40, .aload_n 0, 1, []), (41, .aload_n 0, 1, []), (42, .getfield 25, 3, [477]), (45, .iload_n 2, 1, []), (46, .invokevirtual 58, 3, [1355]), (49, .invokevirtual 64, 3, [1356]), (52, .goto 67, 3, []), (55, .aload_n 0, 1, []), (56, .aload_n 0, 1, []), (57, .getfield 25, 3, [477]), (60, .iload_n 2, 1, []), (61, .invokevirtual 58, 3, [1355]), (64, .invokevirtual 68, 3, [1396]), (67, .goto 52, 3, []), (70, .aload_n 0, 1, []), (71, .iconst 1, 1, []), (72, .iconst 3, 1, []), (73, .iload_n 2, 1, []), (74, .invokevirtual 71, 3, [1400]), (77, .goto 42, 3, []), (80, .aload_n 0, 1, []), (81, .aload_n 0, 1, []), (82, .getfield 25, 3, [477]), (85, .iload_n 2, 1, []), (86, .invokevirtual 58, 3, [1355]), (89, .invokevirtual 75, 3, [1404]), (92, .goto 27, 3, []), (95, .aload_n 0, 1, []), (96, .iload_n 2, 1, []), (97, .invokevirtual 78, 3, [1409]), (100, .goto 19, 3, []), (103, .aload_n 0, 1, []), (104, .iconst 5, 1, []), (105, .bipush 6, 2, []), (107, .iload_n 2, 1, []), (108, .invokevirtual 71, 3, [1400]), (111, .goto 8, 3, []), (114, .aload_n 0, 1, []), (115, .iload_n 2, 1, []), (116, .invokevirtual 81, 3, [1361]), (119, .return_, 1, [])]
def am_e79 : List (Nat × Instr × Nat × List Nat) := [(0, .aload_n 0, 1, []), (1, .getfield 25, 3, [477]), (4, .iload_n 1, 1, []), (5, .invokevirtual 84, 3, [1360]), (8, .ifCond .eq 21, 3, []), (11, .aload_n 0, 1, []), (12, .bipush 95, 2, []), (14, .invokevirtual 81, 3, [1361]), (17, .aload_n 0, 1, []), (18, .aload_n 0, 1, []), (19, .iload_n 1, 1, []), (20, .invokevirtual 88, 3, [1365]), (23, .invokevirtual 91, 3, [1369]), (26, .goto 34, 3, []), (29, .aload_n 0, 1, []), (30, .getfield 25, 3, [477]), (33, .iload_n 1, 1, []), (34, .invokevirtual 94, 3, [1375]), (37, .ifCond .eq 18, 3, []), (40, .aload_n 0, 1, []), (41, .aload_n 0, 1, []), (42, .getfield 25, 3, [477]), (45, .iload_n 1, 1, []), (46, .invokevirtual 97, 3, [1376]), (49, .invokevirtual 91, 3, [1369]), (52, .goto 8, 3, []), (55, .aload_n 0, 1, []), (56, .iload_n 1, 1, []), (57, .invokevirtual 100, 3, [1377]), (60, .return_, 1, [])]
def am_e80 : List (Nat × Instr × Nat × List Nat) := [(0, .aload_n 0, 1, []), (1, .getfield 25, 3, [477]), (4, .iload_n 1, 1, []), (5, .invokevirtual 103, 3, [1381]), (8, .lstore_n 2, 1, []), (9, .aload_n 0, 1, []), (10, .getfield 25, 3, [477]), (13, .iload_n 1, 1, []), (14, .invokevirtual 107, 3, [1382]), (17, .istore 4, 2, []), (19, .iload 4, 2, []), (21, .iconst (-1), 1, []), (22, .if_icmp .ne 11, 3, []), (25, .aload_n 0, 1, []), (26, .lload_n 2, 1, []), (27, .invokevirtual 110, 3, [1383]), (30, .goto 102, 3, []), (33, .lload_n 2, 1, []), (34, .ldc2_w 114, 3, [1388]), (37, .lcmp, 1, []), (38, .ifCond .ne 34, 3, []), (41, .aload_n 0, 1, []), (42, .iconst 4, 1, []), (43, .aload_n 0, 1, []), (44, .getfield 25, 3, [477]), (47, .iload 4, 2, []), (49, .invokevirtual 116, 3, [1389]), (52, .invokevirtual 46, 3, [1341]), (55, .aload_n 0, 1, []), (56, .iconst 1, 1, []), (57, .iload 4, 2, []), (59, .invokevirtual 46, 3, [1341]), (62, .aload_n 0, 1, []), (63, .iconst 0, 1, []), (64, .bipush 91, 2, []), (66, .invokevirtual 46, 3, [1341]), (69, .goto 63, 3, []), (72, .aload_n 0, 1, []), (73, .getfield 25, 3, [477]), (76, .iload_n 1, 1, []), (77, .invokevirtual 119, 3, [1390]), (80, .ifCond .eq 27, 3, []), (83, .aload_n 0, 1, []), (84, .iconst 2, 1, []), (85, .iload 4, 2, []), (87, .lload_n 2, 1, []), (88, .lload_n 2, 1, []), (89, .ldc2_w 122, 3, [1391]), (92, .lcmp, 1, []), (93, .ifCond .ne 7, 3, []), (96, .iconst 1, 1, []), (97, .goto 4, 3, []), (100, .iconst 0, 1, []), (101, .invokevirtual 124, 3, [1392]), (104, .goto 28, 3, []), (107, .aload_n 0, 1, []), (108, .lload_n 2, 1, []), (109, .invokevirtual 110, 3, [1383]), (112, .aload_n 0, 1, []), (113, .bipush 40, 2, []), (115, .invokevirtual 81, 3, [1361]), (118, .aload_n 0, 1, []), (119, .iconst 0, 1, []), (120, .bipush 41, 2, []), (122, .invokevirtual 46, 3, [1341]), (125, .aload_n 0, 1, []), (126, .iconst 3, 1, []), (127, .iload 4, 2, []), (129, .invokevirtual 46, 3, [1341]), (132, .return_, 1, [])]
def am_e81 : List (Nat × Instr × Nat × List Nat) := [(0, .aload_n 0, 1, []), (1, .getfield 25, 3, [477]), (4, .iload_n 1, 1, []), (5, .invokevirtual 119, 3, [1390]), (8, .ifCond .eq 26, 3, []), (11, .aload_n 0, 1, []), (12, .iconst 0, 1, []), (13, .bipush 41, 2, []), (15, .invokevirtual 46, 3, [1341]), (18, .aload_n 0, 1, []), (19, .iconst 1, 1, []), (20, .iload_n 1, 1, []), (21, .invokevirtual 46, 3, [1341]), (24, .aload_n 0, 1, []), (25, .iconst 0, 1, []), (26, .bipush 40, 2, []), (28, .invokevirtual 46, 3, [1341]), (31, .goto 9, 3, []), (34, .aload_n 0, 1, []), (35, .iconst 1, 1, []), (36, .iload_n 1, 1, []), (37, .invokevirtual 46, 3, [1341]), (40, .return_, 1, [])]
def am_e82 : List (Nat × Instr × Nat × List Nat) := [(0, .aload_n 0, 1, []), (1, .getfield 25, 3, [477]), (4, .iload_n 1, 1, []), (5, .invokevirtual 103, 3, [1381]), (8, .lstore_n 2, 1, []), (9, .lload_n 2, 1, []), (10, .ldc2_w 128, 3, [1408]), (13, .lcmp, 1, []), (14, .ifCond .ne 12, 3, []), (17, .aload_n 0, 1, []), (18, .bipush 93, 2, []), (20, .invokevirtual 81, 3, [1361]), (23, .goto 72, 3, []), (26, .lload_n 2, 1, []), (27, .ldc2_w 114, 3, [1388]), (30, .lcmp, 1, []), (31, .ifCond .ne 44, 3, []), (34, .aload_n 0, 1, []), (35, .getfield 25, 3, [477]), (38, .iload_n 1, 1, []), (39, .invokevirtual 107, 3, [1382]), (42, .istore 4, 2, []), (44, .aload_n 0, 1, []), (45, .iconst 4, 1, []), (46, .aload_n 0, 1, []), (47, .getfield 25, 3, [477]), (50, .iload 4, 2, []), (52, .invokevirtual 116, 3, [1389]), (55, .invokevirtual 46, 3, [1341]), (58, .aload_n 0, 1, []), (59, .iconst 1, 1, []), (60, .iload 4, 2, []), (62, .invokevirtual 46, 3, [1341]), (65, .aload_n 0, 1, []), (66, .iconst 0, 1, []), (67, .bipush 44, 2, []), (69, .invokevirtual 46, 3, [1341]), (72, .goto 23, 3, []), (75, .aload_n 0, 1, []), (76, .iconst 0, 1, []), (77, .bipush 93, 2, []), (79, .invokevirtual 46, 3, [1341]), (82, .aload_n 0, 1, []), (83, .iconst 1, 1, []), (84, .iload_n 1, 1, []), (85, .invokevirtual 46, 3, [1341]), (88, .aload_n 0, 1, []), (89, .iconst 0, 1, []), (90, .bipush 124, 2, []), (92, .invokevirtual 46, 3, [1341]), (95, .return_, 1, [])]
def am_e83 : List (Nat × Instr × Nat × List Nat) := [(0, .aload_n 0, 1, []), (1, .getfield 25, 3, [477]), (4, .iload_n 3, 1, []), (5, .invokevirtual 116, 3, [1389]), (8, .istore 4, 2, []), (10, .iload 4, 2, []), (12, .iconst (-1), 1, []), (13, .if_icmp .eq 17, 3, []), (16, .aload_n 0, 1, []), (17, .iload_n 2, 1, []), (18, .iload 4, 2, []), (20, .invokevirtual 46, 3, [1341]), (23, .aload_n 0, 1, []), (24, .iconst 0, 1, []), (25, .bipush 44, 2, []), (27, .invokevirtual 46, 3, [1341]), (30, .aload_n 0, 1, []), (31, .iload_n 1, 1, []), (32, .iload_n 3, 1, []), (33, .invokevirtual 46, 3, [1341]), (36, .return_, 1, [])]
def am_e84 : List (Nat × Instr × Nat × List Nat) := [(0, .aload_n 0, 1, []), (1, .getfield 25, 3, [477]), (4, .iload_n 1, 1, []), (5, .invokevirtual 130, 3, [1413]), (8, .istore_n 2, 1, []), (9, .aload_n 0, 1, []), (10, .getfield 25, 3, [477]), (13, .iload_n 1, 1, []), (14, .invokevirtual 107, 3, [1382]), (17, .istore_n 3, 1, []), (18, .iload_n 2, 1, []), (19, .iconst 5, 1, []), (20, .if_icmp .ne 12, 3, []), (23, .aload_n 0, 1, []), (24, .iconst 1, 1, []), (25, .iload_n 1, 1, []), (26, .invokevirtual 46, 3, [1341]), (29, .goto 105, 3, []), (32, .iload_n 2, 1, []), (33, .bipush 8, 2, []), (35, .if_icmp .eq 9, 3, []), (38, .iload_n 2, 1, []), (39, .bipush 9, 2, []), (41, .if_icmp .ne 48, 3, []), (44, .aload_n 0, 1, []), (45, .aload_n 0, 1, []), (46, .getfield 25, 3, [477]), (49, .iload_n 1, 1, []), (50, .invokevirtual 103, 3, [1381]), (53, .invokevirtual 110, 3, [1383]), (56, .aload_n 0, 1, []), (57, .bipush 40, 2, []), (59, .invokevirtual 81, 3, [1361]), (62, .aload_n 0, 1, []), (63, .iconst 0, 1, []), (64, .bipush 41, 2, []), (66, .invokevirtual 46, 3, [1341]), (69, .aload_n 0, 1, []), (70, .iload_n 2, 1, []), (71, .bipush 8, 2, []), (73, .if_icmp .ne 8, 3, []), (76, .bipush 6, 2, []), (78, .goto 4, 3, []), (81, .iconst 1, 1, []), (82, .iload_n 3, 1, []), (83, .invokevirtual 46, 3, [1341]), (86, .goto 48, 3, []), (89, .iload_n 3, 1, []), (90, .iconst (-1), 1, []), (91, .if_icmp .ne 18, 3, []), (94, .aload_n 0, 1, []), (95, .aload_n 0, 1, []), (96, .getfield 25, 3, [477]), (99, .iload_n 1, 1, []), (100, .invokevirtual 103, 3, [1381]), (103, .invokevirtual 110, 3, [1383]), (106, .goto 28, 3, []), (109, .aload_n 0, 1, []), (110, .iconst 1, 1, []), (111, .iload_n 3, 1, []), (112, .aload_n 0, 1, []), (113, .getfield 25, 3, [477]), (116, .iload_n 1, 1, []), (117, .invokevirtual 103, 3, [1381]), (120, .iload_n 2, 1, []), (121, .bipush 10, 2, []), (123, .if_icmp .ne 7, 3, []), (126, .iconst 1, 1, []), (127, .goto 4, 3, []), (130, .iconst 0, 1, []), (131, .invokevirtual 124, 3, [1392]), (134, .return_, 1, [])]
def am_e85 : List (Nat × Instr × Nat × List Nat) := [(0, .aload_n 0, 1, []), (1, .iload_n 1, 1, []), (2, .aload_n 0, 1, []), (3, .getfield 25, 3, [477]), (6, .iload_n 2, 1, []), (7, .invokevirtual 116, 3, [1389]), (10, .invokevirtual 46, 3, [1341]), (13, .iload 5, 2, []), (15, .ifCond .eq 10, 3, []), (18, .aload_n 0, 1, []), (19, .iconst 0, 1, []), (20, .bipush 32, 2, []), (22, .invokevirtual 46, 3, [1341]), (25, .iconst 0, 1, []), (26, .istore 6, 2, []), (28, .iload 6, 2, []), (30, .bipush 64, 2, []), (32, .if_icmp .ge 32, 3, []), (35, .lload_n 3, 1, []), (36, .iload 6, 2, []), (38, .lshr, 1, []), (39, .ldc2_w 133, 3, [1387]), (42, .land, 1, []), (43, .l2i, 1, []), (44, .istore 7, 2, []), (46, .iload 7, 2, []), (48, .ifCond .eq 10, 3, []), (51, .aload_n 0, 1, []), (52, .iconst 0, 1, []), (53, .iload 7, 2, []), (55, .invokevirtual 46, 3, [1341]), (58, .iinc 6 8, 3, []), (61, .goto (-33), 3, []), (64, .iload 5, 2, []), (66, .ifCond .eq 10, 3, []), (69, .aload_n 0, 1, []), (70, .iconst 0, 1, []), (71, .bipush 32, 2, []), (73, .invokevirtual 46, 3, [1341]), (76, .aload_n 0, 1, []), (77, .iload_n 1, 1, []), (78, .iload_n 2, 1, []), (79, .invokevirtual 46, 3, [1341]), (82, .return_, 1, [])]
def am_e86 : List (Nat × Instr × Nat × List Nat) := [(0, .bipush 56, 2, []), (2, .istore_n 3, 1, []), (3, .iload_n 3, 1, []), (4, .ifCond .lt 30, 3, []), (7, .lload_n 1, 1, []), (8, .iload_n 3, 1, []), (9, .lshr, 1, []), (10, .ldc2_w 133, 3, [1387]), (13, .land, 1, []), (14, .l2i, 1, []), (15, .istore 4, 2, []), (17, .iload 4, 2, []), (19, .ifCond .eq 9, 3, []), (22, .aload_n 0, 1, []), (23, .iload 4, 2, []), (25, .invokevirtual 81, 3, [1361]), (28, .iinc 3 (-8), 3, []), (31, .goto (-28), 3, []), (34, .return_, 1, [])]
def am_e87 : List (Nat × Instr × Nat × List Nat) := [(0, .iload_n 1, 1, []), (1, .i2l, 1, []), (2, .lstore_n 2, 1, []), (3, .lload_n 2, 1, []), (4, .lconst 0, 1, []), (5, .lcmp, 1, []), (6, .ifCond .ge 12, 3, []), (9, .aload_n 0, 1, []), (10, .bipush 45, 2, []), (12, .invokevirtual 81, 3, [1361]), (15, .lload_n 2, 1, []), (16, .lneg, 1, []), (17, .lstore_n 2, 1, []), (18, .lconst 1, 1, []), (19, .lstore 4, 2, []), (21, .iconst 0, 1, []), (22, .istore 6, 2, []), (24, .iload 6, 2, []), (26, .bipush 10, 2, []), (28, .if_icmp .ge 28, 3, []), (31, .lload 4, 2, []), (33, .ldc2_w 135, 3, [1373]), (36, .lmul, 1, []), (37, .lload_n 2, 1, []), (38, .lcmp, 1, []), (39, .ifCond .gt 17, 3, []), (42, .lload 4, 2, []), (44, .ldc2_w 135, 3, [1373]), (47, .lmul, 1, []), (48, .lstore 4, 2, []), (50, .iinc 6 1, 3, []), (53, .goto (-29), 3, []), (56, .lload 4, 2, []), (58, .lconst 0, 1, []), (59, .lcmp, 1, []), (60, .ifCond .le 31, 3, []), (63, .aload_n 0, 1, []), (64, .ldc2_w 137, 3, [1374]), (67, .lload_n 2, 1, []), (68, .lload 4, 2, []), (70, .ldiv, 1, []), (71, .ldc2_w 135, 3, [1373]), (74, .lrem, 1, []), (75, .ladd, 1, []), (76, .l2i, 1, []), (77, .invokevirtual 81, 3, [1361]), (80, .lload 4, 2, []), (82, .ldc2_w 135, 3, [1373]), (85, .ldiv, 1, []), (86, .lstore 4, 2, []), (88, .goto (-32), 3, []), (91, .return_, 1, [])]
def am_e88 : List (Nat × Instr × Nat × List Nat) := [(0, .iconst 0, 1, []), (1, .istore_n 2, 1, []), (2, .iload_n 2, 1, []), (3, .aload_n 0, 1, []), (4, .getfield 39, 3, [485]), (7, .if_icmp .ge 30, 3, []), (10, .iload_n 2, 1, []), (11, .aload_n 0, 1, []), (12, .getfield 22, 3, [484]), (15, .arraylength, 1, []), (16, .if_icmp .ge 21, 3, []), (19, .aload_n 0, 1, []), (20, .getfield 22, 3, [484]), (23, .iload_n 2, 1, []), (24, .iaload, 1, []), (25, .iload_n 1, 1, []), (26, .if_icmp .ne 5, 3, []), (29, .iload_n 2, 1, []), (30, .ireturn, 1, []), (31, .iinc 2 1, 3, []), (34, .goto (-32), 3, []), (37, .aload_n 0, 1, []), (38, .getfield 39, 3, [485]), (41, .ifCond .lt 35, 3, []), (44, .aload_n 0, 1, []), (45, .getfield 39, 3, [485]), (48, .aload_n 0, 1, []), (49, .getfield 22, 3, [484]), (52, .arraylength, 1, []), (53, .if_icmp .ge 23, 3, []), (56, .aload_n 0, 1, []), (57, .getfield 22, 3, [484]), (60, .aload_n 0, 1, []), (61, .getfield 39, 3, [485]), (64, .iload_n 1, 1, []), (65, .iastore, 1, []), (66, .aload_n 0, 1, []), (67, .dup, 1, []), (68, .getfield 39, 3, [485]), (71, .iconst 1, 1, []), (72, .iadd, 1, []), (73, .putfield 39, 3, [485]), (76, .aload_n 0, 1, []), (77, .getfield 39, 3, [485]), (80, .iconst 1, 1, []), (81, .isub, 1, []), (82, .ireturn, 1, [])]
def am_e89 : List (Nat × Instr × Nat × List Nat) := [(0, .aload_n 0, 1, []), (1, .invokevirtual 139, 3, [1345]), (4, .ifCond .eq 43, 3, []), (7, .aload_n 0, 1, []), (8, .getfield 33, 3, [481]), (11, .ifCond .lt 36, 3, []), (14, .aload_n 0, 1, []), (15, .getfield 33, 3, [481]), (18, .aload_n 0, 1, []), (19, .getfield 15, 3, [480]), (22, .arraylength, 1, []), (23, .if_icmp .ge 24, 3, []), (26, .aload_n 0, 1, []), (27, .getfield 15, 3, [480]), (30, .aload_n 0, 1, []), (31, .getfield 33, 3, [481]), (34, .iload_n 1, 1, []), (35, .i2b, 1, []), (36, .bastore, 1, []), (37, .aload_n 0, 1, []), (38, .dup, 1, []), (39, .getfield 33, 3, [481]), (42, .iconst 1, 1, []), (43, .iadd, 1, []), (44, .putfield 33, 3, [481]), (47, .return_, 1, [])]
def am_e90 : List (Nat × Instr × Nat × List Nat) := [(0, .aload_n 0, 1, []), (1, .invokevirtual 139, 3, [1345]), (4, .ifCond .eq 47, 3, []), (7, .aload_n 0, 1, []), (8, .getfield 36, 3, [483]), (11, .ifCond .lt 40, 3, []), (14, .aload_n 0, 1, []), (15, .getfield 36, 3, [483]), (18, .aload_n 0, 1, []), (19, .getfield 18, 3, [482]), (22, .arraylength, 1, []), (23, .if_icmp .ge 28, 3, []), (26, .aload_n 0, 1, []), (27, .getfield 18, 3, [482]), (30, .aload_n 0, 1, []), (31, .getfield 36, 3, [483]), (34, .iload_n 2, 1, []), (35, .bipush 8, 2, []), (37, .imul, 1, []), (38, .iload_n 1, 1, []), (39, .iadd, 1, []), (40, .iastore, 1, []), (41, .aload_n 0, 1, []), (42, .dup, 1, []), (43, .getfield 36, 3, [483]), (46, .iconst 1, 1, []), (47, .iadd, 1, []), (48, .putfield 36, 3, [483]), (51, .return_, 1, [])]
def am_e91 : List (Nat × Instr × Nat × List Nat) := [(0, .aload_n 0, 1, []), (1, .aload_n 0, 1, []), (2, .getfield 42, 3, [486]), (5, .ifCond .ne 18, 3, []), (8, .aload_n 0, 1, []), (9, .getfield 33, 3, [481]), (12, .aload_n 0, 1, []), (13, .getfield 36, 3, [483]), (16, .iadd, 1, []), (17, .sipush 600, 3, []), (20, .if_icmp .lt 7, 3, []), (23, .iconst 1, 1, []), (24, .goto 4, 3, []), (27, .iconst 0, 1, []), (28, .putfield 42, 3, [486]), (31, .aload_n 0, 1, []), (32, .getfield 42, 3, [486]), (35, .ifCond .ne 7, 3, []), (38, .iconst 1, 1, []), (39, .goto 4, 3, []), (42, .iconst 0, 1, []), (43, .ireturn, 1, [])]
def am_e92 : List (Nat × Instr × Nat × List Nat) := [(0, .aload_n 0, 1, []), (1, .invokespecial 3, 3, [385]), (4, .aload_n 0, 1, []), (5, .sipush 8008, 3, []), (8, .newarray .int, 2, []), (10, .putfield 11, 3, [417]), (13, .aload_n 0, 1, []), (14, .sipush 8008, 3, []), (17, .newarray .int, 2, []), (19, .putfield 15, 3, [418]), (22, .aload_n 0, 1, []), (23, .sipush 8008, 3, []), (26, .newarray .int, 2, []), (28, .putfield 18, 3, [419]), (31, .aload_n 0, 1, []), (32, .sipush 1000, 3, []), (35, .newarray .int, 2, []), (37, .putfield 21, 3, [422]), (40, .aload_n 0, 1, []), (41, .sipush 1000, 3, []), (44, .newarray .int, 2, []), (46, .putfield 24, 3, [423]), (49, .aload_n 0, 1, []), (50, .sipush 1000, 3, []), (53, .newarray .int, 2, []), (55, .putfield 27, 3, [424]), (58, .aload_n 0, 1, []), (59, .sipush 1000, 3, []), (62, .newarray .int, 2, []), (64, .putfield 30, 3, [425]), (67, .aload_n 0, 1, []), (68, .aload_n 1, 1, []), (69, .putfield 33, 3, [413]), (72, .aload_n 0, 1, []), (73, .aload_n 2, 1, []), (74, .putfield 37, 3, [414]), (77, .aload_n 0, 1, []), (78, .aload_n 3, 1, []), (79, .putfield 41, 3, [415]), (82, .aload_n 0, 1, []), (83, .new 45, 3, [386]), (86, .dup, 1, []), (87, .aload_n 2, 1, []), (88, .invokespecial 47, 3, [388]), (91, .putfield 50, 3, [416]), (94, .aload_n 0, 1, []), (95, .iconst (-1), 1, []), (96, .putfield 54, 3, [427]), (99, .aload_n 0, 1, []), (100, .iconst (-1), 1, []), (101, .putfield 58, 3, [421]), (104, .return_, 1, [])]
def am_e93 : List (Nat × Instr × Nat × List Nat) := [(0, .aload_n 0, 1, []), (1, .getfield 37, 3, [414]), (4, .invokevirtual 61, 3, [808]), (7, .aload_n 0, 1, []), (8, .iconst 0, 1, []), (9, .putfield 66, 3, [420]), (12, .aload_n 0, 1, []), (13, .iconst 0, 1, []), (14, .putfield 69, 3, [426]), (17, .aload_n 0, 1, []), (18, .iconst 0, 1, []), (19, .putfield 72, 3, [428]), (22, .aload_n 0, 1, []), (23, .iconst 0, 1, []), (24, .putfield 76, 3, [429]), (27, .aload_n 0, 1, []), (28, .iconst 0, 1, []), (29, .putfield 79, 3, [430]), (32, .aload_n 0, 1, []), (33, .iconst 0, 1, []), (34, .putfield 82, 3, [431]), (37, .aload_n 0, 1, []), (38, .iconst 0, 1, []), (39, .putfield 54, 3, [427]), (42, .aload_n 0, 1, []), (43, .aload_n 0, 1, []), (44, .aload_n 0, 1, []), (45, .getfield 37, 3, [414]), (48, .iconst 0, 1, []), (49, .invokevirtual 85, 3, [817]), (52, .iconst 0, 1, []), (53, .iconst (-1), 1, []), (54, .invokevirtual 89, 3, [826]), (57, .putfield 58, 3, [421]), (60, .return_, 1, [])]
def am_e94 : List (Nat × Instr × Nat × List Nat) := [(0, .aload_n 0, 1, []), (1, .iconst (-1), 1, []), (2, .putfield 54, 3, [427]), (5, .aload_n 0, 1, []), (6, .iconst (-1), 1, []), (7, .putfield 58, 3, [421]), (10, .return_, 1, [])]
def am_e95 : List (Nat × Instr × Nat × List Nat) := [(0, .aload_n 0, 1, []), (1, .getfield 54, 3, [427]), (4, .iconst (-1), 1, []), (5, .if_icmp .eq 7, 3, []), (8, .iconst 1, 1, []), (9, .goto 4, 3, []), (12, .iconst 0, 1, []), (13, .ireturn, 1, [])]
def am_e96 : List (Nat × Instr × Nat × List Nat) := [(0, .iload_n 1, 1, []), (1, .ifCond .lt 15, 3, []), (4, .iload_n 1, 1, []), (5, .aload_n 0, 1, []), (6, .invokevirtual 93, 3, [1334]), (9, .if_icmp .ge 7, 3, []), (12, .iconst 1, 1, []), (13, .goto 4, 3, []), (16, .iconst 0, 1, []), (17, .ireturn, 1, [])]
def am_e97 : List (Nat × Instr × Nat × List Nat) := [(0, .aload_n 0, 1, []), (1, .invokevirtual 97, 3, [864]), (4, .ifCond .eq 15, 3, []), (7, .aload_n 0, 1, []), (8, .getfield 33, 3, [413]), (11, .bipush 40, 2, []), (13, .invokevirtual 103, 3, [910]), (16, .goto 4, 3, []), (19, .iconst 0, 1, []), (20, .ireturn, 1, [])]
def am_e98 : List (Nat × Instr × Nat × List Nat) := [(0, .iconst 0, 1, []), (1, .istore_n 1, 1, []), (2, .aload_n 0, 1, []), (3, .getfield 58, 3, [421]), (6, .istore_n 2, 1, []), (7, .iconst 0, 1, []), (8, .istore_n 3, 1, []), (9, .iload_n 3, 1, []), (10, .sipush 8008, 3, []), (13, .if_icmp .ge 39, 3, []), (16, .iload_n 2, 1, []), (17, .iconst (-1), 1, []), (18, .if_icmp .eq 34, 3, []), (21, .aload_n 0, 1, []), (22, .getfield 11, 3, [417]), (25, .iload_n 2, 1, []), (26, .invokestatic 105, 3, [918]), (29, .bipush (-2), 2, []), (31, .if_icmp .eq 6, 3, []), (34, .iinc 1 1, 3, []), (37, .aload_n 0, 1, []), (38, .getfield 15, 3, [418]), (41, .iload_n 2, 1, []), (42, .invokestatic 105, 3, [918]), (45, .istore_n 2, 1, []), (46, .iinc 3 1, 3, []), (49, .goto (-40), 3, []), (52, .iload_n 1, 1, []), (53, .ireturn, 1, [])]
def am_e99 : List (Nat × Instr × Nat × List Nat) := [(0, .aload_n 0, 1, []), (1, .invokevirtual 97, 3, [864]), (4, .ifCond .eq 10, 3, []), (7, .aload_n 0, 1, []), (8, .getfield 76, 3, [429]), (11, .goto 4, 3, []), (14, .iconst 0, 1, []), (15, .ireturn, 1, [])]
def am_e100 : List (Nat × Instr × Nat × List Nat) := [(0, .aload_n 0, 1, []), (1, .invokevirtual 97, 3, [864]), (4, .ifCond .eq 10, 3, []), (7, .aload_n 0, 1, []), (8, .getfield 79, 3, [430]), (11, .goto 4, 3, []), (14, .iconst 0, 1, []), (15, .ireturn, 1, [])]
def am_e101 : List (Nat × Instr × Nat × List Nat) := [(0, .aload_n 0, 1, []), (1, .invokevirtual 97, 3, [864]), (4, .ifCond .eq 10, 3, []), (7, .aload_n 0, 1, []), (8, .getfield 82, 3, [431]), (11, .goto 4, 3, []), (14, .iconst 0, 1, []), (15, .ireturn, 1, [])]
def am_e102 : List (Nat × Instr × Nat × List Nat) := [(0, .aload_n 0, 1, []), (1, .getfield 54, 3, [427]), (4, .ifCond .ne 17, 3, []), (7, .aload_n 0, 1, []), (8, .getfield 76, 3, [429]), (11, .sipush 1000, 3, []), (14, .if_icmp .lt 7, 3, []), (17, .iconst 4, 1, []), (18, .goto 7, 3, []), (21, .aload_n 0, 1, []), (22, .getfield 54, 3, [427]), (25, .ireturn, 1, [])]
def am_e103 : List (Nat × Instr × Nat × List Nat) := [(0, .aload_n 0, 1, []), (1, .getfield 72, 3, [428]), (4, .ifCond .ne 11, 3, []), (7, .aload_n 0, 1, []), (8, .getfield 58, 3, [421]), (11, .iconst (-1), 1, []), (12, .if_icmp .ne 7, 3, []), (15, .iconst (-1), 1, []), (16, .goto 14, 3, []), (19, .aload_n 0, 1, []), (20, .getfield 11, 3, [417]), (23, .aload_n 0, 1, []), (24, .getfield 58, 3, [421]), (27, .invokestatic 105, 3, [918]), (30, .ireturn, 1, [])]
def am_e104 : List (Nat × Instr × Nat × List Nat) := [(0, .aload_n 0, 1, []), (1, .getfield 76, 3, [429]), (4, .istore_n 2, 1, []), (5, .aload_n 0, 1, []), (6, .getfield 54, 3, [427]), (9, .iconst 1, 1, []), (10, .if_icmp .ne 13, 3, []), (13, .aload_n 0, 1, []), (14, .iconst 0, 1, []), (15, .putfield 54, 3, [427]), (18, .aload_n 0, 1, []), (19, .iconst 0, 1, []), (20, .invokevirtual 109, 3, [1105]), (23, .iconst 0, 1, []), (24, .istore_n 3, 1, []), (25, .iload_n 3, 1, []), (26, .iload_n 1, 1, []), (27, .if_icmp .ge 58, 3, []), (30, .aload_n 0, 1, []), (31, .getfield 54, 3, [427]), (34, .ifCond .ne 51, 3, []), (37, .aload_n 0, 1, []), (38, .getfield 76, 3, [429]), (41, .sipush 1000, 3, []), (44, .if_icmp .ge 41, 3, []), (47, .aload_n 0, 1, []), (48, .dup, 1, []), (49, .getfield 76, 3, [429]), (52, .iconst 1, 1, []), (53, .iadd, 1, []), (54, .putfield 76, 3, [429]), (57, .aload_n 0, 1, []), (58, .aload_n 0, 1, []), (59, .getfield 72, 3, [428]), (62, .ifCond .eq 10, 3, []), (65, .aload_n 0, 1, []), (66, .invokevirtual 113, 3, [1227]), (69, .goto 7, 3, []), (72, .aload_n 0, 1, []), (73, .invokevirtual 116, 3, [1244]), (76, .invokevirtual 109, 3, [1105]), (79, .iinc 3 1, 3, []), (82, .goto (-57), 3, []), (85, .aload_n 0, 1, []), (86, .getfield 76, 3, [429]), (89, .iload_n 2, 1, []), (90, .isub, 1, []), (91, .ireturn, 1, [])]
def am_e105 : List (Nat × Instr × Nat × List Nat) := [(0, .iload_n 1, 1, []), (1, .ifCond .ne 7, 3, []), (4, .iconst 1, 1, []), (5, .goto 4, 3, []), (8, .iconst 0, 1, []), (9, .istore_n 2, 1, []), (10, .iconst 0, 1, []), (11, .istore_n 3, 1, []), (12, .iload_n 3, 1, []), (13, .sipush 1000, 3, []), (16, .if_icmp .gt 45, 3, []), (19, .iload_n 2, 1, []), (20, .ifCond .ne 10, 3, []), (23, .aload_n 0, 1, []), (24, .invokevirtual 119, 3, [1109]), (27, .ifCond .eq 34, 3, []), (30, .iload_n 2, 1, []), (31, .ifCond .ne 18, 3, []), (34, .aload_n 0, 1, []), (35, .aload_n 0, 1, []), (36, .getfield 18, 3, [419]), (39, .aload_n 0, 1, []), (40, .getfield 58, 3, [421]), (43, .invokestatic 105, 3, [918]), (46, .putfield 69, 3, [426]), (49, .aload_n 0, 1, []), (50, .invokevirtual 122, 3, [1113]), (53, .iconst 0, 1, []), (54, .istore_n 2, 1, []), (55, .iinc 3 1, 3, []), (58, .goto (-46), 3, []), (61, .aload_n 0, 1, []), (62, .getfield 54, 3, [427]), (65, .ifCond .ne 33, 3, []), (68, .aload_n 0, 1, []), (69, .getfield 72, 3, [428]), (72, .ifCond .ne 26, 3, []), (75, .aload_n 0, 1, []), (76, .getfield 58, 3, [421]), (79, .iconst (-1), 1, []), (80, .if_icmp .ne 18, 3, []), (83, .aload_n 0, 1, []), (84, .iconst 1, 1, []), (85, .putfield 54, 3, [427]), (88, .aload_n 0, 1, []), (89, .dup, 1, []), (90, .getfield 79, 3, [430]), (93, .iconst 1, 1, []), (94, .iadd, 1, []), (95, .putfield 79, 3, [430]), (98, .return_, 1, [])]
def am_e106 : List (Nat × Instr × Nat × List Nat) := [(0, .aload_n 0, 1, []), (1, .getfield 72, 3, [428]), (4, .ifCond .ne 31, 3, []), (7, .aload_n 0, 1, []), (8, .getfield 58, 3, [421]), (11, .iconst (-1), 1, []), (12, .if_icmp .eq 23, 3, []), (15, .aload_n 0, 1, []), (16, .getfield 11, 3, [417]), (19, .aload_n 0, 1, []), (20, .getfield 58, 3, [421]), (23, .invokestatic 105, 3, [918]), (26, .bipush (-2), 2, []), (28, .if_icmp .ne 7, 3, []), (31, .iconst 1, 1, []), (32, .goto 4, 3, []), (35, .iconst 0, 1, []), (36, .ireturn, 1, [])]
def am_e107 : List (Nat × Instr × Nat × List Nat) := [(0, .iconst 0, 1, []), (1, .istore_n 1, 1, []), (2, .iload_n 1, 1, []), (3, .sipush 1000, 3, []), (6, .if_icmp .ge 214, 3, []), (9, .aload_n 0, 1, []), (10, .getfield 69, 3, [426]), (13, .ifCond .le 207, 3, []), (16, .aload_n 0, 1, []), (17, .getfield 69, 3, [426]), (20, .iconst 1, 1, []), (21, .isub, 1, []), (22, .istore_n 2, 1, []), (23, .aload_n 0, 1, []), (24, .getfield 21, 3, [422]), (27, .iload_n 2, 1, []), (28, .invokestatic 105, 3, [918]), (31, .istore_n 3, 1, []), (32, .aload_n 0, 1, []), (33, .getfield 37, 3, [414]), (36, .aload_n 0, 1, []), (37, .getfield 30, 3, [425]), (40, .iload_n 2, 1, []), (41, .invokestatic 105, 3, [918]), (44, .invokevirtual 125, 3, [1117]), (47, .aload_n 0, 1, []), (48, .aload_n 0, 1, []), (49, .getfield 27, 3, [424]), (52, .iload_n 2, 1, []), (53, .invokestatic 105, 3, [918]), (56, .putfield 58, 3, [421]), (59, .iload_n 3, 1, []), (60, .bipush (-2), 2, []), (62, .if_icmp .ne 9, 3, []), (65, .aload_n 0, 1, []), (66, .iload_n 2, 1, []), (67, .putfield 69, 3, [426]), (70, .return_, 1, []), (71, .aload_n 0, 1, []), (72, .getfield 37, 3, [414]), (75, .iload_n 3, 1, []), (76, .invokevirtual 129, 3, [1123]), (79, .istore 4, 2, []), (81, .aload_n 0, 1, []), (82, .getfield 24, 3, [423]), (85, .iload_n 2, 1, []), (86, .invokestatic 105, 3, [918]), (89, .istore 5, 2, []), (91, .iconst 0, 1, []), (92, .istore 6, 2, []), (94, .iload 6, 2, []), (96, .bipush 40, 2, []), (98, .if_icmp .ge 111, 3, []), (101, .iload 5, 2, []), (103, .iconst (-1), 1, []), (104, .if_icmp .eq 105, 3, []), (107, .aload_n 0, 1, []), (108, .getfield 37, 3, [414]), (111, .aload_n 0, 1, []), (112, .getfield 76, 3, [429]), (115, .iconst 1, 1, []), (116, .iadd, 1, []), (117, .aload_n 0, 1, []), (118, .getfield 33, 3, [413]), (121, .iload 5, 2, []), (123, .invokevirtual 132, 3, [1124]), (126, .invokevirtual 135, 3, [1125]), (129, .aload_n 0, 1, []), (130, .aload_n 0, 1, []), (131, .getfield 41, 3, [415]), (134, .iload_n 3, 1, []), (135, .aload_n 0, 1, []), (136, .getfield 37, 3, [414]), (139, .aload_n 0, 1, []), (140, .getfield 76, 3, [429]), (143, .iconst 1, 1, []), (144, .iadd, 1, []), (145, .invokevirtual 139, 3, [1126]), (148, .iconst 1, 1, []), (149, .invokevirtual 142, 3, [1134]), (152, .putfield 72, 3, [428]), (155, .aload_n 0, 1, []), (156, .getfield 37, 3, [414]), (159, .aload_n 0, 1, []), (160, .getfield 30, 3, [425]), (163, .iload_n 2, 1, []), (164, .invokestatic 105, 3, [918]), (167, .invokevirtual 125, 3, [1117]), (170, .aload_n 0, 1, []), (171, .getfield 72, 3, [428]), (174, .ifCond .eq 14, 3, []), (177, .aload_n 0, 1, []), (178, .getfield 24, 3, [423]), (181, .iload_n 2, 1, []), (182, .iload 5, 2, []), (184, .invokestatic 148, 3, [847]), (187, .return_, 1, []), (188, .aload_n 0, 1, []), (189, .getfield 33, 3, [413]), (192, .iload 4, 2, []), (194, .iload 5, 2, []), (196, .iconst 1, 1, []), (197, .iadd, 1, []), (198, .invokevirtual 152, 3, [1226]), (201, .istore 5, 2, []), (203, .iinc 6 1, 3, []), (206, .goto (-112), 3, []), (209, .aload_n 0, 1, []), (210, .iload_n 2, 1, []), (211, .putfield 69, 3, [426]), (214, .iinc 1 1, 3, []), (217, .goto (-215), 3, []), (220, .aload_n 0, 1, []), (221, .getfield 37, 3, [414]), (224, .iconst 0, 1, []), (225, .invokevirtual 125, 3, [1117]), (228, .aload_n 0, 1, []), (229, .iconst (-1), 1, []), (230, .putfield 58, 3, [421]), (233, .aload_n 0, 1, []), (234, .iconst 2, 1, []), (235, .putfield 54, 3, [427]), (238, .return_, 1, [])]
def am_e108 : List (Nat × Instr × Nat × List Nat) := [(0, .aload_n 0, 1, []), (1, .dup, 1, []), (2, .getfield 69, 3, [426]), (5, .iconst 1, 1, []), (6, .isub, 1, []), (7, .putfield 69, 3, [426]), (10, .aload_n 0, 1, []), (11, .iconst 0, 1, []), (12, .putfield 72, 3, [428]), (15, .aload_n 0, 1, []), (16, .aload_n 0, 1, []), (17, .getfield 21, 3, [422]), (20, .aload_n 0, 1, []), (21, .getfield 69, 3, [426]), (24, .invokestatic 105, 3, [918]), (27, .aload_n 0, 1, []), (28, .getfield 24, 3, [423]), (31, .aload_n 0, 1, []), (32, .getfield 69, 3, [426]), (35, .invokestatic 105, 3, [918]), (38, .invokevirtual 156, 3, [1231]), (41, .ireturn, 1, [])]
def am_e109 : List (Nat × Instr × Nat × List Nat) := [(0, .aload_n 0, 1, []), (1, .getfield 58, 3, [421]), (4, .istore_n 1, 1, []), (5, .aload_n 0, 1, []), (6, .getfield 11, 3, [417]), (9, .iload_n 1, 1, []), (10, .invokestatic 105, 3, [918]), (13, .istore_n 2, 1, []), (14, .aload_n 0, 1, []), (15, .aload_n 0, 1, []), (16, .getfield 15, 3, [418]), (19, .iload_n 1, 1, []), (20, .invokestatic 105, 3, [918]), (23, .putfield 58, 3, [421]), (26, .aload_n 0, 1, []), (27, .getfield 37, 3, [414]), (30, .iload_n 2, 1, []), (31, .invokevirtual 160, 3, [1248]), (34, .istore_n 3, 1, []), (35, .aload_n 0, 1, []), (36, .getfield 37, 3, [414]), (39, .iload_n 2, 1, []), (40, .invokevirtual 163, 3, [1249]), (43, .istore 4, 2, []), (45, .iload 4, 2, []), (47, .lookupswitch 314 #[(5, 113), (6, 135), (8, 161), (9, 206), (10, 284), (12, 298), (13, 298), (14, 266), (15, 240), (33, 137), (60, 298), (61, 222), (62, 298)], 113, []), (160, .aload_n 0, 1, []), (161, .iload_n 2, 1, []), (162, .aload_n 0, 1, []), (163, .getfield 33, 3, [413]), (166, .aload_n 0, 1, []), (167, .getfield 37, 3, [414]), (170, .iload_n 2, 1, []), (171, .invokevirtual 129, 3, [1123]), (174, .iconst 0, 1, []), (175, .invokevirtual 152, 3, [1226]), (178, .invokevirtual 156, 3, [1231]), (181, .ireturn, 1, []), (182, .iconst 1, 1, []), (183, .ireturn, 1, []), (184, .aload_n 0, 1, []), (185, .dup, 1, []), (186, .getfield 82, 3, [431]), (189, .iconst 1, 1, []), (190, .iadd, 1, []), (191, .putfield 82, 3, [431]), (194, .aload_n 0, 1, []), (195, .aload_n 0, 1, []), (196, .getfield 18, 3, [419]), (199, .iload_n 1, 1, []), (200, .invokestatic 105, 3, [918]), (203, .putfield 69, 3, [426]), (206, .iconst 1, 1, []), (207, .ireturn, 1, []), (208, .aload_n 0, 1, []), (209, .bipush (-2), 2, []), (211, .iconst (-1), 1, []), (212, .aload_n 0, 1, []), (213, .getfield 37, 3, [414]), (216, .invokevirtual 166, 3, [1235]), (219, .invokevirtual 169, 3, [1236]), (222, .aload_n 0, 1, []), (223, .aload_n 0, 1, []), (224, .iload_n 3, 1, []), (225, .aload_n 0, 1, []), (226, .getfield 69, 3, [426]), (229, .aload_n 0, 1, []), (230, .bipush (-2), 2, []), (232, .aload_n 0, 1, []), (233, .getfield 69, 3, [426]), (236, .iconst 1, 1, []), (237, .isub, 1, []), (238, .aload_n 0, 1, []), (239, .getfield 58, 3, [421]), (242, .invokevirtual 173, 3, [843]), (245, .invokevirtual 89, 3, [826]), (248, .putfield 58, 3, [421]), (251, .iconst 1, 1, []), (252, .ireturn, 1, []), (253, .aload_n 0, 1, []), (254, .getfield 37, 3, [414]), (257, .aload_n 0, 1, []), (258, .getfield 37, 3, [414]), (261, .iload_n 3, 1, []), (262, .invokevirtual 176, 3, [1253]), (265, .invokevirtual 179, 3, [1254]), (268, .ireturn, 1, []), (269, .aload_n 0, 1, []), (270, .getfield 41, 3, [415]), (273, .iload_n 3, 1, []), (274, .aload_n 0, 1, []), (275, .getfield 37, 3, [414]), (278, .iload_n 3, 1, []), (279, .invokevirtual 183, 3, [830]), (282, .iconst 1, 1, []), (283, .invokevirtual 142, 3, [1134]), (286, .ireturn, 1, []), (287, .aload_n 0, 1, []), (288, .getfield 41, 3, [415]), (291, .iload_n 3, 1, []), (292, .aload_n 0, 1, []), (293, .getfield 37, 3, [414]), (296, .iload_n 3, 1, []), (297, .invokevirtual 183, 3, [830]), (300, .iconst 1, 1, []), (301, .invokevirtual 142, 3, [1134]), (304, .ifCond .ne 7, 3, []), (307, .iconst 1, 1, []), (308, .goto 4, 3, []), (311, .iconst 0, 1, []), (312, .ireturn, 1, []), (313, .aload_n 0, 1, []), (314, .getfield 41, 3, [415]), (317, .iload_n 3, 1, []), (318, .aload_n 0, 1, []), (319, .getfield 37, 3, [414]), (322, .iload_n 3, 1, []), (323, .invokevirtual 183, 3, [830]), (326, .iconst 0, 1, []), (327, .invokevirtual 142, 3, [1134]), (330, .ireturn, 1, []), (331, .aload_n 0, 1, []), (332, .iload_n 3, 1, []), (333, .aload_n 0, 1, []), (334, .getfield 37, 3, [414]), (337, .iload_n 3, 1, []), (338, .invokevirtual 183, 3, [830]), (341, .invokevirtual 186, 3, [1255]), (344, .ireturn, 1, []), (345, .aload_n 0, 1, []), (346, .iload 4, 2, []), (348, .iload_n 3, 1, []), (349, .aload_n 0, 1, []), (350, .getfield 37, 3, [414]), (353, .iload_n 3, 1, []), (354, .invokevirtual 183, 3, [830]), (357, .invokevirtual 189, 3, [1319]), (360, .ireturn, 1, []), (361, .iconst 0, 1, []), (362, .ireturn, 1, [])]
def am_e110 : List (Nat × Instr × Nat × List Nat) := [(0, .aload_n 0, 1, []), (1, .getfield 37, 3, [414]), (4, .iload_n 1, 1, []), (5, .invokevirtual 129, 3, [1123]), (8, .istore_n 3, 1, []), (9, .aload_n 0, 1, []), (10, .getfield 37, 3, [414]), (13, .invokevirtual 166, 3, [1235]), (16, .istore 4, 2, []), (18, .iload_n 2, 1, []), (19, .istore 5, 2, []), (21, .iconst 0, 1, []), (22, .istore 6, 2, []), (24, .iload 6, 2, []), (26, .bipush 40, 2, []), (28, .if_icmp .ge 137, 3, []), (31, .iload 5, 2, []), (33, .iconst (-1), 1, []), (34, .if_icmp .eq 131, 3, []), (37, .aload_n 0, 1, []), (38, .getfield 33, 3, [413]), (41, .iload 5, 2, []), (43, .invokevirtual 132, 3, [1124]), (46, .istore 7, 2, []), (48, .aload_n 0, 1, []), (49, .getfield 33, 3, [413]), (52, .iload_n 3, 1, []), (53, .iload 5, 2, []), (55, .iconst 1, 1, []), (56, .iadd, 1, []), (57, .invokevirtual 152, 3, [1226]), (60, .istore 8, 2, []), (62, .aload_n 0, 1, []), (63, .getfield 37, 3, [414]), (66, .aload_n 0, 1, []), (67, .getfield 76, 3, [429]), (70, .iload 7, 2, []), (72, .invokevirtual 135, 3, [1125]), (75, .aload_n 0, 1, []), (76, .getfield 41, 3, [415]), (79, .iload_n 1, 1, []), (80, .aload_n 0, 1, []), (81, .getfield 37, 3, [414]), (84, .aload_n 0, 1, []), (85, .getfield 76, 3, [429]), (88, .invokevirtual 139, 3, [1126]), (91, .iconst 1, 1, []), (92, .invokevirtual 142, 3, [1134]), (95, .ifCond .eq 60, 3, []), (98, .aload_n 0, 1, []), (99, .getfield 69, 3, [426]), (102, .istore 9, 2, []), (104, .iload 8, 2, []), (106, .iconst (-1), 1, []), (107, .if_icmp .eq 12, 3, []), (110, .aload_n 0, 1, []), (111, .iload_n 1, 1, []), (112, .iload 8, 2, []), (114, .iload 4, 2, []), (116, .invokevirtual 169, 3, [1236]), (119, .aload_n 0, 1, []), (120, .aload_n 0, 1, []), (121, .aload_n 0, 1, []), (122, .getfield 37, 3, [414]), (125, .aload_n 0, 1, []), (126, .getfield 76, 3, [429]), (129, .invokevirtual 85, 3, [817]), (132, .iload 9, 2, []), (134, .aload_n 0, 1, []), (135, .getfield 58, 3, [421]), (138, .invokevirtual 89, 3, [826]), (141, .putfield 58, 3, [421]), (144, .aload_n 0, 1, []), (145, .getfield 33, 3, [413]), (148, .iload 7, 2, []), (150, .invokevirtual 193, 3, [1240]), (153, .iconst 1, 1, []), (154, .ireturn, 1, []), (155, .iload 8, 2, []), (157, .istore 5, 2, []), (159, .iinc 6 1, 3, []), (162, .goto (-138), 3, []), (165, .iconst 0, 1, []), (166, .ireturn, 1, [])]
def am_e111 : List (Nat × Instr × Nat × List Nat) := [(0, .aload_n 0, 1, []), (1, .getfield 50, 3, [416]), (4, .iload_n 2, 1, []), (5, .invokevirtual 196, 3, [1259]), (8, .ifCond .ne 8, 3, []), (11, .aload_n 0, 1, []), (12, .invokevirtual 199, 3, [1307]), (15, .ireturn, 1, []), (16, .aload_n 0, 1, []), (17, .getfield 41, 3, [415]), (20, .iload_n 1, 1, []), (21, .aload_n 0, 1, []), (22, .getfield 37, 3, [414]), (25, .aload_n 0, 1, []), (26, .getfield 76, 3, [429]), (29, .aload_n 0, 1, []), (30, .getfield 50, 3, [416]), (33, .invokevirtual 202, 3, [1311]), (36, .invokevirtual 205, 3, [1315]), (39, .iconst 1, 1, []), (40, .invokevirtual 142, 3, [1134]), (43, .ireturn, 1, [])]
def am_e112 : List (Nat × Instr × Nat × List Nat) := [(0, .aload_n 0, 1, []), (1, .getfield 50, 3, [416]), (4, .iload_n 2, 1, []), (5, .invokevirtual 196, 3, [1259]), (8, .ifCond .ne 8, 3, []), (11, .aload_n 0, 1, []), (12, .invokevirtual 199, 3, [1307]), (15, .ireturn, 1, []), (16, .aload_n 0, 1, []), (17, .getfield 50, 3, [416]), (20, .invokevirtual 202, 3, [1311]), (23, .istore 4, 2, []), (25, .aload_n 0, 1, []), (26, .getfield 50, 3, [416]), (29, .iload_n 3, 1, []), (30, .invokevirtual 196, 3, [1259]), (33, .ifCond .ne 8, 3, []), (36, .aload_n 0, 1, []), (37, .invokevirtual 199, 3, [1307]), (40, .ireturn, 1, []), (41, .aload_n 0, 1, []), (42, .getfield 50, 3, [416]), (45, .invokevirtual 202, 3, [1311]), (48, .istore 5, 2, []), (50, .iload_n 1, 1, []), (51, .lookupswitch 72 #[(12, 59), (60, 33), (62, 46)], 33, []), (84, .iload 4, 2, []), (86, .iload 5, 2, []), (88, .if_icmp .ge 7, 3, []), (91, .iconst 1, 1, []), (92, .goto 4, 3, []), (95, .iconst 0, 1, []), (96, .ireturn, 1, []), (97, .iload 4, 2, []), (99, .iload 5, 2, []), (101, .if_icmp .le 7, 3, []), (104, .iconst 1, 1, []), (105, .goto 4, 3, []), (108, .iconst 0, 1, []), (109, .ireturn, 1, []), (110, .iload 4, 2, []), (112, .iload 5, 2, []), (114, .if_icmp .gt 7, 3, []), (117, .iconst 1, 1, []), (118, .goto 4, 3, []), (121, .iconst 0, 1, []), (122, .ireturn, 1, []), (123, .iload 4, 2, []), (125, .iload 5, 2, []), (127, .if_icmp .lt 7, 3, []), (130, .iconst 1, 1, []), (131, .goto 4, 3, []), (134, .iconst 0, 1, []), (135, .ireturn, 1, [])]
def am_e113 : List (Nat × Instr × Nat × List Nat) := [(0, .aload_n 0, 1, []), (1, .iconst 3, 1, []), (2, .putfield 54, 3, [427]), (5, .aload_n 0, 1, []), (6, .iconst (-1), 1, []), (7, .putfield 58, 3, [421]), (10, .iconst 1, 1, []), (11, .ireturn, 1, [])]
def am_e114 : List (Nat × Instr × Nat × List Nat) := [(0, .aload_n 0, 1, []), (1, .getfield 21, 3, [422]), (4, .aload_n 0, 1, []), (5, .getfield 69, 3, [426]), (8, .iload_n 1, 1, []), (9, .invokestatic 148, 3, [847]), (12, .aload_n 0, 1, []), (13, .getfield 24, 3, [423]), (16, .aload_n 0, 1, []), (17, .getfield 69, 3, [426]), (20, .iload_n 2, 1, []), (21, .invokestatic 148, 3, [847]), (24, .aload_n 0, 1, []), (25, .getfield 27, 3, [424]), (28, .aload_n 0, 1, []), (29, .getfield 69, 3, [426]), (32, .aload_n 0, 1, []), (33, .getfield 58, 3, [421]), (36, .invokestatic 148, 3, [847]), (39, .aload_n 0, 1, []), (40, .getfield 30, 3, [425]), (43, .aload_n 0, 1, []), (44, .getfield 69, 3, [426]), (47, .iload_n 3, 1, []), (48, .invokestatic 148, 3, [847]), (51, .aload_n 0, 1, []), (52, .dup, 1, []), (53, .getfield 69, 3, [426]), (56, .iconst 1, 1, []), (57, .iadd, 1, []), (58, .putfield 69, 3, [426]), (61, .return_, 1, [])]
def am_e115 : List (Nat × Instr × Nat × List Nat) := [(0, .iload_n 1, 1, []), (1, .iconst (-1), 1, []), (2, .if_icmp .ne 7, 3, []), (5, .iload_n 3, 1, []), (6, .goto 7, 3, []), (9, .aload_n 0, 1, []), (10, .getfield 66, 3, [420]), (13, .istore 4, 2, []), (15, .iload_n 1, 1, []), (16, .istore 5, 2, []), (18, .iconst 0, 1, []), (19, .istore 6, 2, []), (21, .iload 6, 2, []), (23, .bipush 8, 2, []), (25, .if_icmp .ge 54, 3, []), (28, .iload 5, 2, []), (30, .iconst (-1), 1, []), (31, .if_icmp .eq 48, 3, []), (34, .aload_n 0, 1, []), (35, .getfield 37, 3, [414]), (38, .iload 5, 2, []), (40, .invokevirtual 183, 3, [830]), (43, .istore 7, 2, []), (45, .aload_n 0, 1, []), (46, .iload 5, 2, []), (48, .iload_n 2, 1, []), (49, .iload 7, 2, []), (51, .iconst (-1), 1, []), (52, .if_icmp .ne 7, 3, []), (55, .iload_n 3, 1, []), (56, .goto 9, 3, []), (59, .aload_n 0, 1, []), (60, .getfield 66, 3, [420]), (63, .iconst 1, 1, []), (64, .iadd, 1, []), (65, .invokevirtual 173, 3, [843]), (68, .pop, 1, []), (69, .iload 7, 2, []), (71, .istore 5, 2, []), (73, .iinc 6 1, 3, []), (76, .goto (-55), 3, []), (79, .iload 4, 2, []), (81, .ireturn, 1, [])]
def am_e116 : List (Nat × Instr × Nat × List Nat) := [(0, .aload_n 0, 1, []), (1, .getfield 11, 3, [417]), (4, .aload_n 0, 1, []), (5, .getfield 66, 3, [420]), (8, .iload_n 1, 1, []), (9, .invokestatic 148, 3, [847]), (12, .aload_n 0, 1, []), (13, .getfield 18, 3, [419]), (16, .aload_n 0, 1, []), (17, .getfield 66, 3, [420]), (20, .iload_n 2, 1, []), (21, .invokestatic 148, 3, [847]), (24, .aload_n 0, 1, []), (25, .getfield 15, 3, [418]), (28, .aload_n 0, 1, []), (29, .getfield 66, 3, [420]), (32, .iload_n 3, 1, []), (33, .invokestatic 148, 3, [847]), (36, .aload_n 0, 1, []), (37, .dup, 1, []), (38, .getfield 66, 3, [420]), (41, .iconst 1, 1, []), (42, .iadd, 1, []), (43, .putfield 66, 3, [420]), (46, .aload_n 0, 1, []), (47, .getfield 66, 3, [420]), (50, .iconst 1, 1, []), (51, .isub, 1, []), (52, .ireturn, 1, [])]
def am_e117 : List (Nat × Instr × Nat × List Nat) := [(0, .aload_n 0, 1, []), (1, .invokespecial 3, 3, [189]), (4, .aload_n 0, 1, []), (5, .sipush 2000, 3, []), (8, .newarray .byte, 2, []), (10, .putfield 9, 3, [190]), (13, .return_, 1, [])]
def am_e118 : List (Nat × Instr × Nat × List Nat) := [(0, .aload_n 0, 1, []), (1, .getfield 15, 3, [191]), (4, .ireturn, 1, [])]
def am_e119 : List (Nat × Instr × Nat × List Nat) := [(0, .aload_n 0, 1, []), (1, .getfield 15, 3, [191]), (4, .sipush 1980, 3, []), (7, .if_icmp .gt 7, 3, []), (10, .iconst 1, 1, []), (11, .goto 4, 3, []), (14, .iconst 0, 1, []), (15, .ireturn, 1, [])]
def am_e120 : List (Nat × Instr × Nat × List Nat) := [(0, .bipush 24, 2, []), (2, .istore_n 2, 1, []), (3, .iload_n 2, 1, []), (4, .ifCond .lt 51, 3, []), (7, .aload_n 0, 1, []), (8, .getfield 15, 3, [191]), (11, .ifCond .lt 38, 3, []), (14, .aload_n 0, 1, []), (15, .getfield 15, 3, [191]), (18, .aload_n 0, 1, []), (19, .getfield 9, 3, [190]), (22, .arraylength, 1, []), (23, .if_icmp .ge 26, 3, []), (26, .aload_n 0, 1, []), (27, .getfield 9, 3, [190]), (30, .aload_n 0, 1, []), (31, .getfield 15, 3, [191]), (34, .iload_n 1, 1, []), (35, .iload_n 2, 1, []), (36, .ishr, 1, []), (37, .i2b, 1, []), (38, .bastore, 1, []), (39, .aload_n 0, 1, []), (40, .dup, 1, []), (41, .getfield 15, 3, [191]), (44, .iconst 1, 1, []), (45, .iadd, 1, []), (46, .putfield 15, 3, [191]), (49, .iinc 2 (-8), 3, []), (52, .goto (-49), 3, []), (55, .return_, 1, [])]
def am_e121 : List (Nat × Instr × Nat × List Nat) := [(0, .aload_n 0, 1, []), (1, .iload_n 1, 1, []), (2, .putfield 15, 3, [191]), (5, .return_, 1, [])]
def am_e122 : List (Nat × Instr × Nat × List Nat) := [(0, .iload_n 1, 1, []), (1, .ifCond .lt 33, 3, []), (4, .iload_n 1, 1, []), (5, .aload_n 0, 1, []), (6, .getfield 15, 3, [191]), (9, .if_icmp .ge 25, 3, []), (12, .iload_n 1, 1, []), (13, .aload_n 0, 1, []), (14, .getfield 9, 3, [190]), (17, .arraylength, 1, []), (18, .if_icmp .ge 16, 3, []), (21, .aload_n 0, 1, []), (22, .getfield 9, 3, [190]), (25, .iload_n 1, 1, []), (26, .baload, 1, []), (27, .sipush 255, 3, []), (30, .iand, 1, []), (31, .goto 4, 3, []), (34, .iconst (-1), 1, []), (35, .ireturn, 1, [])]
def am_e123 : List (Nat × Instr × Nat × List Nat) := [(0, .aload_n 0, 1, []), (1, .invokespecial 7, 3, [320]), (4, .aload_n 0, 1, []), (5, .sipush 1002, 3, []), (8, .newarray .int, 2, []), (10, .putfield 13, 3, [339]), (13, .aload_n 0, 1, []), (14, .sipush 1002, 3, []), (17, .newarray .int, 2, []), (19, .putfield 17, 3, [340]), (22, .aload_n 0, 1, []), (23, .sipush 8016, 3, []), (26, .newarray .int, 2, []), (28, .putfield 20, 3, [341]), (31, .aload_n 0, 1, []), (32, .sipush 8016, 3, []), (35, .newarray .int, 2, []), (37, .putfield 23, 3, [342]), (40, .aload_n 0, 1, []), (41, .new 26, 3, [321]), (44, .dup, 1, []), (45, .invokespecial 28, 3, [323]), (48, .putfield 29, 3, [344]), (51, .aload_n 0, 1, []), (52, .aload_n 1, 1, []), (53, .putfield 33, 3, [338]), (56, .return_, 1, [])]
def am_e124 : List (Nat × Instr × Nat × List Nat) := [(0, .aload_n 0, 1, []), (1, .iconst 0, 1, []), (2, .putfield 37, 3, [343]), (5, .aload_n 0, 1, []), (6, .iconst 0, 1, []), (7, .bipush 40, 2, []), (9, .invokevirtual 41, 3, [812]), (12, .return_, 1, [])]
def am_e125 : List (Nat × Instr × Nat × List Nat) := [(0, .aload_n 0, 1, []), (1, .getfield 13, 3, [339]), (4, .iload_n 1, 1, []), (5, .iload_n 2, 1, []), (6, .invokestatic 45, 3, [816]), (9, .iconst 0, 1, []), (10, .istore_n 3, 1, []), (11, .iload_n 3, 1, []), (12, .bipush 8, 2, []), (14, .if_icmp .ge 23, 3, []), (17, .aload_n 0, 1, []), (18, .getfield 20, 3, [341]), (21, .iload_n 1, 1, []), (22, .bipush 8, 2, []), (24, .imul, 1, []), (25, .iload_n 3, 1, []), (26, .iadd, 1, []), (27, .iconst (-1), 1, []), (28, .invokestatic 45, 3, [816]), (31, .iinc 3 1, 3, []), (34, .goto (-23), 3, []), (37, .return_, 1, [])]
def am_e126 : List (Nat × Instr × Nat × List Nat) := [(0, .iload_n 1, 1, []), (1, .bipush 64, 2, []), (3, .imul, 1, []), (4, .aload_n 0, 1, []), (5, .getfield 33, 3, [338]), (8, .aload_n 0, 1, []), (9, .getfield 13, 3, [339]), (12, .iload_n 1, 1, []), (13, .invokestatic 49, 3, [821]), (16, .invokevirtual 53, 3, [1130]), (19, .iadd, 1, []), (20, .ireturn, 1, [])]
def am_e127 : List (Nat × Instr × Nat × List Nat) := [(0, .aload_n 0, 1, []), (1, .getfield 33, 3, [338]), (4, .aload_n 0, 1, []), (5, .getfield 13, 3, [339]), (8, .iload_n 1, 1, []), (9, .invokestatic 49, 3, [821]), (12, .invokevirtual 57, 3, [822]), (15, .istore_n 2, 1, []), (16, .iload_n 2, 1, []), (17, .iconst (-1), 1, []), (18, .if_icmp .ne 7, 3, []), (21, .iconst (-1), 1, []), (22, .goto 9, 3, []), (25, .iload_n 1, 1, []), (26, .bipush 64, 2, []), (28, .imul, 1, []), (29, .iload_n 2, 1, []), (30, .iadd, 1, []), (31, .ireturn, 1, [])]
def am_e128 : List (Nat × Instr × Nat × List Nat) := [(0, .iload_n 1, 1, []), (1, .bipush 64, 2, []), (3, .idiv, 1, []), (4, .istore_n 2, 1, []), (5, .iload_n 1, 1, []), (6, .ifCond .lt 18, 3, []), (9, .iload_n 1, 1, []), (10, .ldc 60, 2, [838]), (12, .if_icmp .ge 12, 3, []), (15, .iload_n 2, 1, []), (16, .aload_n 0, 1, []), (17, .getfield 13, 3, [339]), (20, .arraylength, 1, []), (21, .if_icmp .lt 5, 3, []), (24, .iconst (-1), 1, []), (25, .ireturn, 1, []), (26, .aload_n 0, 1, []), (27, .getfield 13, 3, [339]), (30, .iload_n 2, 1, []), (31, .iaload, 1, []), (32, .bipush 64, 2, []), (34, .imul, 1, []), (35, .iload_n 1, 1, []), (36, .bipush 64, 2, []), (38, .irem, 1, []), (39, .iadd, 1, []), (40, .ireturn, 1, [])]
def am_e129 : List (Nat × Instr × Nat × List Nat) := [(0, .aload_n 0, 1, []), (1, .getfield 33, 3, [338]), (4, .aload_n 0, 1, []), (5, .iload_n 1, 1, []), (6, .invokevirtual 61, 3, [834]), (9, .invokevirtual 64, 3, [1151]), (12, .ireturn, 1, [])]
def am_e130 : List (Nat × Instr × Nat × List Nat) := [(0, .aload_n 0, 1, []), (1, .getfield 33, 3, [338]), (4, .aload_n 0, 1, []), (5, .iload_n 1, 1, []), (6, .invokevirtual 61, 3, [834]), (9, .invokevirtual 67, 3, [1292]), (12, .lreturn, 1, [])]
def am_e131 : List (Nat × Instr × Nat × List Nat) := [(0, .aload_n 0, 1, []), (1, .getfield 33, 3, [338]), (4, .aload_n 0, 1, []), (5, .iload_n 1, 1, []), (6, .invokevirtual 61, 3, [834]), (9, .invokevirtual 71, 3, [1284]), (12, .ireturn, 1, [])]
def am_e132 : List (Nat × Instr × Nat × List Nat) := [(0, .aload_n 0, 1, []), (1, .getfield 33, 3, [338]), (4, .aload_n 0, 1, []), (5, .iload_n 1, 1, []), (6, .invokevirtual 61, 3, [834]), (9, .aload_n 0, 1, []), (10, .iload_n 2, 1, []), (11, .invokevirtual 61, 3, [834]), (14, .invokevirtual 75, 3, [1213]), (17, .ireturn, 1, [])]
def am_e133 : List (Nat × Instr × Nat × List Nat) := [(0, .aload_n 0, 1, []), (1, .getfield 33, 3, [338]), (4, .aload_n 0, 1, []), (5, .iload_n 1, 1, []), (6, .invokevirtual 61, 3, [834]), (9, .invokevirtual 79, 3, [1218]), (12, .istore_n 2, 1, []), (13, .iload_n 2, 1, []), (14, .iconst (-1), 1, []), (15, .if_icmp .ne 7, 3, []), (18, .iconst (-1), 1, []), (19, .goto 11, 3, []), (22, .iload_n 1, 1, []), (23, .iload_n 1, 1, []), (24, .bipush 64, 2, []), (26, .irem, 1, []), (27, .isub, 1, []), (28, .iload_n 2, 1, []), (29, .iadd, 1, []), (30, .ireturn, 1, [])]
def am_e134 : List (Nat × Instr × Nat × List Nat) := [(0, .aload_n 0, 1, []), (1, .getfield 33, 3, [338]), (4, .aload_n 0, 1, []), (5, .iload_n 1, 1, []), (6, .invokevirtual 61, 3, [834]), (9, .invokevirtual 82, 3, [839]), (12, .istore_n 2, 1, []), (13, .iload_n 2, 1, []), (14, .iconst (-1), 1, []), (15, .if_icmp .ne 7, 3, []), (18, .iconst (-1), 1, []), (19, .goto 11, 3, []), (22, .iload_n 1, 1, []), (23, .iload_n 1, 1, []), (24, .bipush 64, 2, []), (26, .irem, 1, []), (27, .isub, 1, []), (28, .iload_n 2, 1, []), (29, .iadd, 1, []), (30, .ireturn, 1, [])]
def am_e135 : List (Nat × Instr × Nat × List Nat) := [(0, .aload_n 0, 1, []), (1, .iload_n 1, 1, []), (2, .invokevirtual 61, 3, [834]), (5, .istore_n 2, 1, []), (6, .aload_n 0, 1, []), (7, .getfield 33, 3, [338]), (10, .iload_n 2, 1, []), (11, .invokevirtual 64, 3, [1151]), (14, .iconst 3, 1, []), (15, .if_icmp .eq 5, 3, []), (18, .iconst (-1), 1, []), (19, .ireturn, 1, []), (20, .iload_n 1, 1, []), (21, .bipush 64, 2, []), (23, .idiv, 1, []), (24, .bipush 8, 2, []), (26, .imul, 1, []), (27, .aload_n 0, 1, []), (28, .getfield 33, 3, [338]), (31, .iload_n 2, 1, []), (32, .invokevirtual 85, 3, [1155]), (35, .iadd, 1, []), (36, .ireturn, 1, [])]
def am_e136 : List (Nat × Instr × Nat × List Nat) := [(0, .iload_n 1, 1, []), (1, .istore_n 2, 1, []), (2, .iload_n 1, 1, []), (3, .ldc 88, 2, [1150]), (5, .if_icmp .ge 43, 3, []), (8, .aload_n 0, 1, []), (9, .iload_n 1, 1, []), (10, .invokevirtual 61, 3, [834]), (13, .istore_n 3, 1, []), (14, .aload_n 0, 1, []), (15, .getfield 33, 3, [338]), (18, .iload_n 3, 1, []), (19, .invokevirtual 64, 3, [1151]), (22, .iconst 3, 1, []), (23, .if_icmp .eq 5, 3, []), (26, .iload_n 1, 1, []), (27, .ireturn, 1, []), (28, .ldc 88, 2, [1150]), (30, .iload_n 1, 1, []), (31, .bipush 64, 2, []), (33, .idiv, 1, []), (34, .bipush 8, 2, []), (36, .imul, 1, []), (37, .iadd, 1, []), (38, .aload_n 0, 1, []), (39, .getfield 33, 3, [338]), (42, .iload_n 3, 1, []), (43, .invokevirtual 85, 3, [1155]), (46, .iadd, 1, []), (47, .istore_n 2, 1, []), (48, .iconst 0, 1, []), (49, .istore_n 3, 1, []), (50, .iload_n 3, 1, []), (51, .sipush 8016, 3, []), (54, .if_icmp .ge 52, 3, []), (57, .iload_n 2, 1, []), (58, .ldc 88, 2, [1150]), (60, .if_icmp .lt 46, 3, []), (63, .iload_n 2, 1, []), (64, .ldc 88, 2, [1150]), (66, .isub, 1, []), (67, .istore 4, 2, []), (69, .iload 4, 2, []), (71, .aload_n 0, 1, []), (72, .getfield 20, 3, [341]), (75, .arraylength, 1, []), (76, .if_icmp .ge 14, 3, []), (79, .aload_n 0, 1, []), (80, .getfield 20, 3, [341]), (83, .iload 4, 2, []), (85, .iaload, 1, []), (86, .iconst (-1), 1, []), (87, .if_icmp .ne 5, 3, []), (90, .iload_n 2, 1, []), (91, .ireturn, 1, []), (92, .aload_n 0, 1, []), (93, .getfield 20, 3, [341]), (96, .iload 4, 2, []), (98, .iaload, 1, []), (99, .istore_n 2, 1, []), (100, .iinc 3 1, 3, []), (103, .goto (-53), 3, []), (106, .iload_n 2, 1, []), (107, .ireturn, 1, [])]
def am_e137 : List (Nat × Instr × Nat × List Nat) := [(0, .iload_n 1, 1, []), (1, .ldc 88, 2, [1150]), (3, .if_icmp .lt 7, 3, []), (6, .iconst 1, 1, []), (7, .goto 4, 3, []), (10, .iconst 0, 1, []), (11, .ireturn, 1, [])]
def am_e138 : List (Nat × Instr × Nat × List Nat) := [(0, .iload_n 1, 1, []), (1, .ldc 60, 2, [838]), (3, .if_icmp .lt 9, 3, []), (6, .iload_n 1, 1, []), (7, .ldc 88, 2, [1150]), (9, .if_icmp .lt 19, 3, []), (12, .aload_n 0, 1, []), (13, .getfield 33, 3, [338]), (16, .aload_n 0, 1, []), (17, .iload_n 1, 1, []), (18, .invokevirtual 61, 3, [834]), (21, .invokevirtual 64, 3, [1151]), (24, .iconst 4, 1, []), (25, .if_icmp .ne 7, 3, []), (28, .iconst 1, 1, []), (29, .goto 4, 3, []), (32, .iconst 0, 1, []), (33, .ireturn, 1, [])]
def am_e139 : List (Nat × Instr × Nat × List Nat) := [(0, .iload_n 1, 1, []), (1, .ldc 60, 2, [838]), (3, .isub, 1, []), (4, .istore_n 2, 1, []), (5, .iload_n 2, 1, []), (6, .ifCond .lt 21, 3, []), (9, .iload_n 2, 1, []), (10, .aload_n 0, 1, []), (11, .getfield 17, 3, [340]), (14, .arraylength, 1, []), (15, .if_icmp .ge 12, 3, []), (18, .aload_n 0, 1, []), (19, .getfield 17, 3, [340]), (22, .iload_n 2, 1, []), (23, .iaload, 1, []), (24, .goto 15, 3, []), (27, .aload_n 0, 1, []), (28, .getfield 33, 3, [338]), (31, .aload_n 0, 1, []), (32, .iload_n 1, 1, []), (33, .invokevirtual 61, 3, [834]), (36, .invokevirtual 85, 3, [1155]), (39, .ireturn, 1, [])]
def am_e140 : List (Nat × Instr × Nat × List Nat) := [(0, .aload_n 0, 1, []), (1, .getfield 17, 3, [340]), (4, .iload_n 1, 1, []), (5, .iload_n 2, 1, []), (6, .invokestatic 45, 3, [816]), (9, .ldc 60, 2, [838]), (11, .iload_n 1, 1, []), (12, .iadd, 1, []), (13, .ireturn, 1, [])]
def am_e141 : List (Nat × Instr × Nat × List Nat) := [(0, .iload_n 1, 1, []), (1, .ldc 88, 2, [1150]), (3, .isub, 1, []), (4, .istore_n 3, 1, []), (5, .iload_n 3, 1, []), (6, .ifCond .lt 58, 3, []), (9, .iload_n 3, 1, []), (10, .aload_n 0, 1, []), (11, .getfield 20, 3, [341]), (14, .arraylength, 1, []), (15, .if_icmp .ge 49, 3, []), (18, .aload_n 0, 1, []), (19, .getfield 37, 3, [343]), (22, .ifCond .lt 42, 3, []), (25, .aload_n 0, 1, []), (26, .getfield 37, 3, [343]), (29, .aload_n 0, 1, []), (30, .getfield 23, 3, [342]), (33, .arraylength, 1, []), (34, .if_icmp .ge 30, 3, []), (37, .aload_n 0, 1, []), (38, .getfield 20, 3, [341]), (41, .iload_n 3, 1, []), (42, .iload_n 2, 1, []), (43, .iastore, 1, []), (44, .aload_n 0, 1, []), (45, .getfield 23, 3, [342]), (48, .aload_n 0, 1, []), (49, .getfield 37, 3, [343]), (52, .iload_n 3, 1, []), (53, .iastore, 1, []), (54, .aload_n 0, 1, []), (55, .dup, 1, []), (56, .getfield 37, 3, [343]), (59, .iconst 1, 1, []), (60, .iadd, 1, []), (61, .putfield 37, 3, [343]), (64, .return_, 1, [])]
def am_e142 : List (Nat × Instr × Nat × List Nat) := [(0, .aload_n 0, 1, []), (1, .getfield 37, 3, [343]), (4, .ireturn, 1, [])]
def am_e143 : List (Nat × Instr × Nat × List Nat) := [(0, .iload_n 1, 1, []), (1, .iconst 0, 1, []), (2, .invokestatic 89, 3, [1121]), (5, .istore_n 2, 1, []), (6, .aload_n 0, 1, []), (7, .getfield 37, 3, [343]), (10, .iconst 1, 1, []), (11, .isub, 1, []), (12, .istore_n 3, 1, []), (13, .iload_n 3, 1, []), (14, .iload_n 2, 1, []), (15, .if_icmp .lt 25, 3, []), (18, .aload_n 0, 1, []), (19, .getfield 20, 3, [341]), (22, .aload_n 0, 1, []), (23, .getfield 23, 3, [342]), (26, .iload_n 3, 1, []), (27, .invokestatic 49, 3, [821]), (30, .iconst (-1), 1, []), (31, .invokestatic 45, 3, [816]), (34, .iinc 3 (-1), 3, []), (37, .goto (-24), 3, []), (40, .aload_n 0, 1, []), (41, .aload_n 0, 1, []), (42, .getfield 37, 3, [343]), (45, .iload_n 2, 1, []), (46, .invokestatic 95, 3, [1122]), (49, .putfield 37, 3, [343]), (52, .return_, 1, [])]
def am_e144 : List (Nat × Instr × Nat × List Nat) := [(0, .iconst 0, 1, []), (1, .istore_n 3, 1, []), (2, .iload_n 2, 1, []), (3, .istore 4, 2, []), (5, .iconst 0, 1, []), (6, .istore 5, 2, []), (8, .iload 5, 2, []), (10, .aload_n 0, 1, []), (11, .getfield 29, 3, [344]), (14, .invokevirtual 98, 3, [1173]), (17, .if_icmp .gt 160, 3, []), (20, .iload_n 3, 1, []), (21, .ifCond .ne 156, 3, []), (24, .iload 4, 2, []), (26, .ldc 88, 2, [1150]), (28, .if_icmp .lt 18, 3, []), (31, .aload_n 0, 1, []), (32, .getfield 29, 3, [344]), (35, .iload 4, 2, []), (37, .ldc 88, 2, [1150]), (39, .isub, 1, []), (40, .invokevirtual 102, 3, [1177]), (43, .goto 98, 3, []), (46, .iload 4, 2, []), (48, .ifCond .lt 93, 3, []), (51, .iload 4, 2, []), (53, .ldc 60, 2, [838]), (55, .if_icmp .ge 86, 3, []), (58, .aload_n 0, 1, []), (59, .iload 4, 2, []), (61, .invokevirtual 61, 3, [834]), (64, .istore 6, 2, []), (66, .iload 4, 2, []), (68, .bipush 64, 2, []), (70, .idiv, 1, []), (71, .bipush 8, 2, []), (73, .imul, 1, []), (74, .istore 7, 2, []), (76, .iload 6, 2, []), (78, .iload 4, 2, []), (80, .bipush 64, 2, []), (82, .irem, 1, []), (83, .isub, 1, []), (84, .aload_n 0, 1, []), (85, .getfield 33, 3, [338]), (88, .iload 6, 2, []), (90, .invokevirtual 106, 3, [1181]), (93, .iadd, 1, []), (94, .istore 8, 2, []), (96, .iload 8, 2, []), (98, .iload 6, 2, []), (100, .if_icmp .gt 41, 3, []), (103, .aload_n 0, 1, []), (104, .getfield 33, 3, [338]), (107, .iload 8, 2, []), (109, .invokevirtual 64, 3, [1151]), (112, .iconst 3, 1, []), (113, .if_icmp .ne 22, 3, []), (116, .aload_n 0, 1, []), (117, .getfield 29, 3, [344]), (120, .iload 7, 2, []), (122, .aload_n 0, 1, []), (123, .getfield 33, 3, [338]), (126, .iload 8, 2, []), (128, .invokevirtual 85, 3, [1155]), (131, .iadd, 1, []), (132, .invokevirtual 102, 3, [1177]), (135, .iinc 8 1, 3, []), (138, .goto (-42), 3, []), (141, .aload_n 0, 1, []), (142, .getfield 29, 3, [344]), (145, .iload_n 1, 1, []), (146, .ldc 88, 2, [1150]), (148, .isub, 1, []), (149, .invokevirtual 109, 3, [1185]), (152, .istore_n 3, 1, []), (153, .aload_n 0, 1, []), (154, .getfield 20, 3, [341]), (157, .aload_n 0, 1, []), (158, .getfield 29, 3, [344]), (161, .iload 5, 2, []), (163, .invokevirtual 112, 3, [1189]), (166, .invokestatic 49, 3, [821]), (169, .istore 4, 2, []), (171, .iinc 5 1, 3, []), (174, .goto (-166), 3, []), (177, .aload_n 0, 1, []), (178, .getfield 29, 3, [344]), (181, .invokevirtual 115, 3, [1193]), (184, .iload_n 3, 1, []), (185, .ireturn, 1, [])]
def am_e145 : List (Nat × Instr × Nat × List Nat) := [(0, .aload_n 0, 1, []), (1, .invokespecial 3, 3, [263]), (4, .aload_n 0, 1, []), (5, .sipush 2001, 3, []), (8, .newarray .int, 2, []), (10, .putfield 11, 3, [265]), (13, .aload_n 0, 1, []), (14, .sipush 2001, 3, []), (17, .newarray .int, 2, []), (19, .putfield 15, 3, [267]), (22, .aload_n 0, 1, []), (23, .sipush 2001, 3, []), (26, .newarray .long, 2, []), (28, .putfield 18, 3, [268]), (31, .aload_n 0, 1, []), (32, .aload_n 1, 1, []), (33, .putfield 22, 3, [264]), (36, .return_, 1, [])]
def am_e146 : List (Nat × Instr × Nat × List Nat) := [(0, .iload_n 1, 1, []), (1, .ifCond .lt 29, 3, []), (4, .iload_n 1, 1, []), (5, .aload_n 0, 1, []), (6, .getfield 26, 3, [269]), (9, .if_icmp .ge 21, 3, []), (12, .iload_n 1, 1, []), (13, .aload_n 0, 1, []), (14, .getfield 11, 3, [265]), (17, .arraylength, 1, []), (18, .if_icmp .ge 12, 3, []), (21, .aload_n 0, 1, []), (22, .getfield 11, 3, [265]), (25, .iload_n 1, 1, []), (26, .iaload, 1, []), (27, .goto 4, 3, []), (30, .iconst 2, 1, []), (31, .ireturn, 1, [])]
def am_e147 : List (Nat × Instr × Nat × List Nat) := [(0, .iload_n 1, 1, []), (1, .ifCond .lt 29, 3, []), (4, .iload_n 1, 1, []), (5, .aload_n 0, 1, []), (6, .getfield 26, 3, [269]), (9, .if_icmp .ge 21, 3, []), (12, .iload_n 1, 1, []), (13, .aload_n 0, 1, []), (14, .getfield 15, 3, [267]), (17, .arraylength, 1, []), (18, .if_icmp .ge 12, 3, []), (21, .aload_n 0, 1, []), (22, .getfield 15, 3, [267]), (25, .iload_n 1, 1, []), (26, .iaload, 1, []), (27, .goto 4, 3, []), (30, .iconst (-1), 1, []), (31, .ireturn, 1, [])]
def am_e148 : List (Nat × Instr × Nat × List Nat) := [(0, .iload_n 1, 1, []), (1, .ifCond .lt 29, 3, []), (4, .iload_n 1, 1, []), (5, .aload_n 0, 1, []), (6, .getfield 26, 3, [269]), (9, .if_icmp .ge 21, 3, []), (12, .iload_n 1, 1, []), (13, .aload_n 0, 1, []), (14, .getfield 18, 3, [268]), (17, .arraylength, 1, []), (18, .if_icmp .ge 12, 3, []), (21, .aload_n 0, 1, []), (22, .getfield 18, 3, [268]), (25, .iload_n 1, 1, []), (26, .laload, 1, []), (27, .goto 4, 3, []), (30, .lconst 0, 1, []), (31, .lreturn, 1, [])]
def am_e149 : List (Nat × Instr × Nat × List Nat) := [(0, .aload_n 0, 1, []), (1, .iconst 0, 1, []), (2, .putfield 26, 3, [269]), (5, .iconst 0, 1, []), (6, .istore_n 1, 1, []), (7, .iconst 1, 1, []), (8, .istore_n 2, 1, []), (9, .iconst 0, 1, []), (10, .istore_n 3, 1, []), (11, .iload_n 3, 1, []), (12, .sipush 2001, 3, []), (15, .if_icmp .ge 53, 3, []), (18, .iload_n 2, 1, []), (19, .ifCond .eq 49, 3, []), (22, .aload_n 0, 1, []), (23, .aload_n 0, 1, []), (24, .iload_n 1, 1, []), (25, .invokevirtual 30, 3, [557]), (28, .invokevirtual 34, 3, [565]), (31, .istore_n 1, 1, []), (32, .aload_n 0, 1, []), (33, .aload_n 0, 1, []), (34, .getfield 26, 3, [269]), (37, .iconst 1, 1, []), (38, .isub, 1, []), (39, .invokevirtual 37, 3, [612]), (42, .istore 4, 2, []), (44, .iload 4, 2, []), (46, .iconst 1, 1, []), (47, .if_icmp .eq 13, 3, []), (50, .iload 4, 2, []), (52, .iconst 2, 1, []), (53, .if_icmp .eq 7, 3, []), (56, .iconst 1, 1, []), (57, .goto 4, 3, []), (60, .iconst 0, 1, []), (61, .istore_n 2, 1, []), (62, .iinc 3 1, 3, []), (65, .goto (-54), 3, []), (68, .return_, 1, [])]
def am_e150 : List (Nat × Instr × Nat × List Nat) := [(0, .iload_n 1, 1, []), (1, .istore_n 2, 1, []), (2, .iload_n 2, 1, []), (3, .sipush 2000, 3, []), (6, .if_icmp .ge 35, 3, []), (9, .aload_n 0, 1, []), (10, .getfield 22, 3, [264]), (13, .iload_n 2, 1, []), (14, .invokevirtual 40, 3, [561]), (17, .bipush 32, 2, []), (19, .if_icmp .eq 16, 3, []), (22, .aload_n 0, 1, []), (23, .getfield 22, 3, [264]), (26, .iload_n 2, 1, []), (27, .invokevirtual 40, 3, [561]), (30, .bipush 10, 2, []), (32, .if_icmp .ne 9, 3, []), (35, .iinc 2 1, 3, []), (38, .goto (-36), 3, []), (41, .iload_n 2, 1, []), (42, .ireturn, 1, [])]
def am_e151 : List (Nat × Instr × Nat × List Nat) := [(0, .aload_n 0, 1, []), (1, .getfield 22, 3, [264]), (4, .iload_n 1, 1, []), (5, .invokevirtual 40, 3, [561]), (8, .istore_n 2, 1, []), (9, .iload_n 2, 1, []), (10, .iconst (-1), 1, []), (11, .if_icmp .ne 12, 3, []), (14, .aload_n 0, 1, []), (15, .iconst 1, 1, []), (16, .iload_n 1, 1, []), (17, .lconst 0, 1, []), (18, .iload_n 1, 1, []), (19, .invokevirtual 45, 3, [569]), (22, .ireturn, 1, []), (23, .iload_n 2, 1, []), (24, .invokestatic 49, 3, [573]), (27, .ifCond .eq 9, 3, []), (30, .aload_n 0, 1, []), (31, .iload_n 1, 1, []), (32, .invokevirtual 53, 3, [576]), (35, .ireturn, 1, []), (36, .iload_n 2, 1, []), (37, .invokestatic 56, 3, [581]), (40, .ifCond .eq 9, 3, []), (43, .aload_n 0, 1, []), (44, .iload_n 1, 1, []), (45, .invokevirtual 59, 3, [584]), (48, .ireturn, 1, []), (49, .iload_n 2, 1, []), (50, .bipush 95, 2, []), (52, .if_icmp .eq 15, 3, []), (55, .iload_n 2, 1, []), (56, .bipush 65, 2, []), (58, .if_icmp .lt 47, 3, []), (61, .iload_n 2, 1, []), (62, .bipush 90, 2, []), (64, .if_icmp .gt 41, 3, []), (67, .aload_n 0, 1, []), (68, .iload_n 1, 1, []), (69, .iconst 1, 1, []), (70, .iadd, 1, []), (71, .invokevirtual 62, 3, [588]), (74, .istore_n 3, 1, []), (75, .iload_n 3, 1, []), (76, .iload_n 1, 1, []), (77, .isub, 1, []), (78, .bipush 8, 2, []), (80, .if_icmp .le 7, 3, []), (83, .iconst 2, 1, []), (84, .goto 4, 3, []), (87, .iconst 3, 1, []), (88, .istore 4, 2, []), (90, .aload_n 0, 1, []), (91, .iload 4, 2, []), (93, .iload_n 1, 1, []), (94, .aload_n 0, 1, []), (95, .iload_n 1, 1, []), (96, .iload_n 3, 1, []), (97, .invokevirtual 65, 3, [592]), (100, .iload_n 3, 1, []), (101, .invokevirtual 45, 3, [569]), (104, .ireturn, 1, []), (105, .aload_n 0, 1, []), (106, .iload_n 1, 1, []), (107, .iload_n 2, 1, []), (108, .aload_n 0, 1, []), (109, .getfield 22, 3, [264]), (112, .iload_n 1, 1, []), (113, .iconst 1, 1, []), (114, .iadd, 1, []), (115, .invokevirtual 40, 3, [561]), (118, .invokevirtual 69, 3, [605]), (121, .ireturn, 1, [])]
def am_e152 : List (Nat × Instr × Nat × List Nat) := [(0, .aload_n 0, 1, []), (1, .iload_n 1, 1, []), (2, .invokevirtual 62, 3, [588]), (5, .istore_n 2, 1, []), (6, .aload_n 0, 1, []), (7, .iload_n 1, 1, []), (8, .iload_n 2, 1, []), (9, .invokevirtual 65, 3, [592]), (12, .lstore_n 3, 1, []), (13, .aload_n 0, 1, []), (14, .iload_n 2, 1, []), (15, .iload_n 1, 1, []), (16, .isub, 1, []), (17, .bipush 8, 2, []), (19, .if_icmp .le 7, 3, []), (22, .iconst 2, 1, []), (23, .goto 7, 3, []), (26, .lload_n 3, 1, []), (27, .invokestatic 73, 3, [596]), (30, .iload_n 1, 1, []), (31, .lload_n 3, 1, []), (32, .iload_n 2, 1, []), (33, .invokevirtual 45, 3, [569]), (36, .ireturn, 1, [])]
def am_e153 : List (Nat × Instr × Nat × List Nat) := [(0, .lload_n 0, 1, []), (1, .ldc2_w 77, 3, [599]), (4, .lcmp, 1, []), (5, .ifCond .ne 6, 3, []), (8, .bipush 6, 2, []), (10, .ireturn, 1, []), (11, .lload_n 0, 1, []), (12, .ldc2_w 79, 3, [600]), (15, .lcmp, 1, []), (16, .ifCond .ne 6, 3, []), (19, .bipush 7, 2, []), (21, .ireturn, 1, []), (22, .lload_n 0, 1, []), (23, .ldc2_w 81, 3, [601]), (26, .lcmp, 1, []), (27, .ifCond .ne 6, 3, []), (30, .bipush 8, 2, []), (32, .ireturn, 1, []), (33, .lload_n 0, 1, []), (34, .ldc2_w 83, 3, [602]), (37, .lcmp, 1, []), (38, .ifCond .ne 6, 3, []), (41, .bipush 9, 2, []), (43, .ireturn, 1, []), (44, .lload_n 0, 1, []), (45, .ldc2_w 85, 3, [603]), (48, .lcmp, 1, []), (49, .ifCond .ne 6, 3, []), (52, .bipush 10, 2, []), (54, .ireturn, 1, []), (55, .lload_n 0, 1, []), (56, .ldc2_w 87, 3, [604]), (59, .lcmp, 1, []), (60, .ifCond .ne 8, 3, []), (63, .bipush 11, 2, []), (65, .goto 4, 3, []), (68, .iconst 5, 1, []), (69, .ireturn, 1, [])]
def am_e154 : List (Nat × Instr × Nat × List Nat) := [(0, .lconst 0, 1, []), (1, .lstore_n 2, 1, []), (2, .iload_n 1, 1, []), (3, .istore 4, 2, []), (5, .iload 4, 2, []), (7, .sipush 2000, 3, []), (10, .if_icmp .ge 44, 3, []), (13, .aload_n 0, 1, []), (14, .getfield 22, 3, [264]), (17, .iload 4, 2, []), (19, .invokevirtual 40, 3, [561]), (22, .invokestatic 49, 3, [573]), (25, .ifCond .eq 29, 3, []), (28, .lload_n 2, 1, []), (29, .ldc2_w 89, 3, [580]), (32, .lmul, 1, []), (33, .aload_n 0, 1, []), (34, .getfield 22, 3, [264]), (37, .iload 4, 2, []), (39, .invokevirtual 40, 3, [561]), (42, .bipush 48, 2, []), (44, .isub, 1, []), (45, .i2l, 1, []), (46, .ladd, 1, []), (47, .lstore_n 2, 1, []), (48, .iinc 4 1, 3, []), (51, .goto (-46), 3, []), (54, .aload_n 0, 1, []), (55, .iload 4, 2, []), (57, .iload_n 1, 1, []), (58, .isub, 1, []), (59, .bipush 6, 2, []), (61, .if_icmp .le 7, 3, []), (64, .iconst 2, 1, []), (65, .goto 4, 3, []), (68, .iconst 4, 1, []), (69, .iload_n 1, 1, []), (70, .lload_n 2, 1, []), (71, .iload 4, 2, []), (73, .invokevirtual 45, 3, [569]), (76, .ireturn, 1, [])]
def am_e155 : List (Nat × Instr × Nat × List Nat) := [(0, .iload_n 2, 1, []), (1, .sipush 256, 3, []), (4, .imul, 1, []), (5, .iload_n 3, 1, []), (6, .iadd, 1, []), (7, .istore 4, 2, []), (9, .iload 4, 2, []), (11, .lookupswitch 119 #[(14893, 105), (15676, 49), (15677, 77), (15933, 63), (23613, 91)], 49, []), (60, .aload_n 0, 1, []), (61, .bipush 12, 2, []), (63, .iload_n 1, 1, []), (64, .iload 4, 2, []), (66, .i2l, 1, []), (67, .iload_n 1, 1, []), (68, .iconst 2, 1, []), (69, .iadd, 1, []), (70, .invokevirtual 45, 3, [569]), (73, .ireturn, 1, []), (74, .aload_n 0, 1, []), (75, .bipush 13, 2, []), (77, .iload_n 1, 1, []), (78, .iload 4, 2, []), (80, .i2l, 1, []), (81, .iload_n 1, 1, []), (82, .iconst 2, 1, []), (83, .iadd, 1, []), (84, .invokevirtual 45, 3, [569]), (87, .ireturn, 1, []), (88, .aload_n 0, 1, []), (89, .bipush 14, 2, []), (91, .iload_n 1, 1, []), (92, .iload 4, 2, []), (94, .i2l, 1, []), (95, .iload_n 1, 1, []), (96, .iconst 2, 1, []), (97, .iadd, 1, []), (98, .invokevirtual 45, 3, [569]), (101, .ireturn, 1, []), (102, .aload_n 0, 1, []), (103, .bipush 15, 2, []), (105, .iload_n 1, 1, []), (106, .iload 4, 2, []), (108, .i2l, 1, []), (109, .iload_n 1, 1, []), (110, .iconst 2, 1, []), (111, .iadd, 1, []), (112, .invokevirtual 45, 3, [569]), (115, .ireturn, 1, []), (116, .aload_n 0, 1, []), (117, .bipush 16, 2, []), (119, .iload_n 1, 1, []), (120, .iload 4, 2, []), (122, .i2l, 1, []), (123, .iload_n 1, 1, []), (124, .iconst 2, 1, []), (125, .iadd, 1, []), (126, .invokevirtual 45, 3, [569]), (129, .ireturn, 1, []), (130, .aload_n 0, 1, []), (131, .iload_n 2, 1, []), (132, .invokestatic 91, 3, [609]), (135, .ifCond .eq 7, 3, []), (138, .iload_n 2, 1, []), (139, .goto 4, 3, []), (142, .iconst 2, 1, []), (143, .iload_n 1, 1, []), (144, .iload_n 2, 1, []), (145, .i2l, 1, []), (146, .iload_n 1, 1, []), (147, .iconst 1, 1, []), (148, .iadd, 1, []), (149, .invokevirtual 45, 3, [569]), (152, .ireturn, 1, [])]
def am_e156 : List (Nat × Instr × Nat × List Nat) := [(0, .iload_n 0, 1, []), (1, .lookupswitch 133 #[(33, 131), (40, 131), (41, 131), (42, 131), (43, 131), (44, 131), (45, 131), (46, 131), (47, 131), (60, 131), (61, 131), (62, 131), (91, 131), (93, 131), (124, 131)], 131, []), (132, .iconst 1, 1, []), (133, .ireturn, 1, []), (134, .iconst 0, 1, []), (135, .ireturn, 1, [])]
def am_e157 : List (Nat × Instr × Nat × List Nat) := [(0, .iload_n 0, 1, []), (1, .bipush 97, 2, []), (3, .if_icmp .lt 13, 3, []), (6, .iload_n 0, 1, []), (7, .bipush 122, 2, []), (9, .if_icmp .gt 7, 3, []), (12, .iconst 1, 1, []), (13, .goto 4, 3, []), (16, .iconst 0, 1, []), (17, .ireturn, 1, [])]
def am_e158 : List (Nat × Instr × Nat × List Nat) := [(0, .iload_n 0, 1, []), (1, .bipush 48, 2, []), (3, .if_icmp .lt 13, 3, []), (6, .iload_n 0, 1, []), (7, .bipush 57, 2, []), (9, .if_icmp .gt 7, 3, []), (12, .iconst 1, 1, []), (13, .goto 4, 3, []), (16, .iconst 0, 1, []), (17, .ireturn, 1, [])]
def am_e159 : List (Nat × Instr × Nat × List Nat) := [(0, .iload_n 1, 1, []), (1, .istore_n 2, 1, []), (2, .iload_n 2, 1, []), (3, .sipush 2000, 3, []), (6, .if_icmp .ge 37, 3, []), (9, .aload_n 0, 1, []), (10, .getfield 22, 3, [264]), (13, .iload_n 2, 1, []), (14, .invokevirtual 40, 3, [561]), (17, .invokestatic 56, 3, [581]), (20, .ifCond .ne 17, 3, []), (23, .aload_n 0, 1, []), (24, .getfield 22, 3, [264]), (27, .iload_n 2, 1, []), (28, .invokevirtual 40, 3, [561]), (31, .invokestatic 49, 3, [573]), (34, .ifCond .eq 9, 3, []), (37, .iinc 2 1, 3, []), (40, .goto (-38), 3, []), (43, .iload_n 2, 1, []), (44, .ireturn, 1, [])]
def am_e160 : List (Nat × Instr × Nat × List Nat) := [(0, .lconst 0, 1, []), (1, .lstore_n 3, 1, []), (2, .iload_n 1, 1, []), (3, .istore 5, 2, []), (5, .iload 5, 2, []), (7, .iload_n 2, 1, []), (8, .if_icmp .ge 25, 3, []), (11, .lload_n 3, 1, []), (12, .bipush 8, 2, []), (14, .lshl, 1, []), (15, .aload_n 0, 1, []), (16, .getfield 22, 3, [264]), (19, .iload 5, 2, []), (21, .invokevirtual 40, 3, [561]), (24, .i2l, 1, []), (25, .lor, 1, []), (26, .lstore_n 3, 1, []), (27, .iinc 5 1, 3, []), (30, .goto (-25), 3, []), (33, .lload_n 3, 1, []), (34, .lreturn, 1, [])]
def am_e161 : List (Nat × Instr × Nat × List Nat) := [(0, .aload_n 0, 1, []), (1, .getfield 26, 3, [269]), (4, .ifCond .lt 79, 3, []), (7, .aload_n 0, 1, []), (8, .getfield 26, 3, [269]), (11, .aload_n 0, 1, []), (12, .getfield 11, 3, [265]), (15, .arraylength, 1, []), (16, .if_icmp .ge 67, 3, []), (19, .aload_n 0, 1, []), (20, .getfield 26, 3, [269]), (23, .aload_n 0, 1, []), (24, .getfield 15, 3, [267]), (27, .arraylength, 1, []), (28, .if_icmp .ge 55, 3, []), (31, .aload_n 0, 1, []), (32, .getfield 26, 3, [269]), (35, .aload_n 0, 1, []), (36, .getfield 18, 3, [268]), (39, .arraylength, 1, []), (40, .if_icmp .ge 43, 3, []), (43, .aload_n 0, 1, []), (44, .getfield 11, 3, [265]), (47, .aload_n 0, 1, []), (48, .getfield 26, 3, [269]), (51, .iload_n 1, 1, []), (52, .iastore, 1, []), (53, .aload_n 0, 1, []), (54, .getfield 15, 3, [267]), (57, .aload_n 0, 1, []), (58, .getfield 26, 3, [269]), (61, .iload_n 2, 1, []), (62, .iastore, 1, []), (63, .aload_n 0, 1, []), (64, .getfield 18, 3, [268]), (67, .aload_n 0, 1, []), (68, .getfield 26, 3, [269]), (71, .lload_n 3, 1, []), (72, .lastore, 1, []), (73, .aload_n 0, 1, []), (74, .dup, 1, []), (75, .getfield 26, 3, [269]), (78, .iconst 1, 1, []), (79, .iadd, 1, []), (80, .putfield 26, 3, [269]), (83, .iload 5, 2, []), (85, .ireturn, 1, [])]
def am_e162 : List (Nat × Instr × Nat × List Nat) := [(0, .aload_n 0, 1, []), (1, .invokespecial 1, 3, [181]), (4, .aload_n 0, 1, []), (5, .new 7, 3, [184]), (8, .dup, 1, []), (9, .invokespecial 9, 3, [186]), (12, .putfield 10, 3, [508]), (15, .aload_n 0, 1, []), (16, .new 16, 3, [198]), (19, .dup, 1, []), (20, .invokespecial 18, 3, [200]), (23, .putfield 19, 3, [509]), (26, .aload_n 0, 1, []), (27, .new 23, 3, [252]), (30, .dup, 1, []), (31, .aload_n 0, 1, []), (32, .getfield 10, 3, [508]), (35, .aload_n 0, 1, []), (36, .getfield 19, 3, [509]), (39, .invokespecial 25, 3, [254]), (42, .putfield 28, 3, [510]), (45, .aload_n 0, 1, []), (46, .new 32, 3, [315]), (49, .dup, 1, []), (50, .aload_n 0, 1, []), (51, .getfield 19, 3, [509]), (54, .invokespecial 34, 3, [317]), (57, .putfield 37, 3, [511]), (60, .aload_n 0, 1, []), (61, .new 41, 3, [360]), (64, .dup, 1, []), (65, .aload_n 0, 1, []), (66, .getfield 37, 3, [511]), (69, .invokespecial 43, 3, [362]), (72, .putfield 46, 3, [512]), (75, .aload_n 0, 1, []), (76, .new 50, 3, [380]), (79, .dup, 1, []), (80, .aload_n 0, 1, []), (81, .getfield 19, 3, [509]), (84, .aload_n 0, 1, []), (85, .getfield 37, 3, [511]), (88, .aload_n 0, 1, []), (89, .getfield 46, 3, [512]), (92, .invokespecial 52, 3, [382]), (95, .putfield 55, 3, [513]), (98, .aload_n 0, 1, []), (99, .new 59, 3, [471]), (102, .dup, 1, []), (103, .aload_n 0, 1, []), (104, .getfield 37, 3, [511]), (107, .invokespecial 61, 3, [473]), (110, .putfield 62, 3, [514]), (113, .aload_n 0, 1, []), (114, .iconst (-1), 1, []), (115, .putfield 66, 3, [515]), (118, .return_, 1, [])]
def am_e163 : List (Nat × Instr × Nat × List Nat) := [(0, .aload_n 0, 1, []), (1, .getfield 10, 3, [508]), (4, .invokevirtual 70, 3, [1022]), (7, .ifCond .ne 13, 3, []), (10, .new 74, 3, [1026, 76, 78, 2]), (13, .dup, 1, []), (14, .ldc 76, 2, []), (16, .invokespecial 78, 3, []), (19, .athrow, 1, []), (20, .aload_n 0, 1, []), (21, .getfield 10, 3, [508]), (24, .iload_n 1, 1, []), (25, .invokevirtual 81, 3, [1042]), (28, .aload_n 0, 1, []), (29, .getfield 10, 3, [508]), (32, .iload_n 2, 1, []), (33, .invokevirtual 81, 3, [1042]), (36, .aload_n 0, 1, []), (37, .getfield 10, 3, [508]), (40, .iload_n 3, 1, []), (41, .invokevirtual 81, 3, [1042]), (44, .aload_n 0, 1, []), (45, .getfield 10, 3, [508]), (48, .iload 4, 2, []), (50, .invokevirtual 81, 3, [1042]), (53, .aload_n 0, 1, []), (54, .getfield 10, 3, [508]), (57, .iload 5, 2, []), (59, .invokevirtual 81, 3, [1042]), (62, .aload_n 0, 1, []), (63, .getfield 10, 3, [508]), (66, .invokevirtual 85, 3, [898]), (69, .ireturn, 1, [])]
def am_e164 : List (Nat × Instr × Nat × List Nat) := [(0, .iload_n 1, 1, []), (1, .ifCond .lt 14, 3, []), (4, .iload_n 1, 1, []), (5, .aload_n 0, 1, []), (6, .getfield 10, 3, [508]), (9, .invokevirtual 85, 3, [898]), (12, .if_icmp .le 13, 3, []), (15, .new 89, 3, [1054, 91, 93, 3]), (18, .dup, 1, []), (19, .ldc 91, 2, []), (21, .invokespecial 93, 3, []), (24, .athrow, 1, []), (25, .aload_n 0, 1, []), (26, .getfield 10, 3, [508]), (29, .iload_n 1, 1, []), (30, .invokevirtual 94, 3, [784]), (33, .iload_n 1, 1, []), (34, .ireturn, 1, [])]
def am_e165 : List (Nat × Instr × Nat × List Nat) := [(0, .aload_n 0, 1, []), (1, .getfield 19, 3, [509]), (4, .invokevirtual 97, 3, [537]), (7, .aload_n 0, 1, []), (8, .getfield 55, 3, [513]), (11, .invokevirtual 100, 3, [541]), (14, .aload_n 0, 1, []), (15, .aload_n 0, 1, []), (16, .getfield 28, 3, [510]), (19, .invokevirtual 103, 3, [545]), (22, .invokevirtual 106, 3, [772]), (25, .ireturn, 1, [])]
def am_e166 : List (Nat × Instr × Nat × List Nat) := [(0, .aload_n 0, 1, []), (1, .getfield 55, 3, [513]), (4, .invokevirtual 100, 3, [541]), (7, .aload_n 0, 1, []), (8, .aload_n 0, 1, []), (9, .getfield 28, 3, [510]), (12, .invokevirtual 103, 3, [545]), (15, .invokevirtual 106, 3, [772]), (18, .ireturn, 1, [])]
def am_e167 : List (Nat × Instr × Nat × List Nat) := [(0, .iload_n 1, 1, []), (1, .ifCond .lt 14, 3, []), (4, .iload_n 1, 1, []), (5, .aload_n 0, 1, []), (6, .getfield 19, 3, [509]), (9, .invokevirtual 110, 3, [882]), (12, .if_icmp .lt 13, 3, []), (15, .new 113, 3, [923, 115, 117, 4]), (18, .dup, 1, []), (19, .ldc 115, 2, []), (21, .invokespecial 117, 3, []), (24, .athrow, 1, []), (25, .aload_n 0, 1, []), (26, .getfield 55, 3, [513]), (29, .invokevirtual 100, 3, [541]), (32, .aload_n 0, 1, []), (33, .getfield 19, 3, [509]), (36, .iload_n 1, 1, []), (37, .invokevirtual 118, 3, [1079]), (40, .aload_n 0, 1, []), (41, .getfield 19, 3, [509]), (44, .invokevirtual 110, 3, [882]), (47, .ireturn, 1, [])]
def am_e168 : List (Nat × Instr × Nat × List Nat) := [(0, .aload_n 0, 1, []), (1, .getfield 66, 3, [515]), (4, .ireturn, 1, [])]
def am_e169 : List (Nat × Instr × Nat × List Nat) := [(0, .iload_n 1, 1, []), (1, .tableswitch 123 0 8 #[51, 59, 67, 75, 83, 91, 99, 107, 115], 51, []), (52, .aload_n 0, 1, []), (53, .getfield 19, 3, [509]), (56, .invokevirtual 110, 3, [882]), (59, .ireturn, 1, []), (60, .aload_n 0, 1, []), (61, .getfield 19, 3, [509]), (64, .invokevirtual 121, 3, [883]), (67, .ireturn, 1, []), (68, .aload_n 0, 1, []), (69, .getfield 10, 3, [508]), (72, .invokevirtual 85, 3, [898]), (75, .ireturn, 1, []), (76, .aload_n 0, 1, []), (77, .getfield 62, 3, [514]), (80, .invokevirtual 124, 3, [902]), (83, .ireturn, 1, []), (84, .aload_n 0, 1, []), (85, .getfield 55, 3, [513]), (88, .invokevirtual 125, 3, [906]), (91, .ireturn, 1, []), (92, .aload_n 0, 1, []), (93, .getfield 55, 3, [513]), (96, .invokevirtual 128, 3, [914]), (99, .ireturn, 1, []), (100, .aload_n 0, 1, []), (101, .getfield 55, 3, [513]), (104, .invokevirtual 131, 3, [868]), (107, .ireturn, 1, []), (108, .aload_n 0, 1, []), (109, .getfield 55, 3, [513]), (112, .invokevirtual 134, 3, [860]), (115, .ireturn, 1, []), (116, .aload_n 0, 1, []), (117, .getfield 55, 3, [513]), (120, .invokevirtual 137, 3, [919]), (123, .ireturn, 1, []), (124, .new 113, 3, [923, 140, 117, 0]), (127, .dup, 1, []), (128, .ldc 140, 2, []), (130, .invokespecial 117, 3, []), (133, .athrow, 1, [])]
def am_e170 : List (Nat × Instr × Nat × List Nat) := [(0, .iload_n 1, 1, []), (1, .ifCond .lt 23, 3, []), (4, .iload_n 1, 1, []), (5, .aload_n 0, 1, []), (6, .getfield 19, 3, [509]), (9, .invokevirtual 110, 3, [882]), (12, .if_icmp .ge 12, 3, []), (15, .iload_n 2, 1, []), (16, .ifCond .lt 8, 3, []), (19, .iload_n 2, 1, []), (20, .iconst 3, 1, []), (21, .if_icmp .le 13, 3, []), (24, .new 113, 3, [923, 142, 117, 1]), (27, .dup, 1, []), (28, .ldc 142, 2, []), (30, .invokespecial 117, 3, []), (33, .athrow, 1, []), (34, .aload_n 0, 1, []), (35, .getfield 19, 3, [509]), (38, .iload_n 1, 1, []), (39, .invokevirtual 144, 3, [996]), (42, .istore_n 3, 1, []), (43, .iload_n 2, 1, []), (44, .tableswitch 55 0 2 #[28, 37, 46], 28, []), (72, .aload_n 0, 1, []), (73, .getfield 19, 3, [509]), (76, .iload_n 3, 1, []), (77, .invokevirtual 147, 3, [997]), (80, .ireturn, 1, []), (81, .aload_n 0, 1, []), (82, .getfield 19, 3, [509]), (85, .iload_n 3, 1, []), (86, .invokevirtual 150, 3, [1001]), (89, .ireturn, 1, []), (90, .aload_n 0, 1, []), (91, .getfield 19, 3, [509]), (94, .iload_n 3, 1, []), (95, .invokevirtual 152, 3, [1005]), (98, .ireturn, 1, []), (99, .aload_n 0, 1, []), (100, .getfield 19, 3, [509]), (103, .iload_n 3, 1, []), (104, .invokevirtual 154, 3, [1006]), (107, .ireturn, 1, [])]
def am_e171 : List (Nat × Instr × Nat × List Nat) := [(0, .aload_n 0, 1, []), (1, .aload_n 0, 1, []), (2, .getfield 28, 3, [510]), (5, .invokevirtual 157, 3, [776]), (8, .putfield 66, 3, [515]), (11, .aload_n 0, 1, []), (12, .getfield 10, 3, [508]), (15, .iconst 0, 1, []), (16, .invokevirtual 94, 3, [784]), (19, .iload_n 1, 1, []), (20, .ireturn, 1, [])]
def am_e172 : List (Nat × Instr × Nat × List Nat) := [(0, .aload_n 0, 1, []), (1, .getfield 55, 3, [513]), (4, .invokevirtual 100, 3, [541]), (7, .aload_n 0, 1, []), (8, .getfield 28, 3, [510]), (11, .invokevirtual 159, 3, [800]), (14, .istore_n 1, 1, []), (15, .iload_n 1, 1, []), (16, .ifCond .ne 10, 3, []), (19, .aload_n 0, 1, []), (20, .getfield 55, 3, [513]), (23, .invokevirtual 162, 3, [804]), (26, .aload_n 0, 1, []), (27, .iload_n 1, 1, []), (28, .invokevirtual 106, 3, [772]), (31, .ireturn, 1, [])]
def am_e173 : List (Nat × Instr × Nat × List Nat) := [(0, .iload_n 1, 1, []), (1, .iconst 1, 1, []), (2, .if_icmp .lt 10, 3, []), (5, .iload_n 1, 1, []), (6, .sipush 500, 3, []), (9, .if_icmp .le 13, 3, []), (12, .new 89, 3, [1054, 165, 93, 5]), (15, .dup, 1, []), (16, .ldc 165, 2, []), (18, .invokespecial 93, 3, []), (21, .athrow, 1, []), (22, .aload_n 0, 1, []), (23, .getfield 55, 3, [513]), (26, .invokevirtual 167, 3, [1099]), (29, .ifCond .ne 13, 3, []), (32, .new 74, 3, [1026, 170, 78, 6]), (35, .dup, 1, []), (36, .ldc 170, 2, []), (38, .invokespecial 78, 3, []), (41, .athrow, 1, []), (42, .aload_n 0, 1, []), (43, .getfield 55, 3, [513]), (46, .iload_n 1, 1, []), (47, .invokevirtual 172, 3, [1101]), (50, .ireturn, 1, [])]
def am_e174 : List (Nat × Instr × Nat × List Nat) := [(0, .aload_n 0, 1, []), (1, .getfield 55, 3, [513]), (4, .invokevirtual 175, 3, [852]), (7, .ireturn, 1, [])]
def am_e175 : List (Nat × Instr × Nat × List Nat) := [(0, .aload_n 0, 1, []), (1, .getfield 55, 3, [513]), (4, .iload_n 1, 1, []), (5, .invokevirtual 178, 3, [1330]), (8, .ifCond .ne 13, 3, []), (11, .new 113, 3, [923, 182, 117, 7]), (14, .dup, 1, []), (15, .ldc 182, 2, []), (17, .invokespecial 117, 3, []), (20, .athrow, 1, []), (21, .aload_n 0, 1, []), (22, .getfield 62, 3, [514]), (25, .iconst 1, 1, []), (26, .ldc 184, 2, [1336]), (28, .iload_n 1, 1, []), (29, .iadd, 1, []), (30, .invokevirtual 185, 3, [1337]), (33, .ifCond .ne 13, 3, []), (36, .new 74, 3, [1026, 189, 78, 8]), (39, .dup, 1, []), (40, .ldc 189, 2, []), (42, .invokespecial 78, 3, []), (45, .athrow, 1, []), (46, .aload_n 0, 1, []), (47, .getfield 62, 3, [514]), (50, .invokevirtual 124, 3, [902]), (53, .ireturn, 1, [])]
def am_e176 : List (Nat × Instr × Nat × List Nat) := [(0, .aload_n 0, 1, []), (1, .getfield 55, 3, [513]), (4, .invokevirtual 167, 3, [1099]), (7, .ifCond .ne 13, 3, []), (10, .new 74, 3, [1026, 170, 78, 6]), (13, .dup, 1, []), (14, .ldc 170, 2, []), (16, .invokespecial 78, 3, []), (19, .athrow, 1, []), (20, .aload_n 0, 1, []), (21, .getfield 55, 3, [513]), (24, .invokevirtual 191, 3, [1422]), (27, .istore_n 1, 1, []), (28, .iload_n 1, 1, []), (29, .iconst (-1), 1, []), (30, .if_icmp .ne 13, 3, []), (33, .aload_n 0, 1, []), (34, .getfield 62, 3, [514]), (37, .invokevirtual 194, 3, [1426]), (40, .goto 25, 3, []), (43, .aload_n 0, 1, []), (44, .getfield 62, 3, [514]), (47, .iconst 5, 1, []), (48, .iload_n 1, 1, []), (49, .invokevirtual 185, 3, [1337]), (52, .ifCond .ne 13, 3, []), (55, .new 74, 3, [1026, 189, 78, 8]), (58, .dup, 1, []), (59, .ldc 189, 2, []), (61, .invokespecial 78, 3, []), (64, .athrow, 1, []), (65, .aload_n 0, 1, []), (66, .getfield 62, 3, [514]), (69, .invokevirtual 124, 3, [902]), (72, .ireturn, 1, [])]
def am_e177 : List (Nat × Instr × Nat × List Nat) := [(0, .iload_n 1, 1, []), (1, .ifCond .lt 14, 3, []), (4, .iload_n 1, 1, []), (5, .aload_n 0, 1, []), (6, .getfield 62, 3, [514]), (9, .invokevirtual 124, 3, [902]), (12, .if_icmp .lt 13, 3, []), (15, .new 113, 3, [923, 197, 117, 9]), (18, .dup, 1, []), (19, .ldc 197, 2, []), (21, .invokespecial 117, 3, []), (24, .athrow, 1, []), (25, .aload_n 0, 1, []), (26, .getfield 62, 3, [514]), (29, .iload_n 1, 1, []), (30, .invokevirtual 199, 3, [1010]), (33, .ireturn, 1, [])]
def am_e178 : List (Nat × Instr × Nat × List Nat) := [(0, .aload_n 0, 1, []), (1, .getfield 55, 3, [513]), (4, .iload_n 1, 1, []), (5, .invokevirtual 178, 3, [1330]), (8, .ifCond .ne 13, 3, []), (11, .new 113, 3, [923, 182, 117, 7]), (14, .dup, 1, []), (15, .ldc 182, 2, []), (17, .invokespecial 117, 3, []), (20, .athrow, 1, []), (21, .aload_n 0, 1, []), (22, .getfield 37, 3, [511]), (25, .ldc 184, 2, [1336]), (27, .iload_n 1, 1, []), (28, .iadd, 1, []), (29, .invokevirtual 202, 3, [1445]), (32, .istore_n 2, 1, []), (33, .aload_n 0, 1, []), (34, .getfield 37, 3, [511]), (37, .iload_n 2, 1, []), (38, .invokevirtual 205, 3, [1446]), (41, .ifCond .ne 13, 3, []), (44, .new 74, 3, [1026, 208, 78, 10]), (47, .dup, 1, []), (48, .ldc 208, 2, []), (50, .invokespecial 78, 3, []), (53, .athrow, 1, []), (54, .aload_n 0, 1, []), (55, .getfield 37, 3, [511]), (58, .iload_n 2, 1, []), (59, .invokevirtual 210, 3, [1448]), (62, .ireturn, 1, [])]
def am_e179 : List (Nat × Instr × Nat × List Nat) := [(0, .aload_n 0, 1, []), (1, .getfield 55, 3, [513]), (4, .iload_n 1, 1, []), (5, .invokevirtual 178, 3, [1330]), (8, .ifCond .eq 14, 3, []), (11, .aload_n 0, 1, []), (12, .getfield 55, 3, [513]), (15, .iload_n 2, 1, []), (16, .invokevirtual 178, 3, [1330]), (19, .ifCond .ne 13, 3, []), (22, .new 113, 3, [923, 182, 117, 7]), (25, .dup, 1, []), (26, .ldc 182, 2, []), (28, .invokespecial 117, 3, []), (31, .athrow, 1, []), (32, .aload_n 0, 1, []), (33, .getfield 46, 3, [512]), (36, .ldc 184, 2, [1336]), (38, .iload_n 1, 1, []), (39, .iadd, 1, []), (40, .ldc 184, 2, [1336]), (42, .iload_n 2, 1, []), (43, .iadd, 1, []), (44, .iconst 0, 1, []), (45, .invokevirtual 213, 3, [1456]), (48, .ireturn, 1, [])]
def am_e180 : List (Nat × Instr × Nat × List Nat) := [(0, .aload_n 0, 1, []), (1, .getfield 55, 3, [513]), (4, .invokevirtual 134, 3, [860]), (7, .istore_n 1, 1, []), (8, .iload_n 1, 1, []), (9, .ifCond .ne 7, 3, []), (12, .dconst 0, 1, []), (13, .goto 14, 3, []), (16, .aload_n 0, 1, []), (17, .getfield 55, 3, [513]), (20, .invokevirtual 131, 3, [868]), (23, .i2d, 1, []), (24, .iload_n 1, 1, []), (25, .i2d, 1, []), (26, .ddiv, 1, []), (27, .dreturn, 1, [])]
def am_e181 : List (Nat × Instr × Nat × List Nat) := [(0, .ldc2_w 217, 3, [876]), (3, .lstore_n 1, 1, []), (4, .iconst 0, 1, []), (5, .istore_n 3, 1, []), (6, .iload_n 3, 1, []), (7, .bipush 8, 2, []), (9, .if_icmp .gt 22, 3, []), (12, .lload_n 1, 1, []), (13, .ldc2_w 219, 3, [877]), (16, .lmul, 1, []), (17, .aload_n 0, 1, []), (18, .iload_n 3, 1, []), (19, .invokevirtual 221, 3, [878]), (22, .i2l, 1, []), (23, .ladd, 1, []), (24, .lstore_n 1, 1, []), (25, .iinc 3 1, 3, []), (28, .goto (-22), 3, []), (31, .lload_n 1, 1, []), (32, .ldc2_w 219, 3, [877]), (35, .lmul, 1, []), (36, .aload_n 0, 1, []), (37, .invokevirtual 224, 3, [990]), (40, .i2l, 1, []), (41, .ladd, 1, []), (42, .lstore_n 1, 1, []), (43, .iconst 0, 1, []), (44, .istore_n 3, 1, []), (45, .iload_n 3, 1, []), (46, .aload_n 0, 1, []), (47, .getfield 19, 3, [509]), (50, .invokevirtual 110, 3, [882]), (53, .if_icmp .ge 39, 3, []), (56, .iconst 0, 1, []), (57, .istore 4, 2, []), (59, .iload 4, 2, []), (61, .iconst 3, 1, []), (62, .if_icmp .gt 24, 3, []), (65, .lload_n 1, 1, []), (66, .ldc2_w 219, 3, [877]), (69, .lmul, 1, []), (70, .aload_n 0, 1, []), (71, .iload_n 3, 1, []), (72, .iload 4, 2, []), (74, .invokevirtual 227, 3, [991]), (77, .i2l, 1, []), (78, .ladd, 1, []), (79, .lstore_n 1, 1, []), (80, .iinc 4 1, 3, []), (83, .goto (-24), 3, []), (86, .iinc 3 1, 3, []), (89, .goto (-44), 3, []), (92, .iconst 0, 1, []), (93, .istore_n 3, 1, []), (94, .iload_n 3, 1, []), (95, .aload_n 0, 1, []), (96, .getfield 62, 3, [514]), (99, .invokevirtual 124, 3, [902]), (102, .if_icmp .ge 25, 3, []), (105, .lload_n 1, 1, []), (106, .ldc2_w 219, 3, [877]), (109, .lmul, 1, []), (110, .aload_n 0, 1, []), (111, .getfield 62, 3, [514]), (114, .iload_n 3, 1, []), (115, .invokevirtual 199, 3, [1010]), (118, .i2l, 1, []), (119, .ladd, 1, []), (120, .lstore_n 1, 1, []), (121, .iinc 3 1, 3, []), (124, .goto (-30), 3, []), (127, .lload_n 1, 1, []), (128, .lreturn, 1, [])]
def am_e182 : List (Nat × Instr × Nat × List Nat) := [(0, .iload_n 1, 1, []), (1, .ifCond .lt 15, 3, []), (4, .iload_n 1, 1, []), (5, .aload_n 0, 1, []), (6, .arraylength, 1, []), (7, .if_icmp .ge 9, 3, []), (10, .aload_n 0, 1, []), (11, .iload_n 1, 1, []), (12, .iaload, 1, []), (13, .goto 4, 3, []), (16, .iconst (-1), 1, []), (17, .ireturn, 1, [])]
def am_e183 : List (Nat × Instr × Nat × List Nat) := [(0, .iload_n 1, 1, []), (1, .ifCond .lt 13, 3, []), (4, .iload_n 1, 1, []), (5, .aload_n 0, 1, []), (6, .arraylength, 1, []), (7, .if_icmp .ge 7, 3, []), (10, .aload_n 0, 1, []), (11, .iload_n 1, 1, []), (12, .iload_n 2, 1, []), (13, .iastore, 1, []), (14, .return_, 1, [])]
def am_e184 : List (Nat × Instr × Nat × List Nat) := [(0, .aload_n 0, 1, []), (1, .invokespecial 3, 3, [1913]), (4, .aload_n 0, 1, []), (5, .bipush 61, 2, []), (7, .newarray .int, 2, []), (9, .putfield 9, 3, [1914]), (12, .aload_n 0, 1, []), (13, .bipush 61, 2, []), (15, .newarray .long, 2, []), (17, .putfield 15, 3, [1916]), (20, .aload_n 0, 1, []), (21, .bipush 61, 2, []), (23, .newarray .int, 2, []), (25, .putfield 19, 3, [1918]), (28, .aload_n 0, 1, []), (29, .bipush 61, 2, []), (31, .newarray .int, 2, []), (33, .putfield 22, 3, [1920]), (36, .aload_n 0, 1, []), (37, .bipush 122, 2, []), (39, .newarray .int, 2, []), (41, .putfield 25, 3, [1922]), (44, .aload_n 0, 1, []), (45, .bipush 8, 2, []), (47, .newarray .long, 2, []), (49, .putfield 28, 3, [1928]), (52, .aload_n 0, 1, []), (53, .bipush 8, 2, []), (55, .newarray .int, 2, []), (57, .putfield 31, 3, [1931]), (60, .aload_n 0, 1, []), (61, .bipush 8, 2, []), (63, .newarray .int, 2, []), (65, .putfield 34, 3, [1933]), (68, .aload_n 0, 1, []), (69, .bipush 8, 2, []), (71, .newarray .int, 2, []), (73, .putfield 37, 3, [1935]), (76, .aload_n 0, 1, []), (77, .bipush 8, 2, []), (79, .newarray .int, 2, []), (81, .putfield 40, 3, [1937]), (84, .aload_n 0, 1, []), (85, .bipush 8, 2, []), (87, .newarray .int, 2, []), (89, .putfield 43, 3, [1939]), (92, .aload_n 0, 1, []), (93, .iconst (-1), 1, []), (94, .putfield 46, 3, [1941]), (97, .return_, 1, [])]
def am_e185 : List (Nat × Instr × Nat × List Nat) := [(0, .aload_n 0, 1, []), (1, .invokespecial 1, 3, [1462]), (4, .aload_n 0, 1, []), (5, .sipush 2000, 3, []), (8, .newarray .int, 2, []), (10, .putfield 9, 3, [1467]), (13, .aload_n 0, 1, []), (14, .iconst (-1), 1, []), (15, .putfield 13, 3, [1469]), (18, .aload_n 0, 1, []), (19, .sipush 2001, 3, []), (22, .newarray .int, 2, []), (24, .putfield 17, 3, [1470]), (27, .aload_n 0, 1, []), (28, .sipush 2001, 3, []), (31, .newarray .int, 2, []), (33, .putfield 20, 3, [1471]), (36, .aload_n 0, 1, []), (37, .sipush 2001, 3, []), (40, .newarray .int, 2, []), (42, .putfield 23, 3, [1472]), (45, .aload_n 0, 1, []), (46, .bipush 40, 2, []), (48, .anewarray 26, 3, [1463]), (51, .putfield 28, 3, [1476]), (54, .aload_n 0, 1, []), (55, .sipush 600, 3, []), (58, .newarray .int, 2, []), (60, .putfield 32, 3, [1477]), (63, .aload_n 0, 1, []), (64, .bipush 8, 2, []), (66, .newarray .int, 2, []), (68, .putfield 35, 3, [1480]), (71, .aload_n 0, 1, []), (72, .iconst (-1), 1, []), (73, .putfield 38, 3, [1481]), (76, .aload_n 0, 1, []), (77, .ldc 41, 2, [1465]), (79, .newarray .int, 2, []), (81, .putfield 42, 3, [1486]), (84, .aload_n 0, 1, []), (85, .ldc 41, 2, [1465]), (87, .newarray .long, 2, []), (89, .putfield 45, 3, [1487]), (92, .aload_n 0, 1, []), (93, .ldc 41, 2, [1465]), (95, .newarray .int, 2, []), (97, .putfield 49, 3, [1488]), (100, .aload_n 0, 1, []), (101, .ldc 41, 2, [1465]), (103, .newarray .int, 2, []), (105, .putfield 52, 3, [1489]), (108, .aload_n 0, 1, []), (109, .ldc 41, 2, [1465]), (111, .newarray .int, 2, []), (113, .putfield 55, 3, [1491]), (116, .aload_n 0, 1, []), (117, .ldc 41, 2, [1465]), (119, .newarray .int, 2, []), (121, .putfield 58, 3, [1493]), (124, .aload_n 0, 1, []), (125, .ldc 41, 2, [1465]), (127, .newarray .int, 2, []), (129, .putfield 61, 3, [1494]), (132, .aload_n 0, 1, []), (133, .ldc 41, 2, [1465]), (135, .newarray .int, 2, []), (137, .putfield 64, 3, [1495]), (140, .aload_n 0, 1, []), (141, .ldc 41, 2, [1465]), (143, .newarray .int, 2, []), (145, .putfield 67, 3, [1496]), (148, .aload_n 0, 1, []), (149, .sipush 8016, 3, []), (152, .newarray .int, 2, []), (154, .putfield 70, 3, [1498]), (157, .aload_n 0, 1, []), (158, .sipush 10000, 3, []), (161, .newarray .int, 2, []), (163, .putfield 73, 3, [1500]), (166, .aload_n 0, 1, []), (167, .sipush 10000, 3, []), (170, .newarray .int, 2, []), (172, .putfield 76, 3, [1501]), (175, .aload_n 0, 1, []), (176, .sipush 10000, 3, []), (179, .newarray .int, 2, []), (181, .putfield 79, 3, [1502]), (184, .aload_n 0, 1, []), (185, .sipush 10000, 3, []), (188, .newarray .int, 2, []), (190, .putfield 82, 3, [1503]), (193, .aload_n 0, 1, []), (194, .sipush 10000, 3, []), (197, .newarray .int, 2, []), (199, .putfield 85, 3, [1504]), (202, .aload_n 0, 1, []), (203, .sipush 10000, 3, []), (206, .newarray .int, 2, []), (208, .putfield 88, 3, [1505]), (211, .aload_n 0, 1, []), (212, .iconst (-1), 1, []), (213, .putfield 91, 3, [1506]), (216, .aload_n 0, 1, []), (217, .sipush 1001, 3, []), (220, .newarray .boolean, 2, []), (222, .putfield 94, 3, [1508]), (225, .aload_n 0, 1, []), (226, .sipush 1001, 3, []), (229, .newarray .int, 2, []), (231, .putfield 98, 3, [1509]), (234, .aload_n 0, 1, []), (235, .sipush 1001, 3, []), (238, .newarray .int, 2, []), (240, .putfield 101, 3, [1510]), (243, .aload_n 0, 1, []), (244, .sipush 1001, 3, []), (247, .newarray .int, 2, []), (249, .putfield 104, 3, [1511]), (252, .aload_n 0, 1, []), (253, .sipush 1001, 3, []), (256, .newarray .int, 2, []), (258, .putfield 107, 3, [1512]), (261, .aload_n 0, 1, []), (262, .sipush 1001, 3, []), (265, .newarray .int, 2, []), (267, .putfield 110, 3, [1513]), (270, .aload_n 0, 1, []), (271, .sipush 1001, 3, []), (274, .newarray .int, 2, []), (276, .putfield 113, 3, [1514]), (279, .aload_n 0, 1, []), (280, .sipush 1001, 3, []), (283, .newarray .int, 2, []), (285, .putfield 116, 3, [1515]), (288, .aload_n 0, 1, []), (289, .ldc 41, 2, [1465]), (291, .newarray .int, 2, []), (293, .putfield 119, 3, [1520]), (296, .aload_n 0, 1, []), (297, .ldc 41, 2, [1465]), (299, .newarray .int, 2, []), (301, .putfield 122, 3, [1521]), (304, .aload_n 0, 1, []), (305, .ldc 41, 2, [1465]), (307, .newarray .int, 2, []), (309, .putfield 125, 3, [1522]), (312, .aload_n 0, 1, []), (313, .ldc 41, 2, [1465]), (315, .newarray .int, 2, []), (317, .putfield 128, 3, [1523]), (320, .aload_n 0, 1, []), (321, .bipush 8, 2, []), (323, .newarray .int, 2, []), (325, .putfield 131, 3, [1525]), (328, .aload_n 0, 1, []), (329, .sipush 600, 3, []), (332, .newarray .int, 2, []), (334, .putfield 134, 3, [1527]), (337, .return_, 1, [])]
def am_e186 : List (Nat × Instr × Nat × List Nat) := [(0, .aload_n 0, 1, []), (1, .getfield 137, 3, [1466]), (4, .ireturn, 1, [])]
def am_e187 : List (Nat × Instr × Nat × List Nat) := [(0, .aload_n 0, 1, []), (1, .iload_n 1, 1, []), (2, .putfield 137, 3, [1466]), (5, .iconst 0, 1, []), (6, .ireturn, 1, [])]
def am_e188 : List (Nat × Instr × Nat × List Nat) := [(0, .iload_n 0, 1, []), (1, .iload_n 1, 1, []), (2, .if_icmp .lt 12, 3, []), (5, .iload_n 0, 1, []), (6, .iload_n 2, 1, []), (7, .if_icmp .gt 7, 3, []), (10, .iconst 1, 1, []), (11, .goto 4, 3, []), (14, .iconst 0, 1, []), (15, .ireturn, 1, [])]
def am_e189 : List (Nat × Instr × Nat × List Nat) := [(0, .aload_n 0, 1, []), (1, .iconst 0, 1, []), (2, .putfield 137, 3, [1466]), (5, .aload_n 0, 1, []), (6, .getfield 140, 3, [1468]), (9, .bipush 20, 2, []), (11, .iadd, 1, []), (12, .sipush 2000, 3, []), (15, .if_icmp .le 9, 3, []), (18, .aload_n 0, 1, []), (19, .iconst 1, 1, []), (20, .invokevirtual 143, 3, [1661]), (23, .ireturn, 1, []), (24, .iconst 5, 1, []), (25, .newarray .int, 2, []), (27, .dup, 1, []), (28, .iconst 0, 1, []), (29, .iload_n 1, 1, []), (30, .iastore, 1, []), (31, .dup, 1, []), (32, .iconst 1, 1, []), (33, .iload_n 2, 1, []), (34, .iastore, 1, []), (35, .dup, 1, []), (36, .iconst 2, 1, []), (37, .iload_n 3, 1, []), (38, .iastore, 1, []), (39, .dup, 1, []), (40, .iconst 3, 1, []), (41, .iload 4, 2, []), (43, .iastore, 1, []), (44, .dup, 1, []), (45, .iconst 4, 1, []), (46, .iload 5, 2, []), (48, .iastore, 1, []), (49, .astore 6, 2, []), (51, .aload 6, 2, []), (53, .astore 7, 2, []), (55, .aload 7, 2, []), (57, .arraylength, 1, []), (58, .istore 8, 2, []), (60, .iconst 0, 1, []), (61, .istore 9, 2, []), (63, .iload 9, 2, []), (65, .iload 8, 2, []), (67, .if_icmp .ge 61, 3, []), (70, .aload 7, 2, []), (72, .iload 9, 2, []), (74, .iaload, 1, []), (75, .istore 10, 2, []), (77, .iconst 3, 1, []), (78, .istore 11, 2, []), (80, .iload 11, 2, []), (82, .ifCond .lt 40, 3, []), (85, .aload_n 0, 1, []), (86, .getfield 9, 3, [1467]), (89, .aload_n 0, 1, []), (90, .getfield 140, 3, [1468]), (93, .iload 10, 2, []), (95, .bipush 8, 2, []), (97, .iload 11, 2, []), (99, .imul, 1, []), (100, .ishr, 1, []), (101, .sipush 255, 3, []), (104, .iand, 1, []), (105, .iastore, 1, []), (106, .aload_n 0, 1, []), (107, .dup, 1, []), (108, .getfield 140, 3, [1468]), (111, .iconst 1, 1, []), (112, .iadd, 1, []), (113, .putfield 140, 3, [1468]), (116, .iinc 11 (-1), 3, []), (119, .goto (-39), 3, []), (122, .iinc 9 1, 3, []), (125, .goto (-62), 3, []), (128, .aload_n 0, 1, []), (129, .getfield 140, 3, [1468]), (132, .ireturn, 1, [])]
def am_e190 : List (Nat × Instr × Nat × List Nat) := [(0, .aload_n 0, 1, []), (1, .iconst 0, 1, []), (2, .putfield 137, 3, [1466]), (5, .iload_n 1, 1, []), (6, .iconst 0, 1, []), (7, .aload_n 0, 1, []), (8, .getfield 140, 3, [1468]), (11, .invokestatic 147, 3, [1669]), (14, .ifCond .ne 9, 3, []), (17, .aload_n 0, 1, []), (18, .iconst 1, 1, []), (19, .invokevirtual 143, 3, [1661]), (22, .ireturn, 1, []), (23, .aload_n 0, 1, []), (24, .iload_n 1, 1, []), (25, .putfield 140, 3, [1468]), (28, .iload_n 1, 1, []), (29, .ireturn, 1, [])]
def am_e191 : List (Nat × Instr × Nat × List Nat) := [(0, .iload_n 1, 1, []), (1, .aload_n 0, 1, []), (2, .getfield 140, 3, [1468]), (5, .if_icmp .ge 12, 3, []), (8, .aload_n 0, 1, []), (9, .getfield 9, 3, [1467]), (12, .iload_n 1, 1, []), (13, .iaload, 1, []), (14, .goto 4, 3, []), (17, .iconst (-1), 1, []), (18, .ireturn, 1, [])]
def am_e192 : List (Nat × Instr × Nat × List Nat) := [(0, .iload_n 0, 1, []), (1, .bipush 97, 2, []), (3, .bipush 122, 2, []), (5, .invokestatic 147, 3, [1669]), (8, .ireturn, 1, [])]
def am_e193 : List (Nat × Instr × Nat × List Nat) := [(0, .iload_n 0, 1, []), (1, .bipush 48, 2, []), (3, .bipush 57, 2, []), (5, .invokestatic 147, 3, [1669]), (8, .ireturn, 1, [])]
def am_e194 : List (Nat × Instr × Nat × List Nat) := [(0, .iload_n 0, 1, []), (1, .bipush 65, 2, []), (3, .bipush 90, 2, []), (5, .invokestatic 147, 3, [1669]), (8, .ifCond .ne 9, 3, []), (11, .iload_n 0, 1, []), (12, .bipush 95, 2, []), (14, .if_icmp .ne 7, 3, []), (17, .iconst 1, 1, []), (18, .goto 4, 3, []), (21, .iconst 0, 1, []), (22, .ireturn, 1, [])]
def am_e195 : List (Nat × Instr × Nat × List Nat) := [(0, .aload_n 0, 1, []), (1, .iload_n 1, 1, []), (2, .invokevirtual 151, 3, [1688]), (5, .istore_n 2, 1, []), (6, .aload_n 0, 1, []), (7, .iload_n 1, 1, []), (8, .iconst 1, 1, []), (9, .iadd, 1, []), (10, .invokevirtual 151, 3, [1688]), (13, .istore_n 3, 1, []), (14, .iload_n 2, 1, []), (15, .bipush 92, 2, []), (17, .if_icmp .ne 15, 3, []), (20, .iload_n 3, 1, []), (21, .bipush 61, 2, []), (23, .if_icmp .ne 7, 3, []), (26, .iconst 2, 1, []), (27, .goto 4, 3, []), (30, .iconst 0, 1, []), (31, .ireturn, 1, []), (32, .iload_n 2, 1, []), (33, .bipush 58, 2, []), (35, .if_icmp .ne 15, 3, []), (38, .iload_n 3, 1, []), (39, .bipush 45, 2, []), (41, .if_icmp .ne 7, 3, []), (44, .iconst 2, 1, []), (45, .goto 4, 3, []), (48, .iconst 0, 1, []), (49, .ireturn, 1, []), (50, .iload_n 2, 1, []), (51, .bipush 61, 2, []), (53, .if_icmp .ne 21, 3, []), (56, .iload_n 3, 1, []), (57, .bipush 60, 2, []), (59, .if_icmp .eq 9, 3, []), (62, .iload_n 3, 1, []), (63, .bipush 61, 2, []), (65, .if_icmp .ne 7, 3, []), (68, .iconst 2, 1, []), (69, .goto 4, 3, []), (72, .iconst 1, 1, []), (73, .ireturn, 1, []), (74, .iload_n 2, 1, []), (75, .bipush 62, 2, []), (77, .if_icmp .ne 15, 3, []), (80, .iload_n 3, 1, []), (81, .bipush 61, 2, []), (83, .if_icmp .ne 7, 3, []), (86, .iconst 2, 1, []), (87, .goto 4, 3, []), (90, .iconst 1, 1, []), (91, .ireturn, 1, []), (92, .iload_n 2, 1, []), (93, .ifCond .le 16, 3, []), (96, .ldc 154, 2, [1705]), (98, .iload_n 2, 1, []), (99, .invokevirtual 156, 3, [1706]), (102, .ifCond .lt 7, 3, []), (105, .iconst 1, 1, []), (106, .goto 4, 3, []), (109, .iconst 0, 1, []), (110, .ireturn, 1, [])]
def am_e196 : List (Nat × Instr × Nat × List Nat) := [(0, .iconst 0, 1, []), (1, .istore_n 1, 1, []), (2, .iconst 0, 1, []), (3, .istore_n 2, 1, []), (4, .iconst 1, 1, []), (5, .istore_n 3, 1, []), (6, .iload_n 3, 1, []), (7, .ifCond .eq 252, 3, []), (10, .aload_n 0, 1, []), (11, .iload_n 2, 1, []), (12, .invokevirtual 151, 3, [1688]), (15, .bipush 32, 2, []), (17, .if_icmp .eq 13, 3, []), (20, .aload_n 0, 1, []), (21, .iload_n 2, 1, []), (22, .invokevirtual 151, 3, [1688]), (25, .bipush 10, 2, []), (27, .if_icmp .ne 9, 3, []), (30, .iinc 2 1, 3, []), (33, .goto (-23), 3, []), (36, .iload_n 2, 1, []), (37, .istore 4, 2, []), (39, .iconst 0, 1, []), (40, .istore 5, 2, []), (42, .aload_n 0, 1, []), (43, .iload_n 2, 1, []), (44, .invokevirtual 151, 3, [1688]), (47, .invokestatic 161, 3, [1692]), (50, .ifCond .ne 14, 3, []), (53, .aload_n 0, 1, []), (54, .iload_n 2, 1, []), (55, .invokevirtual 151, 3, [1688]), (58, .invokestatic 165, 3, [1695]), (61, .ifCond .eq 70, 3, []), (64, .iinc 4 1, 3, []), (67, .aload_n 0, 1, []), (68, .iload 4, 2, []), (70, .invokevirtual 151, 3, [1688]), (73, .invokestatic 161, 3, [1692]), (76, .ifCond .ne 15, 3, []), (79, .aload_n 0, 1, []), (80, .iload 4, 2, []), (82, .invokevirtual 151, 3, [1688]), (85, .invokestatic 168, 3, [1698]), (88, .ifCond .eq 9, 3, []), (91, .iinc 4 1, 3, []), (94, .goto (-27), 3, []), (97, .iload 4, 2, []), (99, .iload_n 2, 1, []), (100, .isub, 1, []), (101, .bipush 8, 2, []), (103, .if_icmp .le 7, 3, []), (106, .iconst 5, 1, []), (107, .goto 19, 3, []), (110, .aload_n 0, 1, []), (111, .iload_n 2, 1, []), (112, .invokevirtual 151, 3, [1688]), (115, .invokestatic 161, 3, [1692]), (118, .ifCond .eq 7, 3, []), (121, .iconst 1, 1, []), (122, .goto 4, 3, []), (125, .iconst 2, 1, []), (126, .istore 5, 2, []), (128, .goto 88, 3, []), (131, .aload_n 0, 1, []), (132, .iload_n 2, 1, []), (133, .invokevirtual 151, 3, [1688]), (136, .invokestatic 168, 3, [1698]), (139, .ifCond .eq 40, 3, []), (142, .aload_n 0, 1, []), (143, .iload 4, 2, []), (145, .invokevirtual 151, 3, [1688]), (148, .invokestatic 168, 3, [1698]), (151, .ifCond .eq 9, 3, []), (154, .iinc 4 1, 3, []), (157, .goto (-15), 3, []), (160, .iload 4, 2, []), (162, .iload_n 2, 1, []), (163, .isub, 1, []), (164, .bipush 6, 2, []), (166, .if_icmp .gt 7, 3, []), (169, .iconst 3, 1, []), (170, .goto 4, 3, []), (173, .iconst 5, 1, []), (174, .istore 5, 2, []), (176, .goto 40, 3, []), (179, .iload_n 2, 1, []), (180, .aload_n 0, 1, []), (181, .getfield 140, 3, [1468]), (184, .if_icmp .ge 32, 3, []), (187, .iload 4, 2, []), (189, .iconst 1, 1, []), (190, .aload_n 0, 1, []), (191, .iload_n 2, 1, []), (192, .invokevirtual 171, 3, [1701]), (195, .invokestatic 174, 3, [1788]), (198, .iadd, 1, []), (199, .istore 4, 2, []), (201, .aload_n 0, 1, []), (202, .iload_n 2, 1, []), (203, .invokevirtual 171, 3, [1701]), (206, .ifCond .le 7, 3, []), (209, .iconst 4, 1, []), (210, .goto 4, 3, []), (213, .iconst 5, 1, []), (214, .istore 5, 2, []), (216, .aload_n 0, 1, []), (217, .getfield 17, 3, [1470]), (220, .iload_n 1, 1, []), (221, .iload 5, 2, []), (223, .iastore, 1, []), (224, .aload_n 0, 1, []), (225, .getfield 20, 3, [1471]), (228, .iload_n 1, 1, []), (229, .iload_n 2, 1, []), (230, .iastore, 1, []), (231, .aload_n 0, 1, []), (232, .getfield 23, 3, [1472]), (235, .iload_n 1, 1, []), (236, .iload 4, 2, []), (238, .iastore, 1, []), (239, .iinc 1 1, 3, []), (242, .iload 4, 2, []), (244, .istore_n 2, 1, []), (245, .iload 5, 2, []), (247, .ifCond .eq 7, 3, []), (250, .iconst 1, 1, []), (251, .goto 4, 3, []), (254, .iconst 0, 1, []), (255, .istore_n 3, 1, []), (256, .goto (-250), 3, []), (259, .return_, 1, [])]
def am_e197 : List (Nat × Instr × Nat × List Nat) := [(0, .aload_n 0, 1, []), (1, .getfield 17, 3, [1470]), (4, .iload_n 1, 1, []), (5, .iaload, 1, []), (6, .iconst 1, 1, []), (7, .if_icmp .eq 13, 3, []), (10, .aload_n 0, 1, []), (11, .getfield 17, 3, [1470]), (14, .iload_n 1, 1, []), (15, .iaload, 1, []), (16, .iconst 4, 1, []), (17, .if_icmp .ne 27, 3, []), (20, .aload_n 0, 1, []), (21, .getfield 23, 3, [1472]), (24, .iload_n 1, 1, []), (25, .iaload, 1, []), (26, .aload_n 0, 1, []), (27, .getfield 20, 3, [1471]), (30, .iload_n 1, 1, []), (31, .iaload, 1, []), (32, .isub, 1, []), (33, .aload_n 2, 1, []), (34, .invokevirtual 180, 3, [1811]), (37, .if_icmp .ne 7, 3, []), (40, .iconst 1, 1, []), (41, .goto 4, 3, []), (44, .iconst 0, 1, []), (45, .istore_n 3, 1, []), (46, .iconst 0, 1, []), (47, .istore 4, 2, []), (49, .iload 4, 2, []), (51, .aload_n 2, 1, []), (52, .invokevirtual 180, 3, [1811]), (55, .if_icmp .ge 42, 3, []), (58, .iload_n 3, 1, []), (59, .ifCond .eq 38, 3, []), (62, .aload_n 0, 1, []), (63, .getfield 9, 3, [1467]), (66, .aload_n 0, 1, []), (67, .getfield 20, 3, [1471]), (70, .iload_n 1, 1, []), (71, .iaload, 1, []), (72, .iload 4, 2, []), (74, .iadd, 1, []), (75, .iaload, 1, []), (76, .aload_n 2, 1, []), (77, .iload 4, 2, []), (79, .invokevirtual 183, 3, [1812]), (82, .if_icmp .ne 7, 3, []), (85, .iconst 1, 1, []), (86, .goto 4, 3, []), (89, .iconst 0, 1, []), (90, .istore_n 3, 1, []), (91, .iinc 4 1, 3, []), (94, .goto (-45), 3, []), (97, .iload_n 3, 1, []), (98, .ireturn, 1, [])]
def am_e198 : List (Nat × Instr × Nat × List Nat) := [(0, .iconst (-1), 1, []), (1, .istore_n 3, 1, []), (2, .iconst 0, 1, []), (3, .istore 4, 2, []), (5, .iload 4, 2, []), (7, .aload_n 2, 1, []), (8, .arraylength, 1, []), (9, .if_icmp .ge 24, 3, []), (12, .aload_n 0, 1, []), (13, .iload_n 1, 1, []), (14, .aload_n 2, 1, []), (15, .iload 4, 2, []), (17, .aaload, 1, []), (18, .invokevirtual 187, 3, [1807]), (21, .ifCond .eq 6, 3, []), (24, .iload 4, 2, []), (26, .istore_n 3, 1, []), (27, .iinc 4 1, 3, []), (30, .goto (-25), 3, []), (33, .iload_n 3, 1, []), (34, .ireturn, 1, [])]
def am_e199 : List (Nat × Instr × Nat × List Nat) := [(0, .aload_n 0, 1, []), (1, .getfield 17, 3, [1470]), (4, .iload_n 1, 1, []), (5, .iaload, 1, []), (6, .iconst 1, 1, []), (7, .if_icmp .ne 19, 3, []), (10, .aload_n 0, 1, []), (11, .iload_n 1, 1, []), (12, .getstatic 191, 3, [1801]), (15, .invokevirtual 195, 3, [1803]), (18, .iconst (-1), 1, []), (19, .if_icmp .ne 7, 3, []), (22, .iconst 1, 1, []), (23, .goto 4, 3, []), (26, .iconst 0, 1, []), (27, .ireturn, 1, [])]
def am_e200 : List (Nat × Instr × Nat × List Nat) := [(0, .lconst 0, 1, []), (1, .lstore_n 2, 1, []), (2, .aload_n 0, 1, []), (3, .getfield 20, 3, [1471]), (6, .iload_n 1, 1, []), (7, .iaload, 1, []), (8, .istore 4, 2, []), (10, .iload 4, 2, []), (12, .aload_n 0, 1, []), (13, .getfield 23, 3, [1472]), (16, .iload_n 1, 1, []), (17, .iaload, 1, []), (18, .if_icmp .ge 96, 3, []), (21, .ldc2_w 199, 3, [2005]), (24, .lload_n 2, 1, []), (25, .lmul, 1, []), (26, .aload_n 0, 1, []), (27, .getfield 9, 3, [1467]), (30, .iload 4, 2, []), (32, .iaload, 1, []), (33, .invokestatic 168, 3, [1698]), (36, .ifCond .eq 16, 3, []), (39, .aload_n 0, 1, []), (40, .getfield 9, 3, [1467]), (43, .iload 4, 2, []), (45, .iaload, 1, []), (46, .bipush 47, 2, []), (48, .isub, 1, []), (49, .goto 56, 3, []), (52, .aload_n 0, 1, []), (53, .getfield 9, 3, [1467]), (56, .iload 4, 2, []), (58, .iaload, 1, []), (59, .invokestatic 161, 3, [1692]), (62, .ifCond .eq 16, 3, []), (65, .aload_n 0, 1, []), (66, .getfield 9, 3, [1467]), (69, .iload 4, 2, []), (71, .iaload, 1, []), (72, .bipush 86, 2, []), (74, .isub, 1, []), (75, .goto 30, 3, []), (78, .aload_n 0, 1, []), (79, .getfield 9, 3, [1467]), (82, .iload 4, 2, []), (84, .iaload, 1, []), (85, .bipush 95, 2, []), (87, .if_icmp .ne 8, 3, []), (90, .bipush 63, 2, []), (92, .goto 13, 3, []), (95, .aload_n 0, 1, []), (96, .getfield 9, 3, [1467]), (99, .iload 4, 2, []), (101, .iaload, 1, []), (102, .bipush 28, 2, []), (104, .isub, 1, []), (105, .i2l, 1, []), (106, .ladd, 1, []), (107, .lstore_n 2, 1, []), (108, .iinc 4 1, 3, []), (111, .goto (-101), 3, []), (114, .lload_n 2, 1, []), (115, .lreturn, 1, [])]
def am_e201 : List (Nat × Instr × Nat × List Nat) := [(0, .iconst 0, 1, []), (1, .istore_n 2, 1, []), (2, .aload_n 0, 1, []), (3, .getfield 20, 3, [1471]), (6, .iload_n 1, 1, []), (7, .iaload, 1, []), (8, .istore_n 3, 1, []), (9, .iload_n 3, 1, []), (10, .aload_n 0, 1, []), (11, .getfield 23, 3, [1472]), (14, .iload_n 1, 1, []), (15, .iaload, 1, []), (16, .if_icmp .ge 24, 3, []), (19, .bipush 10, 2, []), (21, .iload_n 2, 1, []), (22, .imul, 1, []), (23, .aload_n 0, 1, []), (24, .getfield 9, 3, [1467]), (27, .iload_n 3, 1, []), (28, .iaload, 1, []), (29, .iadd, 1, []), (30, .bipush 48, 2, []), (32, .isub, 1, []), (33, .istore_n 2, 1, []), (34, .iinc 3 1, 3, []), (37, .goto (-28), 3, []), (40, .iload_n 2, 1, []), (41, .ireturn, 1, [])]
def am_e202 : List (Nat × Instr × Nat × List Nat) := [(0, .aload_n 0, 1, []), (1, .aload_n 0, 1, []), (2, .getfield 201, 3, [1473]), (5, .aload_n 1, 1, []), (6, .invokevirtual 187, 3, [1807]), (9, .ireturn, 1, [])]
def am_e203 : List (Nat × Instr × Nat × List Nat) := [(0, .aload_n 0, 1, []), (1, .getfield 201, 3, [1473]), (4, .aload_n 0, 1, []), (5, .getfield 204, 3, [1474]), (8, .isub, 1, []), (9, .bipush 60, 2, []), (11, .if_icmp .ne 5, 3, []), (14, .iconst 0, 1, []), (15, .ireturn, 1, []), (16, .aload_n 0, 1, []), (17, .dup, 1, []), (18, .getfield 201, 3, [1473]), (21, .iconst 1, 1, []), (22, .iadd, 1, []), (23, .putfield 201, 3, [1473]), (26, .iconst 1, 1, []), (27, .ireturn, 1, [])]
def am_e204 : List (Nat × Instr × Nat × List Nat) := [(0, .aload_n 0, 1, []), (1, .aload_n 1, 1, []), (2, .invokevirtual 207, 3, [1837]), (5, .ifCond .eq 14, 3, []), (8, .aload_n 0, 1, []), (9, .invokevirtual 211, 3, [1832]), (12, .ifCond .eq 7, 3, []), (15, .iconst 1, 1, []), (16, .goto 4, 3, []), (19, .iconst 0, 1, []), (20, .ireturn, 1, [])]
def am_e205 : List (Nat × Instr × Nat × List Nat) := [(0, .aload_n 0, 1, []), (1, .iconst 0, 1, []), (2, .putfield 201, 3, [1473]), (5, .aload_n 0, 1, []), (6, .aload_n 0, 1, []), (7, .getfield 201, 3, [1473]), (10, .putfield 204, 3, [1474]), (13, .aload_n 0, 1, []), (14, .invokevirtual 215, 3, [1793]), (17, .ifCond .ne 5, 3, []), (20, .iconst 0, 1, []), (21, .ireturn, 1, []), (22, .aload_n 0, 1, []), (23, .getfield 17, 3, [1470]), (26, .aload_n 0, 1, []), (27, .getfield 201, 3, [1473]), (30, .iaload, 1, []), (31, .ifCond .ne (-26), 3, []), (34, .iconst 1, 1, []), (35, .ireturn, 1, [])]
def am_e206 : List (Nat × Instr × Nat × List Nat) := [(0, .aload_n 0, 1, []), (1, .aload_n 0, 1, []), (2, .getfield 201, 3, [1473]), (5, .invokevirtual 218, 3, [1797]), (8, .ifCond .eq 27, 3, []), (11, .aload_n 0, 1, []), (12, .invokevirtual 211, 3, [1832]), (15, .ifCond .eq 20, 3, []), (18, .aload_n 0, 1, []), (19, .ldc 221, 2, [1836]), (21, .invokevirtual 207, 3, [1837]), (24, .ifCond .eq 13, 3, []), (27, .aload_n 0, 1, []), (28, .iconst 0, 1, []), (29, .invokevirtual 223, 3, [1841]), (32, .ifCond .ne 5, 3, []), (35, .iconst 0, 1, []), (36, .ireturn, 1, []), (37, .aload_n 0, 1, []), (38, .ldc 226, 2, [1879]), (40, .invokevirtual 207, 3, [1837]), (43, .ifCond .eq 18, 3, []), (46, .aload_n 0, 1, []), (47, .invokevirtual 211, 3, [1832]), (50, .ifCond .eq 24, 3, []), (53, .aload_n 0, 1, []), (54, .iconst 0, 1, []), (55, .invokevirtual 228, 3, [1880]), (58, .ifCond .eq 16, 3, []), (61, .aload_n 0, 1, []), (62, .ldc 231, 2, [1899]), (64, .invokevirtual 233, 3, [1849]), (67, .ifCond .eq 7, 3, []), (70, .iconst 1, 1, []), (71, .goto 4, 3, []), (74, .iconst 0, 1, []), (75, .ireturn, 1, [])]
def am_e207 : List (Nat × Instr × Nat × List Nat) := [(0, .aload_n 0, 1, []), (1, .iconst 0, 1, []), (2, .putfield 201, 3, [1473]), (5, .aload_n 0, 1, []), (6, .iconst 0, 1, []), (7, .putfield 204, 3, [1474]), (10, .aload_n 0, 1, []), (11, .iconst 0, 1, []), (12, .invokevirtual 228, 3, [1880]), (15, .ifCond .eq 28, 3, []), (18, .aload_n 0, 1, []), (19, .ldc 231, 2, [1899]), (21, .invokevirtual 233, 3, [1849]), (24, .ifCond .eq 19, 3, []), (27, .aload_n 0, 1, []), (28, .getfield 17, 3, [1470]), (31, .aload_n 0, 1, []), (32, .getfield 201, 3, [1473]), (35, .iaload, 1, []), (36, .ifCond .ne 7, 3, []), (39, .iconst 1, 1, []), (40, .goto 4, 3, []), (43, .iconst 0, 1, []), (44, .ireturn, 1, [])]
def am_e208 : List (Nat × Instr × Nat × List Nat) := [(0, .iload_n 2, 1, []), (1, .bipush 8, 2, []), (3, .if_icmp .ge 15, 3, []), (6, .aload_n 0, 1, []), (7, .aload_n 1, 1, []), (8, .invokevirtual 233, 3, [1849]), (11, .ifCond .eq 7, 3, []), (14, .iconst 1, 1, []), (15, .goto 4, 3, []), (18, .iconst 0, 1, []), (19, .ireturn, 1, [])]
def am_e209 : List (Nat × Instr × Nat × List Nat) := [(0, .aload_n 0, 1, []), (1, .ldc 221, 2, [1836]), (3, .iload_n 1, 1, []), (4, .invokevirtual 236, 3, [1845]), (7, .ifCond .eq 13, 3, []), (10, .aload_n 0, 1, []), (11, .iload_n 1, 1, []), (12, .iconst 1, 1, []), (13, .iadd, 1, []), (14, .invokevirtual 240, 3, [1853]), (17, .ifCond .ne 5, 3, []), (20, .iconst 0, 1, []), (21, .ireturn, 1, []), (22, .aload_n 0, 1, []), (23, .ldc 243, 2, [1873]), (25, .invokevirtual 207, 3, [1837]), (28, .ifCond .eq 22, 3, []), (31, .aload_n 0, 1, []), (32, .invokevirtual 211, 3, [1832]), (35, .ifCond .eq 13, 3, []), (38, .aload_n 0, 1, []), (39, .iload_n 1, 1, []), (40, .iconst 1, 1, []), (41, .iadd, 1, []), (42, .invokevirtual 240, 3, [1853]), (45, .ifCond .ne (-23), 3, []), (48, .iconst 0, 1, []), (49, .ireturn, 1, []), (50, .aload_n 0, 1, []), (51, .ldc 245, 2, [1866]), (53, .invokevirtual 233, 3, [1849]), (56, .ireturn, 1, [])]
def am_e210 : List (Nat × Instr × Nat × List Nat) := [(0, .aload_n 0, 1, []), (1, .iload_n 1, 1, []), (2, .invokevirtual 247, 3, [1884]), (5, .ifCond .ne 5, 3, []), (8, .iconst 0, 1, []), (9, .ireturn, 1, []), (10, .aload_n 0, 1, []), (11, .ldc 243, 2, [1873]), (13, .invokevirtual 207, 3, [1837]), (16, .ifCond .eq 20, 3, []), (19, .aload_n 0, 1, []), (20, .invokevirtual 211, 3, [1832]), (23, .ifCond .eq 11, 3, []), (26, .aload_n 0, 1, []), (27, .iload_n 1, 1, []), (28, .invokevirtual 247, 3, [1884]), (31, .ifCond .ne (-21), 3, []), (34, .iconst 0, 1, []), (35, .ireturn, 1, []), (36, .iconst 1, 1, []), (37, .ireturn, 1, [])]
def am_e211 : List (Nat × Instr × Nat × List Nat) := [(0, .aload_n 0, 1, []), (1, .ldc 250, 2, [1888]), (3, .invokevirtual 207, 3, [1837]), (6, .ifCond .ne 21, 3, []), (9, .aload_n 0, 1, []), (10, .ldc 252, 2, [1889]), (12, .invokevirtual 207, 3, [1837]), (15, .ifCond .ne 12, 3, []), (18, .aload_n 0, 1, []), (19, .ldc 254, 2, [1890]), (21, .invokevirtual 207, 3, [1837]), (24, .ifCond .eq 8, 3, []), (27, .aload_n 0, 1, []), (28, .invokevirtual 211, 3, [1832]), (31, .ireturn, 1, []), (32, .aload_n 0, 1, []), (33, .ldc_w 256, 3, [1891]), (36, .invokevirtual 207, 3, [1837]), (39, .ifCond .eq 45, 3, []), (42, .aload_n 0, 1, []), (43, .invokevirtual 211, 3, [1832]), (46, .ifCond .eq 36, 3, []), (49, .aload_n 0, 1, []), (50, .ldc 221, 2, [1836]), (52, .iload_n 1, 1, []), (53, .invokevirtual 236, 3, [1845]), (56, .ifCond .eq 26, 3, []), (59, .aload_n 0, 1, []), (60, .iload_n 1, 1, []), (61, .iconst 1, 1, []), (62, .iadd, 1, []), (63, .invokevirtual 228, 3, [1880]), (66, .ifCond .eq 16, 3, []), (69, .aload_n 0, 1, []), (70, .ldc 245, 2, [1866]), (72, .invokevirtual 233, 3, [1849]), (75, .ifCond .eq 7, 3, []), (78, .iconst 1, 1, []), (79, .goto 4, 3, []), (82, .iconst 0, 1, []), (83, .ireturn, 1, []), (84, .aload_n 0, 1, []), (85, .ldc_w 258, 3, [1892]), (88, .invokevirtual 207, 3, [1837]), (91, .ifCond .eq 45, 3, []), (94, .aload_n 0, 1, []), (95, .invokevirtual 211, 3, [1832]), (98, .ifCond .eq 36, 3, []), (101, .aload_n 0, 1, []), (102, .ldc 221, 2, [1836]), (104, .iload_n 1, 1, []), (105, .invokevirtual 236, 3, [1845]), (108, .ifCond .eq 26, 3, []), (111, .aload_n 0, 1, []), (112, .iload_n 1, 1, []), (113, .iconst 1, 1, []), (114, .iadd, 1, []), (115, .invokevirtual 240, 3, [1853]), (118, .ifCond .eq 16, 3, []), (121, .aload_n 0, 1, []), (122, .ldc 245, 2, [1866]), (124, .invokevirtual 233, 3, [1849]), (127, .ifCond .eq 7, 3, []), (130, .iconst 1, 1, []), (131, .goto 4, 3, []), (134, .iconst 0, 1, []), (135, .ireturn, 1, []), (136, .aload_n 0, 1, []), (137, .getfield 201, 3, [1473]), (140, .istore_n 2, 1, []), (141, .aload_n 0, 1, []), (142, .iload_n 1, 1, []), (143, .invokevirtual 240, 3, [1853]), (146, .ifCond .ne 5, 3, []), (149, .iconst 0, 1, []), (150, .ireturn, 1, []), (151, .aload_n 0, 1, []), (152, .aload_n 0, 1, []), (153, .getfield 201, 3, [1473]), (156, .getstatic 260, 3, [1893]), (159, .invokevirtual 195, 3, [1803]), (162, .iconst (-1), 1, []), (163, .if_icmp .eq 24, 3, []), (166, .aload_n 0, 1, []), (167, .invokevirtual 211, 3, [1832]), (170, .ifCond .eq 15, 3, []), (173, .aload_n 0, 1, []), (174, .iload_n 1, 1, []), (175, .invokevirtual 240, 3, [1853]), (178, .ifCond .eq 7, 3, []), (181, .iconst 1, 1, []), (182, .goto 4, 3, []), (185, .iconst 0, 1, []), (186, .ireturn, 1, []), (187, .aload_n 0, 1, []), (188, .iload_n 2, 1, []), (189, .invokevirtual 218, 3, [1797]), (192, .ifCond .eq 19, 3, []), (195, .aload_n 0, 1, []), (196, .iload_n 2, 1, []), (197, .invokevirtual 263, 3, [1895]), (200, .aload_n 0, 1, []), (201, .getfield 201, 3, [1473]), (204, .if_icmp .ne 7, 3, []), (207, .iconst 1, 1, []), (208, .goto 4, 3, []), (211, .iconst 0, 1, []), (212, .ireturn, 1, [])]
def am_e212 : List (Nat × Instr × Nat × List Nat) := [(0, .iload_n 1, 1, []), (1, .iconst 1, 1, []), (2, .iadd, 1, []), (3, .istore_n 2, 1, []), (4, .iconst 0, 1, []), (5, .istore_n 3, 1, []), (6, .aload_n 0, 1, []), (7, .iload_n 2, 1, []), (8, .ldc 221, 2, [1836]), (10, .invokevirtual 187, 3, [1807]), (13, .ifCond .ne 5, 3, []), (16, .iload_n 2, 1, []), (17, .ireturn, 1, []), (18, .iload_n 3, 1, []), (19, .aload_n 0, 1, []), (20, .iload_n 2, 1, []), (21, .ldc 221, 2, [1836]), (23, .invokevirtual 187, 3, [1807]), (26, .ifCond .eq 7, 3, []), (29, .iconst 1, 1, []), (30, .goto 18, 3, []), (33, .aload_n 0, 1, []), (34, .iload_n 2, 1, []), (35, .ldc 245, 2, [1866]), (37, .invokevirtual 187, 3, [1807]), (40, .ifCond .eq 7, 3, []), (43, .iconst (-1), 1, []), (44, .goto 4, 3, []), (47, .iconst 0, 1, []), (48, .iadd, 1, []), (49, .istore_n 3, 1, []), (50, .iinc 2 1, 3, []), (53, .iload_n 3, 1, []), (54, .ifCond .gt (-36), 3, []), (57, .iload_n 2, 1, []), (58, .ireturn, 1, [])]
def am_e213 : List (Nat × Instr × Nat × List Nat) := [(0, .aload_n 0, 1, []), (1, .iload_n 1, 1, []), (2, .invokevirtual 266, 3, [1857]), (5, .ifCond .ne 5, 3, []), (8, .iconst 0, 1, []), (9, .ireturn, 1, []), (10, .aload_n 0, 1, []), (11, .ldc_w 269, 3, [1878]), (14, .invokevirtual 207, 3, [1837]), (17, .ifCond .ne 13, 3, []), (20, .aload_n 0, 1, []), (21, .ldc_w 271, 3, [1865]), (24, .invokevirtual 207, 3, [1837]), (27, .ifCond .eq 20, 3, []), (30, .aload_n 0, 1, []), (31, .invokevirtual 211, 3, [1832]), (34, .ifCond .eq 11, 3, []), (37, .aload_n 0, 1, []), (38, .iload_n 1, 1, []), (39, .invokevirtual 266, 3, [1857]), (42, .ifCond .ne (-32), 3, []), (45, .iconst 0, 1, []), (46, .ireturn, 1, []), (47, .iconst 1, 1, []), (48, .ireturn, 1, [])]
def am_e214 : List (Nat × Instr × Nat × List Nat) := [(0, .aload_n 0, 1, []), (1, .iload_n 1, 1, []), (2, .invokevirtual 273, 3, [1861]), (5, .ifCond .ne 5, 3, []), (8, .iconst 0, 1, []), (9, .ireturn, 1, []), (10, .aload_n 0, 1, []), (11, .ldc_w 276, 3, [1875]), (14, .invokevirtual 207, 3, [1837]), (17, .ifCond .ne 23, 3, []), (20, .aload_n 0, 1, []), (21, .ldc_w 278, 3, [1876]), (24, .invokevirtual 207, 3, [1837]), (27, .ifCond .ne 13, 3, []), (30, .aload_n 0, 1, []), (31, .ldc_w 280, 3, [1877]), (34, .invokevirtual 207, 3, [1837]), (37, .ifCond .eq 20, 3, []), (40, .aload_n 0, 1, []), (41, .invokevirtual 211, 3, [1832]), (44, .ifCond .eq 11, 3, []), (47, .aload_n 0, 1, []), (48, .iload_n 1, 1, []), (49, .invokevirtual 273, 3, [1861]), (52, .ifCond .ne (-42), 3, []), (55, .iconst 0, 1, []), (56, .ireturn, 1, []), (57, .iconst 1, 1, []), (58, .ireturn, 1, [])]
def am_e215 : List (Nat × Instr × Nat × List Nat) := [(0, .aload_n 0, 1, []), (1, .getfield 17, 3, [1470]), (4, .aload_n 0, 1, []), (5, .getfield 201, 3, [1473]), (8, .iaload, 1, []), (9, .iconst 2, 1, []), (10, .if_icmp .eq 16, 3, []), (13, .aload_n 0, 1, []), (14, .getfield 17, 3, [1470]), (17, .aload_n 0, 1, []), (18, .getfield 201, 3, [1473]), (21, .iaload, 1, []), (22, .iconst 3, 1, []), (23, .if_icmp .ne 8, 3, []), (26, .aload_n 0, 1, []), (27, .invokevirtual 211, 3, [1832]), (30, .ireturn, 1, []), (31, .aload_n 0, 1, []), (32, .ldc_w 271, 3, [1865]), (35, .invokevirtual 207, 3, [1837]), (38, .ifCond .eq 36, 3, []), (41, .aload_n 0, 1, []), (42, .invokevirtual 211, 3, [1832]), (45, .ifCond .eq 27, 3, []), (48, .aload_n 0, 1, []), (49, .getfield 17, 3, [1470]), (52, .aload_n 0, 1, []), (53, .getfield 201, 3, [1473]), (56, .iaload, 1, []), (57, .iconst 3, 1, []), (58, .if_icmp .ne 14, 3, []), (61, .aload_n 0, 1, []), (62, .invokevirtual 211, 3, [1832]), (65, .ifCond .eq 7, 3, []), (68, .iconst 1, 1, []), (69, .goto 4, 3, []), (72, .iconst 0, 1, []), (73, .ireturn, 1, []), (74, .aload_n 0, 1, []), (75, .aload_n 0, 1, []), (76, .getfield 201, 3, [1473]), (79, .invokevirtual 218, 3, [1797]), (82, .ifCond .eq 33, 3, []), (85, .aload_n 0, 1, []), (86, .invokevirtual 211, 3, [1832]), (89, .ifCond .eq 24, 3, []), (92, .aload_n 0, 1, []), (93, .ldc 221, 2, [1836]), (95, .invokevirtual 207, 3, [1837]), (98, .ifCond .eq 11, 3, []), (101, .aload_n 0, 1, []), (102, .iload_n 1, 1, []), (103, .invokevirtual 223, 3, [1841]), (106, .ifCond .eq 7, 3, []), (109, .iconst 1, 1, []), (110, .goto 4, 3, []), (113, .iconst 0, 1, []), (114, .ireturn, 1, []), (115, .aload_n 0, 1, []), (116, .ldc 221, 2, [1836]), (118, .invokevirtual 207, 3, [1837]), (121, .ifCond .eq 38, 3, []), (124, .aload_n 0, 1, []), (125, .ldc 221, 2, [1836]), (127, .iload_n 1, 1, []), (128, .invokevirtual 236, 3, [1845]), (131, .ifCond .eq 26, 3, []), (134, .aload_n 0, 1, []), (135, .iload_n 1, 1, []), (136, .iconst 1, 1, []), (137, .iadd, 1, []), (138, .invokevirtual 240, 3, [1853]), (141, .ifCond .eq 16, 3, []), (144, .aload_n 0, 1, []), (145, .ldc 245, 2, [1866]), (147, .invokevirtual 233, 3, [1849]), (150, .ifCond .eq 7, 3, []), (153, .iconst 1, 1, []), (154, .goto 4, 3, []), (157, .iconst 0, 1, []), (158, .ireturn, 1, []), (159, .aload_n 0, 1, []), (160, .ldc_w 282, 3, [1867]), (163, .invokevirtual 207, 3, [1837]), (166, .ifCond .eq 15, 3, []), (169, .aload_n 0, 1, []), (170, .iload_n 1, 1, []), (171, .invokevirtual 284, 3, [1868]), (174, .ifCond .eq 7, 3, []), (177, .iconst 1, 1, []), (178, .goto 4, 3, []), (181, .iconst 0, 1, []), (182, .ireturn, 1, [])]
def am_e216 : List (Nat × Instr × Nat × List Nat) := [(0, .aload_n 0, 1, []), (1, .ldc_w 282, 3, [1867]), (4, .iload_n 1, 1, []), (5, .invokevirtual 236, 3, [1845]), (8, .ifCond .ne 5, 3, []), (11, .iconst 0, 1, []), (12, .ireturn, 1, []), (13, .aload_n 0, 1, []), (14, .ldc_w 287, 3, [1872]), (17, .invokevirtual 207, 3, [1837]), (20, .ifCond .eq 8, 3, []), (23, .aload_n 0, 1, []), (24, .invokevirtual 211, 3, [1832]), (27, .ireturn, 1, []), (28, .aload_n 0, 1, []), (29, .iload_n 1, 1, []), (30, .iconst 1, 1, []), (31, .iadd, 1, []), (32, .invokevirtual 240, 3, [1853]), (35, .ifCond .ne 5, 3, []), (38, .iconst 0, 1, []), (39, .ireturn, 1, []), (40, .aload_n 0, 1, []), (41, .ldc 243, 2, [1873]), (43, .invokevirtual 207, 3, [1837]), (46, .ifCond .eq 22, 3, []), (49, .aload_n 0, 1, []), (50, .invokevirtual 211, 3, [1832]), (53, .ifCond .eq 13, 3, []), (56, .aload_n 0, 1, []), (57, .iload_n 1, 1, []), (58, .iconst 1, 1, []), (59, .iadd, 1, []), (60, .invokevirtual 240, 3, [1853]), (63, .ifCond .ne (-23), 3, []), (66, .iconst 0, 1, []), (67, .ireturn, 1, []), (68, .aload_n 0, 1, []), (69, .ldc_w 289, 3, [1874]), (72, .invokevirtual 207, 3, [1837]), (75, .ifCond .eq 20, 3, []), (78, .aload_n 0, 1, []), (79, .invokevirtual 211, 3, [1832]), (82, .ifCond .eq 27, 3, []), (85, .aload_n 0, 1, []), (86, .iload_n 1, 1, []), (87, .iconst 1, 1, []), (88, .iadd, 1, []), (89, .invokevirtual 240, 3, [1853]), (92, .ifCond .eq 17, 3, []), (95, .aload_n 0, 1, []), (96, .ldc_w 287, 3, [1872]), (99, .invokevirtual 233, 3, [1849]), (102, .ifCond .eq 7, 3, []), (105, .iconst 1, 1, []), (106, .goto 4, 3, []), (109, .iconst 0, 1, []), (110, .ireturn, 1, [])]
def am_e217 : List (Nat × Instr × Nat × List Nat) := [(0, .aload_n 0, 1, []), (1, .aload_n 0, 1, []), (2, .getfield 291, 3, [1518]), (5, .aload_n 0, 1, []), (6, .getfield 20, 3, [1471]), (9, .iload_n 1, 1, []), (10, .iaload, 1, []), (11, .invokestatic 294, 3, [1908]), (14, .putfield 291, 3, [1518]), (17, .return_, 1, [])]
def am_e218 : List (Nat × Instr × Nat × List Nat) := [(0, .aload_n 0, 1, []), (1, .getfield 297, 3, [1517]), (4, .getfield 301, 3, [1924]), (7, .istore 5, 2, []), (9, .aload_n 0, 1, []), (10, .getfield 297, 3, [1517]), (13, .getfield 304, 3, [1915]), (16, .iload 5, 2, []), (18, .iload_n 1, 1, []), (19, .iastore, 1, []), (20, .aload_n 0, 1, []), (21, .getfield 297, 3, [1517]), (24, .getfield 305, 3, [1917]), (27, .iload 5, 2, []), (29, .lload_n 2, 1, []), (30, .lastore, 1, []), (31, .aload_n 0, 1, []), (32, .getfield 297, 3, [1517]), (35, .getfield 308, 3, [1921]), (38, .iload 5, 2, []), (40, .iload 4, 2, []), (42, .iastore, 1, []), (43, .aload_n 0, 1, []), (44, .getfield 297, 3, [1517]), (47, .getfield 311, 3, [1919]), (50, .iload 5, 2, []), (52, .aload_n 0, 1, []), (53, .getfield 297, 3, [1517]), (56, .getfield 314, 3, [1925]), (59, .iastore, 1, []), (60, .aload_n 0, 1, []), (61, .getfield 297, 3, [1517]), (64, .dup, 1, []), (65, .getfield 314, 3, [1925]), (68, .iload 4, 2, []), (70, .iadd, 1, []), (71, .putfield 314, 3, [1925]), (74, .aload_n 0, 1, []), (75, .getfield 297, 3, [1517]), (78, .dup, 1, []), (79, .getfield 301, 3, [1924]), (82, .iconst 1, 1, []), (83, .iadd, 1, []), (84, .putfield 301, 3, [1924]), (87, .iload 5, 2, []), (89, .ireturn, 1, [])]
def am_e219 : List (Nat × Instr × Nat × List Nat) := [(0, .aload_n 0, 1, []), (1, .iconst 2, 1, []), (2, .lload_n 1, 1, []), (3, .iconst 2, 1, []), (4, .invokevirtual 317, 3, [2007]), (7, .istore 5, 2, []), (9, .aload_n 0, 1, []), (10, .getfield 297, 3, [1517]), (13, .getfield 321, 3, [1923]), (16, .aload_n 0, 1, []), (17, .getfield 297, 3, [1517]), (20, .getfield 311, 3, [1919]), (23, .iload 5, 2, []), (25, .iaload, 1, []), (26, .iload_n 3, 1, []), (27, .iastore, 1, []), (28, .aload_n 0, 1, []), (29, .getfield 297, 3, [1517]), (32, .getfield 321, 3, [1923]), (35, .aload_n 0, 1, []), (36, .getfield 297, 3, [1517]), (39, .getfield 311, 3, [1919]), (42, .iload 5, 2, []), (44, .iaload, 1, []), (45, .iconst 1, 1, []), (46, .iadd, 1, []), (47, .iload 4, 2, []), (49, .iastore, 1, []), (50, .iload 5, 2, []), (52, .ireturn, 1, [])]
def am_e220 : List (Nat × Instr × Nat × List Nat) := [(0, .aload_n 0, 1, []), (1, .iload_n 1, 1, []), (2, .invokevirtual 324, 3, [2001]), (5, .lstore_n 2, 1, []), (6, .aload_n 0, 1, []), (7, .getfield 23, 3, [1472]), (10, .iload_n 1, 1, []), (11, .iaload, 1, []), (12, .aload_n 0, 1, []), (13, .getfield 20, 3, [1471]), (16, .iload_n 1, 1, []), (17, .iaload, 1, []), (18, .isub, 1, []), (19, .iconst 1, 1, []), (20, .if_icmp .ne 23, 3, []), (23, .aload_n 0, 1, []), (24, .getfield 9, 3, [1467]), (27, .aload_n 0, 1, []), (28, .getfield 20, 3, [1471]), (31, .iload_n 1, 1, []), (32, .iaload, 1, []), (33, .iaload, 1, []), (34, .bipush 95, 2, []), (36, .if_icmp .ne 7, 3, []), (39, .iconst 1, 1, []), (40, .goto 4, 3, []), (43, .iconst 0, 1, []), (44, .istore 4, 2, []), (46, .iconst (-1), 1, []), (47, .istore 5, 2, []), (49, .iconst 0, 1, []), (50, .istore 6, 2, []), (52, .iload 6, 2, []), (54, .aload_n 0, 1, []), (55, .getfield 297, 3, [1517]), (58, .getfield 328, 3, [1927]), (61, .if_icmp .ge 33, 3, []), (64, .iload 4, 2, []), (66, .ifCond .ne 28, 3, []), (69, .aload_n 0, 1, []), (70, .getfield 297, 3, [1517]), (73, .getfield 331, 3, [1929]), (76, .iload 6, 2, []), (78, .laload, 1, []), (79, .lload_n 2, 1, []), (80, .lcmp, 1, []), (81, .ifCond .ne 7, 3, []), (84, .iload 6, 2, []), (86, .istore 5, 2, []), (88, .iinc 6 1, 3, []), (91, .goto (-39), 3, []), (94, .iload 5, 2, []), (96, .iconst (-1), 1, []), (97, .if_icmp .ne 23, 3, []), (100, .aload_n 0, 1, []), (101, .getfield 297, 3, [1517]), (104, .getfield 328, 3, [1927]), (107, .bipush 8, 2, []), (109, .if_icmp .ne 11, 3, []), (112, .aload_n 0, 1, []), (113, .iload_n 1, 1, []), (114, .invokevirtual 334, 3, [1904]), (117, .iconst 0, 1, []), (118, .istore 5, 2, []), (120, .iload 5, 2, []), (122, .iconst (-1), 1, []), (123, .if_icmp .ne 47, 3, []), (126, .aload_n 0, 1, []), (127, .getfield 297, 3, [1517]), (130, .getfield 328, 3, [1927]), (133, .istore 5, 2, []), (135, .aload_n 0, 1, []), (136, .getfield 297, 3, [1517]), (139, .getfield 331, 3, [1929]), (142, .iload 5, 2, []), (144, .iload 4, 2, []), (146, .ifCond .eq 9, 3, []), (149, .ldc2_w 338, 3, [2006]), (152, .goto 4, 3, []), (155, .lload_n 2, 1, []), (156, .lastore, 1, []), (157, .aload_n 0, 1, []), (158, .getfield 297, 3, [1517]), (161, .dup, 1, []), (162, .getfield 328, 3, [1927]), (165, .iconst 1, 1, []), (166, .iadd, 1, []), (167, .putfield 328, 3, [1927]), (170, .aload_n 0, 1, []), (171, .iconst 0, 1, []), (172, .iload 5, 2, []), (174, .i2l, 1, []), (175, .iconst 0, 1, []), (176, .invokevirtual 317, 3, [2007]), (179, .ireturn, 1, [])]
def am_e221 : List (Nat × Instr × Nat × List Nat) := [(0, .aload_n 0, 1, []), (1, .invokevirtual 340, 3, [1989]), (4, .istore_n 1, 1, []), (5, .aload_n 0, 1, []), (6, .ldc_w 269, 3, [1878]), (9, .invokevirtual 207, 3, [1837]), (12, .ifCond .ne 13, 3, []), (15, .aload_n 0, 1, []), (16, .ldc_w 271, 3, [1865]), (19, .invokevirtual 207, 3, [1837]), (22, .ifCond .eq 47, 3, []), (25, .aload_n 0, 1, []), (26, .ldc_w 269, 3, [1878]), (29, .invokevirtual 207, 3, [1837]), (32, .ifCond .eq 9, 3, []), (35, .ldc2_w 338, 3, [2006]), (38, .goto 6, 3, []), (41, .ldc2_w 343, 3, [2028]), (44, .lstore_n 2, 1, []), (45, .aload_n 0, 1, []), (46, .dup, 1, []), (47, .getfield 201, 3, [1473]), (50, .iconst 1, 1, []), (51, .iadd, 1, []), (52, .putfield 201, 3, [1473]), (55, .aload_n 0, 1, []), (56, .lload_n 2, 1, []), (57, .iload_n 1, 1, []), (58, .aload_n 0, 1, []), (59, .invokevirtual 340, 3, [1989]), (62, .invokevirtual 345, 3, [2021]), (65, .istore_n 1, 1, []), (66, .goto (-61), 3, []), (69, .iload_n 1, 1, []), (70, .ireturn, 1, [])]
def am_e222 : List (Nat × Instr × Nat × List Nat) := [(0, .aload_n 0, 1, []), (1, .invokevirtual 349, 3, [1993]), (4, .istore_n 1, 1, []), (5, .aload_n 0, 1, []), (6, .ldc_w 276, 3, [1875]), (9, .invokevirtual 207, 3, [1837]), (12, .ifCond .ne 23, 3, []), (15, .aload_n 0, 1, []), (16, .ldc_w 278, 3, [1876]), (19, .invokevirtual 207, 3, [1837]), (22, .ifCond .ne 13, 3, []), (25, .aload_n 0, 1, []), (26, .ldc_w 280, 3, [1877]), (29, .invokevirtual 207, 3, [1837]), (32, .ifCond .eq 63, 3, []), (35, .aload_n 0, 1, []), (36, .ldc_w 276, 3, [1875]), (39, .invokevirtual 207, 3, [1837]), (42, .ifCond .eq 9, 3, []), (45, .ldc2_w 352, 3, [2025]), (48, .goto 22, 3, []), (51, .aload_n 0, 1, []), (52, .ldc_w 278, 3, [1876]), (55, .invokevirtual 207, 3, [1837]), (58, .ifCond .eq 9, 3, []), (61, .ldc2_w 354, 3, [2026]), (64, .goto 6, 3, []), (67, .ldc2_w 356, 3, [2027]), (70, .lstore_n 2, 1, []), (71, .aload_n 0, 1, []), (72, .dup, 1, []), (73, .getfield 201, 3, [1473]), (76, .iconst 1, 1, []), (77, .iadd, 1, []), (78, .putfield 201, 3, [1473]), (81, .aload_n 0, 1, []), (82, .lload_n 2, 1, []), (83, .iload_n 1, 1, []), (84, .aload_n 0, 1, []), (85, .invokevirtual 349, 3, [1993]), (88, .invokevirtual 345, 3, [2021]), (91, .istore_n 1, 1, []), (92, .goto (-87), 3, []), (95, .iload_n 1, 1, []), (96, .ireturn, 1, [])]
def am_e223 : List (Nat × Instr × Nat × List Nat) := [(0, .aload_n 0, 1, []), (1, .getfield 201, 3, [1473]), (4, .istore_n 1, 1, []), (5, .aload_n 0, 1, []), (6, .dup, 1, []), (7, .getfield 201, 3, [1473]), (10, .iconst 1, 1, []), (11, .iadd, 1, []), (12, .putfield 201, 3, [1473]), (15, .aload_n 0, 1, []), (16, .getfield 17, 3, [1470]), (19, .iload_n 1, 1, []), (20, .iaload, 1, []), (21, .iconst 2, 1, []), (22, .if_icmp .ne 9, 3, []), (25, .aload_n 0, 1, []), (26, .iload_n 1, 1, []), (27, .invokevirtual 358, 3, [1997]), (30, .ireturn, 1, []), (31, .aload_n 0, 1, []), (32, .getfield 17, 3, [1470]), (35, .iload_n 1, 1, []), (36, .iaload, 1, []), (37, .iconst 3, 1, []), (38, .if_icmp .ne 16, 3, []), (41, .aload_n 0, 1, []), (42, .iconst 1, 1, []), (43, .aload_n 0, 1, []), (44, .iload_n 1, 1, []), (45, .invokevirtual 361, 3, [2011]), (48, .i2l, 1, []), (49, .iconst 0, 1, []), (50, .invokevirtual 317, 3, [2007]), (53, .ireturn, 1, []), (54, .aload_n 0, 1, []), (55, .iload_n 1, 1, []), (56, .invokevirtual 218, 3, [1797]), (59, .ifCond .eq 9, 3, []), (62, .aload_n 0, 1, []), (63, .iload_n 1, 1, []), (64, .invokevirtual 364, 3, [1981]), (67, .ireturn, 1, []), (68, .aload_n 0, 1, []), (69, .iload_n 1, 1, []), (70, .ldc_w 271, 3, [1865]), (73, .invokevirtual 187, 3, [1807]), (76, .ifCond .eq 32, 3, []), (79, .aload_n 0, 1, []), (80, .dup, 1, []), (81, .getfield 201, 3, [1473]), (84, .iconst 1, 1, []), (85, .iadd, 1, []), (86, .putfield 201, 3, [1473]), (89, .aload_n 0, 1, []), (90, .iconst 1, 1, []), (91, .aload_n 0, 1, []), (92, .aload_n 0, 1, []), (93, .getfield 201, 3, [1473]), (96, .iconst 1, 1, []), (97, .isub, 1, []), (98, .invokevirtual 361, 3, [2011]), (101, .ineg, 1, []), (102, .i2l, 1, []), (103, .iconst 0, 1, []), (104, .invokevirtual 317, 3, [2007]), (107, .ireturn, 1, []), (108, .aload_n 0, 1, []), (109, .iload_n 1, 1, []), (110, .ldc_w 282, 3, [1867]), (113, .invokevirtual 187, 3, [1807]), (116, .ifCond .eq 8, 3, []), (119, .aload_n 0, 1, []), (120, .invokevirtual 367, 3, [2015]), (123, .ireturn, 1, []), (124, .aload_n 0, 1, []), (125, .invokevirtual 370, 3, [1985]), (128, .istore_n 2, 1, []), (129, .aload_n 0, 1, []), (130, .dup, 1, []), (131, .getfield 201, 3, [1473]), (134, .iconst 1, 1, []), (135, .iadd, 1, []), (136, .putfield 201, 3, [1473]), (139, .iload_n 2, 1, []), (140, .ireturn, 1, [])]
def am_e224 : List (Nat × Instr × Nat × List Nat) := [(0, .iconst 4, 1, []), (1, .newarray .int, 2, []), (3, .astore_n 2, 1, []), (4, .iconst 0, 1, []), (5, .istore_n 3, 1, []), (6, .aload_n 0, 1, []), (7, .ldc 221, 2, [1836]), (9, .invokevirtual 207, 3, [1837]), (12, .ifCond .eq 64, 3, []), (15, .aload_n 0, 1, []), (16, .dup, 1, []), (17, .getfield 201, 3, [1473]), (20, .iconst 1, 1, []), (21, .iadd, 1, []), (22, .putfield 201, 3, [1473]), (25, .iload_n 3, 1, []), (26, .iconst 4, 1, []), (27, .if_icmp .ne 11, 3, []), (30, .aload_n 0, 1, []), (31, .aload_n 0, 1, []), (32, .getfield 201, 3, [1473]), (35, .invokevirtual 334, 3, [1904]), (38, .aload_n 0, 1, []), (39, .invokevirtual 370, 3, [1985]), (42, .istore 4, 2, []), (44, .iload_n 3, 1, []), (45, .iconst 4, 1, []), (46, .if_icmp .ge 11, 3, []), (49, .aload_n 2, 1, []), (50, .iload_n 3, 1, []), (51, .iload 4, 2, []), (53, .iastore, 1, []), (54, .iinc 3 1, 3, []), (57, .aload_n 0, 1, []), (58, .ldc 243, 2, [1873]), (60, .invokevirtual 207, 3, [1837]), (63, .ifCond .ne (-48), 3, []), (66, .aload_n 0, 1, []), (67, .dup, 1, []), (68, .getfield 201, 3, [1473]), (71, .iconst 1, 1, []), (72, .iadd, 1, []), (73, .putfield 201, 3, [1473]), (76, .aload_n 0, 1, []), (77, .iconst 2, 1, []), (78, .aload_n 0, 1, []), (79, .iload_n 1, 1, []), (80, .invokevirtual 324, 3, [2001]), (83, .iload_n 3, 1, []), (84, .invokevirtual 317, 3, [2007]), (87, .istore 4, 2, []), (89, .iconst 0, 1, []), (90, .istore 5, 2, []), (92, .iload 5, 2, []), (94, .iload_n 3, 1, []), (95, .if_icmp .ge 34, 3, []), (98, .aload_n 0, 1, []), (99, .getfield 297, 3, [1517]), (102, .getfield 321, 3, [1923]), (105, .aload_n 0, 1, []), (106, .getfield 297, 3, [1517]), (109, .getfield 311, 3, [1919]), (112, .iload 4, 2, []), (114, .iaload, 1, []), (115, .iload 5, 2, []), (117, .iadd, 1, []), (118, .aload_n 2, 1, []), (119, .iload 5, 2, []), (121, .iaload, 1, []), (122, .iastore, 1, []), (123, .iinc 5 1, 3, []), (126, .goto (-34), 3, []), (129, .iload 4, 2, []), (131, .ireturn, 1, [])]
def am_e225 : List (Nat × Instr × Nat × List Nat) := [(0, .bipush 60, 2, []), (2, .newarray .int, 2, []), (4, .astore_n 1, 1, []), (5, .iconst 0, 1, []), (6, .istore_n 2, 1, []), (7, .aload_n 0, 1, []), (8, .ldc_w 287, 3, [1872]), (11, .invokevirtual 207, 3, [1837]), (14, .ifCond .eq 23, 3, []), (17, .aload_n 0, 1, []), (18, .dup, 1, []), (19, .getfield 201, 3, [1473]), (22, .iconst 1, 1, []), (23, .iadd, 1, []), (24, .putfield 201, 3, [1473]), (27, .aload_n 0, 1, []), (28, .iconst 2, 1, []), (29, .ldc2_w 373, 3, [2019]), (32, .iconst 0, 1, []), (33, .invokevirtual 317, 3, [2007]), (36, .ireturn, 1, []), (37, .aload_n 0, 1, []), (38, .dup, 1, []), (39, .getfield 201, 3, [1473]), (42, .iconst 1, 1, []), (43, .isub, 1, []), (44, .putfield 201, 3, [1473]), (47, .aload_n 0, 1, []), (48, .dup, 1, []), (49, .getfield 201, 3, [1473]), (52, .iconst 1, 1, []), (53, .iadd, 1, []), (54, .putfield 201, 3, [1473]), (57, .aload_n 1, 1, []), (58, .iload_n 2, 1, []), (59, .aload_n 0, 1, []), (60, .invokevirtual 370, 3, [1985]), (63, .iastore, 1, []), (64, .iinc 2 1, 3, []), (67, .aload_n 0, 1, []), (68, .ldc 243, 2, [1873]), (70, .invokevirtual 207, 3, [1837]), (73, .ifCond .ne (-26), 3, []), (76, .iconst (-1), 1, []), (77, .istore_n 3, 1, []), (78, .aload_n 0, 1, []), (79, .ldc_w 289, 3, [1874]), (82, .invokevirtual 207, 3, [1837]), (85, .ifCond .eq 18, 3, []), (88, .aload_n 0, 1, []), (89, .dup, 1, []), (90, .getfield 201, 3, [1473]), (93, .iconst 1, 1, []), (94, .iadd, 1, []), (95, .putfield 201, 3, [1473]), (98, .aload_n 0, 1, []), (99, .invokevirtual 370, 3, [1985]), (102, .istore_n 3, 1, []), (103, .aload_n 0, 1, []), (104, .dup, 1, []), (105, .getfield 201, 3, [1473]), (108, .iconst 1, 1, []), (109, .iadd, 1, []), (110, .putfield 201, 3, [1473]), (113, .iload_n 3, 1, []), (114, .iconst (-1), 1, []), (115, .if_icmp .ne 15, 3, []), (118, .aload_n 0, 1, []), (119, .iconst 2, 1, []), (120, .ldc2_w 373, 3, [2019]), (123, .iconst 0, 1, []), (124, .invokevirtual 317, 3, [2007]), (127, .goto 4, 3, []), (130, .iload_n 3, 1, []), (131, .istore 4, 2, []), (133, .iload_n 2, 1, []), (134, .iconst 1, 1, []), (135, .isub, 1, []), (136, .istore 5, 2, []), (138, .iload 5, 2, []), (140, .ifCond .lt 24, 3, []), (143, .aload_n 0, 1, []), (144, .ldc2_w 375, 3, [2020]), (147, .aload_n 1, 1, []), (148, .iload 5, 2, []), (150, .iaload, 1, []), (151, .iload 4, 2, []), (153, .invokevirtual 345, 3, [2021]), (156, .istore 4, 2, []), (158, .iinc 5 (-1), 3, []), (161, .goto (-23), 3, []), (164, .iload 4, 2, []), (166, .ireturn, 1, [])]
def am_e226 : List (Nat × Instr × Nat × List Nat) := [(0, .iconst (-1), 1, []), (1, .istore_n 1, 1, []), (2, .iconst (-1), 1, []), (3, .istore_n 2, 1, []), (4, .aload_n 0, 1, []), (5, .dup, 1, []), (6, .getfield 201, 3, [1473]), (9, .iconst 1, 1, []), (10, .isub, 1, []), (11, .putfield 201, 3, [1473]), (14, .aload_n 0, 1, []), (15, .dup, 1, []), (16, .getfield 201, 3, [1473]), (19, .iconst 1, 1, []), (20, .iadd, 1, []), (21, .putfield 201, 3, [1473]), (24, .aload_n 0, 1, []), (25, .invokevirtual 377, 3, [2033]), (28, .istore_n 3, 1, []), (29, .iload_n 2, 1, []), (30, .iconst (-1), 1, []), (31, .if_icmp .eq 18, 3, []), (34, .iload_n 2, 1, []), (35, .iload_n 3, 1, []), (36, .if_icmp .eq 13, 3, []), (39, .aload_n 0, 1, []), (40, .getfield 297, 3, [1517]), (43, .getfield 380, 3, [1938]), (46, .iload_n 2, 1, []), (47, .iload_n 3, 1, []), (48, .iastore, 1, []), (49, .iload_n 1, 1, []), (50, .iconst (-1), 1, []), (51, .if_icmp .ne 7, 3, []), (54, .iload_n 3, 1, []), (55, .goto 4, 3, []), (58, .iload_n 1, 1, []), (59, .istore_n 1, 1, []), (60, .iload_n 3, 1, []), (61, .istore_n 2, 1, []), (62, .aload_n 0, 1, []), (63, .ldc 243, 2, [1873]), (65, .invokevirtual 207, 3, [1837]), (68, .ifCond .ne (-54), 3, []), (71, .iload_n 1, 1, []), (72, .ireturn, 1, [])]
def am_e227 : List (Nat × Instr × Nat × List Nat) := [(0, .aload_n 0, 1, []), (1, .getfield 297, 3, [1517]), (4, .getfield 383, 3, [1930]), (7, .bipush 8, 2, []), (9, .if_icmp .ne 11, 3, []), (12, .aload_n 0, 1, []), (13, .aload_n 0, 1, []), (14, .getfield 201, 3, [1473]), (17, .invokevirtual 334, 3, [1904]), (20, .aload_n 0, 1, []), (21, .getfield 297, 3, [1517]), (24, .getfield 383, 3, [1930]), (27, .bipush 7, 2, []), (29, .invokestatic 294, 3, [1908]), (32, .istore_n 1, 1, []), (33, .aload_n 0, 1, []), (34, .getfield 297, 3, [1517]), (37, .iload_n 1, 1, []), (38, .iconst 1, 1, []), (39, .iadd, 1, []), (40, .putfield 383, 3, [1930]), (43, .aload_n 0, 1, []), (44, .getfield 297, 3, [1517]), (47, .getfield 380, 3, [1938]), (50, .iload_n 1, 1, []), (51, .iconst (-1), 1, []), (52, .iastore, 1, []), (53, .aload_n 0, 1, []), (54, .getfield 297, 3, [1517]), (57, .getfield 386, 3, [1940]), (60, .iload_n 1, 1, []), (61, .iconst (-1), 1, []), (62, .iastore, 1, []), (63, .aload_n 0, 1, []), (64, .getfield 201, 3, [1473]), (67, .istore_n 2, 1, []), (68, .aload_n 0, 1, []), (69, .iload_n 2, 1, []), (70, .ldc 250, 2, [1888]), (72, .invokevirtual 187, 3, [1807]), (75, .ifCond .ne 23, 3, []), (78, .aload_n 0, 1, []), (79, .iload_n 2, 1, []), (80, .ldc 252, 2, [1889]), (82, .invokevirtual 187, 3, [1807]), (85, .ifCond .ne 13, 3, []), (88, .aload_n 0, 1, []), (89, .iload_n 2, 1, []), (90, .ldc 254, 2, [1890]), (92, .invokevirtual 187, 3, [1807]), (95, .ifCond .eq 54, 3, []), (98, .aload_n 0, 1, []), (99, .dup, 1, []), (100, .getfield 201, 3, [1473]), (103, .iconst 1, 1, []), (104, .iadd, 1, []), (105, .putfield 201, 3, [1473]), (108, .aload_n 0, 1, []), (109, .getfield 297, 3, [1517]), (112, .getfield 389, 3, [1932]), (115, .iload_n 1, 1, []), (116, .aload_n 0, 1, []), (117, .iload_n 2, 1, []), (118, .ldc 250, 2, [1888]), (120, .invokevirtual 187, 3, [1807]), (123, .ifCond .eq 7, 3, []), (126, .iconst 1, 1, []), (127, .goto 18, 3, []), (130, .aload_n 0, 1, []), (131, .iload_n 2, 1, []), (132, .ldc 252, 2, [1889]), (134, .invokevirtual 187, 3, [1807]), (137, .ifCond .eq 7, 3, []), (140, .iconst 2, 1, []), (141, .goto 4, 3, []), (144, .iconst 3, 1, []), (145, .iastore, 1, []), (146, .goto 202, 3, []), (149, .aload_n 0, 1, []), (150, .iload_n 2, 1, []), (151, .ldc_w 256, 3, [1891]), (154, .invokevirtual 187, 3, [1807]), (157, .ifCond .eq 51, 3, []), (160, .aload_n 0, 1, []), (161, .dup, 1, []), (162, .getfield 201, 3, [1473]), (165, .iconst 2, 1, []), (166, .iadd, 1, []), (167, .putfield 201, 3, [1473]), (170, .aload_n 0, 1, []), (171, .invokevirtual 392, 3, [2029]), (174, .istore_n 3, 1, []), (175, .aload_n 0, 1, []), (176, .dup, 1, []), (177, .getfield 201, 3, [1473]), (180, .iconst 1, 1, []), (181, .iadd, 1, []), (182, .putfield 201, 3, [1473]), (185, .aload_n 0, 1, []), (186, .getfield 297, 3, [1517]), (189, .getfield 389, 3, [1932]), (192, .iload_n 1, 1, []), (193, .iconst 4, 1, []), (194, .iastore, 1, []), (195, .aload_n 0, 1, []), (196, .getfield 297, 3, [1517]), (199, .getfield 386, 3, [1940]), (202, .iload_n 1, 1, []), (203, .iload_n 3, 1, []), (204, .iastore, 1, []), (205, .goto 143, 3, []), (208, .aload_n 0, 1, []), (209, .iload_n 2, 1, []), (210, .ldc_w 258, 3, [1892]), (213, .invokevirtual 187, 3, [1807]), (216, .ifCond .eq 51, 3, []), (219, .aload_n 0, 1, []), (220, .dup, 1, []), (221, .getfield 201, 3, [1473]), (224, .iconst 2, 1, []), (225, .iadd, 1, []), (226, .putfield 201, 3, [1473]), (229, .aload_n 0, 1, []), (230, .invokevirtual 370, 3, [1985]), (233, .istore_n 3, 1, []), (234, .aload_n 0, 1, []), (235, .dup, 1, []), (236, .getfield 201, 3, [1473]), (239, .iconst 1, 1, []), (240, .iadd, 1, []), (241, .putfield 201, 3, [1473]), (244, .aload_n 0, 1, []), (245, .getfield 297, 3, [1517]), (248, .getfield 389, 3, [1932]), (251, .iload_n 1, 1, []), (252, .iconst 5, 1, []), (253, .iastore, 1, []), (254, .aload_n 0, 1, []), (255, .getfield 297, 3, [1517]), (258, .getfield 394, 3, [1934]), (261, .iload_n 1, 1, []), (262, .iload_n 3, 1, []), (263, .iastore, 1, []), (264, .goto 84, 3, []), (267, .aload_n 0, 1, []), (268, .invokevirtual 370, 3, [1985]), (271, .istore_n 3, 1, []), (272, .aload_n 0, 1, []), (273, .aload_n 0, 1, []), (274, .getfield 201, 3, [1473]), (277, .getstatic 260, 3, [1893]), (280, .invokevirtual 195, 3, [1803]), (283, .istore 4, 2, []), (285, .aload_n 0, 1, []), (286, .getfield 297, 3, [1517]), (289, .getfield 389, 3, [1932]), (292, .iload_n 1, 1, []), (293, .iload 4, 2, []), (295, .iconst (-1), 1, []), (296, .if_icmp .ne 7, 3, []), (299, .iconst 0, 1, []), (300, .goto 8, 3, []), (303, .bipush 7, 2, []), (305, .iload 4, 2, []), (307, .iadd, 1, []), (308, .iastore, 1, []), (309, .iload 4, 2, []), (311, .iconst (-1), 1, []), (312, .if_icmp .eq 26, 3, []), (315, .aload_n 0, 1, []), (316, .dup, 1, []), (317, .getfield 201, 3, [1473]), (320, .iconst 1, 1, []), (321, .iadd, 1, []), (322, .putfield 201, 3, [1473]), (325, .aload_n 0, 1, []), (326, .getfield 297, 3, [1517]), (329, .getfield 397, 3, [1936]), (332, .iload_n 1, 1, []), (333, .aload_n 0, 1, []), (334, .invokevirtual 370, 3, [1985]), (337, .iastore, 1, []), (338, .aload_n 0, 1, []), (339, .getfield 297, 3, [1517]), (342, .getfield 394, 3, [1934]), (345, .iload_n 1, 1, []), (346, .iload_n 3, 1, []), (347, .iastore, 1, []), (348, .iload_n 1, 1, []), (349, .ireturn, 1, [])]
def am_e228 : List (Nat × Instr × Nat × List Nat) := [(0, .aload_n 0, 1, []), (1, .aconst_null, 1, []), (2, .putfield 400, 3, [1479]), (5, .aload_n 0, 1, []), (6, .iconst (-1), 1, []), (7, .putfield 38, 3, [1481]), (10, .aload_n 0, 1, []), (11, .iconst 0, 1, []), (12, .putfield 403, 3, [1482]), (15, .aload_n 0, 1, []), (16, .iconst 0, 1, []), (17, .putfield 406, 3, [1483]), (20, .aload_n 0, 1, []), (21, .iconst 0, 1, []), (22, .putfield 409, 3, [1484]), (25, .aload_n 0, 1, []), (26, .iconst (-1), 1, []), (27, .putfield 91, 3, [1506]), (30, .aload_n 0, 1, []), (31, .iconst 0, 1, []), (32, .putfield 412, 3, [1516]), (35, .aload_n 0, 1, []), (36, .iconst 0, 1, []), (37, .putfield 416, 3, [1507]), (40, .return_, 1, [])]
def am_e229 : List (Nat × Instr × Nat × List Nat) := [(0, .aload_n 0, 1, []), (1, .iload_n 2, 1, []), (2, .putfield 13, 3, [1469]), (5, .iload_n 1, 1, []), (6, .ireturn, 1, [])]
def am_e230 : List (Nat × Instr × Nat × List Nat) := [(0, .aload_n 0, 1, []), (1, .iconst (-1), 1, []), (2, .putfield 13, 3, [1469]), (5, .aload_n 0, 1, []), (6, .invokevirtual 419, 3, [1680]), (9, .aload_n 0, 1, []), (10, .invokevirtual 422, 3, [1684]), (13, .aload_n 0, 1, []), (14, .invokevirtual 425, 3, [1789]), (17, .istore_n 2, 1, []), (18, .aload_n 0, 1, []), (19, .iconst 0, 1, []), (20, .putfield 140, 3, [1468]), (23, .iload_n 2, 1, []), (24, .ifCond .ne 18, 3, []), (27, .aload_n 0, 1, []), (28, .iconst 1, 1, []), (29, .aload_n 0, 1, []), (30, .getfield 20, 3, [1471]), (33, .aload_n 0, 1, []), (34, .getfield 201, 3, [1473]), (37, .iaload, 1, []), (38, .invokevirtual 428, 3, [1900]), (41, .ireturn, 1, []), (42, .aload_n 0, 1, []), (43, .sipush 2001, 3, []), (46, .putfield 291, 3, [1518]), (49, .iload_n 1, 1, []), (50, .istore_n 3, 1, []), (51, .aload_n 0, 1, []), (52, .iconst 0, 1, []), (53, .putfield 201, 3, [1473]), (56, .aload_n 0, 1, []), (57, .getfield 17, 3, [1470]), (60, .aload_n 0, 1, []), (61, .getfield 201, 3, [1473]), (64, .iaload, 1, []), (65, .ifCond .eq 119, 3, []), (68, .iload_n 3, 1, []), (69, .bipush 40, 2, []), (71, .if_icmp .lt 11, 3, []), (74, .aload_n 0, 1, []), (75, .aload_n 0, 1, []), (76, .getfield 201, 3, [1473]), (79, .invokevirtual 334, 3, [1904]), (82, .aload_n 0, 1, []), (83, .new 26, 3, [1463]), (86, .dup, 1, []), (87, .invokespecial 431, 3, [1910]), (90, .putfield 297, 3, [1517]), (93, .aload_n 0, 1, []), (94, .getfield 201, 3, [1473]), (97, .istore 4, 2, []), (99, .aload_n 0, 1, []), (100, .dup, 1, []), (101, .getfield 201, 3, [1473]), (104, .iconst 1, 1, []), (105, .iadd, 1, []), (106, .putfield 201, 3, [1473]), (109, .aload_n 0, 1, []), (110, .getfield 297, 3, [1517]), (113, .aload_n 0, 1, []), (114, .iload 4, 2, []), (116, .invokevirtual 364, 3, [1981]), (119, .putfield 432, 3, [1926]), (122, .aload_n 0, 1, []), (123, .ldc 226, 2, [1879]), (125, .invokevirtual 207, 3, [1837]), (128, .ifCond .eq 24, 3, []), (131, .aload_n 0, 1, []), (132, .dup, 1, []), (133, .getfield 201, 3, [1473]), (136, .iconst 1, 1, []), (137, .iadd, 1, []), (138, .putfield 201, 3, [1473]), (141, .aload_n 0, 1, []), (142, .getfield 297, 3, [1517]), (145, .aload_n 0, 1, []), (146, .invokevirtual 392, 3, [2029]), (149, .putfield 435, 3, [1942]), (152, .aload_n 0, 1, []), (153, .dup, 1, []), (154, .getfield 201, 3, [1473]), (157, .iconst 1, 1, []), (158, .iadd, 1, []), (159, .putfield 201, 3, [1473]), (162, .iload_n 3, 1, []), (163, .bipush 40, 2, []), (165, .if_icmp .ge 13, 3, []), (168, .aload_n 0, 1, []), (169, .getfield 28, 3, [1476]), (172, .iload_n 3, 1, []), (173, .aload_n 0, 1, []), (174, .getfield 297, 3, [1517]), (177, .aastore, 1, []), (178, .iinc 3 1, 3, []), (181, .goto (-125), 3, []), (184, .aload_n 0, 1, []), (185, .getfield 291, 3, [1518]), (188, .sipush 2000, 3, []), (191, .if_icmp .gt 13, 3, []), (194, .aload_n 0, 1, []), (195, .iconst 2, 1, []), (196, .aload_n 0, 1, []), (197, .getfield 291, 3, [1518]), (200, .invokevirtual 428, 3, [1900]), (203, .ireturn, 1, []), (204, .aload_n 0, 1, []), (205, .iload_n 3, 1, []), (206, .putfield 438, 3, [1475]), (209, .iconst 0, 1, []), (210, .ireturn, 1, [])]
def am_e231 : List (Nat × Instr × Nat × List Nat) := [(0, .aload_n 0, 1, []), (1, .iconst 0, 1, []), (2, .putfield 137, 3, [1466]), (5, .aload_n 0, 1, []), (6, .iconst 0, 1, []), (7, .putfield 438, 3, [1475]), (10, .aload_n 0, 1, []), (11, .iconst 0, 1, []), (12, .invokevirtual 441, 3, [1676]), (15, .ireturn, 1, [])]
def am_e232 : List (Nat × Instr × Nat × List Nat) := [(0, .aload_n 0, 1, []), (1, .iconst 0, 1, []), (2, .putfield 137, 3, [1466]), (5, .aload_n 0, 1, []), (6, .aload_n 0, 1, []), (7, .getfield 438, 3, [1475]), (10, .invokevirtual 441, 3, [1676]), (13, .ireturn, 1, [])]
def am_e233 : List (Nat × Instr × Nat × List Nat) := [(0, .aload_n 0, 1, []), (1, .iconst 0, 1, []), (2, .putfield 137, 3, [1466]), (5, .iload_n 1, 1, []), (6, .iconst 0, 1, []), (7, .aload_n 0, 1, []), (8, .getfield 438, 3, [1475]), (11, .iconst 1, 1, []), (12, .isub, 1, []), (13, .invokestatic 147, 3, [1669]), (16, .ifCond .ne 9, 3, []), (19, .aload_n 0, 1, []), (20, .iconst 1, 1, []), (21, .invokevirtual 143, 3, [1661]), (24, .ireturn, 1, []), (25, .iload_n 1, 1, []), (26, .istore_n 2, 1, []), (27, .iload_n 2, 1, []), (28, .iconst 1, 1, []), (29, .iadd, 1, []), (30, .aload_n 0, 1, []), (31, .getfield 438, 3, [1475]), (34, .if_icmp .ge 23, 3, []), (37, .aload_n 0, 1, []), (38, .getfield 28, 3, [1476]), (41, .iload_n 2, 1, []), (42, .aload_n 0, 1, []), (43, .getfield 28, 3, [1476]), (46, .iload_n 2, 1, []), (47, .iconst 1, 1, []), (48, .iadd, 1, []), (49, .aaload, 1, []), (50, .aastore, 1, []), (51, .iinc 2 1, 3, []), (54, .goto (-27), 3, []), (57, .aload_n 0, 1, []), (58, .dup, 1, []), (59, .getfield 438, 3, [1475]), (62, .iconst 1, 1, []), (63, .isub, 1, []), (64, .putfield 438, 3, [1475]), (67, .aload_n 0, 1, []), (68, .invokevirtual 419, 3, [1680]), (71, .aload_n 0, 1, []), (72, .getfield 438, 3, [1475]), (75, .ireturn, 1, [])]
def am_e234 : List (Nat × Instr × Nat × List Nat) := [(0, .aload_n 0, 1, []), (1, .iconst 0, 1, []), (2, .putfield 137, 3, [1466]), (5, .aload_n 0, 1, []), (6, .getfield 13, 3, [1469]), (9, .ireturn, 1, [])]
def am_e235 : List (Nat × Instr × Nat × List Nat) := [(0, .aload_n 0, 1, []), (1, .getfield 305, 3, [1917]), (4, .aload_n 0, 1, []), (5, .getfield 432, 3, [1926]), (8, .laload, 1, []), (9, .lreturn, 1, [])]
def am_e236 : List (Nat × Instr × Nat × List Nat) := [(0, .aload_n 0, 1, []), (1, .getfield 308, 3, [1921]), (4, .aload_n 0, 1, []), (5, .getfield 432, 3, [1926]), (8, .iaload, 1, []), (9, .ireturn, 1, [])]
def am_e237 : List (Nat × Instr × Nat × List Nat) := [(0, .aload_n 0, 1, []), (1, .invokestatic 444, 3, [2064]), (4, .aload_n 1, 1, []), (5, .invokestatic 444, 3, [2064]), (8, .lcmp, 1, []), (9, .ifCond .ne 18, 3, []), (12, .aload_n 0, 1, []), (13, .invokestatic 448, 3, [2067]), (16, .aload_n 1, 1, []), (17, .invokestatic 448, 3, [2067]), (20, .if_icmp .ne 7, 3, []), (23, .iconst 1, 1, []), (24, .goto 4, 3, []), (27, .iconst 0, 1, []), (28, .ireturn, 1, [])]
def am_e238 : List (Nat × Instr × Nat × List Nat) := [(0, .iconst 0, 1, []), (1, .istore_n 1, 1, []), (2, .iconst 0, 1, []), (3, .istore_n 2, 1, []), (4, .iload_n 2, 1, []), (5, .aload_n 0, 1, []), (6, .getfield 438, 3, [1475]), (9, .if_icmp .ge 67, 3, []), (12, .iconst 1, 1, []), (13, .istore_n 3, 1, []), (14, .iconst 0, 1, []), (15, .istore 4, 2, []), (17, .iload 4, 2, []), (19, .iload_n 2, 1, []), (20, .if_icmp .ge 38, 3, []), (23, .iload_n 3, 1, []), (24, .ifCond .eq 26, 3, []), (27, .aload_n 0, 1, []), (28, .getfield 28, 3, [1476]), (31, .iload 4, 2, []), (33, .aaload, 1, []), (34, .aload_n 0, 1, []), (35, .getfield 28, 3, [1476]), (38, .iload_n 2, 1, []), (39, .aaload, 1, []), (40, .invokestatic 452, 3, [2061]), (43, .ifCond .ne 7, 3, []), (46, .iconst 1, 1, []), (47, .goto 4, 3, []), (50, .iconst 0, 1, []), (51, .istore_n 3, 1, []), (52, .iinc 4 1, 3, []), (55, .goto (-38), 3, []), (58, .iload_n 1, 1, []), (59, .iload_n 3, 1, []), (60, .ifCond .eq 7, 3, []), (63, .iconst 1, 1, []), (64, .goto 4, 3, []), (67, .iconst 0, 1, []), (68, .iadd, 1, []), (69, .istore_n 1, 1, []), (70, .iinc 2 1, 3, []), (73, .goto (-69), 3, []), (76, .iload_n 1, 1, []), (77, .ireturn, 1, [])]
def am_e239 : List (Nat × Instr × Nat × List Nat) := [(0, .iconst 0, 1, []), (1, .istore_n 1, 1, []), (2, .aload_n 0, 1, []), (3, .getfield 38, 3, [1481]), (6, .iconst 2, 1, []), (7, .if_icmp .eq 11, 3, []), (10, .aload_n 0, 1, []), (11, .getfield 38, 3, [1481]), (14, .iconst 3, 1, []), (15, .if_icmp .ne 5, 3, []), (18, .iconst 0, 1, []), (19, .ireturn, 1, []), (20, .aload_n 0, 1, []), (21, .getfield 91, 3, [1506]), (24, .istore_n 2, 1, []), (25, .iload_n 2, 1, []), (26, .iconst (-1), 1, []), (27, .if_icmp .eq 32, 3, []), (30, .iload_n 1, 1, []), (31, .aload_n 0, 1, []), (32, .getfield 73, 3, [1500]), (35, .iload_n 2, 1, []), (36, .iaload, 1, []), (37, .bipush 6, 2, []), (39, .if_icmp .ne 7, 3, []), (42, .iconst 0, 1, []), (43, .goto 4, 3, []), (46, .iconst 1, 1, []), (47, .iadd, 1, []), (48, .istore_n 1, 1, []), (49, .aload_n 0, 1, []), (50, .getfield 85, 3, [1504]), (53, .iload_n 2, 1, []), (54, .iaload, 1, []), (55, .istore_n 2, 1, []), (56, .goto (-31), 3, []), (59, .iload_n 1, 1, []), (60, .ireturn, 1, [])]
def am_e240 : List (Nat × Instr × Nat × List Nat) := [(0, .iload_n 1, 1, []), (1, .iconst 4, 1, []), (2, .if_icmp .ge 43, 3, []), (5, .iload_n 1, 1, []), (6, .ifCond .ne 10, 3, []), (9, .aload_n 0, 1, []), (10, .getfield 438, 3, [1475]), (13, .goto 31, 3, []), (16, .iload_n 1, 1, []), (17, .iconst 1, 1, []), (18, .if_icmp .ne 10, 3, []), (21, .aload_n 0, 1, []), (22, .invokevirtual 456, 3, [2057]), (25, .goto 19, 3, []), (28, .iload_n 1, 1, []), (29, .iconst 2, 1, []), (30, .if_icmp .ne 10, 3, []), (33, .aload_n 0, 1, []), (34, .getfield 140, 3, [1468]), (37, .goto 7, 3, []), (40, .aload_n 0, 1, []), (41, .getfield 459, 3, [1478]), (44, .ireturn, 1, []), (45, .aload_n 0, 1, []), (46, .getfield 400, 3, [1479]), (49, .ifnonnull 5, 3, []), (52, .iconst 0, 1, []), (53, .ireturn, 1, []), (54, .iload_n 1, 1, []), (55, .iconst 4, 1, []), (56, .if_icmp .ne 13, 3, []), (59, .aload_n 0, 1, []), (60, .getfield 400, 3, [1479]), (63, .getfield 328, 3, [1927]), (66, .goto 45, 3, []), (69, .iload_n 1, 1, []), (70, .iconst 5, 1, []), (71, .if_icmp .ne 10, 3, []), (74, .aload_n 0, 1, []), (75, .invokevirtual 462, 3, [2070]), (78, .goto 33, 3, []), (81, .iload_n 1, 1, []), (82, .bipush 6, 2, []), (84, .if_icmp .ne 10, 3, []), (87, .aload_n 0, 1, []), (88, .getfield 403, 3, [1482]), (91, .goto 20, 3, []), (94, .iload_n 1, 1, []), (95, .bipush 7, 2, []), (97, .if_icmp .ne 10, 3, []), (100, .aload_n 0, 1, []), (101, .getfield 406, 3, [1483]), (104, .goto 7, 3, []), (107, .aload_n 0, 1, []), (108, .getfield 409, 3, [1484]), (111, .ireturn, 1, [])]
def am_e241 : List (Nat × Instr × Nat × List Nat) := [(0, .aload_n 0, 1, []), (1, .iconst 0, 1, []), (2, .putfield 137, 3, [1466]), (5, .iload_n 1, 1, []), (6, .iconst 0, 1, []), (7, .bipush 8, 2, []), (9, .invokestatic 147, 3, [1669]), (12, .ifCond .eq 11, 3, []), (15, .aload_n 0, 1, []), (16, .iload_n 1, 1, []), (17, .invokevirtual 465, 3, [2053]), (20, .goto 8, 3, []), (23, .aload_n 0, 1, []), (24, .iconst 1, 1, []), (25, .invokevirtual 143, 3, [1661]), (28, .ireturn, 1, [])]
def am_e242 : List (Nat × Instr × Nat × List Nat) := [(0, .iload_n 2, 1, []), (1, .ifCond .ne 15, 3, []), (4, .aload_n 0, 1, []), (5, .getfield 28, 3, [1476]), (8, .iload_n 1, 1, []), (9, .aaload, 1, []), (10, .invokestatic 448, 3, [2067]), (13, .goto 46, 3, []), (16, .iload_n 2, 1, []), (17, .iconst 1, 1, []), (18, .if_icmp .ne 15, 3, []), (21, .aload_n 0, 1, []), (22, .getfield 28, 3, [1476]), (25, .iload_n 1, 1, []), (26, .aaload, 1, []), (27, .getfield 383, 3, [1930]), (30, .goto 29, 3, []), (33, .iload_n 2, 1, []), (34, .iconst 2, 1, []), (35, .if_icmp .ne 15, 3, []), (38, .aload_n 0, 1, []), (39, .getfield 28, 3, [1476]), (42, .iload_n 1, 1, []), (43, .aaload, 1, []), (44, .getfield 328, 3, [1927]), (47, .goto 12, 3, []), (50, .aload_n 0, 1, []), (51, .getfield 28, 3, [1476]), (54, .iload_n 1, 1, []), (55, .aaload, 1, []), (56, .getfield 468, 3, [1943]), (59, .ireturn, 1, [])]
def am_e243 : List (Nat × Instr × Nat × List Nat) := [(0, .aload_n 0, 1, []), (1, .iconst 0, 1, []), (2, .putfield 137, 3, [1466]), (5, .iload_n 1, 1, []), (6, .iconst 0, 1, []), (7, .aload_n 0, 1, []), (8, .getfield 438, 3, [1475]), (11, .iconst 1, 1, []), (12, .isub, 1, []), (13, .invokestatic 147, 3, [1669]), (16, .ifCond .eq 21, 3, []), (19, .iload_n 2, 1, []), (20, .iconst 0, 1, []), (21, .iconst 3, 1, []), (22, .invokestatic 147, 3, [1669]), (25, .ifCond .eq 12, 3, []), (28, .aload_n 0, 1, []), (29, .iload_n 1, 1, []), (30, .iload_n 2, 1, []), (31, .invokevirtual 471, 3, [2078]), (34, .goto 8, 3, []), (37, .aload_n 0, 1, []), (38, .iconst 1, 1, []), (39, .invokevirtual 143, 3, [1661]), (42, .ireturn, 1, [])]
def am_e244 : List (Nat × Instr × Nat × List Nat) := [(0, .aload_n 0, 1, []), (1, .getfield 474, 3, [1485]), (4, .istore 5, 2, []), (6, .aload_n 0, 1, []), (7, .getfield 42, 3, [1486]), (10, .iload 5, 2, []), (12, .iload_n 1, 1, []), (13, .iastore, 1, []), (14, .aload_n 0, 1, []), (15, .getfield 45, 3, [1487]), (18, .iload 5, 2, []), (20, .lload_n 2, 1, []), (21, .lastore, 1, []), (22, .aload_n 0, 1, []), (23, .getfield 52, 3, [1489]), (26, .iload 5, 2, []), (28, .iload 4, 2, []), (30, .iastore, 1, []), (31, .aload_n 0, 1, []), (32, .getfield 49, 3, [1488]), (35, .iload 5, 2, []), (37, .aload_n 0, 1, []), (38, .getfield 477, 3, [1490]), (41, .iastore, 1, []), (42, .aload_n 0, 1, []), (43, .getfield 58, 3, [1493]), (46, .iload 5, 2, []), (48, .iconst 0, 1, []), (49, .iastore, 1, []), (50, .aload_n 0, 1, []), (51, .dup, 1, []), (52, .getfield 477, 3, [1490]), (55, .iload 4, 2, []), (57, .iadd, 1, []), (58, .putfield 477, 3, [1490]), (61, .aload_n 0, 1, []), (62, .dup, 1, []), (63, .getfield 474, 3, [1485]), (66, .iconst 1, 1, []), (67, .iadd, 1, []), (68, .putfield 474, 3, [1485]), (71, .iload 5, 2, []), (73, .ireturn, 1, [])]
def am_e245 : List (Nat × Instr × Nat × List Nat) := [(0, .aload_n 1, 1, []), (1, .getfield 304, 3, [1915]), (4, .iload_n 2, 1, []), (5, .iaload, 1, []), (6, .ifCond .ne 38, 3, []), (9, .aload_n 1, 1, []), (10, .getfield 305, 3, [1917]), (13, .iload_n 2, 1, []), (14, .laload, 1, []), (15, .l2i, 1, []), (16, .istore 4, 2, []), (18, .aload_n 3, 1, []), (19, .iload 4, 2, []), (21, .iaload, 1, []), (22, .iconst (-1), 1, []), (23, .if_icmp .ne 16, 3, []), (26, .aload_n 3, 1, []), (27, .iload 4, 2, []), (29, .aload_n 0, 1, []), (30, .iconst 0, 1, []), (31, .ldc2_w 338, 3, [2006]), (34, .iconst 0, 1, []), (35, .invokevirtual 480, 3, [2090]), (38, .iastore, 1, []), (39, .aload_n 3, 1, []), (40, .iload 4, 2, []), (42, .iaload, 1, []), (43, .ireturn, 1, []), (44, .aload_n 1, 1, []), (45, .getfield 308, 3, [1921]), (48, .iload_n 2, 1, []), (49, .iaload, 1, []), (50, .istore 4, 2, []), (52, .aload_n 0, 1, []), (53, .aload_n 1, 1, []), (54, .getfield 304, 3, [1915]), (57, .iload_n 2, 1, []), (58, .iaload, 1, []), (59, .aload_n 1, 1, []), (60, .getfield 305, 3, [1917]), (63, .iload_n 2, 1, []), (64, .laload, 1, []), (65, .iload 4, 2, []), (67, .invokevirtual 480, 3, [2090]), (70, .istore 5, 2, []), (72, .iconst 0, 1, []), (73, .istore 6, 2, []), (75, .iload 6, 2, []), (77, .iload 4, 2, []), (79, .if_icmp .ge 44, 3, []), (82, .aload_n 0, 1, []), (83, .getfield 55, 3, [1491]), (86, .aload_n 0, 1, []), (87, .getfield 49, 3, [1488]), (90, .iload 5, 2, []), (92, .iaload, 1, []), (93, .iload 6, 2, []), (95, .iadd, 1, []), (96, .aload_n 0, 1, []), (97, .aload_n 1, 1, []), (98, .aload_n 1, 1, []), (99, .getfield 321, 3, [1923]), (102, .aload_n 1, 1, []), (103, .getfield 311, 3, [1919]), (106, .iload_n 2, 1, []), (107, .iaload, 1, []), (108, .iload 6, 2, []), (110, .iadd, 1, []), (111, .iaload, 1, []), (112, .aload_n 3, 1, []), (113, .invokevirtual 483, 3, [2109]), (116, .iastore, 1, []), (117, .iinc 6 1, 3, []), (120, .goto (-45), 3, []), (123, .iload 5, 2, []), (125, .ireturn, 1, [])]
def am_e246 : List (Nat × Instr × Nat × List Nat) := [(0, .iload_n 1, 1, []), (1, .istore_n 2, 1, []), (2, .aload_n 0, 1, []), (3, .getfield 42, 3, [1486]), (6, .iload_n 2, 1, []), (7, .iaload, 1, []), (8, .ifCond .ne 27, 3, []), (11, .aload_n 0, 1, []), (12, .getfield 45, 3, [1487]), (15, .iload_n 2, 1, []), (16, .laload, 1, []), (17, .ldc2_w 338, 3, [2006]), (20, .lcmp, 1, []), (21, .ifCond .eq 14, 3, []), (24, .aload_n 0, 1, []), (25, .getfield 45, 3, [1487]), (28, .iload_n 2, 1, []), (29, .laload, 1, []), (30, .l2i, 1, []), (31, .istore_n 2, 1, []), (32, .goto (-30), 3, []), (35, .iload_n 2, 1, []), (36, .ireturn, 1, [])]
def am_e247 : List (Nat × Instr × Nat × List Nat) := [(0, .aload_n 0, 1, []), (1, .aload_n 0, 1, []), (2, .getfield 55, 3, [1491]), (5, .aload_n 0, 1, []), (6, .getfield 49, 3, [1488]), (9, .iload_n 1, 1, []), (10, .iaload, 1, []), (11, .iload_n 2, 1, []), (12, .iadd, 1, []), (13, .iaload, 1, []), (14, .invokevirtual 487, 3, [2141]), (17, .ireturn, 1, [])]
def am_e248 : List (Nat × Instr × Nat × List Nat) := [(0, .aload_n 0, 1, []), (1, .getfield 45, 3, [1487]), (4, .iload_n 1, 1, []), (5, .iload_n 2, 1, []), (6, .i2l, 1, []), (7, .lastore, 1, []), (8, .aload_n 0, 1, []), (9, .getfield 70, 3, [1498]), (12, .aload_n 0, 1, []), (13, .getfield 490, 3, [1497]), (16, .iload_n 1, 1, []), (17, .iastore, 1, []), (18, .aload_n 0, 1, []), (19, .dup, 1, []), (20, .getfield 490, 3, [1497]), (23, .iconst 1, 1, []), (24, .iadd, 1, []), (25, .putfield 490, 3, [1497]), (28, .return_, 1, [])]
def am_e249 : List (Nat × Instr × Nat × List Nat) := [(0, .aload_n 0, 1, []), (1, .getfield 490, 3, [1497]), (4, .iload_n 1, 1, []), (5, .if_icmp .le 33, 3, []), (8, .aload_n 0, 1, []), (9, .dup, 1, []), (10, .getfield 490, 3, [1497]), (13, .iconst 1, 1, []), (14, .isub, 1, []), (15, .putfield 490, 3, [1497]), (18, .aload_n 0, 1, []), (19, .getfield 45, 3, [1487]), (22, .aload_n 0, 1, []), (23, .getfield 70, 3, [1498]), (26, .aload_n 0, 1, []), (27, .getfield 490, 3, [1497]), (30, .iaload, 1, []), (31, .ldc2_w 338, 3, [2006]), (34, .lastore, 1, []), (35, .goto (-35), 3, []), (38, .return_, 1, [])]
def am_e250 : List (Nat × Instr × Nat × List Nat) := [(0, .aload_n 0, 1, []), (1, .dup, 1, []), (2, .getfield 493, 3, [1492]), (5, .iconst 1, 1, []), (6, .iadd, 1, []), (7, .putfield 493, 3, [1492]), (10, .iconst 1, 1, []), (11, .istore_n 3, 1, []), (12, .aload_n 0, 1, []), (13, .getfield 67, 3, [1496]), (16, .iconst 0, 1, []), (17, .iload_n 2, 1, []), (18, .iastore, 1, []), (19, .aload_n 0, 1, []), (20, .getfield 58, 3, [1493]), (23, .iload_n 2, 1, []), (24, .aload_n 0, 1, []), (25, .getfield 493, 3, [1492]), (28, .iastore, 1, []), (29, .iload_n 3, 1, []), (30, .ifCond .le 95, 3, []), (33, .iinc 3 (-1), 3, []), (36, .aload_n 0, 1, []), (37, .getfield 67, 3, [1496]), (40, .iload_n 3, 1, []), (41, .iaload, 1, []), (42, .istore 4, 2, []), (44, .iload 4, 2, []), (46, .iload_n 1, 1, []), (47, .if_icmp .ne 5, 3, []), (50, .iconst 1, 1, []), (51, .ireturn, 1, []), (52, .iconst 0, 1, []), (53, .istore 5, 2, []), (55, .iload 5, 2, []), (57, .aload_n 0, 1, []), (58, .getfield 52, 3, [1489]), (61, .iload 4, 2, []), (63, .iaload, 1, []), (64, .if_icmp .ge 58, 3, []), (67, .aload_n 0, 1, []), (68, .iload 4, 2, []), (70, .iload 5, 2, []), (72, .invokevirtual 496, 3, [2153]), (75, .istore 6, 2, []), (77, .aload_n 0, 1, []), (78, .getfield 58, 3, [1493]), (81, .iload 6, 2, []), (83, .iaload, 1, []), (84, .aload_n 0, 1, []), (85, .getfield 493, 3, [1492]), (88, .if_icmp .ne 6, 3, []), (91, .goto 25, 3, []), (94, .aload_n 0, 1, []), (95, .getfield 58, 3, [1493]), (98, .iload 6, 2, []), (100, .aload_n 0, 1, []), (101, .getfield 493, 3, [1492]), (104, .iastore, 1, []), (105, .aload_n 0, 1, []), (106, .getfield 67, 3, [1496]), (109, .iload_n 3, 1, []), (110, .iload 6, 2, []), (112, .iastore, 1, []), (113, .iinc 3 1, 3, []), (116, .iinc 5 1, 3, []), (119, .goto (-64), 3, []), (122, .goto (-93), 3, []), (125, .iconst 0, 1, []), (126, .ireturn, 1, [])]
def am_e251 : List (Nat × Instr × Nat × List Nat) := [(0, .iload_n 1, 1, []), (1, .istore_n 2, 1, []), (2, .aload_n 0, 1, []), (3, .getfield 119, 3, [1520]), (6, .iload_n 2, 1, []), (7, .iaload, 1, []), (8, .aload_n 0, 1, []), (9, .getfield 499, 3, [1519]), (12, .if_icmp .ne 23, 3, []), (15, .aload_n 0, 1, []), (16, .getfield 122, 3, [1521]), (19, .iload_n 2, 1, []), (20, .iaload, 1, []), (21, .iload_n 2, 1, []), (22, .if_icmp .eq 13, 3, []), (25, .aload_n 0, 1, []), (26, .getfield 122, 3, [1521]), (29, .iload_n 2, 1, []), (30, .iaload, 1, []), (31, .istore_n 2, 1, []), (32, .goto (-30), 3, []), (35, .iload_n 2, 1, []), (36, .ireturn, 1, [])]
def am_e252 : List (Nat × Instr × Nat × List Nat) := [(0, .aload_n 0, 1, []), (1, .getfield 119, 3, [1520]), (4, .iload_n 1, 1, []), (5, .iaload, 1, []), (6, .aload_n 0, 1, []), (7, .getfield 499, 3, [1519]), (10, .if_icmp .eq 20, 3, []), (13, .aload_n 0, 1, []), (14, .getfield 119, 3, [1520]), (17, .iload_n 1, 1, []), (18, .aload_n 0, 1, []), (19, .getfield 499, 3, [1519]), (22, .iastore, 1, []), (23, .aload_n 0, 1, []), (24, .getfield 122, 3, [1521]), (27, .iload_n 1, 1, []), (28, .iload_n 1, 1, []), (29, .iastore, 1, []), (30, .aload_n 0, 1, []), (31, .getfield 119, 3, [1520]), (34, .iload_n 2, 1, []), (35, .iaload, 1, []), (36, .aload_n 0, 1, []), (37, .getfield 499, 3, [1519]), (40, .if_icmp .eq 20, 3, []), (43, .aload_n 0, 1, []), (44, .getfield 119, 3, [1520]), (47, .iload_n 2, 1, []), (48, .aload_n 0, 1, []), (49, .getfield 499, 3, [1519]), (52, .iastore, 1, []), (53, .aload_n 0, 1, []), (54, .getfield 122, 3, [1521]), (57, .iload_n 2, 1, []), (58, .iload_n 2, 1, []), (59, .iastore, 1, []), (60, .aload_n 0, 1, []), (61, .getfield 122, 3, [1521]), (64, .aload_n 0, 1, []), (65, .iload_n 2, 1, []), (66, .invokevirtual 502, 3, [2145]), (69, .aload_n 0, 1, []), (70, .iload_n 1, 1, []), (71, .invokevirtual 502, 3, [2145]), (74, .iastore, 1, []), (75, .return_, 1, [])]
def am_e253 : List (Nat × Instr × Nat × List Nat) := [(0, .iconst 1, 1, []), (1, .istore 4, 2, []), (3, .aload_n 0, 1, []), (4, .getfield 125, 3, [1522]), (7, .iconst 0, 1, []), (8, .iload_n 1, 1, []), (9, .iastore, 1, []), (10, .aload_n 0, 1, []), (11, .getfield 128, 3, [1523]), (14, .iconst 0, 1, []), (15, .iload_n 2, 1, []), (16, .iastore, 1, []), (17, .iload 4, 2, []), (19, .ifCond .le 294, 3, []), (22, .iinc 4 (-1), 3, []), (25, .aload_n 0, 1, []), (26, .aload_n 0, 1, []), (27, .getfield 125, 3, [1522]), (30, .iload 4, 2, []), (32, .iaload, 1, []), (33, .invokevirtual 487, 3, [2141]), (36, .istore 5, 2, []), (38, .aload_n 0, 1, []), (39, .aload_n 0, 1, []), (40, .getfield 128, 3, [1523]), (43, .iload 4, 2, []), (45, .iaload, 1, []), (46, .invokevirtual 487, 3, [2141]), (49, .istore 6, 2, []), (51, .iload 5, 2, []), (53, .iload 6, 2, []), (55, .if_icmp .eq (-38), 3, []), (58, .aload_n 0, 1, []), (59, .iload 5, 2, []), (61, .invokevirtual 502, 3, [2145]), (64, .aload_n 0, 1, []), (65, .iload 6, 2, []), (67, .invokevirtual 502, 3, [2145]), (70, .if_icmp .ne 6, 3, []), (73, .goto (-56), 3, []), (76, .iload_n 3, 1, []), (77, .ifCond .eq 82, 3, []), (80, .aload_n 0, 1, []), (81, .getfield 42, 3, [1486]), (84, .iload 5, 2, []), (86, .iaload, 1, []), (87, .ifCond .eq 13, 3, []), (90, .aload_n 0, 1, []), (91, .getfield 42, 3, [1486]), (94, .iload 6, 2, []), (96, .iaload, 1, []), (97, .ifCond .ne 62, 3, []), (100, .aload_n 0, 1, []), (101, .getfield 42, 3, [1486]), (104, .iload 5, 2, []), (106, .iaload, 1, []), (107, .ifCond .ne 8, 3, []), (110, .iload 5, 2, []), (112, .goto 5, 3, []), (115, .iload 6, 2, []), (117, .istore 7, 2, []), (119, .iload 7, 2, []), (121, .iload 5, 2, []), (123, .if_icmp .ne 8, 3, []), (126, .iload 6, 2, []), (128, .goto 5, 3, []), (131, .iload 5, 2, []), (133, .istore 8, 2, []), (135, .aload_n 0, 1, []), (136, .iload 7, 2, []), (138, .iload 8, 2, []), (140, .invokevirtual 505, 3, [2149]), (143, .ifCond .eq 5, 3, []), (146, .iconst 0, 1, []), (147, .ireturn, 1, []), (148, .aload_n 0, 1, []), (149, .iload 7, 2, []), (151, .iload 8, 2, []), (153, .invokevirtual 509, 3, [2157]), (156, .goto (-139), 3, []), (159, .aload_n 0, 1, []), (160, .getfield 42, 3, [1486]), (163, .iload 5, 2, []), (165, .iaload, 1, []), (166, .aload_n 0, 1, []), (167, .getfield 42, 3, [1486]), (170, .iload 6, 2, []), (172, .iaload, 1, []), (173, .if_icmp .ne 48, 3, []), (176, .aload_n 0, 1, []), (177, .getfield 42, 3, [1486]), (180, .iload 5, 2, []), (182, .iaload, 1, []), (183, .ifCond .eq 38, 3, []), (186, .aload_n 0, 1, []), (187, .getfield 45, 3, [1487]), (190, .iload 5, 2, []), (192, .laload, 1, []), (193, .aload_n 0, 1, []), (194, .getfield 45, 3, [1487]), (197, .iload 6, 2, []), (199, .laload, 1, []), (200, .lcmp, 1, []), (201, .ifCond .ne 20, 3, []), (204, .aload_n 0, 1, []), (205, .getfield 52, 3, [1489]), (208, .iload 5, 2, []), (210, .iaload, 1, []), (211, .aload_n 0, 1, []), (212, .getfield 52, 3, [1489]), (215, .iload 6, 2, []), (217, .iaload, 1, []), (218, .if_icmp .eq 5, 3, []), (221, .iconst 0, 1, []), (222, .ireturn, 1, []), (223, .aload_n 0, 1, []), (224, .getfield 52, 3, [1489]), (227, .iload 5, 2, []), (229, .iaload, 1, []), (230, .ifCond .le 11, 3, []), (233, .aload_n 0, 1, []), (234, .iload 5, 2, []), (236, .iload 6, 2, []), (238, .invokevirtual 513, 3, [2161]), (241, .aload_n 0, 1, []), (242, .getfield 52, 3, [1489]), (245, .iload 5, 2, []), (247, .iaload, 1, []), (248, .iconst 1, 1, []), (249, .isub, 1, []), (250, .istore 7, 2, []), (252, .iload 7, 2, []), (254, .ifCond .lt 56, 3, []), (257, .aload_n 0, 1, []), (258, .getfield 125, 3, [1522]), (261, .iload 4, 2, []), (263, .aload_n 0, 1, []), (264, .getfield 55, 3, [1491]), (267, .aload_n 0, 1, []), (268, .getfield 49, 3, [1488]), (271, .iload 5, 2, []), (273, .iaload, 1, []), (274, .iload 7, 2, []), (276, .iadd, 1, []), (277, .iaload, 1, []), (278, .iastore, 1, []), (279, .aload_n 0, 1, []), (280, .getfield 128, 3, [1523]), (283, .iload 4, 2, []), (285, .aload_n 0, 1, []), (286, .getfield 55, 3, [1491]), (289, .aload_n 0, 1, []), (290, .getfield 49, 3, [1488]), (293, .iload 6, 2, []), (295, .iaload, 1, []), (296, .iload 7, 2, []), (298, .iadd, 1, []), (299, .iaload, 1, []), (300, .iastore, 1, []), (301, .iinc 4 1, 3, []), (304, .iinc 7 (-1), 3, []), (307, .goto (-55), 3, []), (310, .goto (-293), 3, []), (313, .iconst 1, 1, []), (314, .ireturn, 1, [])]
def am_e254 : List (Nat × Instr × Nat × List Nat) := [(0, .aload_n 0, 1, []), (1, .dup, 1, []), (2, .getfield 499, 3, [1519]), (5, .iconst 1, 1, []), (6, .iadd, 1, []), (7, .putfield 499, 3, [1519]), (10, .aload_n 0, 1, []), (11, .iload_n 1, 1, []), (12, .iload_n 2, 1, []), (13, .iconst 1, 1, []), (14, .invokevirtual 516, 3, [2137]), (17, .ireturn, 1, [])]
def am_e255 : List (Nat × Instr × Nat × List Nat) := [(0, .aload_n 0, 1, []), (1, .dup, 1, []), (2, .getfield 499, 3, [1519]), (5, .iconst 1, 1, []), (6, .iadd, 1, []), (7, .putfield 499, 3, [1519]), (10, .aload_n 0, 1, []), (11, .iload_n 1, 1, []), (12, .iload_n 2, 1, []), (13, .iconst 0, 1, []), (14, .invokevirtual 516, 3, [2137]), (17, .ireturn, 1, [])]
def am_e256 : List (Nat × Instr × Nat × List Nat) := [(0, .aload_n 0, 1, []), (1, .dup, 1, []), (2, .getfield 493, 3, [1492]), (5, .iconst 1, 1, []), (6, .iadd, 1, []), (7, .putfield 493, 3, [1492]), (10, .aload_n 0, 1, []), (11, .iconst 0, 1, []), (12, .putfield 520, 3, [1524]), (15, .aload_n 0, 1, []), (16, .aload_n 0, 1, []), (17, .iload_n 1, 1, []), (18, .invokevirtual 487, 3, [2141]), (21, .iconst 0, 1, []), (22, .invokevirtual 523, 3, [2209]), (25, .istore_n 2, 1, []), (26, .aload_n 0, 1, []), (27, .aload_n 0, 1, []), (28, .getfield 520, 3, [1524]), (31, .ifCond .ne 18, 3, []), (34, .aload_n 0, 1, []), (35, .getfield 64, 3, [1495]), (38, .aload_n 0, 1, []), (39, .iload_n 1, 1, []), (40, .invokevirtual 487, 3, [2141]), (43, .iaload, 1, []), (44, .bipush 60, 2, []), (46, .if_icmp .le 7, 3, []), (49, .iconst 1, 1, []), (50, .goto 4, 3, []), (53, .iconst 0, 1, []), (54, .putfield 520, 3, [1524]), (57, .iload_n 2, 1, []), (58, .ireturn, 1, [])]
def am_e257 : List (Nat × Instr × Nat × List Nat) := [(0, .aload_n 0, 1, []), (1, .iconst 1, 1, []), (2, .putfield 520, 3, [1524]), (5, .iconst 0, 1, []), (6, .ireturn, 1, [])]
def am_e258 : List (Nat × Instr × Nat × List Nat) := [(0, .aload_n 0, 1, []), (1, .getfield 58, 3, [1493]), (4, .iload_n 1, 1, []), (5, .iaload, 1, []), (6, .aload_n 0, 1, []), (7, .getfield 493, 3, [1492]), (10, .if_icmp .ne 10, 3, []), (13, .aload_n 0, 1, []), (14, .getfield 61, 3, [1494]), (17, .iload_n 1, 1, []), (18, .iaload, 1, []), (19, .ireturn, 1, []), (20, .aload_n 0, 1, []), (21, .getfield 42, 3, [1486]), (24, .iload_n 1, 1, []), (25, .iaload, 1, []), (26, .iconst 1, 1, []), (27, .if_icmp .ne 17, 3, []), (30, .aload_n 0, 1, []), (31, .iload_n 1, 1, []), (32, .aload_n 0, 1, []), (33, .getfield 45, 3, [1487]), (36, .iload_n 1, 1, []), (37, .laload, 1, []), (38, .l2i, 1, []), (39, .iconst 0, 1, []), (40, .invokevirtual 526, 3, [2213]), (43, .ireturn, 1, []), (44, .aload_n 0, 1, []), (45, .getfield 42, 3, [1486]), (48, .iload_n 1, 1, []), (49, .iaload, 1, []), (50, .iconst 2, 1, []), (51, .if_icmp .ne 44, 3, []), (54, .aload_n 0, 1, []), (55, .getfield 52, 3, [1489]), (58, .iload_n 1, 1, []), (59, .iaload, 1, []), (60, .iconst 2, 1, []), (61, .if_icmp .ne 34, 3, []), (64, .aload_n 0, 1, []), (65, .getfield 45, 3, [1487]), (68, .iload_n 1, 1, []), (69, .laload, 1, []), (70, .lneg, 1, []), (71, .l2i, 1, []), (72, .iconst 1, 1, []), (73, .iconst 5, 1, []), (74, .invokestatic 147, 3, [1669]), (77, .ifCond .eq 18, 3, []), (80, .aload_n 0, 1, []), (81, .getfield 45, 3, [1487]), (84, .iload_n 1, 1, []), (85, .laload, 1, []), (86, .lconst 0, 1, []), (87, .lcmp, 1, []), (88, .ifCond .ge 7, 3, []), (91, .iconst 1, 1, []), (92, .goto 4, 3, []), (95, .iconst 0, 1, []), (96, .istore_n 3, 1, []), (97, .iload_n 3, 1, []), (98, .ifCond .eq 9, 3, []), (101, .iload_n 2, 1, []), (102, .bipush 60, 2, []), (104, .if_icmp .ne 8, 3, []), (107, .aload_n 0, 1, []), (108, .invokevirtual 530, 3, [2217]), (111, .ireturn, 1, []), (112, .aload_n 0, 1, []), (113, .iload_n 1, 1, []), (114, .iconst 0, 1, []), (115, .invokevirtual 496, 3, [2153]), (118, .istore 4, 2, []), (120, .aload_n 0, 1, []), (121, .iload 4, 2, []), (123, .iload_n 2, 1, []), (124, .iconst 1, 1, []), (125, .iadd, 1, []), (126, .invokevirtual 523, 3, [2209]), (129, .istore 5, 2, []), (131, .aload_n 0, 1, []), (132, .getfield 520, 3, [1524]), (135, .ifCond .eq 5, 3, []), (138, .iconst 0, 1, []), (139, .ireturn, 1, []), (140, .aload_n 0, 1, []), (141, .iload_n 1, 1, []), (142, .iconst 1, 1, []), (143, .invokevirtual 496, 3, [2153]), (146, .istore 6, 2, []), (148, .aload_n 0, 1, []), (149, .iload 6, 2, []), (151, .iload_n 2, 1, []), (152, .iconst 1, 1, []), (153, .iadd, 1, []), (154, .invokevirtual 523, 3, [2209]), (157, .istore 7, 2, []), (159, .aload_n 0, 1, []), (160, .getfield 520, 3, [1524]), (163, .ifCond .eq 5, 3, []), (166, .iconst 0, 1, []), (167, .ireturn, 1, []), (168, .aload_n 0, 1, []), (169, .getfield 45, 3, [1487]), (172, .iload_n 1, 1, []), (173, .laload, 1, []), (174, .lstore 8, 2, []), (176, .lload 8, 2, []), (178, .ldc2_w 354, 3, [2026]), (181, .lcmp, 1, []), (182, .ifCond .eq 12, 3, []), (185, .lload 8, 2, []), (187, .ldc2_w 356, 3, [2027]), (190, .lcmp, 1, []), (191, .ifCond .ne 13, 3, []), (194, .iload 7, 2, []), (196, .ifCond .ne 8, 3, []), (199, .aload_n 0, 1, []), (200, .invokevirtual 530, 3, [2217]), (203, .ireturn, 1, []), (204, .lload 8, 2, []), (206, .ldc2_w 338, 3, [2006]), (209, .lcmp, 1, []), (210, .ifCond .ne 11, 3, []), (213, .iload 5, 2, []), (215, .iload 7, 2, []), (217, .iadd, 1, []), (218, .goto 59, 3, []), (221, .lload 8, 2, []), (223, .ldc2_w 343, 3, [2028]), (226, .lcmp, 1, []), (227, .ifCond .ne 11, 3, []), (230, .iload 5, 2, []), (232, .iload 7, 2, []), (234, .isub, 1, []), (235, .goto 42, 3, []), (238, .lload 8, 2, []), (240, .ldc2_w 352, 3, [2025]), (243, .lcmp, 1, []), (244, .ifCond .ne 11, 3, []), (247, .iload 5, 2, []), (249, .iload 7, 2, []), (251, .imul, 1, []), (252, .goto 25, 3, []), (255, .lload 8, 2, []), (257, .ldc2_w 354, 3, [2026]), (260, .lcmp, 1, []), (261, .ifCond .ne 11, 3, []), (264, .iload 5, 2, []), (266, .iload 7, 2, []), (268, .idiv, 1, []), (269, .goto 8, 3, []), (272, .iload 5, 2, []), (274, .iload 7, 2, []), (276, .irem, 1, []), (277, .istore 10, 2, []), (279, .aload_n 0, 1, []), (280, .iload_n 1, 1, []), (281, .iload 10, 2, []), (283, .iconst 1, 1, []), (284, .aload_n 0, 1, []), (285, .getfield 64, 3, [1495]), (288, .iload 4, 2, []), (290, .iaload, 1, []), (291, .aload_n 0, 1, []), (292, .getfield 64, 3, [1495]), (295, .iload 6, 2, []), (297, .iaload, 1, []), (298, .invokestatic 174, 3, [1788]), (301, .iadd, 1, []), (302, .invokevirtual 526, 3, [2213]), (305, .ireturn, 1, [])]
def am_e259 : List (Nat × Instr × Nat × List Nat) := [(0, .aload_n 0, 1, []), (1, .getfield 58, 3, [1493]), (4, .iload_n 1, 1, []), (5, .aload_n 0, 1, []), (6, .getfield 493, 3, [1492]), (9, .iastore, 1, []), (10, .aload_n 0, 1, []), (11, .getfield 61, 3, [1494]), (14, .iload_n 1, 1, []), (15, .iload_n 2, 1, []), (16, .iastore, 1, []), (17, .aload_n 0, 1, []), (18, .getfield 64, 3, [1495]), (21, .iload_n 1, 1, []), (22, .iload_n 3, 1, []), (23, .iastore, 1, []), (24, .iload_n 2, 1, []), (25, .ireturn, 1, [])]
def am_e260 : List (Nat × Instr × Nat × List Nat) := [(0, .aload_n 0, 1, []), (1, .iconst 0, 1, []), (2, .putfield 137, 3, [1466]), (5, .aload_n 0, 1, []), (6, .iconst (-1), 1, []), (7, .putfield 13, 3, [1469]), (10, .aload_n 0, 1, []), (11, .invokevirtual 419, 3, [1680]), (14, .aload_n 0, 1, []), (15, .invokevirtual 422, 3, [1684]), (18, .aload_n 0, 1, []), (19, .invokevirtual 533, 3, [2086]), (22, .istore_n 1, 1, []), (23, .aload_n 0, 1, []), (24, .iconst 0, 1, []), (25, .putfield 140, 3, [1468]), (28, .iload_n 1, 1, []), (29, .ifCond .ne 18, 3, []), (32, .aload_n 0, 1, []), (33, .iconst 1, 1, []), (34, .aload_n 0, 1, []), (35, .getfield 20, 3, [1471]), (38, .aload_n 0, 1, []), (39, .getfield 201, 3, [1473]), (42, .iaload, 1, []), (43, .invokevirtual 428, 3, [1900]), (46, .ireturn, 1, []), (47, .aload_n 0, 1, []), (48, .sipush 2001, 3, []), (51, .putfield 291, 3, [1518]), (54, .aload_n 0, 1, []), (55, .iconst 0, 1, []), (56, .putfield 201, 3, [1473]), (59, .aload_n 0, 1, []), (60, .new 26, 3, [1463]), (63, .dup, 1, []), (64, .invokespecial 431, 3, [1910]), (67, .putfield 297, 3, [1517]), (70, .aload_n 0, 1, []), (71, .getfield 297, 3, [1517]), (74, .aload_n 0, 1, []), (75, .invokevirtual 392, 3, [2029]), (78, .putfield 435, 3, [1942]), (81, .aload_n 0, 1, []), (82, .getfield 291, 3, [1518]), (85, .sipush 2000, 3, []), (88, .if_icmp .gt 13, 3, []), (91, .aload_n 0, 1, []), (92, .iconst 2, 1, []), (93, .aload_n 0, 1, []), (94, .getfield 291, 3, [1518]), (97, .invokevirtual 428, 3, [1900]), (100, .ireturn, 1, []), (101, .aload_n 0, 1, []), (102, .aload_n 0, 1, []), (103, .getfield 297, 3, [1517]), (106, .putfield 400, 3, [1479]), (109, .aload_n 0, 1, []), (110, .iconst 0, 1, []), (111, .putfield 38, 3, [1481]), (114, .aload_n 0, 1, []), (115, .iconst 0, 1, []), (116, .putfield 474, 3, [1485]), (119, .aload_n 0, 1, []), (120, .iconst 0, 1, []), (121, .putfield 477, 3, [1490]), (124, .aload_n 0, 1, []), (125, .iconst 0, 1, []), (126, .putfield 490, 3, [1497]), (129, .aload_n 0, 1, []), (130, .iconst 0, 1, []), (131, .putfield 536, 3, [1499]), (134, .iconst 0, 1, []), (135, .istore_n 2, 1, []), (136, .iload_n 2, 1, []), (137, .aload_n 0, 1, []), (138, .getfield 400, 3, [1479]), (141, .getfield 328, 3, [1927]), (144, .if_icmp .ge 24, 3, []), (147, .aload_n 0, 1, []), (148, .getfield 35, 3, [1480]), (151, .iload_n 2, 1, []), (152, .aload_n 0, 1, []), (153, .iconst 0, 1, []), (154, .ldc2_w 338, 3, [2006]), (157, .iconst 0, 1, []), (158, .invokevirtual 480, 3, [2090]), (161, .iastore, 1, []), (162, .iinc 2 1, 3, []), (165, .goto (-29), 3, []), (168, .aload_n 0, 1, []), (169, .aload_n 0, 1, []), (170, .aload_n 0, 1, []), (171, .getfield 400, 3, [1479]), (174, .aload_n 0, 1, []), (175, .getfield 400, 3, [1479]), (178, .getfield 435, 3, [1942]), (181, .aload_n 0, 1, []), (182, .getfield 35, 3, [1480]), (185, .invokevirtual 539, 3, [2094]), (188, .checkcast 540, 3, [2100]), (191, .iconst 0, 1, []), (192, .iconst (-1), 1, []), (193, .invokevirtual 544, 3, [2101]), (196, .putfield 91, 3, [1506]), (199, .iconst 0, 1, []), (200, .ireturn, 1, [])]
def am_e261 : List (Nat × Instr × Nat × List Nat) := [(0, .aload_n 0, 1, []), (1, .getfield 536, 3, [1499]), (4, .istore 4, 2, []), (6, .aload_n 0, 1, []), (7, .getfield 73, 3, [1500]), (10, .iload 4, 2, []), (12, .iload_n 1, 1, []), (13, .iastore, 1, []), (14, .aload_n 0, 1, []), (15, .getfield 88, 3, [1505]), (18, .iload 4, 2, []), (20, .iload_n 2, 1, []), (21, .iastore, 1, []), (22, .aload_n 0, 1, []), (23, .getfield 85, 3, [1504]), (26, .iload 4, 2, []), (28, .iload_n 3, 1, []), (29, .iastore, 1, []), (30, .aload_n 0, 1, []), (31, .dup, 1, []), (32, .getfield 536, 3, [1499]), (35, .iconst 1, 1, []), (36, .iadd, 1, []), (37, .putfield 536, 3, [1499]), (40, .iload 4, 2, []), (42, .ireturn, 1, [])]
def am_e262 : List (Nat × Instr × Nat × List Nat) := [(0, .iload_n 2, 1, []), (1, .iconst (-1), 1, []), (2, .if_icmp .ne 6, 3, []), (5, .iload 5, 2, []), (7, .ireturn, 1, []), (8, .iconst (-1), 1, []), (9, .istore 6, 2, []), (11, .iconst (-1), 1, []), (12, .istore 7, 2, []), (14, .iload_n 2, 1, []), (15, .istore 8, 2, []), (17, .iload 8, 2, []), (19, .iconst (-1), 1, []), (20, .if_icmp .eq 186, 3, []), (23, .aload_n 1, 1, []), (24, .getfield 389, 3, [1932]), (27, .iload 8, 2, []), (29, .iaload, 1, []), (30, .istore 9, 2, []), (32, .aload_n 0, 1, []), (33, .iload 9, 2, []), (35, .iload 4, 2, []), (37, .iconst (-1), 1, []), (38, .invokevirtual 548, 3, [2105]), (41, .istore 10, 2, []), (43, .aload_n 0, 1, []), (44, .getfield 82, 3, [1503]), (47, .iload 10, 2, []), (49, .iload 9, 2, []), (51, .iconst 4, 1, []), (52, .if_icmp .ne 21, 3, []), (55, .aload_n 0, 1, []), (56, .aload_n 1, 1, []), (57, .aload_n 1, 1, []), (58, .getfield 386, 3, [1940]), (61, .iload 8, 2, []), (63, .iaload, 1, []), (64, .aload_n 3, 1, []), (65, .iconst (-1), 1, []), (66, .iconst (-1), 1, []), (67, .invokevirtual 544, 3, [2101]), (70, .goto 4, 3, []), (73, .iconst (-1), 1, []), (74, .iastore, 1, []), (75, .iload 9, 2, []), (77, .ifCond .eq 16, 3, []), (80, .iload 9, 2, []), (82, .iconst 5, 1, []), (83, .if_icmp .eq 10, 3, []), (86, .iload 9, 2, []), (88, .bipush 7, 2, []), (90, .if_icmp .lt 7, 3, []), (93, .iconst 1, 1, []), (94, .goto 4, 3, []), (97, .iconst 0, 1, []), (98, .istore 11, 2, []), (100, .aload_n 0, 1, []), (101, .getfield 76, 3, [1501]), (104, .iload 10, 2, []), (106, .iload 11, 2, []), (108, .ifCond .eq 19, 3, []), (111, .aload_n 0, 1, []), (112, .aload_n 1, 1, []), (113, .aload_n 1, 1, []), (114, .getfield 394, 3, [1934]), (117, .iload 8, 2, []), (119, .iaload, 1, []), (120, .aload_n 3, 1, []), (121, .invokevirtual 483, 3, [2109]), (124, .goto 4, 3, []), (127, .iconst (-1), 1, []), (128, .iastore, 1, []), (129, .aload_n 0, 1, []), (130, .getfield 79, 3, [1502]), (133, .iload 10, 2, []), (135, .iload 9, 2, []), (137, .bipush 7, 2, []), (139, .if_icmp .lt 19, 3, []), (142, .aload_n 0, 1, []), (143, .aload_n 1, 1, []), (144, .aload_n 1, 1, []), (145, .getfield 397, 3, [1936]), (148, .iload 8, 2, []), (150, .iaload, 1, []), (151, .aload_n 3, 1, []), (152, .invokevirtual 483, 3, [2109]), (155, .goto 4, 3, []), (158, .iconst (-1), 1, []), (159, .iastore, 1, []), (160, .iload 7, 2, []), (162, .iconst (-1), 1, []), (163, .if_icmp .eq 12, 3, []), (166, .aload_n 0, 1, []), (167, .getfield 85, 3, [1504]), (170, .iload 7, 2, []), (172, .iload 10, 2, []), (174, .iastore, 1, []), (175, .iload 6, 2, []), (177, .iconst (-1), 1, []), (178, .if_icmp .ne 8, 3, []), (181, .iload 10, 2, []), (183, .goto 5, 3, []), (186, .iload 6, 2, []), (188, .istore 6, 2, []), (190, .iload 10, 2, []), (192, .istore 7, 2, []), (194, .aload_n 1, 1, []), (195, .getfield 380, 3, [1938]), (198, .iload 8, 2, []), (200, .iaload, 1, []), (201, .istore 8, 2, []), (203, .goto (-186), 3, []), (206, .aload_n 0, 1, []), (207, .getfield 85, 3, [1504]), (210, .iload 7, 2, []), (212, .iload 5, 2, []), (214, .iastore, 1, []), (215, .iload 6, 2, []), (217, .ireturn, 1, [])]
def am_e263 : List (Nat × Instr × Nat × List Nat) := [(0, .iconst (-1), 1, []), (1, .istore 4, 2, []), (3, .iconst (-1), 1, []), (4, .istore 5, 2, []), (6, .iload_n 1, 1, []), (7, .istore 6, 2, []), (9, .iload 6, 2, []), (11, .iconst (-1), 1, []), (12, .if_icmp .eq 106, 3, []), (15, .aload_n 0, 1, []), (16, .aload_n 0, 1, []), (17, .getfield 73, 3, [1500]), (20, .iload 6, 2, []), (22, .iaload, 1, []), (23, .iload_n 2, 1, []), (24, .iconst (-1), 1, []), (25, .invokevirtual 548, 3, [2105]), (28, .istore 7, 2, []), (30, .aload_n 0, 1, []), (31, .getfield 76, 3, [1501]), (34, .iload 7, 2, []), (36, .aload_n 0, 1, []), (37, .getfield 76, 3, [1501]), (40, .iload 6, 2, []), (42, .iaload, 1, []), (43, .iastore, 1, []), (44, .aload_n 0, 1, []), (45, .getfield 79, 3, [1502]), (48, .iload 7, 2, []), (50, .aload_n 0, 1, []), (51, .getfield 79, 3, [1502]), (54, .iload 6, 2, []), (56, .iaload, 1, []), (57, .iastore, 1, []), (58, .aload_n 0, 1, []), (59, .getfield 82, 3, [1503]), (62, .iload 7, 2, []), (64, .aload_n 0, 1, []), (65, .getfield 82, 3, [1503]), (68, .iload 6, 2, []), (70, .iaload, 1, []), (71, .iastore, 1, []), (72, .iload 5, 2, []), (74, .iconst (-1), 1, []), (75, .if_icmp .eq 12, 3, []), (78, .aload_n 0, 1, []), (79, .getfield 85, 3, [1504]), (82, .iload 5, 2, []), (84, .iload 7, 2, []), (86, .iastore, 1, []), (87, .iload 4, 2, []), (89, .iconst (-1), 1, []), (90, .if_icmp .ne 8, 3, []), (93, .iload 7, 2, []), (95, .goto 5, 3, []), (98, .iload 4, 2, []), (100, .istore 4, 2, []), (102, .iload 7, 2, []), (104, .istore 5, 2, []), (106, .aload_n 0, 1, []), (107, .getfield 85, 3, [1504]), (110, .iload 6, 2, []), (112, .iaload, 1, []), (113, .istore 6, 2, []), (115, .goto (-106), 3, []), (118, .aload_n 0, 1, []), (119, .getfield 85, 3, [1504]), (122, .iload 5, 2, []), (124, .iload_n 3, 1, []), (125, .iastore, 1, []), (126, .iload 4, 2, []), (128, .ireturn, 1, [])]
def am_e264 : List (Nat × Instr × Nat × List Nat) := [(0, .aload_n 0, 1, []), (1, .getfield 94, 3, [1508]), (4, .aload_n 0, 1, []), (5, .getfield 416, 3, [1507]), (8, .iload_n 1, 1, []), (9, .bastore, 1, []), (10, .aload_n 0, 1, []), (11, .getfield 98, 3, [1509]), (14, .aload_n 0, 1, []), (15, .getfield 416, 3, [1507]), (18, .aload_n 0, 1, []), (19, .getfield 91, 3, [1506]), (22, .iastore, 1, []), (23, .aload_n 0, 1, []), (24, .getfield 101, 3, [1510]), (27, .aload_n 0, 1, []), (28, .getfield 416, 3, [1507]), (31, .iload_n 2, 1, []), (32, .iastore, 1, []), (33, .aload_n 0, 1, []), (34, .getfield 104, 3, [1511]), (37, .aload_n 0, 1, []), (38, .getfield 416, 3, [1507]), (41, .iload_n 3, 1, []), (42, .iastore, 1, []), (43, .aload_n 0, 1, []), (44, .getfield 107, 3, [1512]), (47, .aload_n 0, 1, []), (48, .getfield 416, 3, [1507]), (51, .iload 4, 2, []), (53, .iastore, 1, []), (54, .aload_n 0, 1, []), (55, .getfield 110, 3, [1513]), (58, .aload_n 0, 1, []), (59, .getfield 416, 3, [1507]), (62, .iload 5, 2, []), (64, .iastore, 1, []), (65, .aload_n 0, 1, []), (66, .getfield 113, 3, [1514]), (69, .aload_n 0, 1, []), (70, .getfield 416, 3, [1507]), (73, .iload 6, 2, []), (75, .iastore, 1, []), (76, .aload_n 0, 1, []), (77, .getfield 116, 3, [1515]), (80, .aload_n 0, 1, []), (81, .getfield 416, 3, [1507]), (84, .iload 7, 2, []), (86, .iastore, 1, []), (87, .aload_n 0, 1, []), (88, .dup, 1, []), (89, .getfield 416, 3, [1507]), (92, .iconst 1, 1, []), (93, .iadd, 1, []), (94, .putfield 416, 3, [1507]), (97, .return_, 1, [])]
def am_e265 : List (Nat × Instr × Nat × List Nat) := [(0, .aload_n 0, 1, []), (1, .getfield 28, 3, [1476]), (4, .iload_n 1, 1, []), (5, .aaload, 1, []), (6, .invokestatic 444, 3, [2064]), (9, .aload_n 0, 1, []), (10, .getfield 45, 3, [1487]), (13, .iload_n 2, 1, []), (14, .laload, 1, []), (15, .lcmp, 1, []), (16, .ifCond .ne 25, 3, []), (19, .aload_n 0, 1, []), (20, .getfield 28, 3, [1476]), (23, .iload_n 1, 1, []), (24, .aaload, 1, []), (25, .invokestatic 448, 3, [2067]), (28, .aload_n 0, 1, []), (29, .getfield 52, 3, [1489]), (32, .iload_n 2, 1, []), (33, .iaload, 1, []), (34, .if_icmp .ne 7, 3, []), (37, .iconst 1, 1, []), (38, .goto 4, 3, []), (41, .iconst 0, 1, []), (42, .ireturn, 1, [])]
def am_e266 : List (Nat × Instr × Nat × List Nat) := [(0, .iload_n 2, 1, []), (1, .istore_n 3, 1, []), (2, .iload_n 3, 1, []), (3, .aload_n 0, 1, []), (4, .getfield 438, 3, [1475]), (7, .if_icmp .ge 20, 3, []), (10, .aload_n 0, 1, []), (11, .iload_n 3, 1, []), (12, .iload_n 1, 1, []), (13, .invokevirtual 551, 3, [2169]), (16, .ifCond .eq 5, 3, []), (19, .iload_n 3, 1, []), (20, .ireturn, 1, []), (21, .iinc 3 1, 3, []), (24, .goto (-22), 3, []), (27, .iconst (-1), 1, []), (28, .ireturn, 1, [])]
def am_e267 : List (Nat × Instr × Nat × List Nat) := [(0, .aload_n 0, 1, []), (1, .getfield 474, 3, [1485]), (4, .istore_n 3, 1, []), (5, .aload_n 0, 1, []), (6, .getfield 477, 3, [1490]), (9, .istore 4, 2, []), (11, .aload_n 0, 1, []), (12, .getfield 490, 3, [1497]), (15, .istore 5, 2, []), (17, .iconst 0, 1, []), (18, .istore 6, 2, []), (20, .iload 6, 2, []), (22, .bipush 8, 2, []), (24, .if_icmp .ge 17, 3, []), (27, .aload_n 0, 1, []), (28, .getfield 131, 3, [1525]), (31, .iload 6, 2, []), (33, .iconst (-1), 1, []), (34, .iastore, 1, []), (35, .iinc 6 1, 3, []), (38, .goto (-18), 3, []), (41, .aload_n 0, 1, []), (42, .aload_n 0, 1, []), (43, .aload_n 0, 1, []), (44, .getfield 28, 3, [1476]), (47, .iload_n 1, 1, []), (48, .aaload, 1, []), (49, .aload_n 0, 1, []), (50, .getfield 28, 3, [1476]), (53, .iload_n 1, 1, []), (54, .aaload, 1, []), (55, .getfield 432, 3, [1926]), (58, .aload_n 0, 1, []), (59, .getfield 131, 3, [1525]), (62, .invokevirtual 483, 3, [2109]), (65, .iload_n 2, 1, []), (66, .invokevirtual 554, 3, [2133]), (69, .ifCond .eq 5, 3, []), (72, .iconst 1, 1, []), (73, .ireturn, 1, []), (74, .aload_n 0, 1, []), (75, .iload 5, 2, []), (77, .invokevirtual 557, 3, [2121]), (80, .aload_n 0, 1, []), (81, .iload_n 3, 1, []), (82, .putfield 474, 3, [1485]), (85, .aload_n 0, 1, []), (86, .iload 4, 2, []), (88, .putfield 477, 3, [1490]), (91, .iconst 0, 1, []), (92, .ireturn, 1, [])]
def am_e268 : List (Nat × Instr × Nat × List Nat) := [(0, .aload_n 0, 1, []), (1, .getfield 28, 3, [1476]), (4, .iload_n 1, 1, []), (5, .aaload, 1, []), (6, .dup, 1, []), (7, .getfield 468, 3, [1943]), (10, .iconst 1, 1, []), (11, .iadd, 1, []), (12, .putfield 468, 3, [1943]), (15, .aload_n 0, 1, []), (16, .aload_n 0, 1, []), (17, .aload_n 0, 1, []), (18, .getfield 28, 3, [1476]), (21, .iload_n 1, 1, []), (22, .aaload, 1, []), (23, .aload_n 0, 1, []), (24, .getfield 28, 3, [1476]), (27, .iload_n 1, 1, []), (28, .aaload, 1, []), (29, .getfield 435, 3, [1942]), (32, .aload_n 0, 1, []), (33, .getfield 131, 3, [1525]), (36, .iload_n 2, 1, []), (37, .iload_n 3, 1, []), (38, .invokevirtual 544, 3, [2101]), (41, .putfield 91, 3, [1506]), (44, .return_, 1, [])]
def am_e269 : List (Nat × Instr × Nat × List Nat) := [(0, .aload_n 0, 1, []), (1, .getfield 490, 3, [1497]), (4, .istore_n 2, 1, []), (5, .aload_n 0, 1, []), (6, .getfield 474, 3, [1485]), (9, .istore_n 3, 1, []), (10, .aload_n 0, 1, []), (11, .getfield 477, 3, [1490]), (14, .istore 4, 2, []), (16, .aload_n 0, 1, []), (17, .getfield 536, 3, [1499]), (20, .istore 5, 2, []), (22, .aload_n 0, 1, []), (23, .getfield 91, 3, [1506]), (26, .istore 6, 2, []), (28, .aload_n 0, 1, []), (29, .iload_n 1, 1, []), (30, .iconst 0, 1, []), (31, .invokevirtual 560, 3, [2165]), (34, .istore 7, 2, []), (36, .iload 7, 2, []), (38, .iconst (-1), 1, []), (39, .if_icmp .eq 79, 3, []), (42, .aload_n 0, 1, []), (43, .iload 7, 2, []), (45, .iload_n 1, 1, []), (46, .invokevirtual 563, 3, [2129]), (49, .ifCond .ne 6, 3, []), (52, .goto 52, 3, []), (55, .aload_n 0, 1, []), (56, .getfield 416, 3, [1507]), (59, .istore 8, 2, []), (61, .aload_n 0, 1, []), (62, .iload_n 1, 1, []), (63, .iload 7, 2, []), (65, .iconst 1, 1, []), (66, .iadd, 1, []), (67, .invokevirtual 560, 3, [2165]), (70, .istore 9, 2, []), (72, .iload 9, 2, []), (74, .iconst (-1), 1, []), (75, .if_icmp .eq 17, 3, []), (78, .aload_n 0, 1, []), (79, .iconst 0, 1, []), (80, .iload_n 1, 1, []), (81, .iload 9, 2, []), (83, .iload_n 2, 1, []), (84, .iload_n 3, 1, []), (85, .iload 4, 2, []), (87, .iload 5, 2, []), (89, .invokevirtual 566, 3, [2193]), (92, .aload_n 0, 1, []), (93, .iload 7, 2, []), (95, .iload 8, 2, []), (97, .iload 6, 2, []), (99, .invokevirtual 570, 3, [2181]), (102, .iconst 1, 1, []), (103, .ireturn, 1, []), (104, .aload_n 0, 1, []), (105, .iload_n 1, 1, []), (106, .iload 7, 2, []), (108, .iconst 1, 1, []), (109, .iadd, 1, []), (110, .invokevirtual 560, 3, [2165]), (113, .istore 7, 2, []), (115, .goto (-79), 3, []), (118, .iconst 0, 1, []), (119, .ireturn, 1, [])]
def am_e270 : List (Nat × Instr × Nat × List Nat) := [(0, .aload_n 0, 1, []), (1, .getfield 416, 3, [1507]), (4, .iconst 1, 1, []), (5, .isub, 1, []), (6, .istore_n 1, 1, []), (7, .aload_n 0, 1, []), (8, .getfield 101, 3, [1510]), (11, .iload_n 1, 1, []), (12, .iaload, 1, []), (13, .istore_n 2, 1, []), (14, .aload_n 0, 1, []), (15, .getfield 104, 3, [1511]), (18, .iload_n 1, 1, []), (19, .iaload, 1, []), (20, .istore_n 3, 1, []), (21, .aload_n 0, 1, []), (22, .iload_n 3, 1, []), (23, .iload_n 2, 1, []), (24, .invokevirtual 563, 3, [2129]), (27, .pop, 1, []), (28, .aload_n 0, 1, []), (29, .iload_n 2, 1, []), (30, .iload_n 3, 1, []), (31, .iconst 1, 1, []), (32, .iadd, 1, []), (33, .invokevirtual 560, 3, [2165]), (36, .istore 4, 2, []), (38, .aload_n 0, 1, []), (39, .getfield 98, 3, [1509]), (42, .iload_n 1, 1, []), (43, .iaload, 1, []), (44, .istore 5, 2, []), (46, .iload 4, 2, []), (48, .iconst (-1), 1, []), (49, .if_icmp .ne 16, 3, []), (52, .aload_n 0, 1, []), (53, .dup, 1, []), (54, .getfield 416, 3, [1507]), (57, .iconst 1, 1, []), (58, .isub, 1, []), (59, .putfield 416, 3, [1507]), (62, .goto 11, 3, []), (65, .aload_n 0, 1, []), (66, .getfield 104, 3, [1511]), (69, .iload_n 1, 1, []), (70, .iload 4, 2, []), (72, .iastore, 1, []), (73, .aload_n 0, 1, []), (74, .iload_n 3, 1, []), (75, .iload_n 1, 1, []), (76, .iload 5, 2, []), (78, .invokevirtual 570, 3, [2181]), (81, .return_, 1, [])]
def am_e271 : List (Nat × Instr × Nat × List Nat) := [(0, .aload_n 0, 1, []), (1, .getfield 416, 3, [1507]), (4, .iconst 1, 1, []), (5, .isub, 1, []), (6, .istore_n 1, 1, []), (7, .aload_n 0, 1, []), (8, .getfield 104, 3, [1511]), (11, .iload_n 1, 1, []), (12, .iaload, 1, []), (13, .istore_n 2, 1, []), (14, .iload_n 2, 1, []), (15, .iconst (-1), 1, []), (16, .if_icmp .eq 80, 3, []), (19, .aload_n 0, 1, []), (20, .getfield 474, 3, [1485]), (23, .istore_n 3, 1, []), (24, .aload_n 0, 1, []), (25, .getfield 477, 3, [1490]), (28, .istore 4, 2, []), (30, .aload_n 0, 1, []), (31, .getfield 490, 3, [1497]), (34, .istore 5, 2, []), (36, .aload_n 0, 1, []), (37, .iload_n 2, 1, []), (38, .aload_n 0, 1, []), (39, .getfield 101, 3, [1510]), (42, .iload_n 1, 1, []), (43, .iaload, 1, []), (44, .invokevirtual 563, 3, [2129]), (47, .ifCond .ne 6, 3, []), (50, .goto 29, 3, []), (53, .aload_n 0, 1, []), (54, .iload 5, 2, []), (56, .invokevirtual 557, 3, [2121]), (59, .aload_n 0, 1, []), (60, .iload_n 3, 1, []), (61, .putfield 474, 3, [1485]), (64, .aload_n 0, 1, []), (65, .iload 4, 2, []), (67, .putfield 477, 3, [1490]), (70, .aload_n 0, 1, []), (71, .getfield 104, 3, [1511]), (74, .iload_n 1, 1, []), (75, .iload_n 2, 1, []), (76, .iastore, 1, []), (77, .iconst 1, 1, []), (78, .ireturn, 1, []), (79, .aload_n 0, 1, []), (80, .aload_n 0, 1, []), (81, .getfield 101, 3, [1510]), (84, .iload_n 1, 1, []), (85, .iaload, 1, []), (86, .iload_n 2, 1, []), (87, .iconst 1, 1, []), (88, .iadd, 1, []), (89, .invokevirtual 560, 3, [2165]), (92, .istore_n 2, 1, []), (93, .goto (-79), 3, []), (96, .iconst 0, 1, []), (97, .ireturn, 1, [])]
def am_e272 : List (Nat × Instr × Nat × List Nat) := [(0, .iload_n 1, 1, []), (1, .bipush 10, 2, []), (3, .if_icmp .ne 16, 3, []), (6, .iload_n 2, 1, []), (7, .iload_n 3, 1, []), (8, .if_icmp .ge 7, 3, []), (11, .iconst 1, 1, []), (12, .goto 55, 3, []), (15, .iconst 0, 1, []), (16, .goto 51, 3, []), (19, .iload_n 1, 1, []), (20, .bipush 11, 2, []), (22, .if_icmp .ne 16, 3, []), (25, .iload_n 2, 1, []), (26, .iload_n 3, 1, []), (27, .if_icmp .le 7, 3, []), (30, .iconst 1, 1, []), (31, .goto 36, 3, []), (34, .iconst 0, 1, []), (35, .goto 32, 3, []), (38, .iload_n 1, 1, []), (39, .bipush 12, 2, []), (41, .if_icmp .ne 16, 3, []), (44, .iload_n 2, 1, []), (45, .iload_n 3, 1, []), (46, .if_icmp .gt 7, 3, []), (49, .iconst 1, 1, []), (50, .goto 17, 3, []), (53, .iconst 0, 1, []), (54, .goto 13, 3, []), (57, .iload_n 2, 1, []), (58, .iload_n 3, 1, []), (59, .if_icmp .lt 7, 3, []), (62, .iconst 1, 1, []), (63, .goto 4, 3, []), (66, .iconst 0, 1, []), (67, .ireturn, 1, [])]
def am_e273 : List (Nat × Instr × Nat × List Nat) := [(0, .aload_n 0, 1, []), (1, .getfield 76, 3, [1501]), (4, .iload_n 1, 1, []), (5, .iaload, 1, []), (6, .istore_n 2, 1, []), (7, .aload_n 0, 1, []), (8, .getfield 79, 3, [1502]), (11, .iload_n 1, 1, []), (12, .iaload, 1, []), (13, .istore_n 3, 1, []), (14, .aload_n 0, 1, []), (15, .getfield 73, 3, [1500]), (18, .iload_n 1, 1, []), (19, .iaload, 1, []), (20, .tableswitch 278 0 14 #[76, 86, 108, 110, 112, 177, 278, 196, 203, 234, 278, 278, 278, 278, 241], 76, []), (96, .aload_n 0, 1, []), (97, .aload_n 0, 1, []), (98, .iload_n 2, 1, []), (99, .invokevirtual 487, 3, [2141]), (102, .invokevirtual 574, 3, [2189]), (105, .ireturn, 1, []), (106, .aload_n 0, 1, []), (107, .dup, 1, []), (108, .getfield 409, 3, [1484]), (111, .iconst 1, 1, []), (112, .iadd, 1, []), (113, .putfield 409, 3, [1484]), (116, .aload_n 0, 1, []), (117, .aload_n 0, 1, []), (118, .getfield 88, 3, [1505]), (121, .iload_n 1, 1, []), (122, .iaload, 1, []), (123, .putfield 416, 3, [1507]), (126, .iconst 1, 1, []), (127, .ireturn, 1, []), (128, .iconst 1, 1, []), (129, .ireturn, 1, []), (130, .iconst 0, 1, []), (131, .ireturn, 1, []), (132, .aload_n 0, 1, []), (133, .getfield 416, 3, [1507]), (136, .istore 4, 2, []), (138, .aload_n 0, 1, []), (139, .iconst 1, 1, []), (140, .iconst (-1), 1, []), (141, .iconst (-1), 1, []), (142, .aload_n 0, 1, []), (143, .getfield 490, 3, [1497]), (146, .aload_n 0, 1, []), (147, .getfield 474, 3, [1485]), (150, .aload_n 0, 1, []), (151, .getfield 477, 3, [1490]), (154, .aload_n 0, 1, []), (155, .getfield 536, 3, [1499]), (158, .invokevirtual 566, 3, [2193]), (161, .aload_n 0, 1, []), (162, .bipush 6, 2, []), (164, .iload 4, 2, []), (166, .aload_n 0, 1, []), (167, .getfield 91, 3, [1506]), (170, .invokevirtual 548, 3, [2105]), (173, .istore 5, 2, []), (175, .aload_n 0, 1, []), (176, .aload_n 0, 1, []), (177, .aload_n 0, 1, []), (178, .getfield 82, 3, [1503]), (181, .iload_n 1, 1, []), (182, .iaload, 1, []), (183, .aload_n 0, 1, []), (184, .getfield 416, 3, [1507]), (187, .iload 5, 2, []), (189, .invokevirtual 577, 3, [2197]), (192, .putfield 91, 3, [1506]), (195, .iconst 1, 1, []), (196, .ireturn, 1, []), (197, .aload_n 0, 1, []), (198, .getfield 42, 3, [1486]), (201, .aload_n 0, 1, []), (202, .iload_n 2, 1, []), (203, .invokevirtual 487, 3, [2141]), (206, .iaload, 1, []), (207, .ifCond .ne 7, 3, []), (210, .iconst 1, 1, []), (211, .goto 4, 3, []), (214, .iconst 0, 1, []), (215, .ireturn, 1, []), (216, .aload_n 0, 1, []), (217, .iload_n 2, 1, []), (218, .iload_n 3, 1, []), (219, .invokevirtual 554, 3, [2133]), (222, .ireturn, 1, []), (223, .aload_n 0, 1, []), (224, .getfield 490, 3, [1497]), (227, .istore 4, 2, []), (229, .aload_n 0, 1, []), (230, .iload_n 2, 1, []), (231, .iload_n 3, 1, []), (232, .invokevirtual 554, 3, [2133]), (235, .istore 5, 2, []), (237, .aload_n 0, 1, []), (238, .iload 4, 2, []), (240, .invokevirtual 557, 3, [2121]), (243, .iload 5, 2, []), (245, .ifCond .ne 7, 3, []), (248, .iconst 1, 1, []), (249, .goto 4, 3, []), (252, .iconst 0, 1, []), (253, .ireturn, 1, []), (254, .aload_n 0, 1, []), (255, .iload_n 2, 1, []), (256, .iload_n 3, 1, []), (257, .invokevirtual 580, 3, [2201]), (260, .ireturn, 1, []), (261, .aload_n 0, 1, []), (262, .iload_n 3, 1, []), (263, .invokevirtual 583, 3, [2205]), (266, .istore 4, 2, []), (268, .aload_n 0, 1, []), (269, .getfield 520, 3, [1524]), (272, .ifCond .ne 24, 3, []), (275, .aload_n 0, 1, []), (276, .iload_n 2, 1, []), (277, .aload_n 0, 1, []), (278, .iconst 1, 1, []), (279, .iload 4, 2, []), (281, .i2l, 1, []), (282, .iconst 0, 1, []), (283, .invokevirtual 480, 3, [2090]), (286, .invokevirtual 554, 3, [2133]), (289, .ifCond .eq 7, 3, []), (292, .iconst 1, 1, []), (293, .goto 4, 3, []), (296, .iconst 0, 1, []), (297, .ireturn, 1, []), (298, .aload_n 0, 1, []), (299, .iload_n 2, 1, []), (300, .invokevirtual 583, 3, [2205]), (303, .istore 4, 2, []), (305, .aload_n 0, 1, []), (306, .getfield 520, 3, [1524]), (309, .ifCond .eq 5, 3, []), (312, .iconst 0, 1, []), (313, .ireturn, 1, []), (314, .aload_n 0, 1, []), (315, .iload_n 3, 1, []), (316, .invokevirtual 583, 3, [2205]), (319, .istore 5, 2, []), (321, .aload_n 0, 1, []), (322, .getfield 520, 3, [1524]), (325, .ifCond .ne 24, 3, []), (328, .aload_n 0, 1, []), (329, .aload_n 0, 1, []), (330, .getfield 73, 3, [1500]), (333, .iload_n 1, 1, []), (334, .iaload, 1, []), (335, .iload 4, 2, []), (337, .iload 5, 2, []), (339, .invokevirtual 586, 3, [2221]), (342, .ifCond .eq 7, 3, []), (345, .iconst 1, 1, []), (346, .goto 4, 3, []), (349, .iconst 0, 1, []), (350, .ireturn, 1, [])]
def am_e274 : List (Nat × Instr × Nat × List Nat) := [(0, .aload_n 0, 1, []), (1, .iconst 0, 1, []), (2, .putfield 520, 3, [1524]), (5, .iconst 1, 1, []), (6, .istore_n 1, 1, []), (7, .aload_n 0, 1, []), (8, .dup, 1, []), (9, .getfield 403, 3, [1482]), (12, .iconst 1, 1, []), (13, .iadd, 1, []), (14, .putfield 403, 3, [1482]), (17, .aload_n 0, 1, []), (18, .getfield 412, 3, [1516]), (21, .ifCond .eq 15, 3, []), (24, .aload_n 0, 1, []), (25, .iconst 0, 1, []), (26, .putfield 412, 3, [1516]), (29, .aload_n 0, 1, []), (30, .invokevirtual 589, 3, [2177]), (33, .goto 24, 3, []), (36, .aload_n 0, 1, []), (37, .getfield 91, 3, [1506]), (40, .istore_n 2, 1, []), (41, .aload_n 0, 1, []), (42, .aload_n 0, 1, []), (43, .getfield 85, 3, [1504]), (46, .iload_n 2, 1, []), (47, .iaload, 1, []), (48, .putfield 91, 3, [1506]), (51, .aload_n 0, 1, []), (52, .iload_n 2, 1, []), (53, .invokevirtual 592, 3, [2185]), (56, .istore_n 1, 1, []), (57, .aload_n 0, 1, []), (58, .getfield 520, 3, [1524]), (61, .ifCond .eq 11, 3, []), (64, .aload_n 0, 1, []), (65, .iconst 3, 1, []), (66, .putfield 38, 3, [1481]), (69, .goto 8, 3, []), (72, .aload_n 0, 1, []), (73, .iload_n 1, 1, []), (74, .invokevirtual 595, 3, [2117]), (77, .return_, 1, [])]
def am_e275 : List (Nat × Instr × Nat × List Nat) := [(0, .iload_n 1, 1, []), (1, .ifCond .ne 7, 3, []), (4, .iconst 1, 1, []), (5, .goto 4, 3, []), (8, .iconst 0, 1, []), (9, .istore_n 2, 1, []), (10, .iload_n 2, 1, []), (11, .ifCond .eq 152, 3, []), (14, .aload_n 0, 1, []), (15, .getfield 416, 3, [1507]), (18, .ifCond .ne 19, 3, []), (21, .aload_n 0, 1, []), (22, .iconst 0, 1, []), (23, .invokevirtual 557, 3, [2121]), (26, .aload_n 0, 1, []), (27, .iconst (-1), 1, []), (28, .putfield 91, 3, [1506]), (31, .aload_n 0, 1, []), (32, .iconst 2, 1, []), (33, .putfield 38, 3, [1481]), (36, .return_, 1, []), (37, .aload_n 0, 1, []), (38, .getfield 416, 3, [1507]), (41, .iconst 1, 1, []), (42, .isub, 1, []), (43, .istore_n 3, 1, []), (44, .aload_n 0, 1, []), (45, .aload_n 0, 1, []), (46, .getfield 107, 3, [1512]), (49, .iload_n 3, 1, []), (50, .iaload, 1, []), (51, .invokevirtual 557, 3, [2121]), (54, .aload_n 0, 1, []), (55, .aload_n 0, 1, []), (56, .getfield 110, 3, [1513]), (59, .iload_n 3, 1, []), (60, .iaload, 1, []), (61, .putfield 474, 3, [1485]), (64, .aload_n 0, 1, []), (65, .aload_n 0, 1, []), (66, .getfield 113, 3, [1514]), (69, .iload_n 3, 1, []), (70, .iaload, 1, []), (71, .putfield 477, 3, [1490]), (74, .aload_n 0, 1, []), (75, .aload_n 0, 1, []), (76, .getfield 116, 3, [1515]), (79, .iload_n 3, 1, []), (80, .iaload, 1, []), (81, .putfield 536, 3, [1499]), (84, .aload_n 0, 1, []), (85, .aload_n 0, 1, []), (86, .getfield 98, 3, [1509]), (89, .iload_n 3, 1, []), (90, .iaload, 1, []), (91, .putfield 91, 3, [1506]), (94, .aload_n 0, 1, []), (95, .getfield 94, 3, [1508]), (98, .iload_n 3, 1, []), (99, .baload, 1, []), (100, .ifCond .eq 18, 3, []), (103, .aload_n 0, 1, []), (104, .dup, 1, []), (105, .getfield 416, 3, [1507]), (108, .iconst 1, 1, []), (109, .isub, 1, []), (110, .putfield 416, 3, [1507]), (113, .iconst 0, 1, []), (114, .istore_n 2, 1, []), (115, .goto 45, 3, []), (118, .aload_n 0, 1, []), (119, .invokevirtual 599, 3, [2125]), (122, .ifCond .eq 28, 3, []), (125, .aload_n 0, 1, []), (126, .iconst 1, 1, []), (127, .putfield 412, 3, [1516]), (130, .aload_n 0, 1, []), (131, .aload_n 0, 1, []), (132, .getfield 403, 3, [1482]), (135, .sipush 1000, 3, []), (138, .if_icmp .ne 7, 3, []), (141, .iconst 4, 1, []), (142, .goto 4, 3, []), (145, .iconst 0, 1, []), (146, .putfield 38, 3, [1481]), (149, .return_, 1, []), (150, .aload_n 0, 1, []), (151, .dup, 1, []), (152, .getfield 416, 3, [1507]), (155, .iconst 1, 1, []), (156, .isub, 1, []), (157, .putfield 416, 3, [1507]), (160, .goto (-150), 3, []), (163, .aload_n 0, 1, []), (164, .getfield 91, 3, [1506]), (167, .iconst (-1), 1, []), (168, .if_icmp .ne 19, 3, []), (171, .aload_n 0, 1, []), (172, .dup, 1, []), (173, .getfield 406, 3, [1483]), (176, .iconst 1, 1, []), (177, .iadd, 1, []), (178, .putfield 406, 3, [1483]), (181, .aload_n 0, 1, []), (182, .iconst 1, 1, []), (183, .putfield 38, 3, [1481]), (186, .return_, 1, []), (187, .aload_n 0, 1, []), (188, .getfield 73, 3, [1500]), (191, .aload_n 0, 1, []), (192, .getfield 91, 3, [1506]), (195, .iaload, 1, []), (196, .bipush 6, 2, []), (198, .if_icmp .ne 21, 3, []), (201, .aload_n 0, 1, []), (202, .aload_n 0, 1, []), (203, .getfield 88, 3, [1505]), (206, .aload_n 0, 1, []), (207, .getfield 91, 3, [1506]), (210, .iaload, 1, []), (211, .putfield 416, 3, [1507]), (214, .iconst 1, 1, []), (215, .istore_n 2, 1, []), (216, .goto (-206), 3, []), (219, .aload_n 0, 1, []), (220, .aload_n 0, 1, []), (221, .getfield 403, 3, [1482]), (224, .sipush 1000, 3, []), (227, .if_icmp .ne 7, 3, []), (230, .iconst 4, 1, []), (231, .goto 4, 3, []), (234, .iconst 0, 1, []), (235, .putfield 38, 3, [1481]), (238, .return_, 1, [])]
def am_e276 : List (Nat × Instr × Nat × List Nat) := [(0, .aload_n 0, 1, []), (1, .iconst 0, 1, []), (2, .putfield 137, 3, [1466]), (5, .iload_n 1, 1, []), (6, .iconst 1, 1, []), (7, .sipush 500, 3, []), (10, .invokestatic 147, 3, [1669]), (13, .ifCond .ne 9, 3, []), (16, .aload_n 0, 1, []), (17, .iconst 1, 1, []), (18, .invokevirtual 143, 3, [1661]), (21, .ireturn, 1, []), (22, .aload_n 0, 1, []), (23, .getfield 400, 3, [1479]), (26, .ifnonnull 9, 3, []), (29, .aload_n 0, 1, []), (30, .iconst 2, 1, []), (31, .invokevirtual 143, 3, [1661]), (34, .ireturn, 1, []), (35, .aload_n 0, 1, []), (36, .getfield 403, 3, [1482]), (39, .istore_n 2, 1, []), (40, .aload_n 0, 1, []), (41, .getfield 38, 3, [1481]), (44, .iconst 1, 1, []), (45, .if_icmp .ne 8, 3, []), (48, .aload_n 0, 1, []), (49, .iconst 0, 1, []), (50, .invokevirtual 595, 3, [2117]), (53, .aload_n 0, 1, []), (54, .getfield 38, 3, [1481]), (57, .ifCond .ne 20, 3, []), (60, .aload_n 0, 1, []), (61, .getfield 403, 3, [1482]), (64, .iload_n 2, 1, []), (65, .isub, 1, []), (66, .iload_n 1, 1, []), (67, .if_icmp .ge 10, 3, []), (70, .aload_n 0, 1, []), (71, .invokevirtual 602, 3, [2173]), (74, .goto (-21), 3, []), (77, .aload_n 0, 1, []), (78, .getfield 403, 3, [1482]), (81, .iload_n 2, 1, []), (82, .isub, 1, []), (83, .ireturn, 1, [])]
def am_e277 : List (Nat × Instr × Nat × List Nat) := [(0, .aload_n 0, 1, []), (1, .iconst 0, 1, []), (2, .putfield 137, 3, [1466]), (5, .aload_n 0, 1, []), (6, .getfield 38, 3, [1481]), (9, .ireturn, 1, [])]
def am_e278 : List (Nat × Instr × Nat × List Nat) := [(0, .aload_n 0, 1, []), (1, .getfield 459, 3, [1478]), (4, .sipush 600, 3, []), (7, .if_icmp .ge 13, 3, []), (10, .aload_n 0, 1, []), (11, .getfield 32, 3, [1477]), (14, .aload_n 0, 1, []), (15, .getfield 459, 3, [1478]), (18, .iload_n 1, 1, []), (19, .iastore, 1, []), (20, .aload_n 0, 1, []), (21, .dup, 1, []), (22, .getfield 459, 3, [1478]), (25, .iconst 1, 1, []), (26, .iadd, 1, []), (27, .putfield 459, 3, [1478]), (30, .return_, 1, [])]
def am_e279 : List (Nat × Instr × Nat × List Nat) := [(0, .iconst 0, 1, []), (1, .istore_n 2, 1, []), (2, .iload_n 2, 1, []), (3, .aload_n 1, 1, []), (4, .invokevirtual 180, 3, [1811]), (7, .if_icmp .ge 18, 3, []), (10, .aload_n 0, 1, []), (11, .aload_n 1, 1, []), (12, .iload_n 2, 1, []), (13, .invokevirtual 183, 3, [1812]), (16, .invokevirtual 605, 3, [2249]), (19, .iinc 2 1, 3, []), (22, .goto (-20), 3, []), (25, .return_, 1, [])]
def am_e280 : List (Nat × Instr × Nat × List Nat) := [(0, .aload_n 0, 1, []), (1, .getfield 459, 3, [1478]), (4, .sipush 600, 3, []), (7, .if_icmp .le 7, 3, []), (10, .iconst 1, 1, []), (11, .goto 4, 3, []), (14, .iconst 0, 1, []), (15, .ireturn, 1, [])]
def am_e281 : List (Nat × Instr × Nat × List Nat) := [(0, .lload_n 1, 1, []), (1, .lconst 0, 1, []), (2, .lcmp, 1, []), (3, .ifCond .ge 9, 3, []), (6, .aload_n 0, 1, []), (7, .bipush 45, 2, []), (9, .invokevirtual 605, 3, [2249]), (12, .lload_n 1, 1, []), (13, .invokestatic 608, 3, [2253]), (16, .lstore_n 3, 1, []), (17, .lload_n 3, 1, []), (18, .ldc2_w 612, 3, [2256]), (21, .lcmp, 1, []), (22, .ifCond .le 12, 3, []), (25, .aload_n 0, 1, []), (26, .lload_n 3, 1, []), (27, .ldc2_w 614, 3, [2257]), (30, .ldiv, 1, []), (31, .invokevirtual 616, 3, [2258]), (34, .aload_n 0, 1, []), (35, .ldc2_w 620, 3, [2262]), (38, .lload_n 3, 1, []), (39, .ldc2_w 614, 3, [2257]), (42, .lrem, 1, []), (43, .ladd, 1, []), (44, .l2i, 1, []), (45, .invokevirtual 605, 3, [2249]), (48, .return_, 1, [])]
def am_e282 : List (Nat × Instr × Nat × List Nat) := [(0, .lload_n 1, 1, []), (1, .ldc2_w 612, 3, [2256]), (4, .lcmp, 1, []), (5, .ifCond .le 12, 3, []), (8, .aload_n 0, 1, []), (9, .lload_n 1, 1, []), (10, .ldc2_w 614, 3, [2257]), (13, .ldiv, 1, []), (14, .invokevirtual 616, 3, [2258]), (17, .aload_n 0, 1, []), (18, .ldc2_w 620, 3, [2262]), (21, .lload_n 1, 1, []), (22, .ldc2_w 614, 3, [2257]), (25, .lrem, 1, []), (26, .ladd, 1, []), (27, .l2i, 1, []), (28, .invokevirtual 605, 3, [2249]), (31, .return_, 1, [])]
def am_e283 : List (Nat × Instr × Nat × List Nat) := [(0, .lload_n 1, 1, []), (1, .ldc2_w 199, 3, [2005]), (4, .lcmp, 1, []), (5, .ifCond .lt 12, 3, []), (8, .aload_n 0, 1, []), (9, .lload_n 1, 1, []), (10, .ldc2_w 199, 3, [2005]), (13, .ldiv, 1, []), (14, .invokevirtual 622, 3, [2278]), (17, .lload_n 1, 1, []), (18, .ldc2_w 199, 3, [2005]), (21, .lrem, 1, []), (22, .l2i, 1, []), (23, .istore_n 3, 1, []), (24, .aload_n 0, 1, []), (25, .iload_n 3, 1, []), (26, .bipush 11, 2, []), (28, .if_icmp .ge 10, 3, []), (31, .iload_n 3, 1, []), (32, .bipush 47, 2, []), (34, .iadd, 1, []), (35, .goto 7, 3, []), (38, .iload_n 3, 1, []), (39, .bipush 86, 2, []), (41, .iadd, 1, []), (42, .invokevirtual 605, 3, [2249]), (45, .return_, 1, [])]
def am_e284 : List (Nat × Instr × Nat × List Nat) := [(0, .lload_n 0, 1, []), (1, .ldc2_w 338, 3, [2006]), (4, .lcmp, 1, []), (5, .ifCond .gt 15, 3, []), (8, .lload_n 0, 1, []), (9, .ldc2_w 356, 3, [2027]), (12, .lcmp, 1, []), (13, .ifCond .lt 7, 3, []), (16, .iconst 1, 1, []), (17, .goto 4, 3, []), (20, .iconst 0, 1, []), (21, .ireturn, 1, [])]
def am_e285 : List (Nat × Instr × Nat × List Nat) := [(0, .iconst 0, 1, []), (1, .istore_n 2, 1, []), (2, .iload_n 2, 1, []), (3, .aload_n 0, 1, []), (4, .getfield 625, 3, [1526]), (7, .if_icmp .ge 19, 3, []), (10, .aload_n 0, 1, []), (11, .getfield 134, 3, [1527]), (14, .iload_n 2, 1, []), (15, .iaload, 1, []), (16, .iload_n 1, 1, []), (17, .if_icmp .eq 9, 3, []), (20, .iinc 2 1, 3, []), (23, .goto (-21), 3, []), (26, .iload_n 2, 1, []), (27, .aload_n 0, 1, []), (28, .getfield 625, 3, [1526]), (31, .if_icmp .ne 23, 3, []), (34, .aload_n 0, 1, []), (35, .getfield 134, 3, [1527]), (38, .aload_n 0, 1, []), (39, .getfield 625, 3, [1526]), (42, .iload_n 1, 1, []), (43, .iastore, 1, []), (44, .aload_n 0, 1, []), (45, .dup, 1, []), (46, .getfield 625, 3, [1526]), (49, .iconst 1, 1, []), (50, .iadd, 1, []), (51, .putfield 625, 3, [1526]), (54, .aload_n 0, 1, []), (55, .bipush 95, 2, []), (57, .invokevirtual 605, 3, [2249]), (60, .aload_n 0, 1, []), (61, .iload_n 2, 1, []), (62, .i2l, 1, []), (63, .invokevirtual 628, 3, [2245]), (66, .return_, 1, [])]
def am_e286 : List (Nat × Instr × Nat × List Nat) := [(0, .aload_n 0, 1, []), (1, .iload_n 1, 1, []), (2, .invokevirtual 487, 3, [2141]), (5, .istore_n 3, 1, []), (6, .aload_n 0, 1, []), (7, .invokevirtual 631, 3, [2241]), (10, .ifCond .eq 4, 3, []), (13, .return_, 1, []), (14, .aload_n 0, 1, []), (15, .getfield 45, 3, [1487]), (18, .iload_n 3, 1, []), (19, .laload, 1, []), (20, .lstore 4, 2, []), (22, .aload_n 0, 1, []), (23, .getfield 42, 3, [1486]), (26, .iload_n 3, 1, []), (27, .iaload, 1, []), (28, .iconst 1, 1, []), (29, .if_icmp .ne 12, 3, []), (32, .aload_n 0, 1, []), (33, .lload 4, 2, []), (35, .invokevirtual 628, 3, [2245]), (38, .goto 334, 3, []), (41, .aload_n 0, 1, []), (42, .getfield 42, 3, [1486]), (45, .iload_n 3, 1, []), (46, .iaload, 1, []), (47, .ifCond .ne 11, 3, []), (50, .aload_n 0, 1, []), (51, .iload_n 3, 1, []), (52, .invokevirtual 634, 3, [2263]), (55, .goto 317, 3, []), (58, .lload 4, 2, []), (60, .ldc2_w 373, 3, [2019]), (63, .lcmp, 1, []), (64, .ifCond .ne 13, 3, []), (67, .aload_n 0, 1, []), (68, .ldc_w 637, 3, [2267]), (71, .invokevirtual 639, 3, [2268]), (74, .goto 298, 3, []), (77, .lload 4, 2, []), (79, .ldc2_w 375, 3, [2020]), (82, .lcmp, 1, []), (83, .ifCond .ne 137, 3, []), (86, .aload_n 0, 1, []), (87, .bipush 91, 2, []), (89, .invokevirtual 605, 3, [2249]), (92, .aload_n 0, 1, []), (93, .aload_n 0, 1, []), (94, .iload_n 3, 1, []), (95, .iconst 0, 1, []), (96, .invokevirtual 496, 3, [2153]), (99, .iconst 0, 1, []), (100, .invokevirtual 642, 3, [2237]), (103, .aload_n 0, 1, []), (104, .iload_n 3, 1, []), (105, .iconst 1, 1, []), (106, .invokevirtual 496, 3, [2153]), (109, .istore 6, 2, []), (111, .aload_n 0, 1, []), (112, .getfield 42, 3, [1486]), (115, .iload 6, 2, []), (117, .iaload, 1, []), (118, .iconst 2, 1, []), (119, .if_icmp .ne 54, 3, []), (122, .aload_n 0, 1, []), (123, .getfield 45, 3, [1487]), (126, .iload 6, 2, []), (128, .laload, 1, []), (129, .ldc2_w 375, 3, [2020]), (132, .lcmp, 1, []), (133, .ifCond .ne 40, 3, []), (136, .aload_n 0, 1, []), (137, .invokevirtual 631, 3, [2241]), (140, .ifCond .ne 33, 3, []), (143, .aload_n 0, 1, []), (144, .bipush 44, 2, []), (146, .invokevirtual 605, 3, [2249]), (149, .aload_n 0, 1, []), (150, .aload_n 0, 1, []), (151, .iload 6, 2, []), (153, .iconst 0, 1, []), (154, .invokevirtual 496, 3, [2153]), (157, .iconst 0, 1, []), (158, .invokevirtual 642, 3, [2237]), (161, .aload_n 0, 1, []), (162, .iload 6, 2, []), (164, .iconst 1, 1, []), (165, .invokevirtual 496, 3, [2153]), (168, .istore 6, 2, []), (170, .goto (-59), 3, []), (173, .aload_n 0, 1, []), (174, .getfield 42, 3, [1486]), (177, .iload 6, 2, []), (179, .iaload, 1, []), (180, .iconst 2, 1, []), (181, .if_icmp .ne 17, 3, []), (184, .aload_n 0, 1, []), (185, .getfield 45, 3, [1487]), (188, .iload 6, 2, []), (190, .laload, 1, []), (191, .ldc2_w 373, 3, [2019]), (194, .lcmp, 1, []), (195, .ifCond .eq 16, 3, []), (198, .aload_n 0, 1, []), (199, .bipush 124, 2, []), (201, .invokevirtual 605, 3, [2249]), (204, .aload_n 0, 1, []), (205, .iload 6, 2, []), (207, .iconst 0, 1, []), (208, .invokevirtual 642, 3, [2237]), (211, .aload_n 0, 1, []), (212, .bipush 93, 2, []), (214, .invokevirtual 605, 3, [2249]), (217, .goto 155, 3, []), (220, .lload 4, 2, []), (222, .invokestatic 646, 3, [2272]), (225, .ifCond .eq 78, 3, []), (228, .iload_n 2, 1, []), (229, .ifCond .eq 9, 3, []), (232, .aload_n 0, 1, []), (233, .bipush 40, 2, []), (235, .invokevirtual 605, 3, [2249]), (238, .aload_n 0, 1, []), (239, .aload_n 0, 1, []), (240, .iload_n 3, 1, []), (241, .iconst 0, 1, []), (242, .invokevirtual 496, 3, [2153]), (245, .iconst 1, 1, []), (246, .invokevirtual 642, 3, [2237]), (249, .aload_n 0, 1, []), (250, .lload 4, 2, []), (252, .ldc2_w 356, 3, [2027]), (255, .lcmp, 1, []), (256, .ifCond .ne 9, 3, []), (259, .ldc_w 650, 3, [2275]), (262, .goto 14, 3, []), (265, .getstatic 652, 3, [2276]), (268, .ldc2_w 338, 3, [2006]), (271, .lload 4, 2, []), (273, .lsub, 1, []), (274, .l2i, 1, []), (275, .aaload, 1, []), (276, .invokevirtual 639, 3, [2268]), (279, .aload_n 0, 1, []), (280, .aload_n 0, 1, []), (281, .iload_n 3, 1, []), (282, .iconst 1, 1, []), (283, .invokevirtual 496, 3, [2153]), (286, .iconst 1, 1, []), (287, .invokevirtual 642, 3, [2237]), (290, .iload_n 2, 1, []), (291, .ifCond .eq 81, 3, []), (294, .aload_n 0, 1, []), (295, .bipush 41, 2, []), (297, .invokevirtual 605, 3, [2249]), (300, .goto 72, 3, []), (303, .aload_n 0, 1, []), (304, .lload 4, 2, []), (306, .invokevirtual 622, 3, [2278]), (309, .iconst 0, 1, []), (310, .istore 6, 2, []), (312, .iload 6, 2, []), (314, .aload_n 0, 1, []), (315, .getfield 52, 3, [1489]), (318, .iload_n 3, 1, []), (319, .iaload, 1, []), (320, .if_icmp .ge 37, 3, []), (323, .aload_n 0, 1, []), (324, .iload 6, 2, []), (326, .ifCond .ne 8, 3, []), (329, .bipush 40, 2, []), (331, .goto 5, 3, []), (334, .bipush 44, 2, []), (336, .invokevirtual 605, 3, [2249]), (339, .aload_n 0, 1, []), (340, .aload_n 0, 1, []), (341, .iload_n 3, 1, []), (342, .iload 6, 2, []), (344, .invokevirtual 496, 3, [2153]), (347, .iconst 0, 1, []), (348, .invokevirtual 642, 3, [2237]), (351, .iinc 6 1, 3, []), (354, .goto (-42), 3, []), (357, .aload_n 0, 1, []), (358, .getfield 52, 3, [1489]), (361, .iload_n 3, 1, []), (362, .iaload, 1, []), (363, .ifCond .le 9, 3, []), (366, .aload_n 0, 1, []), (367, .bipush 41, 2, []), (369, .invokevirtual 605, 3, [2249]), (372, .return_, 1, [])]
def am_e287 : List (Nat × Instr × Nat × List Nat) := [(0, .aload_n 0, 1, []), (1, .getfield 400, 3, [1479]), (4, .ifnull 24, 3, []), (7, .iload_n 1, 1, []), (8, .iconst 0, 1, []), (9, .aload_n 0, 1, []), (10, .getfield 400, 3, [1479]), (13, .getfield 328, 3, [1927]), (16, .iconst 1, 1, []), (17, .isub, 1, []), (18, .invokestatic 147, 3, [1669]), (21, .ifCond .eq 7, 3, []), (24, .iconst 1, 1, []), (25, .goto 4, 3, []), (28, .iconst 0, 1, []), (29, .ireturn, 1, [])]
def am_e288 : List (Nat × Instr × Nat × List Nat) := [(0, .aload_n 0, 1, []), (1, .invokevirtual 631, 3, [2241]), (4, .ifCond .ne 8, 3, []), (7, .aload_n 0, 1, []), (8, .getfield 459, 3, [1478]), (11, .ireturn, 1, []), (12, .aload_n 1, 1, []), (13, .iconst 0, 1, []), (14, .aload_n 0, 1, []), (15, .getfield 32, 3, [1477]), (18, .iconst 0, 1, []), (19, .sipush 600, 3, []), (22, .invokestatic 655, 3, [2286]), (25, .aload_n 0, 1, []), (26, .iload_n 2, 1, []), (27, .putfield 459, 3, [1478]), (30, .iconst (-1), 1, []), (31, .ireturn, 1, [])]
def am_e289 : List (Nat × Instr × Nat × List Nat) := [(0, .aload_n 0, 1, []), (1, .iconst 0, 1, []), (2, .putfield 137, 3, [1466]), (5, .aload_n 0, 1, []), (6, .iload_n 1, 1, []), (7, .invokevirtual 661, 3, [2233]), (10, .ifCond .ne 9, 3, []), (13, .aload_n 0, 1, []), (14, .iconst 1, 1, []), (15, .invokevirtual 143, 3, [1661]), (18, .ireturn, 1, []), (19, .aload_n 0, 1, []), (20, .getfield 32, 3, [1477]), (23, .invokevirtual 539, 3, [2094]), (26, .checkcast 540, 3, [2100]), (29, .astore_n 2, 1, []), (30, .aload_n 0, 1, []), (31, .getfield 459, 3, [1478]), (34, .istore_n 3, 1, []), (35, .aload_n 0, 1, []), (36, .iconst 0, 1, []), (37, .putfield 459, 3, [1478]), (40, .aload_n 0, 1, []), (41, .iconst 0, 1, []), (42, .putfield 625, 3, [1526]), (45, .aload_n 0, 1, []), (46, .aload_n 0, 1, []), (47, .getfield 35, 3, [1480]), (50, .iload_n 1, 1, []), (51, .iaload, 1, []), (52, .iconst 0, 1, []), (53, .invokevirtual 642, 3, [2237]), (56, .aload_n 0, 1, []), (57, .aload_n 2, 1, []), (58, .iload_n 3, 1, []), (59, .invokevirtual 664, 3, [2282]), (62, .istore 4, 2, []), (64, .iload 4, 2, []), (66, .iconst (-1), 1, []), (67, .if_icmp .ne 11, 3, []), (70, .aload_n 0, 1, []), (71, .iconst 2, 1, []), (72, .invokevirtual 143, 3, [1661]), (75, .goto 5, 3, []), (78, .iload 4, 2, []), (80, .ireturn, 1, [])]
def am_e290 : List (Nat × Instr × Nat × List Nat) := [(0, .aload_n 0, 1, []), (1, .getfield 73, 3, [1500]), (4, .iload_n 1, 1, []), (5, .iaload, 1, []), (6, .istore_n 2, 1, []), (7, .iload_n 2, 1, []), (8, .iconst 1, 1, []), (9, .if_icmp .ne 12, 3, []), (12, .aload_n 0, 1, []), (13, .bipush 33, 2, []), (15, .invokevirtual 605, 3, [2249]), (18, .goto 191, 3, []), (21, .iload_n 2, 1, []), (22, .iconst 2, 1, []), (23, .if_icmp .ne 12, 3, []), (26, .aload_n 0, 1, []), (27, .ldc 252, 2, [1889]), (29, .invokevirtual 639, 3, [2268]), (32, .goto 177, 3, []), (35, .iload_n 2, 1, []), (36, .iconst 3, 1, []), (37, .if_icmp .ne 12, 3, []), (40, .aload_n 0, 1, []), (41, .ldc 254, 2, [1890]), (43, .invokevirtual 639, 3, [2268]), (46, .goto 163, 3, []), (49, .iload_n 2, 1, []), (50, .ifCond .ne 17, 3, []), (53, .aload_n 0, 1, []), (54, .aload_n 0, 1, []), (55, .getfield 76, 3, [1501]), (58, .iload_n 1, 1, []), (59, .iaload, 1, []), (60, .iconst 0, 1, []), (61, .invokevirtual 642, 3, [2237]), (64, .goto 145, 3, []), (67, .iload_n 2, 1, []), (68, .iconst 5, 1, []), (69, .if_icmp .ne 30, 3, []), (72, .aload_n 0, 1, []), (73, .ldc_w 668, 3, [2297]), (76, .invokevirtual 639, 3, [2268]), (79, .aload_n 0, 1, []), (80, .aload_n 0, 1, []), (81, .getfield 76, 3, [1501]), (84, .iload_n 1, 1, []), (85, .iaload, 1, []), (86, .iconst 0, 1, []), (87, .invokevirtual 642, 3, [2237]), (90, .aload_n 0, 1, []), (91, .bipush 41, 2, []), (93, .invokevirtual 605, 3, [2249]), (96, .goto 113, 3, []), (99, .iload_n 2, 1, []), (100, .iconst 4, 1, []), (101, .if_icmp .ne 62, 3, []), (104, .aload_n 0, 1, []), (105, .ldc_w 670, 3, [2298]), (108, .invokevirtual 639, 3, [2268]), (111, .aload_n 0, 1, []), (112, .getfield 82, 3, [1503]), (115, .iload_n 1, 1, []), (116, .iaload, 1, []), (117, .istore_n 3, 1, []), (118, .iload_n 3, 1, []), (119, .iconst (-1), 1, []), (120, .if_icmp .eq 34, 3, []), (123, .iload_n 3, 1, []), (124, .aload_n 0, 1, []), (125, .getfield 82, 3, [1503]), (128, .iload_n 1, 1, []), (129, .iaload, 1, []), (130, .if_icmp .eq 9, 3, []), (133, .aload_n 0, 1, []), (134, .bipush 44, 2, []), (136, .invokevirtual 605, 3, [2249]), (139, .aload_n 0, 1, []), (140, .iload_n 3, 1, []), (141, .invokevirtual 672, 3, [2293]), (144, .aload_n 0, 1, []), (145, .getfield 85, 3, [1504]), (148, .iload_n 3, 1, []), (149, .iaload, 1, []), (150, .istore_n 3, 1, []), (151, .goto (-33), 3, []), (154, .aload_n 0, 1, []), (155, .bipush 41, 2, []), (157, .invokevirtual 605, 3, [2249]), (160, .goto 49, 3, []), (163, .aload_n 0, 1, []), (164, .aload_n 0, 1, []), (165, .getfield 76, 3, [1501]), (168, .iload_n 1, 1, []), (169, .iaload, 1, []), (170, .iconst 0, 1, []), (171, .invokevirtual 642, 3, [2237]), (174, .aload_n 0, 1, []), (175, .iload_n 2, 1, []), (176, .bipush 14, 2, []), (178, .if_icmp .ne 9, 3, []), (181, .ldc_w 675, 3, [2299]), (184, .goto 11, 3, []), (187, .getstatic 260, 3, [1893]), (190, .iload_n 2, 1, []), (191, .bipush 7, 2, []), (193, .isub, 1, []), (194, .aaload, 1, []), (195, .invokevirtual 639, 3, [2268]), (198, .aload_n 0, 1, []), (199, .aload_n 0, 1, []), (200, .getfield 79, 3, [1502]), (203, .iload_n 1, 1, []), (204, .iaload, 1, []), (205, .iconst 0, 1, []), (206, .invokevirtual 642, 3, [2237]), (209, .return_, 1, [])]
def am_e291 : List (Nat × Instr × Nat × List Nat) := [(0, .aload_n 0, 1, []), (1, .iconst 0, 1, []), (2, .putfield 137, 3, [1466]), (5, .aload_n 0, 1, []), (6, .getfield 400, 3, [1479]), (9, .ifnonnull 9, 3, []), (12, .aload_n 0, 1, []), (13, .iconst 1, 1, []), (14, .invokevirtual 143, 3, [1661]), (17, .ireturn, 1, []), (18, .aload_n 0, 1, []), (19, .getfield 32, 3, [1477]), (22, .invokevirtual 539, 3, [2094]), (25, .checkcast 540, 3, [2100]), (28, .astore_n 1, 1, []), (29, .aload_n 0, 1, []), (30, .getfield 459, 3, [1478]), (33, .istore_n 2, 1, []), (34, .aload_n 0, 1, []), (35, .iconst 0, 1, []), (36, .putfield 459, 3, [1478]), (39, .aload_n 0, 1, []), (40, .iconst 0, 1, []), (41, .putfield 625, 3, [1526]), (44, .aload_n 0, 1, []), (45, .getfield 412, 3, [1516]), (48, .ifCond .ne 43, 3, []), (51, .aload_n 0, 1, []), (52, .getfield 91, 3, [1506]), (55, .iconst (-1), 1, []), (56, .if_icmp .eq 35, 3, []), (59, .aload_n 0, 1, []), (60, .getfield 38, 3, [1481]), (63, .iconst 1, 1, []), (64, .if_icmp .eq 27, 3, []), (67, .aload_n 0, 1, []), (68, .getfield 38, 3, [1481]), (71, .iconst 2, 1, []), (72, .if_icmp .eq 19, 3, []), (75, .aload_n 0, 1, []), (76, .getfield 38, 3, [1481]), (79, .iconst 3, 1, []), (80, .if_icmp .eq 11, 3, []), (83, .aload_n 0, 1, []), (84, .aload_n 0, 1, []), (85, .getfield 91, 3, [1506]), (88, .invokevirtual 672, 3, [2293]), (91, .aload_n 0, 1, []), (92, .aload_n 1, 1, []), (93, .iload_n 2, 1, []), (94, .invokevirtual 664, 3, [2282]), (97, .istore_n 3, 1, []), (98, .iload_n 3, 1, []), (99, .iconst (-1), 1, []), (100, .if_icmp .ne 11, 3, []), (103, .aload_n 0, 1, []), (104, .iconst 1, 1, []), (105, .invokevirtual 143, 3, [1661]), (108, .goto 4, 3, []), (111, .iload_n 3, 1, []), (112, .ireturn, 1, [])]
def am_e292 : List (Nat × Instr × Nat × List Nat) := [(0, .aload_n 0, 1, []), (1, .iconst 0, 1, []), (2, .putfield 137, 3, [1466]), (5, .iload_n 1, 1, []), (6, .iconst 0, 1, []), (7, .aload_n 0, 1, []), (8, .getfield 459, 3, [1478]), (11, .iconst 1, 1, []), (12, .isub, 1, []), (13, .invokestatic 147, 3, [1669]), (16, .ifCond .eq 12, 3, []), (19, .aload_n 0, 1, []), (20, .getfield 32, 3, [1477]), (23, .iload_n 1, 1, []), (24, .iaload, 1, []), (25, .goto 8, 3, []), (28, .aload_n 0, 1, []), (29, .iconst 1, 1, []), (30, .invokevirtual 143, 3, [1661]), (33, .ireturn, 1, [])]
def am_e293 : List (Nat × Instr × Nat × List Nat) := [(0, .aload_n 0, 1, []), (1, .iconst 0, 1, []), (2, .putfield 137, 3, [1466]), (5, .aload_n 0, 1, []), (6, .iload_n 1, 1, []), (7, .invokevirtual 661, 3, [2233]), (10, .ifCond .ne 9, 3, []), (13, .aload_n 0, 1, []), (14, .iconst 1, 1, []), (15, .invokevirtual 143, 3, [1661]), (18, .ireturn, 1, []), (19, .aload_n 0, 1, []), (20, .aload_n 0, 1, []), (21, .getfield 35, 3, [1480]), (24, .iload_n 1, 1, []), (25, .iaload, 1, []), (26, .invokevirtual 487, 3, [2141]), (29, .istore_n 2, 1, []), (30, .aload_n 0, 1, []), (31, .getfield 42, 3, [1486]), (34, .iload_n 2, 1, []), (35, .iaload, 1, []), (36, .iconst 1, 1, []), (37, .if_icmp .ne 13, 3, []), (40, .aload_n 0, 1, []), (41, .getfield 45, 3, [1487]), (44, .iload_n 2, 1, []), (45, .laload, 1, []), (46, .l2i, 1, []), (47, .goto 8, 3, []), (50, .aload_n 0, 1, []), (51, .iconst 2, 1, []), (52, .invokevirtual 143, 3, [1661]), (55, .ireturn, 1, [])]
def am_e294 : List (Nat × Instr × Nat × List Nat) := [(0, .aload_n 0, 1, []), (1, .aload_n 0, 1, []), (2, .iload_n 1, 1, []), (3, .invokevirtual 661, 3, [2233]), (6, .ifCond .eq 15, 3, []), (9, .aload_n 0, 1, []), (10, .iload_n 2, 1, []), (11, .invokevirtual 661, 3, [2233]), (14, .ifCond .eq 7, 3, []), (17, .iconst 0, 1, []), (18, .goto 4, 3, []), (21, .iconst 1, 1, []), (22, .putfield 137, 3, [1466]), (25, .aload_n 0, 1, []), (26, .getfield 137, 3, [1466]), (29, .ifCond .ne 26, 3, []), (32, .aload_n 0, 1, []), (33, .aload_n 0, 1, []), (34, .getfield 35, 3, [1480]), (37, .iload_n 1, 1, []), (38, .iaload, 1, []), (39, .aload_n 0, 1, []), (40, .getfield 35, 3, [1480]), (43, .iload_n 2, 1, []), (44, .iaload, 1, []), (45, .invokevirtual 580, 3, [2201]), (48, .ifCond .eq 7, 3, []), (51, .iconst 1, 1, []), (52, .goto 4, 3, []), (55, .iconst 0, 1, []), (56, .ireturn, 1, [])]
def am_e295 : List (Nat × Instr × Nat × List Nat) := [(0, .aload_n 0, 1, []), (1, .iconst 0, 1, []), (2, .putfield 137, 3, [1466]), (5, .aload_n 0, 1, []), (6, .getfield 400, 3, [1479]), (9, .ifnull 10, 3, []), (12, .aload_n 0, 1, []), (13, .getfield 406, 3, [1483]), (16, .ifCond .ne 7, 3, []), (19, .dconst 0, 1, []), (20, .goto 14, 3, []), (23, .aload_n 0, 1, []), (24, .getfield 403, 3, [1482]), (27, .i2d, 1, []), (28, .aload_n 0, 1, []), (29, .getfield 406, 3, [1483]), (32, .i2d, 1, []), (33, .ddiv, 1, []), (34, .dreturn, 1, [])]
def am_e296 : List (Nat × Instr × Nat × List Nat) := [(0, .aload_n 0, 1, []), (1, .iconst 0, 1, []), (2, .putfield 137, 3, [1466]), (5, .ldc2_w 677, 3, [2320]), (8, .lstore_n 1, 1, []), (9, .iconst 0, 1, []), (10, .istore_n 3, 1, []), (11, .iload_n 3, 1, []), (12, .bipush 9, 2, []), (14, .if_icmp .ge 22, 3, []), (17, .lload_n 1, 1, []), (18, .ldc2_w 679, 3, [2321]), (21, .lmul, 1, []), (22, .aload_n 0, 1, []), (23, .iload_n 3, 1, []), (24, .invokevirtual 465, 3, [2053]), (27, .i2l, 1, []), (28, .ladd, 1, []), (29, .lstore_n 1, 1, []), (30, .iinc 3 1, 3, []), (33, .goto (-22), 3, []), (36, .lload_n 1, 1, []), (37, .ldc2_w 679, 3, [2321]), (40, .lmul, 1, []), (41, .aload_n 0, 1, []), (42, .getfield 38, 3, [1481]), (45, .i2l, 1, []), (46, .ladd, 1, []), (47, .lstore_n 1, 1, []), (48, .iconst 0, 1, []), (49, .istore_n 3, 1, []), (50, .iload_n 3, 1, []), (51, .aload_n 0, 1, []), (52, .getfield 438, 3, [1475]), (55, .if_icmp .ge 39, 3, []), (58, .iconst 0, 1, []), (59, .istore 4, 2, []), (61, .iload 4, 2, []), (63, .iconst 4, 1, []), (64, .if_icmp .ge 24, 3, []), (67, .lload_n 1, 1, []), (68, .ldc2_w 679, 3, [2321]), (71, .lmul, 1, []), (72, .aload_n 0, 1, []), (73, .iload_n 3, 1, []), (74, .iload 4, 2, []), (76, .invokevirtual 471, 3, [2078]), (79, .i2l, 1, []), (80, .ladd, 1, []), (81, .lstore_n 1, 1, []), (82, .iinc 4 1, 3, []), (85, .goto (-24), 3, []), (88, .iinc 3 1, 3, []), (91, .goto (-41), 3, []), (94, .iconst 0, 1, []), (95, .istore_n 3, 1, []), (96, .iload_n 3, 1, []), (97, .aload_n 0, 1, []), (98, .getfield 459, 3, [1478]), (101, .if_icmp .ge 23, 3, []), (104, .lload_n 1, 1, []), (105, .ldc2_w 679, 3, [2321]), (108, .lmul, 1, []), (109, .aload_n 0, 1, []), (110, .getfield 32, 3, [1477]), (113, .iload_n 3, 1, []), (114, .iaload, 1, []), (115, .i2l, 1, []), (116, .ladd, 1, []), (117, .lstore_n 1, 1, []), (118, .iinc 3 1, 3, []), (121, .goto (-25), 3, []), (124, .lload_n 1, 1, []), (125, .lreturn, 1, [])]
def am_e297 : List (Nat × Instr × Nat × List Nat) := [(0, .aload_n 0, 1, []), (1, .getfield 9, 3, [2324]), (4, .arraylength, 1, []), (5, .aload_n 0, 1, []), (6, .invokevirtual 335, 3, [1724]), (9, .ishr, 1, []), (10, .ireturn, 1, [])]
def am_e298 : List (Nat × Instr × Nat × List Nat) := [(0, .aload_n 0, 1, []), (1, .invokevirtual 492, 3, [1714]), (4, .ifCond .eq 12, 3, []), (7, .aload_n 0, 1, []), (8, .getfield 9, 3, [2324]), (11, .iload_n 1, 1, []), (12, .invokestatic 495, 3, [1816]), (15, .ireturn, 1, []), (16, .aload_n 0, 1, []), (17, .getfield 9, 3, [2324]), (20, .iload_n 1, 1, []), (21, .invokestatic 498, 3, []), (24, .ireturn, 1, [])]
def am_e299 : List (Nat × Instr × Nat × List Nat) := [(0, .aload_n 0, 1, []), (1, .iload_n 1, 1, []), (2, .iconst 0, 1, []), (3, .invokevirtual 633, 3, [1710]), (6, .ireturn, 1, [])]
def am_e300 : List (Nat × Instr × Nat × List Nat) := [(0, .aload_n 0, 1, []), (1, .invokevirtual 492, 3, [1714]), (4, .ifCond .eq 19, 3, []), (7, .aload_n 0, 1, []), (8, .getfield 9, 3, [2324]), (11, .iload_n 1, 1, []), (12, .iload_n 2, 1, []), (13, .aload_n 0, 1, []), (14, .invokevirtual 505, 3, [1720]), (17, .invokestatic 637, 3, [1728]), (20, .goto 16, 3, []), (23, .aload_n 0, 1, []), (24, .getfield 9, 3, [2324]), (27, .iload_n 1, 1, []), (28, .iload_n 2, 1, []), (29, .aload_n 0, 1, []), (30, .invokevirtual 505, 3, [1720]), (33, .invokestatic 640, 3, []), (36, .ireturn, 1, [])]
def am_e301 : List (Nat × Instr × Nat × List Nat) := [(0, .getstatic 38, 3, [1718]), (3, .ifCond .eq 10, 3, []), (6, .aload_n 0, 1, []), (7, .getfield 15, 3, [2323]), (10, .goto 4, 3, []), (13, .iconst 1, 1, []), (14, .ireturn, 1, [])]
def am_e302 : List (Nat × Instr × Nat × List Nat) := [(0, .getstatic 38, 3, [1718]), (3, .ifCond .eq 14, 3, []), (6, .aload_n 0, 1, []), (7, .getfield 15, 3, [2323]), (10, .ifCond .ne 7, 3, []), (13, .iconst 1, 1, []), (14, .goto 4, 3, []), (17, .iconst 0, 1, []), (18, .ireturn, 1, [])]
def am_e303 : List (Nat × Instr × Nat × List Nat) := [(0, .iload_n 1, 1, []), (1, .aload_n 0, 1, []), (2, .arraylength, 1, []), (3, .invokestatic 9, 3, []), (6, .aload_n 0, 1, []), (7, .iload_n 1, 1, []), (8, .baload, 1, []), (9, .sipush 255, 3, []), (12, .iand, 1, []), (13, .i2c, 1, []), (14, .ireturn, 1, [])]
def am_e304 : List (Nat × Instr × Nat × List Nat) := [(0, .iload_n 0, 1, []), (1, .ifCond .lt 14, 3, []), (4, .iload_n 0, 1, []), (5, .sipush 255, 3, []), (8, .if_icmp .gt 7, 3, []), (11, .iconst 1, 1, []), (12, .goto 4, 3, []), (15, .iconst 0, 1, []), (16, .ireturn, 1, [])]
def am_e305 : List (Nat × Instr × Nat × List Nat) := [(0, .iload_n 1, 1, []), (1, .invokestatic 88, 3, [1731]), (4, .ifCond .ne 5, 3, []), (7, .iconst (-1), 1, []), (8, .ireturn, 1, []), (9, .iload_n 2, 1, []), (10, .iconst 0, 1, []), (11, .invokestatic 92, 3, [1734]), (14, .istore_n 2, 1, []), (15, .iload_n 3, 1, []), (16, .aload_n 0, 1, []), (17, .arraylength, 1, []), (18, .invokestatic 38, 3, [1735]), (21, .istore_n 3, 1, []), (22, .iload_n 2, 1, []), (23, .iload_n 3, 1, []), (24, .if_icmp .lt 5, 3, []), (27, .iconst (-1), 1, []), (28, .ireturn, 1, []), (29, .aload_n 0, 1, []), (30, .iload_n 1, 1, []), (31, .iload_n 2, 1, []), (32, .iload_n 3, 1, []), (33, .invokestatic 95, 3, [1736]), (36, .ireturn, 1, [])]
def am_e306 : List (Nat × Instr × Nat × List Nat) := [(0, .iload_n 1, 1, []), (1, .i2b, 1, []), (2, .istore 4, 2, []), (4, .iload_n 2, 1, []), (5, .istore 5, 2, []), (7, .iload 5, 2, []), (9, .iload_n 3, 1, []), (10, .if_icmp .ge 21, 3, []), (13, .aload_n 0, 1, []), (14, .iload 5, 2, []), (16, .baload, 1, []), (17, .iload 4, 2, []), (19, .if_icmp .ne 6, 3, []), (22, .iload 5, 2, []), (24, .ireturn, 1, []), (25, .iinc 5 1, 3, []), (28, .goto (-21), 3, []), (31, .iconst (-1), 1, []), (32, .ireturn, 1, [])]
def am_e307 : List (Nat × Instr × Nat × List Nat) := [(0, .aload 6, 2, []), (2, .iconst 0, 1, []), (3, .aload_n 0, 1, []), (4, .iload_n 1, 1, []), (5, .iload_n 2, 1, []), (6, .iload_n 3, 1, []), (7, .iload 4, 2, []), (9, .iload 5, 2, []), (11, .invokevirtual 7, 3, [1018]), (14, .i2l, 1, []), (15, .lastore, 1, []), (16, .goto 7, 3, []), (19, .astore 7, 2, []), (21, .iconst 1, 1, []), (22, .ireturn, 1, []), (23, .iconst 0, 1, []), (24, .ireturn, 1, [])]
def am_e308 : List (Nat × Instr × Nat × List Nat) := [(0, .aload_n 2, 1, []), (1, .iconst 0, 1, []), (2, .aload_n 0, 1, []), (3, .iload_n 1, 1, []), (4, .invokevirtual 15, 3, [1050]), (7, .i2l, 1, []), (8, .lastore, 1, []), (9, .goto 6, 3, []), (12, .astore_n 3, 1, []), (13, .iconst 1, 1, []), (14, .ireturn, 1, []), (15, .iconst 0, 1, []), (16, .ireturn, 1, [])]
def am_e309 : List (Nat × Instr × Nat × List Nat) := [(0, .aload_n 2, 1, []), (1, .iconst 0, 1, []), (2, .aload_n 0, 1, []), (3, .iload_n 1, 1, []), (4, .invokevirtual 21, 3, [1074]), (7, .i2l, 1, []), (8, .lastore, 1, []), (9, .goto 6, 3, []), (12, .astore_n 3, 1, []), (13, .iconst 1, 1, []), (14, .ireturn, 1, []), (15, .iconst 0, 1, []), (16, .ireturn, 1, [])]
def am_e310 : List (Nat × Instr × Nat × List Nat) := [(0, .aload_n 2, 1, []), (1, .iconst 0, 1, []), (2, .aload_n 0, 1, []), (3, .iload_n 1, 1, []), (4, .invokevirtual 26, 3, [1086]), (7, .i2l, 1, []), (8, .lastore, 1, []), (9, .goto 6, 3, []), (12, .astore_n 3, 1, []), (13, .iconst 1, 1, []), (14, .ireturn, 1, []), (15, .iconst 0, 1, []), (16, .ireturn, 1, [])]
def am_e311 : List (Nat × Instr × Nat × List Nat) := [(0, .aload_n 3, 1, []), (1, .iconst 0, 1, []), (2, .aload_n 0, 1, []), (3, .iload_n 1, 1, []), (4, .iload_n 2, 1, []), (5, .invokevirtual 29, 3, [1090]), (8, .i2l, 1, []), (9, .lastore, 1, []), (10, .goto 7, 3, []), (13, .astore 4, 2, []), (15, .iconst 1, 1, []), (16, .ireturn, 1, []), (17, .iconst 0, 1, []), (18, .ireturn, 1, [])]
def am_e312 : List (Nat × Instr × Nat × List Nat) := [(0, .aload_n 2, 1, []), (1, .iconst 0, 1, []), (2, .aload_n 0, 1, []), (3, .iload_n 1, 1, []), (4, .invokevirtual 33, 3, [1094]), (7, .i2l, 1, []), (8, .lastore, 1, []), (9, .goto 9, 3, []), (12, .astore_n 3, 1, []), (13, .iconst 1, 1, []), (14, .ireturn, 1, []), (15, .astore_n 3, 1, []), (16, .iconst 2, 1, []), (17, .ireturn, 1, []), (18, .iconst 0, 1, []), (19, .ireturn, 1, [])]
def am_e313 : List (Nat × Instr × Nat × List Nat) := [(0, .aload_n 2, 1, []), (1, .iconst 0, 1, []), (2, .aload_n 0, 1, []), (3, .iload_n 1, 1, []), (4, .invokevirtual 36, 3, [1326]), (7, .i2l, 1, []), (8, .lastore, 1, []), (9, .goto 9, 3, []), (12, .astore_n 3, 1, []), (13, .iconst 1, 1, []), (14, .ireturn, 1, []), (15, .astore_n 3, 1, []), (16, .iconst 2, 1, []), (17, .ireturn, 1, []), (18, .iconst 0, 1, []), (19, .ireturn, 1, [])]
def am_e314 : List (Nat × Instr × Nat × List Nat) := [(0, .aload_n 1, 1, []), (1, .iconst 0, 1, []), (2, .aload_n 0, 1, []), (3, .invokevirtual 39, 3, [1418]), (6, .i2l, 1, []), (7, .lastore, 1, []), (8, .goto 6, 3, []), (11, .astore_n 2, 1, []), (12, .iconst 1, 1, []), (13, .ireturn, 1, []), (14, .iconst 0, 1, []), (15, .ireturn, 1, [])]
def am_e315 : List (Nat × Instr × Nat × List Nat) := [(0, .aload_n 2, 1, []), (1, .iconst 0, 1, []), (2, .aload_n 0, 1, []), (3, .iload_n 1, 1, []), (4, .invokevirtual 43, 3, [1433]), (7, .i2l, 1, []), (8, .lastore, 1, []), (9, .goto 6, 3, []), (12, .astore_n 3, 1, []), (13, .iconst 1, 1, []), (14, .ireturn, 1, []), (15, .iconst 0, 1, []), (16, .ireturn, 1, [])]
def am_e316 : List (Nat × Instr × Nat × List Nat) := [(0, .aload_n 2, 1, []), (1, .iconst 0, 1, []), (2, .aload_n 0, 1, []), (3, .iload_n 1, 1, []), (4, .invokevirtual 46, 3, [1441]), (7, .i2l, 1, []), (8, .lastore, 1, []), (9, .goto 9, 3, []), (12, .astore_n 3, 1, []), (13, .iconst 1, 1, []), (14, .ireturn, 1, []), (15, .astore_n 3, 1, []), (16, .iconst 2, 1, []), (17, .ireturn, 1, []), (18, .iconst 0, 1, []), (19, .ireturn, 1, [])]
def am_e317 : List (Nat × Instr × Nat × List Nat) := [(0, .aload_n 3, 1, []), (1, .iconst 0, 1, []), (2, .aload_n 0, 1, []), (3, .iload_n 1, 1, []), (4, .iload_n 2, 1, []), (5, .invokevirtual 49, 3, [1452]), (8, .ifCond .eq 7, 3, []), (11, .lconst 1, 1, []), (12, .goto 4, 3, []), (15, .lconst 0, 1, []), (16, .lastore, 1, []), (17, .goto 7, 3, []), (20, .astore 4, 2, []), (22, .iconst 1, 1, []), (23, .ireturn, 1, []), (24, .iconst 0, 1, []), (25, .ireturn, 1, [])]
def am_e318 : List (Nat × Instr × Nat × List Nat) := [(0, .new 8, 3, [176]), (3, .dup, 1, []), (4, .invokespecial 53, 3, [178]), (7, .astore_n 1, 1, []), (8, .new 54, 3, [1457]), (11, .dup, 1, []), (12, .invokespecial 56, 3, [1459]), (15, .astore_n 2, 1, []), (16, .iconst 1, 1, []), (17, .newarray .long, 2, []), (19, .astore_n 3, 1, []), (20, .iconst 0, 1, []), (21, .istore 4, 2, []), (23, .iload 4, 2, []), (25, .aload_n 0, 1, []), (26, .arraylength, 1, []), (27, .bipush 6, 2, []), (29, .isub, 1, []), (30, .if_icmp .gt 907, 3, []), (33, .aload_n 0, 1, []), (34, .iload 4, 2, []), (36, .iaload, 1, []), (37, .bipush 31, 2, []), (39, .iand, 1, []), (40, .tableswitch 891 0 17 #[88, 192, 248, 261, 274, 330, 343, 399, 467, 480, 536, 549, 605, 649, 705, 761, 836, 877], 88, []), (128, .aload_n 1, 1, []), (129, .aload_n 0, 1, []), (130, .iload 4, 2, []), (132, .iconst 1, 1, []), (133, .iadd, 1, []), (134, .iaload, 1, []), (135, .aload_n 0, 1, []), (136, .iload 4, 2, []), (138, .iconst 2, 1, []), (139, .iadd, 1, []), (140, .iaload, 1, []), (141, .aload_n 0, 1, []), (142, .iload 4, 2, []), (144, .iconst 3, 1, []), (145, .iadd, 1, []), (146, .iaload, 1, []), (147, .aload_n 0, 1, []), (148, .iload 4, 2, []), (150, .iconst 4, 1, []), (151, .iadd, 1, []), (152, .iaload, 1, []), (153, .aload_n 0, 1, []), (154, .iload 4, 2, []), (156, .iconst 5, 1, []), (157, .iadd, 1, []), (158, .iaload, 1, []), (159, .aload_n 3, 1, []), (160, .invokestatic 57, 3, [1014]), (163, .istore 5, 2, []), (165, .aload_n 2, 1, []), (166, .aload_n 0, 1, []), (167, .iload 4, 2, []), (169, .iconst 1, 1, []), (170, .iadd, 1, []), (171, .iaload, 1, []), (172, .aload_n 0, 1, []), (173, .iload 4, 2, []), (175, .iconst 2, 1, []), (176, .iadd, 1, []), (177, .iaload, 1, []), (178, .aload_n 0, 1, []), (179, .iload 4, 2, []), (181, .iconst 3, 1, []), (182, .iadd, 1, []), (183, .iaload, 1, []), (184, .aload_n 0, 1, []), (185, .iload 4, 2, []), (187, .iconst 4, 1, []), (188, .iadd, 1, []), (189, .iaload, 1, []), (190, .aload_n 0, 1, []), (191, .iload 4, 2, []), (193, .iconst 5, 1, []), (194, .iadd, 1, []), (195, .iaload, 1, []), (196, .invokevirtual 62, 3, [1657]), (199, .istore 6, 2, []), (201, .aload_n 2, 1, []), (202, .invokevirtual 63, 3, [1653]), (205, .iload 5, 2, []), (207, .if_icmp .eq 5, 3, []), (210, .iconst 0, 1, []), (211, .ireturn, 1, []), (212, .iload 5, 2, []), (214, .ifCond .ne 15, 3, []), (217, .aload_n 3, 1, []), (218, .iconst 0, 1, []), (219, .laload, 1, []), (220, .iload 6, 2, []), (222, .i2l, 1, []), (223, .lcmp, 1, []), (224, .ifCond .eq 5, 3, []), (227, .iconst 0, 1, []), (228, .ireturn, 1, []), (229, .goto 702, 3, []), (232, .aload_n 1, 1, []), (233, .aload_n 0, 1, []), (234, .iload 4, 2, []), (236, .iconst 1, 1, []), (237, .iadd, 1, []), (238, .iaload, 1, []), (239, .aload_n 3, 1, []), (240, .invokestatic 66, 3, [1046]), (243, .istore 5, 2, []), (245, .aload_n 2, 1, []), (246, .aload_n 0, 1, []), (247, .iload 4, 2, []), (249, .iconst 1, 1, []), (250, .iadd, 1, []), (251, .iaload, 1, []), (252, .invokevirtual 69, 3, [1665]), (255, .istore 6, 2, []), (257, .aload_n 2, 1, []), (258, .invokevirtual 63, 3, [1653]), (261, .iload 5, 2, []), (263, .if_icmp .eq 5, 3, []), (266, .iconst 0, 1, []), (267, .ireturn, 1, []), (268, .iload 5, 2, []), (270, .ifCond .ne 15, 3, []), (273, .aload_n 3, 1, []), (274, .iconst 0, 1, []), (275, .laload, 1, []), (276, .iload 6, 2, []), (278, .i2l, 1, []), (279, .lcmp, 1, []), (280, .ifCond .eq 5, 3, []), (283, .iconst 0, 1, []), (284, .ireturn, 1, []), (285, .goto 646, 3, []), (288, .aload_n 1, 1, []), (289, .invokevirtual 70, 3, [533]), (292, .aload_n 2, 1, []), (293, .invokevirtual 73, 3, [1672]), (296, .if_icmp .eq 635, 3, []), (299, .iconst 0, 1, []), (300, .ireturn, 1, []), (301, .aload_n 1, 1, []), (302, .invokevirtual 74, 3, [788]), (305, .aload_n 2, 1, []), (306, .invokevirtual 77, 3, [2037]), (309, .if_icmp .eq 622, 3, []), (312, .iconst 0, 1, []), (313, .ireturn, 1, []), (314, .aload_n 1, 1, []), (315, .aload_n 0, 1, []), (316, .iload 4, 2, []), (318, .iconst 1, 1, []), (319, .iadd, 1, []), (320, .iaload, 1, []), (321, .aload_n 3, 1, []), (322, .invokestatic 78, 3, [1070]), (325, .istore 5, 2, []), (327, .aload_n 2, 1, []), (328, .aload_n 0, 1, []), (329, .iload 4, 2, []), (331, .iconst 1, 1, []), (332, .iadd, 1, []), (333, .iaload, 1, []), (334, .invokevirtual 80, 3, [2041]), (337, .istore 6, 2, []), (339, .aload_n 2, 1, []), (340, .invokevirtual 63, 3, [1653]), (343, .iload 5, 2, []), (345, .if_icmp .eq 5, 3, []), (348, .iconst 0, 1, []), (349, .ireturn, 1, []), (350, .iload 5, 2, []), (352, .ifCond .ne 15, 3, []), (355, .aload_n 3, 1, []), (356, .iconst 0, 1, []), (357, .laload, 1, []), (358, .iload 6, 2, []), (360, .i2l, 1, []), (361, .lcmp, 1, []), (362, .ifCond .eq 5, 3, []), (365, .iconst 0, 1, []), (366, .ireturn, 1, []), (367, .goto 564, 3, []), (370, .aload_n 1, 1, []), (371, .invokevirtual 81, 3, [792]), (374, .aload_n 2, 1, []), (375, .invokevirtual 84, 3, [2045]), (378, .if_icmp .eq 553, 3, []), (381, .iconst 0, 1, []), (382, .ireturn, 1, []), (383, .aload_n 1, 1, []), (384, .aload_n 0, 1, []), (385, .iload 4, 2, []), (387, .iconst 1, 1, []), (388, .iadd, 1, []), (389, .iaload, 1, []), (390, .aload_n 3, 1, []), (391, .invokestatic 85, 3, [1083]), (394, .istore 5, 2, []), (396, .aload_n 2, 1, []), (397, .aload_n 0, 1, []), (398, .iload 4, 2, []), (400, .iconst 1, 1, []), (401, .iadd, 1, []), (402, .iaload, 1, []), (403, .invokevirtual 87, 3, [2049]), (406, .istore 6, 2, []), (408, .aload_n 2, 1, []), (409, .invokevirtual 63, 3, [1653]), (412, .iload 5, 2, []), (414, .if_icmp .eq 5, 3, []), (417, .iconst 0, 1, []), (418, .ireturn, 1, []), (419, .iload 5, 2, []), (421, .ifCond .ne 15, 3, []), (424, .aload_n 3, 1, []), (425, .iconst 0, 1, []), (426, .laload, 1, []), (427, .iload 6, 2, []), (429, .i2l, 1, []), (430, .lcmp, 1, []), (431, .ifCond .eq 5, 3, []), (434, .iconst 0, 1, []), (435, .ireturn, 1, []), (436, .goto 495, 3, []), (439, .aload_n 1, 1, []), (440, .aload_n 0, 1, []), (441, .iload 4, 2, []), (443, .iconst 1, 1, []), (444, .iadd, 1, []), (445, .iaload, 1, []), (446, .aload_n 0, 1, []), (447, .iload 4, 2, []), (449, .iconst 2, 1, []), (450, .iadd, 1, []), (451, .iaload, 1, []), (452, .aload_n 3, 1, []), (453, .invokestatic 88, 3, [1087]), (456, .istore 5, 2, []), (458, .aload_n 2, 1, []), (459, .aload_n 0, 1, []), (460, .iload 4, 2, []), (462, .iconst 1, 1, []), (463, .iadd, 1, []), (464, .iaload, 1, []), (465, .aload_n 0, 1, []), (466, .iload 4, 2, []), (468, .iconst 2, 1, []), (469, .iadd, 1, []), (470, .iaload, 1, []), (471, .invokevirtual 91, 3, [2074]), (474, .istore 6, 2, []), (476, .aload_n 2, 1, []), (477, .invokevirtual 63, 3, [1653]), (480, .iload 5, 2, []), (482, .if_icmp .eq 5, 3, []), (485, .iconst 0, 1, []), (486, .ireturn, 1, []), (487, .iload 5, 2, []), (489, .ifCond .ne 15, 3, []), (492, .aload_n 3, 1, []), (493, .iconst 0, 1, []), (494, .laload, 1, []), (495, .iload 6, 2, []), (497, .i2l, 1, []), (498, .lcmp, 1, []), (499, .ifCond .eq 5, 3, []), (502, .iconst 0, 1, []), (503, .ireturn, 1, []), (504, .goto 427, 3, []), (507, .aload_n 1, 1, []), (508, .invokevirtual 92, 3, [796]), (511, .aload_n 2, 1, []), (512, .invokevirtual 95, 3, [2082]), (515, .if_icmp .eq 416, 3, []), (518, .iconst 0, 1, []), (519, .ireturn, 1, []), (520, .aload_n 1, 1, []), (521, .aload_n 0, 1, []), (522, .iload 4, 2, []), (524, .iconst 1, 1, []), (525, .iadd, 1, []), (526, .iaload, 1, []), (527, .aload_n 3, 1, []), (528, .invokestatic 96, 3, [1091]), (531, .istore 5, 2, []), (533, .aload_n 2, 1, []), (534, .aload_n 0, 1, []), (535, .iload 4, 2, []), (537, .iconst 1, 1, []), (538, .iadd, 1, []), (539, .iaload, 1, []), (540, .invokevirtual 98, 3, [2113]), (543, .istore 6, 2, []), (545, .aload_n 2, 1, []), (546, .invokevirtual 63, 3, [1653]), (549, .iload 5, 2, []), (551, .if_icmp .eq 5, 3, []), (554, .iconst 0, 1, []), (555, .ireturn, 1, []), (556, .iload 5, 2, []), (558, .ifCond .ne 15, 3, []), (561, .aload_n 3, 1, []), (562, .iconst 0, 1, []), (563, .laload, 1, []), (564, .iload 6, 2, []), (566, .i2l, 1, []), (567, .lcmp, 1, []), (568, .ifCond .eq 5, 3, []), (571, .iconst 0, 1, []), (572, .ireturn, 1, []), (573, .goto 358, 3, []), (576, .aload_n 1, 1, []), (577, .invokevirtual 99, 3, [848]), (580, .aload_n 2, 1, []), (581, .invokevirtual 102, 3, [2225]), (584, .if_icmp .eq 347, 3, []), (587, .iconst 0, 1, []), (588, .ireturn, 1, []), (589, .aload_n 1, 1, []), (590, .aload_n 0, 1, []), (591, .iload 4, 2, []), (593, .iconst 1, 1, []), (594, .iadd, 1, []), (595, .iaload, 1, []), (596, .aload_n 3, 1, []), (597, .invokestatic 103, 3, [1323]), (600, .istore 5, 2, []), (602, .aload_n 2, 1, []), (603, .aload_n 0, 1, []), (604, .iload 4, 2, []), (606, .iconst 1, 1, []), (607, .iadd, 1, []), (608, .iaload, 1, []), (609, .invokevirtual 105, 3, [2229]), (612, .istore 6, 2, []), (614, .aload_n 2, 1, []), (615, .invokevirtual 63, 3, [1653]), (618, .iload 5, 2, []), (620, .if_icmp .eq 5, 3, []), (623, .iconst 0, 1, []), (624, .ireturn, 1, []), (625, .iload 5, 2, []), (627, .ifCond .ne 15, 3, []), (630, .aload_n 3, 1, []), (631, .iconst 0, 1, []), (632, .laload, 1, []), (633, .iload 6, 2, []), (635, .i2l, 1, []), (636, .lcmp, 1, []), (637, .ifCond .eq 5, 3, []), (640, .iconst 0, 1, []), (641, .ireturn, 1, []), (642, .goto 289, 3, []), (645, .aload_n 1, 1, []), (646, .aload_n 3, 1, []), (647, .invokestatic 106, 3, [1415]), (650, .istore 5, 2, []), (652, .aload_n 2, 1, []), (653, .invokevirtual 109, 3, [2289]), (656, .istore 6, 2, []), (658, .aload_n 2, 1, []), (659, .invokevirtual 63, 3, [1653]), (662, .iload 5, 2, []), (664, .if_icmp .eq 5, 3, []), (667, .iconst 0, 1, []), (668, .ireturn, 1, []), (669, .iload 5, 2, []), (671, .ifCond .ne 15, 3, []), (674, .aload_n 3, 1, []), (675, .iconst 0, 1, []), (676, .laload, 1, []), (677, .iload 6, 2, []), (679, .i2l, 1, []), (680, .lcmp, 1, []), (681, .ifCond .eq 5, 3, []), (684, .iconst 0, 1, []), (685, .ireturn, 1, []), (686, .goto 245, 3, []), (689, .aload_n 1, 1, []), (690, .aload_n 0, 1, []), (691, .iload 4, 2, []), (693, .iconst 1, 1, []), (694, .iadd, 1, []), (695, .iaload, 1, []), (696, .aload_n 3, 1, []), (697, .invokestatic 110, 3, [1430]), (700, .istore 5, 2, []), (702, .aload_n 2, 1, []), (703, .aload_n 0, 1, []), (704, .iload 4, 2, []), (706, .iconst 1, 1, []), (707, .iadd, 1, []), (708, .iaload, 1, []), (709, .invokevirtual 112, 3, [2300]), (712, .istore 6, 2, []), (714, .aload_n 2, 1, []), (715, .invokevirtual 63, 3, [1653]), (718, .iload 5, 2, []), (720, .if_icmp .eq 5, 3, []), (723, .iconst 0, 1, []), (724, .ireturn, 1, []), (725, .iload 5, 2, []), (727, .ifCond .ne 15, 3, []), (730, .aload_n 3, 1, []), (731, .iconst 0, 1, []), (732, .laload, 1, []), (733, .iload 6, 2, []), (735, .i2l, 1, []), (736, .lcmp, 1, []), (737, .ifCond .eq 5, 3, []), (740, .iconst 0, 1, []), (741, .ireturn, 1, []), (742, .goto 189, 3, []), (745, .aload_n 1, 1, []), (746, .aload_n 0, 1, []), (747, .iload 4, 2, []), (749, .iconst 1, 1, []), (750, .iadd, 1, []), (751, .iaload, 1, []), (752, .aload_n 3, 1, []), (753, .invokestatic 113, 3, [1438]), (756, .istore 5, 2, []), (758, .aload_n 2, 1, []), (759, .aload_n 0, 1, []), (760, .iload 4, 2, []), (762, .iconst 1, 1, []), (763, .iadd, 1, []), (764, .iaload, 1, []), (765, .invokevirtual 115, 3, [2304]), (768, .istore 6, 2, []), (770, .aload_n 2, 1, []), (771, .invokevirtual 63, 3, [1653]), (774, .iload 5, 2, []), (776, .if_icmp .eq 5, 3, []), (779, .iconst 0, 1, []), (780, .ireturn, 1, []), (781, .iload 5, 2, []), (783, .ifCond .ne 15, 3, []), (786, .aload_n 3, 1, []), (787, .iconst 0, 1, []), (788, .laload, 1, []), (789, .iload 6, 2, []), (791, .i2l, 1, []), (792, .lcmp, 1, []), (793, .ifCond .eq 5, 3, []), (796, .iconst 0, 1, []), (797, .ireturn, 1, []), (798, .goto 133, 3, []), (801, .aload_n 1, 1, []), (802, .aload_n 0, 1, []), (803, .iload 4, 2, []), (805, .iconst 1, 1, []), (806, .iadd, 1, []), (807, .iaload, 1, []), (808, .aload_n 0, 1, []), (809, .iload 4, 2, []), (811, .iconst 2, 1, []), (812, .iadd, 1, []), (813, .iaload, 1, []), (814, .aload_n 3, 1, []), (815, .invokestatic 116, 3, [1449]), (818, .istore 5, 2, []), (820, .aload_n 2, 1, []), (821, .aload_n 0, 1, []), (822, .iload 4, 2, []), (824, .iconst 1, 1, []), (825, .iadd, 1, []), (826, .iaload, 1, []), (827, .aload_n 0, 1, []), (828, .iload 4, 2, []), (830, .iconst 2, 1, []), (831, .iadd, 1, []), (832, .iaload, 1, []), (833, .invokevirtual 118, 3, [2308]), (836, .istore 6, 2, []), (838, .aload_n 2, 1, []), (839, .invokevirtual 63, 3, [1653]), (842, .iload 5, 2, []), (844, .if_icmp .eq 5, 3, []), (847, .iconst 0, 1, []), (848, .ireturn, 1, []), (849, .iload 5, 2, []), (851, .ifCond .ne 22, 3, []), (854, .aload_n 3, 1, []), (855, .iconst 0, 1, []), (856, .laload, 1, []), (857, .iload 6, 2, []), (859, .ifCond .eq 7, 3, []), (862, .lconst 1, 1, []), (863, .goto 4, 3, []), (866, .lconst 0, 1, []), (867, .lcmp, 1, []), (868, .ifCond .eq 5, 3, []), (871, .iconst 0, 1, []), (872, .ireturn, 1, []), (873, .goto 58, 3, []), (876, .aload_n 1, 1, []), (877, .invokevirtual 119, 3, [856]), (880, .dstore 5, 2, []), (882, .aload_n 2, 1, []), (883, .invokevirtual 123, 3, [2312]), (886, .dstore 7, 2, []), (888, .dload 5, 2, []), (890, .dload 7, 2, []), (892, .dcmp .l, 1, []), (893, .ifCond .eq 21, 3, []), (896, .dload 5, 2, []), (898, .dload 5, 2, []), (900, .dcmp .l, 1, []), (901, .ifCond .eq 11, 3, []), (904, .dload 7, 2, []), (906, .dload 7, 2, []), (908, .dcmp .l, 1, []), (909, .ifCond .ne 5, 3, []), (912, .iconst 0, 1, []), (913, .ireturn, 1, []), (914, .goto 17, 3, []), (917, .aload_n 1, 1, []), (918, .invokevirtual 124, 3, [872]), (921, .aload_n 2, 1, []), (922, .invokevirtual 128, 3, [2316]), (925, .lcmp, 1, []), (926, .ifCond .eq 5, 3, []), (929, .iconst 0, 1, []), (930, .ireturn, 1, []), (931, .iinc 4 6, 3, []), (934, .goto (-911), 3, []), (937, .iconst 1, 1, []), (938, .ireturn, 1, [])]
def am_certs : List (List (Nat × Instr × Nat × List Nat)) := [am_e0, am_e1, am_e2, am_e3, am_e4, am_e5, am_e6, am_e7, am_e8, am_e9, am_e10, am_e11, am_e12, am_e13, am_e14, am_e15, am_e16, am_e17, am_e18, am_e19, am_e20, am_e21, am_e22, am_e23, am_e24, am_e25, am_e26, am_e27, am_e28, am_e29, am_e30, am_e31, am_e32, am_e33, am_e34, am_e35, am_e36, am_e37, am_e38, am_e39, am_e40, am_e41, am_e42, am_e43, am_e44, am_e45, am_e46, am_e47, am_e48, am_e49, am_e50, am_e51, am_e52, am_e53, am_e54, am_e55, am_e56, am_e57, am_e58, am_e59, am_e60, am_e61, am_e62, am_e63, am_e64, am_e65, am_e66, am_e67, am_e68, am_e69, am_e70, am_e71, am_e72, am_e73, am_e74, am_e75, am_e76, am_e77, am_e78, am_e79, am_e80, am_e81, am_e82, am_e83, am_e84, am_e85, am_e86, am_e87, am_e88, am_e89, am_e90, am_e91, am_e92, am_e93, am_e94, am_e95, am_e96, am_e97, am_e98, am_e99, am_e100, am_e101, am_e102, am_e103, am_e104, am_e105, am_e106, am_e107, am_e108, am_e109, am_e110, am_e111, am_e112, am_e113, am_e114, am_e115, am_e116, am_e117, am_e118, am_e119, am_e120, am_e121, am_e122, am_e123, am_e124, am_e125, am_e126, am_e127, am_e128, am_e129, am_e130, am_e131, am_e132, am_e133, am_e134, am_e135, am_e136, am_e137, am_e138, am_e139, am_e140, am_e141, am_e142, am_e143, am_e144, am_e145, am_e146, am_e147, am_e148, am_e149, am_e150, am_e151, am_e152, am_e153, am_e154, am_e155, am_e156, am_e157, am_e158, am_e159, am_e160, am_e161, am_e162, am_e163, am_e164, am_e165, am_e166, am_e167, am_e168, am_e169, am_e170, am_e171, am_e172, am_e173, am_e174, am_e175, am_e176, am_e177, am_e178, am_e179, am_e180, am_e181, am_e182, am_e183, am_e184, am_e185, am_e186, am_e187, am_e188, am_e189, am_e190, am_e191, am_e192, am_e193, am_e194, am_e195, am_e196, am_e197, am_e198, am_e199, am_e200, am_e201, am_e202, am_e203, am_e204, am_e205, am_e206, am_e207, am_e208, am_e209, am_e210, am_e211, am_e212, am_e213, am_e214, am_e215, am_e216, am_e217, am_e218, am_e219, am_e220, am_e221, am_e222, am_e223, am_e224, am_e225, am_e226, am_e227, am_e228, am_e229, am_e230, am_e231, am_e232, am_e233, am_e234, am_e235, am_e236, am_e237, am_e238, am_e239, am_e240, am_e241, am_e242, am_e243, am_e244, am_e245, am_e246, am_e247, am_e248, am_e249, am_e250, am_e251, am_e252, am_e253, am_e254, am_e255, am_e256, am_e257, am_e258, am_e259, am_e260, am_e261, am_e262, am_e263, am_e264, am_e265, am_e266, am_e267, am_e268, am_e269, am_e270, am_e271, am_e272, am_e273, am_e274, am_e275, am_e276, am_e277, am_e278, am_e279, am_e280, am_e281, am_e282, am_e283, am_e284, am_e285, am_e286, am_e287, am_e288, am_e289, am_e290, am_e291, am_e292, am_e293, am_e294, am_e295, am_e296, am_e297, am_e298, am_e299, am_e300, am_e301, am_e302, am_e303, am_e304, am_e305, am_e306, am_e307, am_e308, am_e309, am_e310, am_e311, am_e312, am_e313, am_e314, am_e315, am_e316, am_e317, am_e318]
def am_mls : List Nat := [1, 1, 2, 2, 2, 3, 2, 3, 1, 5, 6, 5, 2, 11, 8, 5, 2, 1, 2, 4, 2, 8, 4, 3, 2, 5, 1, 2, 2, 2, 2, 2, 2, 2, 2, 4, 6, 2, 2, 2, 2, 2, 2, 3, 4, 3, 3, 2, 1, 1, 1, 2, 4, 5, 1, 2, 2, 2, 7, 6, 6, 2, 5, 3, 8, 4, 7, 2, 2, 2, 1, 1, 1, 2, 1, 2, 1, 5, 3, 2, 5, 2, 5, 5, 4, 8, 5, 7, 3, 2, 3, 1, 4, 1, 1, 1, 2, 1, 4, 1, 1, 1, 1, 1, 4, 4, 1, 7, 1, 5, 10, 3, 6, 1, 4, 8, 4, 1, 1, 1, 3, 2, 2, 2, 1, 4, 2, 3, 3, 2, 2, 2, 3, 3, 3, 3, 5, 2, 2, 3, 3, 4, 1, 4, 9, 2, 2, 2, 2, 5, 3, 5, 5, 2, 5, 5, 1, 1, 1, 3, 6, 6, 1, 6, 2, 1, 1, 2, 1, 2, 4, 2, 2, 2, 1, 2, 2, 2, 3, 3, 2, 5, 2, 3, 1, 1, 1, 2, 3, 12, 2, 2, 1, 1, 1, 4, 6, 5, 5, 2, 5, 4, 2, 1, 2, 1, 1, 1, 3, 2, 2, 3, 4, 2, 2, 2, 2, 2, 6, 6, 7, 4, 4, 3, 6, 6, 4, 5, 1, 3, 5, 1, 1, 3, 1, 1, 1, 2, 5, 3, 2, 2, 3, 3, 6, 7, 3, 3, 3, 2, 7, 3, 3, 9, 3, 3, 3, 1, 11, 4, 3, 5, 12, 8, 8, 3, 4, 7, 4, 10, 6, 6, 4, 6, 3, 4, 3, 1, 2, 3, 1, 5, 3, 4, 2, 3, 7, 2, 3, 5, 4, 4, 2, 3, 3, 1, 5, 1, 2, 2, 3, 1, 1, 2, 1, 4, 6, 8, 4, 4, 4, 5, 4, 4, 3, 4, 4, 5, 9]
def am_rts : List (Option FieldType) := [none, some .int, some .int, some .boolean, none, none, none, some .boolean, some .int, some .boolean, some .boolean, some .boolean, none, some .boolean, some .boolean, some .int, none, none, none, none, none, some .int, none, some .int, some .boolean, none, some .int, some .int, some .int, some .int, some .int, some .int, some .int, some .int, none, some .int, some .int, some .int, some .int, some .long, some .int, some .int, some .int, some .boolean, some .boolean, none, some .int, some .int, some .int, some .int, none, none, none, some .int, some .int, some .int, some .int, some .int, some .int, some .int, some .int, some .int, some .int, some .int, some .int, some .int, some .int, none, none, none, none, none, none, none, some .int, some .int, none, some .boolean, none, none, none, none, none, none, none, none, none, none, some .int, none, none, some .boolean, none, none, none, some .boolean, some .boolean, some .int, some .int, some .int, some .int, some .int, some .int, some .int, some .int, none, some .boolean, none, some .boolean, some .boolean, some .boolean, some .boolean, some .boolean, some .boolean, none, some .int, some .int, none, some .int, some .boolean, none, none, some .int, none, none, none, some .int, some .int, some .int, some .int, some .long, some .boolean, some .boolean, some .int, some .int, some .int, some .int, some .boolean, some .boolean, some .int, some .int, none, some .int, none, some .boolean, none, some .int, some .int, some .long, none, some .int, some .int, some .int, some .int, some .int, some .int, some .boolean, some .boolean, some .boolean, some .int, some .long, some .int, none, some .int, some .int, some .int, some .int, some .int, some .int, some .int, some .int, some .int, some .int, some .int, some .int, some .int, some .int, some .int, some .int, some .boolean, some .double, some .long, some .int, none, none, none, some .int, some .int, some .boolean, some .int, some .int, some .int, some .boolean, some .boolean, some .boolean, some .int, none, some .boolean, some .int, some .boolean, some .long, some .int, some .boolean, some .boolean, some .boolean, some .boolean, some .boolean, some .boolean, some .boolean, some .boolean, some .boolean, some .boolean, some .int, some .boolean, some .boolean, some .boolean, some .boolean, none, some .int, some .int, some .int, some .int, some .int, some .int, some .int, some .int, some .int, some .int, none, some .int, some .int, some .int, some .int, some .int, some .int, some .long, some .int, some .boolean, some .int, some .int, some .int, some .int, some .int, some .int, some .int, some .int, some .int, some .int, none, none, some .boolean, some .int, none, some .boolean, some .boolean, some .boolean, some .int, some .int, some .int, some .int, some .int, some .int, some .int, some .int, none, some .boolean, some .int, some .boolean, none, some .boolean, none, some .boolean, some .boolean, some .boolean, none, none, some .int, some .int, none, none, some .boolean, none, none, none, some .boolean, none, none, some .boolean, some .int, some .int, none, some .int, some .int, some .int, some .boolean, some .double, some .long, some .int, some .char, some .int, some .int, some .byte, some .boolean, some .char, some .boolean, some .int, some .int, some .int, some .int, some .int, some .int, some .int, some .int, some .int, some .int, some .int, some .int, some .int, some .boolean]
def am_mws : List (List Nat) := [[325, 156, 324], [1176, 156, 1174, 1175], [1192, 156, 1190, 1191], [1188, 156, 1186, 1187], [1180, 156, 1178, 1179], [1196, 156, 1194, 1195], [390, 159, 389], [1262, 159, 1260, 1261], [1314, 159, 1312, 1313], [1266, 159, 1265, 46], [1277, 159, 1276, 47], [1299, 159, 1298, 48], [364, 157, 363], [1137, 157, 1135, 1136], [1145, 157, 1144, 39], [1162, 157, 1161, 40], [202, 152, 201], [540, 152, 538, 539], [771, 152, 769, 770], [1082, 152, 1080, 1081], [646, 152, 644, 645], [671, 152, 669, 670], [695, 152, 693, 694], [712, 152, 710, 711], [743, 152, 741, 742], [760, 152, 758, 759], [620, 152, 618, 619], [635, 152, 633, 634], [1133, 152, 1131, 1132], [825, 152, 823, 824], [1000, 152, 998, 999], [1004, 152, 1002, 1003], [913, 152, 911, 912], [1009, 152, 1007, 1008], [1243, 152, 1241, 1242], [886, 152, 884, 885], [890, 152, 888, 889], [1154, 152, 1152, 1153], [1158, 152, 1156, 1157], [1295, 152, 1293, 1294], [1221, 152, 1219, 1220], [842, 152, 840, 841], [1184, 152, 1182, 1183], [897, 152, 895, 896], [747, 152, 745, 746], [256, 153, 255], [548, 153, 546, 547], [803, 153, 801, 802], [779, 153, 777, 778], [767, 153, 766, 31], [552, 153, 551, 0], [642, 153, 641, 11], [624, 153, 623, 9], [717, 153, 716, 24], [721, 153, 720, 25], [725, 153, 724, 26], [729, 153, 728, 27], [734, 153, 733, 28], [739, 153, 738, 29], [687, 153, 686, 19], [691, 153, 690, 20], [654, 153, 653, 13], [658, 153, 657, 14], [675, 153, 674, 16], [679, 153, 678, 17], [703, 153, 702, 22], [708, 153, 707, 23], [683, 153, 682, 18], [699, 153, 698, 21], [756, 153, 755, 30], [667, 153, 666, 15], [650, 153, 649, 12], [628, 153, 627, 10], [475, 160, 474], [905, 160, 903, 904], [1013, 160, 1011, 1012], [1429, 160, 1427, 1428], [1340, 160, 1338, 1339], [1354, 160, 1353, 53], [1359, 160, 1358, 54], [1380, 160, 1379, 58], [1399, 160, 1398, 61], [1407, 160, 1406, 63], [1403, 160, 1402, 62], [1412, 160, 1411, 64], [1395, 160, 1394, 60], [1386, 160, 1385, 59], [1372, 160, 1371, 57], [1368, 160, 1367, 56], [1364, 160, 1363, 55], [1344, 160, 1343, 51], [1348, 160, 1347, 52], [384, 158, 383], [807, 158, 805, 806], [544, 158, 542, 543], [867, 158, 865, 866], [1333, 158, 1331, 1332], [909, 158, 907, 908], [917, 158, 915, 916], [871, 158, 869, 870], [863, 158, 861, 862], [922, 158, 920, 921], [855, 158, 853, 854], [1425, 158, 1423, 1424], [1104, 158, 1102, 1103], [1108, 158, 1107, 36], [1112, 158, 1111, 37], [1116, 158, 1115, 38], [1230, 158, 1229, 41], [1247, 158, 1246, 44], [1234, 158, 1233, 42], [1258, 158, 1257, 45], [1322, 158, 1321, 50], [1310, 158, 1309, 49], [1239, 158, 1238, 43], [829, 158, 828, 33], [846, 158, 845, 34], [188, 151, 187], [901, 151, 899, 900], [1025, 151, 1023, 1024], [1045, 151, 1043, 1044], [787, 151, 785, 786], [564, 151, 562, 563], [319, 155, 318], [811, 155, 809, 810], [815, 155, 813, 814], [1129, 155, 1127, 1128], [820, 155, 818, 819], [837, 155, 835, 836], [1252, 155, 1250, 1251], [1291, 155, 1289, 1290], [1283, 155, 1281, 1282], [1212, 155, 1210, 1211], [1217, 155, 1215, 1216], [833, 155, 831, 832], [1270, 155, 1268, 1269], [1149, 155, 1147, 1148], [1168, 155, 1166, 1167], [1204, 155, 1202, 1203], [1208, 155, 1206, 1207], [1318, 155, 1316, 1317], [1200, 155, 1198, 1199], [1141, 155, 1139, 1140], [1120, 155, 1118, 1119], [1172, 155, 1170, 1171], [262, 154, 261], [615, 154, 613, 614], [783, 154, 781, 782], [662, 154, 660, 661], [556, 154, 554, 555], [560, 154, 559, 1], [568, 154, 567, 2], [587, 154, 586, 5], [598, 154, 597], [579, 154, 578, 4], [608, 154, 607, 8], [611, 154, 610], [583, 154, 582], [575, 154, 574], [591, 154, 590, 6], [595, 154, 594, 7], [572, 154, 571, 3], [180, 150, 179], [1021, 150, 1019, 1020], [1053, 150, 1051, 1052], [536, 150, 534, 535], [791, 150, 789, 790], [1077, 150, 1075, 1076], [795, 150, 793, 794], [881, 150, 879, 880], [994, 150, 992, 993], [775, 150, 774, 32], [799, 150, 797, 798], [1097, 150, 1095, 1096], [851, 150, 849, 850], [1329, 150, 1327, 1328], [1421, 150, 1419, 1420], [1436, 150, 1434, 1435], [1444, 150, 1442, 1443], [1455, 150, 1453, 1454], [859, 150, 857, 858], [875, 150, 873, 874], [638, 150, 637], [763, 150, 762], [1912, 173, 1911], [1461, 161, 1460], [1656, 161, 1654, 1655], [1664, 161, 1663, 65], [1671, 161, 1670], [1660, 161, 1658, 1659], [1668, 161, 1666, 1667], [1691, 161, 1690, 69], [1694, 161, 1693], [1700, 161, 1699], [1697, 161, 1696], [1704, 161, 1703, 70], [1687, 161, 1686, 68], [1810, 161, 1809, 75], [1806, 161, 1805, 74], [1800, 161, 1799, 73], [2004, 161, 2003, 95], [2014, 161, 2013, 97], [1840, 161, 1839, 77], [1835, 161, 1834, 76], [1852, 161, 1851, 80], [1792, 161, 1791, 71], [1796, 161, 1795, 72], [2089, 161, 2088, 106], [1848, 161, 1847, 79], [1844, 161, 1843, 78], [1883, 161, 1882, 85], [1887, 161, 1886, 86], [1898, 161, 1897, 87], [1856, 161, 1855, 81], [1860, 161, 1859, 82], [1864, 161, 1863, 83], [1871, 161, 1870, 84], [1907, 161, 1906, 89], [2010, 161, 2009, 96], [2024, 161, 2023, 99], [2000, 161, 1999, 94], [1988, 161, 1987, 91], [1992, 161, 1991, 92], [1996, 161, 1995, 93], [1984, 161, 1983, 90], [2018, 161, 2017, 98], [2032, 161, 2031, 100], [2036, 161, 2035, 101], [1683, 161, 1682, 67], [1903, 161, 1902, 88], [1679, 161, 1678, 66], [1675, 161, 1673, 1674], [2040, 161, 2038, 2039], [2044, 161, 2042, 2043], [2048, 161, 2046, 2047], [2066, 161, 2065], [2069, 161, 2068], [2063, 161, 2062], [2060, 161, 2059, 103], [2073, 161, 2072, 104], [2056, 161, 2055, 102], [2052, 161, 2050, 2051], [2081, 161, 2080, 105], [2077, 161, 2075, 2076], [2093, 161, 2092, 107], [2112, 161, 2111, 110], [2144, 161, 2143, 117], [2156, 161, 2155, 120], [2160, 161, 2159, 121], [2124, 161, 2123, 112], [2152, 161, 2151, 119], [2148, 161, 2147, 118], [2164, 161, 2163, 122], [2140, 161, 2139, 116], [2136, 161, 2135, 115], [2204, 161, 2203, 132], [2208, 161, 2207, 133], [2220, 161, 2219, 136], [2212, 161, 2211, 134], [2216, 161, 2215, 135], [2085, 161, 2083, 2084], [2108, 161, 2107, 109], [2104, 161, 2103, 108], [2200, 161, 2199, 131], [2196, 161, 2195, 130], [2172, 161, 2171, 124], [2168, 161, 2167, 123], [2132, 161, 2131, 114], [2184, 161, 2183, 127], [2192, 161, 2191, 129], [2180, 161, 2179, 126], [2128, 161, 2127, 113], [2224, 161, 2223, 137], [2188, 161, 2187, 128], [2176, 161, 2175, 125], [2120, 161, 2119, 111], [2116, 161, 2114, 2115], [2228, 161, 2226, 2227], [2252, 161, 2251, 142], [2271, 161, 2270, 145], [2244, 161, 2243, 140], [2248, 161, 2247, 141], [2261, 161, 2260, 143], [2281, 161, 2280, 146], [2274, 161, 2273], [2266, 161, 2265, 144], [2240, 161, 2239, 139], [2236, 161, 2235, 138], [2285, 161, 2284, 147], [2232, 161, 2230, 2231], [2296, 161, 2295, 148], [2292, 161, 2290, 2291], [2303, 161, 2301, 2302], [2307, 161, 2305, 2306], [2311, 161, 2309, 2310], [2315, 161, 2313, 2314], [2319, 161, 2317, 2318], [1723, 168, 1721, 1722], [1815, 168, 1813, 1814], [1709, 168, 1707, 1708], [1713, 168, 1711, 1712], [1727, 168, 1725, 1726], [1717, 168, 1715, 1716], [1818, 169, 1817], [1733, 169, 1732], [1730, 169, 1729], [1738, 169, 1737], [1016, 149, 1015], [1048, 149, 1047], [1072, 149, 1071], [1085, 149, 1084], [1089, 149, 1088], [1093, 149, 1092], [1325, 149, 1324], [1417, 149, 1416], [1432, 149, 1431], [1440, 149, 1439], [1451, 149, 1450], []]
def am_hhs : List (List (Nat × Nat × Nat × Nat)) := [[], [], [], [], [], [], [], [], [], [], [], [], [], [], [], [], [], [], [], [], [], [], [], [], [], [], [], [], [], [], [], [], [], [], [], [], [], [], [], [], [], [], [], [], [], [], [], [], [], [], [], [], [], [], [], [], [], [], [], [], [], [], [], [], [], [], [], [], [], [], [], [], [], [], [], [], [], [], [], [], [], [], [], [], [], [], [], [], [], [], [], [], [], [], [], [], [], [], [], [], [], [], [], [], [], [], [], [], [], [], [], [], [], [], [], [], [], [], [], [], [], [], [], [], [], [], [], [], [], [], [], [], [], [], [], [], [], [], [], [], [], [], [], [], [], [], [], [], [], [], [], [], [], [], [], [], [], [], [], [], [], [], [], [], [], [], [], [], [], [], [], [], [], [], [], [], [], [], [], [], [], [], [], [], [], [], [], [], [], [], [], [], [], [], [], [], [], [], [], [], [], [], [], [], [], [], [], [], [], [], [], [], [], [], [], [], [], [], [], [], [], [], [], [], [], [], [], [], [], [], [], [], [], [], [], [], [], [], [], [], [], [], [], [], [], [], [], [], [], [], [], [], [], [], [], [], [], [], [], [], [], [], [], [], [], [], [], [], [], [], [], [], [], [], [], [], [], [], [], [], [], [], [], [], [], [], [], [], [], [], [], [], [], [], [], [], [], [], [], [], [], [], [], [], [], [], [], [(0, 16, 19, 13)], [(0, 9, 12, 19)], [(0, 9, 12, 24)], [(0, 9, 12, 24)], [(0, 10, 13, 24)], [(0, 9, 12, 19), (0, 9, 15, 13)], [(0, 9, 12, 24), (0, 9, 15, 13)], [(0, 8, 11, 13)], [(0, 9, 12, 24)], [(0, 9, 12, 24), (0, 9, 15, 13)], [(0, 17, 20, 24)], []]
theorem am_wtrue : True := trivial
abbrev AmE : Type := Nat × Instr × Nat × List Nat
def am_y (j : Nat) : MethodName := am_ys.getD j ⟨"", "", ""⟩
def am_b (j : Nat) : ByteArray := am_bs.getD j ⟨#[]⟩
def am_ml (j : Nat) : Nat := am_mls.getD j 0
def am_rt (j : Nat) : Option FieldType := am_rts.getD j none
def am_hh (j : Nat) : List (Nat × Nat × Nat × Nat) := am_hhs.getD j []
def am_own (j : Nat) : String := (am_y j).cls
def am_e (j n : Nat) : AmE := (am_certs.getD j []).getD n (0, .nop, 0, [])
def am_pc (j n : Nat) : Nat := (am_e j n).1
/-- the words that every method takes along: those of the tables that stay -/
def am_T : List Cond := lw_tbl.filter goodWord
/-- the tables, in the pieces in which they are printed: (place, word) -/
def am_tks : List (List Cond) := [tables_1_1, tables_1_2, tables_1_3, tables_1_4, tables_1_5, tables_1_6, tables_1_7, tables_1_8, tables_1_9, tables_1_10]
def am_lw (i : Nat) : Option Cond := cond (Nat.blt i 149) (k2_sels lw_privs)[i]? (am_tks.getD ((i - 149) / 240) [])[(i - 149) % 240]?
theorem am_tks_in : ∀ t ∈ am_tks, ∀ w ∈ t, w ∈ lw_tbl := by
  intro t ht w hw
  refine List.mem_append_right _ ?_
  simp only [am_tks, List.mem_cons, List.not_mem_nil, or_false] at ht
  simp only [tables_1, List.mem_append]
  rcases ht with h | h | h | h | h | h | h | h | h | h <;> subst h <;> simp only [hw, true_or, or_true]
theorem am_lw_in {i : Nat} {w : Cond} (h : am_lw i = some w) : w ∈ lw_tbl := by
  unfold am_lw at h
  cases hb : Nat.blt i 149 <;> simp only [hb, cond_true, cond_false] at h
  · rw [List.getD_eq_getElem?_getD] at h
    cases hg : am_tks[(i - 149) / 240]? with
    | none => rw [hg] at h; simp at h
    | some t =>
      rw [hg] at h
      exact am_tks_in t (List.mem_of_getElem? hg) w (List.mem_of_getElem? h)
  · exact List.mem_append_left _ (List.mem_of_getElem? h)
def am_w (i : Nat) (w : Cond) : Bool := decide (am_lw i = some w) && goodWord w
theorem am_w_in {i : Nat} {w : Cond} (h : am_w i w = true) : w ∈ am_T := by
  simp only [am_w, Bool.and_eq_true, decide_eq_true_eq] at h
  exact List.mem_filter.mpr ⟨am_lw_in h.1, h.2⟩
def am_isN : Cond → Bool
  | .methodLinkNest .. => true
  | .fieldLinkNest .. => true
  | _ => false
/-- the words of the tables that speak of nests -/
def am_N : List Cond := lw_tbl.filter am_isN
def am_wn (i : Nat) (w : Cond) : Bool := decide (am_lw i = some w) && am_isN w
theorem am_wn_in {i : Nat} {w : Cond} (h : am_wn i w = true) : w ∈ am_N := by
  simp only [am_wn, Bool.and_eq_true, decide_eq_true_eq] at h
  exact List.mem_filter.mpr ⟨am_lw_in h.1, h.2⟩
def am_nx (j n : Nat) (e : AmE) : Bool := decide (am_pc j (n + 1) = e.1 + e.2.2.1)
def am_tg (j : Nat) (e : AmE) (t : Nat) (off : Int) : Bool := decide ((e.1 : Int) + off = (am_pc j t : Int))
def am_RX (c : Nat) : String := ((vwCl.getD c ("", fun _ => ("", "", "", false), 0))).1
def am_TX (c : Nat) : u_T := ((vwCl.getD c ("", fun _ => ("", "", "", false), 0))).2.1
def am_NX (c : Nat) : Nat := ((vwCl.getD c ("", fun _ => ("", "", "", false), 0))).2.2
def am_k0 (j n : Nat) (o : AmIns) (e : AmE) : Bool := am_nx j n e && match e.2.1 with
  | .iload i => Nat.beq i o.2.1 && (Nat.beq o.2.2.1 0 && Nat.beq e.2.2.1 2)
  | .iload_n k => Nat.beq k.val o.2.1 && (Nat.beq o.2.2.1 0 && Nat.beq e.2.2.1 1)
  | .lload i => Nat.beq i o.2.1 && (Nat.beq o.2.2.1 1 && Nat.beq e.2.2.1 2)
  | .lload_n k => Nat.beq k.val o.2.1 && (Nat.beq o.2.2.1 1 && Nat.beq e.2.2.1 1)
  | .dload i => Nat.beq i o.2.1 && (Nat.beq o.2.2.1 2 && Nat.beq e.2.2.1 2)
  | .dload_n k => Nat.beq k.val o.2.1 && (Nat.beq o.2.2.1 2 && Nat.beq e.2.2.1 1)
  | .aload i => Nat.beq i o.2.1 && (Nat.beq o.2.2.1 3 && Nat.beq e.2.2.1 2)
  | .aload_n k => Nat.beq k.val o.2.1 && (Nat.beq o.2.2.1 3 && Nat.beq e.2.2.1 1)
  | _ => false
def am_k1 (j n : Nat) (o : AmIns) (e : AmE) : Bool := am_nx j n e && (Nat.blt (o.2.1 + 1) (am_ml j + 1) && match e.2.1 with
  | .istore i => Nat.beq i o.2.1 && (Nat.beq o.2.2.1 0 && Nat.beq e.2.2.1 2)
  | .istore_n k => Nat.beq k.val o.2.1 && (Nat.beq o.2.2.1 0 && Nat.beq e.2.2.1 1)
  | .lstore i => Nat.beq i o.2.1 && (Nat.beq o.2.2.1 1 && (Nat.beq e.2.2.1 2 && Nat.blt (o.2.1 + 1) (am_ml j)))
  | .lstore_n k => Nat.beq k.val o.2.1 && (Nat.beq o.2.2.1 1 && (Nat.beq e.2.2.1 1 && Nat.blt (o.2.1 + 1) (am_ml j)))
  | .dstore i => Nat.beq i o.2.1 && (Nat.beq o.2.2.1 2 && (Nat.beq e.2.2.1 2 && Nat.blt (o.2.1 + 1) (am_ml j)))
  | .dstore_n k => Nat.beq k.val o.2.1 && (Nat.beq o.2.2.1 2 && (Nat.beq e.2.2.1 1 && Nat.blt (o.2.1 + 1) (am_ml j)))
  | .astore i => Nat.beq i o.2.1 && (Nat.beq o.2.2.1 3 && Nat.beq e.2.2.1 2)
  | .astore_n k => Nat.beq k.val o.2.1 && (Nat.beq o.2.2.1 3 && Nat.beq e.2.2.1 1)
  | _ => false)
def am_k2 (j n : Nat) (o : AmIns) (e : AmE) : Bool := am_nx j n e && match e.2.1 with
  | .iconst x => decide (x = o.2.2.2.1) && Nat.beq e.2.2.1 1
  | .bipush x => decide ((Int8.ofInt x).toInt32 = Int32.ofInt o.2.2.2.1) && Nat.beq e.2.2.1 2
  | .sipush x => decide ((Int16.ofInt x).toInt32 = Int32.ofInt o.2.2.2.1) && Nat.beq e.2.2.1 3
  | .ldc i => am_w (e.2.2.2.getD 0 0) (.constant (am_own j) i (Int32.ofInt o.2.2.2.1)) && Nat.beq e.2.2.1 2
  | .ldc_w i => am_w (e.2.2.2.getD 0 0) (.constant (am_own j) i (Int32.ofInt o.2.2.2.1)) && Nat.beq e.2.2.1 3
  | .getstatic i => am_w (e.2.2.2.getD 0 0) (.fieldLink (am_own j) i "java/lang/String" "COMPACT_STRINGS" "Z") && (Nat.beq e.2.2.1 3 && decide (o.2.2.2.1 = 1))
  | _ => false
def am_k3 (j n : Nat) (o : AmIns) (e : AmE) : Bool := am_nx j n e && match e.2.1 with
  | .lconst x => decide (Int64.ofNat x.val = Int64.ofInt o.2.2.2.1) && Nat.beq e.2.2.1 1
  | .ldc2_w i => am_w (e.2.2.2.getD 0 0) (.constantLong (am_own j) i (Int64.ofInt o.2.2.2.1)) && Nat.beq e.2.2.1 3
  | _ => false
def am_k4 (j n : Nat) (e : AmE) : Bool := am_nx j n e && match e.2.1 with
  | .dconst x => Nat.beq x.val 0 && Nat.beq e.2.2.1 1
  | _ => false
def am_k5 (j n : Nat) (e : AmE) : Bool := am_nx j n e && match e.2.1 with
  | .aconst_null => Nat.beq e.2.2.1 1
  | _ => false
def am_srs : List (String × Nat × String) := [("HornBench", 140, "nothing of this kind is counted"), ("HornBench", 142, "there is no such clause, or no such count of one"), ("HornBench", 76, "the tape is full"), ("HornBench", 91, "the tape has not so many bytes"), ("HornBench", 115, "there is no such clause"), ("HornBench", 165, "1 to 500 steps are done at once"), ("HornBench", 170, "there is no question"), ("HornBench", 182, "there is no such variable"), ("HornBench", 189, "the paper is too small"), ("HornBench", 197, "there is no such place on the paper"), ("HornBench", 208, "the variable is no number"), ("HornBenchModel", 154, "()[],.|!+-*/<"), ("HornBenchModel", 221, "("), ("HornBenchModel", 271, "-"), ("HornBenchModel", 245, ")"), ("HornBenchModel", 282, "["), ("HornBenchModel", 287, "]"), ("HornBenchModel", 243, ","), ("HornBenchModel", 289, "|"), ("HornBenchModel", 276, "*"), ("HornBenchModel", 278, "/"), ("HornBenchModel", 280, "mod"), ("HornBenchModel", 269, "+"), ("HornBenchModel", 226, ":-"), ("HornBenchModel", 250, "!"), ("HornBenchModel", 252, "true"), ("HornBenchModel", 254, "fail"), ("HornBenchModel", 256, "not"), ("HornBenchModel", 258, "var"), ("HornBenchModel", 231, "."), ("HornBenchModel", 637, "[]"), ("HornBenchModel", 650, " mod "), ("HornBenchModel", 668, "var("), ("HornBenchModel", 670, "not("), ("HornBenchModel", 675, " is "), ("HornBenchModel", 681, "is"), ("HornBenchModel", 682, "="), ("HornBenchModel", 684, "\\="), ("HornBenchModel", 686, "=="), ("HornBenchModel", 688, "<"), ("HornBenchModel", 690, ">"), ("HornBenchModel", 692, "=<"), ("HornBenchModel", 694, ">=")]
def am_sn : List String := ["KEYWORDS", "RELATIONS", "SIGNS"]
def am_k6 (j n : Nat) (o : AmIns) (e : AmE) : Bool := am_nx j n e && match e.2.1 with
  | .ldc i => Nat.blt 3 o.2.1 && (Nat.blt o.2.1 (4 + am_NS) && (decide (((am_srs.getD (o.2.1 - 4) ("", 0, "")).1, (am_srs.getD (o.2.1 - 4) ("", 0, "")).2.1) = (am_own j, i)) && Nat.beq e.2.2.1 2))
  | .ldc_w i => Nat.blt 3 o.2.1 && (Nat.blt o.2.1 (4 + am_NS) && (decide (((am_srs.getD (o.2.1 - 4) ("", 0, "")).1, (am_srs.getD (o.2.1 - 4) ("", 0, "")).2.1) = (am_own j, i)) && Nat.beq e.2.2.1 3))
  | .getstatic i => Nat.blt 0 o.2.1 && (Nat.blt o.2.1 4 && (decide (am_own j = "HornBenchModel") && (am_w (e.2.2.2.getD 0 0) (.fieldLink (am_own j) i "HornBenchModel" (am_sn.getD (o.2.1 - 1) "") "[Ljava/lang/String;") && Nat.beq e.2.2.1 3)))
  | _ => false
def am_k8 (j n : Nat) (o : AmIns) (e : AmE) : Bool := am_nx j n e && (Nat.beq e.2.2.1 1 && match e.2.1 with
  | .iadd => Nat.beq o.2.2.1 0
  | .isub => Nat.beq o.2.2.1 1
  | .imul => Nat.beq o.2.2.1 2
  | .idiv => Nat.beq o.2.2.1 3
  | .irem => Nat.beq o.2.2.1 4
  | .iand => Nat.beq o.2.2.1 5
  | .ior => Nat.beq o.2.2.1 6
  | .ishl => Nat.beq o.2.2.1 7
  | .ishr => Nat.beq o.2.2.1 8
  | .iushr => Nat.beq o.2.2.1 9
  | _ => false)
def am_k10 (j n : Nat) (o : AmIns) (e : AmE) : Bool := am_nx j n e && (Nat.beq e.2.2.1 1 && match e.2.1 with
  | .ladd => Nat.beq o.2.2.1 0
  | .lsub => Nat.beq o.2.2.1 1
  | .lmul => Nat.beq o.2.2.1 2
  | .ldiv => Nat.beq o.2.2.1 3
  | .lrem => Nat.beq o.2.2.1 4
  | .land => Nat.beq o.2.2.1 5
  | .lor => Nat.beq o.2.2.1 6
  | _ => false)
def am_k11 (j n : Nat) (o : AmIns) (e : AmE) : Bool := am_nx j n e && (Nat.beq e.2.2.1 1 && match e.2.1 with
  | .lshl => Nat.beq o.2.2.1 0
  | .lshr => Nat.beq o.2.2.1 1
  | _ => false)
def am_k13 (j n : Nat) (e : AmE) : Bool := am_nx j n e && (Nat.beq e.2.2.1 1 && match e.2.1 with
  | .lcmp => true
  | _ => false)
def am_k14 (j n : Nat) (o : AmIns) (e : AmE) : Bool := am_nx j n e && (Nat.beq e.2.2.1 1 && match e.2.1 with
  | .i2l => Nat.beq o.2.2.1 0
  | .l2i => Nat.beq o.2.2.1 1
  | .i2b => Nat.beq o.2.2.1 2
  | .i2c => Nat.beq o.2.2.1 3
  | .i2d => Nat.beq o.2.2.1 4
  | .ineg => Nat.beq o.2.2.1 5
  | .lneg => Nat.beq o.2.2.1 6
  | _ => false)
def am_k15 (j n : Nat) (e : AmE) : Bool := am_nx j n e && (Nat.beq e.2.2.1 1 && match e.2.1 with
  | .ddiv => true
  | _ => false)
def am_k16 (j n : Nat) (o : AmIns) (e : AmE) : Bool := am_nx j n e && (Nat.beq e.2.2.1 1 && match e.2.1 with
  | .dcmp .l => Nat.beq o.2.2.1 0
  | _ => false)
def am_k17 (j n : Nat) (o : AmIns) (e : AmE) : Bool := am_nx j n e && (Nat.blt o.2.1 (am_ml j) && match e.2.1 with
  | .iinc i x => Nat.beq i o.2.1 && (decide (x = o.2.2.2.1) && Nat.beq e.2.2.1 3)
  | _ => false)
def am_k18 (j n : Nat) (o : AmIns) (e : AmE) : Bool := am_nx j n e && (Nat.beq e.2.2.1 3 && match e.2.1 with
  | .ifCond .eq off => Nat.beq o.2.2.1 0 && am_tg j e o.2.1 off
  | .ifCond .ne off => Nat.beq o.2.2.1 1 && am_tg j e o.2.1 off
  | .ifCond .lt off => Nat.beq o.2.2.1 2 && am_tg j e o.2.1 off
  | .ifCond .ge off => Nat.beq o.2.2.1 3 && am_tg j e o.2.1 off
  | .ifCond .gt off => Nat.beq o.2.2.1 4 && am_tg j e o.2.1 off
  | .ifCond .le off => Nat.beq o.2.2.1 5 && am_tg j e o.2.1 off
  | _ => false)
def am_k19 (j n : Nat) (o : AmIns) (e : AmE) : Bool := am_nx j n e && (Nat.beq e.2.2.1 3 && match e.2.1 with
  | .if_icmp .eq off => Nat.beq o.2.2.1 0 && am_tg j e o.2.1 off
  | .if_icmp .ne off => Nat.beq o.2.2.1 1 && am_tg j e o.2.1 off
  | .if_icmp .lt off => Nat.beq o.2.2.1 2 && am_tg j e o.2.1 off
  | .if_icmp .ge off => Nat.beq o.2.2.1 3 && am_tg j e o.2.1 off
  | .if_icmp .gt off => Nat.beq o.2.2.1 4 && am_tg j e o.2.1 off
  | .if_icmp .le off => Nat.beq o.2.2.1 5 && am_tg j e o.2.1 off
  | _ => false)
def am_k20 (j n : Nat) (o : AmIns) (e : AmE) : Bool := am_nx j n e && (Nat.beq e.2.2.1 3 && match e.2.1 with
  | .ifnull off => Nat.beq o.2.2.1 0 && am_tg j e o.2.1 off
  | .ifnonnull off => Nat.beq o.2.2.1 1 && am_tg j e o.2.1 off
  | _ => false)
def am_k22 (j : Nat) (o : AmIns) (e : AmE) : Bool := match e.2.1 with
  | .goto off => am_tg j e o.2.1 off && Nat.beq e.2.2.1 3
  | _ => false
def am_swt (j : Nat) (e : AmE) : List (Int × Nat) → List Int → Int → Bool
  | [], [], _ => true
  | q :: l, f :: l2, x => decide (q.1 = x) && (am_tg j e q.2 f && am_swt j e l l2 (x + 1))
  | _, _, _ => false
def am_swl (j : Nat) (e : AmE) : List (Int × Nat) → List (Int × Int) → Bool
  | [], [] => true
  | q :: l, f :: l2 => decide (q.1 = f.1) && (am_tg j e q.2 f.2 && am_swl j e l l2)
  | _, _ => false
def am_k23 (j : Nat) (o : AmIns) (e : AmE) : Bool := match e.2.1 with
  | .tableswitch d lo hi offs => am_tg j e o.2.1 d && (decide (hi - lo + 1 = (offs.size : Int)) && am_swt j e o.2.2.2.2 offs.toList lo)
  | .lookupswitch d ps => am_tg j e o.2.1 d && (decide ((ps.toList.zip (ps.toList.drop 1)).all (fun (a, next) => a.1 < next.1) = true) && am_swl j e o.2.2.2.2 ps.toList)
  | _ => false
/-- a field's link: class a, field b -/
def am_kf (j : Nat) (o : AmIns) (i : Nat) (e : AmE) : Bool := Nat.blt o.2.1 13 && (Nat.blt o.2.2.1 (am_NX o.2.1) && (am_w (e.2.2.2.getD 0 0) (.fieldLink (am_own j) i (am_TX o.2.1 o.2.2.1).1 (am_TX o.2.1 o.2.2.1).2.1 (am_TX o.2.1 o.2.2.1).2.2.1) || (am_wn (e.2.2.2.getD 0 0) (.fieldLinkNest (am_own j) i (am_TX o.2.1 o.2.2.1).1 (am_TX o.2.1 o.2.2.1).2.1 (am_TX o.2.1 o.2.2.1).2.2.1 "HornBench") || am_wn (e.2.2.2.getD 0 0) (.fieldLinkNest (am_own j) i (am_TX o.2.1 o.2.2.1).1 (am_TX o.2.1 o.2.2.1).2.1 (am_TX o.2.1 o.2.2.1).2.2.1 "HornBenchModel"))))
def am_k24 (j n : Nat) (o : AmIns) (e : AmE) : Bool := am_nx j n e && (Nat.beq e.2.2.1 3 && match e.2.1 with
  | .getfield i => am_kf j o i e || (Nat.beq o.2.1 76 && ((Nat.beq o.2.2.1 0 && am_w (e.2.2.2.getD 0 0) (.fieldLink (am_own j) i "java/lang/String" "value" "[B")) || (Nat.beq o.2.2.1 1 && am_w (e.2.2.2.getD 0 0) (.fieldLink (am_own j) i "java/lang/String" "coder" "B"))))
  | _ => false)
def am_tyX (c : Nat) : Nat → FieldType := match c with
  | 0 => tyX0
  | 1 => tyX1
  | 2 => tyX2
  | 3 => tyX3
  | 4 => tyX4
  | 5 => tyX5
  | 6 => tyX6
  | 7 => tyX7
  | 8 => tyX8
  | 9 => tyX9
  | 10 => tyX10
  | 11 => tyX11
  | 12 => tyX12
  | _ => fun _ => .int
def am_fkt (t : FieldType) (k : Nat) : Bool := match t with
  | .int => Nat.beq k 0
  | .long => Nat.beq k 1
  | .double => Nat.beq k 2
  | .boolean => Nat.beq k 10
  | .object _ => Nat.beq k 3
  | .array _ => Nat.beq k 3
  | _ => false
def am_k25 (j n : Nat) (o : AmIns) (e : AmE) : Bool := am_nx j n e && (Nat.beq e.2.2.1 3 && match e.2.1 with
  | .putfield i => am_kf j o i e && (am_fkt (am_tyX o.2.1 o.2.2.1) o.2.2.2.1.toNat && cond (am_TX o.2.1 o.2.2.1).2.2.2 (decide ((am_y j).name = "<init>" ∧ (am_TX o.2.1 o.2.2.1).1 = am_own j) && am_w (e.2.2.2.getD 0 0) (.fieldLink (am_own j) i (am_TX o.2.1 o.2.2.1).1 (am_TX o.2.1 o.2.2.1).2.1 (am_TX o.2.1 o.2.2.1).2.2.1)) true)
  | _ => false)
def am_k26 (j n : Nat) (e : AmE) : Bool := am_nx j n e && (Nat.beq e.2.2.1 1 && match e.2.1 with
  | .dup => true
  | _ => false)
def am_k27 (j n : Nat) (e : AmE) : Bool := am_nx j n e && (Nat.beq e.2.2.1 1 && match e.2.1 with
  | .pop => true
  | _ => false)
def am_k28 (j n : Nat) (o : AmIns) (e : AmE) : Bool := am_nx j n e && (Nat.beq e.2.2.1 3 && match e.2.1 with
  | .new i => Nat.blt o.2.1 13 && (Nat.beq o.2.2.1 (am_NX o.2.1) && am_w (e.2.2.2.getD 0 0) (.classLink (am_own j) i (am_RX o.2.1)))
  | _ => false)
def am_k29 (j n : Nat) (o : AmIns) (e : AmE) : Bool := am_nx j n e && match e.2.1 with
  | .newarray .int => Nat.beq o.2.1 61 && Nat.beq e.2.2.1 2
  | .newarray .long => Nat.beq o.2.1 62 && Nat.beq e.2.2.1 2
  | .newarray .boolean => Nat.beq o.2.1 63 && Nat.beq e.2.2.1 2
  | .newarray .byte => Nat.beq o.2.1 64 && Nat.beq e.2.2.1 2
  | .anewarray i => Nat.beq o.2.1 65 && (Nat.beq e.2.2.1 3 && am_w (e.2.2.2.getD 0 0) (.classLink (am_own j) i "HornBenchModel$Clause"))
  | _ => false
def am_k31 (j n : Nat) (e : AmE) : Bool := am_nx j n e && (Nat.beq e.2.2.1 1 && match e.2.1 with
  | .arraylength => true
  | _ => false)
def am_k32 (j n : Nat) (o : AmIns) (e : AmE) : Bool := am_nx j n e && (Nat.beq e.2.2.1 1 && match e.2.1 with
  | .iaload => Nat.beq o.2.2.1 0
  | .laload => Nat.beq o.2.2.1 1
  | .baload => Nat.beq o.2.2.1 11
  | .aaload => Nat.beq o.2.2.1 3
  | _ => false)
def am_k33 (j n : Nat) (o : AmIns) (e : AmE) : Bool := am_nx j n e && (Nat.beq e.2.2.1 1 && (Nat.beq o.2.2.1 11 && match e.2.1 with
  | .iastore => Nat.beq o.2.1 61
  | .lastore => Nat.beq o.2.1 62
  | .bastore => Nat.beq o.2.1 64
  | .aastore => Nat.beq o.2.1 65
  | _ => false))
def am_k34 (j n : Nat) (e : AmE) : Bool := am_nx j n e && (Nat.beq e.2.2.1 3 && match e.2.1 with
  | .checkcast i => am_w (e.2.2.2.getD 0 0) (.classLink (am_own j) i "[I")
  | _ => false)
def am_k35 (j n : Nat) (e : AmE) : Bool := am_nx j n e && (Nat.beq e.2.2.1 3 && match e.2.1 with
  | .invokespecial i => am_w (e.2.2.2.getD 0 0) (.methodLink (am_own j) i Lib.objectInit)
  | _ => false)
def am_k36 (j n : Nat) (e : AmE) : Bool := am_nx j n e && (Nat.beq e.2.2.1 3 && match e.2.1 with
  | .invokestatic i => am_w (e.2.2.2.getD 0 0) (.methodLink (am_own j) i arraycopyName)
  | _ => false)
def am_k37 (j n : Nat) (e : AmE) : Bool := am_nx j n e && (Nat.beq e.2.2.1 3 && match e.2.1 with
  | .invokevirtual i => am_w (e.2.2.2.getD 0 0) (.methodLink (am_own j) i ⟨"[I", "clone", "()Ljava/lang/Object;"⟩)
  | _ => false)
def am_k38 (j n : Nat) (o : AmIns) (e : AmE) : Bool := am_nx j n e && (Nat.beq e.2.2.1 3 && match e.2.1 with
  | .invokestatic i => (Nat.beq o.2.2.1 0 && am_w (e.2.2.2.getD 0 0) (.methodLink (am_own j) i Lib.Math.max.name)) || ((Nat.beq o.2.2.1 1 && am_w (e.2.2.2.getD 0 0) (.methodLink (am_own j) i Lib.Math.min.name)) || (Nat.beq o.2.2.1 2 && am_w (e.2.2.2.getD 0 0) (.methodLink (am_own j) i Lib.MathLoose.abs_long.x)))
  | _ => false)
def am_k40 (j n : Nat) (o : AmIns) (e : AmE) : Bool := am_nx j n e && (Nat.beq e.2.2.1 3 && (Nat.blt o.2.1 318 && match e.2.1 with
  | .invokevirtual i => decide (o.2.2.2.1 = 0 ∧ am_hh o.2.1 = [] ∧ (am_y o.2.1).name ≠ "<init>" ∧ (am_P.2.1 o.2.1).1 ≠ 1) && am_w (e.2.2.2.getD 0 0) (.methodLink (am_own j) i (am_y o.2.1))
  | .invokespecial i => decide ((am_y o.2.1).name = "<init>" ∧ am_rt o.2.1 = none ∧ am_hh o.2.1 = []) && ((decide (o.2.2.2.1 = 1) && am_w (e.2.2.2.getD 0 0) (.methodLink (am_own j) i (am_y o.2.1))) || ((decide (o.2.2.2.1 = 11) && am_wn (e.2.2.2.getD 0 0) (.methodLinkNest (am_own j) i (am_y o.2.1) "HornBench")) || (decide (o.2.2.2.1 = 21) && am_wn (e.2.2.2.getD 0 0) (.methodLinkNest (am_own j) i (am_y o.2.1) "HornBenchModel"))))
  | .invokestatic i => decide ((am_P.2.1 o.2.1).1 = 1) && ((decide (o.2.2.2.1 = 2) && am_w (e.2.2.2.getD 0 0) (.methodLink (am_own j) i (am_y o.2.1))) || (decide (o.2.2.2.1 = 12 ∧ am_hh o.2.1 = []) && am_wn (e.2.2.2.getD 0 0) (.methodLinkNest (am_own j) i (am_y o.2.1) "HornBench")))
  | _ => false))
def am_k41 (j : Nat) (o : AmIns) (e : AmE) : Bool := Nat.beq e.2.2.1 1 && match e.2.1 with
  | .ireturn => decide ((am_rt j, o.2.2.1) ∈ ([(some .int, 0), (some .boolean, 10), (some .byte, 11), (some .char, 12)] : List (Option FieldType × Nat)))
  | .lreturn => decide ((am_rt j, o.2.2.1) = (some .long, 1))
  | .dreturn => decide ((am_rt j, o.2.2.1) = (some .double, 2))
  | .return_ => decide ((am_rt j, o.2.2.1) = (none, 9))
  | _ => false
def am_xn : List String := ["java/lang/IllegalStateException", "java/lang/IllegalArgumentException", "java/lang/IndexOutOfBoundsException"]
def am_k42 (j : Nat) (o : AmIns) (e : AmE) : Bool := Nat.blt o.2.1 3 && (decide (am_hh j = []) && match e.2.1 with
  | .new i => am_w (e.2.2.2.getD 0 0) (.classLink (am_own j) i (am_xn.getD o.2.1 "")) && decide (e.2.2.1 = 3 ∧ decode (am_b j) (e.1 + 3) = .ok (.dup, 1) ∧ decode (am_b j) (e.1 + 4) = .ok (.ldc (e.2.2.2.getD 1 0), 2) ∧ decode (am_b j) (e.1 + 6) = .ok (.invokespecial (e.2.2.2.getD 2 0), 3) ∧ decode (am_b j) (e.1 + 9) = .ok (.athrow, 1)) && (decide (((am_srs.getD (e.2.2.2.getD 3 0) ("", 0, "")).1, (am_srs.getD (e.2.2.2.getD 3 0) ("", 0, "")).2.1) = (am_own j, e.2.2.2.getD 1 0)) && Nat.blt (e.2.2.2.getD 3 0) am_NS)
  | _ => false)
def am_ko (j n : Nat) (o : AmIns) (e : AmE) : Bool :=
  cond (Nat.beq o.1 0) (am_k0 j n o e) <| cond (Nat.beq o.1 24) (am_k24 j n o e) <| cond (Nat.beq o.1 2) (am_k2 j n o e) <| cond (Nat.beq o.1 19) (am_k19 j n o e) <|
  cond (Nat.beq o.1 18) (am_k18 j n o e) <| cond (Nat.beq o.1 32) (am_k32 j n o e) <| cond (Nat.beq o.1 25) (am_k25 j n o e) <| cond (Nat.beq o.1 22) (am_k22 j o e) <|
  cond (Nat.beq o.1 1) (am_k1 j n o e) <| cond (Nat.beq o.1 8) (am_k8 j n o e) <| cond (Nat.beq o.1 33) (am_k33 j n o e) <| cond (Nat.beq o.1 26) (am_k26 j n e) <|
  cond (Nat.beq o.1 29) (am_k29 j n o e) <| cond (Nat.beq o.1 17) (am_k17 j n o e) <| cond (Nat.beq o.1 3) (am_k3 j n o e) <| cond (Nat.beq o.1 13) (am_k13 j n e) <|
  cond (Nat.beq o.1 31) (am_k31 j n e) <| cond (Nat.beq o.1 14) (am_k14 j n o e) <| cond (Nat.beq o.1 6) (am_k6 j n o e) <| cond (Nat.beq o.1 10) (am_k10 j n o e) <|
  cond (Nat.beq o.1 28) (am_k28 j n o e) <| cond (Nat.beq o.1 20) (am_k20 j n o e) <| cond (Nat.beq o.1 23) (am_k23 j o e) <| cond (Nat.beq o.1 11) (am_k11 j n o e) <|
  cond (Nat.beq o.1 35) (am_k35 j n e) <| cond (Nat.beq o.1 27) (am_k27 j n e) <| cond (Nat.beq o.1 4) (am_k4 j n e) <| cond (Nat.beq o.1 5) (am_k5 j n e) <|
  cond (Nat.beq o.1 15) (am_k15 j n e) <| cond (Nat.beq o.1 16) (am_k16 j n o e) <| cond (Nat.beq o.1 34) (am_k34 j n e) <| cond (Nat.beq o.1 36) (am_k36 j n e) <|
  cond (Nat.beq o.1 37) (am_k37 j n e) <| cond (Nat.beq o.1 38) (am_k38 j n o e) <| cond (Nat.beq o.1 40) (am_k40 j n o e) <| cond (Nat.beq o.1 41) (am_k41 j o e) <| cond (Nat.beq o.1 42) (am_k42 j o e) true
def am_kk (j n : Nat) (o : AmIns) : Bool := decide (decode (am_b j) (am_e j n).1 = .ok ((am_e j n).2.1, (am_e j n).2.2.1)) && am_ko j n o (am_e j n)
def am_kl (j : Nat) : Nat → List AmIns → Bool
  | _, [] => true
  | n, o :: l => am_kk j n o && am_kl j (n + 1) l
/-- what is asked of a method: its words -/
def am_mk (j : Nat) : Bool := cond (Nat.beq j 318) true (plainName (am_own j) && (decide (am_own j ≠ "java/lang/invoke/MethodHandle" ∧ am_own j ≠ "java/lang/invoke/VarHandle") && (Nat.ble (am_ml j) 41 &&
  (am_w ((am_mws.getD j []).getD 1 0) (.initialized (am_own j)) && (decide ((parseMethodDescriptor (am_y j).desc).map (fun d => d.parameters.length) = some ((am_P.2.1 j).2.1 - cond (Nat.beq (am_P.2.1 j).1 1) 0 1)) &&
  (cond (am_hh j).isEmpty (am_w ((am_mws.getD j []).getD 0 0) (.code (am_y j) (am_b j) (am_ml j) (am_rt j))) (am_w ((am_mws.getD j []).getD 0 0) (.codeWith (am_y j) (am_b j) (am_ml j) (am_rt j) (am_hh j))) &&
  cond (Nat.beq (am_P.2.1 j).1 1) (am_w ((am_mws.getD j []).getD 2 0) (.static (am_y j)))
    (am_w ((am_mws.getD j []).getD 2 0) (.instanceMethod (am_y j)) && (Nat.blt 0 (am_P.2.1 j).2.1 && (decide (am_own j = cond (Nat.beq (am_P.2.1 j).1 78) "java/lang/String" (am_RX ((am_P.2.1 j).1 - 2))) && (Nat.blt 1 (am_P.2.1 j).1 && ((Nat.blt (am_P.2.1 j).1 15 || Nat.beq (am_P.2.1 j).1 78) && (decide ((am_y j).name = "<init>") || am_w ((am_mws.getD j []).getD 3 0) (.selects (am_own j) (am_y j) (am_y j))))))))))))))
def am_chk (j : Nat) : Bool := am_mk j && am_kl j 0 (am_P.1 j)
/-- of each class: its fields' words, 'instantiable', 'initialized' -/
def am_fws : List (List Nat) := [[330, 332, 334], [400, 402, 404, 406, 408, 410], [371, 373, 375, 377], [219, 221, 223, 225, 227, 229, 231, 233, 235, 237, 239, 241, 243, 245, 247], [292, 294, 296, 298, 300, 302, 304, 306, 308, 310, 312], [487, 489, 491, 493, 495, 497, 499, 501, 503, 505], [432, 434, 436, 438, 440, 442, 444, 446, 448, 450, 452, 454, 456, 458, 460, 462, 464, 466, 468], [192, 194], [345, 347, 349, 351, 353, 355, 357], [270, 272, 274, 276, 278], [516, 518, 520, 522, 524, 526, 528, 530], [1944, 1946, 1948, 1950, 1952, 1954, 1956, 1958, 1960, 1962, 1964, 1966, 1968, 1970, 1972, 1974, 1976, 1978], [1528, 1530, 1532, 1534, 1536, 1538, 1540, 1542, 1544, 1546, 1548, 1550, 1552, 1554, 1556, 1558, 1560, 1562, 1564, 1566, 1568, 1570, 1572, 1574, 1576, 1578, 1580, 1582, 1584, 1586, 1588, 1590, 1592, 1594, 1596, 1598, 1600, 1602, 1604, 1606, 1608, 1610, 1612, 1614, 1616, 1618, 1620, 1622, 1624, 1626, 1628, 1630, 1632, 1634, 1636, 1638, 1640, 1642, 1644, 1646, 1648, 1650]]
def am_cws : List (Nat × Nat) := [(322, 156), (387, 159), (361, 157), (199, 152), (253, 153), (472, 160), (381, 158), (185, 151), (316, 155), (259, 154), (177, 150), (1909, 173), (1458, 161)]
def am_kc (c : Nat) : Bool := am_w (am_cws.getD c (0, 0)).1 (.instantiable (am_RX c) (am_NX c)) && (am_w (am_cws.getD c (0, 0)).2 (.initialized (am_RX c)) && (List.range (am_NX c)).all fun k => am_w ((am_fws.getD c []).getD k 0) (u_lay (am_RX c) (am_TX c) k) && am_fkt (am_tyX c k) (am_fk c k))
set_option maxRecDepth 100000 in
theorem am_kcs : (List.range 13).all am_kc = true := by decide +kernel
theorem am_kc_ok {c : Nat} (h : c < 13) : am_kc c = true := List.all_eq_true.mp am_kcs c (List.mem_range.mpr h)
theorem am_cl_has {c : Nat} (h : c < 13) : vwCl[c]? = some (am_RX c, am_TX c, am_NX c) := by
  match c, h with
  | 0, _ => rfl
  | 1, _ => rfl
  | 2, _ => rfl
  | 3, _ => rfl
  | 4, _ => rfl
  | 5, _ => rfl
  | 6, _ => rfl
  | 7, _ => rfl
  | 8, _ => rfl
  | 9, _ => rfl
  | 10, _ => rfl
  | 11, _ => rfl
  | 12, _ => rfl
  | k + 13, h => exact absurd h (by omega)
theorem am_nmX {c : Nat} (h : c < 13) : ∀ a, a < am_NX c → ∀ b, b < am_NX c → a ≠ b → (am_TX c a).2.1 ≠ (am_TX c b).2.1 := by
  match c, h with
  | 0, _ => exact nmX0
  | 1, _ => exact nmX1
  | 2, _ => exact nmX2
  | 3, _ => exact nmX3
  | 4, _ => exact nmX4
  | 5, _ => exact nmX5
  | 6, _ => exact nmX6
  | 7, _ => exact nmX7
  | 8, _ => exact nmX8
  | 9, _ => exact nmX9
  | 10, _ => exact nmX10
  | 11, _ => exact nmX11
  | 12, _ => exact nmX12
  | k + 13, h => exact absurd h (by omega)
theorem am_tyX_ok {c : Nat} (h : c < 13) : ∀ k, k < am_NX c → parseFieldDescriptor (am_TX c k).2.2.1 = some (am_tyX c k) := by
  match c, h with
  | 0, _ => exact tyX0_ok
  | 1, _ => exact tyX1_ok
  | 2, _ => exact tyX2_ok
  | 3, _ => exact tyX3_ok
  | 4, _ => exact tyX4_ok
  | 5, _ => exact tyX5_ok
  | 6, _ => exact tyX6_ok
  | 7, _ => exact tyX7_ok
  | 8, _ => exact tyX8_ok
  | 9, _ => exact tyX9_ok
  | 10, _ => exact tyX10_ok
  | 11, _ => exact tyX11_ok
  | 12, _ => exact tyX12_ok
  | k + 13, h => exact absurd h (by omega)
/-- further words: (place, word) -/
def am_xws : List (Nat × Cond) := [(250, .arrayClass .int), (251, .arrayClass .long), (337, .arrayClass .boolean), (197, .arrayClass .byte), (182, .instanceMethod Lib.objectInit), (183, .code Lib.objectInit ⟨#[0xb1]⟩ 1 none), (2288, .native arraycopyName), (2287, .static arraycopyName), (175, .initialized "java/lang/System"), (2095, .sameMethod "[I" "java/lang/Object" "clone" "()Ljava/lang/Object;"), (2096, .native ⟨"java/lang/Object", "clone", "()Ljava/lang/Object;"⟩), (2097, .instanceMethod ⟨"java/lang/Object", "clone", "()Ljava/lang/Object;"⟩), (2098, .selects "[I" ⟨"[I", "clone", "()Ljava/lang/Object;"⟩ ⟨"java/lang/Object", "clone", "()Ljava/lang/Object;"⟩), (167, .initialized "java/lang/Math"), (892, .static Lib.Math.max.name), (893, .code Lib.Math.max.name Lib.Math.max.code 2 (some .int)), (630, .static Lib.Math.min.name), (631, .code Lib.Math.min.name Lib.Math.min.code 2 (some .int)), (2254, .static Lib.MathLoose.abs_long.x), (2255, .code Lib.MathLoose.abs_long.x Lib.MathLoose.abs_long.code 2 (some .long))]
set_option maxRecDepth 100000 in
theorem am_xwk : am_xws.all (fun q => am_w q.1 q.2) = true := by decide +kernel
theorem am_xw {w : Cond} (k : Nat) (h : (am_xws.getD k (0, .initialized "")).2 = w) (hk : k < am_xws.length) : w ∈ am_T := by
  have h1 := List.all_eq_true.mp am_xwk am_xws[k] (List.getElem_mem hk)
  rw [← h, List.getD_eq_getElem?_getD, List.getElem?_eq_getElem hk]
  exact am_w_in h1

theorem am_ck (j : Nat) (h : j < 319) : am_chk j = true := sorry
end
section
/-! THE MACHINE'S CELLS AND THE SMALL MACHINE'S: what stands for what. D: numbers and slots of the classes; B: where the cells of this run begin; ax: where the things of the start lie; ad: where each cell lies. -/
def am_tr (ad : Nat → Nat) : Value → Value
  | .ref k => .ref (ad k)
  | v => v
def am_wf (top : Nat) (v : Value) : Prop := ∀ k : Nat, v = .ref k → k < top ∨ am_EXT ≤ k
def am_ty (t : Nat) : FieldType := match t with
  | 61 => .int
  | 62 => .long
  | 63 => .boolean
  | 64 => .byte
  | 65 => .object "HornBenchModel$Clause"
  | 71 => .int
  | 74 => .byte
  | _ => .object "java/lang/String"
def am_ax (U : State) (ty : FieldType) (N : Nat) (f : Nat → Value) (a : Nat) (H : Heap) : Prop := ∃ cell : Cell, H[a]? = some cell ∧ U.isArrayOf cell ty ∧ cell.vm ≠ .unknown ∧ N ≤ cell.slots.size ∧ cell.slots.size.toInt32 = Int32.ofNat N ∧ ∀ j : Nat, j < N → cell.slots[j]? = some (f j)
/-- a cell of this run: an object of class c (tag c + 1), an array (tags 61 to 65), or nothing is said of it (tag 0) -/
def am_cl (D : va_G) (U : State) (ad : Nat → Nat) (i : Nat × Nat) (f : Nat → Value) (a : Nat) (H : Heap) : Prop :=
  (∀ c, i.1 = c + 1 → c < 13 → t_OB a (D.1 c) (am_NX c) (D.2 c) H (fun j => am_tr ad (f j))) ∧
  (61 ≤ i.1 → i.1 ≤ 65 → i.2 < 2 ^ 31 ∧ ∃ cA : ClassId, H[a]? = some (arrV cA i.2 (fun j => am_tr ad (f j))) ∧ ArrOfT U cA (am_ty i.1) ∧ va_RA U cA (am_ty i.1)) ∧
  (i.1 = 61 → ∀ j, ∃ x : Int32, f j = .int x)
def am_A (B : Nat) : Nat → Prop := fun q => B ≤ q
def am_sr (i : Nat) : String × Nat × String := am_srs.getD i ("", 0, "")
/-- what is there at the start, and stays -/
def am_E (D : va_G) (B L : Nat) (xs : Nat → Int32) (ax : Nat → Nat) (U : State) (Hh : Heap) : Prop :=
  va_K D vwCl [] U ∧ (∀ w ∈ am_N, va_Nw w U) ∧ va_AO "HornBenchModel$Clause" U ∧
  (∀ k, am_EXT ≤ k → 71 ≤ (am_I0 L k).1 → (am_I0 L k).1 ≤ 76 → ax k < B ∧ am_ax U (am_ty (am_I0 L k).1) (am_I0 L k).2 (fun j => am_tr ax (am_M0 xs k j)) (ax k) Hh) ∧
  (∀ k, am_EXT ≤ k → (am_I0 L k).1 = 77 → va_O "java/lang/String" (ax k) (am_A B) U Hh ∧ va_OF "java/lang/String" "value" "[B" (am_tr ax (am_M0 xs k 0)) (ax k) (am_A B) U Hh ∧ va_OF "java/lang/String" "coder" "B" (am_tr ax (am_M0 xs k 1)) (ax k) (am_A B) U Hh) ∧
  (∀ i, i < am_NS → vk_R (am_sr i).1 (am_sr i).2.1 (am_sr i).2.2 (ax (am_EXT + 4 + i)) U) ∧
  (∀ i, i < 3 → va_Z "HornBenchModel" (am_sn.getD i "") "[Ljava/lang/String;" (.ref (ax (am_EXT + 1 + i))) (am_A B) U Hh) ∧
  va_Z "java/lang/String" "COMPACT_STRINGS" "Z" (.int 1) (am_A B) U Hh ∧
  vx_Zq Bundle.tN "UNASSIGNED_STACK" Bundle.steD (am_A B) U Hh ∧ vx_Zq Bundle.tN "SUPPRESSED_SENTINEL" Bundle.listD (am_A B) U Hh ∧
  (∀ i, i < 3 → va_Nw (.castable (am_xn.getD i "") (am_xn.getD i "")) U) ∧ (∀ i j, i < 3 → j < 3 → i ≠ j → (i, j) ≠ (0, 2) → va_Nc (am_xn.getD i "") (am_xn.getD j "") U) ∧
  va_Nw (.castable "[I" "java/lang/Cloneable") U ∧ B ≤ Hh.size
/-- the cells of this run -/
def am_Rp (D : va_G) (B L : Nat) (xs : Nat → Int32) (ax : Nat → Nat) (U : State) (ad : Nat → Nat) (S : AmS) (H : Heap) : Prop :=
  S.2.2.1 ≤ am_EXT ∧ B ≤ H.size ∧
  (∀ k, am_EXT ≤ k → ad k = ax k ∧ S.1 k = am_I0 L k ∧ ∀ j, S.2.1 k j = am_M0 xs k j) ∧
  (∀ k, k < S.2.2.1 → (S.1 k).1 ≤ 65 ∧ ((S.1 k).1 ≠ 0 → B ≤ ad k ∧ ad k < H.size ∧ am_cl D U ad (S.1 k) (S.2.1 k) (ad k) H)) ∧
  (∀ i k, i < S.2.2.1 → k < S.2.2.1 → (S.1 i).1 ≠ 0 → (S.1 k).1 ≠ 0 → ad i = ad k → i = k) ∧
  (∀ k j, k < S.2.2.1 → am_wf S.2.2.1 (S.2.1 k j))
theorem am_tr_cat (ad : Nat → Nat) (v : Value) : (am_tr ad v).category = v.category := by cases v <;> rfl
theorem am_tr_sum (ad : Nat → Nat) (l : List Value) : ((l.map (am_tr ad)).map fun v => v.category).sum = (l.map fun v => v.category).sum := by
  rw [List.map_map]
  congr 1
  exact List.map_congr_left fun v _ => am_tr_cat ad v
def am_up (ad : Nat → Nat) (k q : Nat) : Nat → Nat := fun j => cond (Nat.beq j k) q (ad j)
theorem am_up_s (ad : Nat → Nat) (k q : Nat) : am_up ad k q k = q := by simp [am_up]
theorem am_beq_f {j k : Nat} (h : j ≠ k) : Nat.beq j k = false := by
  cases hb : Nat.beq j k with
  | false => rfl
  | true => exact absurd (Nat.eq_of_beq_eq_true hb) h
theorem am_beq_t (j : Nat) : Nat.beq j j = true := by
  induction j with
  | zero => rfl
  | succ n ih => exact ih
theorem am_up_n (ad : Nat → Nat) {j k : Nat} (q : Nat) (h : j ≠ k) : am_up ad k q j = ad j := by simp [am_up, am_beq_f h]
theorem am_tr_up {ad : Nat → Nat} {top q : Nat} {v : Value} (ht : top < am_EXT) (h : am_wf top v) : am_tr (am_up ad top q) v = am_tr ad v := by
  cases v with
  | ref k =>
    have hk := h k rfl
    show Value.ref (am_up ad top q k) = Value.ref (ad k)
    rw [am_up_n ad q (by omega)]
  | _ => rfl
theorem am_wf.mono {t t2 : Nat} {v : Value} (h : am_wf t v) (h2 : t ≤ t2) : am_wf t2 v := fun k hk => (h k hk).imp (fun z => by omega) id
theorem am_wf_i {t : Nat} {x : Int32} : am_wf t (.int x) := fun _ h => by cases h
theorem am_wf_l {t : Nat} {x : Int64} : am_wf t (.long x) := fun _ h => by cases h
theorem am_wf_d {t : Nat} {x : UInt64} : am_wf t (.double x) := fun _ h => by cases h
theorem am_wf_n {t : Nat} : am_wf t .null := fun _ h => by cases h
theorem am_wf_dv {t k : Nat} : am_wf t (am_dv k) := by
  unfold am_dv
  split
  · exact am_wf_l
  · exact am_wf_d
  · exact am_wf_n
  · exact am_wf_i
theorem am_cl.kept {D : va_G} {U : State} {ad : Nat → Nat} {i : Nat × Nat} {f : Nat → Value} {a : Nat} {H H1 : Heap} (h : am_cl D U ad i f a H) (hq : H1[a]? = H[a]?) : am_cl D U ad i f a H1 := by
  refine ⟨fun c h1 h2 => (h.1 c h1 h2).kept hq, fun h1 h2 => ?_, h.2.2⟩
  obtain ⟨z, cA, g1, g2⟩ := h.2.1 h1 h2
  exact ⟨z, cA, by rw [hq]; exact g1, g2⟩
theorem am_cl.ad {D : va_G} {U : State} {ad ad2 : Nat → Nat} {i : Nat × Nat} {f : Nat → Value} {a : Nat} {H : Heap} (h : am_cl D U ad i f a H) (hf : ∀ j, am_tr ad2 (f j) = am_tr ad (f j)) : am_cl D U ad2 i f a H := by
  have e : (fun j => am_tr ad2 (f j)) = (fun j => am_tr ad (f j)) := funext hf
  unfold am_cl
  rw [e]
  exact h
theorem am_cl.moved {D : va_G} {u U : State} {ad : Nat → Nat} {i : Nat × Nat} {f : Nat → Value} {a : Nat} {H : Heap} (hvm : u.vm.Alike U.vm) (h : am_cl D u ad i f a H) : am_cl D U ad i f a H := by
  refine ⟨h.1, fun h1 h2 => ?_, h.2.2⟩
  obtain ⟨z, cA, g1, g2, g3⟩ := h.2.1 h1 h2
  exact ⟨z, cA, g1, arrOfT_moved hvm g2, g3.moved hvm⟩
theorem am_Rp.moved {D : va_G} {B L : Nat} {xs : Nat → Int32} {ax : Nat → Nat} {u U : State} {ad : Nat → Nat} {S : AmS} {H : Heap} (hvm : u.vm.Alike U.vm) (h : am_Rp D B L xs ax u ad S H) : am_Rp D B L xs ax U ad S H := by
  obtain ⟨h1, h2, h3, h4, h5, h6⟩ := h
  exact ⟨h1, h2, h3, fun k hk => ⟨(h4 k hk).1, fun z => ⟨((h4 k hk).2 z).1, ((h4 k hk).2 z).2.1, ((h4 k hk).2 z).2.2.moved hvm⟩⟩, h5, h6⟩
theorem am_I0_tag (L k : Nat) : (am_I0 L k).1 = 0 ∨ (am_I0 L k).1 = 71 ∨ (am_I0 L k).1 = 74 ∨ (am_I0 L k).1 = 76 ∨ (am_I0 L k).1 = 77 := by
  unfold am_I0
  cases Nat.blt k am_EXT <;> cases Nat.beq k am_EXT <;> cases Nat.blt k (am_EXT + 4) <;> cases Nat.blt k (am_EXT + 4 + am_NS) <;> cases Nat.blt k (am_EXT + 4 + am_NS + am_NS) <;> simp
/-- a cell of a tag below 66 is one of this run -/
theorem am_Rp.own {D : va_G} {B L : Nat} {xs : Nat → Int32} {ax : Nat → Nat} {U : State} {ad : Nat → Nat} {S : AmS} {H : Heap} (h : am_Rp D B L xs ax U ad S H) {k : Nat} (hk : k < S.2.2.1 ∨ am_EXT ≤ k) (ht : (S.1 k).1 ≤ 65) (h0 : (S.1 k).1 ≠ 0) : k < S.2.2.1 ∧ B ≤ ad k ∧ ad k < H.size ∧ am_cl D U ad (S.1 k) (S.2.1 k) (ad k) H := by
  rcases hk with hk | hk
  · exact ⟨hk, (h.2.2.2.1 k hk).2 h0⟩
  · exfalso
    have e := (h.2.2.1 k hk).2.1
    rw [e] at ht h0
    rcases am_I0_tag L k with q | q | q | q | q <;> omega
theorem am_Rp.ext {D : va_G} {B L : Nat} {xs : Nat → Int32} {ax : Nat → Nat} {U : State} {ad : Nat → Nat} {S : AmS} {H : Heap} (h : am_Rp D B L xs ax U ad S H) {k : Nat} (hk : k < S.2.2.1 ∨ am_EXT ≤ k) (ht : 66 ≤ (S.1 k).1) : am_EXT ≤ k ∧ ad k = ax k ∧ S.1 k = am_I0 L k ∧ ∀ j, S.2.1 k j = am_M0 xs k j := by
  rcases hk with hk | hk
  · have := (h.2.2.2.1 k hk).1
    omega
  · exact ⟨hk, h.2.2.1 k hk⟩
/-- a cell of this run is written -/
theorem am_Rp.put {D : va_G} {B L : Nat} {xs : Nat → Int32} {ax : Nat → Nat} {U : State} {ad : Nat → Nat} {S : AmS} {H H1 : Heap} (h : am_Rp D B L xs ax U ad S H) {k : Nat} (hk : k < S.2.2.1) (h0 : (S.1 k).1 ≠ 0) {M : Nat → Nat → Value} (hM : ∀ b, b ≠ k → M b = S.2.1 b) (hw : ∀ j, am_wf S.2.2.1 (M k j))
    (hz : H1.size = H.size) (ho : ∀ q, q ≠ ad k → H1[q]? = H[q]?) (hc : am_cl D U ad (S.1 k) (M k) (ad k) H1) : am_Rp D B L xs ax U ad (S.1, M, S.2.2) H1 := by
  obtain ⟨h1, h2, h3, h4, h5, h6⟩ := h
  refine ⟨h1, by rw [hz]; exact h2, fun b hb => ?_, fun b hb => ⟨(h4 b hb).1, fun z => ?_⟩, h5, fun b j hb => ?_⟩
  · obtain ⟨g1, g2, g3⟩ := h3 b hb
    refine ⟨g1, g2, fun j => ?_⟩
    show M b j = _
    rw [hM b (by show b ≠ k; omega)]
    exact g3 j
  · obtain ⟨g1, g2, g3⟩ := (h4 b hb).2 z
    refine ⟨g1, by rw [hz]; exact g2, ?_⟩
    show am_cl D U ad (S.1 b) (M b) (ad b) H1
    by_cases e : b = k
    · rw [e]; exact hc
    · rw [hM b e]
      exact g3.kept (ho _ fun q => e (h5 b k hb hk z h0 q))
  · show am_wf S.2.2.1 (M b j)
    by_cases e : b = k
    · rw [e]; exact hw j
    · rw [hM b e]; exact h6 b j hb
/-- a cell is made -/
theorem am_Rp.new {D : va_G} {B L : Nat} {xs : Nat → Int32} {ax : Nat → Nat} {U : State} {ad : Nat → Nat} {S : AmS} {H H1 : Heap} (h : am_Rp D B L xs ax U ad S H) (hT : S.2.2.1 < am_EXT) {q : Nat} {i : Nat × Nat} {d : Nat → Value} (nc ns : Nat) (hi : i.1 ≤ 65) (hd : ∀ j, am_wf S.2.2.1 (d j))
    (hz : H.size ≤ H1.size) (ho : ∀ x, x < H.size → H1[x]? = H[x]?) (hc : i.1 ≠ 0 → H.size ≤ q ∧ q < H1.size ∧ am_cl D U ad i d q H1) :
    am_Rp D B L xs ax U (am_up ad S.2.2.1 q) (am_upI S.1 S.2.2.1 i, am_newM S.2.1 S.2.2.1 d, S.2.2.1 + 1, nc, ns) H1 := by
  obtain ⟨h1, h2, h3, h4, h5, h6⟩ := h
  have eI : ∀ b, b ≠ S.2.2.1 → am_upI S.1 S.2.2.1 i b = S.1 b := fun b hb => by simp [am_upI, am_beq_f hb]
  have eM : ∀ b, b ≠ S.2.2.1 → am_newM S.2.1 S.2.2.1 d b = S.2.1 b := fun b hb => by funext j; simp [am_newM, am_beq_f hb]
  have eI0 : am_upI S.1 S.2.2.1 i S.2.2.1 = i := by simp [am_upI]
  have eM0 : am_newM S.2.1 S.2.2.1 d S.2.2.1 = d := by funext j; simp [am_newM]
  refine ⟨hT, Nat.le_trans h2 hz, fun b hb => ?_, fun b hb => ?_, fun x y hx hy tx ty e => ?_, fun b j hb => ?_⟩
  · obtain ⟨g1, g2, g3⟩ := h3 b hb
    have hne : b ≠ S.2.2.1 := by omega
    refine ⟨by rw [am_up_n ad q hne]; exact g1, by show am_upI _ _ _ _ = _; rw [eI b hne]; exact g2, fun j => ?_⟩
    show am_newM _ _ _ _ _ = _
    rw [eM b hne]; exact g3 j
  · show (am_upI S.1 S.2.2.1 i b).1 ≤ 65 ∧ ((am_upI S.1 S.2.2.1 i b).1 ≠ 0 → B ≤ am_up ad S.2.2.1 q b ∧ am_up ad S.2.2.1 q b < H1.size ∧ am_cl D U (am_up ad S.2.2.1 q) (am_upI S.1 S.2.2.1 i b) (am_newM S.2.1 S.2.2.1 d b) (am_up ad S.2.2.1 q b) H1)
    by_cases e : b = S.2.2.1
    · rw [e, eI0, eM0, am_up_s]
      refine ⟨hi, fun z => ?_⟩
      obtain ⟨c1, c2, c3⟩ := hc z
      exact ⟨by omega, c2, c3.ad fun j => am_tr_up hT (hd j)⟩
    · rw [eI b e, eM b e, am_up_n ad q e]
      have hb' : b < S.2.2.1 := by have : b < S.2.2.1 + 1 := hb; omega
      refine ⟨(h4 b hb').1, fun z => ?_⟩
      obtain ⟨c1, c2, c3⟩ := (h4 b hb').2 z
      exact ⟨c1, by omega, (c3.kept (ho _ c2)).ad fun j => am_tr_up hT (h6 b j hb')⟩
  · have hx' : x < S.2.2.1 + 1 := hx
    have hy' : y < S.2.2.1 + 1 := hy
    have tx' : (am_upI S.1 S.2.2.1 i x).1 ≠ 0 := tx
    have ty' : (am_upI S.1 S.2.2.1 i y).1 ≠ 0 := ty
    by_cases ex : x = S.2.2.1 <;> by_cases ey : y = S.2.2.1
    · omega
    · exfalso
      rw [ex, am_up_s, am_up_n ad q ey] at e
      rw [ex, eI0] at tx'
      rw [eI y ey] at ty'
      have c1 := ((h4 y (by omega)).2 ty').2.1
      have c2 := (hc tx').1
      omega
    · exfalso
      rw [ey, am_up_s, am_up_n ad q ex] at e
      rw [ey, eI0] at ty'
      rw [eI x ex] at tx'
      have c1 := ((h4 x (by omega)).2 tx').2.1
      have c2 := (hc ty').1
      omega
    · rw [am_up_n ad q ex, am_up_n ad q ey] at e
      rw [eI x ex] at tx'
      rw [eI y ey] at ty'
      exact h5 x y (by omega) (by omega) tx' ty' e
  · show am_wf (S.2.2.1 + 1) (am_newM S.2.1 S.2.2.1 d b j)
    by_cases e : b = S.2.2.1
    · rw [e, eM0]; exact (hd j).mono (by omega)
    · rw [eM b e]
      exact (h6 b j (by have : b < S.2.2.1 + 1 := hb; omega)).mono (by omega)
theorem am_ax.moved {u U : State} {ty : FieldType} {N : Nat} {f : Nat → Value} {a : Nat} {H : Heap} (hvm : u.vm.Alike U.vm) (h : am_ax u ty N f a H) : am_ax U ty N f a H := by
  obtain ⟨cell, h1, h2, h3⟩ := h
  exact ⟨cell, h1, State.isArrayOf_alike hvm h2, h3⟩
theorem am_ax.kept {U : State} {ty : FieldType} {N : Nat} {f : Nat → Value} {a : Nat} {H H1 : Heap} (h : am_ax U ty N f a H) (hq : H1[a]? = H[a]?) : am_ax U ty N f a H1 := by
  obtain ⟨cell, h1, h2⟩ := h
  exact ⟨cell, by rw [hq]; exact h1, h2⟩
theorem am_ax_own {U : State} {cA : ClassId} {ty : FieldType} {N : Nat} {f : Nat → Value} {a : Nat} {H : Heap} (h : H[a]? = some (arrV cA N f)) (hA : ArrOfT U cA ty) : am_ax U ty N f a H :=
  ⟨_, h, hA _ _, (fun q => by cases q), by rw [arrV_size]; exact Nat.le_refl _, by rw [arrV_size], fun j hj => arrV_read cA f hj⟩
theorem am_wf_cond {t : Nat} {b : Bool} {x y : Value} (h1 : b = true → am_wf t x) (h2 : b = false → am_wf t y) : am_wf t (cond b x y) := by
  cases b
  · exact h2 rfl
  · exact h1 rfl
theorem am_M0_wf (xs : Nat → Int32) (k j : Nat) : am_wf 0 (am_M0 xs k j) := by
  unfold am_M0
  refine am_wf_cond (fun _ => am_wf_n) fun hb => am_wf_cond (fun _ => am_wf_i) fun _ => am_wf_cond (fun _ q hq => Or.inr ?_) fun _ => am_wf_cond (fun _ => am_wf_cond (fun _ q hq => Or.inr ?_) fun _ => am_wf_i) fun _ => am_wf_cond (fun _ => am_wf_i) fun _ => am_wf_n
  · have e : @Eq Nat _ q := Value.ref.inj hq
    omega
  · have e : @Eq Nat _ q := Value.ref.inj hq
    have h1 : ¬ k + 1 ≤ am_EXT := fun h => by
      rw [show Nat.blt k am_EXT = true from Nat.ble_eq_true_of_le h] at hb
      cases hb
    omega
/-- any array that is read -/
theorem am_arr {D : va_G} {B L : Nat} {xs : Nat → Int32} {ax : Nat → Nat} {s U : State} {ad : Nat → Nat} {S : AmS} {Hh H : Heap} (hE : am_E D B L xs ax U Hh) (hk : ∀ q, q < B → H[q]? = Hh[q]?) (h : am_Rp D B L xs ax U ad S H) {k : Nat} (hw : k < S.2.2.1 ∨ am_EXT ≤ k) (h1 : 61 ≤ (S.1 k).1) (h2 : (S.1 k).1 ≤ 76) (h3 : (S.1 k).1 ≤ 65 ∨ 71 ≤ (S.1 k).1) :
    am_ax U (am_ty (S.1 k).1) (S.1 k).2 (fun j => am_tr ad (S.2.1 k j)) (ad k) H := by
  rcases h3 with h3 | h3
  · obtain ⟨a1, a2, a3, a4⟩ := h.own hw h3 (by omega)
    obtain ⟨z, cA, g1, g2, g3⟩ := a4.2.1 h1 h3
    exact am_ax_own g1 g2
  · obtain ⟨a1, a2, a3, a4⟩ := h.ext hw (by omega)
    rw [a3] at h3 h2 ⊢
    obtain ⟨g1, g2⟩ := hE.2.2.2.1 k a1 h3 h2
    rw [a2]
    have e : (fun j => am_tr ad (S.2.1 k j)) = (fun j => am_tr ax (am_M0 xs k j)) := by
      funext j
      rw [a4 j]
      have hm : am_wf 0 (am_M0 xs k j) := am_M0_wf xs k j
      cases hv : am_M0 xs k j with
      | ref q =>
        have := hm q hv
        show Value.ref (ad q) = Value.ref (ax q)
        rw [(h.2.2.1 q (by omega)).1]
      | _ => rfl
    rw [e]
    exact g2.kept (hk _ g1)
end
section
/-! ONE INSTRUCTION: where the small machine goes on, the machine does. First those that leave the cells as they are. -/
theorem am_cnd {α : Type} {b : Bool} {x : Option α} {y : α} (h : cond b x none = some y) : b = true ∧ x = some y := by
  cases b
  · cases h
  · exact ⟨rfl, h⟩
theorem am_beq {a b : Nat} (h : Nat.beq a b = true) : a = b := Nat.eq_of_beq_eq_true h
theorem am_blt {a b : Nat} (h : Nat.blt a b = true) : a < b := by
  have := Nat.le_of_ble_eq_true (show Nat.ble (a + 1) b = true from h)
  omega
theorem am_nx_e {j n : Nat} {e : AmE} (h : am_nx j n e = true) : am_pc j (n + 1) = e.1 + e.2.2.1 := of_decide_eq_true h
theorem am_tg_e {j : Nat} {e : AmE} {t : Nat} {off : Int} (h : am_tg j e t off = true) : (e.1 : Int) + off = (am_pc j t : Int) := of_decide_eq_true h
def am_lt (ad : Nat → Nat) (ls : AmL) : List (Nat × Value) := ls.map fun q => (q.1, am_tr ad q.2)
theorem am_lk_at {lsA : Array Slot} {nL : Nat} {ad : Nat → Nat} : ∀ {ls : AmL} {i : Nat} {v : Value}, lv_has lsA nL (am_lt ad ls) → am_lk ls i = some v → lsA[i]? = some (.val (am_tr ad v)) := by
  intro ls
  induction ls with
  | nil => intro i v _ h; cases h
  | cons q l ih =>
    intro i v hl h
    unfold am_lk at h
    cases hb : Nat.beq q.1 i with
    | true =>
      rw [hb] at h
      have e : q.2 = v := Option.some.inj h
      have := hl.2.2 (q.1, am_tr ad q.2) (by simp [am_lt])
      rw [← am_beq hb, ← e]
      exact this
    | false =>
      rw [hb] at h
      exact ih ⟨hl.1, hl.2.1, fun z hz => hl.2.2 z (by simp only [am_lt, List.map_cons]; exact List.mem_cons_of_mem _ hz)⟩ h
theorem am_lt_f1 (ad : Nat → Nat) (ls : AmL) (i : Nat) : (am_lt ad ls).filter (fun q => !(q.1 == i) && !(q.1 + 1 == i && q.2.category == 2)) = am_lt ad (ls.filter (fun q => !(q.1 == i) && !(q.1 + 1 == i && q.2.category == 2))) := by
  unfold am_lt
  rw [List.filter_map]
  congr 1
  apply List.filter_congr
  intro q _
  simp [Function.comp, am_tr_cat]
theorem am_lt_f2 (ad : Nat → Nat) (ls : AmL) (i : Nat) : (am_lt ad ls).filter (fun q => !(q.1 == i) && (!(q.1 == i + 1) && !(q.1 + 1 == i && q.2.category == 2))) = am_lt ad (ls.filter (fun q => !(q.1 == i) && (!(q.1 == i + 1) && !(q.1 + 1 == i && q.2.category == 2)))) := by
  unfold am_lt
  rw [List.filter_map]
  congr 1
  apply List.filter_congr
  intro q _
  simp [Function.comp, am_tr_cat]
theorem am_lk_mem : ∀ {ls : AmL} {i : Nat} {v : Value}, am_lk ls i = some v → (i, v) ∈ ls := by
  intro ls
  induction ls with
  | nil => intro i v h; cases h
  | cons q l ih =>
    intro i v h
    unfold am_lk at h
    cases hb : Nat.beq q.1 i with
    | true =>
      rw [hb] at h
      have e : q.2 = v := Option.some.inj h
      rw [← am_beq hb, ← e]
      exact List.mem_cons_self
    | false =>
      rw [hb] at h
      exact List.mem_cons_of_mem _ (ih h)
section AmPure
variable {p : Program} {l : Launch} {e : Env} {R : Room} {s : State} {m : MethodId} {args : Array Value} {below : List Frame} {meth : Method} {c : Code} {H : Heap} {locs : List Loc} {cells slots : Nat} {Q : State → Prop}
variable {j n n' nL : Nat} {o : AmIns} {ce : AmE} {ls ls' : AmL} {st st' : List Value} {S S' : AmS} {lsA : Array Slot} {ad : Nat → Nat} {B : Nat}
theorem am_p0 (hx : p.tables.exec = Jvm.exec) (hb : c.code = am_b j) (hd : decode (am_b j) ce.1 = .ok (ce.2.1, ce.2.2.1)) (hk : am_k0 j n o ce = true) (hl : lv_has lsA nL (am_lt ad ls)) (h : am_o0 o n ls st S = some (n', ls', st', S'))
    (kk : S' = S → ∀ lsB, lv_has lsB nL (am_lt ad ls') → W p l e R s m args below meth c H locs cells slots Q (F0 m (am_pc j n') lsB (st'.map (am_tr ad)))) : W p l e R s m args below meth c H locs cells slots Q (F0 m ce.1 lsA (st.map (am_tr ad))) := by
  obtain ⟨pc, ins, len, ws⟩ := ce
  unfold am_o0 at h
  split at h
  · rename_i v hv
    obtain ⟨h1, h2⟩ := am_cnd h
    cases h2
    replace h1 := am_beq h1
    have ha := am_lk_at hl hv
    unfold am_k0 at hk
    obtain ⟨hn, hk⟩ := Bool.and_eq_true_iff.mp hk
    replace hn := am_nx_e hn
    have K := kk rfl lsA hl
    rw [hn] at K
    dsimp only at hk hd K ⊢
    split at hk <;> first | (cases hk; done) | skip
    all_goals
      obtain ⟨k1, hk⟩ := Bool.and_eq_true_iff.mp hk
      obtain ⟨k2, k3⟩ := Bool.and_eq_true_iff.mp hk
      replace k1 := am_beq k1
      replace k2 := am_beq k2
      replace k3 := am_beq k3
      rw [k2] at h1
      cases v <;> first | exact absurd h1 (Nat.ne_of_beq_eq_false rfl) | skip
    · subst k3; subst k1; exact lv_iload hx hb hd ha K
    · subst k3; exact lv_iload_n hx hb hd k1 ha K
    · subst k3; subst k1; exact lv_lload hx hb hd ha K
    · subst k3; exact lv_lload_n hx hb hd k1 ha K
    · subst k3; subst k1; exact lv_dload hx hb hd ha K
    · subst k3; exact lv_dload_n hx hb hd k1 ha K
    · subst k3; subst k1; exact lv_aloadN hx hb hd ha K
    · subst k3; subst k1; exact lv_aload hx hb hd ha K
    · subst k3; exact lv_aload_nN hx hb hd k1 ha K
    · subst k3; exact lv_aload_n hx hb hd k1 ha K
  · cases h
theorem am_p1 (hx : p.tables.exec = Jvm.exec) (hb : c.code = am_b j) (hd : decode (am_b j) ce.1 = .ok (ce.2.1, ce.2.2.1)) (hk : am_k1 j n o ce = true) (hn : nL = am_ml j) (hl : lv_has lsA nL (am_lt ad ls)) (h : am_o1 o n ls st S = some (n', ls', st', S')) (kk : S' = S → ∀ lsB, lv_has lsB nL (am_lt ad ls') → W p l e R s m args below meth c H locs cells slots Q (F0 m (am_pc j n') lsB (st'.map (am_tr ad)))) : W p l e R s m args below meth c H locs cells slots Q (F0 m ce.1 lsA (st.map (am_tr ad))) := by
  obtain ⟨pc, ins, len, ws⟩ := ce
  unfold am_o1 at h
  split at h
  · rename_i v r
    obtain ⟨h1, h2⟩ := am_cnd h
    obtain ⟨h1, h9⟩ := Bool.and_eq_true_iff.mp h1
    replace h1 := am_beq h1
    unfold am_k1 at hk
    obtain ⟨hn9, hk⟩ := Bool.and_eq_true_iff.mp hk
    obtain ⟨hm9, hk⟩ := Bool.and_eq_true_iff.mp hk
    replace hn9 := am_nx_e hn9
    replace hm9 := am_blt hm9
    have hm8 : o.2.1 < nL := by omega
    dsimp only at hk hd hn9 ⊢
    split at hk <;> first | (cases hk; done) | skip
    all_goals
      obtain ⟨k1, hk⟩ := Bool.and_eq_true_iff.mp hk
      obtain ⟨k2, k3⟩ := Bool.and_eq_true_iff.mp hk
      replace k1 := am_beq k1
      replace k2 := am_beq k2
      rw [k2] at h1
      cases v <;> first | exact absurd h1 (Nat.ne_of_beq_eq_false rfl) | skip
    · replace k3 := am_beq k3; subst k3; subst k1; cases h2; rw [hn9] at kk; exact lv_istore hx hb hd hl hm8 rfl fun lsB hB => kk rfl lsB (by rw [am_lt_f1] at hB; exact hB)
    · replace k3 := am_beq k3; subst k3; cases h2; rw [hn9] at kk; exact lv_istore_n hx hb hd k1 hl hm8 rfl fun lsB hB => kk rfl lsB (by rw [am_lt_f1] at hB; exact hB)
    · obtain ⟨k3, k4⟩ := Bool.and_eq_true_iff.mp k3; replace k3 := am_beq k3; replace k4 := am_blt k4; subst k3; subst k1; cases h2; rw [hn9] at kk; exact lv_lstore hx hb hd hl (by omega) rfl fun lsB hB => kk rfl lsB (by rw [am_lt_f2] at hB; exact hB)
    · obtain ⟨k3, k4⟩ := Bool.and_eq_true_iff.mp k3; replace k3 := am_beq k3; replace k4 := am_blt k4; subst k3; cases h2; rw [hn9] at kk; exact lv_lstore_n hx hb hd k1 hl (by omega) rfl fun lsB hB => kk rfl lsB (by rw [am_lt_f2] at hB; exact hB)
    · obtain ⟨k3, k4⟩ := Bool.and_eq_true_iff.mp k3; replace k3 := am_beq k3; replace k4 := am_blt k4; subst k3; subst k1; cases h2; rw [hn9] at kk; exact lv_dstore hx hb hd hl (by omega) rfl fun lsB hB => kk rfl lsB (by rw [am_lt_f2] at hB; exact hB)
    · obtain ⟨k3, k4⟩ := Bool.and_eq_true_iff.mp k3; replace k3 := am_beq k3; replace k4 := am_blt k4; subst k3; cases h2; rw [hn9] at kk; exact lv_dstore_n hx hb hd k1 hl (by omega) rfl fun lsB hB => kk rfl lsB (by rw [am_lt_f2] at hB; exact hB)
    · replace k3 := am_beq k3; subst k3; subst k1; cases h2; rw [hn9] at kk; exact lv_astoreN hx hb hd hl hm8 rfl fun lsB hB => kk rfl lsB (by rw [am_lt_f1] at hB; exact hB)
    · replace k3 := am_beq k3; subst k3; subst k1; cases h2; rw [hn9] at kk; exact lv_astore hx hb hd hl hm8 rfl fun lsB hB => kk rfl lsB (by rw [am_lt_f1] at hB; exact hB)
    · replace k3 := am_beq k3; subst k3; cases h2; rw [hn9] at kk; exact lv_astore_nN hx hb hd k1 hl hm8 rfl fun lsB hB => kk rfl lsB (by rw [am_lt_f1] at hB; exact hB)
    · replace k3 := am_beq k3; subst k3; cases h2; rw [hn9] at kk; exact lv_astore_n hx hb hd k1 hl hm8 rfl fun lsB hB => kk rfl lsB (by rw [am_lt_f1] at hB; exact hB)
  · cases h
theorem am_p2 (hx : p.tables.exec = Jvm.exec) (hb : c.code = am_b j) (hd : decode (am_b j) ce.1 = .ok (ce.2.1, ce.2.2.1)) (hk : am_k2 j n o ce = true) (hown : s.vm.findClass (am_own j) = some m.cls) (hts : ∀ w ∈ am_T, w.before args s = true) (hZ : va_Z "java/lang/String" "COMPACT_STRINGS" "Z" (.int 1) (am_A B) s s.heap) (hS : va_S (am_A B) s.heap H locs) (hl : lv_has lsA nL (am_lt ad ls)) (h : am_o2 o n ls st S = some (n', ls', st', S')) (kk : S' = S → ∀ lsB, lv_has lsB nL (am_lt ad ls') → W p l e R s m args below meth c H locs cells slots Q (F0 m (am_pc j n') lsB (st'.map (am_tr ad)))) : W p l e R s m args below meth c H locs cells slots Q (F0 m ce.1 lsA (st.map (am_tr ad))) := by
  obtain ⟨pc, ins, len, ws⟩ := ce
  unfold am_o2 at h
  cases h
  unfold am_k2 at hk
  obtain ⟨hn, hk⟩ := Bool.and_eq_true_iff.mp hk
  replace hn := am_nx_e hn
  have K := kk rfl lsA hl
  rw [hn] at K
  dsimp only at hk hd K ⊢
  split at hk <;> first | (cases hk; done) | skip
  · obtain ⟨k1, k3⟩ := Bool.and_eq_true_iff.mp hk; replace k3 := am_beq k3; subst k3; exact lv_iconst hx hb hd (by rw [of_decide_eq_true k1]) K
  · obtain ⟨k1, k3⟩ := Bool.and_eq_true_iff.mp hk; replace k3 := am_beq k3; subst k3; exact lv_bipush hx hb hd (of_decide_eq_true k1) K
  · obtain ⟨k1, k3⟩ := Bool.and_eq_true_iff.mp hk; replace k3 := am_beq k3; subst k3; exact lv_sipush hx hb hd (of_decide_eq_true k1) K
  · obtain ⟨k1, k3⟩ := Bool.and_eq_true_iff.mp hk; replace k3 := am_beq k3; subst k3; exact lv_ldc hx hb hown (hts _ (am_w_in k1)) hd K
  · obtain ⟨k1, k3⟩ := Bool.and_eq_true_iff.mp hk; replace k3 := am_beq k3; subst k3; exact lv_ldcw hx hb hown (hts _ (am_w_in k1)) hd K
  · obtain ⟨k1, k3⟩ := Bool.and_eq_true_iff.mp hk; obtain ⟨k2, k3⟩ := Bool.and_eq_true_iff.mp k3; replace k2 := am_beq k2; subst k2; rw [of_decide_eq_true k3] at K; exact va_gets hx hb hZ hS hown (hts _ (am_w_in k1)) (fun x h => h) hd K
theorem am_p3 (hx : p.tables.exec = Jvm.exec) (hb : c.code = am_b j) (hd : decode (am_b j) ce.1 = .ok (ce.2.1, ce.2.2.1)) (hk : am_k3 j n o ce = true) (hown : s.vm.findClass (am_own j) = some m.cls) (hts : ∀ w ∈ am_T, w.before args s = true) (hl : lv_has lsA nL (am_lt ad ls)) (h : am_o3 o n ls st S = some (n', ls', st', S')) (kk : S' = S → ∀ lsB, lv_has lsB nL (am_lt ad ls') → W p l e R s m args below meth c H locs cells slots Q (F0 m (am_pc j n') lsB (st'.map (am_tr ad)))) : W p l e R s m args below meth c H locs cells slots Q (F0 m ce.1 lsA (st.map (am_tr ad))) := by
  obtain ⟨pc, ins, len, ws⟩ := ce
  unfold am_o3 at h
  cases h
  unfold am_k3 at hk
  obtain ⟨hn, hk⟩ := Bool.and_eq_true_iff.mp hk
  replace hn := am_nx_e hn
  have K := kk rfl lsA hl
  rw [hn] at K
  dsimp only at hk hd K ⊢
  split at hk <;> first | (cases hk; done) | skip
  · obtain ⟨k1, k3⟩ := Bool.and_eq_true_iff.mp hk; replace k3 := am_beq k3; subst k3; exact lv_lconst hx hb hd (of_decide_eq_true k1) K
  · obtain ⟨k1, k3⟩ := Bool.and_eq_true_iff.mp hk; replace k3 := am_beq k3; subst k3; exact lv_ldc2 hx hb hown (hts _ (am_w_in k1)) hd K
theorem am_p4 (hx : p.tables.exec = Jvm.exec) (hb : c.code = am_b j) (hd : decode (am_b j) ce.1 = .ok (ce.2.1, ce.2.2.1)) (hk : am_k4 j n ce = true) (hl : lv_has lsA nL (am_lt ad ls)) (h : am_o4 o n ls st S = some (n', ls', st', S')) (kk : S' = S → ∀ lsB, lv_has lsB nL (am_lt ad ls') → W p l e R s m args below meth c H locs cells slots Q (F0 m (am_pc j n') lsB (st'.map (am_tr ad)))) : W p l e R s m args below meth c H locs cells slots Q (F0 m ce.1 lsA (st.map (am_tr ad))) := by
  obtain ⟨pc, ins, len, ws⟩ := ce
  unfold am_o4 at h
  cases h
  unfold am_k4 at hk
  obtain ⟨hn, hk⟩ := Bool.and_eq_true_iff.mp hk
  replace hn := am_nx_e hn
  have K := kk rfl lsA hl
  rw [hn] at K
  dsimp only at hk hd K ⊢
  split at hk <;> first | (cases hk; done) | skip
  · rename_i x hd9
    obtain ⟨k1, k3⟩ := Bool.and_eq_true_iff.mp hk; replace k3 := am_beq k3; subst k3; replace k1 := am_beq k1; have e9 : x = 0 := Fin.ext k1; subst e9; exact lv_dconst0 hx hb hd K
theorem am_p5 (hx : p.tables.exec = Jvm.exec) (hb : c.code = am_b j) (hd : decode (am_b j) ce.1 = .ok (ce.2.1, ce.2.2.1)) (hk : am_k5 j n ce = true) (hl : lv_has lsA nL (am_lt ad ls)) (h : am_o5 o n ls st S = some (n', ls', st', S')) (kk : S' = S → ∀ lsB, lv_has lsB nL (am_lt ad ls') → W p l e R s m args below meth c H locs cells slots Q (F0 m (am_pc j n') lsB (st'.map (am_tr ad)))) : W p l e R s m args below meth c H locs cells slots Q (F0 m ce.1 lsA (st.map (am_tr ad))) := by
  obtain ⟨pc, ins, len, ws⟩ := ce
  unfold am_o5 at h
  cases h
  unfold am_k5 at hk
  obtain ⟨hn, hk⟩ := Bool.and_eq_true_iff.mp hk
  replace hn := am_nx_e hn
  have K := kk rfl lsA hl
  rw [hn] at K
  dsimp only at hk hd K ⊢
  split at hk <;> first | (cases hk; done) | skip
  · have k3 := am_beq hk; subst k3; exact lv_null hx hb hd K
theorem am_p8 (hx : p.tables.exec = Jvm.exec) (hb : c.code = am_b j) (hd : decode (am_b j) ce.1 = .ok (ce.2.1, ce.2.2.1)) (hk : am_k8 j n o ce = true) (hl : lv_has lsA nL (am_lt ad ls)) (h : am_o8 o n ls st S = some (n', ls', st', S')) (kk : S' = S → ∀ lsB, lv_has lsB nL (am_lt ad ls') → W p l e R s m args below meth c H locs cells slots Q (F0 m (am_pc j n') lsB (st'.map (am_tr ad)))) : W p l e R s m args below meth c H locs cells slots Q (F0 m ce.1 lsA (st.map (am_tr ad))) := by
  obtain ⟨pc, ins, len, ws⟩ := ce
  unfold am_o8 at h
  split at h
  · rename_i y x r
    split at h
    · rename_i z hz
      cases h
      unfold am_k8 at hk
      obtain ⟨hn, hk⟩ := Bool.and_eq_true_iff.mp hk
      obtain ⟨k3, hk⟩ := Bool.and_eq_true_iff.mp hk
      replace hn := am_nx_e hn
      replace k3 := am_beq k3
      have K := kk rfl lsA hl
      rw [hn] at K
      dsimp only at hk hd K k3 ⊢
      split at hk <;> first | (cases hk; done) | skip
      all_goals subst_vars
      all_goals
        have k1 := am_beq hk
        rw [k1] at hz
      · cases hz; exact lv_iadd hx hb hd K
      · cases hz; exact lv_isub hx hb hd K
      · cases hz; exact lv_imul hx hb hd K
      · dsimp only [am_ib] at hz
        cases hy : decide (y = 0) with
        | true => rw [hy] at hz; cases hz
        | false => rw [hy] at hz; cases hz; exact lv_idiv hx hb hd (of_decide_eq_false hy) K
      · dsimp only [am_ib] at hz
        cases hy : decide (y = 0) with
        | true => rw [hy] at hz; cases hz
        | false => rw [hy] at hz; cases hz; exact lv_irem hx hb hd (of_decide_eq_false hy) K
      · cases hz; exact lv_iand hx hb hd K
      · cases hz; exact lv_ior hx hb hd K
      · cases hz; exact lv_ishl hx hb hd K
      · cases hz; exact lv_ishr hx hb hd K
      · cases hz; exact lv_iushr hx hb hd rfl K
    · cases h
  · cases h
theorem am_p10 (hx : p.tables.exec = Jvm.exec) (hb : c.code = am_b j) (hd : decode (am_b j) ce.1 = .ok (ce.2.1, ce.2.2.1)) (hk : am_k10 j n o ce = true) (hl : lv_has lsA nL (am_lt ad ls)) (h : am_o10 o n ls st S = some (n', ls', st', S')) (kk : S' = S → ∀ lsB, lv_has lsB nL (am_lt ad ls') → W p l e R s m args below meth c H locs cells slots Q (F0 m (am_pc j n') lsB (st'.map (am_tr ad)))) : W p l e R s m args below meth c H locs cells slots Q (F0 m ce.1 lsA (st.map (am_tr ad))) := by
  obtain ⟨pc, ins, len, ws⟩ := ce
  unfold am_o10 at h
  split at h
  · rename_i y x r
    split at h
    · rename_i z hz
      cases h
      unfold am_k10 at hk
      obtain ⟨hn, hk⟩ := Bool.and_eq_true_iff.mp hk
      obtain ⟨k3, hk⟩ := Bool.and_eq_true_iff.mp hk
      replace hn := am_nx_e hn
      replace k3 := am_beq k3
      have K := kk rfl lsA hl
      rw [hn] at K
      dsimp only at hk hd K k3 ⊢
      split at hk <;> first | (cases hk; done) | skip
      all_goals subst_vars
      all_goals
        have k1 := am_beq hk
        rw [k1] at hz
      · cases hz; exact lv_ladd hx hb hd K
      · cases hz; exact lv_lsub hx hb hd K
      · cases hz; exact lv_lmul hx hb hd K
      · dsimp only [am_lb] at hz
        cases hy : decide (y = 0) with
        | true => rw [hy] at hz; cases hz
        | false => rw [hy] at hz; cases hz; exact lv_ldiv hx hb hd (of_decide_eq_false hy) K
      · dsimp only [am_lb] at hz
        cases hy : decide (y = 0) with
        | true => rw [hy] at hz; cases hz
        | false => rw [hy] at hz; cases hz; exact lv_lrem hx hb hd (of_decide_eq_false hy) K
      · cases hz; exact lv_land hx hb hd K
      · cases hz; exact lv_lor hx hb hd K
    · cases h
  · cases h
theorem am_p11 (hx : p.tables.exec = Jvm.exec) (hb : c.code = am_b j) (hd : decode (am_b j) ce.1 = .ok (ce.2.1, ce.2.2.1)) (hk : am_k11 j n o ce = true) (hl : lv_has lsA nL (am_lt ad ls)) (h : am_o11 o n ls st S = some (n', ls', st', S')) (kk : S' = S → ∀ lsB, lv_has lsB nL (am_lt ad ls') → W p l e R s m args below meth c H locs cells slots Q (F0 m (am_pc j n') lsB (st'.map (am_tr ad)))) : W p l e R s m args below meth c H locs cells slots Q (F0 m ce.1 lsA (st.map (am_tr ad))) := by
  obtain ⟨pc, ins, len, ws⟩ := ce
  unfold am_o11 at h
  split at h
  · rename_i y x r
    unfold am_k11 at hk
    obtain ⟨hn, hk⟩ := Bool.and_eq_true_iff.mp hk
    obtain ⟨k3, hk⟩ := Bool.and_eq_true_iff.mp hk
    replace hn := am_nx_e hn
    replace k3 := am_beq k3
    dsimp only at hk hd k3 hn ⊢
    split at hk <;> first | (cases hk; done) | skip
    all_goals subst_vars
    · have k1 := am_beq hk
      rw [k1] at h
      cases h
      have K := kk rfl lsA hl
      rw [hn] at K
      exact lv_lshl hx hb hd rfl K
    · have k1 := am_beq hk
      rw [k1] at h
      cases h
      have K := kk rfl lsA hl
      rw [hn] at K
      exact lv_lshr hx hb hd rfl K
  · cases h
theorem am_p13 (hx : p.tables.exec = Jvm.exec) (hb : c.code = am_b j) (hd : decode (am_b j) ce.1 = .ok (ce.2.1, ce.2.2.1)) (hk : am_k13 j n ce = true) (hl : lv_has lsA nL (am_lt ad ls)) (h : am_o13 o n ls st S = some (n', ls', st', S')) (kk : S' = S → ∀ lsB, lv_has lsB nL (am_lt ad ls') → W p l e R s m args below meth c H locs cells slots Q (F0 m (am_pc j n') lsB (st'.map (am_tr ad)))) : W p l e R s m args below meth c H locs cells slots Q (F0 m ce.1 lsA (st.map (am_tr ad))) := by
  obtain ⟨pc, ins, len, ws⟩ := ce
  unfold am_o13 at h
  split at h
  · rename_i y x r
    cases h
    unfold am_k13 at hk
    obtain ⟨hn, hk⟩ := Bool.and_eq_true_iff.mp hk
    obtain ⟨k3, hk⟩ := Bool.and_eq_true_iff.mp hk
    replace hn := am_nx_e hn
    replace k3 := am_beq k3
    have K := kk rfl lsA hl
    dsimp only at hk hd K k3 hn ⊢
    rw [hn] at K
    split at hk <;> first | (cases hk; done) | skip
    all_goals subst_vars
    exact W.lcmp hx hb hd K
  · cases h
theorem am_p14 (hx : p.tables.exec = Jvm.exec) (hb : c.code = am_b j) (hd : decode (am_b j) ce.1 = .ok (ce.2.1, ce.2.2.1)) (hk : am_k14 j n o ce = true) (hl : lv_has lsA nL (am_lt ad ls)) (h : am_o14 o n ls st S = some (n', ls', st', S')) (kk : S' = S → ∀ lsB, lv_has lsB nL (am_lt ad ls') → W p l e R s m args below meth c H locs cells slots Q (F0 m (am_pc j n') lsB (st'.map (am_tr ad)))) : W p l e R s m args below meth c H locs cells slots Q (F0 m ce.1 lsA (st.map (am_tr ad))) := by
  obtain ⟨pc, ins, len, ws⟩ := ce
  unfold am_o14 at h
  split at h
  · rename_i v r
    split at h
    · rename_i w hw
      cases h
      unfold am_k14 at hk
      obtain ⟨hn, hk⟩ := Bool.and_eq_true_iff.mp hk
      obtain ⟨k3, hk⟩ := Bool.and_eq_true_iff.mp hk
      replace hn := am_nx_e hn
      replace k3 := am_beq k3
      have K := kk rfl lsA hl
      rw [hn] at K
      dsimp only at hk hd K k3 ⊢
      split at hk <;> first | (cases hk; done) | skip
      all_goals subst_vars
      all_goals
        have k1 := am_beq hk
        rw [k1] at hw
        cases v <;> first | (cases hw; done) | skip
        cases hw
      · exact lv_i2l hx hb hd rfl K
      · exact lv_l2i hx hb hd rfl K
      · exact lv_i2b hx hb hd rfl K
      · exact lv_i2c hx hb hd rfl K
      · exact lv_i2d hx hb hd K
      · exact lv_ineg hx hb hd K
      · exact lv_lneg hx hb hd K
    · cases h
  · cases h
theorem am_p15 (hx : p.tables.exec = Jvm.exec) (hb : c.code = am_b j) (hd : decode (am_b j) ce.1 = .ok (ce.2.1, ce.2.2.1)) (hk : am_k15 j n ce = true) (hl : lv_has lsA nL (am_lt ad ls)) (h : am_o15 o n ls st S = some (n', ls', st', S')) (kk : S' = S → ∀ lsB, lv_has lsB nL (am_lt ad ls') → W p l e R s m args below meth c H locs cells slots Q (F0 m (am_pc j n') lsB (st'.map (am_tr ad)))) : W p l e R s m args below meth c H locs cells slots Q (F0 m ce.1 lsA (st.map (am_tr ad))) := by
  obtain ⟨pc, ins, len, ws⟩ := ce
  unfold am_o15 at h
  split at h
  · rename_i y x r
    obtain ⟨h1, h2⟩ := am_cnd h
    cases h2
    unfold am_k15 at hk
    obtain ⟨hn, hk⟩ := Bool.and_eq_true_iff.mp hk
    obtain ⟨k3, hk⟩ := Bool.and_eq_true_iff.mp hk
    replace hn := am_nx_e hn
    replace k3 := am_beq k3
    have K := kk rfl lsA hl
    rw [hn] at K
    dsimp only at hk hd K k3 ⊢
    split at hk <;> first | (cases hk; done) | skip
    all_goals subst_vars
    exact lv_ddiv hx hb hd (by unfold vf_n64; exact of_decide_eq_true h1) K
  · cases h
theorem am_p16 (hx : p.tables.exec = Jvm.exec) (hb : c.code = am_b j) (hd : decode (am_b j) ce.1 = .ok (ce.2.1, ce.2.2.1)) (hk : am_k16 j n o ce = true) (hl : lv_has lsA nL (am_lt ad ls)) (h : am_o16 o n ls st S = some (n', ls', st', S')) (kk : S' = S → ∀ lsB, lv_has lsB nL (am_lt ad ls') → W p l e R s m args below meth c H locs cells slots Q (F0 m (am_pc j n') lsB (st'.map (am_tr ad)))) : W p l e R s m args below meth c H locs cells slots Q (F0 m ce.1 lsA (st.map (am_tr ad))) := by
  obtain ⟨pc, ins, len, ws⟩ := ce
  unfold am_o16 at h
  split at h
  · rename_i y x r
    cases h
    unfold am_k16 at hk
    obtain ⟨hn, hk⟩ := Bool.and_eq_true_iff.mp hk
    obtain ⟨k3, hk⟩ := Bool.and_eq_true_iff.mp hk
    replace hn := am_nx_e hn
    replace k3 := am_beq k3
    have K := kk rfl lsA hl
    dsimp only at hk hd K k3 hn ⊢
    rw [hn] at K
    split at hk <;> first | (cases hk; done) | skip
    all_goals subst_vars
    have k1 := am_beq hk
    rw [k1] at K
    exact lv_dcmp hx hb hd K
  · cases h
theorem am_p17 (hx : p.tables.exec = Jvm.exec) (hb : c.code = am_b j) (hd : decode (am_b j) ce.1 = .ok (ce.2.1, ce.2.2.1)) (hk : am_k17 j n o ce = true) (hn : nL = am_ml j) (hl : lv_has lsA nL (am_lt ad ls)) (h : am_o17 o n ls st S = some (n', ls', st', S')) (kk : S' = S → ∀ lsB, lv_has lsB nL (am_lt ad ls') → W p l e R s m args below meth c H locs cells slots Q (F0 m (am_pc j n') lsB (st'.map (am_tr ad)))) : W p l e R s m args below meth c H locs cells slots Q (F0 m ce.1 lsA (st.map (am_tr ad))) := by
  obtain ⟨pc, ins, len, ws⟩ := ce
  unfold am_o17 at h
  split at h
  · rename_i x hv
    cases h
    unfold am_k17 at hk
    obtain ⟨hn9, hk⟩ := Bool.and_eq_true_iff.mp hk
    obtain ⟨hm9, hk⟩ := Bool.and_eq_true_iff.mp hk
    replace hn9 := am_nx_e hn9
    replace hm9 := am_blt hm9
    rw [hn9] at kk
    dsimp only at hk hd kk ⊢
    split at hk <;> first | (cases hk; done) | skip
    obtain ⟨k1, hk⟩ := Bool.and_eq_true_iff.mp hk
    obtain ⟨k2, k3⟩ := Bool.and_eq_true_iff.mp hk
    replace k1 := am_beq k1
    replace k2 := of_decide_eq_true k2
    replace k3 := am_beq k3
    subst k3; subst k1; subst k2
    have hm := am_lk_mem hv
    obtain ⟨k, hk9⟩ := List.getElem?_of_mem hm
    refine lv_iinc (k := k) hx hb hd hl (by rw [am_lt, List.getElem?_map, hk9]; rfl) rfl (by omega) rfl fun lsB hB => kk rfl lsB (by rw [am_lt_f1] at hB; exact hB)
  · cases h
theorem am_p18 (hx : p.tables.exec = Jvm.exec) (hb : c.code = am_b j) (hd : decode (am_b j) ce.1 = .ok (ce.2.1, ce.2.2.1)) (hk : am_k18 j n o ce = true) (hl : lv_has lsA nL (am_lt ad ls)) (h : am_o18 o n ls st S = some (n', ls', st', S')) (kk : S' = S → ∀ lsB, lv_has lsB nL (am_lt ad ls') → W p l e R s m args below meth c H locs cells slots Q (F0 m (am_pc j n') lsB (st'.map (am_tr ad)))) : W p l e R s m args below meth c H locs cells slots Q (F0 m ce.1 lsA (st.map (am_tr ad))) := by
  obtain ⟨pc, ins, len, ws⟩ := ce
  unfold am_o18 at h
  split at h
  · rename_i x r
    cases h
    unfold am_k18 at hk
    obtain ⟨hn, hk⟩ := Bool.and_eq_true_iff.mp hk
    obtain ⟨k3, hk⟩ := Bool.and_eq_true_iff.mp hk
    replace hn := am_nx_e hn
    replace k3 := am_beq k3
    have K := kk rfl lsA hl
    dsimp only at hk hd K k3 hn ⊢
    subst k3
    split at hk <;> first | (cases hk; done) | skip
    all_goals
      obtain ⟨k1, k2⟩ := Bool.and_eq_true_iff.mp hk
      replace k1 := am_beq k1
      replace k2 := am_tg_e k2
      rw [k1] at K
    · refine lv_if_eq hx hb hd k2 (fun q => ?_) (fun q => ?_)
      · have e : am_cn 0 x 0 = true := decide_eq_true q
        rw [e] at K; exact K
      · have e : am_cn 0 x 0 = false := decide_eq_false q
        rw [e] at K; rw [← hn]; exact K
    · refine lv_if_ne hx hb hd k2 (fun q => ?_) (fun q => ?_)
      · have e : am_cn 1 x 0 = true := by show (!decide (x = 0)) = true; rw [decide_eq_false q]; rfl
        rw [e] at K; exact K
      · have e : am_cn 1 x 0 = false := by show (!decide (x = 0)) = false; rw [decide_eq_true q]; rfl
        rw [e] at K; rw [← hn]; exact K
    · refine lv_if_lt hx hb hd k2 (fun q => ?_) (fun q => ?_)
      · have e : am_cn 2 x 0 = true := decide_eq_true q
        rw [e] at K; exact K
      · have e : am_cn 2 x 0 = false := decide_eq_false q
        rw [e] at K; rw [← hn]; exact K
    · refine lv_if_ge hx hb hd k2 (fun q => ?_) (fun q => ?_)
      · have e : am_cn 3 x 0 = true := decide_eq_true q
        rw [e] at K; exact K
      · have e : am_cn 3 x 0 = false := decide_eq_false q
        rw [e] at K; rw [← hn]; exact K
    · refine lv_if_gt hx hb hd k2 (fun q => ?_) (fun q => ?_)
      · have e : am_cn 4 x 0 = true := decide_eq_true q
        rw [e] at K; exact K
      · have e : am_cn 4 x 0 = false := decide_eq_false q
        rw [e] at K; rw [← hn]; exact K
    · refine lv_if_le hx hb hd k2 (fun q => ?_) (fun q => ?_)
      · have e : am_cn 5 x 0 = true := decide_eq_true q
        rw [e] at K; exact K
      · have e : am_cn 5 x 0 = false := decide_eq_false q
        rw [e] at K; rw [← hn]; exact K
  · cases h
theorem am_p19 (hx : p.tables.exec = Jvm.exec) (hb : c.code = am_b j) (hd : decode (am_b j) ce.1 = .ok (ce.2.1, ce.2.2.1)) (hk : am_k19 j n o ce = true) (hl : lv_has lsA nL (am_lt ad ls)) (h : am_o19 o n ls st S = some (n', ls', st', S')) (kk : S' = S → ∀ lsB, lv_has lsB nL (am_lt ad ls') → W p l e R s m args below meth c H locs cells slots Q (F0 m (am_pc j n') lsB (st'.map (am_tr ad)))) : W p l e R s m args below meth c H locs cells slots Q (F0 m ce.1 lsA (st.map (am_tr ad))) := by
  obtain ⟨pc, ins, len, ws⟩ := ce
  unfold am_o19 at h
  split at h
  · rename_i y x r
    cases h
    unfold am_k19 at hk
    obtain ⟨hn, hk⟩ := Bool.and_eq_true_iff.mp hk
    obtain ⟨k3, hk⟩ := Bool.and_eq_true_iff.mp hk
    replace hn := am_nx_e hn
    replace k3 := am_beq k3
    have K := kk rfl lsA hl
    dsimp only at hk hd K k3 hn ⊢
    subst k3
    split at hk <;> first | (cases hk; done) | skip
    all_goals
      obtain ⟨k1, k2⟩ := Bool.and_eq_true_iff.mp hk
      replace k1 := am_beq k1
      replace k2 := am_tg_e k2
      rw [k1] at K
    · refine lv_icmp_eq hx hb hd k2 (fun q => ?_) (fun q => ?_)
      · have e : am_cn 0 x y = true := decide_eq_true q
        rw [e] at K; exact K
      · have e : am_cn 0 x y = false := decide_eq_false q
        rw [e] at K; rw [← hn]; exact K
    · refine lv_icmp_ne hx hb hd k2 (fun q => ?_) (fun q => ?_)
      · have e : am_cn 1 x y = true := by show (!decide (x = y)) = true; rw [decide_eq_false q]; rfl
        rw [e] at K; exact K
      · have e : am_cn 1 x y = false := by show (!decide (x = y)) = false; rw [decide_eq_true q]; rfl
        rw [e] at K; rw [← hn]; exact K
    · refine lv_icmp_lt hx hb hd k2 (fun q => ?_) (fun q => ?_)
      · have e : am_cn 2 x y = true := decide_eq_true q
        rw [e] at K; exact K
      · have e : am_cn 2 x y = false := decide_eq_false q
        rw [e] at K; rw [← hn]; exact K
    · refine lv_icmp_ge hx hb hd k2 (fun q => ?_) (fun q => ?_)
      · have e : am_cn 3 x y = true := decide_eq_true q
        rw [e] at K; exact K
      · have e : am_cn 3 x y = false := decide_eq_false q
        rw [e] at K; rw [← hn]; exact K
    · refine lv_icmp_gt hx hb hd k2 (fun q => ?_) (fun q => ?_)
      · have e : am_cn 4 x y = true := decide_eq_true q
        rw [e] at K; exact K
      · have e : am_cn 4 x y = false := decide_eq_false q
        rw [e] at K; rw [← hn]; exact K
    · refine lv_icmp_le hx hb hd k2 (fun q => ?_) (fun q => ?_)
      · have e : am_cn 5 x y = true := decide_eq_true q
        rw [e] at K; exact K
      · have e : am_cn 5 x y = false := decide_eq_false q
        rw [e] at K; rw [← hn]; exact K
  · cases h
theorem am_p20 (hx : p.tables.exec = Jvm.exec) (hb : c.code = am_b j) (hd : decode (am_b j) ce.1 = .ok (ce.2.1, ce.2.2.1)) (hk : am_k20 j n o ce = true) (hl : lv_has lsA nL (am_lt ad ls)) (h : am_o20 o n ls st S = some (n', ls', st', S')) (kk : S' = S → ∀ lsB, lv_has lsB nL (am_lt ad ls') → W p l e R s m args below meth c H locs cells slots Q (F0 m (am_pc j n') lsB (st'.map (am_tr ad)))) : W p l e R s m args below meth c H locs cells slots Q (F0 m ce.1 lsA (st.map (am_tr ad))) := by
  obtain ⟨pc, ins, len, ws⟩ := ce
  unfold am_o20 at h
  split at h
  · rename_i r
    cases h
    unfold am_k20 at hk
    obtain ⟨hn, hk⟩ := Bool.and_eq_true_iff.mp hk
    obtain ⟨k3, hk⟩ := Bool.and_eq_true_iff.mp hk
    replace hn := am_nx_e hn
    replace k3 := am_beq k3
    have K := kk rfl lsA hl
    dsimp only at hk hd K k3 hn ⊢
    subst k3
    split at hk <;> first | (cases hk; done) | skip
    all_goals
      obtain ⟨k1, k2⟩ := Bool.and_eq_true_iff.mp hk
      replace k1 := am_beq k1
      replace k2 := am_tg_e k2
      rw [k1] at K
    · exact lv_ifnullN hx hb hd k2 K
    · refine lv_ifnonnullN hx hb hd ?_
      rw [← hn]; exact K
  · rename_i a r
    cases h
    unfold am_k20 at hk
    obtain ⟨hn, hk⟩ := Bool.and_eq_true_iff.mp hk
    obtain ⟨k3, hk⟩ := Bool.and_eq_true_iff.mp hk
    replace hn := am_nx_e hn
    replace k3 := am_beq k3
    have K := kk rfl lsA hl
    dsimp only at hk hd K k3 hn ⊢
    subst k3
    split at hk <;> first | (cases hk; done) | skip
    all_goals
      obtain ⟨k1, k2⟩ := Bool.and_eq_true_iff.mp hk
      replace k1 := am_beq k1
      replace k2 := am_tg_e k2
      rw [k1] at K
    · refine lv_ifnull hx hb hd ?_
      rw [← hn]; exact K
    · exact lv_ifnonnull hx hb hd k2 K
  · cases h
theorem am_p22 (hx : p.tables.exec = Jvm.exec) (hb : c.code = am_b j) (hd : decode (am_b j) ce.1 = .ok (ce.2.1, ce.2.2.1)) (hk : am_k22 j o ce = true) (hl : lv_has lsA nL (am_lt ad ls)) (h : am_o22 o n ls st S = some (n', ls', st', S')) (kk : S' = S → ∀ lsB, lv_has lsB nL (am_lt ad ls') → W p l e R s m args below meth c H locs cells slots Q (F0 m (am_pc j n') lsB (st'.map (am_tr ad)))) : W p l e R s m args below meth c H locs cells slots Q (F0 m ce.1 lsA (st.map (am_tr ad))) := by
  obtain ⟨pc, ins, len, ws⟩ := ce
  unfold am_o22 at h
  cases h
  unfold am_k22 at hk
  have K := kk rfl lsA hl
  dsimp only at hk hd K ⊢
  split at hk <;> first | (cases hk; done) | skip
  obtain ⟨k2, k3⟩ := Bool.and_eq_true_iff.mp hk
  replace k3 := am_beq k3
  subst k3
  exact lv_goto hx hb hd (am_tg_e k2) K
theorem am_swt_in {j : Nat} {ce : AmE} : ∀ {tb : List (Int × Nat)} {offs : List Int} {lo x : Int} {d : Nat}, am_swt j ce tb offs lo = true → lo ≤ x → x < lo + (offs.length : Int) → ∃ off : Int, offs[(x - lo).toNat]? = some off ∧ (ce.1 : Int) + off = (am_pc j (am_sw tb x d) : Int) := by
  intro tb
  induction tb with
  | nil =>
    intro offs lo x d h h1 h2
    cases offs with
    | nil => simp at h2; omega
    | cons f l => cases h
  | cons q l ih =>
    intro offs lo x d h h1 h2
    cases offs with
    | nil => cases h
    | cons f l2 =>
      unfold am_swt at h
      obtain ⟨k1, h⟩ := Bool.and_eq_true_iff.mp h
      obtain ⟨k2, h⟩ := Bool.and_eq_true_iff.mp h
      replace k1 := of_decide_eq_true k1
      by_cases e : x = lo
      · refine ⟨f, ?_, ?_⟩
        · rw [e]; simp
        · unfold am_sw
          rw [k1, e, decide_eq_true rfl]
          exact am_tg_e k2
      · have h2' : x < lo + 1 + (l2.length : Int) := by simp only [List.length_cons] at h2; omega
        obtain ⟨off, g1, g2⟩ := ih (d := d) h (by omega) h2'
        refine ⟨off, ?_, ?_⟩
        · rw [show (x - lo).toNat = (x - (lo + 1)).toNat + 1 by omega]
          exact g1
        · unfold am_sw
          rw [k1, decide_eq_false (fun q => e q.symm)]
          exact g2
theorem am_swt_out {j : Nat} {ce : AmE} : ∀ {tb : List (Int × Nat)} {offs : List Int} {lo x : Int} {d : Nat}, am_swt j ce tb offs lo = true → (x < lo ∨ lo + (offs.length : Int) ≤ x) → am_sw tb x d = d := by
  intro tb
  induction tb with
  | nil => intro offs lo x d h h1; rfl
  | cons q l ih =>
    intro offs lo x d h h1
    cases offs with
    | nil => cases h
    | cons f l2 =>
      unfold am_swt at h
      obtain ⟨k1, h⟩ := Bool.and_eq_true_iff.mp h
      obtain ⟨k2, h⟩ := Bool.and_eq_true_iff.mp h
      replace k1 := of_decide_eq_true k1
      have h1' : x < lo ∨ lo + 1 + (l2.length : Int) ≤ x := by simp only [List.length_cons] at h1; omega
      unfold am_sw
      rw [k1, decide_eq_false (by omega)]
      exact ih h (by omega)
theorem am_swl_e {j : Nat} {ce : AmE} {d : Int} {t : Nat} (hd : (ce.1 : Int) + d = (am_pc j t : Int)) : ∀ {tb : List (Int × Nat)} {ps : List (Int × Int)} {x : Int}, am_swl j ce tb ps = true → (ce.1 : Int) + Op.lookupswitch.offset ps d x = (am_pc j (am_sw tb x t) : Int) := by
  intro tb
  induction tb with
  | nil =>
    intro ps x h
    cases ps with
    | nil => exact hd
    | cons f l => cases h
  | cons q l ih =>
    intro ps x h
    cases ps with
    | nil => cases h
    | cons f l2 =>
      obtain ⟨f1, f2⟩ := f
      unfold am_swl at h
      obtain ⟨k1, h8⟩ := Bool.and_eq_true_iff.mp h
      obtain ⟨k2, h9⟩ := Bool.and_eq_true_iff.mp h8
      replace k1 := of_decide_eq_true k1
      rw [Op.lookupswitch.offset_cons]
      unfold am_sw
      by_cases e : q.1 = x
      · rw [decide_eq_true e]
        dsimp only at k1 k2
        simp only [cond_true]
        rw [if_pos (by rw [← k1]; exact e)]
        exact am_tg_e k2
      · rw [decide_eq_false e]
        dsimp only at k1
        simp only [cond_false]
        rw [if_neg (by rw [← k1]; exact e)]
        exact ih h9
theorem am_p23 (hx : p.tables.exec = Jvm.exec) (hb : c.code = am_b j) (hd : decode (am_b j) ce.1 = .ok (ce.2.1, ce.2.2.1)) (hk : am_k23 j o ce = true) (hl : lv_has lsA nL (am_lt ad ls)) (h : am_o23 o n ls st S = some (n', ls', st', S')) (kk : S' = S → ∀ lsB, lv_has lsB nL (am_lt ad ls') → W p l e R s m args below meth c H locs cells slots Q (F0 m (am_pc j n') lsB (st'.map (am_tr ad)))) : W p l e R s m args below meth c H locs cells slots Q (F0 m ce.1 lsA (st.map (am_tr ad))) := by
  obtain ⟨pc, ins, len, ws⟩ := ce
  unfold am_o23 at h
  split at h
  · rename_i x r
    cases h
    unfold am_k23 at hk
    have K := kk rfl lsA hl
    dsimp only at hk hd K ⊢
    split at hk <;> first | (cases hk; done) | skip
    · rename_i d lo hi offs
      obtain ⟨k1, hk⟩ := Bool.and_eq_true_iff.mp hk
      obtain ⟨k2, k3⟩ := Bool.and_eq_true_iff.mp hk
      replace k1 := am_tg_e k1
      replace k2 := of_decide_eq_true k2
      by_cases q : x.toInt < lo ∨ hi < x.toInt
      · have e := am_swt_out (d := o.2.1) k3 (x := x.toInt) (by rw [Array.length_toList]; omega)
        rw [e] at K
        exact lv_tableOut hx hb hd q k1 K
      · obtain ⟨off, g1, g2⟩ := am_swt_in (d := o.2.1) k3 (x := x.toInt) (by omega) (by rw [Array.length_toList]; omega)
        exact lv_tableIn hx hb hd (by omega) (by omega) (by rw [← Array.getElem?_toList]; exact g1) g2 K
    · rename_i d ps
      obtain ⟨k1, hk⟩ := Bool.and_eq_true_iff.mp hk
      obtain ⟨k2, k3⟩ := Bool.and_eq_true_iff.mp hk
      replace k1 := am_tg_e k1
      exact lv_lookup hx hb hd (of_decide_eq_true k2) rfl (am_swl_e k1 k3) K
  · cases h
theorem am_p26 (hx : p.tables.exec = Jvm.exec) (hb : c.code = am_b j) (hd : decode (am_b j) ce.1 = .ok (ce.2.1, ce.2.2.1)) (hk : am_k26 j n ce = true) (hl : lv_has lsA nL (am_lt ad ls)) (h : am_o26 o n ls st S = some (n', ls', st', S')) (kk : S' = S → ∀ lsB, lv_has lsB nL (am_lt ad ls') → W p l e R s m args below meth c H locs cells slots Q (F0 m (am_pc j n') lsB (st'.map (am_tr ad)))) : W p l e R s m args below meth c H locs cells slots Q (F0 m ce.1 lsA (st.map (am_tr ad))) := by
  obtain ⟨pc, ins, len, ws⟩ := ce
  unfold am_o26 at h
  split at h
  · rename_i v r
    obtain ⟨h1, h2⟩ := am_cnd h
    cases h2
    unfold am_k26 at hk
    obtain ⟨hn, hk⟩ := Bool.and_eq_true_iff.mp hk
    obtain ⟨k3, hk⟩ := Bool.and_eq_true_iff.mp hk
    replace hn := am_nx_e hn
    replace k3 := am_beq k3
    have K := kk rfl lsA hl
    rw [hn] at K
    dsimp only at hk hd K k3 ⊢
    split at hk <;> first | (cases hk; done) | skip
    all_goals subst_vars
    exact lv_dup hx hb hd (by rw [am_tr_cat]; exact am_beq h1) K
  · cases h
theorem am_p27 (hx : p.tables.exec = Jvm.exec) (hb : c.code = am_b j) (hd : decode (am_b j) ce.1 = .ok (ce.2.1, ce.2.2.1)) (hk : am_k27 j n ce = true) (hl : lv_has lsA nL (am_lt ad ls)) (h : am_o27 o n ls st S = some (n', ls', st', S')) (kk : S' = S → ∀ lsB, lv_has lsB nL (am_lt ad ls') → W p l e R s m args below meth c H locs cells slots Q (F0 m (am_pc j n') lsB (st'.map (am_tr ad)))) : W p l e R s m args below meth c H locs cells slots Q (F0 m ce.1 lsA (st.map (am_tr ad))) := by
  obtain ⟨pc, ins, len, ws⟩ := ce
  unfold am_o27 at h
  split at h
  · rename_i v r
    obtain ⟨h1, h2⟩ := am_cnd h
    cases h2
    unfold am_k27 at hk
    obtain ⟨hn, hk⟩ := Bool.and_eq_true_iff.mp hk
    obtain ⟨k3, hk⟩ := Bool.and_eq_true_iff.mp hk
    replace hn := am_nx_e hn
    replace k3 := am_beq k3
    have K := kk rfl lsA hl
    rw [hn] at K
    dsimp only at hk hd K k3 ⊢
    split at hk <;> first | (cases hk; done) | skip
    all_goals subst_vars
    exact lv_pop hx hb hd (by rw [am_tr_cat]; exact am_beq h1) K
  · cases h
end AmPure
end
section
/-! INSTRUCTIONS ON CELLS. The state of a run within a method: its cells stand for the small machine's; what was there before (t0 cells, addresses ad0) lies where it lay; what has been made is counted. -/
def am_I (D : va_G) (B L : Nat) (xs : Nat → Int32) (ax : Nat → Nat) (s : State) (ad0 : Nat → Nat) (t0 c0 s0 : Nat) (ad : Nat → Nat) (S : AmS) (H : Heap) (locs : List Loc) (cells slots : Nat) : Prop :=
  am_Rp D B L xs ax s ad S H ∧ va_S (am_A B) s.heap H locs ∧ t0 ≤ S.2.2.1 ∧ (∀ k, k < t0 → ad k = ad0 k) ∧ cells + c0 = S.2.2.2.1 ∧ slots + s0 = S.2.2.2.2
theorem am_uws {c : Nat} (h : c < 13) : ∀ w ∈ u_ws (am_RX c) (am_TX c) (am_NX c), w ∈ am_T := by
  intro w hw
  obtain ⟨k, hk, rfl⟩ := List.mem_map.mp hw
  obtain ⟨-, h2⟩ := Bool.and_eq_true_iff.mp (am_kc_ok h)
  obtain ⟨-, h3⟩ := Bool.and_eq_true_iff.mp h2
  exact am_w_in (Bool.and_eq_true_iff.mp (List.all_eq_true.mp h3 k hk)).1
theorem am_inst {c : Nat} (h : c < 13) : Cond.instantiable (am_RX c) (am_NX c) ∈ am_T := am_w_in (Bool.and_eq_true_iff.mp (am_kc_ok h)).1
theorem am_init {c : Nat} (h : c < 13) : Cond.initialized (am_RX c) ∈ am_T := am_w_in (Bool.and_eq_true_iff.mp (Bool.and_eq_true_iff.mp (am_kc_ok h)).2).1
theorem am_fkx {c k : Nat} (h : c < 13) (hk : k < am_NX c) : am_fkt (am_tyX c k) (am_fk c k) = true := by
  obtain ⟨-, h2⟩ := Bool.and_eq_true_iff.mp (am_kc_ok h)
  obtain ⟨-, h3⟩ := Bool.and_eq_true_iff.mp h2
  exact (Bool.and_eq_true_iff.mp (List.all_eq_true.mp h3 k (List.mem_range.mpr hk))).2
theorem am_dv_t {t : FieldType} {k : Nat} (h : am_fkt t k = true) (ad : Nat → Nat) : defaultValue t = am_tr ad (am_dv k) := by
  unfold am_fkt at h
  split at h <;> first | (cases h; done) | (have e := Nat.eq_of_beq_eq_true h; subst e; rfl)
theorem am_fit_t {t : FieldType} {k : Nat} {v : Value} (h : am_fkt t k = true) (hf : am_fit k v = true) (ad : Nat → Nat) : narrow t (am_tr ad v) = am_tr ad v ∧ fits t (am_tr ad v) = true := by
  unfold am_fkt at h
  split at h <;> first | (cases h; done) | skip
  all_goals
    have e := Nat.eq_of_beq_eq_true h
    subst e
  · cases v <;> first | (cases hf; done) | exact ⟨rfl, rfl⟩
  · cases v <;> first | (cases hf; done) | exact ⟨rfl, rfl⟩
  · cases v <;> first | (cases hf; done) | exact ⟨rfl, rfl⟩
  · cases v <;> first | (cases hf; done) | skip
    rename_i x
    rcases Bool.or_eq_true_iff.mp (show (decide (x = 0) || decide (x = 1)) = true from hf) with q | q
    · rw [of_decide_eq_true q]; exact ⟨rfl, rfl⟩
    · rw [of_decide_eq_true q]; exact ⟨rfl, rfl⟩
  · cases v <;> first | (cases hf; done) | exact ⟨rfl, rfl⟩
  · cases v <;> first | (cases hf; done) | exact ⟨rfl, rfl⟩
theorem am_lt_up {ad : Nat → Nat} {top q : Nat} (ht : top < am_EXT) {ls : AmL} (h : ∀ z ∈ ls, am_wf top z.2) : am_lt (am_up ad top q) ls = am_lt ad ls := by
  unfold am_lt
  exact List.map_congr_left fun z hz => by rw [am_tr_up ht (h z hz)]
theorem am_st_up {ad : Nat → Nat} {top q : Nat} (ht : top < am_EXT) {st : List Value} (h : ∀ z ∈ st, am_wf top z) : st.map (am_tr (am_up ad top q)) = st.map (am_tr ad) := List.map_congr_left fun z hz => am_tr_up ht (h z hz)
theorem am_in_e {i : Int32} {n : Nat} (h : am_in i n = true) : ¬ i < 0 ∧ i.toNatClampNeg < n := by
  obtain ⟨h1, h2⟩ := Bool.and_eq_true_iff.mp h
  refine ⟨fun q => ?_, am_blt h2⟩
  rw [decide_eq_true q] at h1
  cases h1
theorem am_Rp.val {D : va_G} {B L : Nat} {xs : Nat → Int32} {ax : Nat → Nat} {U : State} {ad : Nat → Nat} {S : AmS} {H : Heap} (h : am_Rp D B L xs ax U ad S H) {k : Nat} (hk : am_EXT ≤ k) (j : Nat) : am_tr ad (S.2.1 k j) = am_tr ax (am_M0 xs k j) := by
  rw [(h.2.2.1 k hk).2.2 j]
  cases hv : am_M0 xs k j with
  | ref q =>
    have := am_M0_wf xs k j q hv
    show Value.ref (ad q) = Value.ref (ax q)
    rw [(h.2.2.1 q (by omega)).1]
  | _ => rfl
theorem am_S.put {B : Nat} {H0 H H1 : Heap} {locs : List Loc} {a k : Nat} (h : va_S (am_A B) H0 H locs) (z : H1.size = H.size) (oq : ∀ q : Nat, q ≠ a → H1[q]? = H[q]?) (ha : B ≤ a) : va_S (am_A B) H0 H1 (locs ++ [⟨a, k⟩]) := va_S.put h z oq ha
theorem am_S.new {B : Nat} {H0 H H1 : Heap} {locs : List Loc} (h : va_S (am_A B) H0 H locs) (z : H.size ≤ H1.size) (oq : ∀ q : Nat, q < H.size → H1[q]? = H[q]?) : va_S (am_A B) H0 H1 locs :=
  ⟨Nat.le_trans h.1 z, fun x h1 h2 => (oq x (Nat.lt_of_lt_of_le h1 h.1)).trans (h.2.1 x h1 h2), h.2.2⟩
section AmMem
variable {p : Program} {l : Launch} {e : Env} {R : Room} {s : State} {m : MethodId} {args : Array Value} {below : List Frame} {meth : Method} {c : Code} {H : Heap} {locs : List Loc} {cells slots : Nat} {Q : State → Prop}
variable {j n n' nL : Nat} {o : AmIns} {ce : AmE} {ls ls' : AmL} {st st' : List Value} {S S' : AmS} {lsA : Array Slot} {ad ad0 ax : Nat → Nat} {B L t0 c0 s0 : Nat} {xs : Nat → Int32} {D : va_G}
/-- ldc_w of a text -/
theorem am_ldcwS {cc : ByteArray} {pc : Nat} {lsB : Array Slot} {rest : List Value} (hexec : p.tables.exec = Jvm.exec) (hb : c.code = cc) {own tx : String} {index q : Nat} (hown : s.vm.findClass own = some m.cls) (hZ : vk_R own index tx q s) (hdg : decode cc pc = .ok (.ldc_w index, 3))
    (k : W p l e R s m args below meth c H locs cells slots Q (F0 m (pc + 3) lsB (.ref q :: rest))) : W p l e R s m args below meth c H locs cells slots Q (F0 m pc lsB rest) := by
  intro T hT X
  obtain ⟨t, a1, b1⟩ := k T hT X
  refine ⟨t, ?_, b1⟩
  obtain ⟨kc, cf, i, a', hk, hcf, hcp, -, hr, hev'⟩ := Cond.stringRef_spec (args := #[]) (first := s) (o := none) (idx := []) hown hZ.1
  have ea : q = a' := by
    have h9 := hZ.2.symm.trans (show (Term.string own index).eval #[] s none [] s = some (.ref a') from hev')
    exact Value.ref.inj (Option.some.inj h9)
  subst ea
  obtain ⟨k', hk', he⟩ := X.warmed.alike.2.2 _ _ hk
  have hr' : k'.resolved[index]? = some (some (.string q)) := by
    rcases X.warmed.entry hk hk' index with h | ⟨h, -⟩
    · rw [h]; exact hr
    · rw [hr] at h; cases h
  jvm_step X.here [hexec, hb, hdg, Op.ldc_w.wp_string (e := e) (s := T) (f := F0 m pc lsB rest) X.here.top hk' (by rw [he]; exact hcf) hcp hr']
  exact a1
theorem am_p6 (hx : p.tables.exec = Jvm.exec) (hb : c.code = am_b j) (hd : decode (am_b j) ce.1 = .ok (ce.2.1, ce.2.2.1)) (hk : am_k6 j n o ce = true) (hown : s.vm.findClass (am_own j) = some m.cls) (hts : ∀ w ∈ am_T, w.before args s = true) (hE : am_E D B L xs ax s s.heap) (hI : am_I D B L xs ax s ad0 t0 c0 s0 ad S H locs cells slots) (hw : ∀ v ∈ st, am_wf S.2.2.1 v) (hwl : ∀ q ∈ ls, am_wf S.2.2.1 q.2) (hl : lv_has lsA nL (am_lt ad ls)) (h : am_o6 o n ls st S = some (n', ls', st', S'))
    (kk : ∀ (ad' : Nat → Nat) (H' : Heap) (locs' : List Loc) (cells' slots' : Nat) (lsB : Array Slot), am_I D B L xs ax s ad0 t0 c0 s0 ad' S' H' locs' cells' slots' → lv_has lsB nL (am_lt ad' ls') → W p l e R s m args below meth c H' locs' cells' slots' Q (F0 m (am_pc j n') lsB (st'.map (am_tr ad')))) : W p l e R s m args below meth c H locs cells slots Q (F0 m ce.1 lsA (st.map (am_tr ad))) := by
  obtain ⟨pc, ins, len, ws⟩ := ce
  obtain ⟨hR, hS, hT0, hA0, hC, hSl⟩ := hI
  unfold am_o6 at h
  cases h
  unfold am_k6 at hk
  obtain ⟨hn, hk⟩ := Bool.and_eq_true_iff.mp hk
  replace hn := am_nx_e hn
  have K := kk ad H locs cells slots lsA ⟨hR, hS, hT0, hA0, hC, hSl⟩ hl
  rw [hn] at K
  have hax : ad (am_EXT + o.2.1) = ax (am_EXT + o.2.1) := (hR.2.2.1 _ (Nat.le_add_right _ _)).1
  rw [List.map_cons, show am_tr ad (.ref (am_EXT + o.2.1)) = .ref (ax (am_EXT + o.2.1)) from congrArg Value.ref hax] at K
  dsimp only at hk hd K ⊢
  split at hk <;> first | (cases hk; done) | skip
  · rename_i i
    obtain ⟨k1, hk⟩ := Bool.and_eq_true_iff.mp hk
    obtain ⟨k2, hk⟩ := Bool.and_eq_true_iff.mp hk
    obtain ⟨k3, k4⟩ := Bool.and_eq_true_iff.mp hk
    replace k1 := am_blt k1
    replace k2 := am_blt k2
    replace k3 := of_decide_eq_true k3
    replace k4 := am_beq k4
    subst k4
    have hR9 := hE.2.2.2.2.2.1 (o.2.1 - 4) (by omega)
    rw [show am_EXT + 4 + (o.2.1 - 4) = am_EXT + o.2.1 by omega] at hR9
    obtain ⟨e1, e2⟩ := Prod.mk.inj k3
    unfold am_sr at hR9
    rw [e1, e2] at hR9
    exact va_ldcS hx hb hown hR9 hd K
  · rename_i i
    obtain ⟨k1, hk⟩ := Bool.and_eq_true_iff.mp hk
    obtain ⟨k2, hk⟩ := Bool.and_eq_true_iff.mp hk
    obtain ⟨k3, k4⟩ := Bool.and_eq_true_iff.mp hk
    replace k1 := am_blt k1
    replace k2 := am_blt k2
    replace k3 := of_decide_eq_true k3
    replace k4 := am_beq k4
    subst k4
    have hR9 := hE.2.2.2.2.2.1 (o.2.1 - 4) (by omega)
    rw [show am_EXT + 4 + (o.2.1 - 4) = am_EXT + o.2.1 by omega] at hR9
    obtain ⟨e1, e2⟩ := Prod.mk.inj k3
    unfold am_sr at hR9
    rw [e1, e2] at hR9
    exact am_ldcwS hx hb hown hR9 hd K
  · rename_i i
    obtain ⟨k1, hk⟩ := Bool.and_eq_true_iff.mp hk
    obtain ⟨k2, hk⟩ := Bool.and_eq_true_iff.mp hk
    obtain ⟨k3, hk⟩ := Bool.and_eq_true_iff.mp hk
    obtain ⟨k5, k4⟩ := Bool.and_eq_true_iff.mp hk
    replace k1 := am_blt k1
    replace k2 := am_blt k2
    replace k3 := of_decide_eq_true k3
    replace k4 := am_beq k4
    subst k4
    have hZ := hE.2.2.2.2.2.2.1 (o.2.1 - 1) (by omega)
    rw [show am_EXT + 1 + (o.2.1 - 1) = am_EXT + o.2.1 by omega] at hZ
    exact va_gets hx hb hZ hS hown (hts _ (am_w_in k5)) (fun x h => h) hd K
theorem am_p24 (hx : p.tables.exec = Jvm.exec) (hb : c.code = am_b j) (hd : decode (am_b j) ce.1 = .ok (ce.2.1, ce.2.2.1)) (hk : am_k24 j n o ce = true) (hown : s.vm.findClass (am_own j) = some m.cls) (hts : ∀ w ∈ am_T, w.before args s = true) (hE : am_E D B L xs ax s s.heap) (hI : am_I D B L xs ax s ad0 t0 c0 s0 ad S H locs cells slots) (hw : ∀ v ∈ st, am_wf S.2.2.1 v) (hwl : ∀ q ∈ ls, am_wf S.2.2.1 q.2) (hl : lv_has lsA nL (am_lt ad ls)) (h : am_o24 o n ls st S = some (n', ls', st', S'))
    (kk : ∀ (ad' : Nat → Nat) (H' : Heap) (locs' : List Loc) (cells' slots' : Nat) (lsB : Array Slot), am_I D B L xs ax s ad0 t0 c0 s0 ad' S' H' locs' cells' slots' → lv_has lsB nL (am_lt ad' ls') → W p l e R s m args below meth c H' locs' cells' slots' Q (F0 m (am_pc j n') lsB (st'.map (am_tr ad')))) : W p l e R s m args below meth c H locs cells slots Q (F0 m ce.1 lsA (st.map (am_tr ad))) := by
  obtain ⟨pc, ins, len, ws⟩ := ce
  obtain ⟨hR, hS, hT0, hA0, hC, hSl⟩ := hI
  unfold am_o24 at h
  split at h
  · rename_i k r
    obtain ⟨h1, h2⟩ := am_cnd h
    cases h2
    replace h1 := am_beq h1
    have K := kk ad H locs cells slots lsA ⟨hR, hS, hT0, hA0, hC, hSl⟩ hl
    have hwk : k < S.2.2.1 ∨ am_EXT ≤ k := hw _ List.mem_cons_self k rfl
    unfold am_k24 at hk
    obtain ⟨hn, hk⟩ := Bool.and_eq_true_iff.mp hk
    replace hn := am_nx_e hn
    obtain ⟨k3, hk⟩ := Bool.and_eq_true_iff.mp hk
    replace k3 := am_beq k3
    rw [hn] at K
    dsimp only at hk hd K k3 ⊢
    subst k3
    split at hk <;> first | (cases hk; done) | skip
    rename_i i
    rcases Bool.or_eq_true_iff.mp hk with hk | hk
    · unfold am_kf at hk
      obtain ⟨ka, hk⟩ := Bool.and_eq_true_iff.mp hk
      obtain ⟨kb, hk⟩ := Bool.and_eq_true_iff.mp hk
      replace ka := am_blt ka
      replace kb := am_blt kb
      obtain ⟨-, hB, hlt, hcl⟩ := hR.own hwk (by omega) (by omega)
      obtain ⟨cell, q1, q2, q3, q4⟩ := hcl.1 o.2.1 h1 ka
      obtain ⟨hSK, hfc, kC, hkC, hkind⟩ := hE.1.1 o.2.1 _ (am_cl_has ka)
      obtain ⟨cf, kf, fi, f, hi, hsl⟩ := hSK o.2.2.1 kb
      have hst := (u_facts hfc hkC (u_lays hts (am_uws ka) kb) hi).1
      have hv : cell.slots[f.slot]? = some (am_tr ad (S.2.1 k o.2.2.1)) := by rw [hsl]; exact q4 o.2.2.1 kb
      rcases Bool.or_eq_true_iff.mp hk with hk | hk
      · exact W.getf hx hb hown (hts _ (am_w_in hk)) hi hst q1 (by rw [q3]; exact fun h => by cases h) hv rfl rfl hd K
      · rcases Bool.or_eq_true_iff.mp hk with hk | hk
        · exact va_Wgetf hx hb hown (va_Nw.use rfl (hE.2.1 _ (am_wn_in hk))) hi hst q1 (by rw [q3]; exact fun h => by cases h) hv rfl rfl hd K
        · exact va_Wgetf hx hb hown (va_Nw.use rfl (hE.2.1 _ (am_wn_in hk))) hi hst q1 (by rw [q3]; exact fun h => by cases h) hv rfl rfl hd K
    · obtain ⟨k1, hk⟩ := Bool.and_eq_true_iff.mp hk
      replace k1 := am_beq k1
      obtain ⟨a1, a2, a3, a4⟩ := hR.ext hwk (by omega)
      obtain ⟨g1, g2, g3⟩ := hE.2.2.2.2.1 k a1 (by rw [← a3]; omega)
      rw [List.map_cons, hR.val a1] at K
      rw [List.map_cons, show am_tr ad (.ref k) = .ref (ax k) from congrArg Value.ref a2]
      rcases Bool.or_eq_true_iff.mp hk with hk | hk
      · obtain ⟨k2, k4⟩ := Bool.and_eq_true_iff.mp hk
        rw [am_beq k2] at K
        exact vk_getf hx hb g2 hS hown (hts _ (am_w_in k4)) (fun x h => h) hd K
      · obtain ⟨k2, k4⟩ := Bool.and_eq_true_iff.mp hk
        rw [am_beq k2] at K
        exact vk_getf hx hb g3 hS hown (hts _ (am_w_in k4)) (fun x h => h) hd K
  · cases h
theorem am_p25 (hx : p.tables.exec = Jvm.exec) (hb : c.code = am_b j) (hd : decode (am_b j) ce.1 = .ok (ce.2.1, ce.2.2.1)) (hk : am_k25 j n o ce = true) (hown : s.vm.findClass (am_own j) = some m.cls) (hts : ∀ w ∈ am_T, w.before args s = true) (hE : am_E D B L xs ax s s.heap) (hI : am_I D B L xs ax s ad0 t0 c0 s0 ad S H locs cells slots) (hw : ∀ v ∈ st, am_wf S.2.2.1 v) (hwl : ∀ q ∈ ls, am_wf S.2.2.1 q.2) (hl : lv_has lsA nL (am_lt ad ls)) (hmn : meth.name = (am_y j).name) (h : am_o25 o n ls st S = some (n', ls', st', S'))
    (kk : ∀ (ad' : Nat → Nat) (H' : Heap) (locs' : List Loc) (cells' slots' : Nat) (lsB : Array Slot), am_I D B L xs ax s ad0 t0 c0 s0 ad' S' H' locs' cells' slots' → lv_has lsB nL (am_lt ad' ls') → W p l e R s m args below meth c H' locs' cells' slots' Q (F0 m (am_pc j n') lsB (st'.map (am_tr ad')))) : W p l e R s m args below meth c H locs cells slots Q (F0 m ce.1 lsA (st.map (am_tr ad))) := by
  obtain ⟨pc, ins, len, ws⟩ := ce
  obtain ⟨hR, hS, hT0, hA0, hC, hSl⟩ := hI
  unfold am_o25 at h
  split at h
  · rename_i v k r
    obtain ⟨h1, h2⟩ := am_cnd h
    cases h2
    obtain ⟨h1, h3⟩ := Bool.and_eq_true_iff.mp h1
    obtain ⟨h3, h4⟩ := Bool.and_eq_true_iff.mp h3
    replace h1 := am_beq h1
    replace h3 := am_blt h3
    unfold am_k25 at hk
    obtain ⟨hn, hk⟩ := Bool.and_eq_true_iff.mp hk
    replace hn := am_nx_e hn
    obtain ⟨k3, hk⟩ := Bool.and_eq_true_iff.mp hk
    replace k3 := am_beq k3
    dsimp only at hk hd k3 hn ⊢
    subst k3
    split at hk <;> first | (cases hk; done) | skip
    rename_i i
    obtain ⟨hkf, hk⟩ := Bool.and_eq_true_iff.mp hk
    obtain ⟨hft, hfin⟩ := Bool.and_eq_true_iff.mp hk
    unfold am_kf at hkf
    obtain ⟨ka, hkf⟩ := Bool.and_eq_true_iff.mp hkf
    obtain ⟨kb, hkf⟩ := Bool.and_eq_true_iff.mp hkf
    replace ka := am_blt ka
    replace kb := am_blt kb
    have hap := va_apart (own := "") hts (am_uws ka) (am_tyX o.2.1) (am_tyX_ok ka) (am_nmX ka) hE.1 (am_cl_has ka)
    obtain ⟨-, hB, hlt, hcl⟩ := hR.own (Or.inl h3) (by omega) (by omega)
    obtain ⟨cell, q1, q2, q3, q4⟩ := hcl.1 o.2.1 h1 ka
    obtain ⟨hSK, hfc, kC, hkC, hkind⟩ := hE.1.1 o.2.1 _ (am_cl_has ka)
    obtain ⟨cf, kf, fi, f, hi, hsl⟩ := hSK o.2.2.1 kb
    have hst := (u_facts hfc hkC (u_lays hts (am_uws ka) kb) hi).1
    obtain ⟨hnr, hfi⟩ := am_fit_t hft h4 ad
    have hty := am_tyX_ok ka o.2.2.1 kb
    have hfits := u_fits hfc hkC hkind (u_lays hts (am_uws ka) kb) hi hty hnr hfi
    have K : ∀ H' : Heap, H'[ad k]? = some (cell.setSlot f.slot (am_tr ad v)) → H'.size = H.size → (∀ q, q ≠ ad k → H'[q]? = H[q]?) → W p l e R s m args below meth c H' (locs ++ [⟨ad k, f.slot⟩]) cells slots Q (F0 m (pc + 3) lsA (st'.map (am_tr ad))) := by
      intro H' e1 e2 e3
      rw [← hn]
      refine kk ad H' _ cells slots lsA ⟨hR.put h3 (by omega) (M := am_upM S.2.1 k o.2.2.1 v) (fun b hb => by funext z; simp [am_upM, am_beq_f hb]) (fun z => ?_) e2 e3 ⟨fun c' hc' hlc => ?_, fun z1 z2 => absurd z1 (by omega), fun z => absurd z (by omega)⟩, am_S.put hS e2 e3 hB, hT0, hA0, hC, hSl⟩ hl
      · simp only [am_upM, am_beq_t, cond_true]
        cases Nat.beq z o.2.2.1
        · exact hR.2.2.2.2.2 k z h3
        · exact hw v List.mem_cons_self
      · have ec : c' = o.2.1 := by omega
        subst ec
        rw [hsl] at e1
        refine ⟨_, e1, q2, q3, fun z hz => ?_⟩
        rw [t_set q4 hap kb (am_tr ad v) z hz]
        simp only [updV, am_upM, am_beq_t, cond_true]
        by_cases ez : z = o.2.2.1
        · subst ez
          simp [am_beq_t]
        · simp [am_beq_f ez, ez]
    have hslot : f.slot < cell.slots.size := by rw [hsl]; exact k2_hasslot (q4 o.2.2.1 kb)
    cases hf : (am_TX o.2.1 o.2.2.1).2.2.2 with
    | true =>
      rw [hf] at hfin
      obtain ⟨f1, f2⟩ := Bool.and_eq_true_iff.mp hfin
      obtain ⟨f3, f4⟩ := of_decide_eq_true f1
      have hlay := hts _ (am_uws ka _ (u_in_lay kb))
      unfold u_lay at hlay
      rw [if_pos hf] at hlay
      have hcf : m.cls = cf := by
        obtain ⟨_, _, c', _, _, _, -, -, hf', -, -, -, hown2, -⟩ := Cond.laysFinal_spec hlay
        have e1 : c' = cf := by have := hi.symm.trans hf'; simp at this; exact this.1.symm
        rw [f4] at hown2
        rw [← e1]; exact Option.some.inj (hown.symm.trans hown2)
      exact W.putFinK hx hb hown (hts _ (am_w_in f2)) hi hst hcf (hmn.trans f3) (by rw [q2]; exact hfits) q1 q3 hslot rfl rfl hd K
    | false =>
      have hlay := hts _ (am_uws ka _ (u_in_lay kb))
      unfold u_lay at hlay
      rw [if_neg (by rw [hf]; decide)] at hlay
      have h6 := u_store hfc hkC hkind hlay hi hty hnr hfi
      rcases Bool.or_eq_true_iff.mp hkf with hk | hk
      · exact W.putK hx hb (f := f) ⟨hown, hts _ (am_w_in hk), ⟨_, _, _, hi⟩, hst⟩ (by rw [q2]; exact h6) q1 q3 hslot rfl rfl hd K
      · rcases Bool.or_eq_true_iff.mp hk with hk | hk
        · exact va_WputK hx hb hown (va_Nw.use rfl (hE.2.1 _ (am_wn_in hk))) hi hst (by rw [q2]; exact h6) q1 q3 hslot rfl rfl hd K
        · exact va_WputK hx hb hown (va_Nw.use rfl (hE.2.1 _ (am_wn_in hk))) hi hst (by rw [q2]; exact h6) q1 q3 hslot rfl rfl hd K
  · cases h
end AmMem
end
section
/-! INSTRUCTIONS ON CELLS, on: making, arrays. -/
theorem am_ek_ty {t : Nat} : (am_ek t = 0 → am_ty t = .int) ∧ (am_ek t = 1 → am_ty t = .long) ∧ (am_ek t = 10 → am_ty t = .boolean) ∧ (am_ek t = 11 → am_ty t = .byte) ∧ (am_ek t = 3 → (am_ty t).isReference = true) := by
  refine ⟨?_, ?_, ?_, ?_, ?_⟩ <;> (intro h; unfold am_ek at h; split at h <;> first | rfl | (cases h; done))
theorem am_ek_r {t b : Nat} (h : am_ek t = b) (hb : b < 99) : 61 ≤ t ∧ t ≤ 76 ∧ (t ≤ 65 ∨ 71 ≤ t) := by
  subst h
  unfold am_ek at hb
  split at hb <;> first | (exact absurd hb (by decide)) | (refine ⟨?_, ?_, ?_⟩ <;> omega)
theorem am_RA_p {s : State} {cA : ClassId} {ty : FieldType} (hp : ty = .int ∨ ty = .long ∨ ty = .boolean ∨ ty = .byte) (h : s.vm.findClass ("[" ++ ty.toString) = some cA) : va_RA s cA ty := by
  rcases hp with rfl | rfl | rfl | rfl <;> exact h
section AmMem2
variable {p : Program} {l : Launch} {e : Env} {R : Room} {s : State} {m : MethodId} {args : Array Value} {below : List Frame} {meth : Method} {c : Code} {H : Heap} {locs : List Loc} {cells slots : Nat} {Q : State → Prop}
variable {j n n' nL : Nat} {o : AmIns} {ce : AmE} {ls ls' : AmL} {st st' : List Value} {S S' : AmS} {lsA : Array Slot} {ad ad0 ax : Nat → Nat} {B L t0 c0 s0 : Nat} {xs : Nat → Int32} {D : va_G}
theorem am_p28 (hx : p.tables.exec = Jvm.exec) (hb : c.code = am_b j) (hd : decode (am_b j) ce.1 = .ok (ce.2.1, ce.2.2.1)) (hk : am_k28 j n o ce = true) (hown : s.vm.findClass (am_own j) = some m.cls) (hts : ∀ w ∈ am_T, w.before args s = true) (hE : am_E D B L xs ax s s.heap) (hI : am_I D B L xs ax s ad0 t0 c0 s0 ad S H locs cells slots) (hw : ∀ v ∈ st, am_wf S.2.2.1 v) (hwl : ∀ q ∈ ls, am_wf S.2.2.1 q.2) (hl : lv_has lsA nL (am_lt ad ls)) (hRc : S'.2.2.2.1 ≤ c0 + R.cells) (hRs : S'.2.2.2.2 ≤ s0 + R.slots) (h : am_o28 o n ls st S am_fk = some (n', ls', st', S'))
    (kk : ∀ (ad' : Nat → Nat) (H' : Heap) (locs' : List Loc) (cells' slots' : Nat) (lsB : Array Slot), am_I D B L xs ax s ad0 t0 c0 s0 ad' S' H' locs' cells' slots' → lv_has lsB nL (am_lt ad' ls') → W p l e R s m args below meth c H' locs' cells' slots' Q (F0 m (am_pc j n') lsB (st'.map (am_tr ad')))) : W p l e R s m args below meth c H locs cells slots Q (F0 m ce.1 lsA (st.map (am_tr ad))) := by
  obtain ⟨pc, ins, len, ws⟩ := ce
  obtain ⟨hR, hS, hT0, hA0, hC, hSl⟩ := hI
  unfold am_o28 at h
  obtain ⟨h1, h2⟩ := am_cnd h
  cases h2
  replace h1 := am_blt h1
  unfold am_k28 at hk
  replace hk := Bool.and_eq_true_iff.mp hk
  obtain ⟨hn, hk⟩ := hk
  replace hn := am_nx_e hn
  replace hk := Bool.and_eq_true_iff.mp hk
  obtain ⟨k3, hk⟩ := hk
  replace k3 := am_beq k3
  dsimp only at hk hd k3 hn hRc hRs ⊢
  subst k3
  split at hk <;> first | (cases hk; done) | skip
  rename_i i
  replace hk := Bool.and_eq_true_iff.mp hk
  obtain ⟨ka, hk⟩ := hk
  obtain ⟨kb, kc⟩ := Bool.and_eq_true_iff.mp hk
  replace ka := am_blt ka
  replace kb := am_beq kb
  have hKn := hE.1.1 o.2.1 _ (am_cl_has ka)
  refine W.newcK hx hb hown (hts _ (am_w_in kc)) (hts _ (am_inst ka)) (hts _ (am_init ka)) rfl hd (by omega) (by rw [← kb]; omega) hKn.2.1 rfl fun H1 kC hkC e1 z1 o1 => ?_
  have hborn := (u_born (am_tyX o.2.1) hts (am_uws ka) hKn hkC e1 (am_tyX_ok ka)).to (fun z hz => am_dv_t (am_fkx ka hz) ad)
  have K := kk (am_up ad S.2.2.1 H.size) H1 locs (cells + 1) (slots + o.2.2.1) lsA ⟨hR.new h1 _ _ (i := (o.2.1 + 1, o.2.2.1)) (d := fun z => am_dv (am_fk o.2.1 z)) (by show o.2.1 + 1 ≤ 65; omega) (fun z => am_wf_dv) (by omega) o1 (fun _ => ⟨Nat.le_refl _, by omega, fun c' hc' hlc => ?_, fun z1 z2 => absurd z1 (by show ¬ 61 ≤ o.2.1 + 1; omega), fun z => absurd z (by show ¬ o.2.1 + 1 = 61; omega)⟩),
    am_S.new hS (by omega) o1, Nat.le_succ_of_le hT0, fun k hk => ?_, by show cells + 1 + c0 = S.2.2.2.1 + 1; omega, by show slots + o.2.2.1 + s0 = S.2.2.2.2 + o.2.2.1; omega⟩ (by rw [am_lt_up h1 hwl]; exact hl)
  · rw [hn, List.map_cons, am_st_up h1 hw, show am_tr (am_up ad S.2.2.1 H.size) (.ref S.2.2.1) = .ref H.size from congrArg Value.ref (am_up_s _ _ _)] at K
    rw [kb] at K
    exact K
  · have ec : o.2.1 = c' := by have : o.2.1 + 1 = c' + 1 := hc'; omega
    subst ec
    exact hborn
  · rw [am_up_n ad _ (by omega)]
    exact hA0 k hk
theorem am_p29 (hx : p.tables.exec = Jvm.exec) (hb : c.code = am_b j) (hd : decode (am_b j) ce.1 = .ok (ce.2.1, ce.2.2.1)) (hk : am_k29 j n o ce = true) (hown : s.vm.findClass (am_own j) = some m.cls) (hts : ∀ w ∈ am_T, w.before args s = true) (hE : am_E D B L xs ax s s.heap) (hI : am_I D B L xs ax s ad0 t0 c0 s0 ad S H locs cells slots) (hw : ∀ v ∈ st, am_wf S.2.2.1 v) (hwl : ∀ q ∈ ls, am_wf S.2.2.1 q.2) (hl : lv_has lsA nL (am_lt ad ls)) (hRc : S'.2.2.2.1 ≤ c0 + R.cells) (hRs : S'.2.2.2.2 ≤ s0 + R.slots) (h : am_o29 o n ls st S = some (n', ls', st', S'))
    (kk : ∀ (ad' : Nat → Nat) (H' : Heap) (locs' : List Loc) (cells' slots' : Nat) (lsB : Array Slot), am_I D B L xs ax s ad0 t0 c0 s0 ad' S' H' locs' cells' slots' → lv_has lsB nL (am_lt ad' ls') → W p l e R s m args below meth c H' locs' cells' slots' Q (F0 m (am_pc j n') lsB (st'.map (am_tr ad')))) : W p l e R s m args below meth c H locs cells slots Q (F0 m ce.1 lsA (st.map (am_tr ad))) := by
  obtain ⟨pc, ins, len, ws⟩ := ce
  obtain ⟨hR, hS, hT0, hA0, hC, hSl⟩ := hI
  unfold am_o29 at h
  split at h
  · rename_i x r
    obtain ⟨h1, h2⟩ := am_cnd h
    cases h2
    replace h1 := Bool.and_eq_true_iff.mp h1
    obtain ⟨h3, h1⟩ := h1
    replace h1 := Bool.and_eq_true_iff.mp h1
    obtain ⟨h4, h1⟩ := h1
    replace h1 := am_blt h1
    have h4 : x.toNatClampNeg ≤ 1000000 := Nat.le_of_ble_eq_true h4
    have h5 : ¬ x < 0 := fun q => by
      rw [decide_eq_true q] at h3
      cases h3
    unfold am_k29 at hk
    replace hk := Bool.and_eq_true_iff.mp hk
    obtain ⟨hn, hk⟩ := hk
    replace hn := am_nx_e hn
    dsimp only at hk hd hn hRc hRs ⊢
    have G : ∀ (cA : ClassId) (H1 : Heap), 61 ≤ o.2.1 → o.2.1 ≤ 65 → H1[H.size]? = some (arrV cA x.toNatClampNeg (fun _ => am_tr ad (am_dv (am_ek o.2.1)))) → H1.size = H.size + 1 → (∀ q, q < H.size → H1[q]? = H[q]?) → ArrOfT s cA (am_ty o.2.1) → va_RA s cA (am_ty o.2.1) →
        W p l e R s m args below meth c H1 locs (cells + 1) (slots + x.toNatClampNeg) Q (F0 m (pc + len) lsA (.ref H.size :: r.map (am_tr ad))) := by
      intro cA H1 ha hz e1 z1 o1 g1 g2
      have K := kk (am_up ad S.2.2.1 H.size) H1 locs (cells + 1) (slots + x.toNatClampNeg) lsA ⟨hR.new h1 _ _ (i := (o.2.1, x.toNatClampNeg)) (d := fun _ => am_dv (am_ek o.2.1)) hz (fun z => am_wf_dv) (by omega) o1 (fun _ => ⟨Nat.le_refl _, by omega, fun c' hc' hlc => absurd hc' (by show ¬ o.2.1 = c' + 1; omega), fun z1 z2 => ⟨by show x.toNatClampNeg < 2 ^ 31; omega, cA, e1, g1, g2⟩, fun z _ => ⟨0, by show am_dv (am_ek o.2.1) = _; rw [show o.2.1 = 61 from z]; rfl⟩⟩),
        am_S.new hS (by omega) o1, Nat.le_succ_of_le hT0, fun k hk => ?_, by show cells + 1 + c0 = S.2.2.2.1 + 1; omega, by show slots + x.toNatClampNeg + s0 = S.2.2.2.2 + x.toNatClampNeg; omega⟩ (by rw [am_lt_up h1 hwl]; exact hl)
      · rw [hn, List.map_cons, am_st_up h1 (fun z hz => hw z (List.mem_cons_of_mem _ hz)), show am_tr (am_up ad S.2.2.1 H.size) (.ref S.2.2.1) = .ref H.size from congrArg Value.ref (am_up_s _ _ _)] at K
        exact K
      · rw [am_up_n ad _ (by omega)]
        exact hA0 k hk
    split at hk <;> first | (cases hk; done) | skip
    · obtain ⟨k1, k3⟩ := Bool.and_eq_true_iff.mp hk
      replace k1 := am_beq k1
      replace k3 := am_beq k3
      subst k3
      rw [k1] at G
      exact va_newaK hx hb (hts _ (am_xw 0 rfl (by decide))) rfl hd rfl h5 rfl (by show _ * 4 ≤ _; omega) (by omega) (by omega) rfl fun H1 cA e1 z1 o1 hA hN => G cA H1 (by decide) (by decide) e1 z1 o1 hA (am_RA_p (Or.inl rfl) hN)
    · obtain ⟨k1, k3⟩ := Bool.and_eq_true_iff.mp hk
      replace k1 := am_beq k1
      replace k3 := am_beq k3
      subst k3
      rw [k1] at G
      exact va_newaK hx hb (hts _ (am_xw 1 rfl (by decide))) rfl hd rfl h5 rfl (by show _ * 8 ≤ _; omega) (by omega) (by omega) rfl fun H1 cA e1 z1 o1 hA hN => G cA H1 (by decide) (by decide) e1 z1 o1 hA (am_RA_p (Or.inr (Or.inl rfl)) hN)
    · obtain ⟨k1, k3⟩ := Bool.and_eq_true_iff.mp hk
      replace k1 := am_beq k1
      replace k3 := am_beq k3
      subst k3
      rw [k1] at G
      exact va_newaK hx hb (hts _ (am_xw 2 rfl (by decide))) rfl hd rfl h5 rfl (by show _ * 1 ≤ _; omega) (by omega) (by omega) rfl fun H1 cA e1 z1 o1 hA hN => G cA H1 (by decide) (by decide) e1 z1 o1 hA (am_RA_p (Or.inr (Or.inr (Or.inl rfl))) hN)
    · obtain ⟨k1, k3⟩ := Bool.and_eq_true_iff.mp hk
      replace k1 := am_beq k1
      replace k3 := am_beq k3
      subst k3
      rw [k1] at G
      exact va_newaK hx hb (hts _ (am_xw 3 rfl (by decide))) rfl hd rfl h5 rfl (by show _ * 1 ≤ _; omega) (by omega) (by omega) rfl fun H1 cA e1 z1 o1 hA hN => G cA H1 (by decide) (by decide) e1 z1 o1 hA (am_RA_p (Or.inr (Or.inr (Or.inr rfl))) hN)
    · obtain ⟨k1, hk⟩ := Bool.and_eq_true_iff.mp hk
      obtain ⟨k3, k4⟩ := Bool.and_eq_true_iff.mp hk
      replace k1 := am_beq k1
      replace k3 := am_beq k3
      subst k3
      rw [k1] at G
      refine W.anew hx hb hown (hts _ (am_w_in k4)) (va_AO.use hE.2.2.1) rfl hd rfl h5 (by omega) (by omega) (by omega) fun cA kA comp f1 f2 f3 f4 => ?_
      exact G cA _ (by decide) (by decide) (by rw [Array.getElem?_push_size, ← arrV_new]; rfl) (Array.size_push _) (fun q hq => by rw [Array.getElem?_push, if_neg (Nat.ne_of_lt hq)]) (fun N z => ⟨(fun k h => by cases h), kA, f2, comp, f3⟩) ⟨kA, comp, f2, f3, f4, f1⟩
  · cases h
theorem am_p31 (hx : p.tables.exec = Jvm.exec) (hb : c.code = am_b j) (hd : decode (am_b j) ce.1 = .ok (ce.2.1, ce.2.2.1)) (hk : am_k31 j n ce = true) (hown : s.vm.findClass (am_own j) = some m.cls) (hts : ∀ w ∈ am_T, w.before args s = true) (hE : am_E D B L xs ax s s.heap) (hI : am_I D B L xs ax s ad0 t0 c0 s0 ad S H locs cells slots) (hw : ∀ v ∈ st, am_wf S.2.2.1 v) (hwl : ∀ q ∈ ls, am_wf S.2.2.1 q.2) (hl : lv_has lsA nL (am_lt ad ls)) (h : am_o31 o n ls st S = some (n', ls', st', S'))
    (kk : ∀ (ad' : Nat → Nat) (H' : Heap) (locs' : List Loc) (cells' slots' : Nat) (lsB : Array Slot), am_I D B L xs ax s ad0 t0 c0 s0 ad' S' H' locs' cells' slots' → lv_has lsB nL (am_lt ad' ls') → W p l e R s m args below meth c H' locs' cells' slots' Q (F0 m (am_pc j n') lsB (st'.map (am_tr ad')))) : W p l e R s m args below meth c H locs cells slots Q (F0 m ce.1 lsA (st.map (am_tr ad))) := by
  obtain ⟨pc, ins, len, ws⟩ := ce
  obtain ⟨hR, hS, hT0, hA0, hC, hSl⟩ := hI
  unfold am_o31 at h
  split at h
  · rename_i k r
    obtain ⟨h1, h2⟩ := am_cnd h
    cases h2
    replace h1 := Bool.and_eq_true_iff.mp h1
    obtain ⟨h1, h3⟩ := h1
    replace h1 := am_blt h1
    replace h3 := am_blt h3
    have K := kk ad H locs cells slots lsA ⟨hR, hS, hT0, hA0, hC, hSl⟩ hl
    have hwk : k < S.2.2.1 ∨ am_EXT ≤ k := hw _ List.mem_cons_self k rfl
    unfold am_k31 at hk
    replace hk := Bool.and_eq_true_iff.mp hk
    obtain ⟨hn, hk⟩ := hk
    replace hn := am_nx_e hn
    replace hk := Bool.and_eq_true_iff.mp hk
    obtain ⟨k3, hk⟩ := hk
    replace k3 := am_beq k3
    rw [hn] at K
    dsimp only at hk hd K k3 ⊢
    split at hk <;> first | (cases hk; done) | skip
    subst_vars
    have h4 : (S.1 k).1 ≤ 65 ∨ 71 ≤ (S.1 k).1 := by
      rcases hwk with hwk | hwk
      · exact Or.inl (hR.2.2.2.1 k hwk).1
      · right
        have e := (hR.2.2.1 k hwk).2.1
        rcases am_I0_tag L k with q | q | q | q | q <;> rw [e] at h1 h3 ⊢ <;> omega
    obtain ⟨cell, g1, g2, g3, g4, g5, g6⟩ := am_arr (s := s) hE (fun q hq => hS.2.1 q (Nat.lt_of_lt_of_le hq hE.2.2.2.2.2.2.2.2.2.2.2.2.2) (by show ¬ B ≤ q; omega)) hR hwk (by omega) (by omega) h4
    exact W.alen hx hb g1 g2 g5 rfl rfl hd K
  · cases h
theorem am_p32 (hx : p.tables.exec = Jvm.exec) (hb : c.code = am_b j) (hd : decode (am_b j) ce.1 = .ok (ce.2.1, ce.2.2.1)) (hk : am_k32 j n o ce = true) (hown : s.vm.findClass (am_own j) = some m.cls) (hts : ∀ w ∈ am_T, w.before args s = true) (hE : am_E D B L xs ax s s.heap) (hI : am_I D B L xs ax s ad0 t0 c0 s0 ad S H locs cells slots) (hw : ∀ v ∈ st, am_wf S.2.2.1 v) (hwl : ∀ q ∈ ls, am_wf S.2.2.1 q.2) (hl : lv_has lsA nL (am_lt ad ls)) (h : am_o32 o n ls st S = some (n', ls', st', S'))
    (kk : ∀ (ad' : Nat → Nat) (H' : Heap) (locs' : List Loc) (cells' slots' : Nat) (lsB : Array Slot), am_I D B L xs ax s ad0 t0 c0 s0 ad' S' H' locs' cells' slots' → lv_has lsB nL (am_lt ad' ls') → W p l e R s m args below meth c H' locs' cells' slots' Q (F0 m (am_pc j n') lsB (st'.map (am_tr ad')))) : W p l e R s m args below meth c H locs cells slots Q (F0 m ce.1 lsA (st.map (am_tr ad))) := by
  obtain ⟨pc, ins, len, ws⟩ := ce
  obtain ⟨hR, hS, hT0, hA0, hC, hSl⟩ := hI
  unfold am_o32 at h
  split at h
  · rename_i i k r
    obtain ⟨h1, h2⟩ := am_cnd h
    cases h2
    replace h1 := Bool.and_eq_true_iff.mp h1
    obtain ⟨h1, h3⟩ := h1
    obtain ⟨h3, h4⟩ := am_in_e h3
    have K := kk ad H locs cells slots lsA ⟨hR, hS, hT0, hA0, hC, hSl⟩ hl
    have hwk : k < S.2.2.1 ∨ am_EXT ≤ k := hw _ (List.mem_cons_of_mem _ List.mem_cons_self) k rfl
    unfold am_k32 at hk
    replace hk := Bool.and_eq_true_iff.mp hk
    obtain ⟨hn, hk⟩ := hk
    replace hn := am_nx_e hn
    replace hk := Bool.and_eq_true_iff.mp hk
    obtain ⟨k3, hk⟩ := hk
    replace k3 := am_beq k3
    rw [hn] at K
    dsimp only at hk hd K k3 ⊢
    have G : ∀ b, am_ek (S.1 k).1 = b → b < 99 → ∃ cell : Cell, H[ad k]? = some cell ∧ s.isArrayOf cell (am_ty (S.1 k).1) ∧ cell.vm ≠ .unknown ∧ ¬ (i < 0 ∨ cell.slots.size ≤ i.toNatClampNeg) ∧ cell.slots[i.toNatClampNeg]? = some (am_tr ad (S.2.1 k i.toNatClampNeg)) := by
      intro b hb1 hb2
      obtain ⟨r1, r2, r3⟩ := am_ek_r hb1 hb2
      obtain ⟨cell, g1, g2, g3, g4, g5, g6⟩ := am_arr (s := s) hE (fun q hq => hS.2.1 q (Nat.lt_of_lt_of_le hq hE.2.2.2.2.2.2.2.2.2.2.2.2.2) (by show ¬ B ≤ q; omega)) hR hwk r1 r2 r3
      exact ⟨cell, g1, g2, g3, fun q => by rcases q with q | q; exact h3 q; omega, g6 _ h4⟩
    split at hk <;> first | (cases hk; done) | skip
    all_goals
      subst_vars
      replace hk := am_beq hk
      rw [hk] at h1
    · have h1 : am_ek (S.1 k).1 = 0 := by
        rcases Bool.or_eq_true_iff.mp h1 with q | q
        · exact am_beq q
        · exact absurd (Bool.and_eq_true_iff.mp q).1 (by decide)
      obtain ⟨cell, g1, g2, g3, g4, g5⟩ := G 0 h1 (by decide)
      rw [am_ek_ty.1 h1] at g2
      exact W.iald hx hb g1 g2 g3 g4 g5 rfl rfl hd K
    · have h1 : am_ek (S.1 k).1 = 1 := by
        rcases Bool.or_eq_true_iff.mp h1 with q | q
        · exact am_beq q
        · exact absurd (Bool.and_eq_true_iff.mp q).1 (by decide)
      obtain ⟨cell, g1, g2, g3, g4, g5⟩ := G 1 h1 (by decide)
      rw [am_ek_ty.2.1 h1] at g2
      exact W.lald hx hb g1 g2 g3 g4 g5 rfl rfl hd K
    · rcases Bool.or_eq_true_iff.mp h1 with q | q
      · replace h1 := am_beq q
        obtain ⟨cell, g1, g2, g3, g4, g5⟩ := G 11 h1 (by decide)
        rw [am_ek_ty.2.2.2.1 h1] at g2
        exact W.bald hx hb g1 g2 g3 g4 g5 rfl rfl hd K
      · replace h1 := am_beq (Bool.and_eq_true_iff.mp q).2
        obtain ⟨cell, g1, g2, g3, g4, g5⟩ := G 10 h1 (by decide)
        rw [am_ek_ty.2.2.1 h1] at g2
        exact W.zald hx hb g1 g2 g3 g4 g5 rfl rfl hd K
    · have h1 : am_ek (S.1 k).1 = 3 := by
        rcases Bool.or_eq_true_iff.mp h1 with q | q
        · exact am_beq q
        · exact absurd (Bool.and_eq_true_iff.mp q).1 (by decide)
      obtain ⟨cell, g1, g2, g3, g4, g5⟩ := G 3 h1 (by decide)
      exact W.aald hx hb g1 g2 (am_ek_ty.2.2.2.2 h1) g3 g4 g5 rfl rfl hd K
  · cases h
theorem am_p33 (hx : p.tables.exec = Jvm.exec) (hb : c.code = am_b j) (hd : decode (am_b j) ce.1 = .ok (ce.2.1, ce.2.2.1)) (hk : am_k33 j n o ce = true) (hown : s.vm.findClass (am_own j) = some m.cls) (hts : ∀ w ∈ am_T, w.before args s = true) (hE : am_E D B L xs ax s s.heap) (hI : am_I D B L xs ax s ad0 t0 c0 s0 ad S H locs cells slots) (hw : ∀ v ∈ st, am_wf S.2.2.1 v) (hwl : ∀ q ∈ ls, am_wf S.2.2.1 q.2) (hl : lv_has lsA nL (am_lt ad ls)) (h : am_o33 o n ls st S = some (n', ls', st', S'))
    (kk : ∀ (ad' : Nat → Nat) (H' : Heap) (locs' : List Loc) (cells' slots' : Nat) (lsB : Array Slot), am_I D B L xs ax s ad0 t0 c0 s0 ad' S' H' locs' cells' slots' → lv_has lsB nL (am_lt ad' ls') → W p l e R s m args below meth c H' locs' cells' slots' Q (F0 m (am_pc j n') lsB (st'.map (am_tr ad')))) : W p l e R s m args below meth c H locs cells slots Q (F0 m ce.1 lsA (st.map (am_tr ad))) := by
  obtain ⟨pc, ins, len, ws⟩ := ce
  obtain ⟨hR, hS, hT0, hA0, hC, hSl⟩ := hI
  unfold am_o33 at h
  split at h
  · rename_i v i k r
    obtain ⟨h1, h2⟩ := am_cnd h
    cases h2
    replace h1 := Bool.and_eq_true_iff.mp h1
    obtain ⟨h1, h3⟩ := h1
    replace h3 := Bool.and_eq_true_iff.mp h3
    obtain ⟨h3, h5⟩ := h3
    replace h5 := Bool.and_eq_true_iff.mp h5
    obtain ⟨h5, h6⟩ := h5
    obtain ⟨h3, h4⟩ := am_in_e h3
    replace h5 := am_blt h5
    unfold am_k33 at hk
    replace hk := Bool.and_eq_true_iff.mp hk
    obtain ⟨hn, hk⟩ := hk
    replace hn := am_nx_e hn
    replace hk := Bool.and_eq_true_iff.mp hk
    obtain ⟨k3, hk⟩ := hk
    replace hk := Bool.and_eq_true_iff.mp hk
    obtain ⟨k4, hk⟩ := hk
    replace k3 := am_beq k3
    replace k4 := am_beq k4
    dsimp only at hk hd k3 k4 hn ⊢
    have G : ∀ t, (S.1 k).1 = t → 61 ≤ t → t ≤ 65 → B ≤ ad k ∧ ∃ cA : ClassId, H[ad k]? = some (arrV cA (S.1 k).2 (fun z => am_tr ad (S.2.1 k z))) ∧ ArrOfT s cA (am_ty t) ∧ va_RA s cA (am_ty t) ∧ (am_wf S.2.2.1 (am_nar t v) → (t = 61 → ∃ x : Int32, am_nar t v = .int x) →
        ∀ H' : Heap, H'[ad k]? = some ((arrV cA (S.1 k).2 (fun z => am_tr ad (S.2.1 k z))).setSlot i.toNatClampNeg (am_tr ad (am_nar t v))) → H'.size = H.size → (∀ q, q ≠ ad k → H'[q]? = H[q]?) → W p l e R s m args below meth c H' (locs ++ [⟨ad k, i.toNatClampNeg⟩]) cells slots Q (F0 m (pc + 1) lsA (st'.map (am_tr ad)))) := by
      intro t ht r1 r2
      obtain ⟨-, hB, hlt, hcl⟩ := hR.own (Or.inl h5) (by omega) (by omega)
      obtain ⟨z, cA, g1, g2, g3⟩ := hcl.2.1 (by omega) (by omega)
      rw [ht] at g2 g3
      refine ⟨hB, cA, g1, g2, g3, fun hwv hiv H' e1 e2 e3 => ?_⟩
      rw [← k3, ← hn]
      refine kk ad H' _ cells slots lsA ⟨hR.put h5 (by omega) (M := am_upM S.2.1 k i.toNatClampNeg (am_nar (S.1 k).1 v)) (fun b hb => by funext z; simp [am_upM, am_beq_f hb]) (fun z => ?_) e2 e3 ⟨fun c' hc' hlc => absurd hc' (by omega), fun z1 z2 => ⟨z, cA, ?_, by rw [ht]; exact g2, by rw [ht]; exact g3⟩, fun q z => ?_⟩, am_S.put hS e2 e3 hB, hT0, hA0, hC, hSl⟩ hl
      · simp only [am_upM, am_beq_t, cond_true]
        cases Nat.beq z i.toNatClampNeg
        · exact hR.2.2.2.2.2 k z h5
        · rw [ht]; exact hwv
      · rw [e1, arrV_store]
        congr 2
        funext y
        simp only [updV, am_upM, am_beq_t, cond_true]
        by_cases ey : y = i.toNatClampNeg
        · subst ey
          simp [am_beq_t, ht]
        · simp [am_beq_f ey, ey]
      · simp only [am_upM, am_beq_t, cond_true]
        cases Nat.beq z i.toNatClampNeg
        · exact hcl.2.2 q z
        · rw [ht]; exact hiv (by omega)
    have hin : ∀ (cA : ClassId) (f : Nat → Value), ¬ (i < 0 ∨ (arrV cA (S.1 k).2 f).slots.size ≤ i.toNatClampNeg) := fun cA f q => by
      rw [arrV_size] at q
      rcases q with q | q
      · exact h3 q
      · omega
    split at hk <;> first | (cases hk; done) | skip
    all_goals
      subst_vars
      replace hk := am_beq hk
      rw [hk] at h1 h6
    · have ht : (S.1 k).1 = 61 := by
        rcases Bool.or_eq_true_iff.mp h1 with q | q
        · exact am_beq q
        · exact absurd (Bool.and_eq_true_iff.mp q).1 (by decide)
      have h6 : am_kd v = 0 := am_beq h6
      cases v <;> first | exact absurd h6 (Nat.ne_of_beq_eq_false rfl) | skip
      obtain ⟨hB, cA, g1, g2, g3, g4⟩ := G 61 ht (by decide) (by decide)
      exact W.iast hx hb g1 (g2 _ _) (fun q => by cases q) (hin _ _) rfl rfl hd (g4 am_wf_i (fun _ => ⟨_, rfl⟩))
    · have ht : (S.1 k).1 = 62 := by
        rcases Bool.or_eq_true_iff.mp h1 with q | q
        · exact am_beq q
        · exact absurd (Bool.and_eq_true_iff.mp q).1 (by decide)
      have h6 : am_kd v = 1 := am_beq h6
      cases v <;> first | exact absurd h6 (Nat.ne_of_beq_eq_false rfl) | skip
      obtain ⟨hB, cA, g1, g2, g3, g4⟩ := G 62 ht (by decide) (by decide)
      exact W.last hx hb g1 (g2 _ _) (fun q => by cases q) (hin _ _) rfl rfl hd (g4 am_wf_l (fun q => absurd q (by decide)))
    · have h6 : am_kd v = 0 := am_beq h6
      cases v <;> first | exact absurd h6 (Nat.ne_of_beq_eq_false rfl) | skip
      rcases Bool.or_eq_true_iff.mp h1 with q | q
      · obtain ⟨hB, cA, g1, g2, g3, g4⟩ := G 64 (am_beq q) (by decide) (by decide)
        exact W.bast hx hb g1 (g2 _ _) (fun q => by cases q) (hin _ _) rfl rfl hd (g4 am_wf_i (fun q => absurd q (by decide)))
      · obtain ⟨hB, cA, g1, g2, g3, g4⟩ := G 63 (am_beq (Bool.and_eq_true_iff.mp q).2) (by decide) (by decide)
        exact W.zast hx hb g1 (g2 _ _) (fun q => by cases q) (hin _ _) rfl rfl hd (g4 am_wf_i (fun q => absurd q (by decide)))
    · have ht : (S.1 k).1 = 65 := by
        rcases Bool.or_eq_true_iff.mp h1 with q | q
        · exact am_beq q
        · exact absurd (Bool.and_eq_true_iff.mp q).1 (by decide)
      obtain ⟨hB, cA, g1, g2, g3, g4⟩ := G 65 ht (by decide) (by decide)
      cases v <;> first | (cases h6; done) | skip
      rename_i q
      have hq : (S.1 q).1 = 12 := by
        have := am_beq (show Nat.beq (S.1 q).1 (o.2.2.1 + 1) = true from h6)
        omega
      obtain ⟨-, hB2, hlt2, hcl2⟩ := hR.own (hw _ List.mem_cons_self q rfl) (by omega) (by omega)
      obtain ⟨cv, v1, v2, v3, -⟩ := hcl2.1 11 hq (by decide)
      obtain ⟨-, hfc, kC, hkC, hkind⟩ := hE.1.1 11 _ (am_cl_has (by decide))
      obtain ⟨kA, comp, f2, f3, f4, -⟩ := g3
      have ec : comp = D.1 11 := Option.some.inj (f4.symm.trans hfc)
      subst ec
      refine W.aast hx hb g1 (fun q h => by cases h) (fun h => by cases h) f2 f3 rfl hkC ⟨h3, by rw [arrV_size]; exact h4⟩ v1 (fun q h => by rw [v3] at h; cases h) (by rw [v2]; exact hkC) (by rw [v2]; exact va_asg _ _) rfl rfl hd (g4 (hw _ List.mem_cons_self) (fun q => absurd q (by decide)))
  · cases h
theorem am_p34 (hx : p.tables.exec = Jvm.exec) (hb : c.code = am_b j) (hd : decode (am_b j) ce.1 = .ok (ce.2.1, ce.2.2.1)) (hk : am_k34 j n ce = true) (hown : s.vm.findClass (am_own j) = some m.cls) (hts : ∀ w ∈ am_T, w.before args s = true) (hE : am_E D B L xs ax s s.heap) (hI : am_I D B L xs ax s ad0 t0 c0 s0 ad S H locs cells slots) (hw : ∀ v ∈ st, am_wf S.2.2.1 v) (hwl : ∀ q ∈ ls, am_wf S.2.2.1 q.2) (hl : lv_has lsA nL (am_lt ad ls)) (h : am_o34 o n ls st S = some (n', ls', st', S'))
    (kk : ∀ (ad' : Nat → Nat) (H' : Heap) (locs' : List Loc) (cells' slots' : Nat) (lsB : Array Slot), am_I D B L xs ax s ad0 t0 c0 s0 ad' S' H' locs' cells' slots' → lv_has lsB nL (am_lt ad' ls') → W p l e R s m args below meth c H' locs' cells' slots' Q (F0 m (am_pc j n') lsB (st'.map (am_tr ad')))) : W p l e R s m args below meth c H locs cells slots Q (F0 m ce.1 lsA (st.map (am_tr ad))) := by
  obtain ⟨pc, ins, len, ws⟩ := ce
  obtain ⟨hR, hS, hT0, hA0, hC, hSl⟩ := hI
  unfold am_o34 at h
  split at h
  · rename_i k r
    obtain ⟨h1, h2⟩ := am_cnd h
    cases h2
    replace h1 := am_beq h1
    have K := kk ad H locs cells slots lsA ⟨hR, hS, hT0, hA0, hC, hSl⟩ hl
    have hwk : k < S.2.2.1 ∨ am_EXT ≤ k := hw _ List.mem_cons_self k rfl
    unfold am_k34 at hk
    replace hk := Bool.and_eq_true_iff.mp hk
    obtain ⟨hn, hk⟩ := hk
    replace hn := am_nx_e hn
    replace hk := Bool.and_eq_true_iff.mp hk
    obtain ⟨k3, hk⟩ := hk
    replace k3 := am_beq k3
    rw [hn] at K
    dsimp only at hk hd K k3 ⊢
    subst k3
    split at hk <;> first | (cases hk; done) | skip
    obtain ⟨-, hB, hlt, hcl⟩ := hR.own hwk (by omega) (by omega)
    obtain ⟨z, cA, g1, g2, g3⟩ := hcl.2.1 (by omega) (by omega)
    obtain ⟨f, hf⟩ := Classical.axiomOfChoice (hcl.2.2 h1)
    have ef : (fun j => am_tr ad (S.2.1 k j)) = (fun j => .int (f j)) := funext fun j => by rw [hf j]; rfl
    rw [ef] at g1
    rw [h1] at g3
    exact va_castA hx hb hown (hts _ (am_w_in hk)) (D := D) (cl := vwCl) (ws := [(ad k, .inl (cA, (S.1 k).2, .inl f))]) (fun y q hy => by
      cases y with
      | zero => cases hy; exact g1
      | succ y => cases hy) 0 rfl g3 hd K
  · cases h
theorem am_p35 (hx : p.tables.exec = Jvm.exec) (hb : c.code = am_b j) (hd : decode (am_b j) ce.1 = .ok (ce.2.1, ce.2.2.1)) (hk : am_k35 j n ce = true) (hown : s.vm.findClass (am_own j) = some m.cls) (hts : ∀ w ∈ am_T, w.before args s = true) (hE : am_E D B L xs ax s s.heap) (hI : am_I D B L xs ax s ad0 t0 c0 s0 ad S H locs cells slots) (hw : ∀ v ∈ st, am_wf S.2.2.1 v) (hwl : ∀ q ∈ ls, am_wf S.2.2.1 q.2) (hl : lv_has lsA nL (am_lt ad ls)) (hml : c.maxLocals = nL) (hRf : 1 ≤ R.frames) (hRl : 112 ≤ R.locals) (h : am_o35 o n ls st S = some (n', ls', st', S'))
    (kk : ∀ (ad' : Nat → Nat) (H' : Heap) (locs' : List Loc) (cells' slots' : Nat) (lsB : Array Slot), am_I D B L xs ax s ad0 t0 c0 s0 ad' S' H' locs' cells' slots' → lv_has lsB nL (am_lt ad' ls') → W p l e R s m args below meth c H' locs' cells' slots' Q (F0 m (am_pc j n') lsB (st'.map (am_tr ad')))) : W p l e R s m args below meth c H locs cells slots Q (F0 m ce.1 lsA (st.map (am_tr ad))) := by
  obtain ⟨pc, ins, len, ws⟩ := ce
  obtain ⟨hR, hS, hT0, hA0, hC, hSl⟩ := hI
  unfold am_o35 at h
  split at h
  · rename_i k r
    obtain ⟨h1, h2⟩ := am_cnd h
    cases h2
    replace h1 := Nat.le_of_ble_eq_true h1
    have K := kk ad H locs cells slots lsA ⟨hR, hS, hT0, hA0, hC, hSl⟩ hl
    unfold am_k35 at hk
    replace hk := Bool.and_eq_true_iff.mp hk
    obtain ⟨hn, hk⟩ := hk
    replace hn := am_nx_e hn
    replace hk := Bool.and_eq_true_iff.mp hk
    obtain ⟨k3, hk⟩ := hk
    replace k3 := am_beq k3
    rw [hn] at K
    dsimp only at hk hd K k3 ⊢
    subst k3
    split at hk <;> first | (cases hk; done) | skip
    exact W.objInit hx hb hown (hts _ (am_w_in hk)) (hts _ (am_xw 4 rfl (by decide))) (hts _ (am_xw 5 rfl (by decide))) rfl (by show lsA.size = _; rw [hl.1, hml]) rfl hd hRf (by show 2 * 0 + _ + 12 ≤ _; rw [am_tr_sum]; omega) K
  · cases h
theorem am_p38 (hx : p.tables.exec = Jvm.exec) (hb : c.code = am_b j) (hd : decode (am_b j) ce.1 = .ok (ce.2.1, ce.2.2.1)) (hk : am_k38 j n o ce = true) (hown : s.vm.findClass (am_own j) = some m.cls) (hts : ∀ w ∈ am_T, w.before args s = true) (hE : am_E D B L xs ax s s.heap) (hI : am_I D B L xs ax s ad0 t0 c0 s0 ad S H locs cells slots) (hw : ∀ v ∈ st, am_wf S.2.2.1 v) (hwl : ∀ q ∈ ls, am_wf S.2.2.1 q.2) (hl : lv_has lsA nL (am_lt ad ls)) (hml : c.maxLocals = nL) (hRf : 1 ≤ R.frames) (hRl : 112 ≤ R.locals) (hRc : S.2.2.2.1 ≤ c0 + R.cells) (hRs : S.2.2.2.2 ≤ s0 + R.slots) (h : am_o38 o n ls st S = some (n', ls', st', S'))
    (kk : ∀ (ad' : Nat → Nat) (H' : Heap) (locs' : List Loc) (cells' slots' : Nat) (lsB : Array Slot), am_I D B L xs ax s ad0 t0 c0 s0 ad' S' H' locs' cells' slots' → lv_has lsB nL (am_lt ad' ls') → W p l e R s m args below meth c H' locs' cells' slots' Q (F0 m (am_pc j n') lsB (st'.map (am_tr ad')))) : W p l e R s m args below meth c H locs cells slots Q (F0 m ce.1 lsA (st.map (am_tr ad))) := by
  obtain ⟨pc, ins, len, ws⟩ := ce
  obtain ⟨hR, hS, hT0, hA0, hC, hSl⟩ := hI
  have hm2 : c.maxLocals = lsA.size := by rw [hl.1, hml]
  unfold am_o38 at h
  unfold am_k38 at hk
  replace hk := Bool.and_eq_true_iff.mp hk
  obtain ⟨hn, hk⟩ := hk
  replace hn := am_nx_e hn
  replace hk := Bool.and_eq_true_iff.mp hk
  obtain ⟨k3, hk⟩ := hk
  replace k3 := am_beq k3
  dsimp only at hk hd k3 hn ⊢
  subst k3
  split at hk <;> first | (cases hk; done) | skip
  rename_i i
  split at h
  · rename_i y x r e1
    obtain ⟨h1, h2⟩ := am_cnd h
    cases h2
    replace h1 := Nat.le_of_ble_eq_true h1
    have K := kk ad H locs cells slots lsA ⟨hR, hS, hT0, hA0, hC, hSl⟩ hl
    rw [hn] at K
    rcases Bool.or_eq_true_iff.mp hk with hk | hk
    · obtain ⟨-, hk⟩ := Bool.and_eq_true_iff.mp hk
      refine va_mmax hx hb hm2 hown (hts _ (am_w_in hk)) (hts _ (am_xw 14 rfl (by decide))) (hts _ (am_xw 13 rfl (by decide))) (hts _ (am_xw 15 rfl (by decide))) hRf (by rw [am_tr_sum]; omega) (by omega) (by omega) hd ?_
      by_cases q : x < y
      · rw [if_pos q]; rw [decide_eq_true q] at K; exact K
      · rw [if_neg q]; rw [decide_eq_false q] at K; exact K
    · rcases Bool.or_eq_true_iff.mp hk with hk | hk
      · exact absurd ((am_beq (Bool.and_eq_true_iff.mp hk).1).symm.trans e1) (by decide)
      · exact absurd ((am_beq (Bool.and_eq_true_iff.mp hk).1).symm.trans e1) (by decide)
  · rename_i y x r e1
    obtain ⟨h1, h2⟩ := am_cnd h
    cases h2
    replace h1 := Nat.le_of_ble_eq_true h1
    have K := kk ad H locs cells slots lsA ⟨hR, hS, hT0, hA0, hC, hSl⟩ hl
    rw [hn] at K
    rcases Bool.or_eq_true_iff.mp hk with hk | hk
    · exact absurd ((am_beq (Bool.and_eq_true_iff.mp hk).1).symm.trans e1) (by decide)
    · rcases Bool.or_eq_true_iff.mp hk with hk | hk
      · obtain ⟨-, hk⟩ := Bool.and_eq_true_iff.mp hk
        refine va_mmin hx hb hm2 hown (hts _ (am_w_in hk)) (hts _ (am_xw 16 rfl (by decide))) (hts _ (am_xw 13 rfl (by decide))) (hts _ (am_xw 17 rfl (by decide))) hRf (by rw [am_tr_sum]; omega) (by omega) (by omega) hd ?_
        by_cases q : y < x
        · rw [if_pos q]; rw [decide_eq_true q] at K; exact K
        · rw [if_neg q]; rw [decide_eq_false q] at K; exact K
      · exact absurd ((am_beq (Bool.and_eq_true_iff.mp hk).1).symm.trans e1) (by decide)
  · rename_i x r e1
    obtain ⟨h1, h2⟩ := am_cnd h
    cases h2
    replace h1 := Nat.le_of_ble_eq_true h1
    have K := kk ad H locs cells slots lsA ⟨hR, hS, hT0, hA0, hC, hSl⟩ hl
    rw [hn] at K
    rcases Bool.or_eq_true_iff.mp hk with hk | hk
    · exact absurd ((am_beq (Bool.and_eq_true_iff.mp hk).1).symm.trans e1) (by decide)
    · rcases Bool.or_eq_true_iff.mp hk with hk | hk
      · exact absurd ((am_beq (Bool.and_eq_true_iff.mp hk).1).symm.trans e1) (by decide)
      · obtain ⟨-, hk⟩ := Bool.and_eq_true_iff.mp hk
        refine va_mabs_long hx hb hm2 hown (hts _ (am_w_in hk)) (hts _ (am_xw 18 rfl (by decide))) (hts _ (am_xw 13 rfl (by decide))) (hts _ (am_xw 19 rfl (by decide))) hRf (by rw [am_tr_sum]; omega) (by omega) (by omega) hd ?_
        by_cases q : 0 < x
        · rw [if_pos q]; rw [decide_eq_true q] at K; exact K
        · rw [if_neg q]; rw [decide_eq_false q] at K; exact K
  · cases h
end AmMem2
end
