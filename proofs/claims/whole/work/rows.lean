section
-- ===== PART A: goes FIRST, ahead of the names: the tables' words, and 'selects' of the private methods out of them =====
/-- a private method of a class that the tables say can be made, by its rows of tables_1 -/
def lw_okq (q : MethodName × Nat) : Prop := (q.1.cls ≠ "java/lang/invoke/MethodHandle" ∧ q.1.cls ≠ "java/lang/invoke/VarHandle") ∧ Cond.instantiable q.1.cls q.2 ∈ tables_1 ∧ Cond.privateMethod q.1 ∈ tables_1 ∧ Cond.instanceMethod q.1 ∈ tables_1
theorem lw_p0 : lw_okq (⟨"OrderJudge$QuickFilter", "floatX", "(I)F"⟩, 5) := ⟨⟨by decide +kernel, by decide +kernel⟩, List.mem_of_getElem? (i := 55) (by decide +kernel), List.mem_of_getElem? (i := 211) (by decide +kernel), List.mem_of_getElem? (i := 212) (by decide +kernel)⟩
theorem lw_p1 : lw_okq (⟨"OrderJudge$QuickFilter", "floatY", "(I)F"⟩, 5) := ⟨⟨by decide +kernel, by decide +kernel⟩, List.mem_of_getElem? (i := 55) (by decide +kernel), List.mem_of_getElem? (i := 216) (by decide +kernel), List.mem_of_getElem? (i := 217) (by decide +kernel)⟩
theorem lw_p2 : lw_okq (⟨"OrderJudge$QuickFilter", "reach", "(I)F"⟩, 5) := ⟨⟨by decide +kernel, by decide +kernel⟩, List.mem_of_getElem? (i := 55) (by decide +kernel), List.mem_of_getElem? (i := 220) (by decide +kernel), List.mem_of_getElem? (i := 221) (by decide +kernel)⟩
theorem lw_p3 : lw_okq (⟨"OrderJudge$Few", "overlap", "(IIII)I"⟩, 1) := ⟨⟨by decide +kernel, by decide +kernel⟩, List.mem_of_getElem? (i := 81) (by decide +kernel), List.mem_of_getElem? (i := 311) (by decide +kernel), List.mem_of_getElem? (i := 312) (by decide +kernel)⟩
theorem lw_p4 : lw_okq (⟨"OrderJudge$Few", "earlier", "(II)I"⟩, 1) := ⟨⟨by decide +kernel, by decide +kernel⟩, List.mem_of_getElem? (i := 81) (by decide +kernel), List.mem_of_getElem? (i := 315) (by decide +kernel), List.mem_of_getElem? (i := 316) (by decide +kernel)⟩
theorem lw_p5 : lw_okq (⟨"OrderJudge$Few", "later", "(II)I"⟩, 1) := ⟨⟨by decide +kernel, by decide +kernel⟩, List.mem_of_getElem? (i := 81) (by decide +kernel), List.mem_of_getElem? (i := 320) (by decide +kernel), List.mem_of_getElem? (i := 321) (by decide +kernel)⟩
theorem lw_p6 : lw_okq (⟨"OrderJudge$Few", "anyEqual", "(IIII)Z"⟩, 1) := ⟨⟨by decide +kernel, by decide +kernel⟩, List.mem_of_getElem? (i := 81) (by decide +kernel), List.mem_of_getElem? (i := 332) (by decide +kernel), List.mem_of_getElem? (i := 333) (by decide +kernel)⟩
theorem lw_p7 : lw_okq (⟨"OrderJudge$Row", "sideOfOther", "(III)I"⟩, 3) := ⟨⟨by decide +kernel, by decide +kernel⟩, List.mem_of_getElem? (i := 91) (by decide +kernel), List.mem_of_getElem? (i := 349) (by decide +kernel), List.mem_of_getElem? (i := 350) (by decide +kernel)⟩
theorem lw_p8 : lw_okq (⟨"OrderJudge$Row", "endOf", "(II)I"⟩, 3) := ⟨⟨by decide +kernel, by decide +kernel⟩, List.mem_of_getElem? (i := 91) (by decide +kernel), List.mem_of_getElem? (i := 353) (by decide +kernel), List.mem_of_getElem? (i := 354) (by decide +kernel)⟩
theorem lw_p9 : lw_okq (⟨"OrderJudge$Row", "climbsBeside", "(III)Z"⟩, 3) := ⟨⟨by decide +kernel, by decide +kernel⟩, List.mem_of_getElem? (i := 91) (by decide +kernel), List.mem_of_getElem? (i := 371) (by decide +kernel), List.mem_of_getElem? (i := 372) (by decide +kernel)⟩
theorem lw_p10 : lw_okq (⟨"OrderJudge$Row", "aheadRound", "(III)I"⟩, 3) := ⟨⟨by decide +kernel, by decide +kernel⟩, List.mem_of_getElem? (i := 91) (by decide +kernel), List.mem_of_getElem? (i := 403) (by decide +kernel), List.mem_of_getElem? (i := 404) (by decide +kernel)⟩
theorem lw_p11 : lw_okq (⟨"OrderJudge$Row", "compareRound", "(III)I"⟩, 3) := ⟨⟨by decide +kernel, by decide +kernel⟩, List.mem_of_getElem? (i := 91) (by decide +kernel), List.mem_of_getElem? (i := 407) (by decide +kernel), List.mem_of_getElem? (i := 408) (by decide +kernel)⟩
theorem lw_p12 : lw_okq (⟨"OrderJudge$Row", "partOfTurn", "(II)I"⟩, 3) := ⟨⟨by decide +kernel, by decide +kernel⟩, List.mem_of_getElem? (i := 91) (by decide +kernel), List.mem_of_getElem? (i := 411) (by decide +kernel), List.mem_of_getElem? (i := 412) (by decide +kernel)⟩
theorem lw_p13 : lw_okq (⟨"OrderJudge$Row", "aheadAlong", "(II)I"⟩, 3) := ⟨⟨by decide +kernel, by decide +kernel⟩, List.mem_of_getElem? (i := 91) (by decide +kernel), List.mem_of_getElem? (i := 425) (by decide +kernel), List.mem_of_getElem? (i := 426) (by decide +kernel)⟩
theorem lw_p14 : lw_okq (⟨"OrderJudge$Row", "compareAlong", "(II)I"⟩, 3) := ⟨⟨by decide +kernel, by decide +kernel⟩, List.mem_of_getElem? (i := 91) (by decide +kernel), List.mem_of_getElem? (i := 429) (by decide +kernel), List.mem_of_getElem? (i := 430) (by decide +kernel)⟩
theorem lw_p15 : lw_okq (⟨"OrderJudge$LineSet", "keepDifferent", "(I)V"⟩, 10) := ⟨⟨by decide +kernel, by decide +kernel⟩, List.mem_of_getElem? (i := 109) (by decide +kernel), List.mem_of_getElem? (i := 450) (by decide +kernel), List.mem_of_getElem? (i := 451) (by decide +kernel)⟩
def lw_privs_1 : List (MethodName × Nat) := [(⟨"OrderJudge$QuickFilter", "floatX", "(I)F"⟩, 5), (⟨"OrderJudge$QuickFilter", "floatY", "(I)F"⟩, 5), (⟨"OrderJudge$QuickFilter", "reach", "(I)F"⟩, 5), (⟨"OrderJudge$Few", "overlap", "(IIII)I"⟩, 1), (⟨"OrderJudge$Few", "earlier", "(II)I"⟩, 1), (⟨"OrderJudge$Few", "later", "(II)I"⟩, 1), (⟨"OrderJudge$Few", "anyEqual", "(IIII)Z"⟩, 1), (⟨"OrderJudge$Row", "sideOfOther", "(III)I"⟩, 3), (⟨"OrderJudge$Row", "endOf", "(II)I"⟩, 3), (⟨"OrderJudge$Row", "climbsBeside", "(III)Z"⟩, 3), (⟨"OrderJudge$Row", "aheadRound", "(III)I"⟩, 3), (⟨"OrderJudge$Row", "compareRound", "(III)I"⟩, 3), (⟨"OrderJudge$Row", "partOfTurn", "(II)I"⟩, 3), (⟨"OrderJudge$Row", "aheadAlong", "(II)I"⟩, 3), (⟨"OrderJudge$Row", "compareAlong", "(II)I"⟩, 3), (⟨"OrderJudge$LineSet", "keepDifferent", "(I)V"⟩, 10)]
theorem lw_r1 : ∀ q ∈ lw_privs_1, lw_okq q := List.forall_mem_cons.mpr ⟨lw_p0, List.forall_mem_cons.mpr ⟨lw_p1, List.forall_mem_cons.mpr ⟨lw_p2, List.forall_mem_cons.mpr ⟨lw_p3, List.forall_mem_cons.mpr ⟨lw_p4, List.forall_mem_cons.mpr ⟨lw_p5, List.forall_mem_cons.mpr ⟨lw_p6, List.forall_mem_cons.mpr ⟨lw_p7, List.forall_mem_cons.mpr ⟨lw_p8, List.forall_mem_cons.mpr ⟨lw_p9, List.forall_mem_cons.mpr ⟨lw_p10, List.forall_mem_cons.mpr ⟨lw_p11, List.forall_mem_cons.mpr ⟨lw_p12, List.forall_mem_cons.mpr ⟨lw_p13, List.forall_mem_cons.mpr ⟨lw_p14, List.forall_mem_cons.mpr ⟨lw_p15, fun _ h => absurd h List.not_mem_nil⟩⟩⟩⟩⟩⟩⟩⟩⟩⟩⟩⟩⟩⟩⟩⟩
theorem lw_p16 : lw_okq (⟨"OrderJudge$LineSet", "isNew", "(I)Z"⟩, 10) := ⟨⟨by decide +kernel, by decide +kernel⟩, List.mem_of_getElem? (i := 109) (by decide +kernel), List.mem_of_getElem? (i := 454) (by decide +kernel), List.mem_of_getElem? (i := 455) (by decide +kernel)⟩
theorem lw_p17 : lw_okq (⟨"OrderJudge$LineSet", "same", "(II)Z"⟩, 10) := ⟨⟨by decide +kernel, by decide +kernel⟩, List.mem_of_getElem? (i := 109) (by decide +kernel), List.mem_of_getElem? (i := 458) (by decide +kernel), List.mem_of_getElem? (i := 459) (by decide +kernel)⟩
theorem lw_p18 : lw_okq (⟨"OrderJudge$LineSet", "slant", "(II)J"⟩, 10) := ⟨⟨by decide +kernel, by decide +kernel⟩, List.mem_of_getElem? (i := 109) (by decide +kernel), List.mem_of_getElem? (i := 462) (by decide +kernel), List.mem_of_getElem? (i := 463) (by decide +kernel)⟩
theorem lw_p19 : lw_okq (⟨"OrderJudge$LineSet", "throughMeet", "(II)I"⟩, 10) := ⟨⟨by decide +kernel, by decide +kernel⟩, List.mem_of_getElem? (i := 109) (by decide +kernel), List.mem_of_getElem? (i := 466) (by decide +kernel), List.mem_of_getElem? (i := 467) (by decide +kernel)⟩
theorem lw_p20 : lw_okq (⟨"OrderJudge$LineSet", "concurrent", "(III)Z"⟩, 10) := ⟨⟨by decide +kernel, by decide +kernel⟩, List.mem_of_getElem? (i := 109) (by decide +kernel), List.mem_of_getElem? (i := 470) (by decide +kernel), List.mem_of_getElem? (i := 471) (by decide +kernel)⟩
theorem lw_p21 : lw_okq (⟨"java/lang/NullPointerException", "getExtendedNPEMessage", "()Ljava/lang/String;"⟩, 8) := ⟨⟨by decide +kernel, by decide +kernel⟩, List.mem_of_getElem? (i := 524) (by decide +kernel), List.mem_of_getElem? (i := 522) (by decide +kernel), List.mem_of_getElem? (i := 523) (by decide +kernel)⟩
theorem lw_p22 : lw_okq (⟨"java/lang/Throwable", "fillInStackTrace", "(I)Ljava/lang/Throwable;"⟩, 6) := ⟨⟨by decide +kernel, by decide +kernel⟩, List.mem_of_getElem? (i := 536) (by decide +kernel), List.mem_of_getElem? (i := 534) (by decide +kernel), List.mem_of_getElem? (i := 535) (by decide +kernel)⟩
theorem lw_p23 : lw_okq (⟨"OrderJudgeModel", "fail", "(I)I"⟩, 14) := ⟨⟨by decide +kernel, by decide +kernel⟩, List.mem_of_getElem? (i := 698) (by decide +kernel), List.mem_of_getElem? (i := 762) (by decide +kernel), List.mem_of_getElem? (i := 763) (by decide +kernel)⟩
theorem lw_p24 : lw_okq (⟨"OrderJudgeModel", "isPoint", "(I)Z"⟩, 14) := ⟨⟨by decide +kernel, by decide +kernel⟩, List.mem_of_getElem? (i := 698) (by decide +kernel), List.mem_of_getElem? (i := 770) (by decide +kernel), List.mem_of_getElem? (i := 771) (by decide +kernel)⟩
theorem lw_p25 : lw_okq (⟨"OrderJudgeModel", "isPlace", "(I)Z"⟩, 14) := ⟨⟨by decide +kernel, by decide +kernel⟩, List.mem_of_getElem? (i := 698) (by decide +kernel), List.mem_of_getElem? (i := 774) (by decide +kernel), List.mem_of_getElem? (i := 775) (by decide +kernel)⟩
theorem lw_p26 : lw_okq (⟨"OrderJudgeModel", "areEqual", "(II)Z"⟩, 14) := ⟨⟨by decide +kernel, by decide +kernel⟩, List.mem_of_getElem? (i := 698) (by decide +kernel), List.mem_of_getElem? (i := 786) (by decide +kernel), List.mem_of_getElem? (i := 787) (by decide +kernel)⟩
theorem lw_p27 : lw_okq (⟨"OrderJudgeModel", "decidesTurn", "(III)Z"⟩, 14) := ⟨⟨by decide +kernel, by decide +kernel⟩, List.mem_of_getElem? (i := 698) (by decide +kernel), List.mem_of_getElem? (i := 790) (by decide +kernel), List.mem_of_getElem? (i := 791) (by decide +kernel)⟩
theorem lw_p28 : lw_okq (⟨"OrderJudgeModel", "fx", "(I)F"⟩, 14) := ⟨⟨by decide +kernel, by decide +kernel⟩, List.mem_of_getElem? (i := 698) (by decide +kernel), List.mem_of_getElem? (i := 794) (by decide +kernel), List.mem_of_getElem? (i := 795) (by decide +kernel)⟩
theorem lw_p29 : lw_okq (⟨"OrderJudgeModel", "fy", "(I)F"⟩, 14) := ⟨⟨by decide +kernel, by decide +kernel⟩, List.mem_of_getElem? (i := 698) (by decide +kernel), List.mem_of_getElem? (i := 799) (by decide +kernel), List.mem_of_getElem? (i := 800) (by decide +kernel)⟩
theorem lw_p30 : lw_okq (⟨"OrderJudgeModel", "most", "(III)F"⟩, 14) := ⟨⟨by decide +kernel, by decide +kernel⟩, List.mem_of_getElem? (i := 698) (by decide +kernel), List.mem_of_getElem? (i := 803) (by decide +kernel), List.mem_of_getElem? (i := 804) (by decide +kernel)⟩
theorem lw_p31 : lw_okq (⟨"OrderJudgeModel", "turn", "(III)I"⟩, 14) := ⟨⟨by decide +kernel, by decide +kernel⟩, List.mem_of_getElem? (i := 698) (by decide +kernel), List.mem_of_getElem? (i := 814) (by decide +kernel), List.mem_of_getElem? (i := 815) (by decide +kernel)⟩
def lw_privs_2 : List (MethodName × Nat) := [(⟨"OrderJudge$LineSet", "isNew", "(I)Z"⟩, 10), (⟨"OrderJudge$LineSet", "same", "(II)Z"⟩, 10), (⟨"OrderJudge$LineSet", "slant", "(II)J"⟩, 10), (⟨"OrderJudge$LineSet", "throughMeet", "(II)I"⟩, 10), (⟨"OrderJudge$LineSet", "concurrent", "(III)Z"⟩, 10), (⟨"java/lang/NullPointerException", "getExtendedNPEMessage", "()Ljava/lang/String;"⟩, 8), (⟨"java/lang/Throwable", "fillInStackTrace", "(I)Ljava/lang/Throwable;"⟩, 6), (⟨"OrderJudgeModel", "fail", "(I)I"⟩, 14), (⟨"OrderJudgeModel", "isPoint", "(I)Z"⟩, 14), (⟨"OrderJudgeModel", "isPlace", "(I)Z"⟩, 14), (⟨"OrderJudgeModel", "areEqual", "(II)Z"⟩, 14), (⟨"OrderJudgeModel", "decidesTurn", "(III)Z"⟩, 14), (⟨"OrderJudgeModel", "fx", "(I)F"⟩, 14), (⟨"OrderJudgeModel", "fy", "(I)F"⟩, 14), (⟨"OrderJudgeModel", "most", "(III)F"⟩, 14), (⟨"OrderJudgeModel", "turn", "(III)I"⟩, 14)]
theorem lw_r2 : ∀ q ∈ lw_privs_2, lw_okq q := List.forall_mem_cons.mpr ⟨lw_p16, List.forall_mem_cons.mpr ⟨lw_p17, List.forall_mem_cons.mpr ⟨lw_p18, List.forall_mem_cons.mpr ⟨lw_p19, List.forall_mem_cons.mpr ⟨lw_p20, List.forall_mem_cons.mpr ⟨lw_p21, List.forall_mem_cons.mpr ⟨lw_p22, List.forall_mem_cons.mpr ⟨lw_p23, List.forall_mem_cons.mpr ⟨lw_p24, List.forall_mem_cons.mpr ⟨lw_p25, List.forall_mem_cons.mpr ⟨lw_p26, List.forall_mem_cons.mpr ⟨lw_p27, List.forall_mem_cons.mpr ⟨lw_p28, List.forall_mem_cons.mpr ⟨lw_p29, List.forall_mem_cons.mpr ⟨lw_p30, List.forall_mem_cons.mpr ⟨lw_p31, fun _ h => absurd h List.not_mem_nil⟩⟩⟩⟩⟩⟩⟩⟩⟩⟩⟩⟩⟩⟩⟩⟩
theorem lw_p32 : lw_okq (⟨"OrderJudgeModel", "counted", "(ZI)I"⟩, 14) := ⟨⟨by decide +kernel, by decide +kernel⟩, List.mem_of_getElem? (i := 698) (by decide +kernel), List.mem_of_getElem? (i := 821) (by decide +kernel), List.mem_of_getElem? (i := 822) (by decide +kernel)⟩
theorem lw_p33 : lw_okq (⟨"OrderJudgeModel", "decidesRing", "(IIII)Z"⟩, 14) := ⟨⟨by decide +kernel, by decide +kernel⟩, List.mem_of_getElem? (i := 698) (by decide +kernel), List.mem_of_getElem? (i := 829) (by decide +kernel), List.mem_of_getElem? (i := 830) (by decide +kernel)⟩
theorem lw_p34 : lw_okq (⟨"OrderJudgeModel", "ring", "(IIII)I"⟩, 14) := ⟨⟨by decide +kernel, by decide +kernel⟩, List.mem_of_getElem? (i := 698) (by decide +kernel), List.mem_of_getElem? (i := 834) (by decide +kernel), List.mem_of_getElem? (i := 835) (by decide +kernel)⟩
theorem lw_p35 : lw_okq (⟨"OrderJudgeModel", "isOn", "(III)Z"⟩, 14) := ⟨⟨by decide +kernel, by decide +kernel⟩, List.mem_of_getElem? (i := 698) (by decide +kernel), List.mem_of_getElem? (i := 850) (by decide +kernel), List.mem_of_getElem? (i := 851) (by decide +kernel)⟩
theorem lw_p36 : lw_okq (⟨"OrderJudgeModel", "along", "(III)J"⟩, 14) := ⟨⟨by decide +kernel, by decide +kernel⟩, List.mem_of_getElem? (i := 698) (by decide +kernel), List.mem_of_getElem? (i := 854) (by decide +kernel), List.mem_of_getElem? (i := 855) (by decide +kernel)⟩
theorem lw_p37 : lw_okq (⟨"OrderJudgeModel", "isOneWay", "(III)Z"⟩, 14) := ⟨⟨by decide +kernel, by decide +kernel⟩, List.mem_of_getElem? (i := 698) (by decide +kernel), List.mem_of_getElem? (i := 862) (by decide +kernel), List.mem_of_getElem? (i := 863) (by decide +kernel)⟩
theorem lw_p38 : lw_okq (⟨"OrderJudgeModel", "common", "(IIII)I"⟩, 14) := ⟨⟨by decide +kernel, by decide +kernel⟩, List.mem_of_getElem? (i := 698) (by decide +kernel), List.mem_of_getElem? (i := 870) (by decide +kernel), List.mem_of_getElem? (i := 871) (by decide +kernel)⟩
theorem lw_p39 : lw_okq (⟨"OrderJudgeModel", "isMany", "(II)Z"⟩, 14) := ⟨⟨by decide +kernel, by decide +kernel⟩, List.mem_of_getElem? (i := 698) (by decide +kernel), List.mem_of_getElem? (i := 882) (by decide +kernel), List.mem_of_getElem? (i := 883) (by decide +kernel)⟩
theorem lw_p40 : lw_okq (⟨"OrderJudgeModel", "isWhole", "(I)Z"⟩, 14) := ⟨⟨by decide +kernel, by decide +kernel⟩, List.mem_of_getElem? (i := 698) (by decide +kernel), List.mem_of_getElem? (i := 886) (by decide +kernel), List.mem_of_getElem? (i := 887) (by decide +kernel)⟩
theorem lw_p41 : lw_okq (⟨"OrderJudgeModel", "next", "(II)I"⟩, 14) := ⟨⟨by decide +kernel, by decide +kernel⟩, List.mem_of_getElem? (i := 698) (by decide +kernel), List.mem_of_getElem? (i := 890) (by decide +kernel), List.mem_of_getElem? (i := 891) (by decide +kernel)⟩
theorem lw_p42 : lw_okq (⟨"OrderJudgeModel", "isOnEdge", "(II)Z"⟩, 14) := ⟨⟨by decide +kernel, by decide +kernel⟩, List.mem_of_getElem? (i := 698) (by decide +kernel), List.mem_of_getElem? (i := 898) (by decide +kernel), List.mem_of_getElem? (i := 899) (by decide +kernel)⟩
theorem lw_p43 : lw_okq (⟨"OrderJudgeModel", "rises", "(III)I"⟩, 14) := ⟨⟨by decide +kernel, by decide +kernel⟩, List.mem_of_getElem? (i := 698) (by decide +kernel), List.mem_of_getElem? (i := 902) (by decide +kernel), List.mem_of_getElem? (i := 903) (by decide +kernel)⟩
theorem lw_p44 : lw_okq (⟨"OrderJudgeModel", "far", "(II)J"⟩, 14) := ⟨⟨by decide +kernel, by decide +kernel⟩, List.mem_of_getElem? (i := 698) (by decide +kernel), List.mem_of_getElem? (i := 914) (by decide +kernel), List.mem_of_getElem? (i := 915) (by decide +kernel)⟩
theorem lw_p45 : lw_okq (⟨"OrderJudgeModel", "isAhead", "(III)Z"⟩, 14) := ⟨⟨by decide +kernel, by decide +kernel⟩, List.mem_of_getElem? (i := 698) (by decide +kernel), List.mem_of_getElem? (i := 922) (by decide +kernel), List.mem_of_getElem? (i := 923) (by decide +kernel)⟩
theorem lw_p46 : lw_okq (⟨"OrderJudgeModel", "half", "(II)I"⟩, 14) := ⟨⟨by decide +kernel, by decide +kernel⟩, List.mem_of_getElem? (i := 698) (by decide +kernel), List.mem_of_getElem? (i := 926) (by decide +kernel), List.mem_of_getElem? (i := 927) (by decide +kernel)⟩
theorem lw_p47 : lw_okq (⟨"OrderJudgeModel", "isLess", "(II)Z"⟩, 14) := ⟨⟨by decide +kernel, by decide +kernel⟩, List.mem_of_getElem? (i := 698) (by decide +kernel), List.mem_of_getElem? (i := 934) (by decide +kernel), List.mem_of_getElem? (i := 935) (by decide +kernel)⟩
def lw_privs_3 : List (MethodName × Nat) := [(⟨"OrderJudgeModel", "counted", "(ZI)I"⟩, 14), (⟨"OrderJudgeModel", "decidesRing", "(IIII)Z"⟩, 14), (⟨"OrderJudgeModel", "ring", "(IIII)I"⟩, 14), (⟨"OrderJudgeModel", "isOn", "(III)Z"⟩, 14), (⟨"OrderJudgeModel", "along", "(III)J"⟩, 14), (⟨"OrderJudgeModel", "isOneWay", "(III)Z"⟩, 14), (⟨"OrderJudgeModel", "common", "(IIII)I"⟩, 14), (⟨"OrderJudgeModel", "isMany", "(II)Z"⟩, 14), (⟨"OrderJudgeModel", "isWhole", "(I)Z"⟩, 14), (⟨"OrderJudgeModel", "next", "(II)I"⟩, 14), (⟨"OrderJudgeModel", "isOnEdge", "(II)Z"⟩, 14), (⟨"OrderJudgeModel", "rises", "(III)I"⟩, 14), (⟨"OrderJudgeModel", "far", "(II)J"⟩, 14), (⟨"OrderJudgeModel", "isAhead", "(III)Z"⟩, 14), (⟨"OrderJudgeModel", "half", "(II)I"⟩, 14), (⟨"OrderJudgeModel", "isLess", "(II)Z"⟩, 14)]
theorem lw_r3 : ∀ q ∈ lw_privs_3, lw_okq q := List.forall_mem_cons.mpr ⟨lw_p32, List.forall_mem_cons.mpr ⟨lw_p33, List.forall_mem_cons.mpr ⟨lw_p34, List.forall_mem_cons.mpr ⟨lw_p35, List.forall_mem_cons.mpr ⟨lw_p36, List.forall_mem_cons.mpr ⟨lw_p37, List.forall_mem_cons.mpr ⟨lw_p38, List.forall_mem_cons.mpr ⟨lw_p39, List.forall_mem_cons.mpr ⟨lw_p40, List.forall_mem_cons.mpr ⟨lw_p41, List.forall_mem_cons.mpr ⟨lw_p42, List.forall_mem_cons.mpr ⟨lw_p43, List.forall_mem_cons.mpr ⟨lw_p44, List.forall_mem_cons.mpr ⟨lw_p45, List.forall_mem_cons.mpr ⟨lw_p46, List.forall_mem_cons.mpr ⟨lw_p47, fun _ h => absurd h List.not_mem_nil⟩⟩⟩⟩⟩⟩⟩⟩⟩⟩⟩⟩⟩⟩⟩⟩
theorem lw_p48 : lw_okq (⟨"OrderJudgeModel", "isNew", "(I)Z"⟩, 14) := ⟨⟨by decide +kernel, by decide +kernel⟩, List.mem_of_getElem? (i := 698) (by decide +kernel), List.mem_of_getElem? (i := 950) (by decide +kernel), List.mem_of_getElem? (i := 951) (by decide +kernel)⟩
theorem lw_p49 : lw_okq (⟨"OrderJudgeModel", "isOne", "(II)Z"⟩, 14) := ⟨⟨by decide +kernel, by decide +kernel⟩, List.mem_of_getElem? (i := 698) (by decide +kernel), List.mem_of_getElem? (i := 954) (by decide +kernel), List.mem_of_getElem? (i := 955) (by decide +kernel)⟩
theorem lw_p50 : lw_okq (⟨"OrderJudgeModel", "both", "(II)J"⟩, 14) := ⟨⟨by decide +kernel, by decide +kernel⟩, List.mem_of_getElem? (i := 698) (by decide +kernel), List.mem_of_getElem? (i := 958) (by decide +kernel), List.mem_of_getElem? (i := 959) (by decide +kernel)⟩
theorem lw_p51 : lw_okq (⟨"OrderJudgeModel", "isThrough", "(III)Z"⟩, 14) := ⟨⟨by decide +kernel, by decide +kernel⟩, List.mem_of_getElem? (i := 698) (by decide +kernel), List.mem_of_getElem? (i := 962) (by decide +kernel), List.mem_of_getElem? (i := 963) (by decide +kernel)⟩
def lw_privs_4 : List (MethodName × Nat) := [(⟨"OrderJudgeModel", "isNew", "(I)Z"⟩, 14), (⟨"OrderJudgeModel", "isOne", "(II)Z"⟩, 14), (⟨"OrderJudgeModel", "both", "(II)J"⟩, 14), (⟨"OrderJudgeModel", "isThrough", "(III)Z"⟩, 14)]
theorem lw_r4 : ∀ q ∈ lw_privs_4, lw_okq q := List.forall_mem_cons.mpr ⟨lw_p48, List.forall_mem_cons.mpr ⟨lw_p49, List.forall_mem_cons.mpr ⟨lw_p50, List.forall_mem_cons.mpr ⟨lw_p51, fun _ h => absurd h List.not_mem_nil⟩⟩⟩⟩
def lw_privs : List (MethodName × Nat) := lw_privs_1 ++ (lw_privs_2 ++ (lw_privs_3 ++ (lw_privs_4)))
def lw_tbl : List Cond := k2_sels lw_privs ++ tables_1
theorem lw_privs_ok : ∀ q ∈ lw_privs, lw_okq q := by
  show ∀ q ∈ lw_privs_1 ++ (lw_privs_2 ++ (lw_privs_3 ++ (lw_privs_4))), lw_okq q
  exact List.forall_mem_append.mpr ⟨lw_r1, List.forall_mem_append.mpr ⟨lw_r2, List.forall_mem_append.mpr ⟨lw_r3, lw_r4⟩⟩⟩
/-- the streams that the claim lets the run draw from -/
abbrev lw_cs : List Choice := [Jvm.Choice.named "NaN.bits"]
theorem lw_bits : nanBits ∈ lw_cs := by first | decide | exact List.mem_cons_self | simp [lw_cs, nanBits]
/-! ===== BEGIN words of one list among another's, by their places ===== -/
theorem goodIn_r {big : List Cond} (ws : List Cond) (ps : List Nat) (hp : ws = ps.filterMap (fun i => big[i]?)) (h : ws.all goodWord = true) : GoodIn big ws := by
  intro w hw
  have h1 := List.all_eq_true.mp h w hw
  rw [hp] at hw
  obtain ⟨i, -, hi⟩ := List.mem_filterMap.mp hw
  have hm : w ∈ big := by first | exact List.mem_of_getElem? hi | exact List.getElem?_mem hi
  exact ⟨hm, good_of_word h1⟩
theorem goodIn_app {big a b : List Cond} (ha : GoodIn big a) (hb : GoodIn big b) : GoodIn big (a ++ b) := fun w h => (List.mem_append.mp h).elim (ha w) (hb w)
theorem goodIn_ca {big a b : List Cond} {c : Cond} (ha : GoodIn big (c :: a)) (hb : GoodIn big b) : GoodIn big (c :: (a ++ b)) := fun w h => (List.mem_cons.mp h).elim (fun e => ha w (List.mem_cons.mpr (Or.inl e))) (fun h => (List.mem_append.mp h).elim (fun h => ha w (List.mem_cons.mpr (Or.inr h))) (hb w))
theorem goodIn_sub {big ws : List Cond} (hm : ∀ w ∈ ws, w ∈ big) (h : ws.all goodWord = true) : GoodIn big ws := fun w hw => ⟨hm w hw, good_of_word (List.all_eq_true.mp h w hw)⟩
/-! ===== END ===== -/

/-! ===== BEGIN exceptions that leave a method, and their catching by the caller (launches without stack traces) ===== -/
section VXA
/-! The laws vx_back, vx_callV, vx_callS, vx_callSW, vx_throw0, vx_throwS follow proofs of the library, with one case more: JvmDerived/Free/Laws.lean (Back.of_free), Shelf42/LK1.lean (callV, callS), Shelf/KitTraced.lean (throwNew0V, throwNewS). -/
/-- where a method has thrown q: the class by its name, the cell, what was written, the world -/
def vx_T (XC : String → State → State → Prop) (st : State) (q : Addr) (t : State) (mc ms : Nat) (free : Addr → Prop) : Prop :=
  ∃ (E : String) (ce : Cell) (L : List Loc), XC E st t ∧ t.heap[q]? = some ce ∧ ce.vm = .none ∧ st.vm.findClass E = some ce.cls ∧ st.WarmedH t.vm ∧ st.sameButNew ({ t with vm := st.vm } : State) L mc ms ∧ ∀ z ∈ L, free z.base
def vx_Q (Qc : Array Value → State → Outcome → State → Prop) (XC : String → State → State → Prop) (mc ms : Nat) (free : Addr → Prop) : Array Value → State → Outcome → State → Prop := fun a st o t =>
  (Qc a st o t ∧ ∃ L, FrameEnd st o t L mc ms ∧ ∀ q ∈ L, free q.base) ∨ ∃ q, o = .threw q ∧ vx_T XC st q t mc ms free
/-- a callee that returns or throws -/
def vx_Met (l : Launch) (y : MethodName) (ws : List Cond) (rm : Room) (Pc : Array Value → State → Prop) (Qc : Array Value → State → Outcome → State → Prop) (XC : String → State → State → Prop) (mc ms : Nat) (free : Addr → Prop) : Prop :=
  MetFree l y (headSpec ws rm) Pc (fun _ _ _ _ _ => True) (vx_Q Qc XC mc ms free)
def vx_Post (XC : String → State → State → Prop) (mc ms : Nat) (free : Addr → Prop) : Pt → Array Value → Addr → Pt → Prop := fun A a q B =>
  ∃ (g : JFrame) (mk : MethodId) (t : State) (L : List Loc) (E : String) (ce : Cell), B.U.heap = t.heap ∧ B.U.vm = t.vm ∧ XC E (A.U.calling g mk a) t ∧ t.heap[q]? = some ce ∧ ce.vm = .none ∧ A.U.vm.findClass E = some ce.cls ∧ B.locs = A.locs ++ L ∧ (∀ z ∈ L, free z.base) ∧ B.cells = A.cells + mc ∧ B.slots = A.slots + ms
def vx_Back (l : Launch) (R : Room) (p : Program) (e : Env) (below : List Frame) (s : State) (sargs : Array Value) (y : MethodName) (len W9 : Nat)
    (Pre : Pt → Array Value → Prop) (Post : Pt → Array Value → Option Value → Pt → Prop) (PostX : Pt → Array Value → Addr → Pt → Prop) : Prop :=
  ∀ (m : MethodId) (meth : Method) (c : Code) (A : Pt) (g : JFrame) (ig : Instr) (mk : MethodId) (a : Array Value),
    Stand p l e R s m sargs below meth c A.U A.locs A.cells A.slots → g.method = m → g.locals.size = c.maxLocals → decode c.code g.pc = .ok (ig, len) →
    2 * g.monitorRoom + (g.stack.map fun v => v.category).sum ≤ W9 → A.U.methodNamed? y = some mk → Pre A a →
    (∃ (v : Option Value) (B : Pt), Stand p l e R s m sargs below meth c B.U B.locs B.cells B.slots ∧ Post A a v B ∧
      Steps p.tables e below (doInvoke e (A.U.setTop g) [] mk a).1 (B.U.setTop { g with pc := g.pc + len, stack := v.toList ++ g.stack })) ∨
    (∃ (q : Addr) (B : Pt), Stand p l e R s m sargs below meth c B.U B.locs B.cells B.slots ∧ PostX A a q B ∧
      Steps p.tables e below (doInvoke e (A.U.setTop g) [] mk a).1 ((B.U.setTop g).pushFrame (.throwing q)))
section Payer
variable {l : Launch} {R : Room} {p : Program} {e : Env} {below : List Frame} {s : State} {sargs : Array Value} {y : MethodName} {len W9 : Nat}
theorem vx_back {ws : List Cond} {rm : Room} {Pc : Array Value → State → Prop} {Qc : Array Value → State → Outcome → State → Prop} {XC : String → State → State → Prop} {mc ms : Nat} {free : Addr → Prop} {bytes : ByteArray} {maxL : Nat} {ret : Option FieldType}
    (hM : vx_Met l y ws rm Pc Qc XC mc ms free) (hblind : FrameBlind Pc) (hrc : rm.cells = mc) (hrs : rm.slots = ms)
    (hframes : rm.frames + 1 ≤ R.frames) (hlocals : W9 + (maxL + 11) + rm.locals ≤ R.locals)
    (hws : ∀ w ∈ ws, ∀ a' U, s.WarmedH U.vm → w.before a' U = true) (hcode : Cond.code y bytes maxL ret ∈ ws) (hinit : ∀ a' U, s.WarmedH U.vm → (Cond.initialized y.cls).before a' U = true) :
    vx_Back l R p e below s sargs y len W9 (PreOf R mc ms Pc) (PostOf Qc mc ms free) (vx_Post XC mc ms free) := by
  intro m meth c A g ig mk a X hg hsize hdg hW hn hp
  have h1 : (headSpec ws rm).pre.before a A.U = true := atoms_intro fun w hw => hws w hw _ _ X.warmed
  have h2 : (Cond.code y bytes maxL ret).before a A.U = true := hws _ hcode _ _ X.warmed
  have h3 : (Cond.initialized y.cls).before a A.U = true := hinit _ _ X.warmed
  have h4 : A.cells + (headSpec ws rm).room.cells ≤ R.cells := by rw [show (headSpec ws rm).room.cells = mc from hrc]; exact hp.1
  have h5 : A.slots + (headSpec ws rm).room.slots ≤ R.slots := by rw [show (headSpec ws rm).room.slots = ms from hrs]; exact hp.2.1
  have hPc : Pc a (A.U.calling g mk a) := hblind _ _ _ _ hp.2.2
  obtain ⟨U, Ls, c0, s0⟩ := A
  dsimp only [Pt.U, Pt.locs, Pt.cells, Pt.slots] at h1 h2 h3 h4 h5 X hn hPc ⊢
  obtain ⟨methY, cY, hmY, hcY, -, hlY, -, -, -, -⟩ := Cond.code_spec hn h2
  obtain ⟨kY, hkY, -⟩ := className_of_methodNamed hn
  have hinitY : kY.init = .initialized := Cond.initialized_spec (findClass_of_methodNamed hn) hkY h3
  have h : At U g.method c below := by rw [hg]; exact X.here
  have hlocals9 : W9 + (maxL + 11) + (headSpec ws rm).room.locals ≤ R.locals := hlocals
  have happ : (headSpec ws rm).appliesLoose y e.platform (U.calling g mk a) = true :=
    Spec.appliesLoose_calling (g := g) h hdg hn hkY hinitY
      (X.room_calling (g := g) (R' := (headSpec ws rm).room) hsize hmY hcY hframes (by rw [hlY]; omega) h4 h5) h1
  obtain ⟨mid, hmid⟩ := h.above
  have hfr : (U.setTop g).frames = (.java g :: mid) ++ below := by rw [State.frames_setTop' g h.top, hmid]; rfl
  obtain ⟨o, s₂, hsteps, -, hend, hq⟩ := Steps.callFree hM p X.admits X.cas X.clock (acts := []) hfr happ hPc trivial
  have hq' : vx_Q Qc XC mc ms free a (U.calling g mk a) o s₂ := hq
  rw [State.frames_setTop' g h.top] at hend
  obtain ⟨g₀, hg0⟩ := Option.isSome_iff_exists.mp h.top
  obtain ⟨r, hr⟩ := State.topJava?_eq_some.mp hg0
  have hr' : (({ U with heap := s₂.heap, slotsUsed := s₂.slotsUsed } : State).setVm s₂.vm).frames = .java g₀ :: r := hr
  rcases hq' with ⟨hqc, L, hfe, hL⟩ | ⟨q, rfl, E, ce, L, hx, hce, hcv, hcl, hW₂, hsm, hL⟩
  · obtain ⟨⟨v, rfl⟩, hW₂, e2, q2, q3, q4, q5, q6⟩ := id hfe
    have e3 : s₂ = ({ (U.calling g mk a).setFrames s₂.frames with heap := s₂.heap, slotsUsed := s₂.slotsUsed } : State).setVm s₂.vm := by
      have : s₂ = ({ s₂ with vm := (U.calling g mk a).vm } : State).setVm s₂.vm := rfl
      rw [e2] at this
      exact this
    obtain ⟨c₂, i₂, len₂, hc₂, hd₂, hf₂⟩ := hend
    have hW' : U.WarmedH s₂.vm := hW₂
    have hcc : c₂ = c := by
      have h1 : s₂.code? g.method = U.code? g.method := by
        rw [State.code?_eq, State.code?_eq, hW'.alike.method?]
      exact Option.some.inj (hc₂.symm.trans (h1.trans h.code))
    subst hcc
    have hlen : len₂ = len := by rw [hdg] at hd₂; cases hd₂; rfl
    subst hlen
    have hs₂ : s₂ = (({ U with heap := s₂.heap, slotsUsed := s₂.slotsUsed } : State).setVm s₂.vm).setTop { g with pc := g.pc + len₂, stack := v.toList ++ g.stack } := by
      refine e3.trans ?_
      rw [hf₂, State.calling_eq h.top, State.setFrames_setFrames, State.setTop_of_frames _ hr', hr]
      rfl
    have hsame : U.sameButNew ({ U with heap := s₂.heap, slotsUsed := s₂.slotsUsed } : State) L mc ms := by
      refine ⟨?_, q2, q3, q4, q5, q6⟩
      obtain ⟨t, ht, -⟩ := State.frames_cons hr
      show ({ U with heap := s₂.heap, slotsUsed := s₂.slotsUsed } : State) = { U.setFrames U.frames with heap := s₂.heap, slotsUsed := s₂.slotsUsed }
      rw [State.setFrames_self ht]
    subst hg
    refine Or.inl ⟨v, ⟨(({ U with heap := s₂.heap, slotsUsed := s₂.slotsUsed } : State).setVm s₂.vm), Ls ++ L, c0 + mc, s0 + ms⟩,
      ⟨X.admits, X.cas, X.clock, X.frames, X.room, X.hears, X.method, X.code, (X.here.setHeapUsed s₂.heap s₂.slotsUsed).setVm hW'.alike, X.tail, State.WarmedH.trans X.warmed hW', X.limits, X.bytes, X.same.trans (hsame.setVm s.vm)⟩,
      ⟨g, mk, s₂, L, rfl, rfl, hqc, rfl, hL, rfl, rfl⟩, ?_⟩
    show Steps p.tables e below _ ((({ U with heap := s₂.heap, slotsUsed := s₂.slotsUsed } : State).setVm s₂.vm).setTop { g with pc := g.pc + len₂, stack := v.toList ++ g.stack })
    rw [← hs₂]
    exact hsteps
  · obtain ⟨e2, q2, q3, q4, q5, q6⟩ := id hsm
    have e3 : s₂ = ({ (U.calling g mk a).setFrames s₂.frames with heap := s₂.heap, slotsUsed := s₂.slotsUsed } : State).setVm s₂.vm := by
      have : s₂ = ({ s₂ with vm := (U.calling g mk a).vm } : State).setVm s₂.vm := rfl
      rw [e2] at this
      exact this
    have hf₂ : s₂.frames = .throwing q :: .java g :: U.frames.tail := hend
    have hW' : U.WarmedH s₂.vm := hW₂
    have hs₂ : s₂ = ((({ U with heap := s₂.heap, slotsUsed := s₂.slotsUsed } : State).setVm s₂.vm).setTop g).pushFrame (.throwing q) := by
      refine e3.trans ?_
      rw [hf₂, State.calling_eq h.top, State.setFrames_setFrames, State.pushFrame, State.frames_setTop _ hr', State.setTop_of_frames _ hr', State.setFrames_setFrames, hr]
      rfl
    have hsame : U.sameButNew ({ U with heap := s₂.heap, slotsUsed := s₂.slotsUsed } : State) L mc ms := by
      refine ⟨?_, q2, q3, q4, q5, q6⟩
      obtain ⟨t, ht, -⟩ := State.frames_cons hr
      show ({ U with heap := s₂.heap, slotsUsed := s₂.slotsUsed } : State) = { U.setFrames U.frames with heap := s₂.heap, slotsUsed := s₂.slotsUsed }
      rw [State.setFrames_self ht]
    subst hg
    refine Or.inr ⟨q, ⟨(({ U with heap := s₂.heap, slotsUsed := s₂.slotsUsed } : State).setVm s₂.vm), Ls ++ L, c0 + mc, s0 + ms⟩,
      ⟨X.admits, X.cas, X.clock, X.frames, X.room, X.hears, X.method, X.code, (X.here.setHeapUsed s₂.heap s₂.slotsUsed).setVm hW'.alike, X.tail, State.WarmedH.trans X.warmed hW', X.limits, X.bytes, X.same.trans (hsame.setVm s.vm)⟩,
      ⟨g, mk, s₂, L, E, ce, rfl, rfl, hx, hce, hcv, hcl, rfl, hL, rfl, rfl⟩, ?_⟩
    show Steps p.tables e below _ (((({ U with heap := s₂.heap, slotsUsed := s₂.slotsUsed } : State).setVm s₂.vm).setTop g).pushFrame (.throwing q))
    rw [← hs₂]
    exact hsteps
end Payer
section Calls
variable {p : Program} {l : Launch} {e : Env} {R : Room} {s : State} {m : MethodId} {args : Array Value} {below : List Frame} {meth : Method} {c : Code} {T : State} {locs : List Loc} {cells slots : Nat}
theorem vx_callV (X : Stand p l e R s m args below meth c T locs cells slots) (hexec : p.tables.exec = Jvm.exec) {own C : String} {index : Nat} {y : MethodName} {bytes : ByteArray} {maxL : Nat} {ret : Option FieldType}
    (hown : s.vm.findClass own = some m.cls) (hlink : (Cond.methodLink own index y).before args s = true) (hinst : (Cond.instanceMethod y).before args s = true) (hsel : (Cond.selects C y y).before args s = true)
    (hcode : (Cond.code y bytes maxL ret).before args s = true) (hy : y.cls ≠ "java/lang/invoke/MethodHandle" ∧ y.cls ≠ "java/lang/invoke/VarHandle")
    {W9 : Nat} {Pre : Pt → Array Value → Prop} {Post : Pt → Array Value → Option Value → Pt → Prop} {PostX : Pt → Array Value → Addr → Pt → Prop} (hK : vx_Back l R p e below s args y 3 W9 Pre Post PostX)
    {b : Addr} {cellB : Cell} (hcell : T.heap[b]? = some cellB) (hobj : cellB.vm.isStatics = false) (hcls : s.vm.findClass C = some cellB.cls)
    {g : JFrame} (hg : g.method = m) (hsize : g.locals.size = c.maxLocals) {argsL rest : List Value} (hlen : ∀ sig, parseMethodDescriptor y.desc = some sig → argsL.length = sig.parameters.length)
    (hstack : g.stack = argsL.reverse ++ .ref b :: rest) (hW : 2 * g.monitorRoom + (rest.map fun v => v.category).sum ≤ W9) (hdg : decode c.code g.pc = .ok (.invokevirtual index, 3))
    (hpre : ∀ vm₁, s.WarmedH vm₁ → Pre ⟨T.setVm vm₁, locs, cells, slots⟩ (Value.ref b :: argsL).toArray) :
    (∃ (v : Option Value) (vm₁ : Vm) (B : Pt), s.WarmedH vm₁ ∧ Stand p l e R s m args below meth c B.U B.locs B.cells B.slots ∧ Post ⟨T.setVm vm₁, locs, cells, slots⟩ (Value.ref b :: argsL).toArray v B ∧
      ∀ target, Steps p.tables e below (B.U.setTop { g with pc := g.pc + 3, stack := v.toList ++ rest }) target → Steps p.tables e below (T.setTop g) target) ∨
    (∃ (q : Addr) (vm₁ : Vm) (B : Pt), s.WarmedH vm₁ ∧ Stand p l e R s m args below meth c B.U B.locs B.cells B.slots ∧ PostX ⟨T.setVm vm₁, locs, cells, slots⟩ (Value.ref b :: argsL).toArray q B ∧
      Steps p.tables e below (T.setTop g) ((B.U.setTop { g with stack := rest }).pushFrame (.throwing q))) := by
  obtain ⟨mk, methM, hnamed, hmethM, hstM, habM⟩ := Cond.instanceMethod_spec hinst
  obtain ⟨methM', cM, hmethM', -, -, -, -, -, -, hsigM⟩ := Cond.code_spec hnamed hcode
  cases hmethM.symm.trans hmethM'
  obtain ⟨c2, r2, m2, q1, q2, q3, q4, kP, hkP, hkPi⟩ := Cond.selects_spec hsel
  cases hcls.symm.trans q1
  cases (State.methodFound?_of_named hnamed hy).symm.trans q2
  cases hnamed.symm.trans q3
  have hselP : selectMethod e.platform s.vm cellB.cls mk = .method mk := by rw [Launch.admits_selectMethod X.admits]; exact q4
  obtain ⟨vm₁, X₁, hstep₁⟩ := X.invokevirtual hexec hown hlink hnamed hmethM hstM hkP hkPi hy (a := b) (cell := cellB) hcell
    (fun z h => by rw [h] at hobj; cases hobj) hselP hmethM habM hkP hkPi (g := g) hg (argsL := argsL) (rest := rest) (hlen _ hsigM) hstack hdg
  rcases hK m meth c ⟨T.setVm vm₁, locs, cells, slots⟩ { g with stack := rest } (.invokevirtual index) mk (Value.ref b :: argsL).toArray X₁ hg hsize hdg hW (X₁.named hnamed) (hpre vm₁ X₁.warmed) with ⟨v, B, X', hpost, hsteps⟩ | ⟨q, B, X', hpost, hsteps⟩
  · exact Or.inl ⟨v, vm₁, B, X₁.warmed, X', hpost, fun target h => hstep₁ _ fun acts => by rw [doInvoke_state]; exact hsteps.trans h⟩
  · exact Or.inr ⟨q, vm₁, B, X₁.warmed, X', hpost, hstep₁ _ fun acts => by rw [doInvoke_state]; exact hsteps⟩
theorem vx_callS (X : Stand p l e R s m args below meth c T locs cells slots) (hexec : p.tables.exec = Jvm.exec) {own : String} {index : Nat} {y : MethodName} {bytes : ByteArray} {maxL : Nat} {ret : Option FieldType}
    (hown : s.vm.findClass own = some m.cls) (hlink : (Cond.methodLink own index y).before args s = true) (hstat : (Cond.static y).before args s = true) (hinit : (Cond.initialized y.cls).before args s = true)
    (hcode : (Cond.code y bytes maxL ret).before args s = true) (hy : y.cls ≠ "java/lang/invoke/MethodHandle" ∧ y.cls ≠ "java/lang/invoke/VarHandle")
    {W9 : Nat} {Pre : Pt → Array Value → Prop} {Post : Pt → Array Value → Option Value → Pt → Prop} {PostX : Pt → Array Value → Addr → Pt → Prop} (hK : vx_Back l R p e below s args y 3 W9 Pre Post PostX)
    {g : JFrame} (hg : g.method = m) (hsize : g.locals.size = c.maxLocals) {argsL rest : List Value} (hlen : ∀ sig, parseMethodDescriptor y.desc = some sig → argsL.length = sig.parameters.length)
    (hstack : g.stack = argsL.reverse ++ rest) (hW : 2 * g.monitorRoom + (rest.map fun v => v.category).sum ≤ W9) (hdg : decode c.code g.pc = .ok (.invokestatic index, 3))
    (hpre : ∀ vm₁, s.WarmedH vm₁ → Pre ⟨T.setVm vm₁, locs, cells, slots⟩ argsL.toArray) :
    (∃ (v : Option Value) (vm₁ : Vm) (B : Pt), s.WarmedH vm₁ ∧ Stand p l e R s m args below meth c B.U B.locs B.cells B.slots ∧ Post ⟨T.setVm vm₁, locs, cells, slots⟩ argsL.toArray v B ∧
      ∀ target, Steps p.tables e below (B.U.setTop { g with pc := g.pc + 3, stack := v.toList ++ rest }) target → Steps p.tables e below (T.setTop g) target) ∨
    (∃ (q : Addr) (vm₁ : Vm) (B : Pt), s.WarmedH vm₁ ∧ Stand p l e R s m args below meth c B.U B.locs B.cells B.slots ∧ PostX ⟨T.setVm vm₁, locs, cells, slots⟩ argsL.toArray q B ∧
      Steps p.tables e below (T.setTop g) ((B.U.setTop { g with stack := rest }).pushFrame (.throwing q))) := by
  obtain ⟨mk, hnamed⟩ := Cond.code_named hcode
  obtain ⟨methM, cM, hmethM, -, -, -, -, -, -, hsigM⟩ := Cond.code_spec hnamed hcode
  have hstatic : methM.isStatic = true := Cond.static_spec hnamed hmethM hstat
  obtain ⟨kP, hkP, -⟩ := className_of_methodNamed hnamed
  have hinitP : kP.init = .initialized := Cond.initialized_spec (findClass_of_methodNamed hnamed) hkP hinit
  obtain ⟨vm₁, X₁, hstep₁⟩ := X.invokestatic hexec hown hlink hnamed hmethM hstatic hkP hinitP hy (g := g) hg (argsL := argsL) (rest := rest) (hlen _ hsigM) hstack hdg
  rcases hK m meth c ⟨T.setVm vm₁, locs, cells, slots⟩ { g with stack := rest } (.invokestatic index) mk argsL.toArray X₁ hg hsize hdg hW (X₁.named hnamed) (hpre vm₁ X₁.warmed) with ⟨v, B, X', hpost, hsteps⟩ | ⟨q, B, X', hpost, hsteps⟩
  · exact Or.inl ⟨v, vm₁, B, X₁.warmed, X', hpost, fun target h => hstep₁ _ fun acts => by rw [doInvoke_state]; exact hsteps.trans h⟩
  · exact Or.inr ⟨q, vm₁, B, X₁.warmed, X', hpost, hstep₁ _ fun acts => by rw [doInvoke_state]; exact hsteps⟩
end Calls
theorem vx_cls {s : State} {T : State} {vm₁ : Vm} {E : String} {k : ClassId} (hW : s.WarmedH vm₁) (h : (T.setVm vm₁).vm.findClass E = some k) : s.vm.findClass E = some k := by
  have h1 : vm₁.findClass E = some k := h
  rw [hW.alike.findClass] at h1
  exact h1
/-- the method's frame g, with q thrown over it -/
def vx_W (p : Program) (l : Launch) (e : Env) (R : Room) (s : State) (m : MethodId) (args : Array Value) (below : List Frame) (meth : Method) (c : Code) (H : Heap) (locs : List Loc) (cells slots : Nat) (Q : State → Prop) (g : JFrame) (q : Addr) : Prop :=
  ∀ T : State, T.heap = H → Stand p l e R s m args below meth c T locs cells slots → ∃ t, Steps p.tables e below ((T.setTop g).pushFrame (.throwing q)) t ∧ Q t
def vx_Run (p : Program) (l : Launch) (e : Env) (R : Room) (s : State) (m : MethodId) (args : Array Value) (below : List Frame) (meth : Method) (c : Code) (H : Heap) (locs : List Loc) (cells slots mc ms : Nat) (g : JFrame) (rest : List Value) (Qa : State → Outcome → State → Prop) (XC : String → State → State → Prop) (free : Addr → Prop) : Prop :=
  ∀ T : State, T.heap = H → Stand p l e R s m args below meth c T locs cells slots →
    (∃ (v : Option Value) (st₀ t T' : State) (L : List Loc), st₀.heap = H ∧ Stand p l e R s m args below meth c T' (locs ++ L) (cells + mc) (slots + ms) ∧ (∀ q ∈ L, free q.base) ∧ T'.heap = t.heap ∧ T'.vm = t.vm ∧ Qa st₀ (.returned v) t ∧
      Goes p e below T g T' { g with pc := g.pc + 3, stack := v.toList ++ rest }) ∨
    (∃ (q : Addr) (st₀ t T' : State) (L : List Loc) (E : String) (ce : Cell), st₀.heap = H ∧ Stand p l e R s m args below meth c T' (locs ++ L) (cells + mc) (slots + ms) ∧ (∀ z ∈ L, free z.base) ∧ T'.heap = t.heap ∧ T'.vm = t.vm ∧ XC E st₀ t ∧ t.heap[q]? = some ce ∧ ce.vm = .none ∧ s.vm.findClass E = some ce.cls ∧
      Steps p.tables e below (T.setTop g) ((T'.setTop { g with stack := rest }).pushFrame (.throwing q)))
def vx_X {S : Type} (px : S → Prop) (B : String → S → State → Prop) (A : Nat → Prop) : String → State → State → Prop := fun E st t => ∃ u : S, px u ∧ B E u t ∧ va_F A st t
section Runs
variable {p : Program} {l : Launch} {e : Env} {R : Room} {s : State} {m : MethodId} {args : Array Value} {below : List Frame} {meth : Method} {c : Code} {H : Heap} {locs : List Loc} {cells slots : Nat}
variable {y : MethodName} {bytes cc : ByteArray} {maxL nL mc ms n index : Nat} {ret : Option FieldType} {ws : List Cond} {rm : Room} {Pc : Array Value → State → Prop} {Qc : Array Value → State → Outcome → State → Prop} {XC : String → State → State → Prop} {free : Addr → Prop} {Ts : List Cond} {own C : String} {b : Addr} {As rest : List Value} {g : JFrame}
theorem vx_callBack (cb : CallB R s args own index y bytes maxL ret ws rm mc ms n) (hM : vx_Met l y ws rm Pc Qc XC mc ms free) (hbl : FrameBlind Pc) : vx_Back l R p e below s args y 3 8 (PreOf R mc ms Pc) (PostOf Qc mc ms free) (vx_Post XC mc ms free) := by
  obtain ⟨hrc, hrs, hfr, hlo, hws, hcw, -, hini, -⟩ := cb
  exact vx_back (bytes := bytes) (maxL := maxL) (ret := ret) hM hbl hrc hrs hfr hlo hws hcw (fun a' U hW => word_at hW (Or.inl (by first | rfl | simp [Cond.onTables, Cond.keeps, Cond.steady])) hini)
theorem vx_runV (S : CallFix p m c cc nL s args Ts own) (hM : vx_Met l y ws rm Pc Qc XC mc ms free) (cw : CallW R s args own C index y bytes maxL ret ws rm mc ms n) (hp : PreV s H C b Pc As)
    (hg : g.method = m) (hn : As.length = n) (hsize : g.locals.size = nL) (hstack : g.stack = As.reverse ++ .ref b :: rest) (hW : 2 * g.monitorRoom + (rest.map fun v => v.category).sum ≤ 8) (hdg : decode cc g.pc = .ok (.invokevirtual index, 3)) (hf : cells + mc ≤ R.cells ∧ slots + ms ≤ R.slots) :
    vx_Run p l e R s m args below meth c H locs cells slots mc ms g rest (Qc (Value.ref b :: As).toArray) XC free := by
  have hK : vx_Back l R p e below s args y 3 8 (PreOf R mc ms Pc) (PostOf Qc mc ms free) (vx_Post XC mc ms free) := vx_callBack cw.1 hM hp.1
  obtain ⟨⟨-, -, -, -, -, -, hcode, -, hy, hlen, hl⟩, hin, hse⟩ := cw
  obtain ⟨hx, hb, hml, ho, -⟩ := S
  obtain ⟨-, ⟨cellB, hcB, hoB, hclB⟩, hPc⟩ := hp
  intro T hT X
  rcases vx_callV X hx (C := C) (bytes := bytes) (maxL := maxL) (ret := ret) ho hl hin hse hcode hy hK (by rw [hT]; exact hcB) hoB hclB hg (hsize.trans hml.symm) (argsL := As) (rest := rest) (fun sig h => hn.trans (hlen sig h)) hstack hW (by rw [hb]; exact hdg)
    (fun vm₁ hW₁ => ⟨hf.1, hf.2, hPc (T.setVm vm₁) hT hW₁⟩) with ⟨v, vm₁, ⟨U', l2, c2, s2⟩, hW₁, X', ⟨g', mk, t, L, e1, e2, hq, h1, hL, h2, h3⟩, st⟩ | ⟨q, vm₁, ⟨U', l2, c2, s2⟩, hW₁, X', ⟨g', mk, t, L, E, ce, e1, e2, hq, hce, hcv, hcl, h1, hL, h2, h3⟩, st⟩
  · dsimp only [Pt.U, Pt.locs, Pt.cells, Pt.slots] at X' e1 e2 h1 h2 h3 st
    subst h1; subst h2; subst h3
    exact Or.inl ⟨v, (T.setVm vm₁).calling g' mk (Value.ref b :: As).toArray, t, U', L, hT, X', hL, e1, e2, hq, st⟩
  · dsimp only [Pt.U, Pt.locs, Pt.cells, Pt.slots] at X' e1 e2 h1 h2 h3 st hcl
    subst h1; subst h2; subst h3
    exact Or.inr ⟨q, (T.setVm vm₁).calling g' mk (Value.ref b :: As).toArray, t, U', L, E, ce, hT, X', hL, e1, e2, hq, hce, hcv, vx_cls hW₁ hcl, st⟩
theorem vx_runS (S : CallFix p m c cc nL s args Ts own) (hM : vx_Met l y ws rm Pc Qc XC mc ms free) (cw : CallB R s args own index y bytes maxL ret ws rm mc ms n ∧ (Cond.static y).before args s = true) (hp : PreS s H Pc As)
    (hg : g.method = m) (hn : As.length = n) (hsize : g.locals.size = nL) (hstack : g.stack = As.reverse ++ rest) (hW : 2 * g.monitorRoom + (rest.map fun v => v.category).sum ≤ 8) (hdg : decode cc g.pc = .ok (.invokestatic index, 3)) (hf : cells + mc ≤ R.cells ∧ slots + ms ≤ R.slots) :
    vx_Run p l e R s m args below meth c H locs cells slots mc ms g rest (Qc As.toArray) XC free := by
  have hK : vx_Back l R p e below s args y 3 8 (PreOf R mc ms Pc) (PostOf Qc mc ms free) (vx_Post XC mc ms free) := vx_callBack cw.1 hM hp.1
  obtain ⟨⟨-, -, -, -, -, -, hcode, hini, hy, hlen, hl⟩, hstt⟩ := cw
  obtain ⟨hx, hb, hml, ho, -⟩ := S
  intro T hT X
  rcases vx_callS X hx (bytes := bytes) (maxL := maxL) (ret := ret) ho hl hstt hini hcode hy hK hg (hsize.trans hml.symm) (argsL := As) (rest := rest) (fun sig h => hn.trans (hlen sig h)) hstack hW (by rw [hb]; exact hdg)
    (fun vm₁ hW₁ => ⟨hf.1, hf.2, hp.2 (T.setVm vm₁) hT hW₁⟩) with ⟨v, vm₁, ⟨U', l2, c2, s2⟩, hW₁, X', ⟨g', mk, t, L, e1, e2, hq, h1, hL, h2, h3⟩, st⟩ | ⟨q, vm₁, ⟨U', l2, c2, s2⟩, hW₁, X', ⟨g', mk, t, L, E, ce, e1, e2, hq, hce, hcv, hcl, h1, hL, h2, h3⟩, st⟩
  · dsimp only [Pt.U, Pt.locs, Pt.cells, Pt.slots] at X' e1 e2 h1 h2 h3 st
    subst h1; subst h2; subst h3
    exact Or.inl ⟨v, (T.setVm vm₁).calling g' mk As.toArray, t, U', L, hT, X', hL, e1, e2, hq, st⟩
  · dsimp only [Pt.U, Pt.locs, Pt.cells, Pt.slots] at X' e1 e2 h1 h2 h3 st hcl
    subst h1; subst h2; subst h3
    exact Or.inr ⟨q, (T.setVm vm₁).calling g' mk As.toArray, t, U', L, E, ce, hT, X', hL, e1, e2, hq, hce, hcv, vx_cls hW₁ hcl, st⟩
end Runs
section Rows
variable {p : Program} {l : Launch} {e : Env} {R : Room} {s : State} {m : MethodId} {args : Array Value} {below : List Frame} {meth : Method} {c : Code} {H : Heap} {locs : List Loc} {cells slots : Nat} {Q : State → Prop}
variable {mc ms : Nat} {free : Addr → Prop} {A0 A1 : Nat → Prop} {H0 : Heap} {a : Array Value} {pc : Nat} {ls : Array Slot} {st0 rest : List Value}
theorem vx_keep {st₀ t T' : State} {L : List Loc} (h0 : st₀.heap = H) (e1 : T'.heap = t.heap) (hS : va_S A0 H0 H locs) (hA : ∀ q, q < H.size → A1 q → A0 q) (hf : ∀ q, free q → A0 q) (hL : ∀ q ∈ L, free q.base) (hF : va_F A1 st₀ t) :
    H.size ≤ T'.heap.size ∧ (∀ q : Nat, q < H.size → ¬ A1 q → T'.heap[q]? = H[q]?) ∧ va_S A0 H0 T'.heap (locs ++ L) := by
  obtain ⟨hz, hk⟩ := hF
  rw [h0] at hz hk
  exact ⟨by rw [e1]; exact hz, fun q h1 h2 => by rw [e1]; exact hk q h1 h2,
    ⟨Nat.le_trans hS.1 (by rw [e1]; exact hz), fun q h1 h2 => by rw [e1, hk q (Nat.lt_of_lt_of_le h1 hS.1) (fun z => h2 (hA q (Nat.lt_of_lt_of_le h1 hS.1) z))]; exact hS.2.1 q h1 h2, fun q hq => by
      rcases List.mem_append.mp hq with h | h
      · exact hS.2.2 q h
      · exact hf _ (hL q h)⟩⟩
theorem vx_calli {S SX : Type} {post : Int32 → S → Prop} {px : SX → Prop} {B : S → State → Prop} {BX : String → SX → State → Prop} {AX : Nat → Prop} (hr : vx_Run p l e R s m args below meth c H locs cells slots mc ms (F0 m pc ls st0) rest (va_Qi post B A1 a) (vx_X px BX AX) free) (hS : va_S A0 H0 H locs) (hA : ∀ q, q < H.size → A1 q → A0 q) (hf : ∀ q, free q → A0 q) (hAX : ∀ q, q < H.size → AX q → A0 q)
    (kx : ∀ (E : String) (ce : Cell) (q9 : Addr) (u : SX) (t : State) (H1 : Heap) (locs1 : List Loc), t.heap = H1 → s.vm.Alike t.vm → px u → BX E u t → H.size ≤ H1.size → (∀ q : Nat, q < H.size → ¬ AX q → H1[q]? = H[q]?) → va_S A0 H0 H1 locs1 → H1[q9]? = some ce → ce.vm = .none → s.vm.findClass E = some ce.cls → vx_W p l e R s m args below meth c H1 locs1 (cells + mc) (slots + ms) Q (F0 m pc ls rest) q9)
    (kk : ∀ (r : Int32) (u : S) (t : State) (H1 : Heap) (locs1 : List Loc), t.heap = H1 → s.vm.Alike t.vm → post r u → B u t → H.size ≤ H1.size → (∀ q : Nat, q < H.size → ¬ A1 q → H1[q]? = H[q]?) → va_S A0 H0 H1 locs1 → W p l e R s m args below meth c H1 locs1 (cells + mc) (slots + ms) Q (F0 m (pc + 3) ls (.int r :: rest))) : W p l e R s m args below meth c H locs cells slots Q (F0 m pc ls st0) := by
  intro T hT X
  rcases hr T hT X with ⟨v, st₀, t, T', L, h0, X', hL, e1, e2, ⟨⟨r, u, hv, hp, hb⟩, hF⟩, st⟩ | ⟨q, st₀, t, T', L, E, ce, h0, X', hL, e1, e2, ⟨u, hp, hb, hF⟩, hce, hcv, hcl, st⟩
  · cases hv
    obtain ⟨k1, k2, k3⟩ := vx_keep h0 e1 hS hA hf hL hF
    obtain ⟨t2, a1, b1⟩ := kk r u t T'.heap (locs ++ L) e1.symm (by rw [← e2]; exact X'.warmed.alike) hp hb k1 k2 k3 T' rfl X'
    exact ⟨t2, st t2 a1, b1⟩
  · obtain ⟨k1, k2, k3⟩ := vx_keep h0 e1 hS hAX hf hL hF
    obtain ⟨t2, a1, b1⟩ := kx E ce q u t T'.heap (locs ++ L) e1.symm (by rw [← e2]; exact X'.warmed.alike) hp hb k1 k2 k3 (by rw [e1]; exact hce) hcv hcl T' rfl X'
    exact ⟨t2, st.trans a1, b1⟩
theorem vx_calll {S SX : Type} {post : Int64 → S → Prop} {px : SX → Prop} {B : S → State → Prop} {BX : String → SX → State → Prop} {AX : Nat → Prop} (hr : vx_Run p l e R s m args below meth c H locs cells slots mc ms (F0 m pc ls st0) rest (va_Ql post B A1 a) (vx_X px BX AX) free) (hS : va_S A0 H0 H locs) (hA : ∀ q, q < H.size → A1 q → A0 q) (hf : ∀ q, free q → A0 q) (hAX : ∀ q, q < H.size → AX q → A0 q)
    (kx : ∀ (E : String) (ce : Cell) (q9 : Addr) (u : SX) (t : State) (H1 : Heap) (locs1 : List Loc), t.heap = H1 → s.vm.Alike t.vm → px u → BX E u t → H.size ≤ H1.size → (∀ q : Nat, q < H.size → ¬ AX q → H1[q]? = H[q]?) → va_S A0 H0 H1 locs1 → H1[q9]? = some ce → ce.vm = .none → s.vm.findClass E = some ce.cls → vx_W p l e R s m args below meth c H1 locs1 (cells + mc) (slots + ms) Q (F0 m pc ls rest) q9)
    (kk : ∀ (r : Int64) (u : S) (t : State) (H1 : Heap) (locs1 : List Loc), t.heap = H1 → s.vm.Alike t.vm → post r u → B u t → H.size ≤ H1.size → (∀ q : Nat, q < H.size → ¬ A1 q → H1[q]? = H[q]?) → va_S A0 H0 H1 locs1 → W p l e R s m args below meth c H1 locs1 (cells + mc) (slots + ms) Q (F0 m (pc + 3) ls (.long r :: rest))) : W p l e R s m args below meth c H locs cells slots Q (F0 m pc ls st0) := by
  intro T hT X
  rcases hr T hT X with ⟨v, st₀, t, T', L, h0, X', hL, e1, e2, ⟨⟨r, u, hv, hp, hb⟩, hF⟩, st⟩ | ⟨q, st₀, t, T', L, E, ce, h0, X', hL, e1, e2, ⟨u, hp, hb, hF⟩, hce, hcv, hcl, st⟩
  · cases hv
    obtain ⟨k1, k2, k3⟩ := vx_keep h0 e1 hS hA hf hL hF
    obtain ⟨t2, a1, b1⟩ := kk r u t T'.heap (locs ++ L) e1.symm (by rw [← e2]; exact X'.warmed.alike) hp hb k1 k2 k3 T' rfl X'
    exact ⟨t2, st t2 a1, b1⟩
  · obtain ⟨k1, k2, k3⟩ := vx_keep h0 e1 hS hAX hf hL hF
    obtain ⟨t2, a1, b1⟩ := kx E ce q u t T'.heap (locs ++ L) e1.symm (by rw [← e2]; exact X'.warmed.alike) hp hb k1 k2 k3 (by rw [e1]; exact hce) hcv hcl T' rfl X'
    exact ⟨t2, st.trans a1, b1⟩
theorem vx_callf {S SX : Type} {post : UInt32 → S → Prop} {px : SX → Prop} {B : S → State → Prop} {BX : String → SX → State → Prop} {AX : Nat → Prop} (hr : vx_Run p l e R s m args below meth c H locs cells slots mc ms (F0 m pc ls st0) rest (va_Qf post B A1 a) (vx_X px BX AX) free) (hS : va_S A0 H0 H locs) (hA : ∀ q, q < H.size → A1 q → A0 q) (hf : ∀ q, free q → A0 q) (hAX : ∀ q, q < H.size → AX q → A0 q)
    (kx : ∀ (E : String) (ce : Cell) (q9 : Addr) (u : SX) (t : State) (H1 : Heap) (locs1 : List Loc), t.heap = H1 → s.vm.Alike t.vm → px u → BX E u t → H.size ≤ H1.size → (∀ q : Nat, q < H.size → ¬ AX q → H1[q]? = H[q]?) → va_S A0 H0 H1 locs1 → H1[q9]? = some ce → ce.vm = .none → s.vm.findClass E = some ce.cls → vx_W p l e R s m args below meth c H1 locs1 (cells + mc) (slots + ms) Q (F0 m pc ls rest) q9)
    (kk : ∀ (r : UInt32) (u : S) (t : State) (H1 : Heap) (locs1 : List Loc), t.heap = H1 → s.vm.Alike t.vm → post r u → B u t → H.size ≤ H1.size → (∀ q : Nat, q < H.size → ¬ A1 q → H1[q]? = H[q]?) → va_S A0 H0 H1 locs1 → W p l e R s m args below meth c H1 locs1 (cells + mc) (slots + ms) Q (F0 m (pc + 3) ls (.float r :: rest))) : W p l e R s m args below meth c H locs cells slots Q (F0 m pc ls st0) := by
  intro T hT X
  rcases hr T hT X with ⟨v, st₀, t, T', L, h0, X', hL, e1, e2, ⟨⟨r, u, hv, hp, hb⟩, hF⟩, st⟩ | ⟨q, st₀, t, T', L, E, ce, h0, X', hL, e1, e2, ⟨u, hp, hb, hF⟩, hce, hcv, hcl, st⟩
  · cases hv
    obtain ⟨k1, k2, k3⟩ := vx_keep h0 e1 hS hA hf hL hF
    obtain ⟨t2, a1, b1⟩ := kk r u t T'.heap (locs ++ L) e1.symm (by rw [← e2]; exact X'.warmed.alike) hp hb k1 k2 k3 T' rfl X'
    exact ⟨t2, st t2 a1, b1⟩
  · obtain ⟨k1, k2, k3⟩ := vx_keep h0 e1 hS hAX hf hL hF
    obtain ⟨t2, a1, b1⟩ := kx E ce q u t T'.heap (locs ++ L) e1.symm (by rw [← e2]; exact X'.warmed.alike) hp hb k1 k2 k3 (by rw [e1]; exact hce) hcv hcl T' rfl X'
    exact ⟨t2, st.trans a1, b1⟩
theorem vx_calld {S SX : Type} {post : UInt64 → S → Prop} {px : SX → Prop} {B : S → State → Prop} {BX : String → SX → State → Prop} {AX : Nat → Prop} (hr : vx_Run p l e R s m args below meth c H locs cells slots mc ms (F0 m pc ls st0) rest (va_Qd post B A1 a) (vx_X px BX AX) free) (hS : va_S A0 H0 H locs) (hA : ∀ q, q < H.size → A1 q → A0 q) (hf : ∀ q, free q → A0 q) (hAX : ∀ q, q < H.size → AX q → A0 q)
    (kx : ∀ (E : String) (ce : Cell) (q9 : Addr) (u : SX) (t : State) (H1 : Heap) (locs1 : List Loc), t.heap = H1 → s.vm.Alike t.vm → px u → BX E u t → H.size ≤ H1.size → (∀ q : Nat, q < H.size → ¬ AX q → H1[q]? = H[q]?) → va_S A0 H0 H1 locs1 → H1[q9]? = some ce → ce.vm = .none → s.vm.findClass E = some ce.cls → vx_W p l e R s m args below meth c H1 locs1 (cells + mc) (slots + ms) Q (F0 m pc ls rest) q9)
    (kk : ∀ (r : UInt64) (u : S) (t : State) (H1 : Heap) (locs1 : List Loc), t.heap = H1 → s.vm.Alike t.vm → post r u → B u t → H.size ≤ H1.size → (∀ q : Nat, q < H.size → ¬ A1 q → H1[q]? = H[q]?) → va_S A0 H0 H1 locs1 → W p l e R s m args below meth c H1 locs1 (cells + mc) (slots + ms) Q (F0 m (pc + 3) ls (.double r :: rest))) : W p l e R s m args below meth c H locs cells slots Q (F0 m pc ls st0) := by
  intro T hT X
  rcases hr T hT X with ⟨v, st₀, t, T', L, h0, X', hL, e1, e2, ⟨⟨r, u, hv, hp, hb⟩, hF⟩, st⟩ | ⟨q, st₀, t, T', L, E, ce, h0, X', hL, e1, e2, ⟨u, hp, hb, hF⟩, hce, hcv, hcl, st⟩
  · cases hv
    obtain ⟨k1, k2, k3⟩ := vx_keep h0 e1 hS hA hf hL hF
    obtain ⟨t2, a1, b1⟩ := kk r u t T'.heap (locs ++ L) e1.symm (by rw [← e2]; exact X'.warmed.alike) hp hb k1 k2 k3 T' rfl X'
    exact ⟨t2, st t2 a1, b1⟩
  · obtain ⟨k1, k2, k3⟩ := vx_keep h0 e1 hS hAX hf hL hF
    obtain ⟨t2, a1, b1⟩ := kx E ce q u t T'.heap (locs ++ L) e1.symm (by rw [← e2]; exact X'.warmed.alike) hp hb k1 k2 k3 (by rw [e1]; exact hce) hcv hcl T' rfl X'
    exact ⟨t2, st.trans a1, b1⟩
theorem vx_callv {S SX : Type} {post : S → Prop} {px : SX → Prop} {B : S → State → Prop} {BX : String → SX → State → Prop} {AX : Nat → Prop} (hr : vx_Run p l e R s m args below meth c H locs cells slots mc ms (F0 m pc ls st0) rest (va_Qv post B A1 a) (vx_X px BX AX) free) (hS : va_S A0 H0 H locs) (hA : ∀ q, q < H.size → A1 q → A0 q) (hf : ∀ q, free q → A0 q) (hAX : ∀ q, q < H.size → AX q → A0 q)
    (kx : ∀ (E : String) (ce : Cell) (q9 : Addr) (u : SX) (t : State) (H1 : Heap) (locs1 : List Loc), t.heap = H1 → s.vm.Alike t.vm → px u → BX E u t → H.size ≤ H1.size → (∀ q : Nat, q < H.size → ¬ AX q → H1[q]? = H[q]?) → va_S A0 H0 H1 locs1 → H1[q9]? = some ce → ce.vm = .none → s.vm.findClass E = some ce.cls → vx_W p l e R s m args below meth c H1 locs1 (cells + mc) (slots + ms) Q (F0 m pc ls rest) q9)
    (kk : ∀ (u : S) (t : State) (H1 : Heap) (locs1 : List Loc), t.heap = H1 → s.vm.Alike t.vm → post u → B u t → H.size ≤ H1.size → (∀ q : Nat, q < H.size → ¬ A1 q → H1[q]? = H[q]?) → va_S A0 H0 H1 locs1 → W p l e R s m args below meth c H1 locs1 (cells + mc) (slots + ms) Q (F0 m (pc + 3) ls (rest))) : W p l e R s m args below meth c H locs cells slots Q (F0 m pc ls st0) := by
  intro T hT X
  rcases hr T hT X with ⟨v, st₀, t, T', L, h0, X', hL, e1, e2, ⟨⟨u, hv, hp, hb⟩, hF⟩, st⟩ | ⟨q, st₀, t, T', L, E, ce, h0, X', hL, e1, e2, ⟨u, hp, hb, hF⟩, hce, hcv, hcl, st⟩
  · cases hv
    obtain ⟨k1, k2, k3⟩ := vx_keep h0 e1 hS hA hf hL hF
    obtain ⟨t2, a1, b1⟩ := kk u t T'.heap (locs ++ L) e1.symm (by rw [← e2]; exact X'.warmed.alike) hp hb k1 k2 k3 T' rfl X'
    exact ⟨t2, st t2 a1, b1⟩
  · obtain ⟨k1, k2, k3⟩ := vx_keep h0 e1 hS hAX hf hL hF
    obtain ⟨t2, a1, b1⟩ := kx E ce q u t T'.heap (locs ++ L) e1.symm (by rw [← e2]; exact X'.warmed.alike) hp hb k1 k2 k3 (by rw [e1]; exact hce) hcv hcl T' rfl X'
    exact ⟨t2, st.trans a1, b1⟩
/-- caught by the row x of this method's table; the rows ahead don't take it -/
theorem vx_catch {own name : String} {E : String} {ce : Cell} {q : Addr} (hown : s.vm.findClass own = some m.cls) (pre : List ExceptionTableEntry) (x : ExceptionTableEntry) (suf : List ExceptionTableEntry) (hsplit : c.exceptionTable.toList = pre ++ x :: suf)
    (hpass : ∀ z ∈ pre, covers z pc = false ∨ (z.catchType ≠ 0 ∧ ∃ nm : String, (Cond.classLink own z.catchType nm).before args s = true ∧ va_Nc E nm s)) (hx : covers x pc = true) (h0 : x.catchType ≠ 0)
    (hlink : (Cond.classLink own x.catchType name).before args s = true) (hcast : (Cond.castable E name).before args s = true) (hcell : H[q]? = some ce) (hv : ce.vm = .none) (hcl : s.vm.findClass E = some ce.cls)
    (kk : W p l e R s m args below meth c H locs cells slots Q (F0 m x.handlerPc ls [.ref q])) : vx_W p l e R s m args below meth c H locs cells slots Q (F0 m pc ls rest) q := by
  intro T hT X
  have hpl : e.platform.magicAccessors = ({} : Platform).magicAccessors := by rw [X.admits.platform]
  obtain ⟨c3, c4, hc3, hc4, hasg⟩ := Cond.castable_spec hcast
  cases Option.some.inj (hc3.symm.trans hcl)
  obtain ⟨c5, hc5, hcl5⟩ := Cond.classLink_spec hown hlink e.platform hpl
  cases Option.some.inj (hc4.symm.trans hc5)
  obtain ⟨vm', X', st⟩ := Jvm.Stand.thenCaughtThrough X q (g := F0 m pc ls rest) rfl (Steps.refl _) (by rw [hT]; exact hcell) (by rw [hv]; rfl) (by obtain ⟨k9, h9, -⟩ := Vm.findClass_spec hcl; exact ⟨k9, h9⟩) pre x suf hsplit
    (fun z hz => by
      rcases hpass z hz with h | ⟨hz0, nm, hl1, hn1⟩
      · exact Or.inl h
      · obtain ⟨c6, hc6, hcl6⟩ := Cond.classLink_spec hown hl1 e.platform hpl
        obtain ⟨a8, b8, h1, h2, h3⟩ := hn1
        cases Option.some.inj (h1.symm.trans hcl)
        cases Option.some.inj (h2.symm.trans hc6)
        exact Or.inr ⟨hz0, _, hcl6, h3⟩) hx (Or.inr ⟨h0, c4, hcl5, hasg⟩)
  obtain ⟨t, a1, b1⟩ := kk (T.setVm vm') hT X'
  exact ⟨t, st.trans a1, b1⟩
end Rows
section Ends
variable {p : Program} {l : Launch} {e : Env} {R : Room} {s : State} {m : MethodId} {args : Array Value} {below : List Frame} {meth : Method} {c : Code} {H : Heap} {locs : List Loc} {cells slots : Nat} {Q : State → Prop}
variable {mc ms : Nat} {free : Addr → Prop} {A0 A1 : Nat → Prop} {H0 : Heap} {a : Array Value} {ls : Array Slot} {st0 rest : List Value}
variable {Qc : Array Value → State → Outcome → State → Prop} {XC : String → State → State → Prop}
/-- what a body that may throw owes at its end -/
def vx_MQ (below : List Frame) (Qc : Array Value → State → Outcome → State → Prop) (XC : String → State → State → Prop) (a : Array Value) (s : State) (mc ms : Nat) (free : Addr → Prop) : State → Prop := fun t =>
  ∃ o, t.status = .running ∧ Ended t below o ∧ vx_Q Qc XC mc ms free a s o t
theorem vx_ret {g : JFrame} {mc ms : Nat} (k : W p l e R s m args below meth c H locs cells slots (MQ below Qc args s mc ms free) g) : W p l e R s m args below meth c H locs cells slots (vx_MQ below Qc XC args s mc ms free) g := by
  intro T hT X
  obtain ⟨t, a1, o, b1, b2, b3, b4⟩ := k T hT X
  exact ⟨t, a1, o, b1, b2, Or.inl ⟨b3, b4⟩⟩
/-- not caught here: it goes on to the caller -/
theorem vx_widen {g : JFrame} {q : Addr} {k n : Nat} (h1 : cells ≤ k) (h2 : slots ≤ n) (kk : vx_W p l e R s m args below meth c H locs k n Q g q) : vx_W p l e R s m args below meth c H locs cells slots Q g q := fun T hT X => kk T hT (stand_widen X h1 h2)
theorem vx_out {pc : Nat} {E : String} {ce : Cell} {q : Addr} {mc ms : Nat} (hout : ∀ x ∈ c.exceptionTable.toList, covers x pc = false) (hlocks : meth.locks = false) (hcell : H[q]? = some ce) (hv : ce.vm = .none) (hcl : s.vm.findClass E = some ce.cls)
    (hx : ∀ t : State, t.heap = H → s.vm.Alike t.vm → XC E s t) (hf : ∀ z ∈ locs, free z.base) (hc : cells ≤ mc) (hs : slots ≤ ms) :
    vx_W p l e R s m args below meth c H locs cells slots (vx_MQ below Qc XC args s mc ms free) (F0 m pc ls rest) q := by
  intro T hT X
  obtain ⟨st1, hrun, hend, hW, hsm⟩ := X.leaveThrown q (g := F0 m pc ls rest) rfl rfl rfl hout hlocks
  have hcell9 : (T.setFrames (.throwing q :: below)).heap[q]? = some ce := by
    show T.heap[q]? = some ce
    rw [hT]; exact hcell
  exact ⟨_, st1, .threw q, hrun, hend, Or.inr ⟨q, rfl, E, ce, locs, hx _ hT hW.alike, hcell9, hv, hcl, hW, hsm.mono hc hs, hf⟩⟩
theorem vx_frame {U : State} {k n : Nat} (h : s.sameButNew ({ U with vm := s.vm } : State) locs k n) : s.heap.size ≤ U.heap.size ∧ ∀ q : Nat, q < s.heap.size → (∀ z ∈ locs, z.base ≠ q) → U.heap[q]? = s.heap[q]? := by
  obtain ⟨-, h2, -, -, -, h6⟩ := h
  refine ⟨h2, fun q hq hz => ?_⟩
  obtain ⟨c9, e1, e2, e3, e4⟩ := h6 q _ (Array.getElem?_eq_getElem hq)
  have hs : c9.slots = (s.heap[q]).slots := Array.ext_getElem? fun i => e4 i fun hm => hz _ hm rfl
  have h9 : c9 = s.heap[q] := by
    rw [hs] at e2
    exact e2
  have e5 : U.heap[q]? = some c9 := e1
  rw [e5, h9, Array.getElem?_eq_getElem hq]
/-- the words of a throw but the four that speak of the heap -/
def vx_no (w : Cond) : Bool := decide (w ≠ .isRef (.static Bundle.tN "UNASSIGNED_STACK" Bundle.steD)) && decide (w ≠ .isRef (.static Bundle.tN "SUPPRESSED_SENTINEL" Bundle.listD)) && decide (w ≠ .laysStatic Bundle.tN "UNASSIGNED_STACK" Bundle.steD) && decide (w ≠ .laysStatic Bundle.tN "SUPPRESSED_SENTINEL" Bundle.listD)
def vx_at0 (own : String) (ic : Nat) (X : String) (names : List String) : List Cond := (Bundle.ownAtoms0 own ic X names).filter vx_no
def vx_atS (own : String) (ic : Nat) (X : String) (names : List String) : List Cond := (Bundle.ownAtoms own ic X names).filter vx_no
/-- a word that the tables alone decide, or a good one -/
def vx_ot (w : Cond) : Bool := w.onTables || goodWord w
theorem vx_ot_at {args a' : Array Value} {s U : State} {w : Cond} (hW : s.WarmedH U.vm) (hvm : s.vm = U.vm) (hg : vx_ot w = true) (h : w.before args s = true) : w.before a' U = true := by
  simp only [vx_ot, Bool.or_eq_true] at hg
  rcases hg with hg | hg
  · exact va_tabs hg hvm h
  · exact word_at hW (good_of_word hg) h
/-- a list's words: the good ones out of the method's own list, the others by premises of their own -/
theorem vx_hat {args : Array Value} {s : State} {L B : List Cond} (h1 : ∀ w ∈ L.filter goodWord, w.before args s = true) (h2 : ∀ w ∈ L.filter (fun w => !goodWord w), w ∈ B) (h3 : ∀ w ∈ B, w.before args s = true) : ∀ w ∈ L, w.before args s = true := by
  intro w hw
  by_cases g : goodWord w = true
  · exact h1 w (List.mem_filter.mpr ⟨hw, g⟩)
  · refine h3 w (h2 w (List.mem_filter.mpr ⟨hw, ?_⟩))
    show (!goodWord w) = true
    cases hgw : goodWord w
    · rfl
    · exact absurd hgw g
theorem vx_c {args : Array Value} {s : State} {w : Cond} {B : List Cond} (h : w.before args s = true) (t : ∀ w ∈ B, w.before args s = true) : ∀ w' ∈ w :: B, w'.before args s = true := fun w' h' => (List.mem_cons.mp h').elim (fun e => by rw [e]; exact h) (t w')
theorem vx_n {args : Array Value} {s : State} : ∀ w ∈ ([] : List Cond), w.before args s = true := fun _ h => nomatch h
theorem vx_own {args : Array Value} {s : State} {L : List Cond} (h1 : ∀ w ∈ L.filter vx_no, w.before args s = true)
    (hU : (Cond.isRef (.static Bundle.tN "UNASSIGNED_STACK" Bundle.steD)).before args s = true) (hN : (Cond.isRef (.static Bundle.tN "SUPPRESSED_SENTINEL" Bundle.listD)).before args s = true)
    (lU : (Cond.laysStatic Bundle.tN "UNASSIGNED_STACK" Bundle.steD).before args s = true) (lN : (Cond.laysStatic Bundle.tN "SUPPRESSED_SENTINEL" Bundle.listD).before args s = true) : ∀ w ∈ L, w.before args s = true := by
  intro w hw
  by_cases e1 : w = .isRef (.static Bundle.tN "UNASSIGNED_STACK" Bundle.steD)
  · rw [e1]; exact hU
  · by_cases e2 : w = .isRef (.static Bundle.tN "SUPPRESSED_SENTINEL" Bundle.listD)
    · rw [e2]; exact hN
    · by_cases e3 : w = .laysStatic Bundle.tN "UNASSIGNED_STACK" Bundle.steD
      · rw [e3]; exact lU
      · by_cases e4 : w = .laysStatic Bundle.tN "SUPPRESSED_SENTINEL" Bundle.listD
        · rw [e4]; exact lN
        · exact h1 w (List.mem_filter.mpr ⟨hw, by unfold vx_no; rw [decide_eq_true e1, decide_eq_true e2, decide_eq_true e3, decide_eq_true e4]; rfl⟩)
/-- where a static field lies, its class's statics cell in H -/
def vx_L (C n d : String) (A : Nat → Prop) (U : State) (H : Heap) : Prop := ∃ (c : ClassId) (k : Class) (i : Nat) (f : Field) (a : Nat) (cell : Cell), U.vm.findClass C = some c ∧ U.fieldFound? C n d = some (c, k, i, f) ∧ f.isStatic = true ∧ k.statics = some a ∧ H[a]? = some cell ∧ cell.vm.isStatics = true ∧ cell.cls = c ∧ f.slot < cell.slots.size ∧ k.staticTypes[f.slot]? = some f.type ∧ ¬ A a
theorem vx_L.moved {C n d : String} {A : Nat → Prop} {u U : State} {H : Heap} (hvm : u.vm.Alike U.vm) (h : vx_L C n d A u H) : vx_L C n d A U H := by
  obtain ⟨c, k, i, f, a, cell, h1, h2, h3, h4, h5, h6, h7, h8, h9, h10⟩ := h
  obtain ⟨k', hi', he⟩ := State.fieldFound?_setVm hvm h2
  exact ⟨c, k', i, f, a, cell, by rw [hvm.findClass]; exact h1, hi', h3, by rw [he]; exact h4, h5, h6, h7, h8, by rw [he]; exact h9, h10⟩
theorem vx_L.kept {C n d : String} {A : Nat → Prop} {U : State} {H H1 : Heap} (h : vx_L C n d A U H) (hq : ∀ a : Nat, a < H.size → ¬ A a → H1[a]? = H[a]?) : vx_L C n d A U H1 := by
  obtain ⟨c, k, i, f, a, cell, h1, h2, h3, h4, h5, h6, h7, h8, h9, h10⟩ := h
  exact ⟨c, k, i, f, a, cell, h1, h2, h3, h4, by rw [hq a (Array.getElem?_eq_some_iff.mp h5).1 h10]; exact h5, h6, h7, h8, h9, h10⟩
theorem vx_L.narrow {C n d : String} {A B : Nat → Prop} {U : State} {H : Heap} (h : vx_L C n d A U H) (hAB : ∀ q, B q → A q) : vx_L C n d B U H := by
  obtain ⟨c, k, i, f, a, cell, h1, h2, h3, h4, h5, h6, h7, h8, h9, h10⟩ := h
  exact ⟨c, k, i, f, a, cell, h1, h2, h3, h4, h5, h6, h7, h8, h9, fun z => h10 (hAB _ z)⟩
theorem vx_L.word {C n d : String} {A : Nat → Prop} {s : State} {args : Array Value} (h : vx_L C n d A s s.heap) : (Cond.laysStatic C n d).before args s = true := by
  obtain ⟨c, k, i, f, a, cell, h1, h2, h3, h4, h5, h6, h7, h8, h9, -⟩ := h
  show (Cond.laysStatic C n d).holds args s none s [] = true
  exact Cond.laysStatic_of h1 h2 h3 h4 h5 h6 h7 h8 h9
/-- .. and what it holds: null or some reference -/
def vx_Zq (C n d : String) (A : Nat → Prop) (U : State) (H : Heap) : Prop := va_Zq C n d A U H ∧ vx_L C n d A U H
theorem vx_Zq.moved {C n d : String} {A : Nat → Prop} {u U : State} {H : Heap} (hvm : u.vm.Alike U.vm) (h : vx_Zq C n d A u H) : vx_Zq C n d A U H := ⟨va_Zq.moved hvm h.1, vx_L.moved hvm h.2⟩
theorem vx_Zq.kept {C n d : String} {A : Nat → Prop} {U : State} {H H1 : Heap} (h : vx_Zq C n d A U H) (hq : ∀ a : Nat, a < H.size → ¬ A a → H1[a]? = H[a]?) : vx_Zq C n d A U H1 := ⟨va_Zq.kept h.1 hq, vx_L.kept h.2 hq⟩
theorem vx_Zq.narrow {C n d : String} {A B : Nat → Prop} {U : State} {H : Heap} (h : vx_Zq C n d A U H) (hAB : ∀ q, B q → A q) : vx_Zq C n d B U H := ⟨va_Zq.narrow h.1 hAB, vx_L.narrow h.2 hAB⟩
theorem vx_Zqof {args : Array Value} {s : State} {C n d : String} {A : Nat → Prop} (hl : (Cond.laysStatic C n d).before args s = true) (hini : (Cond.initialized C).before args s = true) (h : (Cond.isRef (.static C n d)).before args s = true) (hA : ∀ a : Nat, a < s.heap.size → ¬ A a) : vx_Zq C n d A s s.heap := by
  refine ⟨va_Zqof hl hini h hA, ?_⟩
  obtain ⟨c, k, i, f, a, cell, h1, h2, h3, h4, h5, h6, h7, h8, h9⟩ := Cond.laysStatic_spec hl
  exact ⟨c, k, i, f, a, cell, h1, h2, h3, h4, h5, h6, h7, h8, h9, hA a (Array.getElem?_eq_some_iff.mp h5).1⟩
theorem vx_isRef {C n d : String} {v : Value} {A : Nat → Prop} {s : State} {args : Array Value} (h : va_Z C n d v A s s.heap) (hv : v.isRef = true) : (Cond.isRef (.static C n d)).before args s = true := by
  obtain ⟨cf, kf, fi, f, a, cell, h1, h2, h3, h4, h5, h6, h7, -⟩ := h
  have he : (Term.static C n d).eval args s none [] s = some v := by
    simp [Term.eval, State.fieldNamed?, h1, h2, h4, h5, h6, h7]
  simp only [Cond.before, Cond.holds, Cond.value, he]
  cases v <;> simp_all [Value.isRef]
theorem vx_isRefq {C n d : String} {A : Nat → Prop} {s : State} {args : Array Value} (h : va_Zq C n d A s s.heap) : (Cond.isRef (.static C n d)).before args s = true := by
  rcases h with h | ⟨t, h⟩
  · exact vx_isRef h rfl
  · exact vx_isRef h rfl
/-- the same frame, seen from here: as if the method were called anew in this heap -/
theorem vx_rebase {T : State} (X : Stand p l e R s m args below meth c T locs cells slots) {R' : Room} (hf : R'.frames ≤ R.frames) (hl : R'.locals ≤ R.locals) (hc : cells + R'.cells ≤ R.cells) (hs : slots + R'.slots ≤ R.slots) :
    Stand p l e R' ((T.setVm s.vm).setFrames (.invoking m args :: below)) m args below meth c T [] 0 0 := by
  have htop : (T.setVm s.vm).topJava?.isSome := X.here.top
  have hF : ((T.setVm s.vm).setFrames (.invoking m args :: below)).frames = .invoking m args :: below := State.frames_setFrames _ (State.cur_lt_of_top htop)
  obtain ⟨g₀, hg0⟩ := Option.isSome_iff_exists.mp htop
  obtain ⟨r, hr⟩ := State.topJava?_eq_some.mp hg0
  have hl9 : e.platform.stackLimits (T.setVm s.vm).me = e.platform.stackLimits s.me := X.limits
  have hb9 : (T.setVm s.vm).me.stackBytes = s.me.stackBytes := X.bytes
  refine ⟨X.admits, X.cas, X.clock, hF, ?_, X.hears, X.method, X.code, X.here, X.tail, X.warmed, ?_, ?_, ?_⟩
  · have h := X.room
    have hU : ((T.setVm s.vm).setFrames (.invoking m args :: below)).localsInUse = s.localsInUse := by
      rw [State.localsInUse_invoking hF (meth := meth) (c := c) X.method X.code, State.localsInUse_invoking X.frames X.method X.code]
    simp only [State.hasRoom, Bool.and_eq_true, decide_eq_true_eq] at h ⊢
    obtain ⟨⟨⟨⟨h1, h2, h3, h4, h5, h6⟩, h7⟩, h8⟩, h9⟩ := h
    rw [X.frames, List.length_cons] at h2 h3
    have q1 := X.heapSize
    have q2 := X.used
    simp only [hF, hU, List.length_cons, State.stackLimits_setFrames, State.stackBytes_setFrames, hl9, hb9]
    refine ⟨⟨⟨⟨by omega, by omega, by omega, by omega, by omega, h6⟩, ?_⟩, ?_⟩, X.book⟩
    · show T.heap.size + R'.cells ≤ e.platform.maxCells
      omega
    · show T.slotsUsed + R'.slots ≤ e.platform.maxSlots
      omega
  · rw [State.stackLimits_setFrames]; rfl
  · rw [State.stackBytes_setFrames]; rfl
  · refine ⟨?_, Nat.le_refl _, Nat.le_refl _, ?_, ?_, fun a c9 h9 => ⟨c9, h9, rfl, rfl, fun _ _ => rfl⟩⟩
    · obtain ⟨t, ht, -⟩ := State.frames_cons hr
      show T.setVm s.vm = { ((T.setVm s.vm).setFrames (.invoking m args :: below)).setFrames (T.setVm s.vm).frames with heap := T.heap, slotsUsed := T.slotsUsed }
      rw [State.setFrames_setFrames, State.setFrames_self ht]
      rfl
    · show T.slotsUsed = T.slotsUsed + ((T.heap.toList.drop T.heap.size).map (·.slots.size)).sum
      rw [List.drop_eq_nil_of_le (Nat.le_of_eq Array.length_toList)]
      rfl
    · show ((T.heap.toList.drop T.heap.size).map (·.slots.size)).sum ≤ 0
      rw [List.drop_eq_nil_of_le (Nat.le_of_eq Array.length_toList)]
      exact Nat.le_refl _
/-- 'throw new E()': new; dup; invokespecial; athrow -/
theorem vx_throw0 {cc : ByteArray} {pc : Nat} (hexec : p.tables.exec = Jvm.exec) (hb : c.code = cc) (hl : l.stackTraces = false) {own cls : String} {names : List String} {ik ic mc ms : Nat} {A : Nat → Prop}
    (hown : s.vm.findClass own = some m.cls) (hcls : Bundle.fit cls = true) (hnames : ∀ n ∈ names, Bundle.fit n = true)
    (hk : (Cond.classLink own ik cls).before args s = true) (hini : (Cond.initialized cls).before args s = true) (hat : ∀ w ∈ vx_at0 own ic cls names, w.before args s = true)
    (hgood : ∀ w ∈ Cond.classLink own ik cls :: Cond.initialized cls :: vx_at0 own ic cls names, vx_ot w = true)
    (hU : vx_Zq Bundle.tN "UNASSIGNED_STACK" Bundle.steD A s s.heap) (hN : vx_Zq Bundle.tN "SUPPRESSED_SENTINEL" Bundle.listD A s s.heap) (hS : va_S A s.heap H locs) (hsize : ls.size = c.maxLocals)
    (d0 : decode cc pc = .ok (.new ik, 3)) (d3 : decode cc (pc + 3) = .ok (.dup, 1)) (d4 : decode cc (pc + 4) = .ok (.invokespecial ic, 3)) (d7 : decode cc (pc + 7) = .ok (.athrow, 1))
    (hout : ∀ x ∈ c.exceptionTable.toList, covers x (pc + 7) = false)
    (hRframes : names.length + 3 < R.frames) (hRlocals : (rest.map fun v => v.category).sum + (13 * (names.length + 1) + 42) ≤ R.locals) (hRcells : cells + 1 ≤ R.cells) (hRslots : slots + 6 ≤ R.slots) (hlocks : meth.locks = false)
    (hx : ∀ t : State, s.vm.Alike t.vm → H.size ≤ t.heap.size → (∀ q : Nat, q < H.size → t.heap[q]? = H[q]?) → XC cls s t)
    (hf : ∀ z ∈ locs, free z.base) (hc : cells + 1 ≤ mc) (hs : slots + 6 ≤ ms) :
    W p l e R s m args below meth c H locs cells slots (vx_MQ below Qc XC args s mc ms free) (F0 m pc ls rest) := by
  intro T hT X
  have htr : e.platform.stackTraces = false := (show e.platform.stackTraces = l.stackTraces by rw [X.admits.platform]).trans hl
  have Y := vx_rebase X (R' := { frames := R.frames, locals := R.locals, cells := 1, slots := 6 }) (Nat.le_refl _) (Nat.le_refl _) hRcells hRslots
  obtain ⟨s', hA⟩ : ∃ z, z = (T.setVm s.vm).setFrames (.invoking m args :: below) := ⟨_, rfl⟩
  rw [← hA] at Y
  have hvm : s'.vm = s.vm := by rw [hA]; rfl
  have hhp : s'.heap = H := by rw [hA]; exact hT
  have hW0 : s.WarmedH s'.vm := by rw [hvm]; exact State.WarmedH.refl s
  have hat' : ∀ w ∈ vx_at0 own ic cls names, w.before args s' = true := fun w hw => vx_ot_at hW0 hvm.symm (hgood w (List.mem_cons_of_mem _ (List.mem_cons_of_mem _ hw))) (hat w hw)
  have hk' : (Cond.classLink own ik cls).before args s' = true := vx_ot_at hW0 hvm.symm (hgood _ List.mem_cons_self) hk
  have hini' : (Cond.initialized cls).before args s' = true := vx_ot_at hW0 hvm.symm (hgood _ (List.mem_cons_of_mem _ List.mem_cons_self)) hini
  have hU' : vx_Zq Bundle.tN "UNASSIGNED_STACK" Bundle.steD A s' s'.heap := by rw [hhp]; exact vx_Zq.moved hW0.alike (hU.kept hS.2.1)
  have hN' : vx_Zq Bundle.tN "SUPPRESSED_SENTINEL" Bundle.listD A s' s'.heap := by rw [hhp]; exact vx_Zq.moved hW0.alike (hN.kept hS.2.1)
  have h : ∀ w ∈ Bundle.ownAtoms0 own ic cls names, w.before args s' = true := vx_own hat' (vx_isRefq hU'.1) (vx_isRefq hN'.1) hU'.2.word hN'.2.word
  have hown' : s'.vm.findClass own = some m.cls := by rw [hvm]; exact hown
  have hins : (Cond.instantiable cls 6).before args s' = true := h _ (by simp [Bundle.ownAtoms0])
  obtain ⟨vm₁, cX, kX, hfX, hkX, -, -, X₁, st1⟩ := Y.newCold hexec (own := own) (C := cls) (index := ik) (n := 6) hown' hk' hins hini'
    (g := F0 m pc ls rest) rfl (by rw [hb]; exact d0) (Nat.le_refl _) (Nat.le_refl _)
  generalize hT1 : (T.setVm vm₁).pushCell { cls := cX, slots := kX.instanceTypes.map defaultValue, vm := .none } = T1 at X₁ st1
  have hcat : (Value.ref T.heap.size).category = 1 := rfl
  have hcellA : T1.heap[T.heap.size]? = some (freshCell cX kX) := by rw [← hT1]; exact State.heap_pushCell_size _ _
  have d3' : decode c.code (pc + 3) = .ok (.dup, 1) := by rw [hb]; exact d3
  obtain ⟨U, hsteps, hrun, hend, hW, hsame, ce, hce, hO⟩ := X₁.ctorThrow0 hexec htr (own := own) (cls := cls) (names := names) (ic := ic) hown' hcls hnames h (fun x hx => nomatch hx) hfX hkX hcellA (by rw [hhp, hT]; exact Nat.le_refl _)
    (g := { method := m, pc := pc + 4, locals := ls, stack := .ref T.heap.size :: .ref T.heap.size :: rest, locked := none }) rfl hsize rfl rfl (rest := rest) rfl
    (by rw [hb]; exact d4) (by rw [hb]; exact d7) hout hRframes (by simp only [List.map_cons, List.sum_cons, hcat]; omega) hlocks
  obtain ⟨f1, f2⟩ := vx_frame hsame
  rw [hhp] at f1 f2
  have hWs : s.WarmedH U.vm := State.WarmedH.trans hW0 hW
  have hcl : s.vm.findClass cls = some ce.cls := by
    have h9 := hO.cls
    rw [hvm] at h9
    exact h9
  have hall : s.sameButNew ({ U with vm := s.vm } : State) locs mc ms := by
    subst hA
    obtain ⟨e1, e2⟩ := hsame
    rw [State.setFrames_setFrames] at e1
    have h2 : (T.setVm s.vm).sameButNew ({ U with vm := s.vm } : State) [] (0 + 1) (0 + 6) := ⟨e1, e2⟩
    have h3 := X.same.trans h2
    rw [List.append_nil] at h3
    exact h3.mono hc hs
  refine ⟨U, ?_, .threw T.heap.size, hrun, hend, Or.inr ⟨T.heap.size, rfl, cls, ce, locs, hx U hWs.alike f1 (fun q hq => f2 q hq (fun z hz => nomatch hz)), hce, hO.vm, hcl, hWs, hall, hf⟩⟩
  refine st1 _ ?_
  show Steps p.tables e below (T1.setTop { method := m, pc := pc + 3, locals := ls, stack := .ref T.heap.size :: rest, locked := none }) _
  jvm_step X₁.here [X₁.here.top, hexec, d3', Value.category]
  exact hsteps
/-- 'throw new E("text")': new; dup; ldc; invokespecial; athrow -/
theorem vx_throwS {cc : ByteArray} {pc : Nat} (hexec : p.tables.exec = Jvm.exec) (hb : c.code = cc) (hl : l.stackTraces = false) {own cls text : String} {names : List String} {ik is ic mc ms sa : Nat} {A : Nat → Prop}
    (hown : s.vm.findClass own = some m.cls) (hcls : Bundle.fit cls = true) (hnames : ∀ n ∈ names, Bundle.fit n = true)
    (hk : (Cond.classLink own ik cls).before args s = true) (hini : (Cond.initialized cls).before args s = true) (hstr : vk_R own is text sa s) (hat : ∀ w ∈ vx_atS own ic cls names, w.before args s = true)
    (hgood : ∀ w ∈ Cond.classLink own ik cls :: Cond.initialized cls :: vx_atS own ic cls names, vx_ot w = true)
    (hU : vx_Zq Bundle.tN "UNASSIGNED_STACK" Bundle.steD A s s.heap) (hN : vx_Zq Bundle.tN "SUPPRESSED_SENTINEL" Bundle.listD A s s.heap) (hS : va_S A s.heap H locs) (hsize : ls.size = c.maxLocals)
    (d0 : decode cc pc = .ok (.new ik, 3)) (d3 : decode cc (pc + 3) = .ok (.dup, 1)) (d4 : decode cc (pc + 4) = .ok (.ldc is, 2)) (d6 : decode cc (pc + 6) = .ok (.invokespecial ic, 3)) (d9 : decode cc (pc + 9) = .ok (.athrow, 1))
    (hout : ∀ x ∈ c.exceptionTable.toList, covers x (pc + 9) = false)
    (hRframes : names.length + 3 < R.frames) (hRlocals : (rest.map fun v => v.category).sum + (13 * (names.length + 1) + 43) ≤ R.locals) (hRcells : cells + 1 ≤ R.cells) (hRslots : slots + 6 ≤ R.slots) (hlocks : meth.locks = false)
    (hx : ∀ t : State, s.vm.Alike t.vm → H.size ≤ t.heap.size → (∀ q : Nat, q < H.size → t.heap[q]? = H[q]?) → XC cls s t)
    (hf : ∀ z ∈ locs, free z.base) (hc : cells + 1 ≤ mc) (hs : slots + 6 ≤ ms) :
    W p l e R s m args below meth c H locs cells slots (vx_MQ below Qc XC args s mc ms free) (F0 m pc ls rest) := by
  intro T hT X
  have htr : e.platform.stackTraces = false := (show e.platform.stackTraces = l.stackTraces by rw [X.admits.platform]).trans hl
  have Y := vx_rebase X (R' := { frames := R.frames, locals := R.locals, cells := 1, slots := 6 }) (Nat.le_refl _) (Nat.le_refl _) hRcells hRslots
  obtain ⟨s', hA⟩ : ∃ z, z = (T.setVm s.vm).setFrames (.invoking m args :: below) := ⟨_, rfl⟩
  rw [← hA] at Y
  have hvm : s'.vm = s.vm := by rw [hA]; rfl
  have hhp : s'.heap = H := by rw [hA]; exact hT
  have hW0 : s.WarmedH s'.vm := by rw [hvm]; exact State.WarmedH.refl s
  have hat' : ∀ w ∈ vx_atS own ic cls names, w.before args s' = true := fun w hw => vx_ot_at hW0 hvm.symm (hgood w (List.mem_cons_of_mem _ (List.mem_cons_of_mem _ hw))) (hat w hw)
  have hk' : (Cond.classLink own ik cls).before args s' = true := vx_ot_at hW0 hvm.symm (hgood _ List.mem_cons_self) hk
  have hini' : (Cond.initialized cls).before args s' = true := vx_ot_at hW0 hvm.symm (hgood _ (List.mem_cons_of_mem _ List.mem_cons_self)) hini
  have hU' : vx_Zq Bundle.tN "UNASSIGNED_STACK" Bundle.steD A s' s'.heap := by rw [hhp]; exact vx_Zq.moved hW0.alike (hU.kept hS.2.1)
  have hN' : vx_Zq Bundle.tN "SUPPRESSED_SENTINEL" Bundle.listD A s' s'.heap := by rw [hhp]; exact vx_Zq.moved hW0.alike (hN.kept hS.2.1)
  have h : ∀ w ∈ Bundle.ownAtoms own ic cls names, w.before args s' = true := vx_own hat' (vx_isRefq hU'.1) (vx_isRefq hN'.1) hU'.2.word hN'.2.word
  have hown' : s'.vm.findClass own = some m.cls := by rw [hvm]; exact hown
  have hins : (Cond.instantiable cls 6).before args s' = true := h _ (by simp [Bundle.ownAtoms])
  obtain ⟨vm₁, cX, kX, hfX, hkX, -, -, X₁, st1⟩ := Y.newCold hexec (own := own) (C := cls) (index := ik) (n := 6) hown' hk' hins hini'
    (g := F0 m pc ls rest) rfl (by rw [hb]; exact d0) (Nat.le_refl _) (Nat.le_refl _)
  generalize hT1 : (T.setVm vm₁).pushCell { cls := cX, slots := kX.instanceTypes.map defaultValue, vm := .none } = T1 at X₁ st1
  have hcat : (Value.ref T.heap.size).category = 1 := rfl
  have hcellA : T1.heap[T.heap.size]? = some (freshCell cX kX) := by rw [← hT1]; exact State.heap_pushCell_size _ _
  have d3' : decode c.code (pc + 3) = .ok (.dup, 1) := by rw [hb]; exact d3
  have d4' : decode c.code (pc + 4) = .ok (.ldc is, 2) := by rw [hb]; exact d4
  have hstr' : vk_R own is text sa s' := vk_R.warm hW0 hstr
  obtain ⟨U, hsteps, hrun, hend, hW, hsame, ce, hce, hO⟩ := X₁.ctorThrowS hexec htr (own := own) (cls := cls) (names := names) (ic := ic) hown' hcls hnames h (fun x hx => nomatch hx) hfX hkX hcellA (by rw [hhp, hT]; exact Nat.le_refl _) (msg := .ref sa) rfl
    (g := { method := m, pc := pc + 6, locals := ls, stack := .ref sa :: .ref T.heap.size :: .ref T.heap.size :: rest, locked := none }) rfl hsize rfl rfl (rest := rest) rfl
    (by rw [hb]; exact d6) (by rw [hb]; exact d9) hout hRframes (by simp only [List.map_cons, List.sum_cons, hcat]; omega) hlocks
  obtain ⟨f1, f2⟩ := vx_frame hsame
  rw [hhp] at f1 f2
  have hWs : s.WarmedH U.vm := State.WarmedH.trans hW0 hW
  have hcl : s.vm.findClass cls = some ce.cls := by
    have h9 := hO.cls
    rw [hvm] at h9
    exact h9
  have hall : s.sameButNew ({ U with vm := s.vm } : State) locs mc ms := by
    subst hA
    obtain ⟨e1, e2⟩ := hsame
    rw [State.setFrames_setFrames] at e1
    have h2 : (T.setVm s.vm).sameButNew ({ U with vm := s.vm } : State) [] (0 + 1) (0 + 6) := ⟨e1, e2⟩
    have h3 := X.same.trans h2
    rw [List.append_nil] at h3
    exact h3.mono hc hs
  refine ⟨U, ?_, .threw T.heap.size, hrun, hend, Or.inr ⟨T.heap.size, rfl, cls, ce, locs, hx U hWs.alike f1 (fun q hq => f2 q hq (fun z hz => nomatch hz)), hce, hO.vm, hcl, hWs, hall, hf⟩⟩
  refine st1 _ ?_
  show Steps p.tables e below (T1.setTop { method := m, pc := pc + 3, locals := ls, stack := .ref T.heap.size :: rest, locked := none }) _
  jvm_step X₁.here [X₁.here.top, hexec, d3', Value.category]
  exact X₁.ldcString hexec (own := own) (text := text) (index := is) (a := sa) hown' hstr'.1 hstr'.2
    (g := { method := m, pc := pc + 4, locals := ls, stack := .ref T.heap.size :: .ref T.heap.size :: rest, locked := none }) rfl d4' _ hsteps
/-- 'throw new E("text")', the text by a wide index -/
theorem vx_throwSW {cc : ByteArray} {pc : Nat} (hexec : p.tables.exec = Jvm.exec) (hb : c.code = cc) (hl : l.stackTraces = false) {own cls text : String} {names : List String} {ik is ic mc ms sa : Nat} {A : Nat → Prop}
    (hown : s.vm.findClass own = some m.cls) (hcls : Bundle.fit cls = true) (hnames : ∀ n ∈ names, Bundle.fit n = true)
    (hk : (Cond.classLink own ik cls).before args s = true) (hini : (Cond.initialized cls).before args s = true) (hstr : vk_R own is text sa s) (hat : ∀ w ∈ vx_atS own ic cls names, w.before args s = true)
    (hgood : ∀ w ∈ Cond.classLink own ik cls :: Cond.initialized cls :: vx_atS own ic cls names, vx_ot w = true)
    (hU : vx_Zq Bundle.tN "UNASSIGNED_STACK" Bundle.steD A s s.heap) (hN : vx_Zq Bundle.tN "SUPPRESSED_SENTINEL" Bundle.listD A s s.heap) (hS : va_S A s.heap H locs) (hsize : ls.size = c.maxLocals)
    (d0 : decode cc pc = .ok (.new ik, 3)) (d3 : decode cc (pc + 3) = .ok (.dup, 1)) (d4 : decode cc (pc + 4) = .ok (.ldc_w is, 3)) (d7 : decode cc (pc + 7) = .ok (.invokespecial ic, 3)) (d10 : decode cc (pc + 10) = .ok (.athrow, 1))
    (hout : ∀ x ∈ c.exceptionTable.toList, covers x (pc + 10) = false)
    (hRframes : names.length + 3 < R.frames) (hRlocals : (rest.map fun v => v.category).sum + (13 * (names.length + 1) + 43) ≤ R.locals) (hRcells : cells + 1 ≤ R.cells) (hRslots : slots + 6 ≤ R.slots) (hlocks : meth.locks = false)
    (hx : ∀ t : State, s.vm.Alike t.vm → H.size ≤ t.heap.size → (∀ q : Nat, q < H.size → t.heap[q]? = H[q]?) → XC cls s t)
    (hf : ∀ z ∈ locs, free z.base) (hc : cells + 1 ≤ mc) (hs : slots + 6 ≤ ms) :
    W p l e R s m args below meth c H locs cells slots (vx_MQ below Qc XC args s mc ms free) (F0 m pc ls rest) := by
  intro T hT X
  have htr : e.platform.stackTraces = false := (show e.platform.stackTraces = l.stackTraces by rw [X.admits.platform]).trans hl
  have Y := vx_rebase X (R' := { frames := R.frames, locals := R.locals, cells := 1, slots := 6 }) (Nat.le_refl _) (Nat.le_refl _) hRcells hRslots
  obtain ⟨s', hA⟩ : ∃ z, z = (T.setVm s.vm).setFrames (.invoking m args :: below) := ⟨_, rfl⟩
  rw [← hA] at Y
  have hvm : s'.vm = s.vm := by rw [hA]; rfl
  have hhp : s'.heap = H := by rw [hA]; exact hT
  have hW0 : s.WarmedH s'.vm := by rw [hvm]; exact State.WarmedH.refl s
  have hat' : ∀ w ∈ vx_atS own ic cls names, w.before args s' = true := fun w hw => vx_ot_at hW0 hvm.symm (hgood w (List.mem_cons_of_mem _ (List.mem_cons_of_mem _ hw))) (hat w hw)
  have hk' : (Cond.classLink own ik cls).before args s' = true := vx_ot_at hW0 hvm.symm (hgood _ List.mem_cons_self) hk
  have hini' : (Cond.initialized cls).before args s' = true := vx_ot_at hW0 hvm.symm (hgood _ (List.mem_cons_of_mem _ List.mem_cons_self)) hini
  have hU' : vx_Zq Bundle.tN "UNASSIGNED_STACK" Bundle.steD A s' s'.heap := by rw [hhp]; exact vx_Zq.moved hW0.alike (hU.kept hS.2.1)
  have hN' : vx_Zq Bundle.tN "SUPPRESSED_SENTINEL" Bundle.listD A s' s'.heap := by rw [hhp]; exact vx_Zq.moved hW0.alike (hN.kept hS.2.1)
  have h : ∀ w ∈ Bundle.ownAtoms own ic cls names, w.before args s' = true := vx_own hat' (vx_isRefq hU'.1) (vx_isRefq hN'.1) hU'.2.word hN'.2.word
  have hown' : s'.vm.findClass own = some m.cls := by rw [hvm]; exact hown
  have hins : (Cond.instantiable cls 6).before args s' = true := h _ (by simp [Bundle.ownAtoms])
  obtain ⟨vm₁, cX, kX, hfX, hkX, -, -, X₁, st1⟩ := Y.newCold hexec (own := own) (C := cls) (index := ik) (n := 6) hown' hk' hins hini'
    (g := F0 m pc ls rest) rfl (by rw [hb]; exact d0) (Nat.le_refl _) (Nat.le_refl _)
  generalize hT1 : (T.setVm vm₁).pushCell { cls := cX, slots := kX.instanceTypes.map defaultValue, vm := .none } = T1 at X₁ st1
  have hcat : (Value.ref T.heap.size).category = 1 := rfl
  have hcellA : T1.heap[T.heap.size]? = some (freshCell cX kX) := by rw [← hT1]; exact State.heap_pushCell_size _ _
  have d3' : decode c.code (pc + 3) = .ok (.dup, 1) := by rw [hb]; exact d3
  have d4' : decode c.code (pc + 4) = .ok (.ldc_w is, 3) := by rw [hb]; exact d4
  have hstr' : vk_R own is text sa s' := vk_R.warm hW0 hstr
  obtain ⟨U, hsteps, hrun, hend, hW, hsame, ce, hce, hO⟩ := X₁.ctorThrowS hexec htr (own := own) (cls := cls) (names := names) (ic := ic) hown' hcls hnames h (fun x hx => nomatch hx) hfX hkX hcellA (by rw [hhp, hT]; exact Nat.le_refl _) (msg := .ref sa) rfl
    (g := { method := m, pc := pc + 7, locals := ls, stack := .ref sa :: .ref T.heap.size :: .ref T.heap.size :: rest, locked := none }) rfl hsize rfl rfl (rest := rest) rfl
    (by rw [hb]; exact d7) (by rw [hb]; exact d10) hout hRframes (by simp only [List.map_cons, List.sum_cons, hcat]; omega) hlocks
  obtain ⟨f1, f2⟩ := vx_frame hsame
  rw [hhp] at f1 f2
  have hWs : s.WarmedH U.vm := State.WarmedH.trans hW0 hW
  have hcl : s.vm.findClass cls = some ce.cls := by
    have h9 := hO.cls
    rw [hvm] at h9
    exact h9
  have hall : s.sameButNew ({ U with vm := s.vm } : State) locs mc ms := by
    subst hA
    obtain ⟨e1, e2⟩ := hsame
    rw [State.setFrames_setFrames] at e1
    have h2 : (T.setVm s.vm).sameButNew ({ U with vm := s.vm } : State) [] (0 + 1) (0 + 6) := ⟨e1, e2⟩
    have h3 := X.same.trans h2
    rw [List.append_nil] at h3
    exact h3.mono hc hs
  refine ⟨U, ?_, .threw T.heap.size, hrun, hend, Or.inr ⟨T.heap.size, rfl, cls, ce, locs, hx U hWs.alike f1 (fun q hq => f2 q hq (fun z hz => nomatch hz)), hce, hO.vm, hcl, hWs, hall, hf⟩⟩
  refine st1 _ ?_
  show Steps p.tables e below (T1.setTop { method := m, pc := pc + 3, locals := ls, stack := .ref T.heap.size :: rest, locked := none }) _
  jvm_step X₁.here [X₁.here.top, hexec, d3', Value.category]
  exact X₁.ldcStringW hexec (own := own) (text := text) (index := is) (a := sa) hown' hstr'.1 hstr'.2
    (g := { method := m, pc := pc + 4, locals := ls, stack := .ref T.heap.size :: .ref T.heap.size :: rest, locked := none }) rfl d4' _ hsteps
end Ends
section Bodies
variable {l : Launch}
theorem vx_ofW {y : MethodName} {ws ws' : List Cond} {rm : Room} {Pc : Array Value → State → Prop} {Qc : Array Value → State → Outcome → State → Prop} {XC : String → State → State → Prop} {mc ms : Nat} {free : Addr → Prop} {cc : ByteArray} {maxL : Nat} {ret : Option FieldType}
    (hy : plainName y.cls = true) (hw : ws = Cond.code y cc maxL ret :: ws')
    (body : ∀ p e s m args below meth c s₁, BodyLoose p l y (headSpec ws rm) cc maxL ret e s m args below meth c s₁ → c.maxLocals = maxL → (∀ x ∈ c.exceptionTable.toList, False) → Pc args s →
      W p l e (headSpec ws rm).room s m args below meth c s.heap [] 0 0 (vx_MQ below Qc XC args s mc ms free) (entryFrame m args maxL)) : vx_Met l y ws rm Pc Qc XC mc ms free := by
  refine MetFree.of_bodyS (code := cc) (maxLocals := maxL) (ret := ret) hy ?_ ?_
  · intro args s m h hn
    obtain ⟨meth, c, h1, h2, h3, h4, h5, h6, -, -⟩ := Cond.code_spec hn (atoms_spec (ws := ws) h _ (by rw [hw]; exact List.mem_cons_self))
    exact ⟨meth, c, h1, h2, h3, h4, h5, h6⟩
  · intro p e s m args below meth c s₁ B hml hP _
    have hh0 : s₁.heap = s.heap := by rw [B.state]; rfl
    have ht : ∀ x ∈ c.exceptionTable.toList, False := by
      obtain ⟨meth9, c9, h1, h2, -, -, -, -, h7, -⟩ := Cond.code_spec B.named (atoms_spec (ws := ws) B.pre _ (by rw [hw]; exact List.mem_cons_self))
      cases Option.some.inj (h1.symm.trans B.method)
      cases Option.some.inj (h2.symm.trans (Stand.of_body B).code)
      intro x hx
      rw [Array.isEmpty_iff.mp h7] at hx
      cases hx
    obtain ⟨t, a1, o, b1, b2, b3⟩ := body p e s m args below meth c s₁ B hml ht hP s₁ hh0 (Stand.of_body B)
    exact ⟨t, o, a1, b1, b2, b3⟩
/-- the table of a body with handlers -/
theorem vx_table {p : Program} {x y : MethodName} {S : Spec} {cc bytes : ByteArray} {maxL maxL' : Nat} {ret ret' : Option FieldType} {e : Env} {s s₁ : State} {m : MethodId} {args : Array Value} {below : List Frame} {meth : Method} {c : Code} {hh : List (Nat × Nat × Nat × Nat)}
    (B : BodyLoose p l y S cc maxL ret e s m args below meth c s₁) (h : (Cond.codeWith y bytes maxL' ret' hh).before args s = true) : c.exceptionTable.toList = tableOf hh := by
  obtain ⟨m9, meth9, c9, hn9, h1, h2, -, -, h6, -⟩ := Cond.codeWith_spec h
  cases Option.some.inj (hn9.symm.trans B.named)
  cases Option.some.inj (h1.symm.trans B.method)
  cases Option.some.inj (h2.symm.trans (Stand.of_body B).code)
  rw [← h6, table_eq]
end Bodies
end VXA
/-! ===== END ===== -/
/-! ===== BEGIN a static call of a method with an exception table ===== -/
section VXS
variable {p : Program} {l : Launch} {e : Env} {R : Room} {s : State} {m : MethodId} {args : Array Value} {below : List Frame} {meth : Method} {c : Code} {T : State} {H : Heap} {locs : List Loc} {cells slots : Nat}
abbrev vx_CSW (R : Room) (s : State) (args : Array Value) (own : String) (index : Nat) (y : MethodName) (bytes : ByteArray) (maxL : Nat) (ret : Option FieldType) (hh : List (Nat × Nat × Nat × Nat)) (ws : List Cond) (rm : Room) (mc ms n : Nat) : Prop :=
  (rm.cells = mc ∧ rm.slots = ms ∧ rm.frames + 1 ≤ R.frames ∧ 8 + (maxL + 11) + rm.locals ≤ R.locals ∧ (∀ w ∈ ws, ∀ (a' : Array Value) (U : State), s.WarmedH U.vm → w.before a' U = true) ∧ Cond.codeWith y bytes maxL ret hh ∈ ws) ∧
  (Cond.codeWith y bytes maxL ret hh).before args s = true ∧ (Cond.initialized y.cls).before args s = true ∧ (y.cls ≠ "java/lang/invoke/MethodHandle" ∧ y.cls ≠ "java/lang/invoke/VarHandle") ∧
  (∀ sig, parseMethodDescriptor y.desc = some sig → n = sig.parameters.length) ∧ (Cond.methodLink own index y).before args s = true ∧ (Cond.static y).before args s = true
theorem vx_cwSW {own : String} {index maxL mc ms : Nat} {y : MethodName} {bytes : ByteArray} {ret : Option FieldType} {hh : List (Nat × Nat × Nat × Nat)} {Ts ws ws' : List Cond} {rm : Room} (n : Nat) (ht : ∀ w ∈ Ts, w.before args s = true) (hT : GoodIn Ts (va_wsS own index y ws)) (hw : ws = Cond.codeWith y bytes maxL ret hh :: ws') (hrc : rm.cells = mc) (hrs : rm.slots = ms)
    (hd : y.cls ≠ "java/lang/invoke/MethodHandle" ∧ y.cls ≠ "java/lang/invoke/VarHandle" ∧ (parseMethodDescriptor y.desc).map (fun d => d.parameters.length) = some n) (hR : rm.frames + 1 ≤ R.frames ∧ 8 + (maxL + 11) + rm.locals ≤ R.locals) :
    vx_CSW R s args own index y bytes maxL ret hh ws rm mc ms n := by
  have ok : ∀ w ∈ va_wsS own index y ws, w.before args s = true := fun w h => ht w (hT w h).1
  have hG : GoodIn Ts ws := fun w h => hT w (by unfold va_wsS; exact List.mem_append_right _ h)
  have hc : Cond.codeWith y bytes maxL ret hh ∈ ws := by rw [hw]; exact List.mem_cons_self
  refine ⟨⟨hrc, hrs, hR.1, hR.2, pay_in ht hG, hc⟩, ht _ (hG _ hc).1, ok _ (by simp [va_wsS]), ⟨hd.1, hd.2.1⟩, fun sig h => ?_, ok _ (by simp [va_wsS]), ok _ (by simp [va_wsS])⟩
  have h2 := hd.2.2
  rw [h] at h2
  exact (Option.some.inj h2).symm
theorem vx_callSW (X : Stand p l e R s m args below meth c T locs cells slots) (hexec : p.tables.exec = Jvm.exec) {own : String} {index : Nat} {y : MethodName} {bytes : ByteArray} {maxL : Nat} {ret : Option FieldType} {hh : List (Nat × Nat × Nat × Nat)}
    (hown : s.vm.findClass own = some m.cls) (hlink : (Cond.methodLink own index y).before args s = true) (hstat : (Cond.static y).before args s = true) (hinit : (Cond.initialized y.cls).before args s = true)
    (hcode : (Cond.codeWith y bytes maxL ret hh).before args s = true) (hy : y.cls ≠ "java/lang/invoke/MethodHandle" ∧ y.cls ≠ "java/lang/invoke/VarHandle")
    {W9 : Nat} {Pre : Pt → Array Value → Prop} {Post : Pt → Array Value → Option Value → Pt → Prop} (hK : Back l R p e below s args y 3 W9 Pre Post)
    {g : JFrame} (hg : g.method = m) (hsize : g.locals.size = c.maxLocals) {argsL rest : List Value} (hlen : ∀ sig, parseMethodDescriptor y.desc = some sig → argsL.length = sig.parameters.length)
    (hstack : g.stack = argsL.reverse ++ rest) (hW : 2 * g.monitorRoom + (rest.map fun v => v.category).sum ≤ W9) (hdg : decode c.code g.pc = .ok (.invokestatic index, 3))
    (hpre : ∀ vm₁, s.WarmedH vm₁ → Pre ⟨T.setVm vm₁, locs, cells, slots⟩ argsL.toArray) :
    ∃ (v : Option Value) (vm₁ : Vm) (B : Pt), s.WarmedH vm₁ ∧ Stand p l e R s m args below meth c B.U B.locs B.cells B.slots ∧ Post ⟨T.setVm vm₁, locs, cells, slots⟩ argsL.toArray v B ∧
      ∀ target, Steps p.tables e below (B.U.setTop { g with pc := g.pc + 3, stack := v.toList ++ rest }) target → Steps p.tables e below (T.setTop g) target := by
  obtain ⟨mk, methM, cM, hnamed, hmethM, -, -, -, -, -, -, hsigM⟩ := Cond.codeWith_spec hcode
  have hstatic : methM.isStatic = true := Cond.static_spec hnamed hmethM hstat
  obtain ⟨kP, hkP, -⟩ := className_of_methodNamed hnamed
  have hinitP : kP.init = .initialized := Cond.initialized_spec (findClass_of_methodNamed hnamed) hkP hinit
  obtain ⟨vm₁, X₁, hstep₁⟩ := X.invokestatic hexec hown hlink hnamed hmethM hstatic hkP hinitP hy (g := g) hg (argsL := argsL) (rest := rest) (hlen _ hsigM) hstack hdg
  obtain ⟨v, B, X', hpost, hsteps⟩ := hK m meth c ⟨T.setVm vm₁, locs, cells, slots⟩ { g with stack := rest } (.invokestatic index) mk argsL.toArray X₁ hg hsize hdg hW (X₁.named hnamed) (hpre vm₁ X₁.warmed)
  exact ⟨v, vm₁, B, X₁.warmed, X', hpost, fun target h => hstep₁ _ fun acts => by rw [doInvoke_state]; exact hsteps.trans h⟩
theorem vx_runSW {y : MethodName} {bytes cc : ByteArray} {maxL nL mc ms n index : Nat} {ret : Option FieldType} {hh : List (Nat × Nat × Nat × Nat)} {ws : List Cond} {rm : Room} {Pc : Array Value → State → Prop} {Qc : Array Value → State → Outcome → State → Prop} {free : Addr → Prop} {Ts : List Cond} {own : String} {As rest : List Value} {g : JFrame}
    (S : CallFix p m c cc nL s args Ts own) (hM : Met l y ws rm Pc Qc mc ms free) (cw : vx_CSW R s args own index y bytes maxL ret hh ws rm mc ms n) (hp : PreS s H Pc As)
    (hg : g.method = m) (hn : As.length = n) (hsize : g.locals.size = nL) (hstack : g.stack = As.reverse ++ rest) (hW : 2 * g.monitorRoom + (rest.map fun v => v.category).sum ≤ 8) (hdg : decode cc g.pc = .ok (.invokestatic index, 3)) (hf : cells + mc ≤ R.cells ∧ slots + ms ≤ R.slots) :
    va_Run p l e R s m args below meth c H locs cells slots mc ms g rest (Qc As.toArray) (free) := by
  obtain ⟨⟨hrc, hrs, hfr, hlo, hws, hcw⟩, hcode, hini, hy, hlen, hl, hstt⟩ := cw
  have hK : Back l R p e below s args y 3 8 (PreOf R mc ms Pc) (PostOf Qc mc ms free) := va_backW (hh := hh) (bytes := bytes) (maxL := maxL) (ret := ret) hM hp.1 hrc hrs hfr hlo hws hcw (fun a' U hW => word_at hW (Or.inl (by first | rfl | simp [Cond.onTables, Cond.keeps, Cond.steady])) hini)
  obtain ⟨hx, hb, hml, ho, -⟩ := S
  intro T hT X
  obtain ⟨v, vm₁, ⟨U', l2, c2, s2⟩, hW₁, X', ⟨g', mk, t, L, e1, e2, hq, h1, hL, h2, h3⟩, st⟩ := vx_callSW X hx (hh := hh) (bytes := bytes) (maxL := maxL) (ret := ret) ho hl hstt hini hcode hy hK hg (hsize.trans hml.symm) (argsL := As) (rest := rest) (fun sig h => hn.trans (hlen sig h)) hstack hW (by rw [hb]; exact hdg)
    (fun vm₁ hW₁ => ⟨hf.1, hf.2, hp.2 (T.setVm vm₁) hT hW₁⟩)
  dsimp only [Pt.U, Pt.locs, Pt.cells, Pt.slots] at X' e1 e2 h1 h2 h3 st
  subst h1; subst h2; subst h3
  exact ⟨v, (T.setVm vm₁).calling g' mk As.toArray, t, U', L, hT, X', hL, e1, e2, hq, st⟩
/-- not caught here, past rows that name other classes: it goes on to the caller -/
theorem vx_outP {p : Program} {l : Launch} {e : Env} {R : Room} {s : State} {m : MethodId} {args : Array Value} {below : List Frame} {meth : Method} {c : Code} {H : Heap} {locs : List Loc} {cells slots : Nat} {free : Addr → Prop} {ls : Array Slot} {rest : List Value} {Qc : Array Value → State → Outcome → State → Prop} {XC : String → State → State → Prop}
    {pc : Nat} {own E : String} {ce : Cell} {q : Addr} {mc ms : Nat} (hown : s.vm.findClass own = some m.cls) (hlocks : meth.locks = false)
    (hpass : ∀ z ∈ c.exceptionTable.toList, covers z pc = false ∨ (z.catchType ≠ 0 ∧ ∃ nm : String, (Cond.classLink own z.catchType nm).before args s = true ∧ va_Nc E nm s)) (hcell : H[q]? = some ce) (hv : ce.vm = .none) (hcl : s.vm.findClass E = some ce.cls)
    (hx : ∀ t : State, t.heap = H → s.vm.Alike t.vm → XC E s t) (hf : ∀ z ∈ locs, free z.base) (hc : cells ≤ mc) (hs : slots ≤ ms) :
    vx_W p l e R s m args below meth c H locs cells slots (vx_MQ below Qc XC args s mc ms free) (F0 m pc ls rest) q := by
  intro T hT X
  have hpl : e.platform.magicAccessors = ({} : Platform).magicAccessors := by rw [X.admits.platform]
  obtain ⟨vm', hW', X', st⟩ := Jvm.Stand.outThrough X hlocks q (g := F0 m pc ls rest) rfl rfl rfl (cell := ce) (by rw [hT]; exact hcell) (by rw [hv]; rfl)
    (by obtain ⟨k9, h9, -⟩ := Vm.findClass_spec hcl; exact ⟨k9, h9⟩) (fun z hz => by
      rcases hpass z hz with h | ⟨hz0, nm, hl1, hn1⟩
      · exact Or.inl h
      · obtain ⟨c6, hc6, hcl6⟩ := Cond.classLink_spec hown hl1 e.platform hpl
        obtain ⟨a8, b8, h1, h2, h3⟩ := hn1
        cases Option.some.inj (h1.symm.trans hcl)
        cases Option.some.inj (h2.symm.trans hc6)
        exact Or.inr ⟨hz0, _, hcl6, h3⟩)
  obtain ⟨g₀, hfr⟩ := X'.frames_eq
  have hcell9 : ((T.setVm vm').setFrames (.throwing q :: below)).heap[q]? = some ce := by
    show T.heap[q]? = some ce
    rw [hT]; exact hcell
  have hend : Ended ((T.setVm vm').setFrames (.throwing q :: below)) below (.threw q) := State.frames_setFrames _ (State.cur_lt_of_frames hfr)
  refine ⟨(T.setVm vm').setFrames (.throwing q :: below), ?_, .threw q, X'.here.running, hend, Or.inr ⟨q, rfl, E, ce, locs, hx _ hT (X'.ends _).1.alike, hcell9, hv, hcl, (X'.ends _).1, (X'.ends _).2.mono hc hs, hf⟩⟩
  rw [X.pushThrowing_eq]
  exact st
/-- a thing of a world lies in the heap -/
theorem vx_lt {D : va_G} {cl : List vw_C} {ws : va_W} {H1 : Heap} (h : va_P D cl ws H1) {k : Nat} {q : Nat × va_E} (hk : ws[k]? = some q) : q.1 < H1.size := (h k q hk).lt
end VXS
/-! ===== END ===== -/
/-! ===== BEGIN methods with a table of their own: called by a name, returning or throwing ===== -/
section VXH
/-! vx_backW, vx_callVX, vx_callSX, vx_callVW, vx_runVW, vx_runVX, vx_runSX, vx_ofWH follow the same proofs as their sisters above (Free/Laws.lean, Shelf42/LK1.lean); vx_outP calls Shelf42/NT130.lean (outThrough). -/
section
variable {l : Launch} {R : Room} {p : Program} {e : Env} {below : List Frame} {s : State} {sargs : Array Value} {y : MethodName} {len W9 : Nat}
theorem vx_backW {ws : List Cond} {rm : Room} {Pc : Array Value → State → Prop} {Qc : Array Value → State → Outcome → State → Prop} {XC : String → State → State → Prop} {mc ms : Nat} {free : Addr → Prop} {bytes : ByteArray} {maxL : Nat} {ret : Option FieldType} {hh : List (Nat × Nat × Nat × Nat)}
    (hM : vx_Met l y ws rm Pc Qc XC mc ms free) (hblind : FrameBlind Pc) (hrc : rm.cells = mc) (hrs : rm.slots = ms)
    (hframes : rm.frames + 1 ≤ R.frames) (hlocals : W9 + (maxL + 11) + rm.locals ≤ R.locals)
    (hws : ∀ w ∈ ws, ∀ a' U, s.WarmedH U.vm → w.before a' U = true) (hcode : Cond.codeWith y bytes maxL ret hh ∈ ws) (hinit : ∀ a' U, s.WarmedH U.vm → (Cond.initialized y.cls).before a' U = true) :
    vx_Back l R p e below s sargs y len W9 (PreOf R mc ms Pc) (PostOf Qc mc ms free) (vx_Post XC mc ms free) := by
  intro m meth c A g ig mk a X hg hsize hdg hW hn hp
  have h1 : (headSpec ws rm).pre.before a A.U = true := atoms_intro fun w hw => hws w hw _ _ X.warmed
  have h2 : (Cond.codeWith y bytes maxL ret hh).before a A.U = true := hws _ hcode _ _ X.warmed
  have h3 : (Cond.initialized y.cls).before a A.U = true := hinit _ _ X.warmed
  have h4 : A.cells + (headSpec ws rm).room.cells ≤ R.cells := by rw [show (headSpec ws rm).room.cells = mc from hrc]; exact hp.1
  have h5 : A.slots + (headSpec ws rm).room.slots ≤ R.slots := by rw [show (headSpec ws rm).room.slots = ms from hrs]; exact hp.2.1
  have hPc : Pc a (A.U.calling g mk a) := hblind _ _ _ _ hp.2.2
  obtain ⟨U, Ls, c0, s0⟩ := A
  dsimp only [Pt.U, Pt.locs, Pt.cells, Pt.slots] at h1 h2 h3 h4 h5 X hn hPc ⊢
  obtain ⟨m9, methY, cY, hn9, hmY, hcY, -, hlY, -⟩ := Cond.codeWith_spec h2
  cases Option.some.inj (hn9.symm.trans hn)
  obtain ⟨kY, hkY, -⟩ := className_of_methodNamed hn
  have hinitY : kY.init = .initialized := Cond.initialized_spec (findClass_of_methodNamed hn) hkY h3
  have h : At U g.method c below := by rw [hg]; exact X.here
  have hlocals9 : W9 + (maxL + 11) + (headSpec ws rm).room.locals ≤ R.locals := hlocals
  have happ : (headSpec ws rm).appliesLoose y e.platform (U.calling g mk a) = true :=
    Spec.appliesLoose_calling (g := g) h hdg hn hkY hinitY
      (X.room_calling (g := g) (R' := (headSpec ws rm).room) hsize hmY hcY hframes (by rw [hlY]; omega) h4 h5) h1
  obtain ⟨mid, hmid⟩ := h.above
  have hfr : (U.setTop g).frames = (.java g :: mid) ++ below := by rw [State.frames_setTop' g h.top, hmid]; rfl
  obtain ⟨o, s₂, hsteps, -, hend, hq⟩ := Steps.callFree hM p X.admits X.cas X.clock (acts := []) hfr happ hPc trivial
  have hq' : vx_Q Qc XC mc ms free a (U.calling g mk a) o s₂ := hq
  rw [State.frames_setTop' g h.top] at hend
  obtain ⟨g₀, hg0⟩ := Option.isSome_iff_exists.mp h.top
  obtain ⟨r, hr⟩ := State.topJava?_eq_some.mp hg0
  have hr' : (({ U with heap := s₂.heap, slotsUsed := s₂.slotsUsed } : State).setVm s₂.vm).frames = .java g₀ :: r := hr
  rcases hq' with ⟨hqc, L, hfe, hL⟩ | ⟨q, rfl, E, ce, L, hx, hce, hcv, hcl, hW₂, hsm, hL⟩
  · obtain ⟨⟨v, rfl⟩, hW₂, e2, q2, q3, q4, q5, q6⟩ := id hfe
    have e3 : s₂ = ({ (U.calling g mk a).setFrames s₂.frames with heap := s₂.heap, slotsUsed := s₂.slotsUsed } : State).setVm s₂.vm := by
      have : s₂ = ({ s₂ with vm := (U.calling g mk a).vm } : State).setVm s₂.vm := rfl
      rw [e2] at this
      exact this
    obtain ⟨c₂, i₂, len₂, hc₂, hd₂, hf₂⟩ := hend
    have hW' : U.WarmedH s₂.vm := hW₂
    have hcc : c₂ = c := by
      have h1 : s₂.code? g.method = U.code? g.method := by
        rw [State.code?_eq, State.code?_eq, hW'.alike.method?]
      exact Option.some.inj (hc₂.symm.trans (h1.trans h.code))
    subst hcc
    have hlen : len₂ = len := by rw [hdg] at hd₂; cases hd₂; rfl
    subst hlen
    have hs₂ : s₂ = (({ U with heap := s₂.heap, slotsUsed := s₂.slotsUsed } : State).setVm s₂.vm).setTop { g with pc := g.pc + len₂, stack := v.toList ++ g.stack } := by
      refine e3.trans ?_
      rw [hf₂, State.calling_eq h.top, State.setFrames_setFrames, State.setTop_of_frames _ hr', hr]
      rfl
    have hsame : U.sameButNew ({ U with heap := s₂.heap, slotsUsed := s₂.slotsUsed } : State) L mc ms := by
      refine ⟨?_, q2, q3, q4, q5, q6⟩
      obtain ⟨t, ht, -⟩ := State.frames_cons hr
      show ({ U with heap := s₂.heap, slotsUsed := s₂.slotsUsed } : State) = { U.setFrames U.frames with heap := s₂.heap, slotsUsed := s₂.slotsUsed }
      rw [State.setFrames_self ht]
    subst hg
    refine Or.inl ⟨v, ⟨(({ U with heap := s₂.heap, slotsUsed := s₂.slotsUsed } : State).setVm s₂.vm), Ls ++ L, c0 + mc, s0 + ms⟩,
      ⟨X.admits, X.cas, X.clock, X.frames, X.room, X.hears, X.method, X.code, (X.here.setHeapUsed s₂.heap s₂.slotsUsed).setVm hW'.alike, X.tail, State.WarmedH.trans X.warmed hW', X.limits, X.bytes, X.same.trans (hsame.setVm s.vm)⟩,
      ⟨g, mk, s₂, L, rfl, rfl, hqc, rfl, hL, rfl, rfl⟩, ?_⟩
    show Steps p.tables e below _ ((({ U with heap := s₂.heap, slotsUsed := s₂.slotsUsed } : State).setVm s₂.vm).setTop { g with pc := g.pc + len₂, stack := v.toList ++ g.stack })
    rw [← hs₂]
    exact hsteps
  · obtain ⟨e2, q2, q3, q4, q5, q6⟩ := id hsm
    have e3 : s₂ = ({ (U.calling g mk a).setFrames s₂.frames with heap := s₂.heap, slotsUsed := s₂.slotsUsed } : State).setVm s₂.vm := by
      have : s₂ = ({ s₂ with vm := (U.calling g mk a).vm } : State).setVm s₂.vm := rfl
      rw [e2] at this
      exact this
    have hf₂ : s₂.frames = .throwing q :: .java g :: U.frames.tail := hend
    have hW' : U.WarmedH s₂.vm := hW₂
    have hs₂ : s₂ = ((({ U with heap := s₂.heap, slotsUsed := s₂.slotsUsed } : State).setVm s₂.vm).setTop g).pushFrame (.throwing q) := by
      refine e3.trans ?_
      rw [hf₂, State.calling_eq h.top, State.setFrames_setFrames, State.pushFrame, State.frames_setTop _ hr', State.setTop_of_frames _ hr', State.setFrames_setFrames, hr]
      rfl
    have hsame : U.sameButNew ({ U with heap := s₂.heap, slotsUsed := s₂.slotsUsed } : State) L mc ms := by
      refine ⟨?_, q2, q3, q4, q5, q6⟩
      obtain ⟨t, ht, -⟩ := State.frames_cons hr
      show ({ U with heap := s₂.heap, slotsUsed := s₂.slotsUsed } : State) = { U.setFrames U.frames with heap := s₂.heap, slotsUsed := s₂.slotsUsed }
      rw [State.setFrames_self ht]
    subst hg
    refine Or.inr ⟨q, ⟨(({ U with heap := s₂.heap, slotsUsed := s₂.slotsUsed } : State).setVm s₂.vm), Ls ++ L, c0 + mc, s0 + ms⟩,
      ⟨X.admits, X.cas, X.clock, X.frames, X.room, X.hears, X.method, X.code, (X.here.setHeapUsed s₂.heap s₂.slotsUsed).setVm hW'.alike, X.tail, State.WarmedH.trans X.warmed hW', X.limits, X.bytes, X.same.trans (hsame.setVm s.vm)⟩,
      ⟨g, mk, s₂, L, E, ce, rfl, rfl, hx, hce, hcv, hcl, rfl, hL, rfl, rfl⟩, ?_⟩
    show Steps p.tables e below _ (((({ U with heap := s₂.heap, slotsUsed := s₂.slotsUsed } : State).setVm s₂.vm).setTop g).pushFrame (.throwing q))
    rw [← hs₂]
    exact hsteps
end
variable {p : Program} {l : Launch} {e : Env} {R : Room} {s : State} {m : MethodId} {args : Array Value} {below : List Frame} {meth : Method} {c : Code} {T : State} {H : Heap} {locs : List Loc} {cells slots : Nat}
theorem vx_callVX (X : Stand p l e R s m args below meth c T locs cells slots) (hexec : p.tables.exec = Jvm.exec) {own C : String} {index : Nat} {y : MethodName} {bytes : ByteArray} {maxL : Nat} {ret : Option FieldType} {hh : List (Nat × Nat × Nat × Nat)}
    (hown : s.vm.findClass own = some m.cls) (hlink : (Cond.methodLink own index y).before args s = true) (hinst : (Cond.instanceMethod y).before args s = true) (hsel : (Cond.selects C y y).before args s = true)
    (hcode : (Cond.codeWith y bytes maxL ret hh).before args s = true) (hy : y.cls ≠ "java/lang/invoke/MethodHandle" ∧ y.cls ≠ "java/lang/invoke/VarHandle")
    {W9 : Nat} {Pre : Pt → Array Value → Prop} {Post : Pt → Array Value → Option Value → Pt → Prop} {PostX : Pt → Array Value → Addr → Pt → Prop} (hK : vx_Back l R p e below s args y 3 W9 Pre Post PostX)
    {b : Addr} {cellB : Cell} (hcell : T.heap[b]? = some cellB) (hobj : cellB.vm.isStatics = false) (hcls : s.vm.findClass C = some cellB.cls)
    {g : JFrame} (hg : g.method = m) (hsize : g.locals.size = c.maxLocals) {argsL rest : List Value} (hlen : ∀ sig, parseMethodDescriptor y.desc = some sig → argsL.length = sig.parameters.length)
    (hstack : g.stack = argsL.reverse ++ .ref b :: rest) (hW : 2 * g.monitorRoom + (rest.map fun v => v.category).sum ≤ W9) (hdg : decode c.code g.pc = .ok (.invokevirtual index, 3))
    (hpre : ∀ vm₁, s.WarmedH vm₁ → Pre ⟨T.setVm vm₁, locs, cells, slots⟩ (Value.ref b :: argsL).toArray) :
    (∃ (v : Option Value) (vm₁ : Vm) (B : Pt), s.WarmedH vm₁ ∧ Stand p l e R s m args below meth c B.U B.locs B.cells B.slots ∧ Post ⟨T.setVm vm₁, locs, cells, slots⟩ (Value.ref b :: argsL).toArray v B ∧
      ∀ target, Steps p.tables e below (B.U.setTop { g with pc := g.pc + 3, stack := v.toList ++ rest }) target → Steps p.tables e below (T.setTop g) target) ∨
    (∃ (q : Addr) (vm₁ : Vm) (B : Pt), s.WarmedH vm₁ ∧ Stand p l e R s m args below meth c B.U B.locs B.cells B.slots ∧ PostX ⟨T.setVm vm₁, locs, cells, slots⟩ (Value.ref b :: argsL).toArray q B ∧
      Steps p.tables e below (T.setTop g) ((B.U.setTop { g with stack := rest }).pushFrame (.throwing q))) := by
  obtain ⟨mk, methM, hnamed, hmethM, hstM, habM⟩ := Cond.instanceMethod_spec hinst
  obtain ⟨m8, methM', cM, hn8, hmethM', -, -, -, -, -, -, hsigM⟩ := Cond.codeWith_spec hcode
  cases Option.some.inj (hn8.symm.trans hnamed)
  cases hmethM.symm.trans hmethM'
  obtain ⟨c2, r2, m2, q1, q2, q3, q4, kP, hkP, hkPi⟩ := Cond.selects_spec hsel
  cases hcls.symm.trans q1
  cases (State.methodFound?_of_named hnamed hy).symm.trans q2
  cases hnamed.symm.trans q3
  have hselP : selectMethod e.platform s.vm cellB.cls mk = .method mk := by rw [Launch.admits_selectMethod X.admits]; exact q4
  obtain ⟨vm₁, X₁, hstep₁⟩ := X.invokevirtual hexec hown hlink hnamed hmethM hstM hkP hkPi hy (a := b) (cell := cellB) hcell
    (fun z h => by rw [h] at hobj; cases hobj) hselP hmethM habM hkP hkPi (g := g) hg (argsL := argsL) (rest := rest) (hlen _ hsigM) hstack hdg
  rcases hK m meth c ⟨T.setVm vm₁, locs, cells, slots⟩ { g with stack := rest } (.invokevirtual index) mk (Value.ref b :: argsL).toArray X₁ hg hsize hdg hW (X₁.named hnamed) (hpre vm₁ X₁.warmed) with ⟨v, B, X', hpost, hsteps⟩ | ⟨q, B, X', hpost, hsteps⟩
  · exact Or.inl ⟨v, vm₁, B, X₁.warmed, X', hpost, fun target h => hstep₁ _ fun acts => by rw [doInvoke_state]; exact hsteps.trans h⟩
  · exact Or.inr ⟨q, vm₁, B, X₁.warmed, X', hpost, hstep₁ _ fun acts => by rw [doInvoke_state]; exact hsteps⟩
theorem vx_callSX (X : Stand p l e R s m args below meth c T locs cells slots) (hexec : p.tables.exec = Jvm.exec) {own : String} {index : Nat} {y : MethodName} {bytes : ByteArray} {maxL : Nat} {ret : Option FieldType} {hh : List (Nat × Nat × Nat × Nat)}
    (hown : s.vm.findClass own = some m.cls) (hlink : (Cond.methodLink own index y).before args s = true) (hstat : (Cond.static y).before args s = true) (hinit : (Cond.initialized y.cls).before args s = true)
    (hcode : (Cond.codeWith y bytes maxL ret hh).before args s = true) (hy : y.cls ≠ "java/lang/invoke/MethodHandle" ∧ y.cls ≠ "java/lang/invoke/VarHandle")
    {W9 : Nat} {Pre : Pt → Array Value → Prop} {Post : Pt → Array Value → Option Value → Pt → Prop} {PostX : Pt → Array Value → Addr → Pt → Prop} (hK : vx_Back l R p e below s args y 3 W9 Pre Post PostX)
    {g : JFrame} (hg : g.method = m) (hsize : g.locals.size = c.maxLocals) {argsL rest : List Value} (hlen : ∀ sig, parseMethodDescriptor y.desc = some sig → argsL.length = sig.parameters.length)
    (hstack : g.stack = argsL.reverse ++ rest) (hW : 2 * g.monitorRoom + (rest.map fun v => v.category).sum ≤ W9) (hdg : decode c.code g.pc = .ok (.invokestatic index, 3))
    (hpre : ∀ vm₁, s.WarmedH vm₁ → Pre ⟨T.setVm vm₁, locs, cells, slots⟩ argsL.toArray) :
    (∃ (v : Option Value) (vm₁ : Vm) (B : Pt), s.WarmedH vm₁ ∧ Stand p l e R s m args below meth c B.U B.locs B.cells B.slots ∧ Post ⟨T.setVm vm₁, locs, cells, slots⟩ argsL.toArray v B ∧
      ∀ target, Steps p.tables e below (B.U.setTop { g with pc := g.pc + 3, stack := v.toList ++ rest }) target → Steps p.tables e below (T.setTop g) target) ∨
    (∃ (q : Addr) (vm₁ : Vm) (B : Pt), s.WarmedH vm₁ ∧ Stand p l e R s m args below meth c B.U B.locs B.cells B.slots ∧ PostX ⟨T.setVm vm₁, locs, cells, slots⟩ argsL.toArray q B ∧
      Steps p.tables e below (T.setTop g) ((B.U.setTop { g with stack := rest }).pushFrame (.throwing q))) := by
  obtain ⟨mk, methM, cM, hnamed, hmethM, -, -, -, -, -, -, hsigM⟩ := Cond.codeWith_spec hcode
  have hstatic : methM.isStatic = true := Cond.static_spec hnamed hmethM hstat
  obtain ⟨kP, hkP, -⟩ := className_of_methodNamed hnamed
  have hinitP : kP.init = .initialized := Cond.initialized_spec (findClass_of_methodNamed hnamed) hkP hinit
  obtain ⟨vm₁, X₁, hstep₁⟩ := X.invokestatic hexec hown hlink hnamed hmethM hstatic hkP hinitP hy (g := g) hg (argsL := argsL) (rest := rest) (hlen _ hsigM) hstack hdg
  rcases hK m meth c ⟨T.setVm vm₁, locs, cells, slots⟩ { g with stack := rest } (.invokestatic index) mk argsL.toArray X₁ hg hsize hdg hW (X₁.named hnamed) (hpre vm₁ X₁.warmed) with ⟨v, B, X', hpost, hsteps⟩ | ⟨q, B, X', hpost, hsteps⟩
  · exact Or.inl ⟨v, vm₁, B, X₁.warmed, X', hpost, fun target h => hstep₁ _ fun acts => by rw [doInvoke_state]; exact hsteps.trans h⟩
  · exact Or.inr ⟨q, vm₁, B, X₁.warmed, X', hpost, hstep₁ _ fun acts => by rw [doInvoke_state]; exact hsteps⟩
theorem vx_callVW (X : Stand p l e R s m args below meth c T locs cells slots) (hexec : p.tables.exec = Jvm.exec) {own C : String} {index : Nat} {y : MethodName} {bytes : ByteArray} {maxL : Nat} {ret : Option FieldType} {hh : List (Nat × Nat × Nat × Nat)}
    (hown : s.vm.findClass own = some m.cls) (hlink : (Cond.methodLink own index y).before args s = true) (hinst : (Cond.instanceMethod y).before args s = true) (hsel : (Cond.selects C y y).before args s = true)
    (hcode : (Cond.codeWith y bytes maxL ret hh).before args s = true) (hy : y.cls ≠ "java/lang/invoke/MethodHandle" ∧ y.cls ≠ "java/lang/invoke/VarHandle")
    {W9 : Nat} {Pre : Pt → Array Value → Prop} {Post : Pt → Array Value → Option Value → Pt → Prop} (hK : Back l R p e below s args y 3 W9 Pre Post)
    {b : Addr} {cellB : Cell} (hcell : T.heap[b]? = some cellB) (hobj : cellB.vm.isStatics = false) (hcls : s.vm.findClass C = some cellB.cls)
    {g : JFrame} (hg : g.method = m) (hsize : g.locals.size = c.maxLocals) {argsL rest : List Value} (hlen : ∀ sig, parseMethodDescriptor y.desc = some sig → argsL.length = sig.parameters.length)
    (hstack : g.stack = argsL.reverse ++ .ref b :: rest) (hW : 2 * g.monitorRoom + (rest.map fun v => v.category).sum ≤ W9) (hdg : decode c.code g.pc = .ok (.invokevirtual index, 3))
    (hpre : ∀ vm₁, s.WarmedH vm₁ → Pre ⟨T.setVm vm₁, locs, cells, slots⟩ (Value.ref b :: argsL).toArray) :
    ∃ (v : Option Value) (vm₁ : Vm) (B : Pt), s.WarmedH vm₁ ∧ Stand p l e R s m args below meth c B.U B.locs B.cells B.slots ∧ Post ⟨T.setVm vm₁, locs, cells, slots⟩ (Value.ref b :: argsL).toArray v B ∧
      ∀ target, Steps p.tables e below (B.U.setTop { g with pc := g.pc + 3, stack := v.toList ++ rest }) target → Steps p.tables e below (T.setTop g) target := by
  obtain ⟨mk, methM, hnamed, hmethM, hstM, habM⟩ := Cond.instanceMethod_spec hinst
  obtain ⟨m8, methM', cM, hn8, hmethM', -, -, -, -, -, -, hsigM⟩ := Cond.codeWith_spec hcode
  cases Option.some.inj (hn8.symm.trans hnamed)
  cases hmethM.symm.trans hmethM'
  obtain ⟨c2, r2, m2, q1, q2, q3, q4, kP, hkP, hkPi⟩ := Cond.selects_spec hsel
  cases hcls.symm.trans q1
  cases (State.methodFound?_of_named hnamed hy).symm.trans q2
  cases hnamed.symm.trans q3
  have hselP : selectMethod e.platform s.vm cellB.cls mk = .method mk := by rw [Launch.admits_selectMethod X.admits]; exact q4
  obtain ⟨vm₁, X₁, hstep₁⟩ := X.invokevirtual hexec hown hlink hnamed hmethM hstM hkP hkPi hy (a := b) (cell := cellB) hcell
    (fun z h => by rw [h] at hobj; cases hobj) hselP hmethM habM hkP hkPi (g := g) hg (argsL := argsL) (rest := rest) (hlen _ hsigM) hstack hdg
  obtain ⟨v, B, X', hpost, hsteps⟩ := hK m meth c ⟨T.setVm vm₁, locs, cells, slots⟩ { g with stack := rest } (.invokevirtual index) mk (Value.ref b :: argsL).toArray X₁ hg hsize hdg hW (X₁.named hnamed) (hpre vm₁ X₁.warmed)
  exact ⟨v, vm₁, B, X₁.warmed, X', hpost, fun target h => hstep₁ _ fun acts => by rw [doInvoke_state]; exact hsteps.trans h⟩
abbrev vx_CVW (R : Room) (s : State) (args : Array Value) (own C : String) (index : Nat) (y : MethodName) (bytes : ByteArray) (maxL : Nat) (ret : Option FieldType) (hh : List (Nat × Nat × Nat × Nat)) (ws : List Cond) (rm : Room) (mc ms n : Nat) : Prop :=
  (rm.cells = mc ∧ rm.slots = ms ∧ rm.frames + 1 ≤ R.frames ∧ 8 + (maxL + 11) + rm.locals ≤ R.locals ∧ (∀ w ∈ ws, ∀ (a' : Array Value) (U : State), s.WarmedH U.vm → w.before a' U = true) ∧ Cond.codeWith y bytes maxL ret hh ∈ ws) ∧
  (Cond.codeWith y bytes maxL ret hh).before args s = true ∧ (Cond.initialized y.cls).before args s = true ∧ (y.cls ≠ "java/lang/invoke/MethodHandle" ∧ y.cls ≠ "java/lang/invoke/VarHandle") ∧
  (∀ sig, parseMethodDescriptor y.desc = some sig → n = sig.parameters.length) ∧ (Cond.methodLink own index y).before args s = true ∧ (Cond.instanceMethod y).before args s = true ∧ (Cond.selects C y y).before args s = true
theorem vx_cwVW {own C : String} {index maxL mc ms : Nat} {y : MethodName} {bytes : ByteArray} {ret : Option FieldType} {hh : List (Nat × Nat × Nat × Nat)} {Ts ws ws' : List Cond} {rm : Room} (n : Nat) (ht : ∀ w ∈ Ts, w.before args s = true) (hT : GoodIn Ts (wsV own index C y ws)) (hw : ws = Cond.codeWith y bytes maxL ret hh :: ws') (hrc : rm.cells = mc) (hrs : rm.slots = ms)
    (hd : y.cls = C ∧ y.cls ≠ "java/lang/invoke/MethodHandle" ∧ y.cls ≠ "java/lang/invoke/VarHandle" ∧ (parseMethodDescriptor y.desc).map (fun d => d.parameters.length) = some n) (hR : rm.frames + 1 ≤ R.frames ∧ 8 + (maxL + 11) + rm.locals ≤ R.locals) :
    vx_CVW R s args own C index y bytes maxL ret hh ws rm mc ms n := by
  obtain ⟨hC, hd⟩ := hd
  subst hC
  have ok : ∀ w ∈ wsV own index y.cls y ws, w.before args s = true := fun w h => ht w (hT w h).1
  have hG : GoodIn Ts ws := fun w h => hT w (by unfold wsV; exact List.mem_append_right _ h)
  have hc : Cond.codeWith y bytes maxL ret hh ∈ ws := by rw [hw]; exact List.mem_cons_self
  refine ⟨⟨hrc, hrs, hR.1, hR.2, pay_in ht hG, hc⟩, ht _ (hG _ hc).1, ok _ (by simp [wsV]), ⟨hd.1, hd.2.1⟩, fun sig h => ?_, ok _ (by simp [wsV]), ok _ (by simp [wsV]), ok _ (by simp [wsV])⟩
  have h2 := hd.2.2
  rw [h] at h2
  exact (Option.some.inj h2).symm
theorem vx_runVW {y : MethodName} {bytes cc : ByteArray} {maxL nL mc ms n index : Nat} {ret : Option FieldType} {hh : List (Nat × Nat × Nat × Nat)} {ws : List Cond} {rm : Room} {Pc : Array Value → State → Prop} {Qc : Array Value → State → Outcome → State → Prop} {free : Addr → Prop} {Ts : List Cond} {own C : String} {b : Addr} {As rest : List Value} {g : JFrame}
    (S : CallFix p m c cc nL s args Ts own) (hM : Met l y ws rm Pc Qc mc ms free) (cw : vx_CVW R s args own C index y bytes maxL ret hh ws rm mc ms n) (hp : PreV s H C b Pc As)
    (hg : g.method = m) (hn : As.length = n) (hsize : g.locals.size = nL) (hstack : g.stack = As.reverse ++ .ref b :: rest) (hW : 2 * g.monitorRoom + (rest.map fun v => v.category).sum ≤ 8) (hdg : decode cc g.pc = .ok (.invokevirtual index, 3)) (hf : cells + mc ≤ R.cells ∧ slots + ms ≤ R.slots) :
    va_Run p l e R s m args below meth c H locs cells slots mc ms g rest (Qc (Value.ref b :: As).toArray) free := by
  obtain ⟨⟨hrc, hrs, hfr, hlo, hws, hcw⟩, hcode, hini, hy, hlen, hl, hin, hse⟩ := cw
  have hK : Back l R p e below s args y 3 8 (PreOf R mc ms Pc) (PostOf Qc mc ms free) := va_backW (hh := hh) (bytes := bytes) (maxL := maxL) (ret := ret) hM hp.1 hrc hrs hfr hlo hws hcw (fun a' U hW => word_at hW (Or.inl (by first | rfl | simp [Cond.onTables, Cond.keeps, Cond.steady])) hini)
  obtain ⟨hx, hb, hml, ho, -⟩ := S
  obtain ⟨-, ⟨cellB, hcB, hoB, hclB⟩, hPc⟩ := hp
  intro T hT X
  obtain ⟨v, vm₁, ⟨U', l2, c2, s2⟩, hW₁, X', ⟨g', mk, t, L, e1, e2, hq, h1, hL, h2, h3⟩, st⟩ := vx_callVW X hx (C := C) (hh := hh) (bytes := bytes) (maxL := maxL) (ret := ret) ho hl hin hse hcode hy hK (by rw [hT]; exact hcB) hoB hclB hg (hsize.trans hml.symm) (argsL := As) (rest := rest) (fun sig h => hn.trans (hlen sig h)) hstack hW (by rw [hb]; exact hdg)
    (fun vm₁ hW₁ => ⟨hf.1, hf.2, hPc (T.setVm vm₁) hT hW₁⟩)
  dsimp only [Pt.U, Pt.locs, Pt.cells, Pt.slots] at X' e1 e2 h1 h2 h3 st
  subst h1; subst h2; subst h3
  exact ⟨v, (T.setVm vm₁).calling g' mk (Value.ref b :: As).toArray, t, U', L, hT, X', hL, e1, e2, hq, st⟩
section
variable {y : MethodName} {bytes cc : ByteArray} {maxL nL mc ms n index : Nat} {ret : Option FieldType} {ws : List Cond} {rm : Room} {Pc : Array Value → State → Prop} {Qc : Array Value → State → Outcome → State → Prop} {XC : String → State → State → Prop} {free : Addr → Prop} {Ts : List Cond} {own C : String} {b : Addr} {As rest : List Value} {g : JFrame}
theorem vx_runVX {hh : List (Nat × Nat × Nat × Nat)} (S : CallFix p m c cc nL s args Ts own) (hM : vx_Met l y ws rm Pc Qc XC mc ms free) (cw : vx_CVW R s args own C index y bytes maxL ret hh ws rm mc ms n) (hp : PreV s H C b Pc As)
    (hg : g.method = m) (hn : As.length = n) (hsize : g.locals.size = nL) (hstack : g.stack = As.reverse ++ .ref b :: rest) (hW : 2 * g.monitorRoom + (rest.map fun v => v.category).sum ≤ 8) (hdg : decode cc g.pc = .ok (.invokevirtual index, 3)) (hf : cells + mc ≤ R.cells ∧ slots + ms ≤ R.slots) :
    vx_Run p l e R s m args below meth c H locs cells slots mc ms g rest (Qc (Value.ref b :: As).toArray) XC free := by
  obtain ⟨⟨hrc, hrs, hfr, hlo, hws, hcw⟩, hcode, hini, hy, hlen, hl, hin, hse⟩ := cw
  have hK : vx_Back l R p e below s args y 3 8 (PreOf R mc ms Pc) (PostOf Qc mc ms free) (vx_Post XC mc ms free) := vx_backW (hh := hh) (bytes := bytes) (maxL := maxL) (ret := ret) hM hp.1 hrc hrs hfr hlo hws hcw (fun a' U hW => word_at hW (Or.inl (by first | rfl | simp [Cond.onTables, Cond.keeps, Cond.steady])) hini)
  obtain ⟨hx, hb, hml, ho, -⟩ := S
  obtain ⟨-, ⟨cellB, hcB, hoB, hclB⟩, hPc⟩ := hp
  intro T hT X
  rcases vx_callVX X hx (C := C) (hh := hh) (bytes := bytes) (maxL := maxL) (ret := ret) ho hl hin hse hcode hy hK (by rw [hT]; exact hcB) hoB hclB hg (hsize.trans hml.symm) (argsL := As) (rest := rest) (fun sig h => hn.trans (hlen sig h)) hstack hW (by rw [hb]; exact hdg)
    (fun vm₁ hW₁ => ⟨hf.1, hf.2, hPc (T.setVm vm₁) hT hW₁⟩) with ⟨v, vm₁, ⟨U', l2, c2, s2⟩, hW₁, X', ⟨g', mk, t, L, e1, e2, hq, h1, hL, h2, h3⟩, st⟩ | ⟨q, vm₁, ⟨U', l2, c2, s2⟩, hW₁, X', ⟨g', mk, t, L, E, ce, e1, e2, hq, hce, hcv, hcl, h1, hL, h2, h3⟩, st⟩
  · dsimp only [Pt.U, Pt.locs, Pt.cells, Pt.slots] at X' e1 e2 h1 h2 h3 st
    subst h1; subst h2; subst h3
    exact Or.inl ⟨v, (T.setVm vm₁).calling g' mk (Value.ref b :: As).toArray, t, U', L, hT, X', hL, e1, e2, hq, st⟩
  · dsimp only [Pt.U, Pt.locs, Pt.cells, Pt.slots] at X' e1 e2 h1 h2 h3 st hcl
    subst h1; subst h2; subst h3
    exact Or.inr ⟨q, (T.setVm vm₁).calling g' mk (Value.ref b :: As).toArray, t, U', L, E, ce, hT, X', hL, e1, e2, hq, hce, hcv, vx_cls hW₁ hcl, st⟩
theorem vx_runSX {hh : List (Nat × Nat × Nat × Nat)} (S : CallFix p m c cc nL s args Ts own) (hM : vx_Met l y ws rm Pc Qc XC mc ms free) (cw : vx_CSW R s args own index y bytes maxL ret hh ws rm mc ms n) (hp : PreS s H Pc As)
    (hg : g.method = m) (hn : As.length = n) (hsize : g.locals.size = nL) (hstack : g.stack = As.reverse ++ rest) (hW : 2 * g.monitorRoom + (rest.map fun v => v.category).sum ≤ 8) (hdg : decode cc g.pc = .ok (.invokestatic index, 3)) (hf : cells + mc ≤ R.cells ∧ slots + ms ≤ R.slots) :
    vx_Run p l e R s m args below meth c H locs cells slots mc ms g rest (Qc As.toArray) XC free := by
  obtain ⟨⟨hrc, hrs, hfr, hlo, hws, hcw⟩, hcode, hini, hy, hlen, hl, hstt⟩ := cw
  have hK : vx_Back l R p e below s args y 3 8 (PreOf R mc ms Pc) (PostOf Qc mc ms free) (vx_Post XC mc ms free) := vx_backW (hh := hh) (bytes := bytes) (maxL := maxL) (ret := ret) hM hp.1 hrc hrs hfr hlo hws hcw (fun a' U hW => word_at hW (Or.inl (by first | rfl | simp [Cond.onTables, Cond.keeps, Cond.steady])) hini)
  obtain ⟨hx, hb, hml, ho, -⟩ := S
  intro T hT X
  rcases vx_callSX X hx (hh := hh) (bytes := bytes) (maxL := maxL) (ret := ret) ho hl hstt hini hcode hy hK hg (hsize.trans hml.symm) (argsL := As) (rest := rest) (fun sig h => hn.trans (hlen sig h)) hstack hW (by rw [hb]; exact hdg)
    (fun vm₁ hW₁ => ⟨hf.1, hf.2, hp.2 (T.setVm vm₁) hT hW₁⟩) with ⟨v, vm₁, ⟨U', l2, c2, s2⟩, hW₁, X', ⟨g', mk, t, L, e1, e2, hq, h1, hL, h2, h3⟩, st⟩ | ⟨q, vm₁, ⟨U', l2, c2, s2⟩, hW₁, X', ⟨g', mk, t, L, E, ce, e1, e2, hq, hce, hcv, hcl, h1, hL, h2, h3⟩, st⟩
  · dsimp only [Pt.U, Pt.locs, Pt.cells, Pt.slots] at X' e1 e2 h1 h2 h3 st
    subst h1; subst h2; subst h3
    exact Or.inl ⟨v, (T.setVm vm₁).calling g' mk As.toArray, t, U', L, hT, X', hL, e1, e2, hq, st⟩
  · dsimp only [Pt.U, Pt.locs, Pt.cells, Pt.slots] at X' e1 e2 h1 h2 h3 st hcl
    subst h1; subst h2; subst h3
    exact Or.inr ⟨q, (T.setVm vm₁).calling g' mk As.toArray, t, U', L, E, ce, hT, X', hL, e1, e2, hq, hce, hcv, vx_cls hW₁ hcl, st⟩
end
end VXH
theorem vx_ofWH {l : Launch} {y : MethodName} {ws ws' : List Cond} {rm : Room} {Pc : Array Value → State → Prop} {Qc : Array Value → State → Outcome → State → Prop} {XC : String → State → State → Prop} {mc ms : Nat} {free : Addr → Prop} {cc : ByteArray} {maxL : Nat} {ret : Option FieldType} {hh : List (Nat × Nat × Nat × Nat)}
    (hy : plainName y.cls = true) (hw : ws = Cond.codeWith y cc maxL ret hh :: ws')
    (body : ∀ p e s m args below meth c s₁, BodyLoose p l y (headSpec ws rm) cc maxL ret e s m args below meth c s₁ → c.maxLocals = maxL → Pc args s →
      W p l e (headSpec ws rm).room s m args below meth c s.heap [] 0 0 (vx_MQ below Qc XC args s mc ms free) (entryFrame m args maxL)) : vx_Met l y ws rm Pc Qc XC mc ms free := by
  refine MetFree.of_bodyS (code := cc) (maxLocals := maxL) (ret := ret) hy ?_ ?_
  · intro args s m h hn
    obtain ⟨m9, meth, c, hn9, h1, h2, h3, h4, -, h5, h6, -⟩ := Cond.codeWith_spec (atoms_spec (ws := ws) h _ (by rw [hw]; exact List.mem_cons_self))
    cases hn.symm.trans hn9
    exact ⟨meth, c, h1, h2, h3, h4, h5, h6⟩
  · intro p e s m args below meth c s₁ B hml hP _
    have hh0 : s₁.heap = s.heap := by rw [B.state]; rfl
    obtain ⟨t, a1, o, b1, b2, b3⟩ := body p e s m args below meth c s₁ B hml hP s₁ hh0 (Stand.of_body B)
    exact ⟨t, o, a1, b1, b2, b3⟩
/-! ===== END ===== -/
end
section
/-! ===== BEGIN printed: names, fields, word lists, decode rows ===== -/
def RX0 : String := "OrderJudge$Few"
def TX0 : u_T := fun k => match k with
  | _ => ("OrderJudge$Few", "points", "LOrderJudge$Points;", true)
def tyX0 : Nat → FieldType := fun k => match k with
  | _ => .object "OrderJudge$Points"
abbrev wsX00 : List Cond := u_ws RX0 TX0 1
theorem nmX0 : ∀ a, a < 1 → ∀ b, b < 1 → a ≠ b → (TX0 a).2.1 ≠ (TX0 b).2.1 := by decide +kernel
theorem tyX0_ok : ∀ k, k < 1 → parseFieldDescriptor (TX0 k).2.2.1 = some (tyX0 k) := by decide +kernel
abbrev cX0_init : ByteArray := prog_2_method_1_code
def yX0_init : MethodName := ⟨RX0, "<init>", "(LOrderJudge$Points;)V"⟩
abbrev cX0_betweenness : ByteArray := prog_2_method_2_code
def yX0_betweenness : MethodName := ⟨RX0, "betweenness", "(III)I"⟩
abbrev cX0_withinAngle : ByteArray := prog_2_method_3_code
def yX0_withinAngle : MethodName := ⟨RX0, "withinAngle", "(IIII)I"⟩
abbrev cX0_crossing : ByteArray := prog_2_method_4_code
def yX0_crossing : MethodName := ⟨RX0, "crossing", "(IIII)I"⟩
abbrev cX0_overlap : ByteArray := prog_2_method_5_code
def yX0_overlap : MethodName := ⟨RX0, "overlap", "(IIII)I"⟩
abbrev cX0_earlier : ByteArray := prog_2_method_6_code
def yX0_earlier : MethodName := ⟨RX0, "earlier", "(II)I"⟩
abbrev cX0_later : ByteArray := prog_2_method_7_code
def yX0_later : MethodName := ⟨RX0, "later", "(II)I"⟩
abbrev cX0_separation : ByteArray := prog_2_method_8_code
def yX0_separation : MethodName := ⟨RX0, "separation", "(IIII)I"⟩
abbrev cX0_anyEqual : ByteArray := prog_2_method_9_code
def yX0_anyEqual : MethodName := ⟨RX0, "anyEqual", "(IIII)Z"⟩
def RX1 : String := "OrderJudge$LineSet"
def TX1 : u_T := fun k => match k with
  | 0 => ("OrderJudge$LineSet", "points", "LOrderJudge$Points;", true)
  | 1 => ("OrderJudge$LineSet", "p", "[J", true)
  | 2 => ("OrderJudge$LineSet", "q", "[J", true)
  | 3 => ("OrderJudge$LineSet", "\x72", "[J", true)
  | 4 => ("OrderJudge$LineSet", "held", "I", false)
  | 5 => ("OrderJudge$LineSet", "kept", "[I", true)
  | 6 => ("OrderJudge$LineSet", "different", "I", false)
  | 7 => ("OrderJudge$LineSet", "meets", "I", false)
  | 8 => ("OrderJudge$LineSet", "mostThrough", "I", false)
  | _ => ("OrderJudge$LineSet", "allThrough", "I", false)
def tyX1 : Nat → FieldType := fun k => match k with
  | 0 => .object "OrderJudge$Points"
  | 1 => .array .long
  | 2 => .array .long
  | 3 => .array .long
  | 4 => .int
  | 5 => .array .int
  | 6 => .int
  | 7 => .int
  | 8 => .int
  | _ => .int
abbrev wsX10 : List Cond := u_ws RX1 TX1 10
theorem nmX1 : ∀ a, a < 10 → ∀ b, b < 10 → a ≠ b → (TX1 a).2.1 ≠ (TX1 b).2.1 := by decide +kernel
theorem tyX1_ok : ∀ k, k < 10 → parseFieldDescriptor (TX1 k).2.2.1 = some (tyX1 k) := by decide +kernel
abbrev cX1_init : ByteArray := prog_3_method_1_code
def yX1_init : MethodName := ⟨RX1, "<init>", "(LOrderJudge$Points;)V"⟩
abbrev cX1_add : ByteArray := prog_3_method_2_code
def yX1_add : MethodName := ⟨RX1, "add", "(II)I"⟩
abbrev cX1_survey : ByteArray := prog_3_method_3_code
def yX1_survey : MethodName := ⟨RX1, "survey", "(I)V"⟩
abbrev cX1_cells : ByteArray := prog_3_method_4_code
def yX1_cells : MethodName := ⟨RX1, "cells", "()I"⟩
abbrev cX1_pieces : ByteArray := prog_3_method_5_code
def yX1_pieces : MethodName := ⟨RX1, "pieces", "()I"⟩
abbrev cX1_closedCells : ByteArray := prog_3_method_6_code
def yX1_closedCells : MethodName := ⟨RX1, "closedCells", "()I"⟩
abbrev cX1_keepDifferent : ByteArray := prog_3_method_7_code
def yX1_keepDifferent : MethodName := ⟨RX1, "keepDifferent", "(I)V"⟩
abbrev cX1_isNew : ByteArray := prog_3_method_8_code
def yX1_isNew : MethodName := ⟨RX1, "isNew", "(I)Z"⟩
abbrev cX1_same : ByteArray := prog_3_method_9_code
def yX1_same : MethodName := ⟨RX1, "same", "(II)Z"⟩
abbrev cX1_slant : ByteArray := prog_3_method_10_code
def yX1_slant : MethodName := ⟨RX1, "slant", "(II)J"⟩
abbrev cX1_throughMeet : ByteArray := prog_3_method_11_code
def yX1_throughMeet : MethodName := ⟨RX1, "throughMeet", "(II)I"⟩
abbrev cX1_concurrent : ByteArray := prog_3_method_12_code
def yX1_concurrent : MethodName := ⟨RX1, "concurrent", "(III)Z"⟩
def RX2 : String := "OrderJudge$Points"
def TX2 : u_T := fun k => match k with
  | 0 => ("OrderJudge$Points", "xs", "[I", true)
  | 1 => ("OrderJudge$Points", "ys", "[I", true)
  | _ => ("OrderJudge$Points", "held", "I", false)
def tyX2 : Nat → FieldType := fun k => match k with
  | 0 => .array .int
  | 1 => .array .int
  | _ => .int
abbrev wsX20 : List Cond := u_ws RX2 TX2 3
theorem nmX2 : ∀ a, a < 3 → ∀ b, b < 3 → a ≠ b → (TX2 a).2.1 ≠ (TX2 b).2.1 := by decide +kernel
theorem tyX2_ok : ∀ k, k < 3 → parseFieldDescriptor (TX2 k).2.2.1 = some (tyX2 k) := by decide +kernel
abbrev cX2_init : ByteArray := prog_4_method_1_code
def yX2_init : MethodName := ⟨RX2, "<init>", "()V"⟩
abbrev cX2_add : ByteArray := prog_4_method_2_code
def yX2_add : MethodName := ⟨RX2, "add", "(II)I"⟩
abbrev cX2_has : ByteArray := prog_4_method_3_code
def yX2_has : MethodName := ⟨RX2, "has", "(I)Z"⟩
abbrev cX2_hasAll : ByteArray := prog_4_method_4_code
def yX2_hasAll : MethodName := ⟨RX2, "hasAll", "(III)Z"⟩
abbrev cX2_equal : ByteArray := prog_4_method_5_code
def yX2_equal : MethodName := ⟨RX2, "equal", "(II)Z"⟩
abbrev cX2_compare : ByteArray := prog_4_method_6_code
def yX2_compare : MethodName := ⟨RX2, "compare", "(II)I"⟩
abbrev cX2_turn : ByteArray := prog_4_method_7_code
def yX2_turn : MethodName := ⟨RX2, "turn", "(III)I"⟩
abbrev cX2_ring : ByteArray := prog_4_method_8_code
def yX2_ring : MethodName := ⟨RX2, "ring", "(IIII)I"⟩
abbrev cX2_distance : ByteArray := prog_4_method_9_code
def yX2_distance : MethodName := ⟨RX2, "distance", "(II)J"⟩
abbrev cX2_onSegment : ByteArray := prog_4_method_10_code
def yX2_onSegment : MethodName := ⟨RX2, "onSegment", "(III)Z"⟩
abbrev cX2_sameDirection : ByteArray := prog_4_method_11_code
def yX2_sameDirection : MethodName := ⟨RX2, "sameDirection", "(III)Z"⟩
abbrev cX2_liesAmong : ByteArray := prog_4_method_12_code
def yX2_liesAmong : MethodName := ⟨RX2, "liesAmong", "(III)Z"⟩
def RX3 : String := "OrderJudge$QuickFilter"
def TX3 : u_T := fun k => match k with
  | 0 => ("OrderJudge$QuickFilter", "points", "LOrderJudge$Points;", true)
  | 1 => ("OrderJudge$QuickFilter", "on", "Z", false)
  | 2 => ("OrderJudge$QuickFilter", "clear", "I", false)
  | 3 => ("OrderJudge$QuickFilter", "unclear", "I", false)
  | _ => ("OrderJudge$QuickFilter", "zeros", "I", false)
def tyX3 : Nat → FieldType := fun k => match k with
  | 0 => .object "OrderJudge$Points"
  | 1 => .boolean
  | 2 => .int
  | 3 => .int
  | _ => .int
abbrev wsX30 : List Cond := u_ws RX3 TX3 5
theorem nmX3 : ∀ a, a < 5 → ∀ b, b < 5 → a ≠ b → (TX3 a).2.1 ≠ (TX3 b).2.1 := by decide +kernel
theorem tyX3_ok : ∀ k, k < 5 → parseFieldDescriptor (TX3 k).2.2.1 = some (tyX3 k) := by decide +kernel
abbrev cX3_init : ByteArray := prog_5_method_1_code
def yX3_init : MethodName := ⟨RX3, "<init>", "(LOrderJudge$Points;)V"⟩
abbrev cX3_note : ByteArray := prog_5_method_2_code
def yX3_note : MethodName := ⟨RX3, "note", "(ZI)I"⟩
abbrev cX3_decidesTurn : ByteArray := prog_5_method_3_code
def yX3_decidesTurn : MethodName := ⟨RX3, "decidesTurn", "(III)Z"⟩
abbrev cX3_decidesRing : ByteArray := prog_5_method_4_code
def yX3_decidesRing : MethodName := ⟨RX3, "decidesRing", "(IIII)Z"⟩
abbrev cX3_floatX : ByteArray := prog_5_method_5_code
def yX3_floatX : MethodName := ⟨RX3, "floatX", "(I)F"⟩
abbrev cX3_floatY : ByteArray := prog_5_method_6_code
def yX3_floatY : MethodName := ⟨RX3, "floatY", "(I)F"⟩
abbrev cX3_reach : ByteArray := prog_5_method_7_code
def yX3_reach : MethodName := ⟨RX3, "reach", "(I)F"⟩
abbrev cX3_greater : ByteArray := prog_5_method_8_code
def yX3_greater : MethodName := ⟨RX3, "greater", "(FF)F"⟩
abbrev cX3_unsigned : ByteArray := prog_5_method_9_code
def yX3_unsigned : MethodName := ⟨RX3, "unsigned", "(F)F"⟩
def RX4 : String := "OrderJudge$Row"
def TX4 : u_T := fun k => match k with
  | 0 => ("OrderJudge$Row", "points", "LOrderJudge$Points;", true)
  | 1 => ("OrderJudge$Row", "places", "[I", true)
  | _ => ("OrderJudge$Row", "held", "I", false)
def tyX4 : Nat → FieldType := fun k => match k with
  | 0 => .object "OrderJudge$Points"
  | 1 => .array .int
  | _ => .int
abbrev wsX40 : List Cond := u_ws RX4 TX4 3
theorem nmX4 : ∀ a, a < 3 → ∀ b, b < 3 → a ≠ b → (TX4 a).2.1 ≠ (TX4 b).2.1 := by decide +kernel
theorem tyX4_ok : ∀ k, k < 3 → parseFieldDescriptor (TX4 k).2.2.1 = some (tyX4 k) := by decide +kernel
abbrev cX4_init : ByteArray := prog_6_method_1_code
def yX4_init : MethodName := ⟨RX4, "<init>", "(LOrderJudge$Points;)V"⟩
abbrev cX4_resize : ByteArray := prog_6_method_2_code
def yX4_resize : MethodName := ⟨RX4, "resize", "(I)I"⟩
abbrev cX4_hasPlace : ByteArray := prog_6_method_3_code
def yX4_hasPlace : MethodName := ⟨RX4, "hasPlace", "(I)Z"⟩
abbrev cX4_put : ByteArray := prog_6_method_4_code
def yX4_put : MethodName := ⟨RX4, "put", "(II)I"⟩
abbrev cX4_fault : ByteArray := prog_6_method_5_code
def yX4_fault : MethodName := ⟨RX4, "fault", "(II)I"⟩
abbrev cX4_endOf : ByteArray := prog_6_method_6_code
def yX4_endOf : MethodName := ⟨RX4, "endOf", "(II)I"⟩
abbrev cX4_convexity : ByteArray := prog_6_method_7_code
def yX4_convexity : MethodName := ⟨RX4, "convexity", "(I)I"⟩
abbrev cX4_sideOfOther : ByteArray := prog_6_method_8_code
def yX4_sideOfOther : MethodName := ⟨RX4, "sideOfOther", "(III)I"⟩
abbrev cX4_anyEdgeHolds : ByteArray := prog_6_method_9_code
def yX4_anyEdgeHolds : MethodName := ⟨RX4, "anyEdgeHolds", "(II)Z"⟩
abbrev cX4_risesAt : ByteArray := prog_6_method_10_code
def yX4_risesAt : MethodName := ⟨RX4, "risesAt", "(II)I"⟩
abbrev cX4_fallsAt : ByteArray := prog_6_method_11_code
def yX4_fallsAt : MethodName := ⟨RX4, "fallsAt", "(II)I"⟩
abbrev cX4_climbsBeside : ByteArray := prog_6_method_12_code
def yX4_climbsBeside : MethodName := ⟨RX4, "climbsBeside", "(III)Z"⟩
abbrev cX4_nearestBits : ByteArray := prog_6_method_13_code
def yX4_nearestBits : MethodName := ⟨RX4, "nearestBits", "(II)I"⟩
abbrev cX4_placeRound : ByteArray := prog_6_method_14_code
def yX4_placeRound : MethodName := ⟨RX4, "placeRound", "(III)I"⟩
abbrev cX4_aheadRound : ByteArray := prog_6_method_15_code
def yX4_aheadRound : MethodName := ⟨RX4, "aheadRound", "(III)I"⟩
abbrev cX4_compareRound : ByteArray := prog_6_method_16_code
def yX4_compareRound : MethodName := ⟨RX4, "compareRound", "(III)I"⟩
abbrev cX4_partOfTurn : ByteArray := prog_6_method_17_code
def yX4_partOfTurn : MethodName := ⟨RX4, "partOfTurn", "(II)I"⟩
abbrev cX4_placeAlong : ByteArray := prog_6_method_18_code
def yX4_placeAlong : MethodName := ⟨RX4, "placeAlong", "(II)I"⟩
abbrev cX4_aheadAlong : ByteArray := prog_6_method_19_code
def yX4_aheadAlong : MethodName := ⟨RX4, "aheadAlong", "(II)I"⟩
abbrev cX4_compareAlong : ByteArray := prog_6_method_20_code
def yX4_compareAlong : MethodName := ⟨RX4, "compareAlong", "(II)I"⟩
abbrev cX4_crossSum : ByteArray := prog_6_method_21_code
def yX4_crossSum : MethodName := ⟨RX4, "crossSum", "(I)J"⟩
def RX5 : String := "OrderJudge"
def TX5 : u_T := fun k => match k with
  | 0 => ("OrderJudge", "points", "LOrderJudge$Points;", true)
  | 1 => ("OrderJudge", "quick", "LOrderJudge$QuickFilter;", true)
  | 2 => ("OrderJudge", "few", "LOrderJudge$Few;", true)
  | 3 => ("OrderJudge", "row", "LOrderJudge$Row;", true)
  | _ => ("OrderJudge", "lineSet", "LOrderJudge$LineSet;", true)
def tyX5 : Nat → FieldType := fun k => match k with
  | 0 => .object "OrderJudge$Points"
  | 1 => .object "OrderJudge$QuickFilter"
  | 2 => .object "OrderJudge$Few"
  | 3 => .object "OrderJudge$Row"
  | _ => .object "OrderJudge$LineSet"
abbrev wsX50 : List Cond := u_ws RX5 TX5 5
theorem nmX5 : ∀ a, a < 5 → ∀ b, b < 5 → a ≠ b → (TX5 a).2.1 ≠ (TX5 b).2.1 := by decide +kernel
theorem tyX5_ok : ∀ k, k < 5 → parseFieldDescriptor (TX5 k).2.2.1 = some (tyX5 k) := by decide +kernel
abbrev cX5_init : ByteArray := prog_1_method_1_code
def yX5_init : MethodName := ⟨RX5, "<init>", "()V"⟩
abbrev cX5_point : ByteArray := prog_1_method_2_code
def yX5_point : MethodName := ⟨RX5, "point", "(JJJ)I"⟩
abbrev cX5_size : ByteArray := prog_1_method_3_code
def yX5_size : MethodName := ⟨RX5, "size", "(I)I"⟩
abbrev cX5_of : ByteArray := prog_1_method_4_code
def yX5_of : MethodName := ⟨RX5, "of", "(II)I"⟩
abbrev cX5_at : ByteArray := prog_1_method_5_code
def yX5_at : MethodName := ⟨RX5, "at", "(II)I"⟩
abbrev cX5_side : ByteArray := prog_1_method_6_code
def yX5_side : MethodName := ⟨RX5, "side", "(III)I"⟩
abbrev cX5_circle : ByteArray := prog_1_method_7_code
def yX5_circle : MethodName := ⟨RX5, "circle", "(IIII)I"⟩
abbrev cX5_filter : ByteArray := prog_1_method_8_code
def yX5_filter : MethodName := ⟨RX5, "filter", "(Z)I"⟩
abbrev cX5_decided : ByteArray := prog_1_method_9_code
def yX5_decided : MethodName := ⟨RX5, "decided", "(I)I"⟩
abbrev cX5_between : ByteArray := prog_1_method_10_code
def yX5_between : MethodName := ⟨RX5, "between", "(III)I"⟩
abbrev cX5_inside : ByteArray := prog_1_method_11_code
def yX5_inside : MethodName := ⟨RX5, "inside", "(IIII)I"⟩
abbrev cX5_cross : ByteArray := prog_1_method_12_code
def yX5_cross : MethodName := ⟨RX5, "cross", "(IIII)I"⟩
abbrev cX5_separated : ByteArray := prog_1_method_13_code
def yX5_separated : MethodName := ⟨RX5, "separated", "(IIII)I"⟩
abbrev cX5_convex : ByteArray := prog_1_method_14_code
def yX5_convex : MethodName := ⟨RX5, "convex", "(I)I"⟩
abbrev cX5_polygon : ByteArray := prog_1_method_15_code
def yX5_polygon : MethodName := ⟨RX5, "polygon", "(II)I"⟩
abbrev cX5_winding : ByteArray := prog_1_method_16_code
def yX5_winding : MethodName := ⟨RX5, "winding", "(II)I"⟩
abbrev cX5_nearest : ByteArray := prog_1_method_17_code
def yX5_nearest : MethodName := ⟨RX5, "nearest", "(II)I"⟩
abbrev cX5_around : ByteArray := prog_1_method_18_code
def yX5_around : MethodName := ⟨RX5, "around", "(III)I"⟩
abbrev cX5_order : ByteArray := prog_1_method_19_code
def yX5_order : MethodName := ⟨RX5, "order", "(II)I"⟩
abbrev cX5_area : ByteArray := prog_1_method_20_code
def yX5_area : MethodName := ⟨RX5, "area", "(IJ)J"⟩
abbrev cX5_line : ByteArray := prog_1_method_21_code
def yX5_line : MethodName := ⟨RX5, "line", "(II)I"⟩
abbrev cX5_lines : ByteArray := prog_1_method_22_code
def yX5_lines : MethodName := ⟨RX5, "lines", "(II)I"⟩
abbrev cX5_count : ByteArray := prog_1_method_23_code
def yX5_count : MethodName := ⟨RX5, "count", "(I)I"⟩
abbrev cX5_isCoordinate : ByteArray := prog_1_method_24_code
def yX5_isCoordinate : MethodName := ⟨RX5, "isCoordinate", "(J)Z"⟩
abbrev cX5_isDown : ByteArray := prog_1_method_25_code
def yX5_isDown : MethodName := ⟨RX5, "isDown", "(J)Z"⟩
abbrev cX5_signOf : ByteArray := prog_1_method_26_code
def yX5_signOf : MethodName := ⟨RX5, "signOf", "(J)I"⟩
def RX6 : String := "OrderJudgeModel"
def TX6 : u_T := fun k => match k with
  | 0 => ("OrderJudgeModel", "thrown", "I", false)
  | 1 => ("OrderJudgeModel", "points", "I", false)
  | 2 => ("OrderJudgeModel", "px", "[I", true)
  | 3 => ("OrderJudgeModel", "py", "[I", true)
  | 4 => ("OrderJudgeModel", "places", "I", false)
  | 5 => ("OrderJudgeModel", "row", "[I", true)
  | 6 => ("OrderJudgeModel", "isOn", "Z", false)
  | 7 => ("OrderJudgeModel", "clear", "I", false)
  | 8 => ("OrderJudgeModel", "unclear", "I", false)
  | 9 => ("OrderJudgeModel", "nothing", "I", false)
  | 10 => ("OrderJudgeModel", "lines", "I", false)
  | 11 => ("OrderJudgeModel", "la", "[J", true)
  | 12 => ("OrderJudgeModel", "lb", "[J", true)
  | _ => ("OrderJudgeModel", "lc", "[J", true)
def tyX6 : Nat → FieldType := fun k => match k with
  | 0 => .int
  | 1 => .int
  | 2 => .array .int
  | 3 => .array .int
  | 4 => .int
  | 5 => .array .int
  | 6 => .boolean
  | 7 => .int
  | 8 => .int
  | 9 => .int
  | 10 => .int
  | 11 => .array .long
  | 12 => .array .long
  | _ => .array .long
abbrev wsX60 : List Cond := u_ws RX6 TX6 14
theorem nmX6 : ∀ a, a < 14 → ∀ b, b < 14 → a ≠ b → (TX6 a).2.1 ≠ (TX6 b).2.1 := by decide +kernel
theorem tyX6_ok : ∀ k, k < 14 → parseFieldDescriptor (TX6 k).2.2.1 = some (tyX6 k) := by decide +kernel
abbrev cX6_thrown : ByteArray := prog_8_method_1_code
def yX6_thrown : MethodName := ⟨RX6, "thrown", "()I"⟩
abbrev cX6_fail : ByteArray := prog_8_method_2_code
def yX6_fail : MethodName := ⟨RX6, "fail", "(I)I"⟩
abbrev cX6_init : ByteArray := prog_8_method_3_code
def yX6_init : MethodName := ⟨RX6, "<init>", "()V"⟩
abbrev cX6_point : ByteArray := prog_8_method_4_code
def yX6_point : MethodName := ⟨RX6, "point", "(JJJ)I"⟩
abbrev cX6_isPoint : ByteArray := prog_8_method_5_code
def yX6_isPoint : MethodName := ⟨RX6, "isPoint", "(I)Z"⟩
abbrev cX6_areEqual : ByteArray := prog_8_method_6_code
def yX6_areEqual : MethodName := ⟨RX6, "areEqual", "(II)Z"⟩
abbrev cX6_signOf : ByteArray := prog_8_method_7_code
def yX6_signOf : MethodName := ⟨RX6, "signOf", "(J)I"⟩
abbrev cX6_turn : ByteArray := prog_8_method_8_code
def yX6_turn : MethodName := ⟨RX6, "turn", "(III)I"⟩
abbrev cX6_along : ByteArray := prog_8_method_9_code
def yX6_along : MethodName := ⟨RX6, "along", "(III)J"⟩
abbrev cX6_ring : ByteArray := prog_8_method_10_code
def yX6_ring : MethodName := ⟨RX6, "ring", "(IIII)I"⟩
abbrev cX6_size : ByteArray := prog_8_method_11_code
def yX6_size : MethodName := ⟨RX6, "size", "(I)I"⟩
abbrev cX6_isPlace : ByteArray := prog_8_method_12_code
def yX6_isPlace : MethodName := ⟨RX6, "isPlace", "(I)Z"⟩
abbrev cX6_of : ByteArray := prog_8_method_13_code
def yX6_of : MethodName := ⟨RX6, "of", "(II)I"⟩
abbrev cX6_at : ByteArray := prog_8_method_14_code
def yX6_at : MethodName := ⟨RX6, "at", "(II)I"⟩
abbrev cX6_size_ : ByteArray := prog_8_method_15_code
def yX6_size_ : MethodName := ⟨RX6, "size", "(F)F"⟩
abbrev cX6_greater : ByteArray := prog_8_method_16_code
def yX6_greater : MethodName := ⟨RX6, "greater", "(FF)F"⟩
abbrev cX6_fx : ByteArray := prog_8_method_17_code
def yX6_fx : MethodName := ⟨RX6, "fx", "(I)F"⟩
abbrev cX6_fy : ByteArray := prog_8_method_18_code
def yX6_fy : MethodName := ⟨RX6, "fy", "(I)F"⟩
abbrev cX6_most : ByteArray := prog_8_method_19_code
def yX6_most : MethodName := ⟨RX6, "most", "(III)F"⟩
abbrev cX6_decidesTurn : ByteArray := prog_8_method_20_code
def yX6_decidesTurn : MethodName := ⟨RX6, "decidesTurn", "(III)Z"⟩
abbrev cX6_decidesRing : ByteArray := prog_8_method_21_code
def yX6_decidesRing : MethodName := ⟨RX6, "decidesRing", "(IIII)Z"⟩
abbrev cX6_counted : ByteArray := prog_8_method_22_code
def yX6_counted : MethodName := ⟨RX6, "counted", "(ZI)I"⟩
abbrev cX6_side : ByteArray := prog_8_method_23_code
def yX6_side : MethodName := ⟨RX6, "side", "(III)I"⟩
abbrev cX6_circle : ByteArray := prog_8_method_24_code
def yX6_circle : MethodName := ⟨RX6, "circle", "(IIII)I"⟩
abbrev cX6_filter : ByteArray := prog_8_method_25_code
def yX6_filter : MethodName := ⟨RX6, "filter", "(Z)I"⟩
abbrev cX6_decided : ByteArray := prog_8_method_26_code
def yX6_decided : MethodName := ⟨RX6, "decided", "(I)I"⟩
abbrev cX6_isOn : ByteArray := prog_8_method_27_code
def yX6_isOn : MethodName := ⟨RX6, "isOn", "(III)Z"⟩
abbrev cX6_between : ByteArray := prog_8_method_28_code
def yX6_between : MethodName := ⟨RX6, "between", "(III)I"⟩
abbrev cX6_isOneWay : ByteArray := prog_8_method_29_code
def yX6_isOneWay : MethodName := ⟨RX6, "isOneWay", "(III)Z"⟩
abbrev cX6_inside : ByteArray := prog_8_method_30_code
def yX6_inside : MethodName := ⟨RX6, "inside", "(IIII)I"⟩
abbrev cX6_common : ByteArray := prog_8_method_31_code
def yX6_common : MethodName := ⟨RX6, "common", "(IIII)I"⟩
abbrev cX6_cross : ByteArray := prog_8_method_32_code
def yX6_cross : MethodName := ⟨RX6, "cross", "(IIII)I"⟩
abbrev cX6_separated : ByteArray := prog_8_method_33_code
def yX6_separated : MethodName := ⟨RX6, "separated", "(IIII)I"⟩
abbrev cX6_isMany : ByteArray := prog_8_method_34_code
def yX6_isMany : MethodName := ⟨RX6, "isMany", "(II)Z"⟩
abbrev cX6_isWhole : ByteArray := prog_8_method_35_code
def yX6_isWhole : MethodName := ⟨RX6, "isWhole", "(I)Z"⟩
abbrev cX6_next : ByteArray := prog_8_method_36_code
def yX6_next : MethodName := ⟨RX6, "next", "(II)I"⟩
abbrev cX6_convex : ByteArray := prog_8_method_37_code
def yX6_convex : MethodName := ⟨RX6, "convex", "(I)I"⟩
abbrev cX6_isOnEdge : ByteArray := prog_8_method_38_code
def yX6_isOnEdge : MethodName := ⟨RX6, "isOnEdge", "(II)Z"⟩
abbrev cX6_rises : ByteArray := prog_8_method_39_code
def yX6_rises : MethodName := ⟨RX6, "rises", "(III)I"⟩
abbrev cX6_polygon : ByteArray := prog_8_method_40_code
def yX6_polygon : MethodName := ⟨RX6, "polygon", "(II)I"⟩
abbrev cX6_winding : ByteArray := prog_8_method_41_code
def yX6_winding : MethodName := ⟨RX6, "winding", "(II)I"⟩
abbrev cX6_far : ByteArray := prog_8_method_42_code
def yX6_far : MethodName := ⟨RX6, "far", "(II)J"⟩
abbrev cX6_nearest : ByteArray := prog_8_method_43_code
def yX6_nearest : MethodName := ⟨RX6, "nearest", "(II)I"⟩
abbrev cX6_half : ByteArray := prog_8_method_44_code
def yX6_half : MethodName := ⟨RX6, "half", "(II)I"⟩
abbrev cX6_isAhead : ByteArray := prog_8_method_45_code
def yX6_isAhead : MethodName := ⟨RX6, "isAhead", "(III)Z"⟩
abbrev cX6_around : ByteArray := prog_8_method_46_code
def yX6_around : MethodName := ⟨RX6, "around", "(III)I"⟩
abbrev cX6_isLess : ByteArray := prog_8_method_47_code
def yX6_isLess : MethodName := ⟨RX6, "isLess", "(II)Z"⟩
abbrev cX6_order : ByteArray := prog_8_method_48_code
def yX6_order : MethodName := ⟨RX6, "order", "(II)I"⟩
abbrev cX6_area : ByteArray := prog_8_method_49_code
def yX6_area : MethodName := ⟨RX6, "area", "(IJ)J"⟩
abbrev cX6_line : ByteArray := prog_8_method_50_code
def yX6_line : MethodName := ⟨RX6, "line", "(II)I"⟩
abbrev cX6_both : ByteArray := prog_8_method_51_code
def yX6_both : MethodName := ⟨RX6, "both", "(II)J"⟩
abbrev cX6_isOne : ByteArray := prog_8_method_52_code
def yX6_isOne : MethodName := ⟨RX6, "isOne", "(II)Z"⟩
abbrev cX6_isNew : ByteArray := prog_8_method_53_code
def yX6_isNew : MethodName := ⟨RX6, "isNew", "(I)Z"⟩
abbrev cX6_isThrough : ByteArray := prog_8_method_54_code
def yX6_isThrough : MethodName := ⟨RX6, "isThrough", "(III)Z"⟩
abbrev cX6_lines : ByteArray := prog_8_method_55_code
def yX6_lines : MethodName := ⟨RX6, "lines", "(II)I"⟩
abbrev cX6_count : ByteArray := prog_8_method_56_code
def yX6_count : MethodName := ⟨RX6, "count", "(I)I"⟩
def RJx00060 : String := "java/lang/ArrayIndexOutOfBoundsException"
def TJx00060 : u_T := fun k => match k with
  | 0 => ("java/lang/Throwable", "backtrace", "Ljava/lang/Object;", false)
  | 1 => ("java/lang/Throwable", "detailMessage", "Ljava/lang/String;", false)
  | 2 => ("java/lang/Throwable", "cause", "Ljava/lang/Throwable;", false)
  | 3 => ("java/lang/Throwable", "stackTrace", "[Ljava/lang/StackTraceElement;", false)
  | 4 => ("java/lang/Throwable", "depth", "I", false)
  | _ => ("java/lang/Throwable", "suppressedExceptions", "Ljava/util/List;", false)
def tyJx00060 : Nat → FieldType := fun k => match k with
  | 0 => .object "java/lang/Object"
  | 1 => .object "java/lang/String"
  | 2 => .object "java/lang/Throwable"
  | 3 => .array (.object "java/lang/StackTraceElement")
  | 4 => .int
  | _ => .object "java/util/List"
abbrev wsJx000600 : List Cond := u_ws RJx00060 TJx00060 6
theorem nmJx00060 : ∀ a, a < 6 → ∀ b, b < 6 → a ≠ b → (TJx00060 a).2.1 ≠ (TJx00060 b).2.1 := by decide +kernel
theorem tyJx00060_ok : ∀ k, k < 6 → parseFieldDescriptor (TJx00060 k).2.2.1 = some (tyJx00060 k) := by decide +kernel
abbrev cJx00060_init_a7421 : ByteArray := prog_10_method_2_code
def yJx00060_init_a7421 : MethodName := ⟨RJx00060, "<init>", "(Ljava/lang/String;)V"⟩
def RJ6 : String := "java/lang/Integer"
def TJ6 : u_T := fun k => match k with
  | _ => ("", "", "", false)
def tyJ6 : Nat → FieldType := fun k => match k with
  | _ => .int
abbrev wsJ60 : List Cond := u_ws RJ6 TJ6 0
theorem nmJ6 : ∀ a, a < 0 → ∀ b, b < 0 → a ≠ b → (TJ6 a).2.1 ≠ (TJ6 b).2.1 := by decide +kernel
theorem tyJ6_ok : ∀ k, k < 0 → parseFieldDescriptor (TJ6 k).2.2.1 = some (tyJ6 k) := by decide +kernel
abbrev cJ6_compare_7cf53 : ByteArray := prog_13_method_40_code
def yJ6_compare_7cf53 : MethodName := ⟨RJ6, "compare", "(II)I"⟩
def RJ13 : String := "java/lang/Long"
def TJ13 : u_T := fun k => match k with
  | _ => ("", "", "", false)
def tyJ13 : Nat → FieldType := fun k => match k with
  | _ => .int
abbrev wsJ130 : List Cond := u_ws RJ13 TJ13 0
theorem nmJ13 : ∀ a, a < 0 → ∀ b, b < 0 → a ≠ b → (TJ13 a).2.1 ≠ (TJ13 b).2.1 := by decide +kernel
theorem tyJ13_ok : ∀ k, k < 0 → parseFieldDescriptor (TJ13 k).2.2.1 = some (tyJ13 k) := by decide +kernel
abbrev cJ13_compare_74951 : ByteArray := prog_14_method_42_code
def yJ13_compare_74951 : MethodName := ⟨RJ13, "compare", "(JJ)I"⟩
def RJ9 : String := "java/lang/Math"
def TJ9 : u_T := fun k => match k with
  | _ => ("", "", "", false)
def tyJ9 : Nat → FieldType := fun k => match k with
  | _ => .int
abbrev wsJ90 : List Cond := u_ws RJ9 TJ9 0
theorem nmJ9 : ∀ a, a < 0 → ∀ b, b < 0 → a ≠ b → (TJ9 a).2.1 ≠ (TJ9 b).2.1 := by decide +kernel
theorem tyJ9_ok : ∀ k, k < 0 → parseFieldDescriptor (TJ9 k).2.2.1 = some (tyJ9 k) := by decide +kernel
abbrev cJ9_max_7cf53 : ByteArray := prog_15_method_65_code
def yJ9_max_7cf53 : MethodName := ⟨RJ9, "max", "(II)I"⟩
abbrev cJ9_min_7cf53 : ByteArray := prog_15_method_69_code
def yJ9_min_7cf53 : MethodName := ⟨RJ9, "min", "(II)I"⟩
def RJxde1cd : String := "java/lang/NegativeArraySizeException"
def TJxde1cd : u_T := fun k => match k with
  | 0 => ("java/lang/Throwable", "backtrace", "Ljava/lang/Object;", false)
  | 1 => ("java/lang/Throwable", "detailMessage", "Ljava/lang/String;", false)
  | 2 => ("java/lang/Throwable", "cause", "Ljava/lang/Throwable;", false)
  | 3 => ("java/lang/Throwable", "stackTrace", "[Ljava/lang/StackTraceElement;", false)
  | 4 => ("java/lang/Throwable", "depth", "I", false)
  | _ => ("java/lang/Throwable", "suppressedExceptions", "Ljava/util/List;", false)
def tyJxde1cd : Nat → FieldType := fun k => match k with
  | 0 => .object "java/lang/Object"
  | 1 => .object "java/lang/String"
  | 2 => .object "java/lang/Throwable"
  | 3 => .array (.object "java/lang/StackTraceElement")
  | 4 => .int
  | _ => .object "java/util/List"
abbrev wsJxde1cd0 : List Cond := u_ws RJxde1cd TJxde1cd 6
theorem nmJxde1cd : ∀ a, a < 6 → ∀ b, b < 6 → a ≠ b → (TJxde1cd a).2.1 ≠ (TJxde1cd b).2.1 := by decide +kernel
theorem tyJxde1cd_ok : ∀ k, k < 6 → parseFieldDescriptor (TJxde1cd k).2.2.1 = some (tyJxde1cd k) := by decide +kernel
abbrev cJxde1cd_init_a7421 : ByteArray := prog_16_method_2_code
def yJxde1cd_init_a7421 : MethodName := ⟨RJxde1cd, "<init>", "(Ljava/lang/String;)V"⟩
def RJx5d777 : String := "java/lang/NullPointerException"
def TJx5d777 : u_T := fun k => match k with
  | 0 => ("java/lang/Throwable", "backtrace", "Ljava/lang/Object;", false)
  | 1 => ("java/lang/Throwable", "detailMessage", "Ljava/lang/String;", false)
  | 2 => ("java/lang/Throwable", "cause", "Ljava/lang/Throwable;", false)
  | 3 => ("java/lang/Throwable", "stackTrace", "[Ljava/lang/StackTraceElement;", false)
  | 4 => ("java/lang/Throwable", "depth", "I", false)
  | 5 => ("java/lang/Throwable", "suppressedExceptions", "Ljava/util/List;", false)
  | 6 => ("java/lang/NullPointerException", "extendedMessageState", "I", false)
  | _ => ("java/lang/NullPointerException", "extendedMessage", "Ljava/lang/String;", false)
def tyJx5d777 : Nat → FieldType := fun k => match k with
  | 0 => .object "java/lang/Object"
  | 1 => .object "java/lang/String"
  | 2 => .object "java/lang/Throwable"
  | 3 => .array (.object "java/lang/StackTraceElement")
  | 4 => .int
  | 5 => .object "java/util/List"
  | 6 => .int
  | _ => .object "java/lang/String"
abbrev wsJx5d7770 : List Cond := u_ws RJx5d777 TJx5d777 8
theorem nmJx5d777 : ∀ a, a < 8 → ∀ b, b < 8 → a ≠ b → (TJx5d777 a).2.1 ≠ (TJx5d777 b).2.1 := by decide +kernel
theorem tyJx5d777_ok : ∀ k, k < 8 → parseFieldDescriptor (TJx5d777 k).2.2.1 = some (tyJx5d777 k) := by decide +kernel
abbrev cJx5d777_init_da8c8 : ByteArray := prog_17_method_1_code
def yJx5d777_init_da8c8 : MethodName := ⟨RJx5d777, "<init>", "()V"⟩
abbrev cJx5d777_init_a7421 : ByteArray := prog_17_method_2_code
def yJx5d777_init_a7421 : MethodName := ⟨RJx5d777, "<init>", "(Ljava/lang/String;)V"⟩
abbrev cJx5d777_fillInStackTrace_cddbd : ByteArray := prog_17_method_3_code
def yJx5d777_fillInStackTrace_cddbd : MethodName := ⟨RJx5d777, "fillInStackTrace", "()Ljava/lang/Throwable;"⟩
def RJ0 : String := "java/lang/String"
def TJ0 : u_T := fun k => match k with
  | 0 => ("java/lang/String", "value", "[B", true)
  | _ => ("java/lang/String", "coder", "B", true)
def tyJ0 : Nat → FieldType := fun k => match k with
  | 0 => .array .byte
  | _ => .byte
abbrev wsJ00 : List Cond := u_ws RJ0 TJ0 2
theorem nmJ0 : ∀ a, a < 2 → ∀ b, b < 2 → a ≠ b → (TJ0 a).2.1 ≠ (TJ0 b).2.1 := by decide +kernel
theorem tyJ0_ok : ∀ k, k < 2 → parseFieldDescriptor (TJ0 k).2.2.1 = some (tyJ0 k) := by decide +kernel
def RL : String := "OrderJudgeLaw"
abbrev cL_size : ByteArray := method_3_code
def yL_size : MethodName := ⟨RL, "size", "(LOrderJudge;I[J)I"⟩
abbrev cL_of : ByteArray := method_4_code
def yL_of : MethodName := ⟨RL, "of", "(LOrderJudge;II[J)I"⟩
abbrev cL_at : ByteArray := method_5_code
def yL_at : MethodName := ⟨RL, "at", "(LOrderJudge;II[J)I"⟩
abbrev cL_area : ByteArray := method_6_code
def yL_area : MethodName := ⟨RL, "area", "(LOrderJudge;IJ[J)I"⟩
abbrev cL_law : ByteArray := code
def yL_law : MethodName := ⟨RL, "law", "([I)Z"⟩
abbrev vwCl : List vw_C := [(RJ0, TJ0, 2), (RJx00060, TJx00060, 6), (RJxde1cd, TJxde1cd, 6), (RJx5d777, TJx5d777, 8), (RX0, TX0, 1), (RX1, TX1, 10), (RX2, TX2, 3), (RX3, TX3, 5), (RX4, TX4, 3), (RX5, TX5, 5), (RX6, TX6, 14)]
end
section
def wsL_law0_r1 : List Cond := [Cond.classLink RL 8 RX5, Cond.instantiable RX5 5, Cond.initialized RX5, Cond.classLink RL 33 RX6, Cond.instantiable RX6 14, Cond.initialized RX6, Cond.arrayClass .long, Cond.constantLong RL 36 (4294967295), Cond.methodLink RL 32 yX5_init, Cond.instanceMethod yX5_init, Cond.code yX5_init cX5_init 1 none, Cond.methodLink RX5 1 objectInit, Cond.instanceMethod objectInit, Cond.code objectInit ⟨#[0xb1]⟩ 1 none, Cond.classLink RX5 7 RX2, Cond.instantiable RX2 3, Cond.initialized RX2, Cond.fieldLink RX5 10 "OrderJudge" "points" "LOrderJudge$Points;", Cond.classLink RX5 16 RX3, Cond.instantiable RX3 5, Cond.initialized RX3, Cond.fieldLink RX5 21 "OrderJudge" "quick" "LOrderJudge$QuickFilter;", Cond.classLink RX5 25 RX0, Cond.instantiable RX0 1]
def wsL_law0_r2 : List Cond := [Cond.initialized RX0, Cond.fieldLink RX5 28 "OrderJudge" "few" "LOrderJudge$Few;", Cond.classLink RX5 32 RX4, Cond.instantiable RX4 3, Cond.initialized RX4, Cond.fieldLink RX5 35 "OrderJudge" "row" "LOrderJudge$Row;", Cond.classLink RX5 39 RX1, Cond.instantiable RX1 10, Cond.initialized RX1, Cond.fieldLink RX5 42 "OrderJudge" "lineSet" "LOrderJudge$LineSet;", Cond.instanceMethod yX2_init, Cond.code yX2_init cX2_init 1 none, Cond.methodLink RX2 3 objectInit, Cond.arrayClass .int, Cond.fieldLink RX2 9 "OrderJudge$Points" "xs" "[I", Cond.fieldLink RX2 15 "OrderJudge$Points" "ys" "[I", Cond.fieldLink RX2 18 "OrderJudge$Points" "held" "I", Cond.methodLink RX5 18 yX3_init, Cond.instanceMethod yX3_init, Cond.code yX3_init cX3_init 2 none, Cond.methodLink RX3 1 objectInit, Cond.fieldLink RX3 7 "OrderJudge$QuickFilter" "on" "Z", Cond.fieldLink RX3 13 "OrderJudge$QuickFilter" "clear" "I", Cond.fieldLink RX3 17 "OrderJudge$QuickFilter" "unclear" "I"]
def wsL_law0_r3 : List Cond := [Cond.fieldLink RX3 20 "OrderJudge$QuickFilter" "zeros" "I", Cond.fieldLink RX3 23 "OrderJudge$QuickFilter" "points" "LOrderJudge$Points;", Cond.methodLink RX5 27 yX0_init, Cond.instanceMethod yX0_init, Cond.code yX0_init cX0_init 2 none, Cond.methodLink RX0 3 objectInit, Cond.fieldLink RX0 9 "OrderJudge$Few" "points" "LOrderJudge$Points;", Cond.methodLink RX5 34 yX4_init, Cond.instanceMethod yX4_init, Cond.code yX4_init cX4_init 2 none, Cond.methodLink RX4 3 objectInit, Cond.fieldLink RX4 9 "OrderJudge$Row" "places" "[I", Cond.fieldLink RX4 15 "OrderJudge$Row" "held" "I", Cond.fieldLink RX4 19 "OrderJudge$Row" "points" "LOrderJudge$Points;", Cond.methodLink RX5 41 yX1_init, Cond.instanceMethod yX1_init, Cond.code yX1_init cX1_init 2 none, Cond.methodLink RX1 3 objectInit, Cond.fieldLink RX1 9 "OrderJudge$LineSet" "p" "[J", Cond.fieldLink RX1 15 "OrderJudge$LineSet" "q" "[J", Cond.fieldLink RX1 18 "OrderJudge$LineSet" "\x72" "[J", Cond.fieldLink RX1 21 "OrderJudge$LineSet" "held" "I", Cond.fieldLink RX1 25 "OrderJudge$LineSet" "kept" "[I", Cond.fieldLink RX1 29 "OrderJudge$LineSet" "different" "I"]
def wsL_law0_r4 : List Cond := [Cond.fieldLink RX1 32 "OrderJudge$LineSet" "meets" "I", Cond.fieldLink RX1 35 "OrderJudge$LineSet" "mostThrough" "I", Cond.fieldLink RX1 38 "OrderJudge$LineSet" "allThrough" "I", Cond.fieldLink RX1 41 "OrderJudge$LineSet" "points" "LOrderJudge$Points;", Cond.methodLink RL 35 yX6_init, Cond.instanceMethod yX6_init, Cond.code yX6_init cX6_init 2 none, Cond.methodLink RX6 7 objectInit, Cond.fieldLink RX6 13 "OrderJudgeModel" "px" "[I", Cond.fieldLink RX6 17 "OrderJudgeModel" "py" "[I", Cond.fieldLink RX6 20 "OrderJudgeModel" "row" "[I", Cond.fieldLink RX6 23 "OrderJudgeModel" "isOn" "Z", Cond.fieldLink RX6 27 "OrderJudgeModel" "la" "[J", Cond.fieldLink RX6 31 "OrderJudgeModel" "lb" "[J", Cond.fieldLink RX6 34 "OrderJudgeModel" "lc" "[J", Cond.methodLink RL 38 yX5_point, Cond.instanceMethod yX5_point, Cond.selects RX5 yX5_point yX5_point, Cond.code yX5_point cX5_point 8 (some .int), Cond.methodLink RX5 46 yX5_isCoordinate, Cond.static yX5_isCoordinate, Cond.code yX5_isCoordinate cX5_isCoordinate 2 (some .boolean), Cond.constantLong RX5 213 (-800), Cond.constantLong RX5 215 (800)]
def wsL_law0_r5 : List Cond := [Cond.methodLink RX5 50 yX5_isDown, Cond.static yX5_isDown, Cond.code yX5_isDown cX5_isDown 2 (some .boolean), Cond.constantLong RX5 217 (12), Cond.methodLink RX5 53 yX2_add, Cond.instanceMethod yX2_add, Cond.selects RX2 yX2_add yX2_add, Cond.code yX2_add cX2_add 3 (some .int), Cond.methodLink RL 42 yX6_point, Cond.instanceMethod yX6_point, Cond.selects RX6 yX6_point yX6_point, Cond.code yX6_point cX6_point 8 (some .int), Cond.fieldLink RX6 1 "OrderJudgeModel" "thrown" "I", Cond.constantLong RX6 37 (2), Cond.constantLong RX6 39 (3), Cond.constantLong RX6 41 (4), Cond.constantLong RX6 43 (6), Cond.constantLong RX6 45 (12), Cond.constantLong RX6 47 (-800), Cond.constantLong RX6 49 (800), Cond.fieldLink RX6 51 "OrderJudgeModel" "points" "I", Cond.methodLink RL 43 yL_size, Cond.static yL_size, Cond.initialized RL]
def wsL_law0_r6 : List Cond := [Cond.codeWith yL_size cL_size 4 (some .int) [(0, 9, 12, 13)], Cond.classLink RL 13 "java/lang/NegativeArraySizeException", Cond.methodLink RL 7 yX5_size, Cond.instanceMethod yX5_size, Cond.selects RX5 yX5_size yX5_size, Cond.code yX5_size cX5_size 2 (some .int), Cond.classLink RX5 57 RJxde1cd, Cond.instantiable RJxde1cd 6, Cond.initialized RJxde1cd, Cond.methodLink RX5 64 yX4_resize, Cond.instanceMethod yX4_resize, Cond.selects RX4 yX4_resize yX4_resize, Cond.code yX4_resize cX4_resize 4 (some .int), Cond.methodLink RL 48 yX6_size, Cond.instanceMethod yX6_size, Cond.selects RX6 yX6_size yX6_size, Cond.code yX6_size cX6_size 4 (some .int), Cond.fieldLink RX6 66 "OrderJudgeModel" "places" "I", Cond.methodLink RX6 62 yX6_fail, Cond.instanceMethod yX6_fail, Cond.selects RX6 yX6_fail yX6_fail, Cond.code yX6_fail cX6_fail 2 (some .int), Cond.methodLink RL 49 yX6_thrown, Cond.instanceMethod yX6_thrown]
def wsL_law0_r7 : List Cond := [Cond.selects RX6 yX6_thrown yX6_thrown, Cond.code yX6_thrown cX6_thrown 1 (some .int), Cond.methodLink RL 53 yL_of, Cond.static yL_of, Cond.codeWith yL_of cL_of 5 (some .int) [(0, 10, 13, 19)], Cond.classLink RL 19 "java/lang/ArrayIndexOutOfBoundsException", Cond.methodLink RL 15 yX5_of, Cond.instanceMethod yX5_of, Cond.selects RX5 yX5_of yX5_of, Cond.code yX5_of cX5_of 3 (some .int), Cond.classLink RX5 75 RJx00060, Cond.instantiable RJx00060 6, Cond.initialized RJx00060, Cond.methodLink RX5 68 yX2_has, Cond.instanceMethod yX2_has, Cond.selects RX2 yX2_has yX2_has, Cond.code yX2_has cX2_has 2 (some .boolean), Cond.methodLink RX5 72 yX4_hasPlace, Cond.instanceMethod yX4_hasPlace, Cond.selects RX4 yX4_hasPlace yX4_hasPlace, Cond.code yX4_hasPlace cX4_hasPlace 2 (some .boolean), Cond.methodLink RX5 80 yX4_put, Cond.instanceMethod yX4_put, Cond.selects RX4 yX4_put yX4_put]
def wsL_law0_r8 : List Cond := [Cond.code yX4_put cX4_put 4 (some .int), Cond.methodLink RL 56 yX6_of, Cond.instanceMethod yX6_of, Cond.selects RX6 yX6_of yX6_of, Cond.code yX6_of cX6_of 4 (some .int), Cond.methodLink RX6 69 yX6_isPoint, Cond.instanceMethod yX6_isPoint, Cond.selects RX6 yX6_isPoint yX6_isPoint, Cond.code yX6_isPoint cX6_isPoint 2 (some .boolean), Cond.methodLink RX6 73 yX6_isPlace, Cond.instanceMethod yX6_isPlace, Cond.selects RX6 yX6_isPlace yX6_isPlace, Cond.code yX6_isPlace cX6_isPlace 2 (some .boolean), Cond.methodLink RL 57 yL_at, Cond.static yL_at, Cond.codeWith yL_at cL_at 5 (some .int) [(0, 10, 13, 19), (0, 10, 17, 24)], Cond.classLink RL 24 "java/lang/NullPointerException", Cond.methodLink RL 21 yX5_at, Cond.instanceMethod yX5_at, Cond.selects RX5 yX5_at yX5_at, Cond.code yX5_at cX5_at 4 (some .int), Cond.fieldLink RX5 83 "OrderJudge$Row" "places" "[I", Cond.classLink RX5 87 RJx5d777, Cond.instantiable RJx5d777 8]
def wsL_law0_r9 : List Cond := [Cond.initialized RJx5d777, Cond.fieldLink RX5 92 "OrderJudge$Points" "xs" "[I", Cond.fieldLink RX5 95 "OrderJudge$Points" "ys" "[I", Cond.methodLink RL 59 yX6_at, Cond.instanceMethod yX6_at, Cond.selects RX6 yX6_at yX6_at, Cond.code yX6_at cX6_at 3 (some .int), Cond.methodLink RL 60 yX5_side, Cond.instanceMethod yX5_side, Cond.selects RX5 yX5_side yX5_side, Cond.code yX5_side cX5_side 4 (some .int), Cond.methodLink RX5 98 yX2_hasAll, Cond.instanceMethod yX2_hasAll, Cond.selects RX2 yX2_hasAll yX2_hasAll, Cond.code yX2_hasAll cX2_hasAll 4 (some .boolean), Cond.methodLink RX2 22 yX2_has, Cond.methodLink RX5 102 yX2_equal, Cond.instanceMethod yX2_equal, Cond.selects RX2 yX2_equal yX2_equal, Cond.code yX2_equal cX2_equal 3 (some .boolean), Cond.methodLink RX2 26 yX2_compare, Cond.instanceMethod yX2_compare, Cond.selects RX2 yX2_compare yX2_compare, Cond.code yX2_compare cX2_compare 4 (some .int)]
def wsL_law0_r10 : List Cond := [Cond.methodLink RX2 30 yJ6_compare_7cf53, Cond.static yJ6_compare_7cf53, Cond.initialized RJ6, Cond.code yJ6_compare_7cf53 cJ6_compare_7cf53 2 (some .int), Cond.methodLink RX5 106 yX3_decidesTurn, Cond.instanceMethod yX3_decidesTurn, Cond.selects RX3 yX3_decidesTurn yX3_decidesTurn, Cond.code yX3_decidesTurn cX3_decidesTurn 7 (some .boolean), Cond.constantFloat RX3 45 (914358272), Cond.methodLink RX3 27 yX3_floatX, Cond.instanceMethod yX3_floatX, Cond.selects RX3 yX3_floatX yX3_floatX, Cond.code yX3_floatX cX3_floatX 2 (some .float), Cond.fieldLink RX3 47 "OrderJudge$Points" "xs" "[I", Cond.constantFloat RX3 53 (1094713344), Cond.methodLink RX3 31 yX3_floatY, Cond.instanceMethod yX3_floatY, Cond.selects RX3 yX3_floatY yX3_floatY, Cond.code yX3_floatY cX3_floatY 2 (some .float), Cond.fieldLink RX3 54 "OrderJudge$Points" "ys" "[I", Cond.methodLink RX3 34 yX3_reach, Cond.instanceMethod yX3_reach, Cond.selects RX3 yX3_reach yX3_reach, Cond.code yX3_reach cX3_reach 2 (some .float)]
def wsL_law0_r11 : List Cond := [Cond.methodLink RX3 41 yX3_unsigned, Cond.static yX3_unsigned, Cond.code yX3_unsigned cX3_unsigned 1 (some .float), Cond.methodLink RX3 37 yX3_greater, Cond.static yX3_greater, Cond.code yX3_greater cX3_greater 2 (some .float), Cond.methodLink RX5 109 yX2_turn, Cond.instanceMethod yX2_turn, Cond.selects RX2 yX2_turn yX2_turn, Cond.code yX2_turn cX2_turn 8 (some .int), Cond.static yX5_signOf, Cond.code yX5_signOf cX5_signOf 2 (some .int), Cond.methodLink RX5 219 yJ13_compare_74951, Cond.static yJ13_compare_74951, Cond.initialized RJ13, Cond.code yJ13_compare_74951 cJ13_compare_74951 4 (some .int), Cond.methodLink RX5 113 yX3_note, Cond.instanceMethod yX3_note, Cond.selects RX3 yX3_note yX3_note, Cond.code yX3_note cX3_note 3 (some .int), Cond.methodLink RL 64 yX6_side, Cond.instanceMethod yX6_side, Cond.selects RX6 yX6_side yX6_side, Cond.code yX6_side cX6_side 4 (some .int)]
def wsL_law0_r12 : List Cond := [Cond.methodLink RX6 107 yX6_areEqual, Cond.instanceMethod yX6_areEqual, Cond.selects RX6 yX6_areEqual yX6_areEqual, Cond.code yX6_areEqual cX6_areEqual 3 (some .boolean), Cond.methodLink RX6 111 yX6_decidesTurn, Cond.instanceMethod yX6_decidesTurn, Cond.selects RX6 yX6_decidesTurn yX6_decidesTurn, Cond.code yX6_decidesTurn cX6_decidesTurn 9 (some .boolean), Cond.constantFloat RX6 96 (914358272), Cond.methodLink RX6 77 yX6_fx, Cond.instanceMethod yX6_fx, Cond.selects RX6 yX6_fx yX6_fx, Cond.code yX6_fx cX6_fx 2 (some .float), Cond.constantFloat RX6 76 (1094713344), Cond.methodLink RX6 85 yX6_fy, Cond.instanceMethod yX6_fy, Cond.selects RX6 yX6_fy yX6_fy, Cond.code yX6_fy cX6_fy 2 (some .float), Cond.methodLink RX6 92 yX6_most, Cond.instanceMethod yX6_most, Cond.selects RX6 yX6_most yX6_most, Cond.code yX6_most cX6_most 4 (some .float), Cond.methodLink RX6 81 yX6_size_, Cond.static yX6_size_]
def wsL_law0_r13 : List Cond := [Cond.code yX6_size_ cX6_size_ 1 (some .float), Cond.methodLink RX6 88 yX6_greater, Cond.static yX6_greater, Cond.code yX6_greater cX6_greater 2 (some .float), Cond.methodLink RX6 58 yX6_turn, Cond.instanceMethod yX6_turn, Cond.selects RX6 yX6_turn yX6_turn, Cond.code yX6_turn cX6_turn 4 (some .int), Cond.methodLink RX6 54 yX6_signOf, Cond.static yX6_signOf, Cond.code yX6_signOf cX6_signOf 2 (some .int), Cond.methodLink RX6 115 yX6_counted, Cond.instanceMethod yX6_counted, Cond.selects RX6 yX6_counted yX6_counted, Cond.code yX6_counted cX6_counted 3 (some .int), Cond.fieldLink RX6 98 "OrderJudgeModel" "clear" "I", Cond.fieldLink RX6 101 "OrderJudgeModel" "unclear" "I", Cond.fieldLink RX6 104 "OrderJudgeModel" "nothing" "I", Cond.methodLink RL 65 yX5_circle, Cond.instanceMethod yX5_circle, Cond.selects RX5 yX5_circle yX5_circle, Cond.code yX5_circle cX5_circle 5 (some .int), Cond.methodLink RX5 117 yX3_decidesRing, Cond.instanceMethod yX3_decidesRing]
def wsL_law0_r14 : List Cond := [Cond.selects RX3 yX3_decidesRing yX3_decidesRing, Cond.code yX3_decidesRing cX3_decidesRing 16 (some .boolean), Cond.constantFloat RX3 46 (964689920), Cond.methodLink RX5 121 yX2_ring, Cond.instanceMethod yX2_ring, Cond.selects RX2 yX2_ring yX2_ring, Cond.code yX2_ring cX2_ring 19 (some .int), Cond.methodLink RX2 37 yX2_turn, Cond.methodLink RL 69 yX6_circle, Cond.instanceMethod yX6_circle, Cond.selects RX6 yX6_circle yX6_circle, Cond.code yX6_circle cX6_circle 5 (some .int), Cond.methodLink RX6 119 yX6_decidesRing, Cond.instanceMethod yX6_decidesRing, Cond.selects RX6 yX6_decidesRing yX6_decidesRing, Cond.code yX6_decidesRing cX6_decidesRing 17 (some .boolean), Cond.constantFloat RX6 97 (964689920), Cond.methodLink RX6 123 yX6_ring, Cond.instanceMethod yX6_ring, Cond.selects RX6 yX6_ring yX6_ring, Cond.code yX6_ring cX6_ring 23 (some .int), Cond.methodLink RL 70 yX5_filter, Cond.instanceMethod yX5_filter, Cond.selects RX5 yX5_filter yX5_filter]
def wsL_law0_r15 : List Cond := [Cond.code yX5_filter cX5_filter 3 (some .int), Cond.fieldLink RX5 125 "OrderJudge$QuickFilter" "on" "Z", Cond.methodLink RL 74 yX6_filter, Cond.instanceMethod yX6_filter, Cond.selects RX6 yX6_filter yX6_filter, Cond.code yX6_filter cX6_filter 3 (some .int), Cond.methodLink RL 75 yX5_decided, Cond.instanceMethod yX5_decided, Cond.selects RX5 yX5_decided yX5_decided, Cond.code yX5_decided cX5_decided 2 (some .int), Cond.fieldLink RX5 129 "OrderJudge$QuickFilter" "clear" "I", Cond.fieldLink RX5 133 "OrderJudge$QuickFilter" "unclear" "I", Cond.fieldLink RX5 136 "OrderJudge$QuickFilter" "zeros" "I", Cond.methodLink RL 78 yX6_decided, Cond.instanceMethod yX6_decided, Cond.selects RX6 yX6_decided yX6_decided, Cond.code yX6_decided cX6_decided 2 (some .int), Cond.methodLink RL 79 yX5_between, Cond.instanceMethod yX5_between, Cond.selects RX5 yX5_between yX5_between, Cond.code yX5_between cX5_between 4 (some .int), Cond.methodLink RX5 139 yX0_betweenness, Cond.instanceMethod yX0_betweenness, Cond.selects RX0 yX0_betweenness yX0_betweenness]
def wsL_law0_r16 : List Cond := [Cond.code yX0_betweenness cX0_betweenness 4 (some .int), Cond.methodLink RX0 15 yX2_equal, Cond.methodLink RX0 21 yX2_onSegment, Cond.instanceMethod yX2_onSegment, Cond.selects RX2 yX2_onSegment yX2_onSegment, Cond.code yX2_onSegment cX2_onSegment 4 (some .boolean), Cond.methodLink RX2 41 yX2_liesAmong, Cond.static yX2_liesAmong, Cond.code yX2_liesAmong cX2_liesAmong 3 (some .boolean), Cond.methodLink RX2 45 Lib.Math.min.name, Cond.static Lib.Math.min.name, Cond.initialized "java/lang/Math", Cond.code Lib.Math.min.name Lib.Math.min.code 2 (some .int), Cond.methodLink RX2 50 Lib.Math.max.name, Cond.static Lib.Math.max.name, Cond.code Lib.Math.max.name Lib.Math.max.code 2 (some .int), Cond.methodLink RL 82 yX6_between, Cond.instanceMethod yX6_between, Cond.selects RX6 yX6_between yX6_between, Cond.code yX6_between cX6_between 4 (some .int), Cond.methodLink RX6 131 yX6_isOn, Cond.instanceMethod yX6_isOn, Cond.selects RX6 yX6_isOn yX6_isOn, Cond.code yX6_isOn cX6_isOn 4 (some .boolean)]
def wsL_law0_r17 : List Cond := [Cond.methodLink RX6 127 yX6_along, Cond.instanceMethod yX6_along, Cond.selects RX6 yX6_along yX6_along, Cond.code yX6_along cX6_along 4 (some .long), Cond.methodLink RL 83 yX5_inside, Cond.instanceMethod yX5_inside, Cond.selects RX5 yX5_inside yX5_inside, Cond.code yX5_inside cX5_inside 5 (some .int), Cond.methodLink RX5 142 yX0_withinAngle, Cond.instanceMethod yX0_withinAngle, Cond.selects RX0 yX0_withinAngle yX0_withinAngle, Cond.code yX0_withinAngle cX0_withinAngle 9 (some .int), Cond.methodLink RX0 25 yX2_sameDirection, Cond.instanceMethod yX2_sameDirection, Cond.selects RX2 yX2_sameDirection yX2_sameDirection, Cond.code yX2_sameDirection cX2_sameDirection 6 (some .boolean), Cond.methodLink RX0 28 yX2_turn, Cond.methodLink RL 86 yX6_inside, Cond.instanceMethod yX6_inside, Cond.selects RX6 yX6_inside yX6_inside, Cond.code yX6_inside cX6_inside 6 (some .int), Cond.methodLink RX6 133 yX6_isOneWay, Cond.instanceMethod yX6_isOneWay, Cond.selects RX6 yX6_isOneWay yX6_isOneWay]
def wsL_law0_r18 : List Cond := [Cond.code yX6_isOneWay cX6_isOneWay 4 (some .boolean), Cond.methodLink RL 87 yX5_cross, Cond.instanceMethod yX5_cross, Cond.selects RX5 yX5_cross yX5_cross, Cond.code yX5_cross cX5_cross 5 (some .int), Cond.methodLink RX5 145 yX0_crossing, Cond.instanceMethod yX0_crossing, Cond.selects RX0 yX0_crossing yX0_crossing, Cond.code yX0_crossing cX0_crossing 9 (some .int), Cond.methodLink RX0 32 yX0_overlap, Cond.instanceMethod yX0_overlap, Cond.selects RX0 yX0_overlap yX0_overlap, Cond.code yX0_overlap cX0_overlap 8 (some .int), Cond.methodLink RX0 36 yX0_earlier, Cond.instanceMethod yX0_earlier, Cond.selects RX0 yX0_earlier yX0_earlier, Cond.code yX0_earlier cX0_earlier 3 (some .int), Cond.methodLink RX0 43 yX2_compare, Cond.methodLink RX0 40 yX0_later, Cond.instanceMethod yX0_later, Cond.selects RX0 yX0_later yX0_later, Cond.code yX0_later cX0_later 3 (some .int), Cond.methodLink RL 90 yX6_cross, Cond.instanceMethod yX6_cross]
def wsL_law0_r19 : List Cond := [Cond.selects RX6 yX6_cross yX6_cross, Cond.code yX6_cross cX6_cross 11 (some .int), Cond.methodLink RX6 136 yX6_common, Cond.instanceMethod yX6_common, Cond.selects RX6 yX6_common yX6_common, Cond.code yX6_common cX6_common 10 (some .int), Cond.methodLink RL 91 yX5_separated, Cond.instanceMethod yX5_separated, Cond.selects RX5 yX5_separated yX5_separated, Cond.code yX5_separated cX5_separated 5 (some .int), Cond.methodLink RX5 148 yX0_separation, Cond.instanceMethod yX0_separation, Cond.selects RX0 yX0_separation yX0_separation, Cond.code yX0_separation cX0_separation 7 (some .int), Cond.methodLink RX0 46 yX0_anyEqual, Cond.instanceMethod yX0_anyEqual, Cond.selects RX0 yX0_anyEqual yX0_anyEqual, Cond.code yX0_anyEqual cX0_anyEqual 5 (some .boolean), Cond.methodLink RX0 50 yX2_ring, Cond.methodLink RL 94 yX6_separated, Cond.instanceMethod yX6_separated, Cond.selects RX6 yX6_separated yX6_separated, Cond.code yX6_separated cX6_separated 7 (some .int), Cond.methodLink RL 95 yX5_convex]
def wsL_law0_r20 : List Cond := [Cond.instanceMethod yX5_convex, Cond.selects RX5 yX5_convex yX5_convex, Cond.code yX5_convex cX5_convex 3 (some .int), Cond.methodLink RX5 151 yX4_fault, Cond.instanceMethod yX4_fault, Cond.selects RX4 yX4_fault yX4_fault, Cond.code yX4_fault cX4_fault 4 (some .int), Cond.methodLink RX5 154 yX4_convexity, Cond.instanceMethod yX4_convexity, Cond.selects RX4 yX4_convexity yX4_convexity, Cond.code yX4_convexity cX4_convexity 5 (some .int), Cond.methodLink RX4 23 yX4_sideOfOther, Cond.instanceMethod yX4_sideOfOther, Cond.selects RX4 yX4_sideOfOther yX4_sideOfOther, Cond.code yX4_sideOfOther cX4_sideOfOther 5 (some .int), Cond.methodLink RX4 27 yX4_endOf, Cond.instanceMethod yX4_endOf, Cond.selects RX4 yX4_endOf yX4_endOf, Cond.code yX4_endOf cX4_endOf 3 (some .int), Cond.methodLink RX4 31 yX2_turn, Cond.methodLink RL 98 yX6_convex, Cond.instanceMethod yX6_convex, Cond.selects RX6 yX6_convex yX6_convex, Cond.code yX6_convex cX6_convex 8 (some .int)]
def wsL_law0_r21 : List Cond := [Cond.methodLink RX6 139 yX6_isMany, Cond.instanceMethod yX6_isMany, Cond.selects RX6 yX6_isMany yX6_isMany, Cond.code yX6_isMany cX6_isMany 3 (some .boolean), Cond.methodLink RX6 142 yX6_isWhole, Cond.instanceMethod yX6_isWhole, Cond.selects RX6 yX6_isWhole yX6_isWhole, Cond.code yX6_isWhole cX6_isWhole 4 (some .boolean), Cond.methodLink RX6 145 yX6_next, Cond.instanceMethod yX6_next, Cond.selects RX6 yX6_next yX6_next, Cond.code yX6_next cX6_next 3 (some .int), Cond.methodLink RL 99 yX5_polygon, Cond.instanceMethod yX5_polygon, Cond.selects RX5 yX5_polygon yX5_polygon, Cond.code yX5_polygon cX5_polygon 4 (some .int), Cond.methodLink RX5 157 yX4_anyEdgeHolds, Cond.instanceMethod yX4_anyEdgeHolds, Cond.selects RX4 yX4_anyEdgeHolds yX4_anyEdgeHolds, Cond.code yX4_anyEdgeHolds cX4_anyEdgeHolds 4 (some .boolean), Cond.methodLink RX4 36 yX2_onSegment, Cond.methodLink RX5 160 yX4_risesAt, Cond.instanceMethod yX4_risesAt, Cond.selects RX4 yX4_risesAt yX4_risesAt]
def wsL_law0_r22 : List Cond := [Cond.code yX4_risesAt cX4_risesAt 5 (some .int), Cond.methodLink RX4 40 yX4_climbsBeside, Cond.instanceMethod yX4_climbsBeside, Cond.selects RX4 yX4_climbsBeside yX4_climbsBeside, Cond.code yX4_climbsBeside cX4_climbsBeside 5 (some .boolean), Cond.fieldLink RX4 43 "OrderJudge$Points" "ys" "[I", Cond.methodLink RX5 163 yX4_fallsAt, Cond.instanceMethod yX4_fallsAt, Cond.selects RX4 yX4_fallsAt yX4_fallsAt, Cond.code yX4_fallsAt cX4_fallsAt 5 (some .int), Cond.methodLink RL 102 yX6_polygon, Cond.instanceMethod yX6_polygon, Cond.selects RX6 yX6_polygon yX6_polygon, Cond.code yX6_polygon cX6_polygon 5 (some .int), Cond.methodLink RX6 149 yX6_isOnEdge, Cond.instanceMethod yX6_isOnEdge, Cond.selects RX6 yX6_isOnEdge yX6_isOnEdge, Cond.code yX6_isOnEdge cX6_isOnEdge 5 (some .boolean), Cond.methodLink RX6 152 yX6_rises, Cond.instanceMethod yX6_rises, Cond.selects RX6 yX6_rises yX6_rises, Cond.code yX6_rises cX6_rises 8 (some .int), Cond.methodLink RL 103 yX5_winding, Cond.instanceMethod yX5_winding]
def wsL_law0_r23 : List Cond := [Cond.selects RX5 yX5_winding yX5_winding, Cond.code yX5_winding cX5_winding 3 (some .int), Cond.methodLink RL 106 yX6_winding, Cond.instanceMethod yX6_winding, Cond.selects RX6 yX6_winding yX6_winding, Cond.code yX6_winding cX6_winding 5 (some .int), Cond.methodLink RL 107 yX5_nearest, Cond.instanceMethod yX5_nearest, Cond.selects RX5 yX5_nearest yX5_nearest, Cond.code yX5_nearest cX5_nearest 4 (some .int), Cond.methodLink RX5 166 yX4_nearestBits, Cond.instanceMethod yX4_nearestBits, Cond.selects RX4 yX4_nearestBits yX4_nearestBits, Cond.code yX4_nearestBits cX4_nearestBits 9 (some .int), Cond.methodLink RX4 46 yX2_distance, Cond.instanceMethod yX2_distance, Cond.selects RX2 yX2_distance yX2_distance, Cond.code yX2_distance cX2_distance 7 (some .long), Cond.methodLink RL 110 yX6_nearest, Cond.instanceMethod yX6_nearest, Cond.selects RX6 yX6_nearest yX6_nearest, Cond.code yX6_nearest cX6_nearest 9 (some .int), Cond.methodLink RX6 155 yX6_far, Cond.instanceMethod yX6_far]
def wsL_law0_r24 : List Cond := [Cond.selects RX6 yX6_far yX6_far, Cond.code yX6_far cX6_far 3 (some .long), Cond.methodLink RL 111 yX5_around, Cond.instanceMethod yX5_around, Cond.selects RX5 yX5_around yX5_around, Cond.code yX5_around cX5_around 5 (some .int), Cond.methodLink RX5 169 yX4_placeRound, Cond.instanceMethod yX4_placeRound, Cond.selects RX4 yX4_placeRound yX4_placeRound, Cond.code yX4_placeRound cX4_placeRound 5 (some .int), Cond.methodLink RX4 50 yX4_aheadRound, Cond.instanceMethod yX4_aheadRound, Cond.selects RX4 yX4_aheadRound yX4_aheadRound, Cond.code yX4_aheadRound cX4_aheadRound 6 (some .int), Cond.methodLink RX4 53 yX4_compareRound, Cond.instanceMethod yX4_compareRound, Cond.selects RX4 yX4_compareRound yX4_compareRound, Cond.code yX4_compareRound cX4_compareRound 10 (some .int), Cond.methodLink RX4 56 yX4_partOfTurn, Cond.instanceMethod yX4_partOfTurn, Cond.selects RX4 yX4_partOfTurn yX4_partOfTurn, Cond.code yX4_partOfTurn cX4_partOfTurn 5 (some .int), Cond.fieldLink RX4 69 "OrderJudge$Points" "xs" "[I", Cond.methodLink RX4 59 yJ6_compare_7cf53]
def wsL_law0_r25 : List Cond := [Cond.methodLink RX4 64 yJ13_compare_74951, Cond.methodLink RL 114 yX6_around, Cond.instanceMethod yX6_around, Cond.selects RX6 yX6_around yX6_around, Cond.code yX6_around cX6_around 8 (some .int), Cond.methodLink RX6 162 yX6_isAhead, Cond.instanceMethod yX6_isAhead, Cond.selects RX6 yX6_isAhead yX6_isAhead, Cond.code yX6_isAhead cX6_isAhead 9 (some .boolean), Cond.methodLink RX6 159 yX6_half, Cond.instanceMethod yX6_half, Cond.selects RX6 yX6_half yX6_half, Cond.code yX6_half cX6_half 3 (some .int), Cond.methodLink RL 115 yX5_order, Cond.instanceMethod yX5_order, Cond.selects RX5 yX5_order yX5_order, Cond.code yX5_order cX5_order 4 (some .int), Cond.methodLink RX5 172 yX4_placeAlong, Cond.instanceMethod yX4_placeAlong, Cond.selects RX4 yX4_placeAlong yX4_placeAlong, Cond.code yX4_placeAlong cX4_placeAlong 4 (some .int), Cond.methodLink RX4 72 yX4_aheadAlong, Cond.instanceMethod yX4_aheadAlong, Cond.selects RX4 yX4_aheadAlong yX4_aheadAlong]
def wsL_law0_r26 : List Cond := [Cond.code yX4_aheadAlong cX4_aheadAlong 5 (some .int), Cond.methodLink RX4 75 yX4_compareAlong, Cond.instanceMethod yX4_compareAlong, Cond.selects RX4 yX4_compareAlong yX4_compareAlong, Cond.code yX4_compareAlong cX4_compareAlong 4 (some .int), Cond.methodLink RX4 78 yX2_compare, Cond.methodLink RL 118 yX6_order, Cond.instanceMethod yX6_order, Cond.selects RX6 yX6_order yX6_order, Cond.code yX6_order cX6_order 7 (some .int), Cond.methodLink RX6 165 yX6_isLess, Cond.instanceMethod yX6_isLess, Cond.selects RX6 yX6_isLess yX6_isLess, Cond.code yX6_isLess cX6_isLess 5 (some .boolean), Cond.methodLink RL 119 yL_area, Cond.static yL_area, Cond.codeWith yL_area cL_area 6 (some .int) [(0, 10, 13, 30)], Cond.classLink RL 30 "java/lang/ArithmeticException", Cond.methodLink RL 26 yX5_area, Cond.instanceMethod yX5_area, Cond.selects RX5 yX5_area yX5_area, Cond.code yX5_area cX5_area 4 (some .long), Cond.classLink RX5 175 "java/lang/ArithmeticException", Cond.initialized "java/lang/ArithmeticException"]
def wsL_law0_r27 : List Cond := [Cond.methodLink RX5 180 yX4_crossSum, Cond.instanceMethod yX4_crossSum, Cond.selects RX4 yX4_crossSum yX4_crossSum, Cond.code yX4_crossSum cX4_crossSum 7 (some .long), Cond.methodLink RL 122 yX6_area, Cond.instanceMethod yX6_area, Cond.selects RX6 yX6_area yX6_area, Cond.code yX6_area cX6_area 9 (some .long), Cond.methodLink RL 123 yX5_line, Cond.instanceMethod yX5_line, Cond.selects RX5 yX5_line yX5_line, Cond.code yX5_line cX5_line 3 (some .int), Cond.methodLink RX5 184 yX1_add, Cond.instanceMethod yX1_add, Cond.selects RX1 yX1_add yX1_add, Cond.code yX1_add cX1_add 3 (some .int), Cond.fieldLink RX1 45 "OrderJudge$Points" "ys" "[I", Cond.fieldLink RX1 50 "OrderJudge$Points" "xs" "[I", Cond.methodLink RL 126 yX6_line, Cond.instanceMethod yX6_line, Cond.selects RX6 yX6_line yX6_line, Cond.code yX6_line cX6_line 3 (some .int), Cond.fieldLink RX6 168 "OrderJudgeModel" "lines" "I", Cond.methodLink RL 127 yX5_lines]
def wsL_law0_r28 : List Cond := [Cond.instanceMethod yX5_lines, Cond.selects RX5 yX5_lines yX5_lines, Cond.code yX5_lines cX5_lines 3 (some .int), Cond.fieldLink RX5 185 "OrderJudge$LineSet" "held" "I", Cond.fieldLink RX5 192 "OrderJudge$LineSet" "different" "I", Cond.fieldLink RX5 195 "OrderJudge$LineSet" "meets" "I", Cond.fieldLink RX5 208 "OrderJudge$LineSet" "mostThrough" "I", Cond.methodLink RX5 188 yX1_survey, Cond.instanceMethod yX1_survey, Cond.selects RX1 yX1_survey yX1_survey, Cond.code yX1_survey cX1_survey 5 none, Cond.methodLink RX1 61 Lib.Math.max.name, Cond.methodLink RX1 53 yX1_keepDifferent, Cond.instanceMethod yX1_keepDifferent, Cond.selects RX1 yX1_keepDifferent yX1_keepDifferent, Cond.code yX1_keepDifferent cX1_keepDifferent 3 none, Cond.methodLink RX1 70 yX1_isNew, Cond.instanceMethod yX1_isNew, Cond.selects RX1 yX1_isNew yX1_isNew, Cond.code yX1_isNew cX1_isNew 3 (some .boolean), Cond.methodLink RX1 74 yX1_same, Cond.instanceMethod yX1_same, Cond.selects RX1 yX1_same yX1_same, Cond.code yX1_same cX1_same 3 (some .boolean)]
def wsL_law0_r29 : List Cond := [Cond.methodLink RX1 78 yX1_slant, Cond.instanceMethod yX1_slant, Cond.selects RX1 yX1_slant yX1_slant, Cond.code yX1_slant cX1_slant 3 (some .long), Cond.methodLink RX1 57 yX1_throughMeet, Cond.instanceMethod yX1_throughMeet, Cond.selects RX1 yX1_throughMeet yX1_throughMeet, Cond.code yX1_throughMeet cX1_throughMeet 5 (some .int), Cond.methodLink RX1 82 yX1_concurrent, Cond.instanceMethod yX1_concurrent, Cond.selects RX1 yX1_concurrent yX1_concurrent, Cond.code yX1_concurrent cX1_concurrent 8 (some .boolean), Cond.methodLink RX5 198 yX1_cells, Cond.instanceMethod yX1_cells, Cond.selects RX1 yX1_cells yX1_cells, Cond.code yX1_cells cX1_cells 1 (some .int), Cond.methodLink RX5 202 yX1_pieces, Cond.instanceMethod yX1_pieces, Cond.selects RX1 yX1_pieces yX1_pieces, Cond.code yX1_pieces cX1_pieces 1 (some .int), Cond.methodLink RX5 205 yX1_closedCells, Cond.instanceMethod yX1_closedCells, Cond.selects RX1 yX1_closedCells yX1_closedCells, Cond.code yX1_closedCells cX1_closedCells 1 (some .int)]
def wsL_law0_r30 : List Cond := [Cond.methodLink RX1 66 yX1_cells, Cond.methodLink RL 130 yX6_lines, Cond.instanceMethod yX6_lines, Cond.selects RX6 yX6_lines yX6_lines, Cond.code yX6_lines cX6_lines 14 (some .int), Cond.methodLink RX6 177 yX6_isNew, Cond.instanceMethod yX6_isNew, Cond.selects RX6 yX6_isNew yX6_isNew, Cond.code yX6_isNew cX6_isNew 4 (some .boolean), Cond.methodLink RX6 174 yX6_isOne, Cond.instanceMethod yX6_isOne, Cond.selects RX6 yX6_isOne yX6_isOne, Cond.code yX6_isOne cX6_isOne 3 (some .boolean), Cond.methodLink RX6 171 yX6_both, Cond.instanceMethod yX6_both, Cond.selects RX6 yX6_both yX6_both, Cond.code yX6_both cX6_both 3 (some .long), Cond.methodLink RX6 180 yX6_isThrough, Cond.instanceMethod yX6_isThrough, Cond.selects RX6 yX6_isThrough yX6_isThrough, Cond.code yX6_isThrough cX6_isThrough 8 (some .boolean), Cond.methodLink RL 131 yX5_count, Cond.instanceMethod yX5_count, Cond.selects RX5 yX5_count yX5_count]
def wsL_law0_r31 : List Cond := [Cond.code yX5_count cX5_count 2 (some .int), Cond.fieldLink RX5 211 "OrderJudge$Points" "held" "I", Cond.fieldLink RX5 212 "OrderJudge$Row" "held" "I", Cond.methodLink RL 134 yX6_count, Cond.instanceMethod yX6_count, Cond.selects RX6 yX6_count yX6_count, Cond.code yX6_count cX6_count 2 (some .int)]
def lw_G : List Cond := wsL_law0_r1 ++ (wsL_law0_r2 ++ (wsL_law0_r3 ++ (wsL_law0_r4 ++ (wsL_law0_r5 ++ (wsL_law0_r6 ++ (wsL_law0_r7 ++ (wsL_law0_r8 ++ (wsL_law0_r9 ++ (wsL_law0_r10 ++ (wsL_law0_r11 ++ (wsL_law0_r12 ++ (wsL_law0_r13 ++ (wsL_law0_r14 ++ (wsL_law0_r15 ++ (wsL_law0_r16 ++ (wsL_law0_r17 ++ (wsL_law0_r18 ++ (wsL_law0_r19 ++ (wsL_law0_r20 ++ (wsL_law0_r21 ++ (wsL_law0_r22 ++ (wsL_law0_r23 ++ (wsL_law0_r24 ++ (wsL_law0_r25 ++ (wsL_law0_r26 ++ (wsL_law0_r27 ++ (wsL_law0_r28 ++ (wsL_law0_r29 ++ (wsL_law0_r30 ++ (wsL_law0_r31 ++ (wsX50 ++ (wsX60 ++ (wsX20 ++ (wsX30 ++ (wsX00 ++ (wsX40 ++ (wsX10 ++ (wsJxde1cd0 ++ (wsJx000600 ++ (wsJx5d7770))))))))))))))))))))))))))))))))))))))))
theorem gI_wsL_law0_r1 {w : Cond} (h : w ∈ wsL_law0_r1) : w ∈ lw_G := List.mem_append_left _ h
theorem gI_wsL_law0_r2 {w : Cond} (h : w ∈ wsL_law0_r2) : w ∈ lw_G := List.mem_append_right _ (List.mem_append_left _ h)
theorem gI_wsL_law0_r3 {w : Cond} (h : w ∈ wsL_law0_r3) : w ∈ lw_G := List.mem_append_right _ (List.mem_append_right _ (List.mem_append_left _ h))
theorem gI_wsL_law0_r4 {w : Cond} (h : w ∈ wsL_law0_r4) : w ∈ lw_G := List.mem_append_right _ (List.mem_append_right _ (List.mem_append_right _ (List.mem_append_left _ h)))
theorem gI_wsL_law0_r5 {w : Cond} (h : w ∈ wsL_law0_r5) : w ∈ lw_G := List.mem_append_right _ (List.mem_append_right _ (List.mem_append_right _ (List.mem_append_right _ (List.mem_append_left _ h))))
theorem gI_wsL_law0_r6 {w : Cond} (h : w ∈ wsL_law0_r6) : w ∈ lw_G := List.mem_append_right _ (List.mem_append_right _ (List.mem_append_right _ (List.mem_append_right _ (List.mem_append_right _ (List.mem_append_left _ h)))))
theorem gI_wsL_law0_r7 {w : Cond} (h : w ∈ wsL_law0_r7) : w ∈ lw_G := List.mem_append_right _ (List.mem_append_right _ (List.mem_append_right _ (List.mem_append_right _ (List.mem_append_right _ (List.mem_append_right _ (List.mem_append_left _ h))))))
theorem gI_wsL_law0_r8 {w : Cond} (h : w ∈ wsL_law0_r8) : w ∈ lw_G := List.mem_append_right _ (List.mem_append_right _ (List.mem_append_right _ (List.mem_append_right _ (List.mem_append_right _ (List.mem_append_right _ (List.mem_append_right _ (List.mem_append_left _ h)))))))
theorem gI_wsL_law0_r9 {w : Cond} (h : w ∈ wsL_law0_r9) : w ∈ lw_G := List.mem_append_right _ (List.mem_append_right _ (List.mem_append_right _ (List.mem_append_right _ (List.mem_append_right _ (List.mem_append_right _ (List.mem_append_right _ (List.mem_append_right _ (List.mem_append_left _ h))))))))
theorem gI_wsL_law0_r10 {w : Cond} (h : w ∈ wsL_law0_r10) : w ∈ lw_G := List.mem_append_right _ (List.mem_append_right _ (List.mem_append_right _ (List.mem_append_right _ (List.mem_append_right _ (List.mem_append_right _ (List.mem_append_right _ (List.mem_append_right _ (List.mem_append_right _ (List.mem_append_left _ h)))))))))
theorem gI_wsL_law0_r11 {w : Cond} (h : w ∈ wsL_law0_r11) : w ∈ lw_G := List.mem_append_right _ (List.mem_append_right _ (List.mem_append_right _ (List.mem_append_right _ (List.mem_append_right _ (List.mem_append_right _ (List.mem_append_right _ (List.mem_append_right _ (List.mem_append_right _ (List.mem_append_right _ (List.mem_append_left _ h))))))))))
theorem gI_wsL_law0_r12 {w : Cond} (h : w ∈ wsL_law0_r12) : w ∈ lw_G := List.mem_append_right _ (List.mem_append_right _ (List.mem_append_right _ (List.mem_append_right _ (List.mem_append_right _ (List.mem_append_right _ (List.mem_append_right _ (List.mem_append_right _ (List.mem_append_right _ (List.mem_append_right _ (List.mem_append_right _ (List.mem_append_left _ h)))))))))))
theorem gI_wsL_law0_r13 {w : Cond} (h : w ∈ wsL_law0_r13) : w ∈ lw_G := List.mem_append_right _ (List.mem_append_right _ (List.mem_append_right _ (List.mem_append_right _ (List.mem_append_right _ (List.mem_append_right _ (List.mem_append_right _ (List.mem_append_right _ (List.mem_append_right _ (List.mem_append_right _ (List.mem_append_right _ (List.mem_append_right _ (List.mem_append_left _ h))))))))))))
theorem gI_wsL_law0_r14 {w : Cond} (h : w ∈ wsL_law0_r14) : w ∈ lw_G := List.mem_append_right _ (List.mem_append_right _ (List.mem_append_right _ (List.mem_append_right _ (List.mem_append_right _ (List.mem_append_right _ (List.mem_append_right _ (List.mem_append_right _ (List.mem_append_right _ (List.mem_append_right _ (List.mem_append_right _ (List.mem_append_right _ (List.mem_append_right _ (List.mem_append_left _ h)))))))))))))
theorem gI_wsL_law0_r15 {w : Cond} (h : w ∈ wsL_law0_r15) : w ∈ lw_G := List.mem_append_right _ (List.mem_append_right _ (List.mem_append_right _ (List.mem_append_right _ (List.mem_append_right _ (List.mem_append_right _ (List.mem_append_right _ (List.mem_append_right _ (List.mem_append_right _ (List.mem_append_right _ (List.mem_append_right _ (List.mem_append_right _ (List.mem_append_right _ (List.mem_append_right _ (List.mem_append_left _ h))))))))))))))
theorem gI_wsL_law0_r16 {w : Cond} (h : w ∈ wsL_law0_r16) : w ∈ lw_G := List.mem_append_right _ (List.mem_append_right _ (List.mem_append_right _ (List.mem_append_right _ (List.mem_append_right _ (List.mem_append_right _ (List.mem_append_right _ (List.mem_append_right _ (List.mem_append_right _ (List.mem_append_right _ (List.mem_append_right _ (List.mem_append_right _ (List.mem_append_right _ (List.mem_append_right _ (List.mem_append_right _ (List.mem_append_left _ h)))))))))))))))
theorem gI_wsL_law0_r17 {w : Cond} (h : w ∈ wsL_law0_r17) : w ∈ lw_G := List.mem_append_right _ (List.mem_append_right _ (List.mem_append_right _ (List.mem_append_right _ (List.mem_append_right _ (List.mem_append_right _ (List.mem_append_right _ (List.mem_append_right _ (List.mem_append_right _ (List.mem_append_right _ (List.mem_append_right _ (List.mem_append_right _ (List.mem_append_right _ (List.mem_append_right _ (List.mem_append_right _ (List.mem_append_right _ (List.mem_append_left _ h))))))))))))))))
theorem gI_wsL_law0_r18 {w : Cond} (h : w ∈ wsL_law0_r18) : w ∈ lw_G := List.mem_append_right _ (List.mem_append_right _ (List.mem_append_right _ (List.mem_append_right _ (List.mem_append_right _ (List.mem_append_right _ (List.mem_append_right _ (List.mem_append_right _ (List.mem_append_right _ (List.mem_append_right _ (List.mem_append_right _ (List.mem_append_right _ (List.mem_append_right _ (List.mem_append_right _ (List.mem_append_right _ (List.mem_append_right _ (List.mem_append_right _ (List.mem_append_left _ h)))))))))))))))))
theorem gI_wsL_law0_r19 {w : Cond} (h : w ∈ wsL_law0_r19) : w ∈ lw_G := List.mem_append_right _ (List.mem_append_right _ (List.mem_append_right _ (List.mem_append_right _ (List.mem_append_right _ (List.mem_append_right _ (List.mem_append_right _ (List.mem_append_right _ (List.mem_append_right _ (List.mem_append_right _ (List.mem_append_right _ (List.mem_append_right _ (List.mem_append_right _ (List.mem_append_right _ (List.mem_append_right _ (List.mem_append_right _ (List.mem_append_right _ (List.mem_append_right _ (List.mem_append_left _ h))))))))))))))))))
theorem gI_wsL_law0_r20 {w : Cond} (h : w ∈ wsL_law0_r20) : w ∈ lw_G := List.mem_append_right _ (List.mem_append_right _ (List.mem_append_right _ (List.mem_append_right _ (List.mem_append_right _ (List.mem_append_right _ (List.mem_append_right _ (List.mem_append_right _ (List.mem_append_right _ (List.mem_append_right _ (List.mem_append_right _ (List.mem_append_right _ (List.mem_append_right _ (List.mem_append_right _ (List.mem_append_right _ (List.mem_append_right _ (List.mem_append_right _ (List.mem_append_right _ (List.mem_append_right _ (List.mem_append_left _ h)))))))))))))))))))
theorem gI_wsL_law0_r21 {w : Cond} (h : w ∈ wsL_law0_r21) : w ∈ lw_G := List.mem_append_right _ (List.mem_append_right _ (List.mem_append_right _ (List.mem_append_right _ (List.mem_append_right _ (List.mem_append_right _ (List.mem_append_right _ (List.mem_append_right _ (List.mem_append_right _ (List.mem_append_right _ (List.mem_append_right _ (List.mem_append_right _ (List.mem_append_right _ (List.mem_append_right _ (List.mem_append_right _ (List.mem_append_right _ (List.mem_append_right _ (List.mem_append_right _ (List.mem_append_right _ (List.mem_append_right _ (List.mem_append_left _ h))))))))))))))))))))
theorem gI_wsL_law0_r22 {w : Cond} (h : w ∈ wsL_law0_r22) : w ∈ lw_G := List.mem_append_right _ (List.mem_append_right _ (List.mem_append_right _ (List.mem_append_right _ (List.mem_append_right _ (List.mem_append_right _ (List.mem_append_right _ (List.mem_append_right _ (List.mem_append_right _ (List.mem_append_right _ (List.mem_append_right _ (List.mem_append_right _ (List.mem_append_right _ (List.mem_append_right _ (List.mem_append_right _ (List.mem_append_right _ (List.mem_append_right _ (List.mem_append_right _ (List.mem_append_right _ (List.mem_append_right _ (List.mem_append_right _ (List.mem_append_left _ h)))))))))))))))))))))
theorem gI_wsL_law0_r23 {w : Cond} (h : w ∈ wsL_law0_r23) : w ∈ lw_G := List.mem_append_right _ (List.mem_append_right _ (List.mem_append_right _ (List.mem_append_right _ (List.mem_append_right _ (List.mem_append_right _ (List.mem_append_right _ (List.mem_append_right _ (List.mem_append_right _ (List.mem_append_right _ (List.mem_append_right _ (List.mem_append_right _ (List.mem_append_right _ (List.mem_append_right _ (List.mem_append_right _ (List.mem_append_right _ (List.mem_append_right _ (List.mem_append_right _ (List.mem_append_right _ (List.mem_append_right _ (List.mem_append_right _ (List.mem_append_right _ (List.mem_append_left _ h))))))))))))))))))))))
theorem gI_wsL_law0_r24 {w : Cond} (h : w ∈ wsL_law0_r24) : w ∈ lw_G := List.mem_append_right _ (List.mem_append_right _ (List.mem_append_right _ (List.mem_append_right _ (List.mem_append_right _ (List.mem_append_right _ (List.mem_append_right _ (List.mem_append_right _ (List.mem_append_right _ (List.mem_append_right _ (List.mem_append_right _ (List.mem_append_right _ (List.mem_append_right _ (List.mem_append_right _ (List.mem_append_right _ (List.mem_append_right _ (List.mem_append_right _ (List.mem_append_right _ (List.mem_append_right _ (List.mem_append_right _ (List.mem_append_right _ (List.mem_append_right _ (List.mem_append_right _ (List.mem_append_left _ h)))))))))))))))))))))))
theorem gI_wsL_law0_r25 {w : Cond} (h : w ∈ wsL_law0_r25) : w ∈ lw_G := List.mem_append_right _ (List.mem_append_right _ (List.mem_append_right _ (List.mem_append_right _ (List.mem_append_right _ (List.mem_append_right _ (List.mem_append_right _ (List.mem_append_right _ (List.mem_append_right _ (List.mem_append_right _ (List.mem_append_right _ (List.mem_append_right _ (List.mem_append_right _ (List.mem_append_right _ (List.mem_append_right _ (List.mem_append_right _ (List.mem_append_right _ (List.mem_append_right _ (List.mem_append_right _ (List.mem_append_right _ (List.mem_append_right _ (List.mem_append_right _ (List.mem_append_right _ (List.mem_append_right _ (List.mem_append_left _ h))))))))))))))))))))))))
theorem gI_wsL_law0_r26 {w : Cond} (h : w ∈ wsL_law0_r26) : w ∈ lw_G := List.mem_append_right _ (List.mem_append_right _ (List.mem_append_right _ (List.mem_append_right _ (List.mem_append_right _ (List.mem_append_right _ (List.mem_append_right _ (List.mem_append_right _ (List.mem_append_right _ (List.mem_append_right _ (List.mem_append_right _ (List.mem_append_right _ (List.mem_append_right _ (List.mem_append_right _ (List.mem_append_right _ (List.mem_append_right _ (List.mem_append_right _ (List.mem_append_right _ (List.mem_append_right _ (List.mem_append_right _ (List.mem_append_right _ (List.mem_append_right _ (List.mem_append_right _ (List.mem_append_right _ (List.mem_append_right _ (List.mem_append_left _ h)))))))))))))))))))))))))
theorem gI_wsL_law0_r27 {w : Cond} (h : w ∈ wsL_law0_r27) : w ∈ lw_G := List.mem_append_right _ (List.mem_append_right _ (List.mem_append_right _ (List.mem_append_right _ (List.mem_append_right _ (List.mem_append_right _ (List.mem_append_right _ (List.mem_append_right _ (List.mem_append_right _ (List.mem_append_right _ (List.mem_append_right _ (List.mem_append_right _ (List.mem_append_right _ (List.mem_append_right _ (List.mem_append_right _ (List.mem_append_right _ (List.mem_append_right _ (List.mem_append_right _ (List.mem_append_right _ (List.mem_append_right _ (List.mem_append_right _ (List.mem_append_right _ (List.mem_append_right _ (List.mem_append_right _ (List.mem_append_right _ (List.mem_append_right _ (List.mem_append_left _ h))))))))))))))))))))))))))
theorem gI_wsL_law0_r28 {w : Cond} (h : w ∈ wsL_law0_r28) : w ∈ lw_G := List.mem_append_right _ (List.mem_append_right _ (List.mem_append_right _ (List.mem_append_right _ (List.mem_append_right _ (List.mem_append_right _ (List.mem_append_right _ (List.mem_append_right _ (List.mem_append_right _ (List.mem_append_right _ (List.mem_append_right _ (List.mem_append_right _ (List.mem_append_right _ (List.mem_append_right _ (List.mem_append_right _ (List.mem_append_right _ (List.mem_append_right _ (List.mem_append_right _ (List.mem_append_right _ (List.mem_append_right _ (List.mem_append_right _ (List.mem_append_right _ (List.mem_append_right _ (List.mem_append_right _ (List.mem_append_right _ (List.mem_append_right _ (List.mem_append_right _ (List.mem_append_left _ h)))))))))))))))))))))))))))
theorem gI_wsL_law0_r29 {w : Cond} (h : w ∈ wsL_law0_r29) : w ∈ lw_G := List.mem_append_right _ (List.mem_append_right _ (List.mem_append_right _ (List.mem_append_right _ (List.mem_append_right _ (List.mem_append_right _ (List.mem_append_right _ (List.mem_append_right _ (List.mem_append_right _ (List.mem_append_right _ (List.mem_append_right _ (List.mem_append_right _ (List.mem_append_right _ (List.mem_append_right _ (List.mem_append_right _ (List.mem_append_right _ (List.mem_append_right _ (List.mem_append_right _ (List.mem_append_right _ (List.mem_append_right _ (List.mem_append_right _ (List.mem_append_right _ (List.mem_append_right _ (List.mem_append_right _ (List.mem_append_right _ (List.mem_append_right _ (List.mem_append_right _ (List.mem_append_right _ (List.mem_append_left _ h))))))))))))))))))))))))))))
theorem gI_wsL_law0_r30 {w : Cond} (h : w ∈ wsL_law0_r30) : w ∈ lw_G := List.mem_append_right _ (List.mem_append_right _ (List.mem_append_right _ (List.mem_append_right _ (List.mem_append_right _ (List.mem_append_right _ (List.mem_append_right _ (List.mem_append_right _ (List.mem_append_right _ (List.mem_append_right _ (List.mem_append_right _ (List.mem_append_right _ (List.mem_append_right _ (List.mem_append_right _ (List.mem_append_right _ (List.mem_append_right _ (List.mem_append_right _ (List.mem_append_right _ (List.mem_append_right _ (List.mem_append_right _ (List.mem_append_right _ (List.mem_append_right _ (List.mem_append_right _ (List.mem_append_right _ (List.mem_append_right _ (List.mem_append_right _ (List.mem_append_right _ (List.mem_append_right _ (List.mem_append_right _ (List.mem_append_left _ h)))))))))))))))))))))))))))))
theorem gI_wsL_law0_r31 {w : Cond} (h : w ∈ wsL_law0_r31) : w ∈ lw_G := List.mem_append_right _ (List.mem_append_right _ (List.mem_append_right _ (List.mem_append_right _ (List.mem_append_right _ (List.mem_append_right _ (List.mem_append_right _ (List.mem_append_right _ (List.mem_append_right _ (List.mem_append_right _ (List.mem_append_right _ (List.mem_append_right _ (List.mem_append_right _ (List.mem_append_right _ (List.mem_append_right _ (List.mem_append_right _ (List.mem_append_right _ (List.mem_append_right _ (List.mem_append_right _ (List.mem_append_right _ (List.mem_append_right _ (List.mem_append_right _ (List.mem_append_right _ (List.mem_append_right _ (List.mem_append_right _ (List.mem_append_right _ (List.mem_append_right _ (List.mem_append_right _ (List.mem_append_right _ (List.mem_append_right _ (List.mem_append_left _ h))))))))))))))))))))))))))))))
theorem gI_wsX50 {w : Cond} (h : w ∈ wsX50) : w ∈ lw_G := List.mem_append_right _ (List.mem_append_right _ (List.mem_append_right _ (List.mem_append_right _ (List.mem_append_right _ (List.mem_append_right _ (List.mem_append_right _ (List.mem_append_right _ (List.mem_append_right _ (List.mem_append_right _ (List.mem_append_right _ (List.mem_append_right _ (List.mem_append_right _ (List.mem_append_right _ (List.mem_append_right _ (List.mem_append_right _ (List.mem_append_right _ (List.mem_append_right _ (List.mem_append_right _ (List.mem_append_right _ (List.mem_append_right _ (List.mem_append_right _ (List.mem_append_right _ (List.mem_append_right _ (List.mem_append_right _ (List.mem_append_right _ (List.mem_append_right _ (List.mem_append_right _ (List.mem_append_right _ (List.mem_append_right _ (List.mem_append_right _ (List.mem_append_left _ h)))))))))))))))))))))))))))))))
theorem gI_wsX60 {w : Cond} (h : w ∈ wsX60) : w ∈ lw_G := List.mem_append_right _ (List.mem_append_right _ (List.mem_append_right _ (List.mem_append_right _ (List.mem_append_right _ (List.mem_append_right _ (List.mem_append_right _ (List.mem_append_right _ (List.mem_append_right _ (List.mem_append_right _ (List.mem_append_right _ (List.mem_append_right _ (List.mem_append_right _ (List.mem_append_right _ (List.mem_append_right _ (List.mem_append_right _ (List.mem_append_right _ (List.mem_append_right _ (List.mem_append_right _ (List.mem_append_right _ (List.mem_append_right _ (List.mem_append_right _ (List.mem_append_right _ (List.mem_append_right _ (List.mem_append_right _ (List.mem_append_right _ (List.mem_append_right _ (List.mem_append_right _ (List.mem_append_right _ (List.mem_append_right _ (List.mem_append_right _ (List.mem_append_right _ (List.mem_append_left _ h))))))))))))))))))))))))))))))))
theorem gI_wsX20 {w : Cond} (h : w ∈ wsX20) : w ∈ lw_G := List.mem_append_right _ (List.mem_append_right _ (List.mem_append_right _ (List.mem_append_right _ (List.mem_append_right _ (List.mem_append_right _ (List.mem_append_right _ (List.mem_append_right _ (List.mem_append_right _ (List.mem_append_right _ (List.mem_append_right _ (List.mem_append_right _ (List.mem_append_right _ (List.mem_append_right _ (List.mem_append_right _ (List.mem_append_right _ (List.mem_append_right _ (List.mem_append_right _ (List.mem_append_right _ (List.mem_append_right _ (List.mem_append_right _ (List.mem_append_right _ (List.mem_append_right _ (List.mem_append_right _ (List.mem_append_right _ (List.mem_append_right _ (List.mem_append_right _ (List.mem_append_right _ (List.mem_append_right _ (List.mem_append_right _ (List.mem_append_right _ (List.mem_append_right _ (List.mem_append_right _ (List.mem_append_left _ h)))))))))))))))))))))))))))))))))
theorem gI_wsX30 {w : Cond} (h : w ∈ wsX30) : w ∈ lw_G := List.mem_append_right _ (List.mem_append_right _ (List.mem_append_right _ (List.mem_append_right _ (List.mem_append_right _ (List.mem_append_right _ (List.mem_append_right _ (List.mem_append_right _ (List.mem_append_right _ (List.mem_append_right _ (List.mem_append_right _ (List.mem_append_right _ (List.mem_append_right _ (List.mem_append_right _ (List.mem_append_right _ (List.mem_append_right _ (List.mem_append_right _ (List.mem_append_right _ (List.mem_append_right _ (List.mem_append_right _ (List.mem_append_right _ (List.mem_append_right _ (List.mem_append_right _ (List.mem_append_right _ (List.mem_append_right _ (List.mem_append_right _ (List.mem_append_right _ (List.mem_append_right _ (List.mem_append_right _ (List.mem_append_right _ (List.mem_append_right _ (List.mem_append_right _ (List.mem_append_right _ (List.mem_append_right _ (List.mem_append_left _ h))))))))))))))))))))))))))))))))))
theorem gI_wsX00 {w : Cond} (h : w ∈ wsX00) : w ∈ lw_G := List.mem_append_right _ (List.mem_append_right _ (List.mem_append_right _ (List.mem_append_right _ (List.mem_append_right _ (List.mem_append_right _ (List.mem_append_right _ (List.mem_append_right _ (List.mem_append_right _ (List.mem_append_right _ (List.mem_append_right _ (List.mem_append_right _ (List.mem_append_right _ (List.mem_append_right _ (List.mem_append_right _ (List.mem_append_right _ (List.mem_append_right _ (List.mem_append_right _ (List.mem_append_right _ (List.mem_append_right _ (List.mem_append_right _ (List.mem_append_right _ (List.mem_append_right _ (List.mem_append_right _ (List.mem_append_right _ (List.mem_append_right _ (List.mem_append_right _ (List.mem_append_right _ (List.mem_append_right _ (List.mem_append_right _ (List.mem_append_right _ (List.mem_append_right _ (List.mem_append_right _ (List.mem_append_right _ (List.mem_append_right _ (List.mem_append_left _ h)))))))))))))))))))))))))))))))))))
theorem gI_wsX40 {w : Cond} (h : w ∈ wsX40) : w ∈ lw_G := List.mem_append_right _ (List.mem_append_right _ (List.mem_append_right _ (List.mem_append_right _ (List.mem_append_right _ (List.mem_append_right _ (List.mem_append_right _ (List.mem_append_right _ (List.mem_append_right _ (List.mem_append_right _ (List.mem_append_right _ (List.mem_append_right _ (List.mem_append_right _ (List.mem_append_right _ (List.mem_append_right _ (List.mem_append_right _ (List.mem_append_right _ (List.mem_append_right _ (List.mem_append_right _ (List.mem_append_right _ (List.mem_append_right _ (List.mem_append_right _ (List.mem_append_right _ (List.mem_append_right _ (List.mem_append_right _ (List.mem_append_right _ (List.mem_append_right _ (List.mem_append_right _ (List.mem_append_right _ (List.mem_append_right _ (List.mem_append_right _ (List.mem_append_right _ (List.mem_append_right _ (List.mem_append_right _ (List.mem_append_right _ (List.mem_append_right _ (List.mem_append_left _ h))))))))))))))))))))))))))))))))))))
theorem gI_wsX10 {w : Cond} (h : w ∈ wsX10) : w ∈ lw_G := List.mem_append_right _ (List.mem_append_right _ (List.mem_append_right _ (List.mem_append_right _ (List.mem_append_right _ (List.mem_append_right _ (List.mem_append_right _ (List.mem_append_right _ (List.mem_append_right _ (List.mem_append_right _ (List.mem_append_right _ (List.mem_append_right _ (List.mem_append_right _ (List.mem_append_right _ (List.mem_append_right _ (List.mem_append_right _ (List.mem_append_right _ (List.mem_append_right _ (List.mem_append_right _ (List.mem_append_right _ (List.mem_append_right _ (List.mem_append_right _ (List.mem_append_right _ (List.mem_append_right _ (List.mem_append_right _ (List.mem_append_right _ (List.mem_append_right _ (List.mem_append_right _ (List.mem_append_right _ (List.mem_append_right _ (List.mem_append_right _ (List.mem_append_right _ (List.mem_append_right _ (List.mem_append_right _ (List.mem_append_right _ (List.mem_append_right _ (List.mem_append_right _ (List.mem_append_left _ h)))))))))))))))))))))))))))))))))))))
theorem gI_wsJxde1cd0 {w : Cond} (h : w ∈ wsJxde1cd0) : w ∈ lw_G := List.mem_append_right _ (List.mem_append_right _ (List.mem_append_right _ (List.mem_append_right _ (List.mem_append_right _ (List.mem_append_right _ (List.mem_append_right _ (List.mem_append_right _ (List.mem_append_right _ (List.mem_append_right _ (List.mem_append_right _ (List.mem_append_right _ (List.mem_append_right _ (List.mem_append_right _ (List.mem_append_right _ (List.mem_append_right _ (List.mem_append_right _ (List.mem_append_right _ (List.mem_append_right _ (List.mem_append_right _ (List.mem_append_right _ (List.mem_append_right _ (List.mem_append_right _ (List.mem_append_right _ (List.mem_append_right _ (List.mem_append_right _ (List.mem_append_right _ (List.mem_append_right _ (List.mem_append_right _ (List.mem_append_right _ (List.mem_append_right _ (List.mem_append_right _ (List.mem_append_right _ (List.mem_append_right _ (List.mem_append_right _ (List.mem_append_right _ (List.mem_append_right _ (List.mem_append_right _ (List.mem_append_left _ h))))))))))))))))))))))))))))))))))))))
theorem gI_wsJx000600 {w : Cond} (h : w ∈ wsJx000600) : w ∈ lw_G := List.mem_append_right _ (List.mem_append_right _ (List.mem_append_right _ (List.mem_append_right _ (List.mem_append_right _ (List.mem_append_right _ (List.mem_append_right _ (List.mem_append_right _ (List.mem_append_right _ (List.mem_append_right _ (List.mem_append_right _ (List.mem_append_right _ (List.mem_append_right _ (List.mem_append_right _ (List.mem_append_right _ (List.mem_append_right _ (List.mem_append_right _ (List.mem_append_right _ (List.mem_append_right _ (List.mem_append_right _ (List.mem_append_right _ (List.mem_append_right _ (List.mem_append_right _ (List.mem_append_right _ (List.mem_append_right _ (List.mem_append_right _ (List.mem_append_right _ (List.mem_append_right _ (List.mem_append_right _ (List.mem_append_right _ (List.mem_append_right _ (List.mem_append_right _ (List.mem_append_right _ (List.mem_append_right _ (List.mem_append_right _ (List.mem_append_right _ (List.mem_append_right _ (List.mem_append_right _ (List.mem_append_right _ (List.mem_append_left _ h)))))))))))))))))))))))))))))))))))))))
theorem gI_wsJx5d7770 {w : Cond} (h : w ∈ wsJx5d7770) : w ∈ lw_G := List.mem_append_right _ (List.mem_append_right _ (List.mem_append_right _ (List.mem_append_right _ (List.mem_append_right _ (List.mem_append_right _ (List.mem_append_right _ (List.mem_append_right _ (List.mem_append_right _ (List.mem_append_right _ (List.mem_append_right _ (List.mem_append_right _ (List.mem_append_right _ (List.mem_append_right _ (List.mem_append_right _ (List.mem_append_right _ (List.mem_append_right _ (List.mem_append_right _ (List.mem_append_right _ (List.mem_append_right _ (List.mem_append_right _ (List.mem_append_right _ (List.mem_append_right _ (List.mem_append_right _ (List.mem_append_right _ (List.mem_append_right _ (List.mem_append_right _ (List.mem_append_right _ (List.mem_append_right _ (List.mem_append_right _ (List.mem_append_right _ (List.mem_append_right _ (List.mem_append_right _ (List.mem_append_right _ (List.mem_append_right _ (List.mem_append_right _ (List.mem_append_right _ (List.mem_append_right _ (List.mem_append_right _ (List.mem_append_right _ (h))))))))))))))))))))))))))))))))))))))))
theorem mG_1_0 : Cond.classLink RL 8 RX5 ∈ lw_G := gI_wsL_law0_r1 (List.mem_of_getElem? (i := 0) rfl)
theorem mG_1_1 : Cond.instantiable RX5 5 ∈ lw_G := gI_wsL_law0_r1 (List.mem_of_getElem? (i := 1) rfl)
theorem mG_1_2 : Cond.initialized RX5 ∈ lw_G := gI_wsL_law0_r1 (List.mem_of_getElem? (i := 2) rfl)
theorem mG_1_3 : Cond.classLink RL 33 RX6 ∈ lw_G := gI_wsL_law0_r1 (List.mem_of_getElem? (i := 3) rfl)
theorem mG_1_4 : Cond.instantiable RX6 14 ∈ lw_G := gI_wsL_law0_r1 (List.mem_of_getElem? (i := 4) rfl)
theorem mG_1_5 : Cond.initialized RX6 ∈ lw_G := gI_wsL_law0_r1 (List.mem_of_getElem? (i := 5) rfl)
theorem mG_1_6 : Cond.arrayClass .long ∈ lw_G := gI_wsL_law0_r1 (List.mem_of_getElem? (i := 6) rfl)
theorem mG_1_7 : Cond.constantLong RL 36 (4294967295) ∈ lw_G := gI_wsL_law0_r1 (List.mem_of_getElem? (i := 7) rfl)
theorem mG_1_8 : Cond.methodLink RL 32 yX5_init ∈ lw_G := gI_wsL_law0_r1 (List.mem_of_getElem? (i := 8) rfl)
theorem mG_1_9 : Cond.instanceMethod yX5_init ∈ lw_G := gI_wsL_law0_r1 (List.mem_of_getElem? (i := 9) rfl)
theorem mG_1_10 : Cond.code yX5_init cX5_init 1 none ∈ lw_G := gI_wsL_law0_r1 (List.mem_of_getElem? (i := 10) rfl)
theorem mG_1_11 : Cond.methodLink RX5 1 objectInit ∈ lw_G := gI_wsL_law0_r1 (List.mem_of_getElem? (i := 11) rfl)
theorem mG_1_12 : Cond.instanceMethod objectInit ∈ lw_G := gI_wsL_law0_r1 (List.mem_of_getElem? (i := 12) rfl)
theorem mG_1_13 : Cond.code objectInit ⟨#[0xb1]⟩ 1 none ∈ lw_G := gI_wsL_law0_r1 (List.mem_of_getElem? (i := 13) rfl)
theorem mG_1_14 : Cond.classLink RX5 7 RX2 ∈ lw_G := gI_wsL_law0_r1 (List.mem_of_getElem? (i := 14) rfl)
theorem mG_1_15 : Cond.instantiable RX2 3 ∈ lw_G := gI_wsL_law0_r1 (List.mem_of_getElem? (i := 15) rfl)
theorem mG_1_16 : Cond.initialized RX2 ∈ lw_G := gI_wsL_law0_r1 (List.mem_of_getElem? (i := 16) rfl)
theorem mG_1_17 : Cond.fieldLink RX5 10 "OrderJudge" "points" "LOrderJudge$Points;" ∈ lw_G := gI_wsL_law0_r1 (List.mem_of_getElem? (i := 17) rfl)
theorem mG_1_18 : Cond.classLink RX5 16 RX3 ∈ lw_G := gI_wsL_law0_r1 (List.mem_of_getElem? (i := 18) rfl)
theorem mG_1_19 : Cond.instantiable RX3 5 ∈ lw_G := gI_wsL_law0_r1 (List.mem_of_getElem? (i := 19) rfl)
theorem mG_1_20 : Cond.initialized RX3 ∈ lw_G := gI_wsL_law0_r1 (List.mem_of_getElem? (i := 20) rfl)
theorem mG_1_21 : Cond.fieldLink RX5 21 "OrderJudge" "quick" "LOrderJudge$QuickFilter;" ∈ lw_G := gI_wsL_law0_r1 (List.mem_of_getElem? (i := 21) rfl)
theorem mG_1_22 : Cond.classLink RX5 25 RX0 ∈ lw_G := gI_wsL_law0_r1 (List.mem_of_getElem? (i := 22) rfl)
theorem mG_1_23 : Cond.instantiable RX0 1 ∈ lw_G := gI_wsL_law0_r1 (List.mem_of_getElem? (i := 23) rfl)
theorem mG_2_0 : Cond.initialized RX0 ∈ lw_G := gI_wsL_law0_r2 (List.mem_of_getElem? (i := 0) rfl)
theorem mG_2_1 : Cond.fieldLink RX5 28 "OrderJudge" "few" "LOrderJudge$Few;" ∈ lw_G := gI_wsL_law0_r2 (List.mem_of_getElem? (i := 1) rfl)
theorem mG_2_2 : Cond.classLink RX5 32 RX4 ∈ lw_G := gI_wsL_law0_r2 (List.mem_of_getElem? (i := 2) rfl)
theorem mG_2_3 : Cond.instantiable RX4 3 ∈ lw_G := gI_wsL_law0_r2 (List.mem_of_getElem? (i := 3) rfl)
theorem mG_2_4 : Cond.initialized RX4 ∈ lw_G := gI_wsL_law0_r2 (List.mem_of_getElem? (i := 4) rfl)
theorem mG_2_5 : Cond.fieldLink RX5 35 "OrderJudge" "row" "LOrderJudge$Row;" ∈ lw_G := gI_wsL_law0_r2 (List.mem_of_getElem? (i := 5) rfl)
theorem mG_2_6 : Cond.classLink RX5 39 RX1 ∈ lw_G := gI_wsL_law0_r2 (List.mem_of_getElem? (i := 6) rfl)
theorem mG_2_7 : Cond.instantiable RX1 10 ∈ lw_G := gI_wsL_law0_r2 (List.mem_of_getElem? (i := 7) rfl)
theorem mG_2_8 : Cond.initialized RX1 ∈ lw_G := gI_wsL_law0_r2 (List.mem_of_getElem? (i := 8) rfl)
theorem mG_2_9 : Cond.fieldLink RX5 42 "OrderJudge" "lineSet" "LOrderJudge$LineSet;" ∈ lw_G := gI_wsL_law0_r2 (List.mem_of_getElem? (i := 9) rfl)
theorem mG_2_10 : Cond.instanceMethod yX2_init ∈ lw_G := gI_wsL_law0_r2 (List.mem_of_getElem? (i := 10) rfl)
theorem mG_2_11 : Cond.code yX2_init cX2_init 1 none ∈ lw_G := gI_wsL_law0_r2 (List.mem_of_getElem? (i := 11) rfl)
theorem mG_2_12 : Cond.methodLink RX2 3 objectInit ∈ lw_G := gI_wsL_law0_r2 (List.mem_of_getElem? (i := 12) rfl)
theorem mG_2_13 : Cond.arrayClass .int ∈ lw_G := gI_wsL_law0_r2 (List.mem_of_getElem? (i := 13) rfl)
theorem mG_2_14 : Cond.fieldLink RX2 9 "OrderJudge$Points" "xs" "[I" ∈ lw_G := gI_wsL_law0_r2 (List.mem_of_getElem? (i := 14) rfl)
theorem mG_2_15 : Cond.fieldLink RX2 15 "OrderJudge$Points" "ys" "[I" ∈ lw_G := gI_wsL_law0_r2 (List.mem_of_getElem? (i := 15) rfl)
theorem mG_2_16 : Cond.fieldLink RX2 18 "OrderJudge$Points" "held" "I" ∈ lw_G := gI_wsL_law0_r2 (List.mem_of_getElem? (i := 16) rfl)
theorem mG_2_17 : Cond.methodLink RX5 18 yX3_init ∈ lw_G := gI_wsL_law0_r2 (List.mem_of_getElem? (i := 17) rfl)
theorem mG_2_18 : Cond.instanceMethod yX3_init ∈ lw_G := gI_wsL_law0_r2 (List.mem_of_getElem? (i := 18) rfl)
theorem mG_2_19 : Cond.code yX3_init cX3_init 2 none ∈ lw_G := gI_wsL_law0_r2 (List.mem_of_getElem? (i := 19) rfl)
theorem mG_2_20 : Cond.methodLink RX3 1 objectInit ∈ lw_G := gI_wsL_law0_r2 (List.mem_of_getElem? (i := 20) rfl)
theorem mG_2_21 : Cond.fieldLink RX3 7 "OrderJudge$QuickFilter" "on" "Z" ∈ lw_G := gI_wsL_law0_r2 (List.mem_of_getElem? (i := 21) rfl)
theorem mG_2_22 : Cond.fieldLink RX3 13 "OrderJudge$QuickFilter" "clear" "I" ∈ lw_G := gI_wsL_law0_r2 (List.mem_of_getElem? (i := 22) rfl)
theorem mG_2_23 : Cond.fieldLink RX3 17 "OrderJudge$QuickFilter" "unclear" "I" ∈ lw_G := gI_wsL_law0_r2 (List.mem_of_getElem? (i := 23) rfl)
theorem mG_3_0 : Cond.fieldLink RX3 20 "OrderJudge$QuickFilter" "zeros" "I" ∈ lw_G := gI_wsL_law0_r3 (List.mem_of_getElem? (i := 0) rfl)
theorem mG_3_1 : Cond.fieldLink RX3 23 "OrderJudge$QuickFilter" "points" "LOrderJudge$Points;" ∈ lw_G := gI_wsL_law0_r3 (List.mem_of_getElem? (i := 1) rfl)
theorem mG_3_2 : Cond.methodLink RX5 27 yX0_init ∈ lw_G := gI_wsL_law0_r3 (List.mem_of_getElem? (i := 2) rfl)
theorem mG_3_3 : Cond.instanceMethod yX0_init ∈ lw_G := gI_wsL_law0_r3 (List.mem_of_getElem? (i := 3) rfl)
theorem mG_3_4 : Cond.code yX0_init cX0_init 2 none ∈ lw_G := gI_wsL_law0_r3 (List.mem_of_getElem? (i := 4) rfl)
theorem mG_3_5 : Cond.methodLink RX0 3 objectInit ∈ lw_G := gI_wsL_law0_r3 (List.mem_of_getElem? (i := 5) rfl)
theorem mG_3_6 : Cond.fieldLink RX0 9 "OrderJudge$Few" "points" "LOrderJudge$Points;" ∈ lw_G := gI_wsL_law0_r3 (List.mem_of_getElem? (i := 6) rfl)
theorem mG_3_7 : Cond.methodLink RX5 34 yX4_init ∈ lw_G := gI_wsL_law0_r3 (List.mem_of_getElem? (i := 7) rfl)
theorem mG_3_8 : Cond.instanceMethod yX4_init ∈ lw_G := gI_wsL_law0_r3 (List.mem_of_getElem? (i := 8) rfl)
theorem mG_3_9 : Cond.code yX4_init cX4_init 2 none ∈ lw_G := gI_wsL_law0_r3 (List.mem_of_getElem? (i := 9) rfl)
theorem mG_3_10 : Cond.methodLink RX4 3 objectInit ∈ lw_G := gI_wsL_law0_r3 (List.mem_of_getElem? (i := 10) rfl)
theorem mG_3_11 : Cond.fieldLink RX4 9 "OrderJudge$Row" "places" "[I" ∈ lw_G := gI_wsL_law0_r3 (List.mem_of_getElem? (i := 11) rfl)
theorem mG_3_12 : Cond.fieldLink RX4 15 "OrderJudge$Row" "held" "I" ∈ lw_G := gI_wsL_law0_r3 (List.mem_of_getElem? (i := 12) rfl)
theorem mG_3_13 : Cond.fieldLink RX4 19 "OrderJudge$Row" "points" "LOrderJudge$Points;" ∈ lw_G := gI_wsL_law0_r3 (List.mem_of_getElem? (i := 13) rfl)
theorem mG_3_14 : Cond.methodLink RX5 41 yX1_init ∈ lw_G := gI_wsL_law0_r3 (List.mem_of_getElem? (i := 14) rfl)
theorem mG_3_15 : Cond.instanceMethod yX1_init ∈ lw_G := gI_wsL_law0_r3 (List.mem_of_getElem? (i := 15) rfl)
theorem mG_3_16 : Cond.code yX1_init cX1_init 2 none ∈ lw_G := gI_wsL_law0_r3 (List.mem_of_getElem? (i := 16) rfl)
theorem mG_3_17 : Cond.methodLink RX1 3 objectInit ∈ lw_G := gI_wsL_law0_r3 (List.mem_of_getElem? (i := 17) rfl)
theorem mG_3_18 : Cond.fieldLink RX1 9 "OrderJudge$LineSet" "p" "[J" ∈ lw_G := gI_wsL_law0_r3 (List.mem_of_getElem? (i := 18) rfl)
theorem mG_3_19 : Cond.fieldLink RX1 15 "OrderJudge$LineSet" "q" "[J" ∈ lw_G := gI_wsL_law0_r3 (List.mem_of_getElem? (i := 19) rfl)
theorem mG_3_20 : Cond.fieldLink RX1 18 "OrderJudge$LineSet" "\x72" "[J" ∈ lw_G := gI_wsL_law0_r3 (List.mem_of_getElem? (i := 20) rfl)
theorem mG_3_21 : Cond.fieldLink RX1 21 "OrderJudge$LineSet" "held" "I" ∈ lw_G := gI_wsL_law0_r3 (List.mem_of_getElem? (i := 21) rfl)
theorem mG_3_22 : Cond.fieldLink RX1 25 "OrderJudge$LineSet" "kept" "[I" ∈ lw_G := gI_wsL_law0_r3 (List.mem_of_getElem? (i := 22) rfl)
theorem mG_3_23 : Cond.fieldLink RX1 29 "OrderJudge$LineSet" "different" "I" ∈ lw_G := gI_wsL_law0_r3 (List.mem_of_getElem? (i := 23) rfl)
theorem mG_4_0 : Cond.fieldLink RX1 32 "OrderJudge$LineSet" "meets" "I" ∈ lw_G := gI_wsL_law0_r4 (List.mem_of_getElem? (i := 0) rfl)
theorem mG_4_1 : Cond.fieldLink RX1 35 "OrderJudge$LineSet" "mostThrough" "I" ∈ lw_G := gI_wsL_law0_r4 (List.mem_of_getElem? (i := 1) rfl)
theorem mG_4_2 : Cond.fieldLink RX1 38 "OrderJudge$LineSet" "allThrough" "I" ∈ lw_G := gI_wsL_law0_r4 (List.mem_of_getElem? (i := 2) rfl)
theorem mG_4_3 : Cond.fieldLink RX1 41 "OrderJudge$LineSet" "points" "LOrderJudge$Points;" ∈ lw_G := gI_wsL_law0_r4 (List.mem_of_getElem? (i := 3) rfl)
theorem mG_4_4 : Cond.methodLink RL 35 yX6_init ∈ lw_G := gI_wsL_law0_r4 (List.mem_of_getElem? (i := 4) rfl)
theorem mG_4_5 : Cond.instanceMethod yX6_init ∈ lw_G := gI_wsL_law0_r4 (List.mem_of_getElem? (i := 5) rfl)
theorem mG_4_6 : Cond.code yX6_init cX6_init 2 none ∈ lw_G := gI_wsL_law0_r4 (List.mem_of_getElem? (i := 6) rfl)
theorem mG_4_7 : Cond.methodLink RX6 7 objectInit ∈ lw_G := gI_wsL_law0_r4 (List.mem_of_getElem? (i := 7) rfl)
theorem mG_4_8 : Cond.fieldLink RX6 13 "OrderJudgeModel" "px" "[I" ∈ lw_G := gI_wsL_law0_r4 (List.mem_of_getElem? (i := 8) rfl)
theorem mG_4_9 : Cond.fieldLink RX6 17 "OrderJudgeModel" "py" "[I" ∈ lw_G := gI_wsL_law0_r4 (List.mem_of_getElem? (i := 9) rfl)
theorem mG_4_10 : Cond.fieldLink RX6 20 "OrderJudgeModel" "row" "[I" ∈ lw_G := gI_wsL_law0_r4 (List.mem_of_getElem? (i := 10) rfl)
theorem mG_4_11 : Cond.fieldLink RX6 23 "OrderJudgeModel" "isOn" "Z" ∈ lw_G := gI_wsL_law0_r4 (List.mem_of_getElem? (i := 11) rfl)
theorem mG_4_12 : Cond.fieldLink RX6 27 "OrderJudgeModel" "la" "[J" ∈ lw_G := gI_wsL_law0_r4 (List.mem_of_getElem? (i := 12) rfl)
theorem mG_4_13 : Cond.fieldLink RX6 31 "OrderJudgeModel" "lb" "[J" ∈ lw_G := gI_wsL_law0_r4 (List.mem_of_getElem? (i := 13) rfl)
theorem mG_4_14 : Cond.fieldLink RX6 34 "OrderJudgeModel" "lc" "[J" ∈ lw_G := gI_wsL_law0_r4 (List.mem_of_getElem? (i := 14) rfl)
theorem mG_4_15 : Cond.methodLink RL 38 yX5_point ∈ lw_G := gI_wsL_law0_r4 (List.mem_of_getElem? (i := 15) rfl)
theorem mG_4_16 : Cond.instanceMethod yX5_point ∈ lw_G := gI_wsL_law0_r4 (List.mem_of_getElem? (i := 16) rfl)
theorem mG_4_17 : Cond.selects RX5 yX5_point yX5_point ∈ lw_G := gI_wsL_law0_r4 (List.mem_of_getElem? (i := 17) rfl)
theorem mG_4_18 : Cond.code yX5_point cX5_point 8 (some .int) ∈ lw_G := gI_wsL_law0_r4 (List.mem_of_getElem? (i := 18) rfl)
theorem mG_4_19 : Cond.methodLink RX5 46 yX5_isCoordinate ∈ lw_G := gI_wsL_law0_r4 (List.mem_of_getElem? (i := 19) rfl)
theorem mG_4_20 : Cond.static yX5_isCoordinate ∈ lw_G := gI_wsL_law0_r4 (List.mem_of_getElem? (i := 20) rfl)
theorem mG_4_21 : Cond.code yX5_isCoordinate cX5_isCoordinate 2 (some .boolean) ∈ lw_G := gI_wsL_law0_r4 (List.mem_of_getElem? (i := 21) rfl)
theorem mG_4_22 : Cond.constantLong RX5 213 (-800) ∈ lw_G := gI_wsL_law0_r4 (List.mem_of_getElem? (i := 22) rfl)
theorem mG_4_23 : Cond.constantLong RX5 215 (800) ∈ lw_G := gI_wsL_law0_r4 (List.mem_of_getElem? (i := 23) rfl)
theorem mG_5_0 : Cond.methodLink RX5 50 yX5_isDown ∈ lw_G := gI_wsL_law0_r5 (List.mem_of_getElem? (i := 0) rfl)
theorem mG_5_1 : Cond.static yX5_isDown ∈ lw_G := gI_wsL_law0_r5 (List.mem_of_getElem? (i := 1) rfl)
theorem mG_5_2 : Cond.code yX5_isDown cX5_isDown 2 (some .boolean) ∈ lw_G := gI_wsL_law0_r5 (List.mem_of_getElem? (i := 2) rfl)
theorem mG_5_3 : Cond.constantLong RX5 217 (12) ∈ lw_G := gI_wsL_law0_r5 (List.mem_of_getElem? (i := 3) rfl)
theorem mG_5_4 : Cond.methodLink RX5 53 yX2_add ∈ lw_G := gI_wsL_law0_r5 (List.mem_of_getElem? (i := 4) rfl)
theorem mG_5_5 : Cond.instanceMethod yX2_add ∈ lw_G := gI_wsL_law0_r5 (List.mem_of_getElem? (i := 5) rfl)
theorem mG_5_6 : Cond.selects RX2 yX2_add yX2_add ∈ lw_G := gI_wsL_law0_r5 (List.mem_of_getElem? (i := 6) rfl)
theorem mG_5_7 : Cond.code yX2_add cX2_add 3 (some .int) ∈ lw_G := gI_wsL_law0_r5 (List.mem_of_getElem? (i := 7) rfl)
theorem mG_5_8 : Cond.methodLink RL 42 yX6_point ∈ lw_G := gI_wsL_law0_r5 (List.mem_of_getElem? (i := 8) rfl)
theorem mG_5_9 : Cond.instanceMethod yX6_point ∈ lw_G := gI_wsL_law0_r5 (List.mem_of_getElem? (i := 9) rfl)
theorem mG_5_10 : Cond.selects RX6 yX6_point yX6_point ∈ lw_G := gI_wsL_law0_r5 (List.mem_of_getElem? (i := 10) rfl)
theorem mG_5_11 : Cond.code yX6_point cX6_point 8 (some .int) ∈ lw_G := gI_wsL_law0_r5 (List.mem_of_getElem? (i := 11) rfl)
theorem mG_5_12 : Cond.fieldLink RX6 1 "OrderJudgeModel" "thrown" "I" ∈ lw_G := gI_wsL_law0_r5 (List.mem_of_getElem? (i := 12) rfl)
theorem mG_5_13 : Cond.constantLong RX6 37 (2) ∈ lw_G := gI_wsL_law0_r5 (List.mem_of_getElem? (i := 13) rfl)
theorem mG_5_14 : Cond.constantLong RX6 39 (3) ∈ lw_G := gI_wsL_law0_r5 (List.mem_of_getElem? (i := 14) rfl)
theorem mG_5_15 : Cond.constantLong RX6 41 (4) ∈ lw_G := gI_wsL_law0_r5 (List.mem_of_getElem? (i := 15) rfl)
theorem mG_5_16 : Cond.constantLong RX6 43 (6) ∈ lw_G := gI_wsL_law0_r5 (List.mem_of_getElem? (i := 16) rfl)
theorem mG_5_17 : Cond.constantLong RX6 45 (12) ∈ lw_G := gI_wsL_law0_r5 (List.mem_of_getElem? (i := 17) rfl)
theorem mG_5_18 : Cond.constantLong RX6 47 (-800) ∈ lw_G := gI_wsL_law0_r5 (List.mem_of_getElem? (i := 18) rfl)
theorem mG_5_19 : Cond.constantLong RX6 49 (800) ∈ lw_G := gI_wsL_law0_r5 (List.mem_of_getElem? (i := 19) rfl)
theorem mG_5_20 : Cond.fieldLink RX6 51 "OrderJudgeModel" "points" "I" ∈ lw_G := gI_wsL_law0_r5 (List.mem_of_getElem? (i := 20) rfl)
theorem mG_5_21 : Cond.methodLink RL 43 yL_size ∈ lw_G := gI_wsL_law0_r5 (List.mem_of_getElem? (i := 21) rfl)
theorem mG_5_22 : Cond.static yL_size ∈ lw_G := gI_wsL_law0_r5 (List.mem_of_getElem? (i := 22) rfl)
theorem mG_5_23 : Cond.initialized RL ∈ lw_G := gI_wsL_law0_r5 (List.mem_of_getElem? (i := 23) rfl)
theorem mG_6_0 : Cond.codeWith yL_size cL_size 4 (some .int) [(0, 9, 12, 13)] ∈ lw_G := gI_wsL_law0_r6 (List.mem_of_getElem? (i := 0) rfl)
theorem mG_6_1 : Cond.classLink RL 13 "java/lang/NegativeArraySizeException" ∈ lw_G := gI_wsL_law0_r6 (List.mem_of_getElem? (i := 1) rfl)
theorem mG_6_2 : Cond.methodLink RL 7 yX5_size ∈ lw_G := gI_wsL_law0_r6 (List.mem_of_getElem? (i := 2) rfl)
theorem mG_6_3 : Cond.instanceMethod yX5_size ∈ lw_G := gI_wsL_law0_r6 (List.mem_of_getElem? (i := 3) rfl)
theorem mG_6_4 : Cond.selects RX5 yX5_size yX5_size ∈ lw_G := gI_wsL_law0_r6 (List.mem_of_getElem? (i := 4) rfl)
theorem mG_6_5 : Cond.code yX5_size cX5_size 2 (some .int) ∈ lw_G := gI_wsL_law0_r6 (List.mem_of_getElem? (i := 5) rfl)
theorem mG_6_6 : Cond.classLink RX5 57 RJxde1cd ∈ lw_G := gI_wsL_law0_r6 (List.mem_of_getElem? (i := 6) rfl)
theorem mG_6_7 : Cond.instantiable RJxde1cd 6 ∈ lw_G := gI_wsL_law0_r6 (List.mem_of_getElem? (i := 7) rfl)
theorem mG_6_8 : Cond.initialized RJxde1cd ∈ lw_G := gI_wsL_law0_r6 (List.mem_of_getElem? (i := 8) rfl)
theorem mG_6_9 : Cond.methodLink RX5 64 yX4_resize ∈ lw_G := gI_wsL_law0_r6 (List.mem_of_getElem? (i := 9) rfl)
theorem mG_6_10 : Cond.instanceMethod yX4_resize ∈ lw_G := gI_wsL_law0_r6 (List.mem_of_getElem? (i := 10) rfl)
theorem mG_6_11 : Cond.selects RX4 yX4_resize yX4_resize ∈ lw_G := gI_wsL_law0_r6 (List.mem_of_getElem? (i := 11) rfl)
theorem mG_6_12 : Cond.code yX4_resize cX4_resize 4 (some .int) ∈ lw_G := gI_wsL_law0_r6 (List.mem_of_getElem? (i := 12) rfl)
theorem mG_6_13 : Cond.methodLink RL 48 yX6_size ∈ lw_G := gI_wsL_law0_r6 (List.mem_of_getElem? (i := 13) rfl)
theorem mG_6_14 : Cond.instanceMethod yX6_size ∈ lw_G := gI_wsL_law0_r6 (List.mem_of_getElem? (i := 14) rfl)
theorem mG_6_15 : Cond.selects RX6 yX6_size yX6_size ∈ lw_G := gI_wsL_law0_r6 (List.mem_of_getElem? (i := 15) rfl)
theorem mG_6_16 : Cond.code yX6_size cX6_size 4 (some .int) ∈ lw_G := gI_wsL_law0_r6 (List.mem_of_getElem? (i := 16) rfl)
theorem mG_6_17 : Cond.fieldLink RX6 66 "OrderJudgeModel" "places" "I" ∈ lw_G := gI_wsL_law0_r6 (List.mem_of_getElem? (i := 17) rfl)
theorem mG_6_18 : Cond.methodLink RX6 62 yX6_fail ∈ lw_G := gI_wsL_law0_r6 (List.mem_of_getElem? (i := 18) rfl)
theorem mG_6_19 : Cond.instanceMethod yX6_fail ∈ lw_G := gI_wsL_law0_r6 (List.mem_of_getElem? (i := 19) rfl)
theorem mG_6_20 : Cond.selects RX6 yX6_fail yX6_fail ∈ lw_G := gI_wsL_law0_r6 (List.mem_of_getElem? (i := 20) rfl)
theorem mG_6_21 : Cond.code yX6_fail cX6_fail 2 (some .int) ∈ lw_G := gI_wsL_law0_r6 (List.mem_of_getElem? (i := 21) rfl)
theorem mG_6_22 : Cond.methodLink RL 49 yX6_thrown ∈ lw_G := gI_wsL_law0_r6 (List.mem_of_getElem? (i := 22) rfl)
theorem mG_6_23 : Cond.instanceMethod yX6_thrown ∈ lw_G := gI_wsL_law0_r6 (List.mem_of_getElem? (i := 23) rfl)
theorem mG_7_0 : Cond.selects RX6 yX6_thrown yX6_thrown ∈ lw_G := gI_wsL_law0_r7 (List.mem_of_getElem? (i := 0) rfl)
theorem mG_7_1 : Cond.code yX6_thrown cX6_thrown 1 (some .int) ∈ lw_G := gI_wsL_law0_r7 (List.mem_of_getElem? (i := 1) rfl)
theorem mG_7_2 : Cond.methodLink RL 53 yL_of ∈ lw_G := gI_wsL_law0_r7 (List.mem_of_getElem? (i := 2) rfl)
theorem mG_7_3 : Cond.static yL_of ∈ lw_G := gI_wsL_law0_r7 (List.mem_of_getElem? (i := 3) rfl)
theorem mG_7_4 : Cond.codeWith yL_of cL_of 5 (some .int) [(0, 10, 13, 19)] ∈ lw_G := gI_wsL_law0_r7 (List.mem_of_getElem? (i := 4) rfl)
theorem mG_7_5 : Cond.classLink RL 19 "java/lang/ArrayIndexOutOfBoundsException" ∈ lw_G := gI_wsL_law0_r7 (List.mem_of_getElem? (i := 5) rfl)
theorem mG_7_6 : Cond.methodLink RL 15 yX5_of ∈ lw_G := gI_wsL_law0_r7 (List.mem_of_getElem? (i := 6) rfl)
theorem mG_7_7 : Cond.instanceMethod yX5_of ∈ lw_G := gI_wsL_law0_r7 (List.mem_of_getElem? (i := 7) rfl)
theorem mG_7_8 : Cond.selects RX5 yX5_of yX5_of ∈ lw_G := gI_wsL_law0_r7 (List.mem_of_getElem? (i := 8) rfl)
theorem mG_7_9 : Cond.code yX5_of cX5_of 3 (some .int) ∈ lw_G := gI_wsL_law0_r7 (List.mem_of_getElem? (i := 9) rfl)
theorem mG_7_10 : Cond.classLink RX5 75 RJx00060 ∈ lw_G := gI_wsL_law0_r7 (List.mem_of_getElem? (i := 10) rfl)
theorem mG_7_11 : Cond.instantiable RJx00060 6 ∈ lw_G := gI_wsL_law0_r7 (List.mem_of_getElem? (i := 11) rfl)
theorem mG_7_12 : Cond.initialized RJx00060 ∈ lw_G := gI_wsL_law0_r7 (List.mem_of_getElem? (i := 12) rfl)
theorem mG_7_13 : Cond.methodLink RX5 68 yX2_has ∈ lw_G := gI_wsL_law0_r7 (List.mem_of_getElem? (i := 13) rfl)
theorem mG_7_14 : Cond.instanceMethod yX2_has ∈ lw_G := gI_wsL_law0_r7 (List.mem_of_getElem? (i := 14) rfl)
theorem mG_7_15 : Cond.selects RX2 yX2_has yX2_has ∈ lw_G := gI_wsL_law0_r7 (List.mem_of_getElem? (i := 15) rfl)
theorem mG_7_16 : Cond.code yX2_has cX2_has 2 (some .boolean) ∈ lw_G := gI_wsL_law0_r7 (List.mem_of_getElem? (i := 16) rfl)
theorem mG_7_17 : Cond.methodLink RX5 72 yX4_hasPlace ∈ lw_G := gI_wsL_law0_r7 (List.mem_of_getElem? (i := 17) rfl)
theorem mG_7_18 : Cond.instanceMethod yX4_hasPlace ∈ lw_G := gI_wsL_law0_r7 (List.mem_of_getElem? (i := 18) rfl)
theorem mG_7_19 : Cond.selects RX4 yX4_hasPlace yX4_hasPlace ∈ lw_G := gI_wsL_law0_r7 (List.mem_of_getElem? (i := 19) rfl)
theorem mG_7_20 : Cond.code yX4_hasPlace cX4_hasPlace 2 (some .boolean) ∈ lw_G := gI_wsL_law0_r7 (List.mem_of_getElem? (i := 20) rfl)
theorem mG_7_21 : Cond.methodLink RX5 80 yX4_put ∈ lw_G := gI_wsL_law0_r7 (List.mem_of_getElem? (i := 21) rfl)
theorem mG_7_22 : Cond.instanceMethod yX4_put ∈ lw_G := gI_wsL_law0_r7 (List.mem_of_getElem? (i := 22) rfl)
theorem mG_7_23 : Cond.selects RX4 yX4_put yX4_put ∈ lw_G := gI_wsL_law0_r7 (List.mem_of_getElem? (i := 23) rfl)
theorem mG_8_0 : Cond.code yX4_put cX4_put 4 (some .int) ∈ lw_G := gI_wsL_law0_r8 (List.mem_of_getElem? (i := 0) rfl)
theorem mG_8_1 : Cond.methodLink RL 56 yX6_of ∈ lw_G := gI_wsL_law0_r8 (List.mem_of_getElem? (i := 1) rfl)
theorem mG_8_2 : Cond.instanceMethod yX6_of ∈ lw_G := gI_wsL_law0_r8 (List.mem_of_getElem? (i := 2) rfl)
theorem mG_8_3 : Cond.selects RX6 yX6_of yX6_of ∈ lw_G := gI_wsL_law0_r8 (List.mem_of_getElem? (i := 3) rfl)
theorem mG_8_4 : Cond.code yX6_of cX6_of 4 (some .int) ∈ lw_G := gI_wsL_law0_r8 (List.mem_of_getElem? (i := 4) rfl)
theorem mG_8_5 : Cond.methodLink RX6 69 yX6_isPoint ∈ lw_G := gI_wsL_law0_r8 (List.mem_of_getElem? (i := 5) rfl)
theorem mG_8_6 : Cond.instanceMethod yX6_isPoint ∈ lw_G := gI_wsL_law0_r8 (List.mem_of_getElem? (i := 6) rfl)
theorem mG_8_7 : Cond.selects RX6 yX6_isPoint yX6_isPoint ∈ lw_G := gI_wsL_law0_r8 (List.mem_of_getElem? (i := 7) rfl)
theorem mG_8_8 : Cond.code yX6_isPoint cX6_isPoint 2 (some .boolean) ∈ lw_G := gI_wsL_law0_r8 (List.mem_of_getElem? (i := 8) rfl)
theorem mG_8_9 : Cond.methodLink RX6 73 yX6_isPlace ∈ lw_G := gI_wsL_law0_r8 (List.mem_of_getElem? (i := 9) rfl)
theorem mG_8_10 : Cond.instanceMethod yX6_isPlace ∈ lw_G := gI_wsL_law0_r8 (List.mem_of_getElem? (i := 10) rfl)
theorem mG_8_11 : Cond.selects RX6 yX6_isPlace yX6_isPlace ∈ lw_G := gI_wsL_law0_r8 (List.mem_of_getElem? (i := 11) rfl)
theorem mG_8_12 : Cond.code yX6_isPlace cX6_isPlace 2 (some .boolean) ∈ lw_G := gI_wsL_law0_r8 (List.mem_of_getElem? (i := 12) rfl)
theorem mG_8_13 : Cond.methodLink RL 57 yL_at ∈ lw_G := gI_wsL_law0_r8 (List.mem_of_getElem? (i := 13) rfl)
theorem mG_8_14 : Cond.static yL_at ∈ lw_G := gI_wsL_law0_r8 (List.mem_of_getElem? (i := 14) rfl)
theorem mG_8_15 : Cond.codeWith yL_at cL_at 5 (some .int) [(0, 10, 13, 19), (0, 10, 17, 24)] ∈ lw_G := gI_wsL_law0_r8 (List.mem_of_getElem? (i := 15) rfl)
theorem mG_8_16 : Cond.classLink RL 24 "java/lang/NullPointerException" ∈ lw_G := gI_wsL_law0_r8 (List.mem_of_getElem? (i := 16) rfl)
theorem mG_8_17 : Cond.methodLink RL 21 yX5_at ∈ lw_G := gI_wsL_law0_r8 (List.mem_of_getElem? (i := 17) rfl)
theorem mG_8_18 : Cond.instanceMethod yX5_at ∈ lw_G := gI_wsL_law0_r8 (List.mem_of_getElem? (i := 18) rfl)
theorem mG_8_19 : Cond.selects RX5 yX5_at yX5_at ∈ lw_G := gI_wsL_law0_r8 (List.mem_of_getElem? (i := 19) rfl)
theorem mG_8_20 : Cond.code yX5_at cX5_at 4 (some .int) ∈ lw_G := gI_wsL_law0_r8 (List.mem_of_getElem? (i := 20) rfl)
theorem mG_8_21 : Cond.fieldLink RX5 83 "OrderJudge$Row" "places" "[I" ∈ lw_G := gI_wsL_law0_r8 (List.mem_of_getElem? (i := 21) rfl)
theorem mG_8_22 : Cond.classLink RX5 87 RJx5d777 ∈ lw_G := gI_wsL_law0_r8 (List.mem_of_getElem? (i := 22) rfl)
theorem mG_8_23 : Cond.instantiable RJx5d777 8 ∈ lw_G := gI_wsL_law0_r8 (List.mem_of_getElem? (i := 23) rfl)
theorem mG_9_0 : Cond.initialized RJx5d777 ∈ lw_G := gI_wsL_law0_r9 (List.mem_of_getElem? (i := 0) rfl)
theorem mG_9_1 : Cond.fieldLink RX5 92 "OrderJudge$Points" "xs" "[I" ∈ lw_G := gI_wsL_law0_r9 (List.mem_of_getElem? (i := 1) rfl)
theorem mG_9_2 : Cond.fieldLink RX5 95 "OrderJudge$Points" "ys" "[I" ∈ lw_G := gI_wsL_law0_r9 (List.mem_of_getElem? (i := 2) rfl)
theorem mG_9_3 : Cond.methodLink RL 59 yX6_at ∈ lw_G := gI_wsL_law0_r9 (List.mem_of_getElem? (i := 3) rfl)
theorem mG_9_4 : Cond.instanceMethod yX6_at ∈ lw_G := gI_wsL_law0_r9 (List.mem_of_getElem? (i := 4) rfl)
theorem mG_9_5 : Cond.selects RX6 yX6_at yX6_at ∈ lw_G := gI_wsL_law0_r9 (List.mem_of_getElem? (i := 5) rfl)
theorem mG_9_6 : Cond.code yX6_at cX6_at 3 (some .int) ∈ lw_G := gI_wsL_law0_r9 (List.mem_of_getElem? (i := 6) rfl)
theorem mG_9_7 : Cond.methodLink RL 60 yX5_side ∈ lw_G := gI_wsL_law0_r9 (List.mem_of_getElem? (i := 7) rfl)
theorem mG_9_8 : Cond.instanceMethod yX5_side ∈ lw_G := gI_wsL_law0_r9 (List.mem_of_getElem? (i := 8) rfl)
theorem mG_9_9 : Cond.selects RX5 yX5_side yX5_side ∈ lw_G := gI_wsL_law0_r9 (List.mem_of_getElem? (i := 9) rfl)
theorem mG_9_10 : Cond.code yX5_side cX5_side 4 (some .int) ∈ lw_G := gI_wsL_law0_r9 (List.mem_of_getElem? (i := 10) rfl)
theorem mG_9_11 : Cond.methodLink RX5 98 yX2_hasAll ∈ lw_G := gI_wsL_law0_r9 (List.mem_of_getElem? (i := 11) rfl)
theorem mG_9_12 : Cond.instanceMethod yX2_hasAll ∈ lw_G := gI_wsL_law0_r9 (List.mem_of_getElem? (i := 12) rfl)
theorem mG_9_13 : Cond.selects RX2 yX2_hasAll yX2_hasAll ∈ lw_G := gI_wsL_law0_r9 (List.mem_of_getElem? (i := 13) rfl)
theorem mG_9_14 : Cond.code yX2_hasAll cX2_hasAll 4 (some .boolean) ∈ lw_G := gI_wsL_law0_r9 (List.mem_of_getElem? (i := 14) rfl)
theorem mG_9_15 : Cond.methodLink RX2 22 yX2_has ∈ lw_G := gI_wsL_law0_r9 (List.mem_of_getElem? (i := 15) rfl)
theorem mG_9_16 : Cond.methodLink RX5 102 yX2_equal ∈ lw_G := gI_wsL_law0_r9 (List.mem_of_getElem? (i := 16) rfl)
theorem mG_9_17 : Cond.instanceMethod yX2_equal ∈ lw_G := gI_wsL_law0_r9 (List.mem_of_getElem? (i := 17) rfl)
theorem mG_9_18 : Cond.selects RX2 yX2_equal yX2_equal ∈ lw_G := gI_wsL_law0_r9 (List.mem_of_getElem? (i := 18) rfl)
theorem mG_9_19 : Cond.code yX2_equal cX2_equal 3 (some .boolean) ∈ lw_G := gI_wsL_law0_r9 (List.mem_of_getElem? (i := 19) rfl)
theorem mG_9_20 : Cond.methodLink RX2 26 yX2_compare ∈ lw_G := gI_wsL_law0_r9 (List.mem_of_getElem? (i := 20) rfl)
theorem mG_9_21 : Cond.instanceMethod yX2_compare ∈ lw_G := gI_wsL_law0_r9 (List.mem_of_getElem? (i := 21) rfl)
theorem mG_9_22 : Cond.selects RX2 yX2_compare yX2_compare ∈ lw_G := gI_wsL_law0_r9 (List.mem_of_getElem? (i := 22) rfl)
theorem mG_9_23 : Cond.code yX2_compare cX2_compare 4 (some .int) ∈ lw_G := gI_wsL_law0_r9 (List.mem_of_getElem? (i := 23) rfl)
theorem mG_10_0 : Cond.methodLink RX2 30 yJ6_compare_7cf53 ∈ lw_G := gI_wsL_law0_r10 (List.mem_of_getElem? (i := 0) rfl)
theorem mG_10_1 : Cond.static yJ6_compare_7cf53 ∈ lw_G := gI_wsL_law0_r10 (List.mem_of_getElem? (i := 1) rfl)
theorem mG_10_2 : Cond.initialized RJ6 ∈ lw_G := gI_wsL_law0_r10 (List.mem_of_getElem? (i := 2) rfl)
theorem mG_10_3 : Cond.code yJ6_compare_7cf53 cJ6_compare_7cf53 2 (some .int) ∈ lw_G := gI_wsL_law0_r10 (List.mem_of_getElem? (i := 3) rfl)
theorem mG_10_4 : Cond.methodLink RX5 106 yX3_decidesTurn ∈ lw_G := gI_wsL_law0_r10 (List.mem_of_getElem? (i := 4) rfl)
theorem mG_10_5 : Cond.instanceMethod yX3_decidesTurn ∈ lw_G := gI_wsL_law0_r10 (List.mem_of_getElem? (i := 5) rfl)
theorem mG_10_6 : Cond.selects RX3 yX3_decidesTurn yX3_decidesTurn ∈ lw_G := gI_wsL_law0_r10 (List.mem_of_getElem? (i := 6) rfl)
theorem mG_10_7 : Cond.code yX3_decidesTurn cX3_decidesTurn 7 (some .boolean) ∈ lw_G := gI_wsL_law0_r10 (List.mem_of_getElem? (i := 7) rfl)
theorem mG_10_8 : Cond.constantFloat RX3 45 (914358272) ∈ lw_G := gI_wsL_law0_r10 (List.mem_of_getElem? (i := 8) rfl)
theorem mG_10_9 : Cond.methodLink RX3 27 yX3_floatX ∈ lw_G := gI_wsL_law0_r10 (List.mem_of_getElem? (i := 9) rfl)
theorem mG_10_10 : Cond.instanceMethod yX3_floatX ∈ lw_G := gI_wsL_law0_r10 (List.mem_of_getElem? (i := 10) rfl)
theorem mG_10_11 : Cond.selects RX3 yX3_floatX yX3_floatX ∈ lw_G := gI_wsL_law0_r10 (List.mem_of_getElem? (i := 11) rfl)
theorem mG_10_12 : Cond.code yX3_floatX cX3_floatX 2 (some .float) ∈ lw_G := gI_wsL_law0_r10 (List.mem_of_getElem? (i := 12) rfl)
theorem mG_10_13 : Cond.fieldLink RX3 47 "OrderJudge$Points" "xs" "[I" ∈ lw_G := gI_wsL_law0_r10 (List.mem_of_getElem? (i := 13) rfl)
theorem mG_10_14 : Cond.constantFloat RX3 53 (1094713344) ∈ lw_G := gI_wsL_law0_r10 (List.mem_of_getElem? (i := 14) rfl)
theorem mG_10_15 : Cond.methodLink RX3 31 yX3_floatY ∈ lw_G := gI_wsL_law0_r10 (List.mem_of_getElem? (i := 15) rfl)
theorem mG_10_16 : Cond.instanceMethod yX3_floatY ∈ lw_G := gI_wsL_law0_r10 (List.mem_of_getElem? (i := 16) rfl)
theorem mG_10_17 : Cond.selects RX3 yX3_floatY yX3_floatY ∈ lw_G := gI_wsL_law0_r10 (List.mem_of_getElem? (i := 17) rfl)
theorem mG_10_18 : Cond.code yX3_floatY cX3_floatY 2 (some .float) ∈ lw_G := gI_wsL_law0_r10 (List.mem_of_getElem? (i := 18) rfl)
theorem mG_10_19 : Cond.fieldLink RX3 54 "OrderJudge$Points" "ys" "[I" ∈ lw_G := gI_wsL_law0_r10 (List.mem_of_getElem? (i := 19) rfl)
theorem mG_10_20 : Cond.methodLink RX3 34 yX3_reach ∈ lw_G := gI_wsL_law0_r10 (List.mem_of_getElem? (i := 20) rfl)
theorem mG_10_21 : Cond.instanceMethod yX3_reach ∈ lw_G := gI_wsL_law0_r10 (List.mem_of_getElem? (i := 21) rfl)
theorem mG_10_22 : Cond.selects RX3 yX3_reach yX3_reach ∈ lw_G := gI_wsL_law0_r10 (List.mem_of_getElem? (i := 22) rfl)
theorem mG_10_23 : Cond.code yX3_reach cX3_reach 2 (some .float) ∈ lw_G := gI_wsL_law0_r10 (List.mem_of_getElem? (i := 23) rfl)
theorem mG_11_0 : Cond.methodLink RX3 41 yX3_unsigned ∈ lw_G := gI_wsL_law0_r11 (List.mem_of_getElem? (i := 0) rfl)
theorem mG_11_1 : Cond.static yX3_unsigned ∈ lw_G := gI_wsL_law0_r11 (List.mem_of_getElem? (i := 1) rfl)
theorem mG_11_2 : Cond.code yX3_unsigned cX3_unsigned 1 (some .float) ∈ lw_G := gI_wsL_law0_r11 (List.mem_of_getElem? (i := 2) rfl)
theorem mG_11_3 : Cond.methodLink RX3 37 yX3_greater ∈ lw_G := gI_wsL_law0_r11 (List.mem_of_getElem? (i := 3) rfl)
theorem mG_11_4 : Cond.static yX3_greater ∈ lw_G := gI_wsL_law0_r11 (List.mem_of_getElem? (i := 4) rfl)
theorem mG_11_5 : Cond.code yX3_greater cX3_greater 2 (some .float) ∈ lw_G := gI_wsL_law0_r11 (List.mem_of_getElem? (i := 5) rfl)
theorem mG_11_6 : Cond.methodLink RX5 109 yX2_turn ∈ lw_G := gI_wsL_law0_r11 (List.mem_of_getElem? (i := 6) rfl)
theorem mG_11_7 : Cond.instanceMethod yX2_turn ∈ lw_G := gI_wsL_law0_r11 (List.mem_of_getElem? (i := 7) rfl)
theorem mG_11_8 : Cond.selects RX2 yX2_turn yX2_turn ∈ lw_G := gI_wsL_law0_r11 (List.mem_of_getElem? (i := 8) rfl)
theorem mG_11_9 : Cond.code yX2_turn cX2_turn 8 (some .int) ∈ lw_G := gI_wsL_law0_r11 (List.mem_of_getElem? (i := 9) rfl)
theorem mG_11_10 : Cond.static yX5_signOf ∈ lw_G := gI_wsL_law0_r11 (List.mem_of_getElem? (i := 10) rfl)
theorem mG_11_11 : Cond.code yX5_signOf cX5_signOf 2 (some .int) ∈ lw_G := gI_wsL_law0_r11 (List.mem_of_getElem? (i := 11) rfl)
theorem mG_11_12 : Cond.methodLink RX5 219 yJ13_compare_74951 ∈ lw_G := gI_wsL_law0_r11 (List.mem_of_getElem? (i := 12) rfl)
theorem mG_11_13 : Cond.static yJ13_compare_74951 ∈ lw_G := gI_wsL_law0_r11 (List.mem_of_getElem? (i := 13) rfl)
theorem mG_11_14 : Cond.initialized RJ13 ∈ lw_G := gI_wsL_law0_r11 (List.mem_of_getElem? (i := 14) rfl)
theorem mG_11_15 : Cond.code yJ13_compare_74951 cJ13_compare_74951 4 (some .int) ∈ lw_G := gI_wsL_law0_r11 (List.mem_of_getElem? (i := 15) rfl)
theorem mG_11_16 : Cond.methodLink RX5 113 yX3_note ∈ lw_G := gI_wsL_law0_r11 (List.mem_of_getElem? (i := 16) rfl)
theorem mG_11_17 : Cond.instanceMethod yX3_note ∈ lw_G := gI_wsL_law0_r11 (List.mem_of_getElem? (i := 17) rfl)
theorem mG_11_18 : Cond.selects RX3 yX3_note yX3_note ∈ lw_G := gI_wsL_law0_r11 (List.mem_of_getElem? (i := 18) rfl)
theorem mG_11_19 : Cond.code yX3_note cX3_note 3 (some .int) ∈ lw_G := gI_wsL_law0_r11 (List.mem_of_getElem? (i := 19) rfl)
theorem mG_11_20 : Cond.methodLink RL 64 yX6_side ∈ lw_G := gI_wsL_law0_r11 (List.mem_of_getElem? (i := 20) rfl)
theorem mG_11_21 : Cond.instanceMethod yX6_side ∈ lw_G := gI_wsL_law0_r11 (List.mem_of_getElem? (i := 21) rfl)
theorem mG_11_22 : Cond.selects RX6 yX6_side yX6_side ∈ lw_G := gI_wsL_law0_r11 (List.mem_of_getElem? (i := 22) rfl)
theorem mG_11_23 : Cond.code yX6_side cX6_side 4 (some .int) ∈ lw_G := gI_wsL_law0_r11 (List.mem_of_getElem? (i := 23) rfl)
theorem mG_12_0 : Cond.methodLink RX6 107 yX6_areEqual ∈ lw_G := gI_wsL_law0_r12 (List.mem_of_getElem? (i := 0) rfl)
theorem mG_12_1 : Cond.instanceMethod yX6_areEqual ∈ lw_G := gI_wsL_law0_r12 (List.mem_of_getElem? (i := 1) rfl)
theorem mG_12_2 : Cond.selects RX6 yX6_areEqual yX6_areEqual ∈ lw_G := gI_wsL_law0_r12 (List.mem_of_getElem? (i := 2) rfl)
theorem mG_12_3 : Cond.code yX6_areEqual cX6_areEqual 3 (some .boolean) ∈ lw_G := gI_wsL_law0_r12 (List.mem_of_getElem? (i := 3) rfl)
theorem mG_12_4 : Cond.methodLink RX6 111 yX6_decidesTurn ∈ lw_G := gI_wsL_law0_r12 (List.mem_of_getElem? (i := 4) rfl)
theorem mG_12_5 : Cond.instanceMethod yX6_decidesTurn ∈ lw_G := gI_wsL_law0_r12 (List.mem_of_getElem? (i := 5) rfl)
theorem mG_12_6 : Cond.selects RX6 yX6_decidesTurn yX6_decidesTurn ∈ lw_G := gI_wsL_law0_r12 (List.mem_of_getElem? (i := 6) rfl)
theorem mG_12_7 : Cond.code yX6_decidesTurn cX6_decidesTurn 9 (some .boolean) ∈ lw_G := gI_wsL_law0_r12 (List.mem_of_getElem? (i := 7) rfl)
theorem mG_12_8 : Cond.constantFloat RX6 96 (914358272) ∈ lw_G := gI_wsL_law0_r12 (List.mem_of_getElem? (i := 8) rfl)
theorem mG_12_9 : Cond.methodLink RX6 77 yX6_fx ∈ lw_G := gI_wsL_law0_r12 (List.mem_of_getElem? (i := 9) rfl)
theorem mG_12_10 : Cond.instanceMethod yX6_fx ∈ lw_G := gI_wsL_law0_r12 (List.mem_of_getElem? (i := 10) rfl)
theorem mG_12_11 : Cond.selects RX6 yX6_fx yX6_fx ∈ lw_G := gI_wsL_law0_r12 (List.mem_of_getElem? (i := 11) rfl)
theorem mG_12_12 : Cond.code yX6_fx cX6_fx 2 (some .float) ∈ lw_G := gI_wsL_law0_r12 (List.mem_of_getElem? (i := 12) rfl)
theorem mG_12_13 : Cond.constantFloat RX6 76 (1094713344) ∈ lw_G := gI_wsL_law0_r12 (List.mem_of_getElem? (i := 13) rfl)
theorem mG_12_14 : Cond.methodLink RX6 85 yX6_fy ∈ lw_G := gI_wsL_law0_r12 (List.mem_of_getElem? (i := 14) rfl)
theorem mG_12_15 : Cond.instanceMethod yX6_fy ∈ lw_G := gI_wsL_law0_r12 (List.mem_of_getElem? (i := 15) rfl)
theorem mG_12_16 : Cond.selects RX6 yX6_fy yX6_fy ∈ lw_G := gI_wsL_law0_r12 (List.mem_of_getElem? (i := 16) rfl)
theorem mG_12_17 : Cond.code yX6_fy cX6_fy 2 (some .float) ∈ lw_G := gI_wsL_law0_r12 (List.mem_of_getElem? (i := 17) rfl)
theorem mG_12_18 : Cond.methodLink RX6 92 yX6_most ∈ lw_G := gI_wsL_law0_r12 (List.mem_of_getElem? (i := 18) rfl)
theorem mG_12_19 : Cond.instanceMethod yX6_most ∈ lw_G := gI_wsL_law0_r12 (List.mem_of_getElem? (i := 19) rfl)
theorem mG_12_20 : Cond.selects RX6 yX6_most yX6_most ∈ lw_G := gI_wsL_law0_r12 (List.mem_of_getElem? (i := 20) rfl)
theorem mG_12_21 : Cond.code yX6_most cX6_most 4 (some .float) ∈ lw_G := gI_wsL_law0_r12 (List.mem_of_getElem? (i := 21) rfl)
theorem mG_12_22 : Cond.methodLink RX6 81 yX6_size_ ∈ lw_G := gI_wsL_law0_r12 (List.mem_of_getElem? (i := 22) rfl)
theorem mG_12_23 : Cond.static yX6_size_ ∈ lw_G := gI_wsL_law0_r12 (List.mem_of_getElem? (i := 23) rfl)
theorem mG_13_0 : Cond.code yX6_size_ cX6_size_ 1 (some .float) ∈ lw_G := gI_wsL_law0_r13 (List.mem_of_getElem? (i := 0) rfl)
theorem mG_13_1 : Cond.methodLink RX6 88 yX6_greater ∈ lw_G := gI_wsL_law0_r13 (List.mem_of_getElem? (i := 1) rfl)
theorem mG_13_2 : Cond.static yX6_greater ∈ lw_G := gI_wsL_law0_r13 (List.mem_of_getElem? (i := 2) rfl)
theorem mG_13_3 : Cond.code yX6_greater cX6_greater 2 (some .float) ∈ lw_G := gI_wsL_law0_r13 (List.mem_of_getElem? (i := 3) rfl)
theorem mG_13_4 : Cond.methodLink RX6 58 yX6_turn ∈ lw_G := gI_wsL_law0_r13 (List.mem_of_getElem? (i := 4) rfl)
theorem mG_13_5 : Cond.instanceMethod yX6_turn ∈ lw_G := gI_wsL_law0_r13 (List.mem_of_getElem? (i := 5) rfl)
theorem mG_13_6 : Cond.selects RX6 yX6_turn yX6_turn ∈ lw_G := gI_wsL_law0_r13 (List.mem_of_getElem? (i := 6) rfl)
theorem mG_13_7 : Cond.code yX6_turn cX6_turn 4 (some .int) ∈ lw_G := gI_wsL_law0_r13 (List.mem_of_getElem? (i := 7) rfl)
theorem mG_13_8 : Cond.methodLink RX6 54 yX6_signOf ∈ lw_G := gI_wsL_law0_r13 (List.mem_of_getElem? (i := 8) rfl)
theorem mG_13_9 : Cond.static yX6_signOf ∈ lw_G := gI_wsL_law0_r13 (List.mem_of_getElem? (i := 9) rfl)
theorem mG_13_10 : Cond.code yX6_signOf cX6_signOf 2 (some .int) ∈ lw_G := gI_wsL_law0_r13 (List.mem_of_getElem? (i := 10) rfl)
theorem mG_13_11 : Cond.methodLink RX6 115 yX6_counted ∈ lw_G := gI_wsL_law0_r13 (List.mem_of_getElem? (i := 11) rfl)
theorem mG_13_12 : Cond.instanceMethod yX6_counted ∈ lw_G := gI_wsL_law0_r13 (List.mem_of_getElem? (i := 12) rfl)
theorem mG_13_13 : Cond.selects RX6 yX6_counted yX6_counted ∈ lw_G := gI_wsL_law0_r13 (List.mem_of_getElem? (i := 13) rfl)
theorem mG_13_14 : Cond.code yX6_counted cX6_counted 3 (some .int) ∈ lw_G := gI_wsL_law0_r13 (List.mem_of_getElem? (i := 14) rfl)
theorem mG_13_15 : Cond.fieldLink RX6 98 "OrderJudgeModel" "clear" "I" ∈ lw_G := gI_wsL_law0_r13 (List.mem_of_getElem? (i := 15) rfl)
theorem mG_13_16 : Cond.fieldLink RX6 101 "OrderJudgeModel" "unclear" "I" ∈ lw_G := gI_wsL_law0_r13 (List.mem_of_getElem? (i := 16) rfl)
theorem mG_13_17 : Cond.fieldLink RX6 104 "OrderJudgeModel" "nothing" "I" ∈ lw_G := gI_wsL_law0_r13 (List.mem_of_getElem? (i := 17) rfl)
theorem mG_13_18 : Cond.methodLink RL 65 yX5_circle ∈ lw_G := gI_wsL_law0_r13 (List.mem_of_getElem? (i := 18) rfl)
theorem mG_13_19 : Cond.instanceMethod yX5_circle ∈ lw_G := gI_wsL_law0_r13 (List.mem_of_getElem? (i := 19) rfl)
theorem mG_13_20 : Cond.selects RX5 yX5_circle yX5_circle ∈ lw_G := gI_wsL_law0_r13 (List.mem_of_getElem? (i := 20) rfl)
theorem mG_13_21 : Cond.code yX5_circle cX5_circle 5 (some .int) ∈ lw_G := gI_wsL_law0_r13 (List.mem_of_getElem? (i := 21) rfl)
theorem mG_13_22 : Cond.methodLink RX5 117 yX3_decidesRing ∈ lw_G := gI_wsL_law0_r13 (List.mem_of_getElem? (i := 22) rfl)
theorem mG_13_23 : Cond.instanceMethod yX3_decidesRing ∈ lw_G := gI_wsL_law0_r13 (List.mem_of_getElem? (i := 23) rfl)
theorem mG_14_0 : Cond.selects RX3 yX3_decidesRing yX3_decidesRing ∈ lw_G := gI_wsL_law0_r14 (List.mem_of_getElem? (i := 0) rfl)
theorem mG_14_1 : Cond.code yX3_decidesRing cX3_decidesRing 16 (some .boolean) ∈ lw_G := gI_wsL_law0_r14 (List.mem_of_getElem? (i := 1) rfl)
theorem mG_14_2 : Cond.constantFloat RX3 46 (964689920) ∈ lw_G := gI_wsL_law0_r14 (List.mem_of_getElem? (i := 2) rfl)
theorem mG_14_3 : Cond.methodLink RX5 121 yX2_ring ∈ lw_G := gI_wsL_law0_r14 (List.mem_of_getElem? (i := 3) rfl)
theorem mG_14_4 : Cond.instanceMethod yX2_ring ∈ lw_G := gI_wsL_law0_r14 (List.mem_of_getElem? (i := 4) rfl)
theorem mG_14_5 : Cond.selects RX2 yX2_ring yX2_ring ∈ lw_G := gI_wsL_law0_r14 (List.mem_of_getElem? (i := 5) rfl)
theorem mG_14_6 : Cond.code yX2_ring cX2_ring 19 (some .int) ∈ lw_G := gI_wsL_law0_r14 (List.mem_of_getElem? (i := 6) rfl)
theorem mG_14_7 : Cond.methodLink RX2 37 yX2_turn ∈ lw_G := gI_wsL_law0_r14 (List.mem_of_getElem? (i := 7) rfl)
theorem mG_14_8 : Cond.methodLink RL 69 yX6_circle ∈ lw_G := gI_wsL_law0_r14 (List.mem_of_getElem? (i := 8) rfl)
theorem mG_14_9 : Cond.instanceMethod yX6_circle ∈ lw_G := gI_wsL_law0_r14 (List.mem_of_getElem? (i := 9) rfl)
theorem mG_14_10 : Cond.selects RX6 yX6_circle yX6_circle ∈ lw_G := gI_wsL_law0_r14 (List.mem_of_getElem? (i := 10) rfl)
theorem mG_14_11 : Cond.code yX6_circle cX6_circle 5 (some .int) ∈ lw_G := gI_wsL_law0_r14 (List.mem_of_getElem? (i := 11) rfl)
theorem mG_14_12 : Cond.methodLink RX6 119 yX6_decidesRing ∈ lw_G := gI_wsL_law0_r14 (List.mem_of_getElem? (i := 12) rfl)
theorem mG_14_13 : Cond.instanceMethod yX6_decidesRing ∈ lw_G := gI_wsL_law0_r14 (List.mem_of_getElem? (i := 13) rfl)
theorem mG_14_14 : Cond.selects RX6 yX6_decidesRing yX6_decidesRing ∈ lw_G := gI_wsL_law0_r14 (List.mem_of_getElem? (i := 14) rfl)
theorem mG_14_15 : Cond.code yX6_decidesRing cX6_decidesRing 17 (some .boolean) ∈ lw_G := gI_wsL_law0_r14 (List.mem_of_getElem? (i := 15) rfl)
theorem mG_14_16 : Cond.constantFloat RX6 97 (964689920) ∈ lw_G := gI_wsL_law0_r14 (List.mem_of_getElem? (i := 16) rfl)
theorem mG_14_17 : Cond.methodLink RX6 123 yX6_ring ∈ lw_G := gI_wsL_law0_r14 (List.mem_of_getElem? (i := 17) rfl)
theorem mG_14_18 : Cond.instanceMethod yX6_ring ∈ lw_G := gI_wsL_law0_r14 (List.mem_of_getElem? (i := 18) rfl)
theorem mG_14_19 : Cond.selects RX6 yX6_ring yX6_ring ∈ lw_G := gI_wsL_law0_r14 (List.mem_of_getElem? (i := 19) rfl)
theorem mG_14_20 : Cond.code yX6_ring cX6_ring 23 (some .int) ∈ lw_G := gI_wsL_law0_r14 (List.mem_of_getElem? (i := 20) rfl)
theorem mG_14_21 : Cond.methodLink RL 70 yX5_filter ∈ lw_G := gI_wsL_law0_r14 (List.mem_of_getElem? (i := 21) rfl)
theorem mG_14_22 : Cond.instanceMethod yX5_filter ∈ lw_G := gI_wsL_law0_r14 (List.mem_of_getElem? (i := 22) rfl)
theorem mG_14_23 : Cond.selects RX5 yX5_filter yX5_filter ∈ lw_G := gI_wsL_law0_r14 (List.mem_of_getElem? (i := 23) rfl)
theorem mG_15_0 : Cond.code yX5_filter cX5_filter 3 (some .int) ∈ lw_G := gI_wsL_law0_r15 (List.mem_of_getElem? (i := 0) rfl)
theorem mG_15_1 : Cond.fieldLink RX5 125 "OrderJudge$QuickFilter" "on" "Z" ∈ lw_G := gI_wsL_law0_r15 (List.mem_of_getElem? (i := 1) rfl)
theorem mG_15_2 : Cond.methodLink RL 74 yX6_filter ∈ lw_G := gI_wsL_law0_r15 (List.mem_of_getElem? (i := 2) rfl)
theorem mG_15_3 : Cond.instanceMethod yX6_filter ∈ lw_G := gI_wsL_law0_r15 (List.mem_of_getElem? (i := 3) rfl)
theorem mG_15_4 : Cond.selects RX6 yX6_filter yX6_filter ∈ lw_G := gI_wsL_law0_r15 (List.mem_of_getElem? (i := 4) rfl)
theorem mG_15_5 : Cond.code yX6_filter cX6_filter 3 (some .int) ∈ lw_G := gI_wsL_law0_r15 (List.mem_of_getElem? (i := 5) rfl)
theorem mG_15_6 : Cond.methodLink RL 75 yX5_decided ∈ lw_G := gI_wsL_law0_r15 (List.mem_of_getElem? (i := 6) rfl)
theorem mG_15_7 : Cond.instanceMethod yX5_decided ∈ lw_G := gI_wsL_law0_r15 (List.mem_of_getElem? (i := 7) rfl)
theorem mG_15_8 : Cond.selects RX5 yX5_decided yX5_decided ∈ lw_G := gI_wsL_law0_r15 (List.mem_of_getElem? (i := 8) rfl)
theorem mG_15_9 : Cond.code yX5_decided cX5_decided 2 (some .int) ∈ lw_G := gI_wsL_law0_r15 (List.mem_of_getElem? (i := 9) rfl)
theorem mG_15_10 : Cond.fieldLink RX5 129 "OrderJudge$QuickFilter" "clear" "I" ∈ lw_G := gI_wsL_law0_r15 (List.mem_of_getElem? (i := 10) rfl)
theorem mG_15_11 : Cond.fieldLink RX5 133 "OrderJudge$QuickFilter" "unclear" "I" ∈ lw_G := gI_wsL_law0_r15 (List.mem_of_getElem? (i := 11) rfl)
theorem mG_15_12 : Cond.fieldLink RX5 136 "OrderJudge$QuickFilter" "zeros" "I" ∈ lw_G := gI_wsL_law0_r15 (List.mem_of_getElem? (i := 12) rfl)
theorem mG_15_13 : Cond.methodLink RL 78 yX6_decided ∈ lw_G := gI_wsL_law0_r15 (List.mem_of_getElem? (i := 13) rfl)
theorem mG_15_14 : Cond.instanceMethod yX6_decided ∈ lw_G := gI_wsL_law0_r15 (List.mem_of_getElem? (i := 14) rfl)
theorem mG_15_15 : Cond.selects RX6 yX6_decided yX6_decided ∈ lw_G := gI_wsL_law0_r15 (List.mem_of_getElem? (i := 15) rfl)
theorem mG_15_16 : Cond.code yX6_decided cX6_decided 2 (some .int) ∈ lw_G := gI_wsL_law0_r15 (List.mem_of_getElem? (i := 16) rfl)
theorem mG_15_17 : Cond.methodLink RL 79 yX5_between ∈ lw_G := gI_wsL_law0_r15 (List.mem_of_getElem? (i := 17) rfl)
theorem mG_15_18 : Cond.instanceMethod yX5_between ∈ lw_G := gI_wsL_law0_r15 (List.mem_of_getElem? (i := 18) rfl)
theorem mG_15_19 : Cond.selects RX5 yX5_between yX5_between ∈ lw_G := gI_wsL_law0_r15 (List.mem_of_getElem? (i := 19) rfl)
theorem mG_15_20 : Cond.code yX5_between cX5_between 4 (some .int) ∈ lw_G := gI_wsL_law0_r15 (List.mem_of_getElem? (i := 20) rfl)
theorem mG_15_21 : Cond.methodLink RX5 139 yX0_betweenness ∈ lw_G := gI_wsL_law0_r15 (List.mem_of_getElem? (i := 21) rfl)
theorem mG_15_22 : Cond.instanceMethod yX0_betweenness ∈ lw_G := gI_wsL_law0_r15 (List.mem_of_getElem? (i := 22) rfl)
theorem mG_15_23 : Cond.selects RX0 yX0_betweenness yX0_betweenness ∈ lw_G := gI_wsL_law0_r15 (List.mem_of_getElem? (i := 23) rfl)
theorem mG_16_0 : Cond.code yX0_betweenness cX0_betweenness 4 (some .int) ∈ lw_G := gI_wsL_law0_r16 (List.mem_of_getElem? (i := 0) rfl)
theorem mG_16_1 : Cond.methodLink RX0 15 yX2_equal ∈ lw_G := gI_wsL_law0_r16 (List.mem_of_getElem? (i := 1) rfl)
theorem mG_16_2 : Cond.methodLink RX0 21 yX2_onSegment ∈ lw_G := gI_wsL_law0_r16 (List.mem_of_getElem? (i := 2) rfl)
theorem mG_16_3 : Cond.instanceMethod yX2_onSegment ∈ lw_G := gI_wsL_law0_r16 (List.mem_of_getElem? (i := 3) rfl)
theorem mG_16_4 : Cond.selects RX2 yX2_onSegment yX2_onSegment ∈ lw_G := gI_wsL_law0_r16 (List.mem_of_getElem? (i := 4) rfl)
theorem mG_16_5 : Cond.code yX2_onSegment cX2_onSegment 4 (some .boolean) ∈ lw_G := gI_wsL_law0_r16 (List.mem_of_getElem? (i := 5) rfl)
theorem mG_16_6 : Cond.methodLink RX2 41 yX2_liesAmong ∈ lw_G := gI_wsL_law0_r16 (List.mem_of_getElem? (i := 6) rfl)
theorem mG_16_7 : Cond.static yX2_liesAmong ∈ lw_G := gI_wsL_law0_r16 (List.mem_of_getElem? (i := 7) rfl)
theorem mG_16_8 : Cond.code yX2_liesAmong cX2_liesAmong 3 (some .boolean) ∈ lw_G := gI_wsL_law0_r16 (List.mem_of_getElem? (i := 8) rfl)
theorem mG_16_9 : Cond.methodLink RX2 45 Lib.Math.min.name ∈ lw_G := gI_wsL_law0_r16 (List.mem_of_getElem? (i := 9) rfl)
theorem mG_16_10 : Cond.static Lib.Math.min.name ∈ lw_G := gI_wsL_law0_r16 (List.mem_of_getElem? (i := 10) rfl)
theorem mG_16_11 : Cond.initialized "java/lang/Math" ∈ lw_G := gI_wsL_law0_r16 (List.mem_of_getElem? (i := 11) rfl)
theorem mG_16_12 : Cond.code Lib.Math.min.name Lib.Math.min.code 2 (some .int) ∈ lw_G := gI_wsL_law0_r16 (List.mem_of_getElem? (i := 12) rfl)
theorem mG_16_13 : Cond.methodLink RX2 50 Lib.Math.max.name ∈ lw_G := gI_wsL_law0_r16 (List.mem_of_getElem? (i := 13) rfl)
theorem mG_16_14 : Cond.static Lib.Math.max.name ∈ lw_G := gI_wsL_law0_r16 (List.mem_of_getElem? (i := 14) rfl)
theorem mG_16_15 : Cond.code Lib.Math.max.name Lib.Math.max.code 2 (some .int) ∈ lw_G := gI_wsL_law0_r16 (List.mem_of_getElem? (i := 15) rfl)
theorem mG_16_16 : Cond.methodLink RL 82 yX6_between ∈ lw_G := gI_wsL_law0_r16 (List.mem_of_getElem? (i := 16) rfl)
theorem mG_16_17 : Cond.instanceMethod yX6_between ∈ lw_G := gI_wsL_law0_r16 (List.mem_of_getElem? (i := 17) rfl)
theorem mG_16_18 : Cond.selects RX6 yX6_between yX6_between ∈ lw_G := gI_wsL_law0_r16 (List.mem_of_getElem? (i := 18) rfl)
theorem mG_16_19 : Cond.code yX6_between cX6_between 4 (some .int) ∈ lw_G := gI_wsL_law0_r16 (List.mem_of_getElem? (i := 19) rfl)
theorem mG_16_20 : Cond.methodLink RX6 131 yX6_isOn ∈ lw_G := gI_wsL_law0_r16 (List.mem_of_getElem? (i := 20) rfl)
theorem mG_16_21 : Cond.instanceMethod yX6_isOn ∈ lw_G := gI_wsL_law0_r16 (List.mem_of_getElem? (i := 21) rfl)
theorem mG_16_22 : Cond.selects RX6 yX6_isOn yX6_isOn ∈ lw_G := gI_wsL_law0_r16 (List.mem_of_getElem? (i := 22) rfl)
theorem mG_16_23 : Cond.code yX6_isOn cX6_isOn 4 (some .boolean) ∈ lw_G := gI_wsL_law0_r16 (List.mem_of_getElem? (i := 23) rfl)
theorem mG_17_0 : Cond.methodLink RX6 127 yX6_along ∈ lw_G := gI_wsL_law0_r17 (List.mem_of_getElem? (i := 0) rfl)
theorem mG_17_1 : Cond.instanceMethod yX6_along ∈ lw_G := gI_wsL_law0_r17 (List.mem_of_getElem? (i := 1) rfl)
theorem mG_17_2 : Cond.selects RX6 yX6_along yX6_along ∈ lw_G := gI_wsL_law0_r17 (List.mem_of_getElem? (i := 2) rfl)
theorem mG_17_3 : Cond.code yX6_along cX6_along 4 (some .long) ∈ lw_G := gI_wsL_law0_r17 (List.mem_of_getElem? (i := 3) rfl)
theorem mG_17_4 : Cond.methodLink RL 83 yX5_inside ∈ lw_G := gI_wsL_law0_r17 (List.mem_of_getElem? (i := 4) rfl)
theorem mG_17_5 : Cond.instanceMethod yX5_inside ∈ lw_G := gI_wsL_law0_r17 (List.mem_of_getElem? (i := 5) rfl)
theorem mG_17_6 : Cond.selects RX5 yX5_inside yX5_inside ∈ lw_G := gI_wsL_law0_r17 (List.mem_of_getElem? (i := 6) rfl)
theorem mG_17_7 : Cond.code yX5_inside cX5_inside 5 (some .int) ∈ lw_G := gI_wsL_law0_r17 (List.mem_of_getElem? (i := 7) rfl)
theorem mG_17_8 : Cond.methodLink RX5 142 yX0_withinAngle ∈ lw_G := gI_wsL_law0_r17 (List.mem_of_getElem? (i := 8) rfl)
theorem mG_17_9 : Cond.instanceMethod yX0_withinAngle ∈ lw_G := gI_wsL_law0_r17 (List.mem_of_getElem? (i := 9) rfl)
theorem mG_17_10 : Cond.selects RX0 yX0_withinAngle yX0_withinAngle ∈ lw_G := gI_wsL_law0_r17 (List.mem_of_getElem? (i := 10) rfl)
theorem mG_17_11 : Cond.code yX0_withinAngle cX0_withinAngle 9 (some .int) ∈ lw_G := gI_wsL_law0_r17 (List.mem_of_getElem? (i := 11) rfl)
theorem mG_17_12 : Cond.methodLink RX0 25 yX2_sameDirection ∈ lw_G := gI_wsL_law0_r17 (List.mem_of_getElem? (i := 12) rfl)
theorem mG_17_13 : Cond.instanceMethod yX2_sameDirection ∈ lw_G := gI_wsL_law0_r17 (List.mem_of_getElem? (i := 13) rfl)
theorem mG_17_14 : Cond.selects RX2 yX2_sameDirection yX2_sameDirection ∈ lw_G := gI_wsL_law0_r17 (List.mem_of_getElem? (i := 14) rfl)
theorem mG_17_15 : Cond.code yX2_sameDirection cX2_sameDirection 6 (some .boolean) ∈ lw_G := gI_wsL_law0_r17 (List.mem_of_getElem? (i := 15) rfl)
theorem mG_17_16 : Cond.methodLink RX0 28 yX2_turn ∈ lw_G := gI_wsL_law0_r17 (List.mem_of_getElem? (i := 16) rfl)
theorem mG_17_17 : Cond.methodLink RL 86 yX6_inside ∈ lw_G := gI_wsL_law0_r17 (List.mem_of_getElem? (i := 17) rfl)
theorem mG_17_18 : Cond.instanceMethod yX6_inside ∈ lw_G := gI_wsL_law0_r17 (List.mem_of_getElem? (i := 18) rfl)
theorem mG_17_19 : Cond.selects RX6 yX6_inside yX6_inside ∈ lw_G := gI_wsL_law0_r17 (List.mem_of_getElem? (i := 19) rfl)
theorem mG_17_20 : Cond.code yX6_inside cX6_inside 6 (some .int) ∈ lw_G := gI_wsL_law0_r17 (List.mem_of_getElem? (i := 20) rfl)
theorem mG_17_21 : Cond.methodLink RX6 133 yX6_isOneWay ∈ lw_G := gI_wsL_law0_r17 (List.mem_of_getElem? (i := 21) rfl)
theorem mG_17_22 : Cond.instanceMethod yX6_isOneWay ∈ lw_G := gI_wsL_law0_r17 (List.mem_of_getElem? (i := 22) rfl)
theorem mG_17_23 : Cond.selects RX6 yX6_isOneWay yX6_isOneWay ∈ lw_G := gI_wsL_law0_r17 (List.mem_of_getElem? (i := 23) rfl)
theorem mG_18_0 : Cond.code yX6_isOneWay cX6_isOneWay 4 (some .boolean) ∈ lw_G := gI_wsL_law0_r18 (List.mem_of_getElem? (i := 0) rfl)
theorem mG_18_1 : Cond.methodLink RL 87 yX5_cross ∈ lw_G := gI_wsL_law0_r18 (List.mem_of_getElem? (i := 1) rfl)
theorem mG_18_2 : Cond.instanceMethod yX5_cross ∈ lw_G := gI_wsL_law0_r18 (List.mem_of_getElem? (i := 2) rfl)
theorem mG_18_3 : Cond.selects RX5 yX5_cross yX5_cross ∈ lw_G := gI_wsL_law0_r18 (List.mem_of_getElem? (i := 3) rfl)
theorem mG_18_4 : Cond.code yX5_cross cX5_cross 5 (some .int) ∈ lw_G := gI_wsL_law0_r18 (List.mem_of_getElem? (i := 4) rfl)
theorem mG_18_5 : Cond.methodLink RX5 145 yX0_crossing ∈ lw_G := gI_wsL_law0_r18 (List.mem_of_getElem? (i := 5) rfl)
theorem mG_18_6 : Cond.instanceMethod yX0_crossing ∈ lw_G := gI_wsL_law0_r18 (List.mem_of_getElem? (i := 6) rfl)
theorem mG_18_7 : Cond.selects RX0 yX0_crossing yX0_crossing ∈ lw_G := gI_wsL_law0_r18 (List.mem_of_getElem? (i := 7) rfl)
theorem mG_18_8 : Cond.code yX0_crossing cX0_crossing 9 (some .int) ∈ lw_G := gI_wsL_law0_r18 (List.mem_of_getElem? (i := 8) rfl)
theorem mG_18_9 : Cond.methodLink RX0 32 yX0_overlap ∈ lw_G := gI_wsL_law0_r18 (List.mem_of_getElem? (i := 9) rfl)
theorem mG_18_10 : Cond.instanceMethod yX0_overlap ∈ lw_G := gI_wsL_law0_r18 (List.mem_of_getElem? (i := 10) rfl)
theorem mG_18_11 : Cond.selects RX0 yX0_overlap yX0_overlap ∈ lw_G := gI_wsL_law0_r18 (List.mem_of_getElem? (i := 11) rfl)
theorem mG_18_12 : Cond.code yX0_overlap cX0_overlap 8 (some .int) ∈ lw_G := gI_wsL_law0_r18 (List.mem_of_getElem? (i := 12) rfl)
theorem mG_18_13 : Cond.methodLink RX0 36 yX0_earlier ∈ lw_G := gI_wsL_law0_r18 (List.mem_of_getElem? (i := 13) rfl)
theorem mG_18_14 : Cond.instanceMethod yX0_earlier ∈ lw_G := gI_wsL_law0_r18 (List.mem_of_getElem? (i := 14) rfl)
theorem mG_18_15 : Cond.selects RX0 yX0_earlier yX0_earlier ∈ lw_G := gI_wsL_law0_r18 (List.mem_of_getElem? (i := 15) rfl)
theorem mG_18_16 : Cond.code yX0_earlier cX0_earlier 3 (some .int) ∈ lw_G := gI_wsL_law0_r18 (List.mem_of_getElem? (i := 16) rfl)
theorem mG_18_17 : Cond.methodLink RX0 43 yX2_compare ∈ lw_G := gI_wsL_law0_r18 (List.mem_of_getElem? (i := 17) rfl)
theorem mG_18_18 : Cond.methodLink RX0 40 yX0_later ∈ lw_G := gI_wsL_law0_r18 (List.mem_of_getElem? (i := 18) rfl)
theorem mG_18_19 : Cond.instanceMethod yX0_later ∈ lw_G := gI_wsL_law0_r18 (List.mem_of_getElem? (i := 19) rfl)
theorem mG_18_20 : Cond.selects RX0 yX0_later yX0_later ∈ lw_G := gI_wsL_law0_r18 (List.mem_of_getElem? (i := 20) rfl)
theorem mG_18_21 : Cond.code yX0_later cX0_later 3 (some .int) ∈ lw_G := gI_wsL_law0_r18 (List.mem_of_getElem? (i := 21) rfl)
theorem mG_18_22 : Cond.methodLink RL 90 yX6_cross ∈ lw_G := gI_wsL_law0_r18 (List.mem_of_getElem? (i := 22) rfl)
theorem mG_18_23 : Cond.instanceMethod yX6_cross ∈ lw_G := gI_wsL_law0_r18 (List.mem_of_getElem? (i := 23) rfl)
theorem mG_19_0 : Cond.selects RX6 yX6_cross yX6_cross ∈ lw_G := gI_wsL_law0_r19 (List.mem_of_getElem? (i := 0) rfl)
theorem mG_19_1 : Cond.code yX6_cross cX6_cross 11 (some .int) ∈ lw_G := gI_wsL_law0_r19 (List.mem_of_getElem? (i := 1) rfl)
theorem mG_19_2 : Cond.methodLink RX6 136 yX6_common ∈ lw_G := gI_wsL_law0_r19 (List.mem_of_getElem? (i := 2) rfl)
theorem mG_19_3 : Cond.instanceMethod yX6_common ∈ lw_G := gI_wsL_law0_r19 (List.mem_of_getElem? (i := 3) rfl)
theorem mG_19_4 : Cond.selects RX6 yX6_common yX6_common ∈ lw_G := gI_wsL_law0_r19 (List.mem_of_getElem? (i := 4) rfl)
theorem mG_19_5 : Cond.code yX6_common cX6_common 10 (some .int) ∈ lw_G := gI_wsL_law0_r19 (List.mem_of_getElem? (i := 5) rfl)
theorem mG_19_6 : Cond.methodLink RL 91 yX5_separated ∈ lw_G := gI_wsL_law0_r19 (List.mem_of_getElem? (i := 6) rfl)
theorem mG_19_7 : Cond.instanceMethod yX5_separated ∈ lw_G := gI_wsL_law0_r19 (List.mem_of_getElem? (i := 7) rfl)
theorem mG_19_8 : Cond.selects RX5 yX5_separated yX5_separated ∈ lw_G := gI_wsL_law0_r19 (List.mem_of_getElem? (i := 8) rfl)
theorem mG_19_9 : Cond.code yX5_separated cX5_separated 5 (some .int) ∈ lw_G := gI_wsL_law0_r19 (List.mem_of_getElem? (i := 9) rfl)
theorem mG_19_10 : Cond.methodLink RX5 148 yX0_separation ∈ lw_G := gI_wsL_law0_r19 (List.mem_of_getElem? (i := 10) rfl)
theorem mG_19_11 : Cond.instanceMethod yX0_separation ∈ lw_G := gI_wsL_law0_r19 (List.mem_of_getElem? (i := 11) rfl)
theorem mG_19_12 : Cond.selects RX0 yX0_separation yX0_separation ∈ lw_G := gI_wsL_law0_r19 (List.mem_of_getElem? (i := 12) rfl)
theorem mG_19_13 : Cond.code yX0_separation cX0_separation 7 (some .int) ∈ lw_G := gI_wsL_law0_r19 (List.mem_of_getElem? (i := 13) rfl)
theorem mG_19_14 : Cond.methodLink RX0 46 yX0_anyEqual ∈ lw_G := gI_wsL_law0_r19 (List.mem_of_getElem? (i := 14) rfl)
theorem mG_19_15 : Cond.instanceMethod yX0_anyEqual ∈ lw_G := gI_wsL_law0_r19 (List.mem_of_getElem? (i := 15) rfl)
theorem mG_19_16 : Cond.selects RX0 yX0_anyEqual yX0_anyEqual ∈ lw_G := gI_wsL_law0_r19 (List.mem_of_getElem? (i := 16) rfl)
theorem mG_19_17 : Cond.code yX0_anyEqual cX0_anyEqual 5 (some .boolean) ∈ lw_G := gI_wsL_law0_r19 (List.mem_of_getElem? (i := 17) rfl)
theorem mG_19_18 : Cond.methodLink RX0 50 yX2_ring ∈ lw_G := gI_wsL_law0_r19 (List.mem_of_getElem? (i := 18) rfl)
theorem mG_19_19 : Cond.methodLink RL 94 yX6_separated ∈ lw_G := gI_wsL_law0_r19 (List.mem_of_getElem? (i := 19) rfl)
theorem mG_19_20 : Cond.instanceMethod yX6_separated ∈ lw_G := gI_wsL_law0_r19 (List.mem_of_getElem? (i := 20) rfl)
theorem mG_19_21 : Cond.selects RX6 yX6_separated yX6_separated ∈ lw_G := gI_wsL_law0_r19 (List.mem_of_getElem? (i := 21) rfl)
theorem mG_19_22 : Cond.code yX6_separated cX6_separated 7 (some .int) ∈ lw_G := gI_wsL_law0_r19 (List.mem_of_getElem? (i := 22) rfl)
theorem mG_19_23 : Cond.methodLink RL 95 yX5_convex ∈ lw_G := gI_wsL_law0_r19 (List.mem_of_getElem? (i := 23) rfl)
theorem mG_20_0 : Cond.instanceMethod yX5_convex ∈ lw_G := gI_wsL_law0_r20 (List.mem_of_getElem? (i := 0) rfl)
theorem mG_20_1 : Cond.selects RX5 yX5_convex yX5_convex ∈ lw_G := gI_wsL_law0_r20 (List.mem_of_getElem? (i := 1) rfl)
theorem mG_20_2 : Cond.code yX5_convex cX5_convex 3 (some .int) ∈ lw_G := gI_wsL_law0_r20 (List.mem_of_getElem? (i := 2) rfl)
theorem mG_20_3 : Cond.methodLink RX5 151 yX4_fault ∈ lw_G := gI_wsL_law0_r20 (List.mem_of_getElem? (i := 3) rfl)
theorem mG_20_4 : Cond.instanceMethod yX4_fault ∈ lw_G := gI_wsL_law0_r20 (List.mem_of_getElem? (i := 4) rfl)
theorem mG_20_5 : Cond.selects RX4 yX4_fault yX4_fault ∈ lw_G := gI_wsL_law0_r20 (List.mem_of_getElem? (i := 5) rfl)
theorem mG_20_6 : Cond.code yX4_fault cX4_fault 4 (some .int) ∈ lw_G := gI_wsL_law0_r20 (List.mem_of_getElem? (i := 6) rfl)
theorem mG_20_7 : Cond.methodLink RX5 154 yX4_convexity ∈ lw_G := gI_wsL_law0_r20 (List.mem_of_getElem? (i := 7) rfl)
theorem mG_20_8 : Cond.instanceMethod yX4_convexity ∈ lw_G := gI_wsL_law0_r20 (List.mem_of_getElem? (i := 8) rfl)
theorem mG_20_9 : Cond.selects RX4 yX4_convexity yX4_convexity ∈ lw_G := gI_wsL_law0_r20 (List.mem_of_getElem? (i := 9) rfl)
theorem mG_20_10 : Cond.code yX4_convexity cX4_convexity 5 (some .int) ∈ lw_G := gI_wsL_law0_r20 (List.mem_of_getElem? (i := 10) rfl)
theorem mG_20_11 : Cond.methodLink RX4 23 yX4_sideOfOther ∈ lw_G := gI_wsL_law0_r20 (List.mem_of_getElem? (i := 11) rfl)
theorem mG_20_12 : Cond.instanceMethod yX4_sideOfOther ∈ lw_G := gI_wsL_law0_r20 (List.mem_of_getElem? (i := 12) rfl)
theorem mG_20_13 : Cond.selects RX4 yX4_sideOfOther yX4_sideOfOther ∈ lw_G := gI_wsL_law0_r20 (List.mem_of_getElem? (i := 13) rfl)
theorem mG_20_14 : Cond.code yX4_sideOfOther cX4_sideOfOther 5 (some .int) ∈ lw_G := gI_wsL_law0_r20 (List.mem_of_getElem? (i := 14) rfl)
theorem mG_20_15 : Cond.methodLink RX4 27 yX4_endOf ∈ lw_G := gI_wsL_law0_r20 (List.mem_of_getElem? (i := 15) rfl)
theorem mG_20_16 : Cond.instanceMethod yX4_endOf ∈ lw_G := gI_wsL_law0_r20 (List.mem_of_getElem? (i := 16) rfl)
theorem mG_20_17 : Cond.selects RX4 yX4_endOf yX4_endOf ∈ lw_G := gI_wsL_law0_r20 (List.mem_of_getElem? (i := 17) rfl)
theorem mG_20_18 : Cond.code yX4_endOf cX4_endOf 3 (some .int) ∈ lw_G := gI_wsL_law0_r20 (List.mem_of_getElem? (i := 18) rfl)
theorem mG_20_19 : Cond.methodLink RX4 31 yX2_turn ∈ lw_G := gI_wsL_law0_r20 (List.mem_of_getElem? (i := 19) rfl)
theorem mG_20_20 : Cond.methodLink RL 98 yX6_convex ∈ lw_G := gI_wsL_law0_r20 (List.mem_of_getElem? (i := 20) rfl)
theorem mG_20_21 : Cond.instanceMethod yX6_convex ∈ lw_G := gI_wsL_law0_r20 (List.mem_of_getElem? (i := 21) rfl)
theorem mG_20_22 : Cond.selects RX6 yX6_convex yX6_convex ∈ lw_G := gI_wsL_law0_r20 (List.mem_of_getElem? (i := 22) rfl)
theorem mG_20_23 : Cond.code yX6_convex cX6_convex 8 (some .int) ∈ lw_G := gI_wsL_law0_r20 (List.mem_of_getElem? (i := 23) rfl)
theorem mG_21_0 : Cond.methodLink RX6 139 yX6_isMany ∈ lw_G := gI_wsL_law0_r21 (List.mem_of_getElem? (i := 0) rfl)
theorem mG_21_1 : Cond.instanceMethod yX6_isMany ∈ lw_G := gI_wsL_law0_r21 (List.mem_of_getElem? (i := 1) rfl)
theorem mG_21_2 : Cond.selects RX6 yX6_isMany yX6_isMany ∈ lw_G := gI_wsL_law0_r21 (List.mem_of_getElem? (i := 2) rfl)
theorem mG_21_3 : Cond.code yX6_isMany cX6_isMany 3 (some .boolean) ∈ lw_G := gI_wsL_law0_r21 (List.mem_of_getElem? (i := 3) rfl)
theorem mG_21_4 : Cond.methodLink RX6 142 yX6_isWhole ∈ lw_G := gI_wsL_law0_r21 (List.mem_of_getElem? (i := 4) rfl)
theorem mG_21_5 : Cond.instanceMethod yX6_isWhole ∈ lw_G := gI_wsL_law0_r21 (List.mem_of_getElem? (i := 5) rfl)
theorem mG_21_6 : Cond.selects RX6 yX6_isWhole yX6_isWhole ∈ lw_G := gI_wsL_law0_r21 (List.mem_of_getElem? (i := 6) rfl)
theorem mG_21_7 : Cond.code yX6_isWhole cX6_isWhole 4 (some .boolean) ∈ lw_G := gI_wsL_law0_r21 (List.mem_of_getElem? (i := 7) rfl)
theorem mG_21_8 : Cond.methodLink RX6 145 yX6_next ∈ lw_G := gI_wsL_law0_r21 (List.mem_of_getElem? (i := 8) rfl)
theorem mG_21_9 : Cond.instanceMethod yX6_next ∈ lw_G := gI_wsL_law0_r21 (List.mem_of_getElem? (i := 9) rfl)
theorem mG_21_10 : Cond.selects RX6 yX6_next yX6_next ∈ lw_G := gI_wsL_law0_r21 (List.mem_of_getElem? (i := 10) rfl)
theorem mG_21_11 : Cond.code yX6_next cX6_next 3 (some .int) ∈ lw_G := gI_wsL_law0_r21 (List.mem_of_getElem? (i := 11) rfl)
theorem mG_21_12 : Cond.methodLink RL 99 yX5_polygon ∈ lw_G := gI_wsL_law0_r21 (List.mem_of_getElem? (i := 12) rfl)
theorem mG_21_13 : Cond.instanceMethod yX5_polygon ∈ lw_G := gI_wsL_law0_r21 (List.mem_of_getElem? (i := 13) rfl)
theorem mG_21_14 : Cond.selects RX5 yX5_polygon yX5_polygon ∈ lw_G := gI_wsL_law0_r21 (List.mem_of_getElem? (i := 14) rfl)
theorem mG_21_15 : Cond.code yX5_polygon cX5_polygon 4 (some .int) ∈ lw_G := gI_wsL_law0_r21 (List.mem_of_getElem? (i := 15) rfl)
theorem mG_21_16 : Cond.methodLink RX5 157 yX4_anyEdgeHolds ∈ lw_G := gI_wsL_law0_r21 (List.mem_of_getElem? (i := 16) rfl)
theorem mG_21_17 : Cond.instanceMethod yX4_anyEdgeHolds ∈ lw_G := gI_wsL_law0_r21 (List.mem_of_getElem? (i := 17) rfl)
theorem mG_21_18 : Cond.selects RX4 yX4_anyEdgeHolds yX4_anyEdgeHolds ∈ lw_G := gI_wsL_law0_r21 (List.mem_of_getElem? (i := 18) rfl)
theorem mG_21_19 : Cond.code yX4_anyEdgeHolds cX4_anyEdgeHolds 4 (some .boolean) ∈ lw_G := gI_wsL_law0_r21 (List.mem_of_getElem? (i := 19) rfl)
theorem mG_21_20 : Cond.methodLink RX4 36 yX2_onSegment ∈ lw_G := gI_wsL_law0_r21 (List.mem_of_getElem? (i := 20) rfl)
theorem mG_21_21 : Cond.methodLink RX5 160 yX4_risesAt ∈ lw_G := gI_wsL_law0_r21 (List.mem_of_getElem? (i := 21) rfl)
theorem mG_21_22 : Cond.instanceMethod yX4_risesAt ∈ lw_G := gI_wsL_law0_r21 (List.mem_of_getElem? (i := 22) rfl)
theorem mG_21_23 : Cond.selects RX4 yX4_risesAt yX4_risesAt ∈ lw_G := gI_wsL_law0_r21 (List.mem_of_getElem? (i := 23) rfl)
theorem mG_22_0 : Cond.code yX4_risesAt cX4_risesAt 5 (some .int) ∈ lw_G := gI_wsL_law0_r22 (List.mem_of_getElem? (i := 0) rfl)
theorem mG_22_1 : Cond.methodLink RX4 40 yX4_climbsBeside ∈ lw_G := gI_wsL_law0_r22 (List.mem_of_getElem? (i := 1) rfl)
theorem mG_22_2 : Cond.instanceMethod yX4_climbsBeside ∈ lw_G := gI_wsL_law0_r22 (List.mem_of_getElem? (i := 2) rfl)
theorem mG_22_3 : Cond.selects RX4 yX4_climbsBeside yX4_climbsBeside ∈ lw_G := gI_wsL_law0_r22 (List.mem_of_getElem? (i := 3) rfl)
theorem mG_22_4 : Cond.code yX4_climbsBeside cX4_climbsBeside 5 (some .boolean) ∈ lw_G := gI_wsL_law0_r22 (List.mem_of_getElem? (i := 4) rfl)
theorem mG_22_5 : Cond.fieldLink RX4 43 "OrderJudge$Points" "ys" "[I" ∈ lw_G := gI_wsL_law0_r22 (List.mem_of_getElem? (i := 5) rfl)
theorem mG_22_6 : Cond.methodLink RX5 163 yX4_fallsAt ∈ lw_G := gI_wsL_law0_r22 (List.mem_of_getElem? (i := 6) rfl)
theorem mG_22_7 : Cond.instanceMethod yX4_fallsAt ∈ lw_G := gI_wsL_law0_r22 (List.mem_of_getElem? (i := 7) rfl)
theorem mG_22_8 : Cond.selects RX4 yX4_fallsAt yX4_fallsAt ∈ lw_G := gI_wsL_law0_r22 (List.mem_of_getElem? (i := 8) rfl)
theorem mG_22_9 : Cond.code yX4_fallsAt cX4_fallsAt 5 (some .int) ∈ lw_G := gI_wsL_law0_r22 (List.mem_of_getElem? (i := 9) rfl)
theorem mG_22_10 : Cond.methodLink RL 102 yX6_polygon ∈ lw_G := gI_wsL_law0_r22 (List.mem_of_getElem? (i := 10) rfl)
theorem mG_22_11 : Cond.instanceMethod yX6_polygon ∈ lw_G := gI_wsL_law0_r22 (List.mem_of_getElem? (i := 11) rfl)
theorem mG_22_12 : Cond.selects RX6 yX6_polygon yX6_polygon ∈ lw_G := gI_wsL_law0_r22 (List.mem_of_getElem? (i := 12) rfl)
theorem mG_22_13 : Cond.code yX6_polygon cX6_polygon 5 (some .int) ∈ lw_G := gI_wsL_law0_r22 (List.mem_of_getElem? (i := 13) rfl)
theorem mG_22_14 : Cond.methodLink RX6 149 yX6_isOnEdge ∈ lw_G := gI_wsL_law0_r22 (List.mem_of_getElem? (i := 14) rfl)
theorem mG_22_15 : Cond.instanceMethod yX6_isOnEdge ∈ lw_G := gI_wsL_law0_r22 (List.mem_of_getElem? (i := 15) rfl)
theorem mG_22_16 : Cond.selects RX6 yX6_isOnEdge yX6_isOnEdge ∈ lw_G := gI_wsL_law0_r22 (List.mem_of_getElem? (i := 16) rfl)
theorem mG_22_17 : Cond.code yX6_isOnEdge cX6_isOnEdge 5 (some .boolean) ∈ lw_G := gI_wsL_law0_r22 (List.mem_of_getElem? (i := 17) rfl)
theorem mG_22_18 : Cond.methodLink RX6 152 yX6_rises ∈ lw_G := gI_wsL_law0_r22 (List.mem_of_getElem? (i := 18) rfl)
theorem mG_22_19 : Cond.instanceMethod yX6_rises ∈ lw_G := gI_wsL_law0_r22 (List.mem_of_getElem? (i := 19) rfl)
theorem mG_22_20 : Cond.selects RX6 yX6_rises yX6_rises ∈ lw_G := gI_wsL_law0_r22 (List.mem_of_getElem? (i := 20) rfl)
theorem mG_22_21 : Cond.code yX6_rises cX6_rises 8 (some .int) ∈ lw_G := gI_wsL_law0_r22 (List.mem_of_getElem? (i := 21) rfl)
theorem mG_22_22 : Cond.methodLink RL 103 yX5_winding ∈ lw_G := gI_wsL_law0_r22 (List.mem_of_getElem? (i := 22) rfl)
theorem mG_22_23 : Cond.instanceMethod yX5_winding ∈ lw_G := gI_wsL_law0_r22 (List.mem_of_getElem? (i := 23) rfl)
theorem mG_23_0 : Cond.selects RX5 yX5_winding yX5_winding ∈ lw_G := gI_wsL_law0_r23 (List.mem_of_getElem? (i := 0) rfl)
theorem mG_23_1 : Cond.code yX5_winding cX5_winding 3 (some .int) ∈ lw_G := gI_wsL_law0_r23 (List.mem_of_getElem? (i := 1) rfl)
theorem mG_23_2 : Cond.methodLink RL 106 yX6_winding ∈ lw_G := gI_wsL_law0_r23 (List.mem_of_getElem? (i := 2) rfl)
theorem mG_23_3 : Cond.instanceMethod yX6_winding ∈ lw_G := gI_wsL_law0_r23 (List.mem_of_getElem? (i := 3) rfl)
theorem mG_23_4 : Cond.selects RX6 yX6_winding yX6_winding ∈ lw_G := gI_wsL_law0_r23 (List.mem_of_getElem? (i := 4) rfl)
theorem mG_23_5 : Cond.code yX6_winding cX6_winding 5 (some .int) ∈ lw_G := gI_wsL_law0_r23 (List.mem_of_getElem? (i := 5) rfl)
theorem mG_23_6 : Cond.methodLink RL 107 yX5_nearest ∈ lw_G := gI_wsL_law0_r23 (List.mem_of_getElem? (i := 6) rfl)
theorem mG_23_7 : Cond.instanceMethod yX5_nearest ∈ lw_G := gI_wsL_law0_r23 (List.mem_of_getElem? (i := 7) rfl)
theorem mG_23_8 : Cond.selects RX5 yX5_nearest yX5_nearest ∈ lw_G := gI_wsL_law0_r23 (List.mem_of_getElem? (i := 8) rfl)
theorem mG_23_9 : Cond.code yX5_nearest cX5_nearest 4 (some .int) ∈ lw_G := gI_wsL_law0_r23 (List.mem_of_getElem? (i := 9) rfl)
theorem mG_23_10 : Cond.methodLink RX5 166 yX4_nearestBits ∈ lw_G := gI_wsL_law0_r23 (List.mem_of_getElem? (i := 10) rfl)
theorem mG_23_11 : Cond.instanceMethod yX4_nearestBits ∈ lw_G := gI_wsL_law0_r23 (List.mem_of_getElem? (i := 11) rfl)
theorem mG_23_12 : Cond.selects RX4 yX4_nearestBits yX4_nearestBits ∈ lw_G := gI_wsL_law0_r23 (List.mem_of_getElem? (i := 12) rfl)
theorem mG_23_13 : Cond.code yX4_nearestBits cX4_nearestBits 9 (some .int) ∈ lw_G := gI_wsL_law0_r23 (List.mem_of_getElem? (i := 13) rfl)
theorem mG_23_14 : Cond.methodLink RX4 46 yX2_distance ∈ lw_G := gI_wsL_law0_r23 (List.mem_of_getElem? (i := 14) rfl)
theorem mG_23_15 : Cond.instanceMethod yX2_distance ∈ lw_G := gI_wsL_law0_r23 (List.mem_of_getElem? (i := 15) rfl)
theorem mG_23_16 : Cond.selects RX2 yX2_distance yX2_distance ∈ lw_G := gI_wsL_law0_r23 (List.mem_of_getElem? (i := 16) rfl)
theorem mG_23_17 : Cond.code yX2_distance cX2_distance 7 (some .long) ∈ lw_G := gI_wsL_law0_r23 (List.mem_of_getElem? (i := 17) rfl)
theorem mG_23_18 : Cond.methodLink RL 110 yX6_nearest ∈ lw_G := gI_wsL_law0_r23 (List.mem_of_getElem? (i := 18) rfl)
theorem mG_23_19 : Cond.instanceMethod yX6_nearest ∈ lw_G := gI_wsL_law0_r23 (List.mem_of_getElem? (i := 19) rfl)
theorem mG_23_20 : Cond.selects RX6 yX6_nearest yX6_nearest ∈ lw_G := gI_wsL_law0_r23 (List.mem_of_getElem? (i := 20) rfl)
theorem mG_23_21 : Cond.code yX6_nearest cX6_nearest 9 (some .int) ∈ lw_G := gI_wsL_law0_r23 (List.mem_of_getElem? (i := 21) rfl)
theorem mG_23_22 : Cond.methodLink RX6 155 yX6_far ∈ lw_G := gI_wsL_law0_r23 (List.mem_of_getElem? (i := 22) rfl)
theorem mG_23_23 : Cond.instanceMethod yX6_far ∈ lw_G := gI_wsL_law0_r23 (List.mem_of_getElem? (i := 23) rfl)
theorem mG_24_0 : Cond.selects RX6 yX6_far yX6_far ∈ lw_G := gI_wsL_law0_r24 (List.mem_of_getElem? (i := 0) rfl)
theorem mG_24_1 : Cond.code yX6_far cX6_far 3 (some .long) ∈ lw_G := gI_wsL_law0_r24 (List.mem_of_getElem? (i := 1) rfl)
theorem mG_24_2 : Cond.methodLink RL 111 yX5_around ∈ lw_G := gI_wsL_law0_r24 (List.mem_of_getElem? (i := 2) rfl)
theorem mG_24_3 : Cond.instanceMethod yX5_around ∈ lw_G := gI_wsL_law0_r24 (List.mem_of_getElem? (i := 3) rfl)
theorem mG_24_4 : Cond.selects RX5 yX5_around yX5_around ∈ lw_G := gI_wsL_law0_r24 (List.mem_of_getElem? (i := 4) rfl)
theorem mG_24_5 : Cond.code yX5_around cX5_around 5 (some .int) ∈ lw_G := gI_wsL_law0_r24 (List.mem_of_getElem? (i := 5) rfl)
theorem mG_24_6 : Cond.methodLink RX5 169 yX4_placeRound ∈ lw_G := gI_wsL_law0_r24 (List.mem_of_getElem? (i := 6) rfl)
theorem mG_24_7 : Cond.instanceMethod yX4_placeRound ∈ lw_G := gI_wsL_law0_r24 (List.mem_of_getElem? (i := 7) rfl)
theorem mG_24_8 : Cond.selects RX4 yX4_placeRound yX4_placeRound ∈ lw_G := gI_wsL_law0_r24 (List.mem_of_getElem? (i := 8) rfl)
theorem mG_24_9 : Cond.code yX4_placeRound cX4_placeRound 5 (some .int) ∈ lw_G := gI_wsL_law0_r24 (List.mem_of_getElem? (i := 9) rfl)
theorem mG_24_10 : Cond.methodLink RX4 50 yX4_aheadRound ∈ lw_G := gI_wsL_law0_r24 (List.mem_of_getElem? (i := 10) rfl)
theorem mG_24_11 : Cond.instanceMethod yX4_aheadRound ∈ lw_G := gI_wsL_law0_r24 (List.mem_of_getElem? (i := 11) rfl)
theorem mG_24_12 : Cond.selects RX4 yX4_aheadRound yX4_aheadRound ∈ lw_G := gI_wsL_law0_r24 (List.mem_of_getElem? (i := 12) rfl)
theorem mG_24_13 : Cond.code yX4_aheadRound cX4_aheadRound 6 (some .int) ∈ lw_G := gI_wsL_law0_r24 (List.mem_of_getElem? (i := 13) rfl)
theorem mG_24_14 : Cond.methodLink RX4 53 yX4_compareRound ∈ lw_G := gI_wsL_law0_r24 (List.mem_of_getElem? (i := 14) rfl)
theorem mG_24_15 : Cond.instanceMethod yX4_compareRound ∈ lw_G := gI_wsL_law0_r24 (List.mem_of_getElem? (i := 15) rfl)
theorem mG_24_16 : Cond.selects RX4 yX4_compareRound yX4_compareRound ∈ lw_G := gI_wsL_law0_r24 (List.mem_of_getElem? (i := 16) rfl)
theorem mG_24_17 : Cond.code yX4_compareRound cX4_compareRound 10 (some .int) ∈ lw_G := gI_wsL_law0_r24 (List.mem_of_getElem? (i := 17) rfl)
theorem mG_24_18 : Cond.methodLink RX4 56 yX4_partOfTurn ∈ lw_G := gI_wsL_law0_r24 (List.mem_of_getElem? (i := 18) rfl)
theorem mG_24_19 : Cond.instanceMethod yX4_partOfTurn ∈ lw_G := gI_wsL_law0_r24 (List.mem_of_getElem? (i := 19) rfl)
theorem mG_24_20 : Cond.selects RX4 yX4_partOfTurn yX4_partOfTurn ∈ lw_G := gI_wsL_law0_r24 (List.mem_of_getElem? (i := 20) rfl)
theorem mG_24_21 : Cond.code yX4_partOfTurn cX4_partOfTurn 5 (some .int) ∈ lw_G := gI_wsL_law0_r24 (List.mem_of_getElem? (i := 21) rfl)
theorem mG_24_22 : Cond.fieldLink RX4 69 "OrderJudge$Points" "xs" "[I" ∈ lw_G := gI_wsL_law0_r24 (List.mem_of_getElem? (i := 22) rfl)
theorem mG_24_23 : Cond.methodLink RX4 59 yJ6_compare_7cf53 ∈ lw_G := gI_wsL_law0_r24 (List.mem_of_getElem? (i := 23) rfl)
theorem mG_25_0 : Cond.methodLink RX4 64 yJ13_compare_74951 ∈ lw_G := gI_wsL_law0_r25 (List.mem_of_getElem? (i := 0) rfl)
theorem mG_25_1 : Cond.methodLink RL 114 yX6_around ∈ lw_G := gI_wsL_law0_r25 (List.mem_of_getElem? (i := 1) rfl)
theorem mG_25_2 : Cond.instanceMethod yX6_around ∈ lw_G := gI_wsL_law0_r25 (List.mem_of_getElem? (i := 2) rfl)
theorem mG_25_3 : Cond.selects RX6 yX6_around yX6_around ∈ lw_G := gI_wsL_law0_r25 (List.mem_of_getElem? (i := 3) rfl)
theorem mG_25_4 : Cond.code yX6_around cX6_around 8 (some .int) ∈ lw_G := gI_wsL_law0_r25 (List.mem_of_getElem? (i := 4) rfl)
theorem mG_25_5 : Cond.methodLink RX6 162 yX6_isAhead ∈ lw_G := gI_wsL_law0_r25 (List.mem_of_getElem? (i := 5) rfl)
theorem mG_25_6 : Cond.instanceMethod yX6_isAhead ∈ lw_G := gI_wsL_law0_r25 (List.mem_of_getElem? (i := 6) rfl)
theorem mG_25_7 : Cond.selects RX6 yX6_isAhead yX6_isAhead ∈ lw_G := gI_wsL_law0_r25 (List.mem_of_getElem? (i := 7) rfl)
theorem mG_25_8 : Cond.code yX6_isAhead cX6_isAhead 9 (some .boolean) ∈ lw_G := gI_wsL_law0_r25 (List.mem_of_getElem? (i := 8) rfl)
theorem mG_25_9 : Cond.methodLink RX6 159 yX6_half ∈ lw_G := gI_wsL_law0_r25 (List.mem_of_getElem? (i := 9) rfl)
theorem mG_25_10 : Cond.instanceMethod yX6_half ∈ lw_G := gI_wsL_law0_r25 (List.mem_of_getElem? (i := 10) rfl)
theorem mG_25_11 : Cond.selects RX6 yX6_half yX6_half ∈ lw_G := gI_wsL_law0_r25 (List.mem_of_getElem? (i := 11) rfl)
theorem mG_25_12 : Cond.code yX6_half cX6_half 3 (some .int) ∈ lw_G := gI_wsL_law0_r25 (List.mem_of_getElem? (i := 12) rfl)
theorem mG_25_13 : Cond.methodLink RL 115 yX5_order ∈ lw_G := gI_wsL_law0_r25 (List.mem_of_getElem? (i := 13) rfl)
theorem mG_25_14 : Cond.instanceMethod yX5_order ∈ lw_G := gI_wsL_law0_r25 (List.mem_of_getElem? (i := 14) rfl)
theorem mG_25_15 : Cond.selects RX5 yX5_order yX5_order ∈ lw_G := gI_wsL_law0_r25 (List.mem_of_getElem? (i := 15) rfl)
theorem mG_25_16 : Cond.code yX5_order cX5_order 4 (some .int) ∈ lw_G := gI_wsL_law0_r25 (List.mem_of_getElem? (i := 16) rfl)
theorem mG_25_17 : Cond.methodLink RX5 172 yX4_placeAlong ∈ lw_G := gI_wsL_law0_r25 (List.mem_of_getElem? (i := 17) rfl)
theorem mG_25_18 : Cond.instanceMethod yX4_placeAlong ∈ lw_G := gI_wsL_law0_r25 (List.mem_of_getElem? (i := 18) rfl)
theorem mG_25_19 : Cond.selects RX4 yX4_placeAlong yX4_placeAlong ∈ lw_G := gI_wsL_law0_r25 (List.mem_of_getElem? (i := 19) rfl)
theorem mG_25_20 : Cond.code yX4_placeAlong cX4_placeAlong 4 (some .int) ∈ lw_G := gI_wsL_law0_r25 (List.mem_of_getElem? (i := 20) rfl)
theorem mG_25_21 : Cond.methodLink RX4 72 yX4_aheadAlong ∈ lw_G := gI_wsL_law0_r25 (List.mem_of_getElem? (i := 21) rfl)
theorem mG_25_22 : Cond.instanceMethod yX4_aheadAlong ∈ lw_G := gI_wsL_law0_r25 (List.mem_of_getElem? (i := 22) rfl)
theorem mG_25_23 : Cond.selects RX4 yX4_aheadAlong yX4_aheadAlong ∈ lw_G := gI_wsL_law0_r25 (List.mem_of_getElem? (i := 23) rfl)
theorem mG_26_0 : Cond.code yX4_aheadAlong cX4_aheadAlong 5 (some .int) ∈ lw_G := gI_wsL_law0_r26 (List.mem_of_getElem? (i := 0) rfl)
theorem mG_26_1 : Cond.methodLink RX4 75 yX4_compareAlong ∈ lw_G := gI_wsL_law0_r26 (List.mem_of_getElem? (i := 1) rfl)
theorem mG_26_2 : Cond.instanceMethod yX4_compareAlong ∈ lw_G := gI_wsL_law0_r26 (List.mem_of_getElem? (i := 2) rfl)
theorem mG_26_3 : Cond.selects RX4 yX4_compareAlong yX4_compareAlong ∈ lw_G := gI_wsL_law0_r26 (List.mem_of_getElem? (i := 3) rfl)
theorem mG_26_4 : Cond.code yX4_compareAlong cX4_compareAlong 4 (some .int) ∈ lw_G := gI_wsL_law0_r26 (List.mem_of_getElem? (i := 4) rfl)
theorem mG_26_5 : Cond.methodLink RX4 78 yX2_compare ∈ lw_G := gI_wsL_law0_r26 (List.mem_of_getElem? (i := 5) rfl)
theorem mG_26_6 : Cond.methodLink RL 118 yX6_order ∈ lw_G := gI_wsL_law0_r26 (List.mem_of_getElem? (i := 6) rfl)
theorem mG_26_7 : Cond.instanceMethod yX6_order ∈ lw_G := gI_wsL_law0_r26 (List.mem_of_getElem? (i := 7) rfl)
theorem mG_26_8 : Cond.selects RX6 yX6_order yX6_order ∈ lw_G := gI_wsL_law0_r26 (List.mem_of_getElem? (i := 8) rfl)
theorem mG_26_9 : Cond.code yX6_order cX6_order 7 (some .int) ∈ lw_G := gI_wsL_law0_r26 (List.mem_of_getElem? (i := 9) rfl)
theorem mG_26_10 : Cond.methodLink RX6 165 yX6_isLess ∈ lw_G := gI_wsL_law0_r26 (List.mem_of_getElem? (i := 10) rfl)
theorem mG_26_11 : Cond.instanceMethod yX6_isLess ∈ lw_G := gI_wsL_law0_r26 (List.mem_of_getElem? (i := 11) rfl)
theorem mG_26_12 : Cond.selects RX6 yX6_isLess yX6_isLess ∈ lw_G := gI_wsL_law0_r26 (List.mem_of_getElem? (i := 12) rfl)
theorem mG_26_13 : Cond.code yX6_isLess cX6_isLess 5 (some .boolean) ∈ lw_G := gI_wsL_law0_r26 (List.mem_of_getElem? (i := 13) rfl)
theorem mG_26_14 : Cond.methodLink RL 119 yL_area ∈ lw_G := gI_wsL_law0_r26 (List.mem_of_getElem? (i := 14) rfl)
theorem mG_26_15 : Cond.static yL_area ∈ lw_G := gI_wsL_law0_r26 (List.mem_of_getElem? (i := 15) rfl)
theorem mG_26_16 : Cond.codeWith yL_area cL_area 6 (some .int) [(0, 10, 13, 30)] ∈ lw_G := gI_wsL_law0_r26 (List.mem_of_getElem? (i := 16) rfl)
theorem mG_26_17 : Cond.classLink RL 30 "java/lang/ArithmeticException" ∈ lw_G := gI_wsL_law0_r26 (List.mem_of_getElem? (i := 17) rfl)
theorem mG_26_18 : Cond.methodLink RL 26 yX5_area ∈ lw_G := gI_wsL_law0_r26 (List.mem_of_getElem? (i := 18) rfl)
theorem mG_26_19 : Cond.instanceMethod yX5_area ∈ lw_G := gI_wsL_law0_r26 (List.mem_of_getElem? (i := 19) rfl)
theorem mG_26_20 : Cond.selects RX5 yX5_area yX5_area ∈ lw_G := gI_wsL_law0_r26 (List.mem_of_getElem? (i := 20) rfl)
theorem mG_26_21 : Cond.code yX5_area cX5_area 4 (some .long) ∈ lw_G := gI_wsL_law0_r26 (List.mem_of_getElem? (i := 21) rfl)
theorem mG_26_22 : Cond.classLink RX5 175 "java/lang/ArithmeticException" ∈ lw_G := gI_wsL_law0_r26 (List.mem_of_getElem? (i := 22) rfl)
theorem mG_26_23 : Cond.initialized "java/lang/ArithmeticException" ∈ lw_G := gI_wsL_law0_r26 (List.mem_of_getElem? (i := 23) rfl)
theorem mG_27_0 : Cond.methodLink RX5 180 yX4_crossSum ∈ lw_G := gI_wsL_law0_r27 (List.mem_of_getElem? (i := 0) rfl)
theorem mG_27_1 : Cond.instanceMethod yX4_crossSum ∈ lw_G := gI_wsL_law0_r27 (List.mem_of_getElem? (i := 1) rfl)
theorem mG_27_2 : Cond.selects RX4 yX4_crossSum yX4_crossSum ∈ lw_G := gI_wsL_law0_r27 (List.mem_of_getElem? (i := 2) rfl)
theorem mG_27_3 : Cond.code yX4_crossSum cX4_crossSum 7 (some .long) ∈ lw_G := gI_wsL_law0_r27 (List.mem_of_getElem? (i := 3) rfl)
theorem mG_27_4 : Cond.methodLink RL 122 yX6_area ∈ lw_G := gI_wsL_law0_r27 (List.mem_of_getElem? (i := 4) rfl)
theorem mG_27_5 : Cond.instanceMethod yX6_area ∈ lw_G := gI_wsL_law0_r27 (List.mem_of_getElem? (i := 5) rfl)
theorem mG_27_6 : Cond.selects RX6 yX6_area yX6_area ∈ lw_G := gI_wsL_law0_r27 (List.mem_of_getElem? (i := 6) rfl)
theorem mG_27_7 : Cond.code yX6_area cX6_area 9 (some .long) ∈ lw_G := gI_wsL_law0_r27 (List.mem_of_getElem? (i := 7) rfl)
theorem mG_27_8 : Cond.methodLink RL 123 yX5_line ∈ lw_G := gI_wsL_law0_r27 (List.mem_of_getElem? (i := 8) rfl)
theorem mG_27_9 : Cond.instanceMethod yX5_line ∈ lw_G := gI_wsL_law0_r27 (List.mem_of_getElem? (i := 9) rfl)
theorem mG_27_10 : Cond.selects RX5 yX5_line yX5_line ∈ lw_G := gI_wsL_law0_r27 (List.mem_of_getElem? (i := 10) rfl)
theorem mG_27_11 : Cond.code yX5_line cX5_line 3 (some .int) ∈ lw_G := gI_wsL_law0_r27 (List.mem_of_getElem? (i := 11) rfl)
theorem mG_27_12 : Cond.methodLink RX5 184 yX1_add ∈ lw_G := gI_wsL_law0_r27 (List.mem_of_getElem? (i := 12) rfl)
theorem mG_27_13 : Cond.instanceMethod yX1_add ∈ lw_G := gI_wsL_law0_r27 (List.mem_of_getElem? (i := 13) rfl)
theorem mG_27_14 : Cond.selects RX1 yX1_add yX1_add ∈ lw_G := gI_wsL_law0_r27 (List.mem_of_getElem? (i := 14) rfl)
theorem mG_27_15 : Cond.code yX1_add cX1_add 3 (some .int) ∈ lw_G := gI_wsL_law0_r27 (List.mem_of_getElem? (i := 15) rfl)
theorem mG_27_16 : Cond.fieldLink RX1 45 "OrderJudge$Points" "ys" "[I" ∈ lw_G := gI_wsL_law0_r27 (List.mem_of_getElem? (i := 16) rfl)
theorem mG_27_17 : Cond.fieldLink RX1 50 "OrderJudge$Points" "xs" "[I" ∈ lw_G := gI_wsL_law0_r27 (List.mem_of_getElem? (i := 17) rfl)
theorem mG_27_18 : Cond.methodLink RL 126 yX6_line ∈ lw_G := gI_wsL_law0_r27 (List.mem_of_getElem? (i := 18) rfl)
theorem mG_27_19 : Cond.instanceMethod yX6_line ∈ lw_G := gI_wsL_law0_r27 (List.mem_of_getElem? (i := 19) rfl)
theorem mG_27_20 : Cond.selects RX6 yX6_line yX6_line ∈ lw_G := gI_wsL_law0_r27 (List.mem_of_getElem? (i := 20) rfl)
theorem mG_27_21 : Cond.code yX6_line cX6_line 3 (some .int) ∈ lw_G := gI_wsL_law0_r27 (List.mem_of_getElem? (i := 21) rfl)
theorem mG_27_22 : Cond.fieldLink RX6 168 "OrderJudgeModel" "lines" "I" ∈ lw_G := gI_wsL_law0_r27 (List.mem_of_getElem? (i := 22) rfl)
theorem mG_27_23 : Cond.methodLink RL 127 yX5_lines ∈ lw_G := gI_wsL_law0_r27 (List.mem_of_getElem? (i := 23) rfl)
theorem mG_28_0 : Cond.instanceMethod yX5_lines ∈ lw_G := gI_wsL_law0_r28 (List.mem_of_getElem? (i := 0) rfl)
theorem mG_28_1 : Cond.selects RX5 yX5_lines yX5_lines ∈ lw_G := gI_wsL_law0_r28 (List.mem_of_getElem? (i := 1) rfl)
theorem mG_28_2 : Cond.code yX5_lines cX5_lines 3 (some .int) ∈ lw_G := gI_wsL_law0_r28 (List.mem_of_getElem? (i := 2) rfl)
theorem mG_28_3 : Cond.fieldLink RX5 185 "OrderJudge$LineSet" "held" "I" ∈ lw_G := gI_wsL_law0_r28 (List.mem_of_getElem? (i := 3) rfl)
theorem mG_28_4 : Cond.fieldLink RX5 192 "OrderJudge$LineSet" "different" "I" ∈ lw_G := gI_wsL_law0_r28 (List.mem_of_getElem? (i := 4) rfl)
theorem mG_28_5 : Cond.fieldLink RX5 195 "OrderJudge$LineSet" "meets" "I" ∈ lw_G := gI_wsL_law0_r28 (List.mem_of_getElem? (i := 5) rfl)
theorem mG_28_6 : Cond.fieldLink RX5 208 "OrderJudge$LineSet" "mostThrough" "I" ∈ lw_G := gI_wsL_law0_r28 (List.mem_of_getElem? (i := 6) rfl)
theorem mG_28_7 : Cond.methodLink RX5 188 yX1_survey ∈ lw_G := gI_wsL_law0_r28 (List.mem_of_getElem? (i := 7) rfl)
theorem mG_28_8 : Cond.instanceMethod yX1_survey ∈ lw_G := gI_wsL_law0_r28 (List.mem_of_getElem? (i := 8) rfl)
theorem mG_28_9 : Cond.selects RX1 yX1_survey yX1_survey ∈ lw_G := gI_wsL_law0_r28 (List.mem_of_getElem? (i := 9) rfl)
theorem mG_28_10 : Cond.code yX1_survey cX1_survey 5 none ∈ lw_G := gI_wsL_law0_r28 (List.mem_of_getElem? (i := 10) rfl)
theorem mG_28_11 : Cond.methodLink RX1 61 Lib.Math.max.name ∈ lw_G := gI_wsL_law0_r28 (List.mem_of_getElem? (i := 11) rfl)
theorem mG_28_12 : Cond.methodLink RX1 53 yX1_keepDifferent ∈ lw_G := gI_wsL_law0_r28 (List.mem_of_getElem? (i := 12) rfl)
theorem mG_28_13 : Cond.instanceMethod yX1_keepDifferent ∈ lw_G := gI_wsL_law0_r28 (List.mem_of_getElem? (i := 13) rfl)
theorem mG_28_14 : Cond.selects RX1 yX1_keepDifferent yX1_keepDifferent ∈ lw_G := gI_wsL_law0_r28 (List.mem_of_getElem? (i := 14) rfl)
theorem mG_28_15 : Cond.code yX1_keepDifferent cX1_keepDifferent 3 none ∈ lw_G := gI_wsL_law0_r28 (List.mem_of_getElem? (i := 15) rfl)
theorem mG_28_16 : Cond.methodLink RX1 70 yX1_isNew ∈ lw_G := gI_wsL_law0_r28 (List.mem_of_getElem? (i := 16) rfl)
theorem mG_28_17 : Cond.instanceMethod yX1_isNew ∈ lw_G := gI_wsL_law0_r28 (List.mem_of_getElem? (i := 17) rfl)
theorem mG_28_18 : Cond.selects RX1 yX1_isNew yX1_isNew ∈ lw_G := gI_wsL_law0_r28 (List.mem_of_getElem? (i := 18) rfl)
theorem mG_28_19 : Cond.code yX1_isNew cX1_isNew 3 (some .boolean) ∈ lw_G := gI_wsL_law0_r28 (List.mem_of_getElem? (i := 19) rfl)
theorem mG_28_20 : Cond.methodLink RX1 74 yX1_same ∈ lw_G := gI_wsL_law0_r28 (List.mem_of_getElem? (i := 20) rfl)
theorem mG_28_21 : Cond.instanceMethod yX1_same ∈ lw_G := gI_wsL_law0_r28 (List.mem_of_getElem? (i := 21) rfl)
theorem mG_28_22 : Cond.selects RX1 yX1_same yX1_same ∈ lw_G := gI_wsL_law0_r28 (List.mem_of_getElem? (i := 22) rfl)
theorem mG_28_23 : Cond.code yX1_same cX1_same 3 (some .boolean) ∈ lw_G := gI_wsL_law0_r28 (List.mem_of_getElem? (i := 23) rfl)
theorem mG_29_0 : Cond.methodLink RX1 78 yX1_slant ∈ lw_G := gI_wsL_law0_r29 (List.mem_of_getElem? (i := 0) rfl)
theorem mG_29_1 : Cond.instanceMethod yX1_slant ∈ lw_G := gI_wsL_law0_r29 (List.mem_of_getElem? (i := 1) rfl)
theorem mG_29_2 : Cond.selects RX1 yX1_slant yX1_slant ∈ lw_G := gI_wsL_law0_r29 (List.mem_of_getElem? (i := 2) rfl)
theorem mG_29_3 : Cond.code yX1_slant cX1_slant 3 (some .long) ∈ lw_G := gI_wsL_law0_r29 (List.mem_of_getElem? (i := 3) rfl)
theorem mG_29_4 : Cond.methodLink RX1 57 yX1_throughMeet ∈ lw_G := gI_wsL_law0_r29 (List.mem_of_getElem? (i := 4) rfl)
theorem mG_29_5 : Cond.instanceMethod yX1_throughMeet ∈ lw_G := gI_wsL_law0_r29 (List.mem_of_getElem? (i := 5) rfl)
theorem mG_29_6 : Cond.selects RX1 yX1_throughMeet yX1_throughMeet ∈ lw_G := gI_wsL_law0_r29 (List.mem_of_getElem? (i := 6) rfl)
theorem mG_29_7 : Cond.code yX1_throughMeet cX1_throughMeet 5 (some .int) ∈ lw_G := gI_wsL_law0_r29 (List.mem_of_getElem? (i := 7) rfl)
theorem mG_29_8 : Cond.methodLink RX1 82 yX1_concurrent ∈ lw_G := gI_wsL_law0_r29 (List.mem_of_getElem? (i := 8) rfl)
theorem mG_29_9 : Cond.instanceMethod yX1_concurrent ∈ lw_G := gI_wsL_law0_r29 (List.mem_of_getElem? (i := 9) rfl)
theorem mG_29_10 : Cond.selects RX1 yX1_concurrent yX1_concurrent ∈ lw_G := gI_wsL_law0_r29 (List.mem_of_getElem? (i := 10) rfl)
theorem mG_29_11 : Cond.code yX1_concurrent cX1_concurrent 8 (some .boolean) ∈ lw_G := gI_wsL_law0_r29 (List.mem_of_getElem? (i := 11) rfl)
theorem mG_29_12 : Cond.methodLink RX5 198 yX1_cells ∈ lw_G := gI_wsL_law0_r29 (List.mem_of_getElem? (i := 12) rfl)
theorem mG_29_13 : Cond.instanceMethod yX1_cells ∈ lw_G := gI_wsL_law0_r29 (List.mem_of_getElem? (i := 13) rfl)
theorem mG_29_14 : Cond.selects RX1 yX1_cells yX1_cells ∈ lw_G := gI_wsL_law0_r29 (List.mem_of_getElem? (i := 14) rfl)
theorem mG_29_15 : Cond.code yX1_cells cX1_cells 1 (some .int) ∈ lw_G := gI_wsL_law0_r29 (List.mem_of_getElem? (i := 15) rfl)
theorem mG_29_16 : Cond.methodLink RX5 202 yX1_pieces ∈ lw_G := gI_wsL_law0_r29 (List.mem_of_getElem? (i := 16) rfl)
theorem mG_29_17 : Cond.instanceMethod yX1_pieces ∈ lw_G := gI_wsL_law0_r29 (List.mem_of_getElem? (i := 17) rfl)
theorem mG_29_18 : Cond.selects RX1 yX1_pieces yX1_pieces ∈ lw_G := gI_wsL_law0_r29 (List.mem_of_getElem? (i := 18) rfl)
theorem mG_29_19 : Cond.code yX1_pieces cX1_pieces 1 (some .int) ∈ lw_G := gI_wsL_law0_r29 (List.mem_of_getElem? (i := 19) rfl)
theorem mG_29_20 : Cond.methodLink RX5 205 yX1_closedCells ∈ lw_G := gI_wsL_law0_r29 (List.mem_of_getElem? (i := 20) rfl)
theorem mG_29_21 : Cond.instanceMethod yX1_closedCells ∈ lw_G := gI_wsL_law0_r29 (List.mem_of_getElem? (i := 21) rfl)
theorem mG_29_22 : Cond.selects RX1 yX1_closedCells yX1_closedCells ∈ lw_G := gI_wsL_law0_r29 (List.mem_of_getElem? (i := 22) rfl)
theorem mG_29_23 : Cond.code yX1_closedCells cX1_closedCells 1 (some .int) ∈ lw_G := gI_wsL_law0_r29 (List.mem_of_getElem? (i := 23) rfl)
theorem mG_30_0 : Cond.methodLink RX1 66 yX1_cells ∈ lw_G := gI_wsL_law0_r30 (List.mem_of_getElem? (i := 0) rfl)
theorem mG_30_1 : Cond.methodLink RL 130 yX6_lines ∈ lw_G := gI_wsL_law0_r30 (List.mem_of_getElem? (i := 1) rfl)
theorem mG_30_2 : Cond.instanceMethod yX6_lines ∈ lw_G := gI_wsL_law0_r30 (List.mem_of_getElem? (i := 2) rfl)
theorem mG_30_3 : Cond.selects RX6 yX6_lines yX6_lines ∈ lw_G := gI_wsL_law0_r30 (List.mem_of_getElem? (i := 3) rfl)
theorem mG_30_4 : Cond.code yX6_lines cX6_lines 14 (some .int) ∈ lw_G := gI_wsL_law0_r30 (List.mem_of_getElem? (i := 4) rfl)
theorem mG_30_5 : Cond.methodLink RX6 177 yX6_isNew ∈ lw_G := gI_wsL_law0_r30 (List.mem_of_getElem? (i := 5) rfl)
theorem mG_30_6 : Cond.instanceMethod yX6_isNew ∈ lw_G := gI_wsL_law0_r30 (List.mem_of_getElem? (i := 6) rfl)
theorem mG_30_7 : Cond.selects RX6 yX6_isNew yX6_isNew ∈ lw_G := gI_wsL_law0_r30 (List.mem_of_getElem? (i := 7) rfl)
theorem mG_30_8 : Cond.code yX6_isNew cX6_isNew 4 (some .boolean) ∈ lw_G := gI_wsL_law0_r30 (List.mem_of_getElem? (i := 8) rfl)
theorem mG_30_9 : Cond.methodLink RX6 174 yX6_isOne ∈ lw_G := gI_wsL_law0_r30 (List.mem_of_getElem? (i := 9) rfl)
theorem mG_30_10 : Cond.instanceMethod yX6_isOne ∈ lw_G := gI_wsL_law0_r30 (List.mem_of_getElem? (i := 10) rfl)
theorem mG_30_11 : Cond.selects RX6 yX6_isOne yX6_isOne ∈ lw_G := gI_wsL_law0_r30 (List.mem_of_getElem? (i := 11) rfl)
theorem mG_30_12 : Cond.code yX6_isOne cX6_isOne 3 (some .boolean) ∈ lw_G := gI_wsL_law0_r30 (List.mem_of_getElem? (i := 12) rfl)
theorem mG_30_13 : Cond.methodLink RX6 171 yX6_both ∈ lw_G := gI_wsL_law0_r30 (List.mem_of_getElem? (i := 13) rfl)
theorem mG_30_14 : Cond.instanceMethod yX6_both ∈ lw_G := gI_wsL_law0_r30 (List.mem_of_getElem? (i := 14) rfl)
theorem mG_30_15 : Cond.selects RX6 yX6_both yX6_both ∈ lw_G := gI_wsL_law0_r30 (List.mem_of_getElem? (i := 15) rfl)
theorem mG_30_16 : Cond.code yX6_both cX6_both 3 (some .long) ∈ lw_G := gI_wsL_law0_r30 (List.mem_of_getElem? (i := 16) rfl)
theorem mG_30_17 : Cond.methodLink RX6 180 yX6_isThrough ∈ lw_G := gI_wsL_law0_r30 (List.mem_of_getElem? (i := 17) rfl)
theorem mG_30_18 : Cond.instanceMethod yX6_isThrough ∈ lw_G := gI_wsL_law0_r30 (List.mem_of_getElem? (i := 18) rfl)
theorem mG_30_19 : Cond.selects RX6 yX6_isThrough yX6_isThrough ∈ lw_G := gI_wsL_law0_r30 (List.mem_of_getElem? (i := 19) rfl)
theorem mG_30_20 : Cond.code yX6_isThrough cX6_isThrough 8 (some .boolean) ∈ lw_G := gI_wsL_law0_r30 (List.mem_of_getElem? (i := 20) rfl)
theorem mG_30_21 : Cond.methodLink RL 131 yX5_count ∈ lw_G := gI_wsL_law0_r30 (List.mem_of_getElem? (i := 21) rfl)
theorem mG_30_22 : Cond.instanceMethod yX5_count ∈ lw_G := gI_wsL_law0_r30 (List.mem_of_getElem? (i := 22) rfl)
theorem mG_30_23 : Cond.selects RX5 yX5_count yX5_count ∈ lw_G := gI_wsL_law0_r30 (List.mem_of_getElem? (i := 23) rfl)
theorem mG_31_0 : Cond.code yX5_count cX5_count 2 (some .int) ∈ lw_G := gI_wsL_law0_r31 (List.mem_of_getElem? (i := 0) rfl)
theorem mG_31_1 : Cond.fieldLink RX5 211 "OrderJudge$Points" "held" "I" ∈ lw_G := gI_wsL_law0_r31 (List.mem_of_getElem? (i := 1) rfl)
theorem mG_31_2 : Cond.fieldLink RX5 212 "OrderJudge$Row" "held" "I" ∈ lw_G := gI_wsL_law0_r31 (List.mem_of_getElem? (i := 2) rfl)
theorem mG_31_3 : Cond.methodLink RL 134 yX6_count ∈ lw_G := gI_wsL_law0_r31 (List.mem_of_getElem? (i := 3) rfl)
theorem mG_31_4 : Cond.instanceMethod yX6_count ∈ lw_G := gI_wsL_law0_r31 (List.mem_of_getElem? (i := 4) rfl)
theorem mG_31_5 : Cond.selects RX6 yX6_count yX6_count ∈ lw_G := gI_wsL_law0_r31 (List.mem_of_getElem? (i := 5) rfl)
theorem mG_31_6 : Cond.code yX6_count cX6_count 2 (some .int) ∈ lw_G := gI_wsL_law0_r31 (List.mem_of_getElem? (i := 6) rfl)
theorem gd_wsL_law0_r1 : ∀ w ∈ wsL_law0_r1, goodWord w = true := by decide +kernel
theorem gd_wsL_law0_r2 : ∀ w ∈ wsL_law0_r2, goodWord w = true := by decide +kernel
theorem gd_wsL_law0_r3 : ∀ w ∈ wsL_law0_r3, goodWord w = true := by decide +kernel
theorem gd_wsL_law0_r4 : ∀ w ∈ wsL_law0_r4, goodWord w = true := by decide +kernel
theorem gd_wsL_law0_r5 : ∀ w ∈ wsL_law0_r5, goodWord w = true := by decide +kernel
theorem gd_wsL_law0_r6 : ∀ w ∈ wsL_law0_r6, goodWord w = true := by decide +kernel
theorem gd_wsL_law0_r7 : ∀ w ∈ wsL_law0_r7, goodWord w = true := by decide +kernel
theorem gd_wsL_law0_r8 : ∀ w ∈ wsL_law0_r8, goodWord w = true := by decide +kernel
theorem gd_wsL_law0_r9 : ∀ w ∈ wsL_law0_r9, goodWord w = true := by decide +kernel
theorem gd_wsL_law0_r10 : ∀ w ∈ wsL_law0_r10, goodWord w = true := by decide +kernel
theorem gd_wsL_law0_r11 : ∀ w ∈ wsL_law0_r11, goodWord w = true := by decide +kernel
theorem gd_wsL_law0_r12 : ∀ w ∈ wsL_law0_r12, goodWord w = true := by decide +kernel
theorem gd_wsL_law0_r13 : ∀ w ∈ wsL_law0_r13, goodWord w = true := by decide +kernel
theorem gd_wsL_law0_r14 : ∀ w ∈ wsL_law0_r14, goodWord w = true := by decide +kernel
theorem gd_wsL_law0_r15 : ∀ w ∈ wsL_law0_r15, goodWord w = true := by decide +kernel
theorem gd_wsL_law0_r16 : ∀ w ∈ wsL_law0_r16, goodWord w = true := by decide +kernel
theorem gd_wsL_law0_r17 : ∀ w ∈ wsL_law0_r17, goodWord w = true := by decide +kernel
theorem gd_wsL_law0_r18 : ∀ w ∈ wsL_law0_r18, goodWord w = true := by decide +kernel
theorem gd_wsL_law0_r19 : ∀ w ∈ wsL_law0_r19, goodWord w = true := by decide +kernel
theorem gd_wsL_law0_r20 : ∀ w ∈ wsL_law0_r20, goodWord w = true := by decide +kernel
theorem gd_wsL_law0_r21 : ∀ w ∈ wsL_law0_r21, goodWord w = true := by decide +kernel
theorem gd_wsL_law0_r22 : ∀ w ∈ wsL_law0_r22, goodWord w = true := by decide +kernel
theorem gd_wsL_law0_r23 : ∀ w ∈ wsL_law0_r23, goodWord w = true := by decide +kernel
theorem gd_wsL_law0_r24 : ∀ w ∈ wsL_law0_r24, goodWord w = true := by decide +kernel
theorem gd_wsL_law0_r25 : ∀ w ∈ wsL_law0_r25, goodWord w = true := by decide +kernel
theorem gd_wsL_law0_r26 : ∀ w ∈ wsL_law0_r26, goodWord w = true := by decide +kernel
theorem gd_wsL_law0_r27 : ∀ w ∈ wsL_law0_r27, goodWord w = true := by decide +kernel
theorem gd_wsL_law0_r28 : ∀ w ∈ wsL_law0_r28, goodWord w = true := by decide +kernel
theorem gd_wsL_law0_r29 : ∀ w ∈ wsL_law0_r29, goodWord w = true := by decide +kernel
theorem gd_wsL_law0_r30 : ∀ w ∈ wsL_law0_r30, goodWord w = true := by decide +kernel
theorem gd_wsL_law0_r31 : ∀ w ∈ wsL_law0_r31, goodWord w = true := by decide +kernel
theorem gd_wsX50 : ∀ w ∈ wsX50, goodWord w = true := by decide +kernel
theorem gd_wsX60 : ∀ w ∈ wsX60, goodWord w = true := by decide +kernel
theorem gd_wsX20 : ∀ w ∈ wsX20, goodWord w = true := by decide +kernel
theorem gd_wsX30 : ∀ w ∈ wsX30, goodWord w = true := by decide +kernel
theorem gd_wsX00 : ∀ w ∈ wsX00, goodWord w = true := by decide +kernel
theorem gd_wsX40 : ∀ w ∈ wsX40, goodWord w = true := by decide +kernel
theorem gd_wsX10 : ∀ w ∈ wsX10, goodWord w = true := by decide +kernel
theorem gd_wsJxde1cd0 : ∀ w ∈ wsJxde1cd0, goodWord w = true := by decide +kernel
theorem gd_wsJx000600 : ∀ w ∈ wsJx000600, goodWord w = true := by decide +kernel
theorem gd_wsJx5d7770 : ∀ w ∈ wsJx5d7770, goodWord w = true := by decide +kernel
theorem gd_G : ∀ w ∈ lw_G, goodWord w = true := List.forall_mem_append.mpr ⟨gd_wsL_law0_r1, List.forall_mem_append.mpr ⟨gd_wsL_law0_r2, List.forall_mem_append.mpr ⟨gd_wsL_law0_r3, List.forall_mem_append.mpr ⟨gd_wsL_law0_r4, List.forall_mem_append.mpr ⟨gd_wsL_law0_r5, List.forall_mem_append.mpr ⟨gd_wsL_law0_r6, List.forall_mem_append.mpr ⟨gd_wsL_law0_r7, List.forall_mem_append.mpr ⟨gd_wsL_law0_r8, List.forall_mem_append.mpr ⟨gd_wsL_law0_r9, List.forall_mem_append.mpr ⟨gd_wsL_law0_r10, List.forall_mem_append.mpr ⟨gd_wsL_law0_r11, List.forall_mem_append.mpr ⟨gd_wsL_law0_r12, List.forall_mem_append.mpr ⟨gd_wsL_law0_r13, List.forall_mem_append.mpr ⟨gd_wsL_law0_r14, List.forall_mem_append.mpr ⟨gd_wsL_law0_r15, List.forall_mem_append.mpr ⟨gd_wsL_law0_r16, List.forall_mem_append.mpr ⟨gd_wsL_law0_r17, List.forall_mem_append.mpr ⟨gd_wsL_law0_r18, List.forall_mem_append.mpr ⟨gd_wsL_law0_r19, List.forall_mem_append.mpr ⟨gd_wsL_law0_r20, List.forall_mem_append.mpr ⟨gd_wsL_law0_r21, List.forall_mem_append.mpr ⟨gd_wsL_law0_r22, List.forall_mem_append.mpr ⟨gd_wsL_law0_r23, List.forall_mem_append.mpr ⟨gd_wsL_law0_r24, List.forall_mem_append.mpr ⟨gd_wsL_law0_r25, List.forall_mem_append.mpr ⟨gd_wsL_law0_r26, List.forall_mem_append.mpr ⟨gd_wsL_law0_r27, List.forall_mem_append.mpr ⟨gd_wsL_law0_r28, List.forall_mem_append.mpr ⟨gd_wsL_law0_r29, List.forall_mem_append.mpr ⟨gd_wsL_law0_r30, List.forall_mem_append.mpr ⟨gd_wsL_law0_r31, List.forall_mem_append.mpr ⟨gd_wsX50, List.forall_mem_append.mpr ⟨gd_wsX60, List.forall_mem_append.mpr ⟨gd_wsX20, List.forall_mem_append.mpr ⟨gd_wsX30, List.forall_mem_append.mpr ⟨gd_wsX00, List.forall_mem_append.mpr ⟨gd_wsX40, List.forall_mem_append.mpr ⟨gd_wsX10, List.forall_mem_append.mpr ⟨gd_wsJxde1cd0, List.forall_mem_append.mpr ⟨gd_wsJx000600, gd_wsJx5d7770⟩⟩⟩⟩⟩⟩⟩⟩⟩⟩⟩⟩⟩⟩⟩⟩⟩⟩⟩⟩⟩⟩⟩⟩⟩⟩⟩⟩⟩⟩⟩⟩⟩⟩⟩⟩⟩⟩⟩⟩
theorem gG_G : GoodIn lw_G lw_G := fun w h => ⟨h, good_of_word (gd_G w h)⟩
theorem gG_1 {w : Cond} (h : w ∈ lw_G) : GoodIn lw_G [w] := fun x hx => by
  rw [List.mem_singleton.mp hx]
  exact ⟨h, good_of_word (gd_G w h)⟩
theorem gG_c {w : Cond} {l : List Cond} (h : w ∈ lw_G) (hl : GoodIn lw_G l) : GoodIn lw_G (w :: l) := fun x hx => (List.mem_cons.mp hx).elim (fun e => by rw [e]; exact ⟨h, good_of_word (gd_G w h)⟩) (hl x)
theorem gG_V {own C : String} {idx : Nat} {y : MethodName} {l : List Cond} (h1 : Cond.methodLink own idx y ∈ lw_G) (h2 : Cond.instanceMethod y ∈ lw_G) (h3 : Cond.selects C y y ∈ lw_G) (h4 : Cond.initialized C ∈ lw_G) (hl : GoodIn lw_G l) : GoodIn lw_G (wsV own idx C y l) := gG_c h1 (gG_c h2 (gG_c h3 (gG_c h4 hl)))
theorem gG_S {own : String} {idx : Nat} {y : MethodName} {l : List Cond} (h1 : Cond.methodLink own idx y ∈ lw_G) (h2 : Cond.static y ∈ lw_G) (h4 : Cond.initialized y.cls ∈ lw_G) (hl : GoodIn lw_G l) : GoodIn lw_G (va_wsS own idx y l) := gG_c h1 (gG_c h2 (gG_c h4 hl))
end
section
theorem tB_1 {w : Cond} (h : w ∈ tables_1_1) : w ∈ lw_tbl := List.mem_append_right _ (List.mem_append_left _ h)
theorem tB_2 {w : Cond} (h : w ∈ tables_1_2) : w ∈ lw_tbl := List.mem_append_right _ (List.mem_append_right _ (List.mem_append_left _ h))
theorem tB_3 {w : Cond} (h : w ∈ tables_1_3) : w ∈ lw_tbl := List.mem_append_right _ (List.mem_append_right _ (List.mem_append_right _ (List.mem_append_left _ h)))
theorem tB_4 {w : Cond} (h : w ∈ tables_1_4) : w ∈ lw_tbl := List.mem_append_right _ (List.mem_append_right _ (List.mem_append_right _ (List.mem_append_right _ (List.mem_append_left _ h))))
theorem tB_5 {w : Cond} (h : w ∈ tables_1_5) : w ∈ lw_tbl := List.mem_append_right _ (List.mem_append_right _ (List.mem_append_right _ (List.mem_append_right _ (List.mem_append_right _ (h)))))
theorem tB_0 {w : Cond} (h : w ∈ k2_sels lw_privs) : w ∈ lw_tbl := List.mem_append_left _ h
theorem tb_wsL_law0_r1 : ∀ w ∈ wsL_law0_r1, w ∈ lw_tbl := List.forall_mem_cons.mpr ⟨(tB_1 (List.mem_of_getElem? (i := 20) rfl)), List.forall_mem_cons.mpr ⟨(tB_1 (List.mem_of_getElem? (i := 21) rfl)), List.forall_mem_cons.mpr ⟨(tB_1 (List.mem_of_getElem? (i := 1) rfl)), List.forall_mem_cons.mpr ⟨(tB_3 (List.mem_of_getElem? (i := 217) rfl)), List.forall_mem_cons.mpr ⟨(tB_3 (List.mem_of_getElem? (i := 218) rfl)), List.forall_mem_cons.mpr ⟨(tB_1 (List.mem_of_getElem? (i := 7) rfl)), List.forall_mem_cons.mpr ⟨(tB_1 (List.mem_of_getElem? (i := 149) rfl)), List.forall_mem_cons.mpr ⟨(tB_5 (List.mem_of_getElem? (i := 9) rfl)), List.forall_mem_cons.mpr ⟨(tB_1 (List.mem_of_getElem? (i := 22) rfl)), List.forall_mem_cons.mpr ⟨(tB_1 (List.mem_of_getElem? (i := 23) rfl)), List.forall_mem_cons.mpr ⟨(tB_1 (List.mem_of_getElem? (i := 24) rfl)), List.forall_mem_cons.mpr ⟨(tB_1 (List.mem_of_getElem? (i := 25) rfl)), List.forall_mem_cons.mpr ⟨(tB_1 (List.mem_of_getElem? (i := 26) rfl)), List.forall_mem_cons.mpr ⟨(by decide +kernel), List.forall_mem_cons.mpr ⟨(tB_1 (List.mem_of_getElem? (i := 28) rfl)), List.forall_mem_cons.mpr ⟨(tB_1 (List.mem_of_getElem? (i := 29) rfl)), List.forall_mem_cons.mpr ⟨(tB_1 (List.mem_of_getElem? (i := 2) rfl)), List.forall_mem_cons.mpr ⟨(tB_1 (List.mem_of_getElem? (i := 150) rfl)), List.forall_mem_cons.mpr ⟨(tB_1 (List.mem_of_getElem? (i := 54) rfl)), List.forall_mem_cons.mpr ⟨(tB_1 (List.mem_of_getElem? (i := 55) rfl)), List.forall_mem_cons.mpr ⟨(tB_1 (List.mem_of_getElem? (i := 3) rfl)), List.forall_mem_cons.mpr ⟨(tB_1 (List.mem_of_getElem? (i := 151) rfl)), List.forall_mem_cons.mpr ⟨(tB_1 (List.mem_of_getElem? (i := 80) rfl)), List.forall_mem_cons.mpr ⟨(tB_1 (List.mem_of_getElem? (i := 81) rfl)), fun _ h => absurd h List.not_mem_nil⟩⟩⟩⟩⟩⟩⟩⟩⟩⟩⟩⟩⟩⟩⟩⟩⟩⟩⟩⟩⟩⟩⟩⟩
theorem tb_wsL_law0_r2 : ∀ w ∈ wsL_law0_r2, w ∈ lw_tbl := List.forall_mem_cons.mpr ⟨(tB_1 (List.mem_of_getElem? (i := 4) rfl)), List.forall_mem_cons.mpr ⟨(tB_1 (List.mem_of_getElem? (i := 152) rfl)), List.forall_mem_cons.mpr ⟨(tB_1 (List.mem_of_getElem? (i := 90) rfl)), List.forall_mem_cons.mpr ⟨(tB_1 (List.mem_of_getElem? (i := 91) rfl)), List.forall_mem_cons.mpr ⟨(tB_1 (List.mem_of_getElem? (i := 5) rfl)), List.forall_mem_cons.mpr ⟨(tB_1 (List.mem_of_getElem? (i := 153) rfl)), List.forall_mem_cons.mpr ⟨(tB_1 (List.mem_of_getElem? (i := 108) rfl)), List.forall_mem_cons.mpr ⟨(tB_1 (List.mem_of_getElem? (i := 109) rfl)), List.forall_mem_cons.mpr ⟨(tB_1 (List.mem_of_getElem? (i := 6) rfl)), List.forall_mem_cons.mpr ⟨(tB_1 (List.mem_of_getElem? (i := 154) rfl)), List.forall_mem_cons.mpr ⟨(tB_1 (List.mem_of_getElem? (i := 31) rfl)), List.forall_mem_cons.mpr ⟨(tB_1 (List.mem_of_getElem? (i := 32) rfl)), List.forall_mem_cons.mpr ⟨(tB_1 (List.mem_of_getElem? (i := 33) rfl)), List.forall_mem_cons.mpr ⟨(tB_1 (List.mem_of_getElem? (i := 53) rfl)), List.forall_mem_cons.mpr ⟨(tB_1 (List.mem_of_getElem? (i := 34) rfl)), List.forall_mem_cons.mpr ⟨(tB_1 (List.mem_of_getElem? (i := 39) rfl)), List.forall_mem_cons.mpr ⟨(tB_1 (List.mem_of_getElem? (i := 44) rfl)), List.forall_mem_cons.mpr ⟨(tB_1 (List.mem_of_getElem? (i := 56) rfl)), List.forall_mem_cons.mpr ⟨(tB_1 (List.mem_of_getElem? (i := 57) rfl)), List.forall_mem_cons.mpr ⟨(tB_1 (List.mem_of_getElem? (i := 58) rfl)), List.forall_mem_cons.mpr ⟨(tB_1 (List.mem_of_getElem? (i := 59) rfl)), List.forall_mem_cons.mpr ⟨(tB_1 (List.mem_of_getElem? (i := 61) rfl)), List.forall_mem_cons.mpr ⟨(tB_1 (List.mem_of_getElem? (i := 63) rfl)), List.forall_mem_cons.mpr ⟨(tB_1 (List.mem_of_getElem? (i := 65) rfl)), fun _ h => absurd h List.not_mem_nil⟩⟩⟩⟩⟩⟩⟩⟩⟩⟩⟩⟩⟩⟩⟩⟩⟩⟩⟩⟩⟩⟩⟩⟩
theorem tb_wsL_law0_r3 : ∀ w ∈ wsL_law0_r3, w ∈ lw_tbl := List.forall_mem_cons.mpr ⟨(tB_1 (List.mem_of_getElem? (i := 67) rfl)), List.forall_mem_cons.mpr ⟨(tB_1 (List.mem_of_getElem? (i := 60) rfl)), List.forall_mem_cons.mpr ⟨(tB_1 (List.mem_of_getElem? (i := 82) rfl)), List.forall_mem_cons.mpr ⟨(tB_1 (List.mem_of_getElem? (i := 83) rfl)), List.forall_mem_cons.mpr ⟨(tB_1 (List.mem_of_getElem? (i := 84) rfl)), List.forall_mem_cons.mpr ⟨(tB_1 (List.mem_of_getElem? (i := 85) rfl)), List.forall_mem_cons.mpr ⟨(tB_1 (List.mem_of_getElem? (i := 86) rfl)), List.forall_mem_cons.mpr ⟨(tB_1 (List.mem_of_getElem? (i := 92) rfl)), List.forall_mem_cons.mpr ⟨(tB_1 (List.mem_of_getElem? (i := 93) rfl)), List.forall_mem_cons.mpr ⟨(tB_1 (List.mem_of_getElem? (i := 94) rfl)), List.forall_mem_cons.mpr ⟨(tB_1 (List.mem_of_getElem? (i := 95) rfl)), List.forall_mem_cons.mpr ⟨(tB_1 (List.mem_of_getElem? (i := 97) rfl)), List.forall_mem_cons.mpr ⟨(tB_1 (List.mem_of_getElem? (i := 99) rfl)), List.forall_mem_cons.mpr ⟨(tB_1 (List.mem_of_getElem? (i := 96) rfl)), List.forall_mem_cons.mpr ⟨(tB_1 (List.mem_of_getElem? (i := 110) rfl)), List.forall_mem_cons.mpr ⟨(tB_1 (List.mem_of_getElem? (i := 111) rfl)), List.forall_mem_cons.mpr ⟨(tB_1 (List.mem_of_getElem? (i := 112) rfl)), List.forall_mem_cons.mpr ⟨(tB_1 (List.mem_of_getElem? (i := 113) rfl)), List.forall_mem_cons.mpr ⟨(tB_1 (List.mem_of_getElem? (i := 115) rfl)), List.forall_mem_cons.mpr ⟨(tB_1 (List.mem_of_getElem? (i := 116) rfl)), List.forall_mem_cons.mpr ⟨(tB_1 (List.mem_of_getElem? (i := 117) rfl)), List.forall_mem_cons.mpr ⟨(tB_1 (List.mem_of_getElem? (i := 118) rfl)), List.forall_mem_cons.mpr ⟨(tB_1 (List.mem_of_getElem? (i := 120) rfl)), List.forall_mem_cons.mpr ⟨(tB_1 (List.mem_of_getElem? (i := 121) rfl)), fun _ h => absurd h List.not_mem_nil⟩⟩⟩⟩⟩⟩⟩⟩⟩⟩⟩⟩⟩⟩⟩⟩⟩⟩⟩⟩⟩⟩⟩⟩
theorem tb_wsL_law0_r4 : ∀ w ∈ wsL_law0_r4, w ∈ lw_tbl := List.forall_mem_cons.mpr ⟨(tB_1 (List.mem_of_getElem? (i := 123) rfl)), List.forall_mem_cons.mpr ⟨(tB_1 (List.mem_of_getElem? (i := 125) rfl)), List.forall_mem_cons.mpr ⟨(tB_1 (List.mem_of_getElem? (i := 127) rfl)), List.forall_mem_cons.mpr ⟨(tB_1 (List.mem_of_getElem? (i := 114) rfl)), List.forall_mem_cons.mpr ⟨(tB_3 (List.mem_of_getElem? (i := 219) rfl)), List.forall_mem_cons.mpr ⟨(tB_3 (List.mem_of_getElem? (i := 220) rfl)), List.forall_mem_cons.mpr ⟨(tB_3 (List.mem_of_getElem? (i := 221) rfl)), List.forall_mem_cons.mpr ⟨(tB_3 (List.mem_of_getElem? (i := 222) rfl)), List.forall_mem_cons.mpr ⟨(tB_3 (List.mem_of_getElem? (i := 225) rfl)), List.forall_mem_cons.mpr ⟨(tB_3 (List.mem_of_getElem? (i := 226) rfl)), List.forall_mem_cons.mpr ⟨(tB_3 (List.mem_of_getElem? (i := 228) rfl)), List.forall_mem_cons.mpr ⟨(tB_3 (List.mem_of_getElem? (i := 229) rfl)), List.forall_mem_cons.mpr ⟨(tB_3 (List.mem_of_getElem? (i := 234) rfl)), List.forall_mem_cons.mpr ⟨(tB_3 (List.mem_of_getElem? (i := 235) rfl)), List.forall_mem_cons.mpr ⟨(tB_3 (List.mem_of_getElem? (i := 236) rfl)), List.forall_mem_cons.mpr ⟨(tB_1 (List.mem_of_getElem? (i := 166) rfl)), List.forall_mem_cons.mpr ⟨(tB_1 (List.mem_of_getElem? (i := 167) rfl)), List.forall_mem_cons.mpr ⟨(tB_1 (List.mem_of_getElem? (i := 168) rfl)), List.forall_mem_cons.mpr ⟨(tB_1 (List.mem_of_getElem? (i := 169) rfl)), List.forall_mem_cons.mpr ⟨(tB_1 (List.mem_of_getElem? (i := 170) rfl)), List.forall_mem_cons.mpr ⟨(tB_1 (List.mem_of_getElem? (i := 171) rfl)), List.forall_mem_cons.mpr ⟨(tB_1 (List.mem_of_getElem? (i := 172) rfl)), List.forall_mem_cons.mpr ⟨(tB_1 (List.mem_of_getElem? (i := 173) rfl)), List.forall_mem_cons.mpr ⟨(tB_1 (List.mem_of_getElem? (i := 174) rfl)), fun _ h => absurd h List.not_mem_nil⟩⟩⟩⟩⟩⟩⟩⟩⟩⟩⟩⟩⟩⟩⟩⟩⟩⟩⟩⟩⟩⟩⟩⟩
theorem tb_wsL_law0_r5 : ∀ w ∈ wsL_law0_r5, w ∈ lw_tbl := List.forall_mem_cons.mpr ⟨(tB_1 (List.mem_of_getElem? (i := 175) rfl)), List.forall_mem_cons.mpr ⟨(tB_1 (List.mem_of_getElem? (i := 176) rfl)), List.forall_mem_cons.mpr ⟨(tB_1 (List.mem_of_getElem? (i := 177) rfl)), List.forall_mem_cons.mpr ⟨(tB_1 (List.mem_of_getElem? (i := 178) rfl)), List.forall_mem_cons.mpr ⟨(tB_1 (List.mem_of_getElem? (i := 179) rfl)), List.forall_mem_cons.mpr ⟨(tB_1 (List.mem_of_getElem? (i := 180) rfl)), List.forall_mem_cons.mpr ⟨(tB_1 (List.mem_of_getElem? (i := 181) rfl)), List.forall_mem_cons.mpr ⟨(tB_1 (List.mem_of_getElem? (i := 182) rfl)), List.forall_mem_cons.mpr ⟨(tB_4 (List.mem_of_getElem? (i := 26) rfl)), List.forall_mem_cons.mpr ⟨(tB_4 (List.mem_of_getElem? (i := 27) rfl)), List.forall_mem_cons.mpr ⟨(tB_4 (List.mem_of_getElem? (i := 28) rfl)), List.forall_mem_cons.mpr ⟨(tB_4 (List.mem_of_getElem? (i := 29) rfl)), List.forall_mem_cons.mpr ⟨(tB_3 (List.mem_of_getElem? (i := 223) rfl)), List.forall_mem_cons.mpr ⟨(tB_4 (List.mem_of_getElem? (i := 30) rfl)), List.forall_mem_cons.mpr ⟨(tB_4 (List.mem_of_getElem? (i := 31) rfl)), List.forall_mem_cons.mpr ⟨(tB_4 (List.mem_of_getElem? (i := 32) rfl)), List.forall_mem_cons.mpr ⟨(tB_4 (List.mem_of_getElem? (i := 33) rfl)), List.forall_mem_cons.mpr ⟨(tB_4 (List.mem_of_getElem? (i := 34) rfl)), List.forall_mem_cons.mpr ⟨(tB_4 (List.mem_of_getElem? (i := 35) rfl)), List.forall_mem_cons.mpr ⟨(tB_4 (List.mem_of_getElem? (i := 36) rfl)), List.forall_mem_cons.mpr ⟨(tB_3 (List.mem_of_getElem? (i := 224) rfl)), List.forall_mem_cons.mpr ⟨(tB_3 (List.mem_of_getElem? (i := 11) rfl)), List.forall_mem_cons.mpr ⟨(tB_3 (List.mem_of_getElem? (i := 12) rfl)), List.forall_mem_cons.mpr ⟨(tB_1 (List.mem_of_getElem? (i := 0) rfl)), fun _ h => absurd h List.not_mem_nil⟩⟩⟩⟩⟩⟩⟩⟩⟩⟩⟩⟩⟩⟩⟩⟩⟩⟩⟩⟩⟩⟩⟩⟩
theorem tb_wsL_law0_r6 : ∀ w ∈ wsL_law0_r6, w ∈ lw_tbl := List.forall_mem_cons.mpr ⟨(tB_3 (List.mem_of_getElem? (i := 13) rfl)), List.forall_mem_cons.mpr ⟨(tB_3 (List.mem_of_getElem? (i := 14) rfl)), List.forall_mem_cons.mpr ⟨(tB_3 (List.mem_of_getElem? (i := 99) rfl)), List.forall_mem_cons.mpr ⟨(tB_3 (List.mem_of_getElem? (i := 100) rfl)), List.forall_mem_cons.mpr ⟨(tB_3 (List.mem_of_getElem? (i := 101) rfl)), List.forall_mem_cons.mpr ⟨(tB_3 (List.mem_of_getElem? (i := 102) rfl)), List.forall_mem_cons.mpr ⟨(tB_3 (List.mem_of_getElem? (i := 103) rfl)), List.forall_mem_cons.mpr ⟨(tB_3 (List.mem_of_getElem? (i := 15) rfl)), List.forall_mem_cons.mpr ⟨(tB_1 (List.mem_of_getElem? (i := 11) rfl)), List.forall_mem_cons.mpr ⟨(tB_3 (List.mem_of_getElem? (i := 106) rfl)), List.forall_mem_cons.mpr ⟨(tB_3 (List.mem_of_getElem? (i := 107) rfl)), List.forall_mem_cons.mpr ⟨(tB_3 (List.mem_of_getElem? (i := 108) rfl)), List.forall_mem_cons.mpr ⟨(tB_3 (List.mem_of_getElem? (i := 109) rfl)), List.forall_mem_cons.mpr ⟨(tB_4 (List.mem_of_getElem? (i := 37) rfl)), List.forall_mem_cons.mpr ⟨(tB_4 (List.mem_of_getElem? (i := 38) rfl)), List.forall_mem_cons.mpr ⟨(tB_4 (List.mem_of_getElem? (i := 39) rfl)), List.forall_mem_cons.mpr ⟨(tB_4 (List.mem_of_getElem? (i := 40) rfl)), List.forall_mem_cons.mpr ⟨(tB_3 (List.mem_of_getElem? (i := 227) rfl)), List.forall_mem_cons.mpr ⟨(tB_4 (List.mem_of_getElem? (i := 41) rfl)), List.forall_mem_cons.mpr ⟨(tB_4 (List.mem_of_getElem? (i := 43) rfl)), List.forall_mem_cons.mpr ⟨(tB_0 (List.mem_of_getElem? (i := 23) rfl)), List.forall_mem_cons.mpr ⟨(tB_4 (List.mem_of_getElem? (i := 44) rfl)), List.forall_mem_cons.mpr ⟨(tB_3 (List.mem_of_getElem? (i := 213) rfl)), List.forall_mem_cons.mpr ⟨(tB_3 (List.mem_of_getElem? (i := 214) rfl)), fun _ h => absurd h List.not_mem_nil⟩⟩⟩⟩⟩⟩⟩⟩⟩⟩⟩⟩⟩⟩⟩⟩⟩⟩⟩⟩⟩⟩⟩⟩
theorem tb_wsL_law0_r7 : ∀ w ∈ wsL_law0_r7, w ∈ lw_tbl := List.forall_mem_cons.mpr ⟨(tB_3 (List.mem_of_getElem? (i := 215) rfl)), List.forall_mem_cons.mpr ⟨(tB_3 (List.mem_of_getElem? (i := 216) rfl)), List.forall_mem_cons.mpr ⟨(tB_3 (List.mem_of_getElem? (i := 110) rfl)), List.forall_mem_cons.mpr ⟨(tB_3 (List.mem_of_getElem? (i := 111) rfl)), List.forall_mem_cons.mpr ⟨(tB_3 (List.mem_of_getElem? (i := 112) rfl)), List.forall_mem_cons.mpr ⟨(tB_3 (List.mem_of_getElem? (i := 113) rfl)), List.forall_mem_cons.mpr ⟨(tB_3 (List.mem_of_getElem? (i := 132) rfl)), List.forall_mem_cons.mpr ⟨(tB_3 (List.mem_of_getElem? (i := 133) rfl)), List.forall_mem_cons.mpr ⟨(tB_3 (List.mem_of_getElem? (i := 134) rfl)), List.forall_mem_cons.mpr ⟨(tB_3 (List.mem_of_getElem? (i := 135) rfl)), List.forall_mem_cons.mpr ⟨(tB_3 (List.mem_of_getElem? (i := 140) rfl)), List.forall_mem_cons.mpr ⟨(tB_3 (List.mem_of_getElem? (i := 114) rfl)), List.forall_mem_cons.mpr ⟨(tB_1 (List.mem_of_getElem? (i := 14) rfl)), List.forall_mem_cons.mpr ⟨(tB_2 (List.mem_of_getElem? (i := 8) rfl)), List.forall_mem_cons.mpr ⟨(tB_1 (List.mem_of_getElem? (i := 192) rfl)), List.forall_mem_cons.mpr ⟨(tB_1 (List.mem_of_getElem? (i := 193) rfl)), List.forall_mem_cons.mpr ⟨(tB_1 (List.mem_of_getElem? (i := 194) rfl)), List.forall_mem_cons.mpr ⟨(tB_3 (List.mem_of_getElem? (i := 136) rfl)), List.forall_mem_cons.mpr ⟨(tB_3 (List.mem_of_getElem? (i := 137) rfl)), List.forall_mem_cons.mpr ⟨(tB_3 (List.mem_of_getElem? (i := 138) rfl)), List.forall_mem_cons.mpr ⟨(tB_3 (List.mem_of_getElem? (i := 139) rfl)), List.forall_mem_cons.mpr ⟨(tB_3 (List.mem_of_getElem? (i := 143) rfl)), List.forall_mem_cons.mpr ⟨(tB_3 (List.mem_of_getElem? (i := 144) rfl)), List.forall_mem_cons.mpr ⟨(tB_3 (List.mem_of_getElem? (i := 145) rfl)), fun _ h => absurd h List.not_mem_nil⟩⟩⟩⟩⟩⟩⟩⟩⟩⟩⟩⟩⟩⟩⟩⟩⟩⟩⟩⟩⟩⟩⟩⟩
theorem tb_wsL_law0_r8 : ∀ w ∈ wsL_law0_r8, w ∈ lw_tbl := List.forall_mem_cons.mpr ⟨(tB_3 (List.mem_of_getElem? (i := 146) rfl)), List.forall_mem_cons.mpr ⟨(tB_4 (List.mem_of_getElem? (i := 45) rfl)), List.forall_mem_cons.mpr ⟨(tB_4 (List.mem_of_getElem? (i := 46) rfl)), List.forall_mem_cons.mpr ⟨(tB_4 (List.mem_of_getElem? (i := 47) rfl)), List.forall_mem_cons.mpr ⟨(tB_4 (List.mem_of_getElem? (i := 48) rfl)), List.forall_mem_cons.mpr ⟨(tB_4 (List.mem_of_getElem? (i := 49) rfl)), List.forall_mem_cons.mpr ⟨(tB_4 (List.mem_of_getElem? (i := 51) rfl)), List.forall_mem_cons.mpr ⟨(tB_0 (List.mem_of_getElem? (i := 24) rfl)), List.forall_mem_cons.mpr ⟨(tB_4 (List.mem_of_getElem? (i := 52) rfl)), List.forall_mem_cons.mpr ⟨(tB_4 (List.mem_of_getElem? (i := 53) rfl)), List.forall_mem_cons.mpr ⟨(tB_4 (List.mem_of_getElem? (i := 55) rfl)), List.forall_mem_cons.mpr ⟨(tB_0 (List.mem_of_getElem? (i := 25) rfl)), List.forall_mem_cons.mpr ⟨(tB_4 (List.mem_of_getElem? (i := 56) rfl)), List.forall_mem_cons.mpr ⟨(tB_3 (List.mem_of_getElem? (i := 147) rfl)), List.forall_mem_cons.mpr ⟨(tB_3 (List.mem_of_getElem? (i := 148) rfl)), List.forall_mem_cons.mpr ⟨(tB_3 (List.mem_of_getElem? (i := 149) rfl)), List.forall_mem_cons.mpr ⟨(tB_3 (List.mem_of_getElem? (i := 150) rfl)), List.forall_mem_cons.mpr ⟨(tB_3 (List.mem_of_getElem? (i := 175) rfl)), List.forall_mem_cons.mpr ⟨(tB_3 (List.mem_of_getElem? (i := 176) rfl)), List.forall_mem_cons.mpr ⟨(tB_3 (List.mem_of_getElem? (i := 177) rfl)), List.forall_mem_cons.mpr ⟨(tB_3 (List.mem_of_getElem? (i := 178) rfl)), List.forall_mem_cons.mpr ⟨(tB_1 (List.mem_of_getElem? (i := 98) rfl)), List.forall_mem_cons.mpr ⟨(tB_3 (List.mem_of_getElem? (i := 179) rfl)), List.forall_mem_cons.mpr ⟨(tB_3 (List.mem_of_getElem? (i := 44) rfl)), fun _ h => absurd h List.not_mem_nil⟩⟩⟩⟩⟩⟩⟩⟩⟩⟩⟩⟩⟩⟩⟩⟩⟩⟩⟩⟩⟩⟩⟩⟩
theorem tb_wsL_law0_r9 : ∀ w ∈ wsL_law0_r9, w ∈ lw_tbl := List.forall_mem_cons.mpr ⟨(tB_1 (List.mem_of_getElem? (i := 15) rfl)), List.forall_mem_cons.mpr ⟨(tB_1 (List.mem_of_getElem? (i := 37) rfl)), List.forall_mem_cons.mpr ⟨(tB_1 (List.mem_of_getElem? (i := 41) rfl)), List.forall_mem_cons.mpr ⟨(tB_4 (List.mem_of_getElem? (i := 57) rfl)), List.forall_mem_cons.mpr ⟨(tB_4 (List.mem_of_getElem? (i := 58) rfl)), List.forall_mem_cons.mpr ⟨(tB_4 (List.mem_of_getElem? (i := 59) rfl)), List.forall_mem_cons.mpr ⟨(tB_4 (List.mem_of_getElem? (i := 60) rfl)), List.forall_mem_cons.mpr ⟨(tB_1 (List.mem_of_getElem? (i := 183) rfl)), List.forall_mem_cons.mpr ⟨(tB_1 (List.mem_of_getElem? (i := 184) rfl)), List.forall_mem_cons.mpr ⟨(tB_1 (List.mem_of_getElem? (i := 185) rfl)), List.forall_mem_cons.mpr ⟨(tB_1 (List.mem_of_getElem? (i := 186) rfl)), List.forall_mem_cons.mpr ⟨(tB_1 (List.mem_of_getElem? (i := 187) rfl)), List.forall_mem_cons.mpr ⟨(tB_1 (List.mem_of_getElem? (i := 188) rfl)), List.forall_mem_cons.mpr ⟨(tB_1 (List.mem_of_getElem? (i := 189) rfl)), List.forall_mem_cons.mpr ⟨(tB_1 (List.mem_of_getElem? (i := 190) rfl)), List.forall_mem_cons.mpr ⟨(tB_1 (List.mem_of_getElem? (i := 191) rfl)), List.forall_mem_cons.mpr ⟨(tB_1 (List.mem_of_getElem? (i := 195) rfl)), List.forall_mem_cons.mpr ⟨(tB_1 (List.mem_of_getElem? (i := 196) rfl)), List.forall_mem_cons.mpr ⟨(tB_1 (List.mem_of_getElem? (i := 197) rfl)), List.forall_mem_cons.mpr ⟨(tB_1 (List.mem_of_getElem? (i := 198) rfl)), List.forall_mem_cons.mpr ⟨(tB_1 (List.mem_of_getElem? (i := 199) rfl)), List.forall_mem_cons.mpr ⟨(tB_1 (List.mem_of_getElem? (i := 200) rfl)), List.forall_mem_cons.mpr ⟨(tB_1 (List.mem_of_getElem? (i := 201) rfl)), List.forall_mem_cons.mpr ⟨(tB_1 (List.mem_of_getElem? (i := 202) rfl)), fun _ h => absurd h List.not_mem_nil⟩⟩⟩⟩⟩⟩⟩⟩⟩⟩⟩⟩⟩⟩⟩⟩⟩⟩⟩⟩⟩⟩⟩⟩
theorem tb_wsL_law0_r10 : ∀ w ∈ wsL_law0_r10, w ∈ lw_tbl := List.forall_mem_cons.mpr ⟨(tB_1 (List.mem_of_getElem? (i := 203) rfl)), List.forall_mem_cons.mpr ⟨(tB_1 (List.mem_of_getElem? (i := 204) rfl)), List.forall_mem_cons.mpr ⟨(tB_1 (List.mem_of_getElem? (i := 16) rfl)), List.forall_mem_cons.mpr ⟨(tB_1 (List.mem_of_getElem? (i := 205) rfl)), List.forall_mem_cons.mpr ⟨(tB_1 (List.mem_of_getElem? (i := 206) rfl)), List.forall_mem_cons.mpr ⟨(tB_1 (List.mem_of_getElem? (i := 207) rfl)), List.forall_mem_cons.mpr ⟨(tB_1 (List.mem_of_getElem? (i := 208) rfl)), List.forall_mem_cons.mpr ⟨(tB_1 (List.mem_of_getElem? (i := 209) rfl)), List.forall_mem_cons.mpr ⟨(tB_1 (List.mem_of_getElem? (i := 229) rfl)), List.forall_mem_cons.mpr ⟨(tB_1 (List.mem_of_getElem? (i := 210) rfl)), List.forall_mem_cons.mpr ⟨(tB_1 (List.mem_of_getElem? (i := 212) rfl)), List.forall_mem_cons.mpr ⟨(tB_0 (List.mem_of_getElem? (i := 0) rfl)), List.forall_mem_cons.mpr ⟨(tB_1 (List.mem_of_getElem? (i := 213) rfl)), List.forall_mem_cons.mpr ⟨(tB_1 (List.mem_of_getElem? (i := 36) rfl)), List.forall_mem_cons.mpr ⟨(tB_1 (List.mem_of_getElem? (i := 214) rfl)), List.forall_mem_cons.mpr ⟨(tB_1 (List.mem_of_getElem? (i := 215) rfl)), List.forall_mem_cons.mpr ⟨(tB_1 (List.mem_of_getElem? (i := 217) rfl)), List.forall_mem_cons.mpr ⟨(tB_0 (List.mem_of_getElem? (i := 1) rfl)), List.forall_mem_cons.mpr ⟨(tB_1 (List.mem_of_getElem? (i := 218) rfl)), List.forall_mem_cons.mpr ⟨(tB_1 (List.mem_of_getElem? (i := 42) rfl)), List.forall_mem_cons.mpr ⟨(tB_1 (List.mem_of_getElem? (i := 219) rfl)), List.forall_mem_cons.mpr ⟨(tB_1 (List.mem_of_getElem? (i := 221) rfl)), List.forall_mem_cons.mpr ⟨(tB_0 (List.mem_of_getElem? (i := 2) rfl)), List.forall_mem_cons.mpr ⟨(tB_1 (List.mem_of_getElem? (i := 222) rfl)), fun _ h => absurd h List.not_mem_nil⟩⟩⟩⟩⟩⟩⟩⟩⟩⟩⟩⟩⟩⟩⟩⟩⟩⟩⟩⟩⟩⟩⟩⟩
theorem tb_wsL_law0_r11 : ∀ w ∈ wsL_law0_r11, w ∈ lw_tbl := List.forall_mem_cons.mpr ⟨(tB_1 (List.mem_of_getElem? (i := 223) rfl)), List.forall_mem_cons.mpr ⟨(tB_1 (List.mem_of_getElem? (i := 224) rfl)), List.forall_mem_cons.mpr ⟨(tB_1 (List.mem_of_getElem? (i := 225) rfl)), List.forall_mem_cons.mpr ⟨(tB_1 (List.mem_of_getElem? (i := 226) rfl)), List.forall_mem_cons.mpr ⟨(tB_1 (List.mem_of_getElem? (i := 227) rfl)), List.forall_mem_cons.mpr ⟨(tB_1 (List.mem_of_getElem? (i := 228) rfl)), List.forall_mem_cons.mpr ⟨(tB_1 (List.mem_of_getElem? (i := 230) rfl)), List.forall_mem_cons.mpr ⟨(tB_1 (List.mem_of_getElem? (i := 231) rfl)), List.forall_mem_cons.mpr ⟨(tB_1 (List.mem_of_getElem? (i := 232) rfl)), List.forall_mem_cons.mpr ⟨(tB_1 (List.mem_of_getElem? (i := 233) rfl)), List.forall_mem_cons.mpr ⟨(tB_1 (List.mem_of_getElem? (i := 235) rfl)), List.forall_mem_cons.mpr ⟨(tB_1 (List.mem_of_getElem? (i := 236) rfl)), List.forall_mem_cons.mpr ⟨(tB_1 (List.mem_of_getElem? (i := 237) rfl)), List.forall_mem_cons.mpr ⟨(tB_1 (List.mem_of_getElem? (i := 238) rfl)), List.forall_mem_cons.mpr ⟨(tB_1 (List.mem_of_getElem? (i := 17) rfl)), List.forall_mem_cons.mpr ⟨(tB_1 (List.mem_of_getElem? (i := 239) rfl)), List.forall_mem_cons.mpr ⟨(tB_2 (List.mem_of_getElem? (i := 0) rfl)), List.forall_mem_cons.mpr ⟨(tB_2 (List.mem_of_getElem? (i := 1) rfl)), List.forall_mem_cons.mpr ⟨(tB_2 (List.mem_of_getElem? (i := 2) rfl)), List.forall_mem_cons.mpr ⟨(tB_2 (List.mem_of_getElem? (i := 3) rfl)), List.forall_mem_cons.mpr ⟨(tB_4 (List.mem_of_getElem? (i := 61) rfl)), List.forall_mem_cons.mpr ⟨(tB_4 (List.mem_of_getElem? (i := 62) rfl)), List.forall_mem_cons.mpr ⟨(tB_4 (List.mem_of_getElem? (i := 63) rfl)), List.forall_mem_cons.mpr ⟨(tB_4 (List.mem_of_getElem? (i := 64) rfl)), fun _ h => absurd h List.not_mem_nil⟩⟩⟩⟩⟩⟩⟩⟩⟩⟩⟩⟩⟩⟩⟩⟩⟩⟩⟩⟩⟩⟩⟩⟩
theorem tb_wsL_law0_r12 : ∀ w ∈ wsL_law0_r12, w ∈ lw_tbl := List.forall_mem_cons.mpr ⟨(tB_4 (List.mem_of_getElem? (i := 65) rfl)), List.forall_mem_cons.mpr ⟨(tB_4 (List.mem_of_getElem? (i := 67) rfl)), List.forall_mem_cons.mpr ⟨(tB_0 (List.mem_of_getElem? (i := 26) rfl)), List.forall_mem_cons.mpr ⟨(tB_4 (List.mem_of_getElem? (i := 68) rfl)), List.forall_mem_cons.mpr ⟨(tB_4 (List.mem_of_getElem? (i := 69) rfl)), List.forall_mem_cons.mpr ⟨(tB_4 (List.mem_of_getElem? (i := 71) rfl)), List.forall_mem_cons.mpr ⟨(tB_0 (List.mem_of_getElem? (i := 27) rfl)), List.forall_mem_cons.mpr ⟨(tB_4 (List.mem_of_getElem? (i := 72) rfl)), List.forall_mem_cons.mpr ⟨(tB_4 (List.mem_of_getElem? (i := 92) rfl)), List.forall_mem_cons.mpr ⟨(tB_4 (List.mem_of_getElem? (i := 73) rfl)), List.forall_mem_cons.mpr ⟨(tB_4 (List.mem_of_getElem? (i := 75) rfl)), List.forall_mem_cons.mpr ⟨(tB_0 (List.mem_of_getElem? (i := 28) rfl)), List.forall_mem_cons.mpr ⟨(tB_4 (List.mem_of_getElem? (i := 76) rfl)), List.forall_mem_cons.mpr ⟨(tB_4 (List.mem_of_getElem? (i := 77) rfl)), List.forall_mem_cons.mpr ⟨(tB_4 (List.mem_of_getElem? (i := 78) rfl)), List.forall_mem_cons.mpr ⟨(tB_4 (List.mem_of_getElem? (i := 80) rfl)), List.forall_mem_cons.mpr ⟨(tB_0 (List.mem_of_getElem? (i := 29) rfl)), List.forall_mem_cons.mpr ⟨(tB_4 (List.mem_of_getElem? (i := 81) rfl)), List.forall_mem_cons.mpr ⟨(tB_4 (List.mem_of_getElem? (i := 82) rfl)), List.forall_mem_cons.mpr ⟨(tB_4 (List.mem_of_getElem? (i := 84) rfl)), List.forall_mem_cons.mpr ⟨(tB_0 (List.mem_of_getElem? (i := 30) rfl)), List.forall_mem_cons.mpr ⟨(tB_4 (List.mem_of_getElem? (i := 85) rfl)), List.forall_mem_cons.mpr ⟨(tB_4 (List.mem_of_getElem? (i := 86) rfl)), List.forall_mem_cons.mpr ⟨(tB_4 (List.mem_of_getElem? (i := 87) rfl)), fun _ h => absurd h List.not_mem_nil⟩⟩⟩⟩⟩⟩⟩⟩⟩⟩⟩⟩⟩⟩⟩⟩⟩⟩⟩⟩⟩⟩⟩⟩
theorem tb_wsL_law0_r13 : ∀ w ∈ wsL_law0_r13, w ∈ lw_tbl := List.forall_mem_cons.mpr ⟨(tB_4 (List.mem_of_getElem? (i := 88) rfl)), List.forall_mem_cons.mpr ⟨(tB_4 (List.mem_of_getElem? (i := 89) rfl)), List.forall_mem_cons.mpr ⟨(tB_4 (List.mem_of_getElem? (i := 90) rfl)), List.forall_mem_cons.mpr ⟨(tB_4 (List.mem_of_getElem? (i := 91) rfl)), List.forall_mem_cons.mpr ⟨(tB_4 (List.mem_of_getElem? (i := 93) rfl)), List.forall_mem_cons.mpr ⟨(tB_4 (List.mem_of_getElem? (i := 95) rfl)), List.forall_mem_cons.mpr ⟨(tB_0 (List.mem_of_getElem? (i := 31) rfl)), List.forall_mem_cons.mpr ⟨(tB_4 (List.mem_of_getElem? (i := 96) rfl)), List.forall_mem_cons.mpr ⟨(tB_4 (List.mem_of_getElem? (i := 97) rfl)), List.forall_mem_cons.mpr ⟨(tB_4 (List.mem_of_getElem? (i := 98) rfl)), List.forall_mem_cons.mpr ⟨(tB_4 (List.mem_of_getElem? (i := 99) rfl)), List.forall_mem_cons.mpr ⟨(tB_4 (List.mem_of_getElem? (i := 100) rfl)), List.forall_mem_cons.mpr ⟨(tB_4 (List.mem_of_getElem? (i := 102) rfl)), List.forall_mem_cons.mpr ⟨(tB_0 (List.mem_of_getElem? (i := 32) rfl)), List.forall_mem_cons.mpr ⟨(tB_4 (List.mem_of_getElem? (i := 103) rfl)), List.forall_mem_cons.mpr ⟨(tB_3 (List.mem_of_getElem? (i := 230) rfl)), List.forall_mem_cons.mpr ⟨(tB_3 (List.mem_of_getElem? (i := 231) rfl)), List.forall_mem_cons.mpr ⟨(tB_3 (List.mem_of_getElem? (i := 232) rfl)), List.forall_mem_cons.mpr ⟨(tB_2 (List.mem_of_getElem? (i := 4) rfl)), List.forall_mem_cons.mpr ⟨(tB_2 (List.mem_of_getElem? (i := 5) rfl)), List.forall_mem_cons.mpr ⟨(tB_2 (List.mem_of_getElem? (i := 6) rfl)), List.forall_mem_cons.mpr ⟨(tB_2 (List.mem_of_getElem? (i := 7) rfl)), List.forall_mem_cons.mpr ⟨(tB_2 (List.mem_of_getElem? (i := 9) rfl)), List.forall_mem_cons.mpr ⟨(tB_2 (List.mem_of_getElem? (i := 10) rfl)), fun _ h => absurd h List.not_mem_nil⟩⟩⟩⟩⟩⟩⟩⟩⟩⟩⟩⟩⟩⟩⟩⟩⟩⟩⟩⟩⟩⟩⟩⟩
theorem tb_wsL_law0_r14 : ∀ w ∈ wsL_law0_r14, w ∈ lw_tbl := List.forall_mem_cons.mpr ⟨(tB_2 (List.mem_of_getElem? (i := 11) rfl)), List.forall_mem_cons.mpr ⟨(tB_2 (List.mem_of_getElem? (i := 12) rfl)), List.forall_mem_cons.mpr ⟨(tB_2 (List.mem_of_getElem? (i := 13) rfl)), List.forall_mem_cons.mpr ⟨(tB_2 (List.mem_of_getElem? (i := 14) rfl)), List.forall_mem_cons.mpr ⟨(tB_2 (List.mem_of_getElem? (i := 15) rfl)), List.forall_mem_cons.mpr ⟨(tB_2 (List.mem_of_getElem? (i := 16) rfl)), List.forall_mem_cons.mpr ⟨(tB_2 (List.mem_of_getElem? (i := 17) rfl)), List.forall_mem_cons.mpr ⟨(tB_2 (List.mem_of_getElem? (i := 18) rfl)), List.forall_mem_cons.mpr ⟨(tB_4 (List.mem_of_getElem? (i := 104) rfl)), List.forall_mem_cons.mpr ⟨(tB_4 (List.mem_of_getElem? (i := 105) rfl)), List.forall_mem_cons.mpr ⟨(tB_4 (List.mem_of_getElem? (i := 106) rfl)), List.forall_mem_cons.mpr ⟨(tB_4 (List.mem_of_getElem? (i := 107) rfl)), List.forall_mem_cons.mpr ⟨(tB_4 (List.mem_of_getElem? (i := 108) rfl)), List.forall_mem_cons.mpr ⟨(tB_4 (List.mem_of_getElem? (i := 110) rfl)), List.forall_mem_cons.mpr ⟨(tB_0 (List.mem_of_getElem? (i := 33) rfl)), List.forall_mem_cons.mpr ⟨(tB_4 (List.mem_of_getElem? (i := 111) rfl)), List.forall_mem_cons.mpr ⟨(tB_4 (List.mem_of_getElem? (i := 112) rfl)), List.forall_mem_cons.mpr ⟨(tB_4 (List.mem_of_getElem? (i := 113) rfl)), List.forall_mem_cons.mpr ⟨(tB_4 (List.mem_of_getElem? (i := 115) rfl)), List.forall_mem_cons.mpr ⟨(tB_0 (List.mem_of_getElem? (i := 34) rfl)), List.forall_mem_cons.mpr ⟨(tB_4 (List.mem_of_getElem? (i := 116) rfl)), List.forall_mem_cons.mpr ⟨(tB_2 (List.mem_of_getElem? (i := 19) rfl)), List.forall_mem_cons.mpr ⟨(tB_2 (List.mem_of_getElem? (i := 20) rfl)), List.forall_mem_cons.mpr ⟨(tB_2 (List.mem_of_getElem? (i := 21) rfl)), fun _ h => absurd h List.not_mem_nil⟩⟩⟩⟩⟩⟩⟩⟩⟩⟩⟩⟩⟩⟩⟩⟩⟩⟩⟩⟩⟩⟩⟩⟩
theorem tb_wsL_law0_r15 : ∀ w ∈ wsL_law0_r15, w ∈ lw_tbl := List.forall_mem_cons.mpr ⟨(tB_2 (List.mem_of_getElem? (i := 22) rfl)), List.forall_mem_cons.mpr ⟨(tB_1 (List.mem_of_getElem? (i := 62) rfl)), List.forall_mem_cons.mpr ⟨(tB_4 (List.mem_of_getElem? (i := 117) rfl)), List.forall_mem_cons.mpr ⟨(tB_4 (List.mem_of_getElem? (i := 118) rfl)), List.forall_mem_cons.mpr ⟨(tB_4 (List.mem_of_getElem? (i := 119) rfl)), List.forall_mem_cons.mpr ⟨(tB_4 (List.mem_of_getElem? (i := 120) rfl)), List.forall_mem_cons.mpr ⟨(tB_2 (List.mem_of_getElem? (i := 23) rfl)), List.forall_mem_cons.mpr ⟨(tB_2 (List.mem_of_getElem? (i := 24) rfl)), List.forall_mem_cons.mpr ⟨(tB_2 (List.mem_of_getElem? (i := 25) rfl)), List.forall_mem_cons.mpr ⟨(tB_2 (List.mem_of_getElem? (i := 26) rfl)), List.forall_mem_cons.mpr ⟨(tB_1 (List.mem_of_getElem? (i := 64) rfl)), List.forall_mem_cons.mpr ⟨(tB_1 (List.mem_of_getElem? (i := 66) rfl)), List.forall_mem_cons.mpr ⟨(tB_1 (List.mem_of_getElem? (i := 68) rfl)), List.forall_mem_cons.mpr ⟨(tB_4 (List.mem_of_getElem? (i := 121) rfl)), List.forall_mem_cons.mpr ⟨(tB_4 (List.mem_of_getElem? (i := 122) rfl)), List.forall_mem_cons.mpr ⟨(tB_4 (List.mem_of_getElem? (i := 123) rfl)), List.forall_mem_cons.mpr ⟨(tB_4 (List.mem_of_getElem? (i := 124) rfl)), List.forall_mem_cons.mpr ⟨(tB_2 (List.mem_of_getElem? (i := 27) rfl)), List.forall_mem_cons.mpr ⟨(tB_2 (List.mem_of_getElem? (i := 28) rfl)), List.forall_mem_cons.mpr ⟨(tB_2 (List.mem_of_getElem? (i := 29) rfl)), List.forall_mem_cons.mpr ⟨(tB_2 (List.mem_of_getElem? (i := 30) rfl)), List.forall_mem_cons.mpr ⟨(tB_2 (List.mem_of_getElem? (i := 31) rfl)), List.forall_mem_cons.mpr ⟨(tB_2 (List.mem_of_getElem? (i := 32) rfl)), List.forall_mem_cons.mpr ⟨(tB_2 (List.mem_of_getElem? (i := 33) rfl)), fun _ h => absurd h List.not_mem_nil⟩⟩⟩⟩⟩⟩⟩⟩⟩⟩⟩⟩⟩⟩⟩⟩⟩⟩⟩⟩⟩⟩⟩⟩
theorem tb_wsL_law0_r16 : ∀ w ∈ wsL_law0_r16, w ∈ lw_tbl := List.forall_mem_cons.mpr ⟨(tB_2 (List.mem_of_getElem? (i := 34) rfl)), List.forall_mem_cons.mpr ⟨(tB_2 (List.mem_of_getElem? (i := 35) rfl)), List.forall_mem_cons.mpr ⟨(tB_2 (List.mem_of_getElem? (i := 36) rfl)), List.forall_mem_cons.mpr ⟨(tB_2 (List.mem_of_getElem? (i := 37) rfl)), List.forall_mem_cons.mpr ⟨(tB_2 (List.mem_of_getElem? (i := 38) rfl)), List.forall_mem_cons.mpr ⟨(tB_2 (List.mem_of_getElem? (i := 39) rfl)), List.forall_mem_cons.mpr ⟨(tB_2 (List.mem_of_getElem? (i := 40) rfl)), List.forall_mem_cons.mpr ⟨(tB_2 (List.mem_of_getElem? (i := 41) rfl)), List.forall_mem_cons.mpr ⟨(tB_2 (List.mem_of_getElem? (i := 42) rfl)), List.forall_mem_cons.mpr ⟨(tB_2 (List.mem_of_getElem? (i := 43) rfl)), List.forall_mem_cons.mpr ⟨(tB_2 (List.mem_of_getElem? (i := 44) rfl)), List.forall_mem_cons.mpr ⟨(tB_1 (List.mem_of_getElem? (i := 18) rfl)), List.forall_mem_cons.mpr ⟨(by decide +kernel), List.forall_mem_cons.mpr ⟨(tB_2 (List.mem_of_getElem? (i := 46) rfl)), List.forall_mem_cons.mpr ⟨(tB_2 (List.mem_of_getElem? (i := 47) rfl)), List.forall_mem_cons.mpr ⟨(by decide +kernel), List.forall_mem_cons.mpr ⟨(tB_4 (List.mem_of_getElem? (i := 125) rfl)), List.forall_mem_cons.mpr ⟨(tB_4 (List.mem_of_getElem? (i := 126) rfl)), List.forall_mem_cons.mpr ⟨(tB_4 (List.mem_of_getElem? (i := 127) rfl)), List.forall_mem_cons.mpr ⟨(tB_4 (List.mem_of_getElem? (i := 128) rfl)), List.forall_mem_cons.mpr ⟨(tB_4 (List.mem_of_getElem? (i := 129) rfl)), List.forall_mem_cons.mpr ⟨(tB_4 (List.mem_of_getElem? (i := 131) rfl)), List.forall_mem_cons.mpr ⟨(tB_0 (List.mem_of_getElem? (i := 35) rfl)), List.forall_mem_cons.mpr ⟨(tB_4 (List.mem_of_getElem? (i := 132) rfl)), fun _ h => absurd h List.not_mem_nil⟩⟩⟩⟩⟩⟩⟩⟩⟩⟩⟩⟩⟩⟩⟩⟩⟩⟩⟩⟩⟩⟩⟩⟩
theorem tb_wsL_law0_r17 : ∀ w ∈ wsL_law0_r17, w ∈ lw_tbl := List.forall_mem_cons.mpr ⟨(tB_4 (List.mem_of_getElem? (i := 133) rfl)), List.forall_mem_cons.mpr ⟨(tB_4 (List.mem_of_getElem? (i := 135) rfl)), List.forall_mem_cons.mpr ⟨(tB_0 (List.mem_of_getElem? (i := 36) rfl)), List.forall_mem_cons.mpr ⟨(tB_4 (List.mem_of_getElem? (i := 136) rfl)), List.forall_mem_cons.mpr ⟨(tB_2 (List.mem_of_getElem? (i := 49) rfl)), List.forall_mem_cons.mpr ⟨(tB_2 (List.mem_of_getElem? (i := 50) rfl)), List.forall_mem_cons.mpr ⟨(tB_2 (List.mem_of_getElem? (i := 51) rfl)), List.forall_mem_cons.mpr ⟨(tB_2 (List.mem_of_getElem? (i := 52) rfl)), List.forall_mem_cons.mpr ⟨(tB_2 (List.mem_of_getElem? (i := 53) rfl)), List.forall_mem_cons.mpr ⟨(tB_2 (List.mem_of_getElem? (i := 54) rfl)), List.forall_mem_cons.mpr ⟨(tB_2 (List.mem_of_getElem? (i := 55) rfl)), List.forall_mem_cons.mpr ⟨(tB_2 (List.mem_of_getElem? (i := 56) rfl)), List.forall_mem_cons.mpr ⟨(tB_2 (List.mem_of_getElem? (i := 57) rfl)), List.forall_mem_cons.mpr ⟨(tB_2 (List.mem_of_getElem? (i := 58) rfl)), List.forall_mem_cons.mpr ⟨(tB_2 (List.mem_of_getElem? (i := 59) rfl)), List.forall_mem_cons.mpr ⟨(tB_2 (List.mem_of_getElem? (i := 60) rfl)), List.forall_mem_cons.mpr ⟨(tB_2 (List.mem_of_getElem? (i := 61) rfl)), List.forall_mem_cons.mpr ⟨(tB_4 (List.mem_of_getElem? (i := 137) rfl)), List.forall_mem_cons.mpr ⟨(tB_4 (List.mem_of_getElem? (i := 138) rfl)), List.forall_mem_cons.mpr ⟨(tB_4 (List.mem_of_getElem? (i := 139) rfl)), List.forall_mem_cons.mpr ⟨(tB_4 (List.mem_of_getElem? (i := 140) rfl)), List.forall_mem_cons.mpr ⟨(tB_4 (List.mem_of_getElem? (i := 141) rfl)), List.forall_mem_cons.mpr ⟨(tB_4 (List.mem_of_getElem? (i := 143) rfl)), List.forall_mem_cons.mpr ⟨(tB_0 (List.mem_of_getElem? (i := 37) rfl)), fun _ h => absurd h List.not_mem_nil⟩⟩⟩⟩⟩⟩⟩⟩⟩⟩⟩⟩⟩⟩⟩⟩⟩⟩⟩⟩⟩⟩⟩⟩
theorem tb_wsL_law0_r18 : ∀ w ∈ wsL_law0_r18, w ∈ lw_tbl := List.forall_mem_cons.mpr ⟨(tB_4 (List.mem_of_getElem? (i := 144) rfl)), List.forall_mem_cons.mpr ⟨(tB_2 (List.mem_of_getElem? (i := 62) rfl)), List.forall_mem_cons.mpr ⟨(tB_2 (List.mem_of_getElem? (i := 63) rfl)), List.forall_mem_cons.mpr ⟨(tB_2 (List.mem_of_getElem? (i := 64) rfl)), List.forall_mem_cons.mpr ⟨(tB_2 (List.mem_of_getElem? (i := 65) rfl)), List.forall_mem_cons.mpr ⟨(tB_2 (List.mem_of_getElem? (i := 66) rfl)), List.forall_mem_cons.mpr ⟨(tB_2 (List.mem_of_getElem? (i := 67) rfl)), List.forall_mem_cons.mpr ⟨(tB_2 (List.mem_of_getElem? (i := 68) rfl)), List.forall_mem_cons.mpr ⟨(tB_2 (List.mem_of_getElem? (i := 69) rfl)), List.forall_mem_cons.mpr ⟨(tB_2 (List.mem_of_getElem? (i := 70) rfl)), List.forall_mem_cons.mpr ⟨(tB_2 (List.mem_of_getElem? (i := 72) rfl)), List.forall_mem_cons.mpr ⟨(tB_0 (List.mem_of_getElem? (i := 3) rfl)), List.forall_mem_cons.mpr ⟨(tB_2 (List.mem_of_getElem? (i := 73) rfl)), List.forall_mem_cons.mpr ⟨(tB_2 (List.mem_of_getElem? (i := 74) rfl)), List.forall_mem_cons.mpr ⟨(tB_2 (List.mem_of_getElem? (i := 76) rfl)), List.forall_mem_cons.mpr ⟨(tB_0 (List.mem_of_getElem? (i := 4) rfl)), List.forall_mem_cons.mpr ⟨(tB_2 (List.mem_of_getElem? (i := 77) rfl)), List.forall_mem_cons.mpr ⟨(tB_2 (List.mem_of_getElem? (i := 78) rfl)), List.forall_mem_cons.mpr ⟨(tB_2 (List.mem_of_getElem? (i := 79) rfl)), List.forall_mem_cons.mpr ⟨(tB_2 (List.mem_of_getElem? (i := 81) rfl)), List.forall_mem_cons.mpr ⟨(tB_0 (List.mem_of_getElem? (i := 5) rfl)), List.forall_mem_cons.mpr ⟨(tB_2 (List.mem_of_getElem? (i := 82) rfl)), List.forall_mem_cons.mpr ⟨(tB_4 (List.mem_of_getElem? (i := 145) rfl)), List.forall_mem_cons.mpr ⟨(tB_4 (List.mem_of_getElem? (i := 146) rfl)), fun _ h => absurd h List.not_mem_nil⟩⟩⟩⟩⟩⟩⟩⟩⟩⟩⟩⟩⟩⟩⟩⟩⟩⟩⟩⟩⟩⟩⟩⟩
theorem tb_wsL_law0_r19 : ∀ w ∈ wsL_law0_r19, w ∈ lw_tbl := List.forall_mem_cons.mpr ⟨(tB_4 (List.mem_of_getElem? (i := 147) rfl)), List.forall_mem_cons.mpr ⟨(tB_4 (List.mem_of_getElem? (i := 148) rfl)), List.forall_mem_cons.mpr ⟨(tB_4 (List.mem_of_getElem? (i := 149) rfl)), List.forall_mem_cons.mpr ⟨(tB_4 (List.mem_of_getElem? (i := 151) rfl)), List.forall_mem_cons.mpr ⟨(tB_0 (List.mem_of_getElem? (i := 38) rfl)), List.forall_mem_cons.mpr ⟨(tB_4 (List.mem_of_getElem? (i := 152) rfl)), List.forall_mem_cons.mpr ⟨(tB_2 (List.mem_of_getElem? (i := 83) rfl)), List.forall_mem_cons.mpr ⟨(tB_2 (List.mem_of_getElem? (i := 84) rfl)), List.forall_mem_cons.mpr ⟨(tB_2 (List.mem_of_getElem? (i := 85) rfl)), List.forall_mem_cons.mpr ⟨(tB_2 (List.mem_of_getElem? (i := 86) rfl)), List.forall_mem_cons.mpr ⟨(tB_2 (List.mem_of_getElem? (i := 87) rfl)), List.forall_mem_cons.mpr ⟨(tB_2 (List.mem_of_getElem? (i := 88) rfl)), List.forall_mem_cons.mpr ⟨(tB_2 (List.mem_of_getElem? (i := 89) rfl)), List.forall_mem_cons.mpr ⟨(tB_2 (List.mem_of_getElem? (i := 90) rfl)), List.forall_mem_cons.mpr ⟨(tB_2 (List.mem_of_getElem? (i := 91) rfl)), List.forall_mem_cons.mpr ⟨(tB_2 (List.mem_of_getElem? (i := 93) rfl)), List.forall_mem_cons.mpr ⟨(tB_0 (List.mem_of_getElem? (i := 6) rfl)), List.forall_mem_cons.mpr ⟨(tB_2 (List.mem_of_getElem? (i := 94) rfl)), List.forall_mem_cons.mpr ⟨(tB_2 (List.mem_of_getElem? (i := 95) rfl)), List.forall_mem_cons.mpr ⟨(tB_4 (List.mem_of_getElem? (i := 153) rfl)), List.forall_mem_cons.mpr ⟨(tB_4 (List.mem_of_getElem? (i := 154) rfl)), List.forall_mem_cons.mpr ⟨(tB_4 (List.mem_of_getElem? (i := 155) rfl)), List.forall_mem_cons.mpr ⟨(tB_4 (List.mem_of_getElem? (i := 156) rfl)), List.forall_mem_cons.mpr ⟨(tB_2 (List.mem_of_getElem? (i := 96) rfl)), fun _ h => absurd h List.not_mem_nil⟩⟩⟩⟩⟩⟩⟩⟩⟩⟩⟩⟩⟩⟩⟩⟩⟩⟩⟩⟩⟩⟩⟩⟩
theorem tb_wsL_law0_r20 : ∀ w ∈ wsL_law0_r20, w ∈ lw_tbl := List.forall_mem_cons.mpr ⟨(tB_2 (List.mem_of_getElem? (i := 97) rfl)), List.forall_mem_cons.mpr ⟨(tB_2 (List.mem_of_getElem? (i := 98) rfl)), List.forall_mem_cons.mpr ⟨(tB_2 (List.mem_of_getElem? (i := 99) rfl)), List.forall_mem_cons.mpr ⟨(tB_2 (List.mem_of_getElem? (i := 100) rfl)), List.forall_mem_cons.mpr ⟨(tB_2 (List.mem_of_getElem? (i := 101) rfl)), List.forall_mem_cons.mpr ⟨(tB_2 (List.mem_of_getElem? (i := 102) rfl)), List.forall_mem_cons.mpr ⟨(tB_2 (List.mem_of_getElem? (i := 103) rfl)), List.forall_mem_cons.mpr ⟨(tB_2 (List.mem_of_getElem? (i := 104) rfl)), List.forall_mem_cons.mpr ⟨(tB_2 (List.mem_of_getElem? (i := 105) rfl)), List.forall_mem_cons.mpr ⟨(tB_2 (List.mem_of_getElem? (i := 106) rfl)), List.forall_mem_cons.mpr ⟨(tB_2 (List.mem_of_getElem? (i := 107) rfl)), List.forall_mem_cons.mpr ⟨(tB_2 (List.mem_of_getElem? (i := 108) rfl)), List.forall_mem_cons.mpr ⟨(tB_2 (List.mem_of_getElem? (i := 110) rfl)), List.forall_mem_cons.mpr ⟨(tB_0 (List.mem_of_getElem? (i := 7) rfl)), List.forall_mem_cons.mpr ⟨(tB_2 (List.mem_of_getElem? (i := 111) rfl)), List.forall_mem_cons.mpr ⟨(tB_2 (List.mem_of_getElem? (i := 112) rfl)), List.forall_mem_cons.mpr ⟨(tB_2 (List.mem_of_getElem? (i := 114) rfl)), List.forall_mem_cons.mpr ⟨(tB_0 (List.mem_of_getElem? (i := 8) rfl)), List.forall_mem_cons.mpr ⟨(tB_2 (List.mem_of_getElem? (i := 115) rfl)), List.forall_mem_cons.mpr ⟨(tB_2 (List.mem_of_getElem? (i := 116) rfl)), List.forall_mem_cons.mpr ⟨(tB_4 (List.mem_of_getElem? (i := 157) rfl)), List.forall_mem_cons.mpr ⟨(tB_4 (List.mem_of_getElem? (i := 158) rfl)), List.forall_mem_cons.mpr ⟨(tB_4 (List.mem_of_getElem? (i := 159) rfl)), List.forall_mem_cons.mpr ⟨(tB_4 (List.mem_of_getElem? (i := 160) rfl)), fun _ h => absurd h List.not_mem_nil⟩⟩⟩⟩⟩⟩⟩⟩⟩⟩⟩⟩⟩⟩⟩⟩⟩⟩⟩⟩⟩⟩⟩⟩
theorem tb_wsL_law0_r21 : ∀ w ∈ wsL_law0_r21, w ∈ lw_tbl := List.forall_mem_cons.mpr ⟨(tB_4 (List.mem_of_getElem? (i := 161) rfl)), List.forall_mem_cons.mpr ⟨(tB_4 (List.mem_of_getElem? (i := 163) rfl)), List.forall_mem_cons.mpr ⟨(tB_0 (List.mem_of_getElem? (i := 39) rfl)), List.forall_mem_cons.mpr ⟨(tB_4 (List.mem_of_getElem? (i := 164) rfl)), List.forall_mem_cons.mpr ⟨(tB_4 (List.mem_of_getElem? (i := 165) rfl)), List.forall_mem_cons.mpr ⟨(tB_4 (List.mem_of_getElem? (i := 167) rfl)), List.forall_mem_cons.mpr ⟨(tB_0 (List.mem_of_getElem? (i := 40) rfl)), List.forall_mem_cons.mpr ⟨(tB_4 (List.mem_of_getElem? (i := 168) rfl)), List.forall_mem_cons.mpr ⟨(tB_4 (List.mem_of_getElem? (i := 169) rfl)), List.forall_mem_cons.mpr ⟨(tB_4 (List.mem_of_getElem? (i := 171) rfl)), List.forall_mem_cons.mpr ⟨(tB_0 (List.mem_of_getElem? (i := 41) rfl)), List.forall_mem_cons.mpr ⟨(tB_4 (List.mem_of_getElem? (i := 172) rfl)), List.forall_mem_cons.mpr ⟨(tB_2 (List.mem_of_getElem? (i := 117) rfl)), List.forall_mem_cons.mpr ⟨(tB_2 (List.mem_of_getElem? (i := 118) rfl)), List.forall_mem_cons.mpr ⟨(tB_2 (List.mem_of_getElem? (i := 119) rfl)), List.forall_mem_cons.mpr ⟨(tB_2 (List.mem_of_getElem? (i := 120) rfl)), List.forall_mem_cons.mpr ⟨(tB_2 (List.mem_of_getElem? (i := 121) rfl)), List.forall_mem_cons.mpr ⟨(tB_2 (List.mem_of_getElem? (i := 122) rfl)), List.forall_mem_cons.mpr ⟨(tB_2 (List.mem_of_getElem? (i := 123) rfl)), List.forall_mem_cons.mpr ⟨(tB_2 (List.mem_of_getElem? (i := 124) rfl)), List.forall_mem_cons.mpr ⟨(tB_2 (List.mem_of_getElem? (i := 125) rfl)), List.forall_mem_cons.mpr ⟨(tB_2 (List.mem_of_getElem? (i := 126) rfl)), List.forall_mem_cons.mpr ⟨(tB_2 (List.mem_of_getElem? (i := 127) rfl)), List.forall_mem_cons.mpr ⟨(tB_2 (List.mem_of_getElem? (i := 128) rfl)), fun _ h => absurd h List.not_mem_nil⟩⟩⟩⟩⟩⟩⟩⟩⟩⟩⟩⟩⟩⟩⟩⟩⟩⟩⟩⟩⟩⟩⟩⟩
theorem tb_wsL_law0_r22 : ∀ w ∈ wsL_law0_r22, w ∈ lw_tbl := List.forall_mem_cons.mpr ⟨(tB_2 (List.mem_of_getElem? (i := 129) rfl)), List.forall_mem_cons.mpr ⟨(tB_2 (List.mem_of_getElem? (i := 130) rfl)), List.forall_mem_cons.mpr ⟨(tB_2 (List.mem_of_getElem? (i := 132) rfl)), List.forall_mem_cons.mpr ⟨(tB_0 (List.mem_of_getElem? (i := 9) rfl)), List.forall_mem_cons.mpr ⟨(tB_2 (List.mem_of_getElem? (i := 133) rfl)), List.forall_mem_cons.mpr ⟨(tB_1 (List.mem_of_getElem? (i := 43) rfl)), List.forall_mem_cons.mpr ⟨(tB_2 (List.mem_of_getElem? (i := 134) rfl)), List.forall_mem_cons.mpr ⟨(tB_2 (List.mem_of_getElem? (i := 135) rfl)), List.forall_mem_cons.mpr ⟨(tB_2 (List.mem_of_getElem? (i := 136) rfl)), List.forall_mem_cons.mpr ⟨(tB_2 (List.mem_of_getElem? (i := 137) rfl)), List.forall_mem_cons.mpr ⟨(tB_4 (List.mem_of_getElem? (i := 173) rfl)), List.forall_mem_cons.mpr ⟨(tB_4 (List.mem_of_getElem? (i := 174) rfl)), List.forall_mem_cons.mpr ⟨(tB_4 (List.mem_of_getElem? (i := 175) rfl)), List.forall_mem_cons.mpr ⟨(tB_4 (List.mem_of_getElem? (i := 176) rfl)), List.forall_mem_cons.mpr ⟨(tB_4 (List.mem_of_getElem? (i := 177) rfl)), List.forall_mem_cons.mpr ⟨(tB_4 (List.mem_of_getElem? (i := 179) rfl)), List.forall_mem_cons.mpr ⟨(tB_0 (List.mem_of_getElem? (i := 42) rfl)), List.forall_mem_cons.mpr ⟨(tB_4 (List.mem_of_getElem? (i := 180) rfl)), List.forall_mem_cons.mpr ⟨(tB_4 (List.mem_of_getElem? (i := 181) rfl)), List.forall_mem_cons.mpr ⟨(tB_4 (List.mem_of_getElem? (i := 183) rfl)), List.forall_mem_cons.mpr ⟨(tB_0 (List.mem_of_getElem? (i := 43) rfl)), List.forall_mem_cons.mpr ⟨(tB_4 (List.mem_of_getElem? (i := 184) rfl)), List.forall_mem_cons.mpr ⟨(tB_2 (List.mem_of_getElem? (i := 138) rfl)), List.forall_mem_cons.mpr ⟨(tB_2 (List.mem_of_getElem? (i := 139) rfl)), fun _ h => absurd h List.not_mem_nil⟩⟩⟩⟩⟩⟩⟩⟩⟩⟩⟩⟩⟩⟩⟩⟩⟩⟩⟩⟩⟩⟩⟩⟩
theorem tb_wsL_law0_r23 : ∀ w ∈ wsL_law0_r23, w ∈ lw_tbl := List.forall_mem_cons.mpr ⟨(tB_2 (List.mem_of_getElem? (i := 140) rfl)), List.forall_mem_cons.mpr ⟨(tB_2 (List.mem_of_getElem? (i := 141) rfl)), List.forall_mem_cons.mpr ⟨(tB_4 (List.mem_of_getElem? (i := 185) rfl)), List.forall_mem_cons.mpr ⟨(tB_4 (List.mem_of_getElem? (i := 186) rfl)), List.forall_mem_cons.mpr ⟨(tB_4 (List.mem_of_getElem? (i := 187) rfl)), List.forall_mem_cons.mpr ⟨(tB_4 (List.mem_of_getElem? (i := 188) rfl)), List.forall_mem_cons.mpr ⟨(tB_2 (List.mem_of_getElem? (i := 142) rfl)), List.forall_mem_cons.mpr ⟨(tB_2 (List.mem_of_getElem? (i := 143) rfl)), List.forall_mem_cons.mpr ⟨(tB_2 (List.mem_of_getElem? (i := 144) rfl)), List.forall_mem_cons.mpr ⟨(tB_2 (List.mem_of_getElem? (i := 145) rfl)), List.forall_mem_cons.mpr ⟨(tB_2 (List.mem_of_getElem? (i := 146) rfl)), List.forall_mem_cons.mpr ⟨(tB_2 (List.mem_of_getElem? (i := 147) rfl)), List.forall_mem_cons.mpr ⟨(tB_2 (List.mem_of_getElem? (i := 148) rfl)), List.forall_mem_cons.mpr ⟨(tB_2 (List.mem_of_getElem? (i := 149) rfl)), List.forall_mem_cons.mpr ⟨(tB_2 (List.mem_of_getElem? (i := 150) rfl)), List.forall_mem_cons.mpr ⟨(tB_2 (List.mem_of_getElem? (i := 151) rfl)), List.forall_mem_cons.mpr ⟨(tB_2 (List.mem_of_getElem? (i := 152) rfl)), List.forall_mem_cons.mpr ⟨(tB_2 (List.mem_of_getElem? (i := 153) rfl)), List.forall_mem_cons.mpr ⟨(tB_4 (List.mem_of_getElem? (i := 189) rfl)), List.forall_mem_cons.mpr ⟨(tB_4 (List.mem_of_getElem? (i := 190) rfl)), List.forall_mem_cons.mpr ⟨(tB_4 (List.mem_of_getElem? (i := 191) rfl)), List.forall_mem_cons.mpr ⟨(tB_4 (List.mem_of_getElem? (i := 192) rfl)), List.forall_mem_cons.mpr ⟨(tB_4 (List.mem_of_getElem? (i := 193) rfl)), List.forall_mem_cons.mpr ⟨(tB_4 (List.mem_of_getElem? (i := 195) rfl)), fun _ h => absurd h List.not_mem_nil⟩⟩⟩⟩⟩⟩⟩⟩⟩⟩⟩⟩⟩⟩⟩⟩⟩⟩⟩⟩⟩⟩⟩⟩
theorem tb_wsL_law0_r24 : ∀ w ∈ wsL_law0_r24, w ∈ lw_tbl := List.forall_mem_cons.mpr ⟨(tB_0 (List.mem_of_getElem? (i := 44) rfl)), List.forall_mem_cons.mpr ⟨(tB_4 (List.mem_of_getElem? (i := 196) rfl)), List.forall_mem_cons.mpr ⟨(tB_2 (List.mem_of_getElem? (i := 154) rfl)), List.forall_mem_cons.mpr ⟨(tB_2 (List.mem_of_getElem? (i := 155) rfl)), List.forall_mem_cons.mpr ⟨(tB_2 (List.mem_of_getElem? (i := 156) rfl)), List.forall_mem_cons.mpr ⟨(tB_2 (List.mem_of_getElem? (i := 157) rfl)), List.forall_mem_cons.mpr ⟨(tB_2 (List.mem_of_getElem? (i := 158) rfl)), List.forall_mem_cons.mpr ⟨(tB_2 (List.mem_of_getElem? (i := 159) rfl)), List.forall_mem_cons.mpr ⟨(tB_2 (List.mem_of_getElem? (i := 160) rfl)), List.forall_mem_cons.mpr ⟨(tB_2 (List.mem_of_getElem? (i := 161) rfl)), List.forall_mem_cons.mpr ⟨(tB_2 (List.mem_of_getElem? (i := 162) rfl)), List.forall_mem_cons.mpr ⟨(tB_2 (List.mem_of_getElem? (i := 164) rfl)), List.forall_mem_cons.mpr ⟨(tB_0 (List.mem_of_getElem? (i := 10) rfl)), List.forall_mem_cons.mpr ⟨(tB_2 (List.mem_of_getElem? (i := 165) rfl)), List.forall_mem_cons.mpr ⟨(tB_2 (List.mem_of_getElem? (i := 166) rfl)), List.forall_mem_cons.mpr ⟨(tB_2 (List.mem_of_getElem? (i := 168) rfl)), List.forall_mem_cons.mpr ⟨(tB_0 (List.mem_of_getElem? (i := 11) rfl)), List.forall_mem_cons.mpr ⟨(tB_2 (List.mem_of_getElem? (i := 169) rfl)), List.forall_mem_cons.mpr ⟨(tB_2 (List.mem_of_getElem? (i := 170) rfl)), List.forall_mem_cons.mpr ⟨(tB_2 (List.mem_of_getElem? (i := 172) rfl)), List.forall_mem_cons.mpr ⟨(tB_0 (List.mem_of_getElem? (i := 12) rfl)), List.forall_mem_cons.mpr ⟨(tB_2 (List.mem_of_getElem? (i := 173) rfl)), List.forall_mem_cons.mpr ⟨(tB_1 (List.mem_of_getElem? (i := 38) rfl)), List.forall_mem_cons.mpr ⟨(tB_2 (List.mem_of_getElem? (i := 174) rfl)), fun _ h => absurd h List.not_mem_nil⟩⟩⟩⟩⟩⟩⟩⟩⟩⟩⟩⟩⟩⟩⟩⟩⟩⟩⟩⟩⟩⟩⟩⟩
theorem tb_wsL_law0_r25 : ∀ w ∈ wsL_law0_r25, w ∈ lw_tbl := List.forall_mem_cons.mpr ⟨(tB_2 (List.mem_of_getElem? (i := 175) rfl)), List.forall_mem_cons.mpr ⟨(tB_4 (List.mem_of_getElem? (i := 197) rfl)), List.forall_mem_cons.mpr ⟨(tB_4 (List.mem_of_getElem? (i := 198) rfl)), List.forall_mem_cons.mpr ⟨(tB_4 (List.mem_of_getElem? (i := 199) rfl)), List.forall_mem_cons.mpr ⟨(tB_4 (List.mem_of_getElem? (i := 200) rfl)), List.forall_mem_cons.mpr ⟨(tB_4 (List.mem_of_getElem? (i := 201) rfl)), List.forall_mem_cons.mpr ⟨(tB_4 (List.mem_of_getElem? (i := 203) rfl)), List.forall_mem_cons.mpr ⟨(tB_0 (List.mem_of_getElem? (i := 45) rfl)), List.forall_mem_cons.mpr ⟨(tB_4 (List.mem_of_getElem? (i := 204) rfl)), List.forall_mem_cons.mpr ⟨(tB_4 (List.mem_of_getElem? (i := 205) rfl)), List.forall_mem_cons.mpr ⟨(tB_4 (List.mem_of_getElem? (i := 207) rfl)), List.forall_mem_cons.mpr ⟨(tB_0 (List.mem_of_getElem? (i := 46) rfl)), List.forall_mem_cons.mpr ⟨(tB_4 (List.mem_of_getElem? (i := 208) rfl)), List.forall_mem_cons.mpr ⟨(tB_2 (List.mem_of_getElem? (i := 176) rfl)), List.forall_mem_cons.mpr ⟨(tB_2 (List.mem_of_getElem? (i := 177) rfl)), List.forall_mem_cons.mpr ⟨(tB_2 (List.mem_of_getElem? (i := 178) rfl)), List.forall_mem_cons.mpr ⟨(tB_2 (List.mem_of_getElem? (i := 179) rfl)), List.forall_mem_cons.mpr ⟨(tB_2 (List.mem_of_getElem? (i := 180) rfl)), List.forall_mem_cons.mpr ⟨(tB_2 (List.mem_of_getElem? (i := 181) rfl)), List.forall_mem_cons.mpr ⟨(tB_2 (List.mem_of_getElem? (i := 182) rfl)), List.forall_mem_cons.mpr ⟨(tB_2 (List.mem_of_getElem? (i := 183) rfl)), List.forall_mem_cons.mpr ⟨(tB_2 (List.mem_of_getElem? (i := 184) rfl)), List.forall_mem_cons.mpr ⟨(tB_2 (List.mem_of_getElem? (i := 186) rfl)), List.forall_mem_cons.mpr ⟨(tB_0 (List.mem_of_getElem? (i := 13) rfl)), fun _ h => absurd h List.not_mem_nil⟩⟩⟩⟩⟩⟩⟩⟩⟩⟩⟩⟩⟩⟩⟩⟩⟩⟩⟩⟩⟩⟩⟩⟩
theorem tb_wsL_law0_r26 : ∀ w ∈ wsL_law0_r26, w ∈ lw_tbl := List.forall_mem_cons.mpr ⟨(tB_2 (List.mem_of_getElem? (i := 187) rfl)), List.forall_mem_cons.mpr ⟨(tB_2 (List.mem_of_getElem? (i := 188) rfl)), List.forall_mem_cons.mpr ⟨(tB_2 (List.mem_of_getElem? (i := 190) rfl)), List.forall_mem_cons.mpr ⟨(tB_0 (List.mem_of_getElem? (i := 14) rfl)), List.forall_mem_cons.mpr ⟨(tB_2 (List.mem_of_getElem? (i := 191) rfl)), List.forall_mem_cons.mpr ⟨(tB_2 (List.mem_of_getElem? (i := 192) rfl)), List.forall_mem_cons.mpr ⟨(tB_4 (List.mem_of_getElem? (i := 209) rfl)), List.forall_mem_cons.mpr ⟨(tB_4 (List.mem_of_getElem? (i := 210) rfl)), List.forall_mem_cons.mpr ⟨(tB_4 (List.mem_of_getElem? (i := 211) rfl)), List.forall_mem_cons.mpr ⟨(tB_4 (List.mem_of_getElem? (i := 212) rfl)), List.forall_mem_cons.mpr ⟨(tB_4 (List.mem_of_getElem? (i := 213) rfl)), List.forall_mem_cons.mpr ⟨(tB_4 (List.mem_of_getElem? (i := 215) rfl)), List.forall_mem_cons.mpr ⟨(tB_0 (List.mem_of_getElem? (i := 47) rfl)), List.forall_mem_cons.mpr ⟨(tB_4 (List.mem_of_getElem? (i := 216) rfl)), List.forall_mem_cons.mpr ⟨(tB_3 (List.mem_of_getElem? (i := 185) rfl)), List.forall_mem_cons.mpr ⟨(tB_3 (List.mem_of_getElem? (i := 186) rfl)), List.forall_mem_cons.mpr ⟨(tB_3 (List.mem_of_getElem? (i := 187) rfl)), List.forall_mem_cons.mpr ⟨(tB_3 (List.mem_of_getElem? (i := 188) rfl)), List.forall_mem_cons.mpr ⟨(tB_3 (List.mem_of_getElem? (i := 202) rfl)), List.forall_mem_cons.mpr ⟨(tB_3 (List.mem_of_getElem? (i := 203) rfl)), List.forall_mem_cons.mpr ⟨(tB_3 (List.mem_of_getElem? (i := 204) rfl)), List.forall_mem_cons.mpr ⟨(tB_3 (List.mem_of_getElem? (i := 205) rfl)), List.forall_mem_cons.mpr ⟨(tB_3 (List.mem_of_getElem? (i := 206) rfl)), List.forall_mem_cons.mpr ⟨(tB_1 (List.mem_of_getElem? (i := 19) rfl)), fun _ h => absurd h List.not_mem_nil⟩⟩⟩⟩⟩⟩⟩⟩⟩⟩⟩⟩⟩⟩⟩⟩⟩⟩⟩⟩⟩⟩⟩⟩
theorem tb_wsL_law0_r27 : ∀ w ∈ wsL_law0_r27, w ∈ lw_tbl := List.forall_mem_cons.mpr ⟨(tB_3 (List.mem_of_getElem? (i := 209) rfl)), List.forall_mem_cons.mpr ⟨(tB_3 (List.mem_of_getElem? (i := 210) rfl)), List.forall_mem_cons.mpr ⟨(tB_3 (List.mem_of_getElem? (i := 211) rfl)), List.forall_mem_cons.mpr ⟨(tB_3 (List.mem_of_getElem? (i := 212) rfl)), List.forall_mem_cons.mpr ⟨(tB_4 (List.mem_of_getElem? (i := 217) rfl)), List.forall_mem_cons.mpr ⟨(tB_4 (List.mem_of_getElem? (i := 218) rfl)), List.forall_mem_cons.mpr ⟨(tB_4 (List.mem_of_getElem? (i := 219) rfl)), List.forall_mem_cons.mpr ⟨(tB_4 (List.mem_of_getElem? (i := 220) rfl)), List.forall_mem_cons.mpr ⟨(tB_2 (List.mem_of_getElem? (i := 193) rfl)), List.forall_mem_cons.mpr ⟨(tB_2 (List.mem_of_getElem? (i := 194) rfl)), List.forall_mem_cons.mpr ⟨(tB_2 (List.mem_of_getElem? (i := 195) rfl)), List.forall_mem_cons.mpr ⟨(tB_2 (List.mem_of_getElem? (i := 196) rfl)), List.forall_mem_cons.mpr ⟨(tB_2 (List.mem_of_getElem? (i := 197) rfl)), List.forall_mem_cons.mpr ⟨(tB_2 (List.mem_of_getElem? (i := 198) rfl)), List.forall_mem_cons.mpr ⟨(tB_2 (List.mem_of_getElem? (i := 199) rfl)), List.forall_mem_cons.mpr ⟨(tB_2 (List.mem_of_getElem? (i := 200) rfl)), List.forall_mem_cons.mpr ⟨(tB_1 (List.mem_of_getElem? (i := 40) rfl)), List.forall_mem_cons.mpr ⟨(tB_1 (List.mem_of_getElem? (i := 35) rfl)), List.forall_mem_cons.mpr ⟨(tB_4 (List.mem_of_getElem? (i := 221) rfl)), List.forall_mem_cons.mpr ⟨(tB_4 (List.mem_of_getElem? (i := 222) rfl)), List.forall_mem_cons.mpr ⟨(tB_4 (List.mem_of_getElem? (i := 223) rfl)), List.forall_mem_cons.mpr ⟨(tB_4 (List.mem_of_getElem? (i := 224) rfl)), List.forall_mem_cons.mpr ⟨(tB_3 (List.mem_of_getElem? (i := 233) rfl)), List.forall_mem_cons.mpr ⟨(tB_2 (List.mem_of_getElem? (i := 201) rfl)), fun _ h => absurd h List.not_mem_nil⟩⟩⟩⟩⟩⟩⟩⟩⟩⟩⟩⟩⟩⟩⟩⟩⟩⟩⟩⟩⟩⟩⟩⟩
theorem tb_wsL_law0_r28 : ∀ w ∈ wsL_law0_r28, w ∈ lw_tbl := List.forall_mem_cons.mpr ⟨(tB_2 (List.mem_of_getElem? (i := 202) rfl)), List.forall_mem_cons.mpr ⟨(tB_2 (List.mem_of_getElem? (i := 203) rfl)), List.forall_mem_cons.mpr ⟨(tB_2 (List.mem_of_getElem? (i := 204) rfl)), List.forall_mem_cons.mpr ⟨(tB_1 (List.mem_of_getElem? (i := 119) rfl)), List.forall_mem_cons.mpr ⟨(tB_1 (List.mem_of_getElem? (i := 122) rfl)), List.forall_mem_cons.mpr ⟨(tB_1 (List.mem_of_getElem? (i := 124) rfl)), List.forall_mem_cons.mpr ⟨(tB_1 (List.mem_of_getElem? (i := 126) rfl)), List.forall_mem_cons.mpr ⟨(tB_2 (List.mem_of_getElem? (i := 205) rfl)), List.forall_mem_cons.mpr ⟨(tB_2 (List.mem_of_getElem? (i := 206) rfl)), List.forall_mem_cons.mpr ⟨(tB_2 (List.mem_of_getElem? (i := 207) rfl)), List.forall_mem_cons.mpr ⟨(tB_2 (List.mem_of_getElem? (i := 208) rfl)), List.forall_mem_cons.mpr ⟨(tB_2 (List.mem_of_getElem? (i := 233) rfl)), List.forall_mem_cons.mpr ⟨(tB_2 (List.mem_of_getElem? (i := 209) rfl)), List.forall_mem_cons.mpr ⟨(tB_2 (List.mem_of_getElem? (i := 211) rfl)), List.forall_mem_cons.mpr ⟨(tB_0 (List.mem_of_getElem? (i := 15) rfl)), List.forall_mem_cons.mpr ⟨(tB_2 (List.mem_of_getElem? (i := 212) rfl)), List.forall_mem_cons.mpr ⟨(tB_2 (List.mem_of_getElem? (i := 213) rfl)), List.forall_mem_cons.mpr ⟨(tB_2 (List.mem_of_getElem? (i := 215) rfl)), List.forall_mem_cons.mpr ⟨(tB_0 (List.mem_of_getElem? (i := 16) rfl)), List.forall_mem_cons.mpr ⟨(tB_2 (List.mem_of_getElem? (i := 216) rfl)), List.forall_mem_cons.mpr ⟨(tB_2 (List.mem_of_getElem? (i := 217) rfl)), List.forall_mem_cons.mpr ⟨(tB_2 (List.mem_of_getElem? (i := 219) rfl)), List.forall_mem_cons.mpr ⟨(tB_0 (List.mem_of_getElem? (i := 17) rfl)), List.forall_mem_cons.mpr ⟨(tB_2 (List.mem_of_getElem? (i := 220) rfl)), fun _ h => absurd h List.not_mem_nil⟩⟩⟩⟩⟩⟩⟩⟩⟩⟩⟩⟩⟩⟩⟩⟩⟩⟩⟩⟩⟩⟩⟩⟩
theorem tb_wsL_law0_r29 : ∀ w ∈ wsL_law0_r29, w ∈ lw_tbl := List.forall_mem_cons.mpr ⟨(tB_2 (List.mem_of_getElem? (i := 221) rfl)), List.forall_mem_cons.mpr ⟨(tB_2 (List.mem_of_getElem? (i := 223) rfl)), List.forall_mem_cons.mpr ⟨(tB_0 (List.mem_of_getElem? (i := 18) rfl)), List.forall_mem_cons.mpr ⟨(tB_2 (List.mem_of_getElem? (i := 224) rfl)), List.forall_mem_cons.mpr ⟨(tB_2 (List.mem_of_getElem? (i := 225) rfl)), List.forall_mem_cons.mpr ⟨(tB_2 (List.mem_of_getElem? (i := 227) rfl)), List.forall_mem_cons.mpr ⟨(tB_0 (List.mem_of_getElem? (i := 19) rfl)), List.forall_mem_cons.mpr ⟨(tB_2 (List.mem_of_getElem? (i := 228) rfl)), List.forall_mem_cons.mpr ⟨(tB_2 (List.mem_of_getElem? (i := 229) rfl)), List.forall_mem_cons.mpr ⟨(tB_2 (List.mem_of_getElem? (i := 231) rfl)), List.forall_mem_cons.mpr ⟨(tB_0 (List.mem_of_getElem? (i := 20) rfl)), List.forall_mem_cons.mpr ⟨(tB_2 (List.mem_of_getElem? (i := 232) rfl)), List.forall_mem_cons.mpr ⟨(tB_2 (List.mem_of_getElem? (i := 234) rfl)), List.forall_mem_cons.mpr ⟨(tB_2 (List.mem_of_getElem? (i := 235) rfl)), List.forall_mem_cons.mpr ⟨(tB_2 (List.mem_of_getElem? (i := 236) rfl)), List.forall_mem_cons.mpr ⟨(tB_2 (List.mem_of_getElem? (i := 237) rfl)), List.forall_mem_cons.mpr ⟨(tB_2 (List.mem_of_getElem? (i := 238) rfl)), List.forall_mem_cons.mpr ⟨(tB_2 (List.mem_of_getElem? (i := 239) rfl)), List.forall_mem_cons.mpr ⟨(tB_3 (List.mem_of_getElem? (i := 0) rfl)), List.forall_mem_cons.mpr ⟨(tB_3 (List.mem_of_getElem? (i := 1) rfl)), List.forall_mem_cons.mpr ⟨(tB_3 (List.mem_of_getElem? (i := 2) rfl)), List.forall_mem_cons.mpr ⟨(tB_3 (List.mem_of_getElem? (i := 3) rfl)), List.forall_mem_cons.mpr ⟨(tB_3 (List.mem_of_getElem? (i := 4) rfl)), List.forall_mem_cons.mpr ⟨(tB_3 (List.mem_of_getElem? (i := 5) rfl)), fun _ h => absurd h List.not_mem_nil⟩⟩⟩⟩⟩⟩⟩⟩⟩⟩⟩⟩⟩⟩⟩⟩⟩⟩⟩⟩⟩⟩⟩⟩
theorem tb_wsL_law0_r30 : ∀ w ∈ wsL_law0_r30, w ∈ lw_tbl := List.forall_mem_cons.mpr ⟨(tB_3 (List.mem_of_getElem? (i := 6) rfl)), List.forall_mem_cons.mpr ⟨(tB_4 (List.mem_of_getElem? (i := 225) rfl)), List.forall_mem_cons.mpr ⟨(tB_4 (List.mem_of_getElem? (i := 226) rfl)), List.forall_mem_cons.mpr ⟨(tB_4 (List.mem_of_getElem? (i := 227) rfl)), List.forall_mem_cons.mpr ⟨(tB_4 (List.mem_of_getElem? (i := 228) rfl)), List.forall_mem_cons.mpr ⟨(tB_4 (List.mem_of_getElem? (i := 229) rfl)), List.forall_mem_cons.mpr ⟨(tB_4 (List.mem_of_getElem? (i := 231) rfl)), List.forall_mem_cons.mpr ⟨(tB_0 (List.mem_of_getElem? (i := 48) rfl)), List.forall_mem_cons.mpr ⟨(tB_4 (List.mem_of_getElem? (i := 232) rfl)), List.forall_mem_cons.mpr ⟨(tB_4 (List.mem_of_getElem? (i := 233) rfl)), List.forall_mem_cons.mpr ⟨(tB_4 (List.mem_of_getElem? (i := 235) rfl)), List.forall_mem_cons.mpr ⟨(tB_0 (List.mem_of_getElem? (i := 49) rfl)), List.forall_mem_cons.mpr ⟨(tB_4 (List.mem_of_getElem? (i := 236) rfl)), List.forall_mem_cons.mpr ⟨(tB_4 (List.mem_of_getElem? (i := 237) rfl)), List.forall_mem_cons.mpr ⟨(tB_4 (List.mem_of_getElem? (i := 239) rfl)), List.forall_mem_cons.mpr ⟨(tB_0 (List.mem_of_getElem? (i := 50) rfl)), List.forall_mem_cons.mpr ⟨(tB_5 (List.mem_of_getElem? (i := 0) rfl)), List.forall_mem_cons.mpr ⟨(tB_5 (List.mem_of_getElem? (i := 1) rfl)), List.forall_mem_cons.mpr ⟨(tB_5 (List.mem_of_getElem? (i := 3) rfl)), List.forall_mem_cons.mpr ⟨(tB_0 (List.mem_of_getElem? (i := 51) rfl)), List.forall_mem_cons.mpr ⟨(tB_5 (List.mem_of_getElem? (i := 4) rfl)), List.forall_mem_cons.mpr ⟨(tB_3 (List.mem_of_getElem? (i := 7) rfl)), List.forall_mem_cons.mpr ⟨(tB_3 (List.mem_of_getElem? (i := 8) rfl)), List.forall_mem_cons.mpr ⟨(tB_3 (List.mem_of_getElem? (i := 9) rfl)), fun _ h => absurd h List.not_mem_nil⟩⟩⟩⟩⟩⟩⟩⟩⟩⟩⟩⟩⟩⟩⟩⟩⟩⟩⟩⟩⟩⟩⟩⟩
theorem tb_wsL_law0_r31 : ∀ w ∈ wsL_law0_r31, w ∈ lw_tbl := List.forall_mem_cons.mpr ⟨(tB_3 (List.mem_of_getElem? (i := 10) rfl)), List.forall_mem_cons.mpr ⟨(tB_1 (List.mem_of_getElem? (i := 45) rfl)), List.forall_mem_cons.mpr ⟨(tB_1 (List.mem_of_getElem? (i := 100) rfl)), List.forall_mem_cons.mpr ⟨(tB_5 (List.mem_of_getElem? (i := 5) rfl)), List.forall_mem_cons.mpr ⟨(tB_5 (List.mem_of_getElem? (i := 6) rfl)), List.forall_mem_cons.mpr ⟨(tB_5 (List.mem_of_getElem? (i := 7) rfl)), List.forall_mem_cons.mpr ⟨(tB_5 (List.mem_of_getElem? (i := 8) rfl)), fun _ h => absurd h List.not_mem_nil⟩⟩⟩⟩⟩⟩⟩
theorem tb_wsX50 : ∀ w ∈ wsX50, w ∈ lw_tbl := by decide +kernel
theorem tb_wsX60 : ∀ w ∈ wsX60, w ∈ lw_tbl := by decide +kernel
theorem tb_wsX20 : ∀ w ∈ wsX20, w ∈ lw_tbl := by decide +kernel
theorem tb_wsX30 : ∀ w ∈ wsX30, w ∈ lw_tbl := by decide +kernel
theorem tb_wsX00 : ∀ w ∈ wsX00, w ∈ lw_tbl := by decide +kernel
theorem tb_wsX40 : ∀ w ∈ wsX40, w ∈ lw_tbl := by decide +kernel
theorem tb_wsX10 : ∀ w ∈ wsX10, w ∈ lw_tbl := by decide +kernel
theorem tb_wsJxde1cd0 : ∀ w ∈ wsJxde1cd0, w ∈ lw_tbl := by decide +kernel
theorem tb_wsJx000600 : ∀ w ∈ wsJx000600, w ∈ lw_tbl := by decide +kernel
theorem tb_wsJx5d7770 : ∀ w ∈ wsJx5d7770, w ∈ lw_tbl := by decide +kernel
theorem tb_G : ∀ w ∈ lw_G, w ∈ lw_tbl := List.forall_mem_append.mpr ⟨tb_wsL_law0_r1, List.forall_mem_append.mpr ⟨tb_wsL_law0_r2, List.forall_mem_append.mpr ⟨tb_wsL_law0_r3, List.forall_mem_append.mpr ⟨tb_wsL_law0_r4, List.forall_mem_append.mpr ⟨tb_wsL_law0_r5, List.forall_mem_append.mpr ⟨tb_wsL_law0_r6, List.forall_mem_append.mpr ⟨tb_wsL_law0_r7, List.forall_mem_append.mpr ⟨tb_wsL_law0_r8, List.forall_mem_append.mpr ⟨tb_wsL_law0_r9, List.forall_mem_append.mpr ⟨tb_wsL_law0_r10, List.forall_mem_append.mpr ⟨tb_wsL_law0_r11, List.forall_mem_append.mpr ⟨tb_wsL_law0_r12, List.forall_mem_append.mpr ⟨tb_wsL_law0_r13, List.forall_mem_append.mpr ⟨tb_wsL_law0_r14, List.forall_mem_append.mpr ⟨tb_wsL_law0_r15, List.forall_mem_append.mpr ⟨tb_wsL_law0_r16, List.forall_mem_append.mpr ⟨tb_wsL_law0_r17, List.forall_mem_append.mpr ⟨tb_wsL_law0_r18, List.forall_mem_append.mpr ⟨tb_wsL_law0_r19, List.forall_mem_append.mpr ⟨tb_wsL_law0_r20, List.forall_mem_append.mpr ⟨tb_wsL_law0_r21, List.forall_mem_append.mpr ⟨tb_wsL_law0_r22, List.forall_mem_append.mpr ⟨tb_wsL_law0_r23, List.forall_mem_append.mpr ⟨tb_wsL_law0_r24, List.forall_mem_append.mpr ⟨tb_wsL_law0_r25, List.forall_mem_append.mpr ⟨tb_wsL_law0_r26, List.forall_mem_append.mpr ⟨tb_wsL_law0_r27, List.forall_mem_append.mpr ⟨tb_wsL_law0_r28, List.forall_mem_append.mpr ⟨tb_wsL_law0_r29, List.forall_mem_append.mpr ⟨tb_wsL_law0_r30, List.forall_mem_append.mpr ⟨tb_wsL_law0_r31, List.forall_mem_append.mpr ⟨tb_wsX50, List.forall_mem_append.mpr ⟨tb_wsX60, List.forall_mem_append.mpr ⟨tb_wsX20, List.forall_mem_append.mpr ⟨tb_wsX30, List.forall_mem_append.mpr ⟨tb_wsX00, List.forall_mem_append.mpr ⟨tb_wsX40, List.forall_mem_append.mpr ⟨tb_wsX10, List.forall_mem_append.mpr ⟨tb_wsJxde1cd0, List.forall_mem_append.mpr ⟨tb_wsJx000600, tb_wsJx5d7770⟩⟩⟩⟩⟩⟩⟩⟩⟩⟩⟩⟩⟩⟩⟩⟩⟩⟩⟩⟩⟩⟩⟩⟩⟩⟩⟩⟩⟩⟩⟩⟩⟩⟩⟩⟩⟩⟩⟩⟩
end
section
theorem dX0_init_0 : decode cX0_init 0 = .ok (.aload_n 0, 1) := by decide +kernel
theorem dX0_init_1 : decode cX0_init 1 = .ok (.invokespecial 3, 3) := by decide +kernel
theorem dX0_init_4 : decode cX0_init 4 = .ok (.aload_n 0, 1) := by decide +kernel
theorem dX0_init_5 : decode cX0_init 5 = .ok (.aload_n 1, 1) := by decide +kernel
theorem dX0_init_6 : decode cX0_init 6 = .ok (.putfield 9, 3) := by decide +kernel
theorem dX0_init_9 : decode cX0_init 9 = .ok (.return_, 1) := by decide +kernel
theorem dX0_betweenness_0 : decode cX0_betweenness 0 = .ok (.aload_n 0, 1) := by decide +kernel
theorem dX0_betweenness_1 : decode cX0_betweenness 1 = .ok (.getfield 9, 3) := by decide +kernel
theorem dX0_betweenness_4 : decode cX0_betweenness 4 = .ok (.iload_n 2, 1) := by decide +kernel
theorem dX0_betweenness_5 : decode cX0_betweenness 5 = .ok (.iload_n 1, 1) := by decide +kernel
theorem dX0_betweenness_6 : decode cX0_betweenness 6 = .ok (.invokevirtual 15, 3) := by decide +kernel
theorem dX0_betweenness_9 : decode cX0_betweenness 9 = .ok (.ifCond .ne 15, 3) := by decide +kernel
theorem dX0_betweenness_12 : decode cX0_betweenness 12 = .ok (.aload_n 0, 1) := by decide +kernel
theorem dX0_betweenness_13 : decode cX0_betweenness 13 = .ok (.getfield 9, 3) := by decide +kernel
theorem dX0_betweenness_16 : decode cX0_betweenness 16 = .ok (.iload_n 2, 1) := by decide +kernel
theorem dX0_betweenness_17 : decode cX0_betweenness 17 = .ok (.iload_n 3, 1) := by decide +kernel
theorem dX0_betweenness_18 : decode cX0_betweenness 18 = .ok (.invokevirtual 15, 3) := by decide +kernel
theorem dX0_betweenness_21 : decode cX0_betweenness 21 = .ok (.ifCond .eq 5, 3) := by decide +kernel
theorem dX0_betweenness_24 : decode cX0_betweenness 24 = .ok (.iconst 2, 1) := by decide +kernel
theorem dX0_betweenness_25 : decode cX0_betweenness 25 = .ok (.ireturn, 1) := by decide +kernel
theorem dX0_betweenness_26 : decode cX0_betweenness 26 = .ok (.aload_n 0, 1) := by decide +kernel
theorem dX0_betweenness_27 : decode cX0_betweenness 27 = .ok (.getfield 9, 3) := by decide +kernel
theorem dX0_betweenness_30 : decode cX0_betweenness 30 = .ok (.iload_n 1, 1) := by decide +kernel
theorem dX0_betweenness_31 : decode cX0_betweenness 31 = .ok (.iload_n 3, 1) := by decide +kernel
theorem dX0_betweenness_32 : decode cX0_betweenness 32 = .ok (.iload_n 2, 1) := by decide +kernel
theorem dX0_betweenness_33 : decode cX0_betweenness 33 = .ok (.invokevirtual 21, 3) := by decide +kernel
theorem dX0_betweenness_36 : decode cX0_betweenness 36 = .ok (.ifCond .eq 7, 3) := by decide +kernel
theorem dX0_betweenness_39 : decode cX0_betweenness 39 = .ok (.iconst 1, 1) := by decide +kernel
theorem dX0_betweenness_40 : decode cX0_betweenness 40 = .ok (.goto 4, 3) := by decide +kernel
theorem dX0_betweenness_43 : decode cX0_betweenness 43 = .ok (.iconst 0, 1) := by decide +kernel
theorem dX0_betweenness_44 : decode cX0_betweenness 44 = .ok (.ireturn, 1) := by decide +kernel
theorem dX0_withinAngle_0 : decode cX0_withinAngle 0 = .ok (.aload_n 0, 1) := by decide +kernel
theorem dX0_withinAngle_1 : decode cX0_withinAngle 1 = .ok (.getfield 9, 3) := by decide +kernel
theorem dX0_withinAngle_4 : decode cX0_withinAngle 4 = .ok (.iload_n 1, 1) := by decide +kernel
theorem dX0_withinAngle_5 : decode cX0_withinAngle 5 = .ok (.iload 4, 2) := by decide +kernel
theorem dX0_withinAngle_7 : decode cX0_withinAngle 7 = .ok (.invokevirtual 15, 3) := by decide +kernel
theorem dX0_withinAngle_10 : decode cX0_withinAngle 10 = .ok (.ifCond .ne 31, 3) := by decide +kernel
theorem dX0_withinAngle_13 : decode cX0_withinAngle 13 = .ok (.aload_n 0, 1) := by decide +kernel
theorem dX0_withinAngle_14 : decode cX0_withinAngle 14 = .ok (.getfield 9, 3) := by decide +kernel
theorem dX0_withinAngle_17 : decode cX0_withinAngle 17 = .ok (.iload_n 1, 1) := by decide +kernel
theorem dX0_withinAngle_18 : decode cX0_withinAngle 18 = .ok (.iload_n 2, 1) := by decide +kernel
theorem dX0_withinAngle_19 : decode cX0_withinAngle 19 = .ok (.iload 4, 2) := by decide +kernel
theorem dX0_withinAngle_21 : decode cX0_withinAngle 21 = .ok (.invokevirtual 25, 3) := by decide +kernel
theorem dX0_withinAngle_24 : decode cX0_withinAngle 24 = .ok (.ifCond .ne 17, 3) := by decide +kernel
theorem dX0_withinAngle_27 : decode cX0_withinAngle 27 = .ok (.aload_n 0, 1) := by decide +kernel
theorem dX0_withinAngle_28 : decode cX0_withinAngle 28 = .ok (.getfield 9, 3) := by decide +kernel
theorem dX0_withinAngle_31 : decode cX0_withinAngle 31 = .ok (.iload_n 1, 1) := by decide +kernel
theorem dX0_withinAngle_32 : decode cX0_withinAngle 32 = .ok (.iload_n 3, 1) := by decide +kernel
theorem dX0_withinAngle_33 : decode cX0_withinAngle 33 = .ok (.iload 4, 2) := by decide +kernel
theorem dX0_withinAngle_35 : decode cX0_withinAngle 35 = .ok (.invokevirtual 25, 3) := by decide +kernel
theorem dX0_withinAngle_38 : decode cX0_withinAngle 38 = .ok (.ifCond .eq 5, 3) := by decide +kernel
theorem dX0_withinAngle_41 : decode cX0_withinAngle 41 = .ok (.iconst 2, 1) := by decide +kernel
theorem dX0_withinAngle_42 : decode cX0_withinAngle 42 = .ok (.ireturn, 1) := by decide +kernel
theorem dX0_withinAngle_43 : decode cX0_withinAngle 43 = .ok (.aload_n 0, 1) := by decide +kernel
theorem dX0_withinAngle_44 : decode cX0_withinAngle 44 = .ok (.getfield 9, 3) := by decide +kernel
theorem dX0_withinAngle_47 : decode cX0_withinAngle 47 = .ok (.iload_n 1, 1) := by decide +kernel
theorem dX0_withinAngle_48 : decode cX0_withinAngle 48 = .ok (.iload_n 2, 1) := by decide +kernel
theorem dX0_withinAngle_49 : decode cX0_withinAngle 49 = .ok (.iload 4, 2) := by decide +kernel
theorem dX0_withinAngle_51 : decode cX0_withinAngle 51 = .ok (.invokevirtual 28, 3) := by decide +kernel
theorem dX0_withinAngle_54 : decode cX0_withinAngle 54 = .ok (.ifCond .le 7, 3) := by decide +kernel
theorem dX0_withinAngle_57 : decode cX0_withinAngle 57 = .ok (.iconst 1, 1) := by decide +kernel
theorem dX0_withinAngle_58 : decode cX0_withinAngle 58 = .ok (.goto 4, 3) := by decide +kernel
theorem dX0_withinAngle_61 : decode cX0_withinAngle 61 = .ok (.iconst 0, 1) := by decide +kernel
theorem dX0_withinAngle_62 : decode cX0_withinAngle 62 = .ok (.istore 5, 2) := by decide +kernel
theorem dX0_withinAngle_64 : decode cX0_withinAngle 64 = .ok (.aload_n 0, 1) := by decide +kernel
theorem dX0_withinAngle_65 : decode cX0_withinAngle 65 = .ok (.getfield 9, 3) := by decide +kernel
theorem dX0_withinAngle_68 : decode cX0_withinAngle 68 = .ok (.iload_n 1, 1) := by decide +kernel
theorem dX0_withinAngle_69 : decode cX0_withinAngle 69 = .ok (.iload_n 3, 1) := by decide +kernel
theorem dX0_withinAngle_70 : decode cX0_withinAngle 70 = .ok (.iload 4, 2) := by decide +kernel
theorem dX0_withinAngle_72 : decode cX0_withinAngle 72 = .ok (.invokevirtual 28, 3) := by decide +kernel
theorem dX0_withinAngle_75 : decode cX0_withinAngle 75 = .ok (.ifCond .ge 7, 3) := by decide +kernel
theorem dX0_withinAngle_78 : decode cX0_withinAngle 78 = .ok (.iconst 1, 1) := by decide +kernel
theorem dX0_withinAngle_79 : decode cX0_withinAngle 79 = .ok (.goto 4, 3) := by decide +kernel
theorem dX0_withinAngle_82 : decode cX0_withinAngle 82 = .ok (.iconst 0, 1) := by decide +kernel
theorem dX0_withinAngle_83 : decode cX0_withinAngle 83 = .ok (.istore 6, 2) := by decide +kernel
theorem dX0_withinAngle_85 : decode cX0_withinAngle 85 = .ok (.aload_n 0, 1) := by decide +kernel
theorem dX0_withinAngle_86 : decode cX0_withinAngle 86 = .ok (.getfield 9, 3) := by decide +kernel
theorem dX0_withinAngle_89 : decode cX0_withinAngle 89 = .ok (.iload_n 1, 1) := by decide +kernel
theorem dX0_withinAngle_90 : decode cX0_withinAngle 90 = .ok (.iload_n 2, 1) := by decide +kernel
theorem dX0_withinAngle_91 : decode cX0_withinAngle 91 = .ok (.iload_n 3, 1) := by decide +kernel
theorem dX0_withinAngle_92 : decode cX0_withinAngle 92 = .ok (.invokevirtual 28, 3) := by decide +kernel
theorem dX0_withinAngle_95 : decode cX0_withinAngle 95 = .ok (.ifCond .ge 7, 3) := by decide +kernel
theorem dX0_withinAngle_98 : decode cX0_withinAngle 98 = .ok (.iconst 1, 1) := by decide +kernel
theorem dX0_withinAngle_99 : decode cX0_withinAngle 99 = .ok (.goto 4, 3) := by decide +kernel
theorem dX0_withinAngle_102 : decode cX0_withinAngle 102 = .ok (.iconst 0, 1) := by decide +kernel
theorem dX0_withinAngle_103 : decode cX0_withinAngle 103 = .ok (.istore 7, 2) := by decide +kernel
theorem dX0_withinAngle_105 : decode cX0_withinAngle 105 = .ok (.iload 7, 2) := by decide +kernel
theorem dX0_withinAngle_107 : decode cX0_withinAngle 107 = .ok (.ifCond .eq 21, 3) := by decide +kernel
theorem dX0_withinAngle_110 : decode cX0_withinAngle 110 = .ok (.iload 5, 2) := by decide +kernel
theorem dX0_withinAngle_112 : decode cX0_withinAngle 112 = .ok (.ifCond .ne 8, 3) := by decide +kernel
theorem dX0_withinAngle_115 : decode cX0_withinAngle 115 = .ok (.iload 6, 2) := by decide +kernel
theorem dX0_withinAngle_117 : decode cX0_withinAngle 117 = .ok (.ifCond .eq 7, 3) := by decide +kernel
theorem dX0_withinAngle_120 : decode cX0_withinAngle 120 = .ok (.iconst 1, 1) := by decide +kernel
theorem dX0_withinAngle_121 : decode cX0_withinAngle 121 = .ok (.goto 22, 3) := by decide +kernel
theorem dX0_withinAngle_124 : decode cX0_withinAngle 124 = .ok (.iconst 0, 1) := by decide +kernel
theorem dX0_withinAngle_125 : decode cX0_withinAngle 125 = .ok (.goto 18, 3) := by decide +kernel
theorem dX0_withinAngle_128 : decode cX0_withinAngle 128 = .ok (.iload 5, 2) := by decide +kernel
theorem dX0_withinAngle_130 : decode cX0_withinAngle 130 = .ok (.ifCond .eq 12, 3) := by decide +kernel
theorem dX0_withinAngle_133 : decode cX0_withinAngle 133 = .ok (.iload 6, 2) := by decide +kernel
theorem dX0_withinAngle_135 : decode cX0_withinAngle 135 = .ok (.ifCond .eq 7, 3) := by decide +kernel
theorem dX0_withinAngle_138 : decode cX0_withinAngle 138 = .ok (.iconst 1, 1) := by decide +kernel
theorem dX0_withinAngle_139 : decode cX0_withinAngle 139 = .ok (.goto 4, 3) := by decide +kernel
theorem dX0_withinAngle_142 : decode cX0_withinAngle 142 = .ok (.iconst 0, 1) := by decide +kernel
theorem dX0_withinAngle_143 : decode cX0_withinAngle 143 = .ok (.istore 8, 2) := by decide +kernel
theorem dX0_withinAngle_145 : decode cX0_withinAngle 145 = .ok (.iload 8, 2) := by decide +kernel
theorem dX0_withinAngle_147 : decode cX0_withinAngle 147 = .ok (.ifCond .eq 7, 3) := by decide +kernel
theorem dX0_withinAngle_150 : decode cX0_withinAngle 150 = .ok (.iconst 1, 1) := by decide +kernel
theorem dX0_withinAngle_151 : decode cX0_withinAngle 151 = .ok (.goto 4, 3) := by decide +kernel
theorem dX0_withinAngle_154 : decode cX0_withinAngle 154 = .ok (.iconst 0, 1) := by decide +kernel
theorem dX0_withinAngle_155 : decode cX0_withinAngle 155 = .ok (.ireturn, 1) := by decide +kernel
theorem dX0_crossing_0 : decode cX0_crossing 0 = .ok (.aload_n 0, 1) := by decide +kernel
theorem dX0_crossing_1 : decode cX0_crossing 1 = .ok (.getfield 9, 3) := by decide +kernel
theorem dX0_crossing_4 : decode cX0_crossing 4 = .ok (.iload_n 1, 1) := by decide +kernel
theorem dX0_crossing_5 : decode cX0_crossing 5 = .ok (.iload_n 2, 1) := by decide +kernel
theorem dX0_crossing_6 : decode cX0_crossing 6 = .ok (.iload_n 3, 1) := by decide +kernel
theorem dX0_crossing_7 : decode cX0_crossing 7 = .ok (.invokevirtual 28, 3) := by decide +kernel
theorem dX0_crossing_10 : decode cX0_crossing 10 = .ok (.istore 5, 2) := by decide +kernel
theorem dX0_crossing_12 : decode cX0_crossing 12 = .ok (.aload_n 0, 1) := by decide +kernel
theorem dX0_crossing_13 : decode cX0_crossing 13 = .ok (.getfield 9, 3) := by decide +kernel
theorem dX0_crossing_16 : decode cX0_crossing 16 = .ok (.iload_n 1, 1) := by decide +kernel
theorem dX0_crossing_17 : decode cX0_crossing 17 = .ok (.iload_n 2, 1) := by decide +kernel
theorem dX0_crossing_18 : decode cX0_crossing 18 = .ok (.iload 4, 2) := by decide +kernel
theorem dX0_crossing_20 : decode cX0_crossing 20 = .ok (.invokevirtual 28, 3) := by decide +kernel
theorem dX0_crossing_23 : decode cX0_crossing 23 = .ok (.istore 6, 2) := by decide +kernel
theorem dX0_crossing_25 : decode cX0_crossing 25 = .ok (.aload_n 0, 1) := by decide +kernel
theorem dX0_crossing_26 : decode cX0_crossing 26 = .ok (.getfield 9, 3) := by decide +kernel
theorem dX0_crossing_29 : decode cX0_crossing 29 = .ok (.iload_n 3, 1) := by decide +kernel
theorem dX0_crossing_30 : decode cX0_crossing 30 = .ok (.iload 4, 2) := by decide +kernel
theorem dX0_crossing_32 : decode cX0_crossing 32 = .ok (.iload_n 1, 1) := by decide +kernel
theorem dX0_crossing_33 : decode cX0_crossing 33 = .ok (.invokevirtual 28, 3) := by decide +kernel
theorem dX0_crossing_36 : decode cX0_crossing 36 = .ok (.istore 7, 2) := by decide +kernel
theorem dX0_crossing_38 : decode cX0_crossing 38 = .ok (.aload_n 0, 1) := by decide +kernel
theorem dX0_crossing_39 : decode cX0_crossing 39 = .ok (.getfield 9, 3) := by decide +kernel
theorem dX0_crossing_42 : decode cX0_crossing 42 = .ok (.iload_n 3, 1) := by decide +kernel
theorem dX0_crossing_43 : decode cX0_crossing 43 = .ok (.iload 4, 2) := by decide +kernel
theorem dX0_crossing_45 : decode cX0_crossing 45 = .ok (.iload_n 2, 1) := by decide +kernel
theorem dX0_crossing_46 : decode cX0_crossing 46 = .ok (.invokevirtual 28, 3) := by decide +kernel
theorem dX0_crossing_49 : decode cX0_crossing 49 = .ok (.istore 8, 2) := by decide +kernel
theorem dX0_crossing_51 : decode cX0_crossing 51 = .ok (.iload 5, 2) := by decide +kernel
theorem dX0_crossing_53 : decode cX0_crossing 53 = .ok (.ifCond .ne 28, 3) := by decide +kernel
theorem dX0_crossing_56 : decode cX0_crossing 56 = .ok (.iload 6, 2) := by decide +kernel
theorem dX0_crossing_58 : decode cX0_crossing 58 = .ok (.ifCond .ne 23, 3) := by decide +kernel
theorem dX0_crossing_61 : decode cX0_crossing 61 = .ok (.iload 7, 2) := by decide +kernel
theorem dX0_crossing_63 : decode cX0_crossing 63 = .ok (.ifCond .ne 18, 3) := by decide +kernel
theorem dX0_crossing_66 : decode cX0_crossing 66 = .ok (.iload 8, 2) := by decide +kernel
theorem dX0_crossing_68 : decode cX0_crossing 68 = .ok (.ifCond .ne 13, 3) := by decide +kernel
theorem dX0_crossing_71 : decode cX0_crossing 71 = .ok (.aload_n 0, 1) := by decide +kernel
theorem dX0_crossing_72 : decode cX0_crossing 72 = .ok (.iload_n 1, 1) := by decide +kernel
theorem dX0_crossing_73 : decode cX0_crossing 73 = .ok (.iload_n 2, 1) := by decide +kernel
theorem dX0_crossing_74 : decode cX0_crossing 74 = .ok (.iload_n 3, 1) := by decide +kernel
theorem dX0_crossing_75 : decode cX0_crossing 75 = .ok (.iload 4, 2) := by decide +kernel
theorem dX0_crossing_77 : decode cX0_crossing 77 = .ok (.invokevirtual 32, 3) := by decide +kernel
theorem dX0_crossing_80 : decode cX0_crossing 80 = .ok (.ireturn, 1) := by decide +kernel
theorem dX0_crossing_81 : decode cX0_crossing 81 = .ok (.aload_n 0, 1) := by decide +kernel
theorem dX0_crossing_82 : decode cX0_crossing 82 = .ok (.getfield 9, 3) := by decide +kernel
theorem dX0_crossing_85 : decode cX0_crossing 85 = .ok (.iload_n 1, 1) := by decide +kernel
theorem dX0_crossing_86 : decode cX0_crossing 86 = .ok (.iload_n 2, 1) := by decide +kernel
theorem dX0_crossing_87 : decode cX0_crossing 87 = .ok (.iload_n 3, 1) := by decide +kernel
theorem dX0_crossing_88 : decode cX0_crossing 88 = .ok (.invokevirtual 21, 3) := by decide +kernel
theorem dX0_crossing_91 : decode cX0_crossing 91 = .ok (.ifCond .ne 45, 3) := by decide +kernel
theorem dX0_crossing_94 : decode cX0_crossing 94 = .ok (.aload_n 0, 1) := by decide +kernel
theorem dX0_crossing_95 : decode cX0_crossing 95 = .ok (.getfield 9, 3) := by decide +kernel
theorem dX0_crossing_98 : decode cX0_crossing 98 = .ok (.iload_n 1, 1) := by decide +kernel
theorem dX0_crossing_99 : decode cX0_crossing 99 = .ok (.iload_n 2, 1) := by decide +kernel
theorem dX0_crossing_100 : decode cX0_crossing 100 = .ok (.iload 4, 2) := by decide +kernel
theorem dX0_crossing_102 : decode cX0_crossing 102 = .ok (.invokevirtual 21, 3) := by decide +kernel
theorem dX0_crossing_105 : decode cX0_crossing 105 = .ok (.ifCond .ne 31, 3) := by decide +kernel
theorem dX0_crossing_108 : decode cX0_crossing 108 = .ok (.aload_n 0, 1) := by decide +kernel
theorem dX0_crossing_109 : decode cX0_crossing 109 = .ok (.getfield 9, 3) := by decide +kernel
theorem dX0_crossing_112 : decode cX0_crossing 112 = .ok (.iload_n 3, 1) := by decide +kernel
theorem dX0_crossing_113 : decode cX0_crossing 113 = .ok (.iload 4, 2) := by decide +kernel
theorem dX0_crossing_115 : decode cX0_crossing 115 = .ok (.iload_n 1, 1) := by decide +kernel
theorem dX0_crossing_116 : decode cX0_crossing 116 = .ok (.invokevirtual 21, 3) := by decide +kernel
theorem dX0_crossing_119 : decode cX0_crossing 119 = .ok (.ifCond .ne 17, 3) := by decide +kernel
theorem dX0_crossing_122 : decode cX0_crossing 122 = .ok (.aload_n 0, 1) := by decide +kernel
theorem dX0_crossing_123 : decode cX0_crossing 123 = .ok (.getfield 9, 3) := by decide +kernel
theorem dX0_crossing_126 : decode cX0_crossing 126 = .ok (.iload_n 3, 1) := by decide +kernel
theorem dX0_crossing_127 : decode cX0_crossing 127 = .ok (.iload 4, 2) := by decide +kernel
theorem dX0_crossing_129 : decode cX0_crossing 129 = .ok (.iload_n 2, 1) := by decide +kernel
theorem dX0_crossing_130 : decode cX0_crossing 130 = .ok (.invokevirtual 21, 3) := by decide +kernel
theorem dX0_crossing_133 : decode cX0_crossing 133 = .ok (.ifCond .eq 5, 3) := by decide +kernel
theorem dX0_crossing_136 : decode cX0_crossing 136 = .ok (.iconst 2, 1) := by decide +kernel
theorem dX0_crossing_137 : decode cX0_crossing 137 = .ok (.ireturn, 1) := by decide +kernel
theorem dX0_crossing_138 : decode cX0_crossing 138 = .ok (.iload 5, 2) := by decide +kernel
theorem dX0_crossing_140 : decode cX0_crossing 140 = .ok (.iload 6, 2) := by decide +kernel
theorem dX0_crossing_142 : decode cX0_crossing 142 = .ok (.imul, 1) := by decide +kernel
theorem dX0_crossing_143 : decode cX0_crossing 143 = .ok (.ifCond .ge 15, 3) := by decide +kernel
theorem dX0_crossing_146 : decode cX0_crossing 146 = .ok (.iload 7, 2) := by decide +kernel
theorem dX0_crossing_148 : decode cX0_crossing 148 = .ok (.iload 8, 2) := by decide +kernel
theorem dX0_crossing_150 : decode cX0_crossing 150 = .ok (.imul, 1) := by decide +kernel
theorem dX0_crossing_151 : decode cX0_crossing 151 = .ok (.ifCond .ge 7, 3) := by decide +kernel
theorem dX0_crossing_154 : decode cX0_crossing 154 = .ok (.iconst 1, 1) := by decide +kernel
theorem dX0_crossing_155 : decode cX0_crossing 155 = .ok (.goto 4, 3) := by decide +kernel
theorem dX0_crossing_158 : decode cX0_crossing 158 = .ok (.iconst 0, 1) := by decide +kernel
theorem dX0_crossing_159 : decode cX0_crossing 159 = .ok (.ireturn, 1) := by decide +kernel
theorem dX0_overlap_0 : decode cX0_overlap 0 = .ok (.aload_n 0, 1) := by decide +kernel
theorem dX0_overlap_1 : decode cX0_overlap 1 = .ok (.aload_n 0, 1) := by decide +kernel
theorem dX0_overlap_2 : decode cX0_overlap 2 = .ok (.iload_n 1, 1) := by decide +kernel
theorem dX0_overlap_3 : decode cX0_overlap 3 = .ok (.iload_n 2, 1) := by decide +kernel
theorem dX0_overlap_4 : decode cX0_overlap 4 = .ok (.invokevirtual 36, 3) := by decide +kernel
theorem dX0_overlap_7 : decode cX0_overlap 7 = .ok (.aload_n 0, 1) := by decide +kernel
theorem dX0_overlap_8 : decode cX0_overlap 8 = .ok (.iload_n 3, 1) := by decide +kernel
theorem dX0_overlap_9 : decode cX0_overlap 9 = .ok (.iload 4, 2) := by decide +kernel
theorem dX0_overlap_11 : decode cX0_overlap 11 = .ok (.invokevirtual 36, 3) := by decide +kernel
theorem dX0_overlap_14 : decode cX0_overlap 14 = .ok (.invokevirtual 40, 3) := by decide +kernel
theorem dX0_overlap_17 : decode cX0_overlap 17 = .ok (.istore 5, 2) := by decide +kernel
theorem dX0_overlap_19 : decode cX0_overlap 19 = .ok (.aload_n 0, 1) := by decide +kernel
theorem dX0_overlap_20 : decode cX0_overlap 20 = .ok (.aload_n 0, 1) := by decide +kernel
theorem dX0_overlap_21 : decode cX0_overlap 21 = .ok (.iload_n 1, 1) := by decide +kernel
theorem dX0_overlap_22 : decode cX0_overlap 22 = .ok (.iload_n 2, 1) := by decide +kernel
theorem dX0_overlap_23 : decode cX0_overlap 23 = .ok (.invokevirtual 40, 3) := by decide +kernel
theorem dX0_overlap_26 : decode cX0_overlap 26 = .ok (.aload_n 0, 1) := by decide +kernel
theorem dX0_overlap_27 : decode cX0_overlap 27 = .ok (.iload_n 3, 1) := by decide +kernel
theorem dX0_overlap_28 : decode cX0_overlap 28 = .ok (.iload 4, 2) := by decide +kernel
theorem dX0_overlap_30 : decode cX0_overlap 30 = .ok (.invokevirtual 40, 3) := by decide +kernel
theorem dX0_overlap_33 : decode cX0_overlap 33 = .ok (.invokevirtual 36, 3) := by decide +kernel
theorem dX0_overlap_36 : decode cX0_overlap 36 = .ok (.istore 6, 2) := by decide +kernel
theorem dX0_overlap_38 : decode cX0_overlap 38 = .ok (.aload_n 0, 1) := by decide +kernel
theorem dX0_overlap_39 : decode cX0_overlap 39 = .ok (.getfield 9, 3) := by decide +kernel
theorem dX0_overlap_42 : decode cX0_overlap 42 = .ok (.iload 5, 2) := by decide +kernel
theorem dX0_overlap_44 : decode cX0_overlap 44 = .ok (.iload 6, 2) := by decide +kernel
theorem dX0_overlap_46 : decode cX0_overlap 46 = .ok (.invokevirtual 43, 3) := by decide +kernel
theorem dX0_overlap_49 : decode cX0_overlap 49 = .ok (.istore 7, 2) := by decide +kernel
theorem dX0_overlap_51 : decode cX0_overlap 51 = .ok (.iload 7, 2) := by decide +kernel
theorem dX0_overlap_53 : decode cX0_overlap 53 = .ok (.ifCond .ne 5, 3) := by decide +kernel
theorem dX0_overlap_56 : decode cX0_overlap 56 = .ok (.iconst 2, 1) := by decide +kernel
theorem dX0_overlap_57 : decode cX0_overlap 57 = .ok (.ireturn, 1) := by decide +kernel
theorem dX0_overlap_58 : decode cX0_overlap 58 = .ok (.iload 7, 2) := by decide +kernel
theorem dX0_overlap_60 : decode cX0_overlap 60 = .ok (.ifCond .ge 7, 3) := by decide +kernel
theorem dX0_overlap_63 : decode cX0_overlap 63 = .ok (.iconst 3, 1) := by decide +kernel
theorem dX0_overlap_64 : decode cX0_overlap 64 = .ok (.goto 4, 3) := by decide +kernel
theorem dX0_overlap_67 : decode cX0_overlap 67 = .ok (.iconst 0, 1) := by decide +kernel
theorem dX0_overlap_68 : decode cX0_overlap 68 = .ok (.ireturn, 1) := by decide +kernel
theorem dX0_earlier_0 : decode cX0_earlier 0 = .ok (.aload_n 0, 1) := by decide +kernel
theorem dX0_earlier_1 : decode cX0_earlier 1 = .ok (.getfield 9, 3) := by decide +kernel
theorem dX0_earlier_4 : decode cX0_earlier 4 = .ok (.iload_n 1, 1) := by decide +kernel
theorem dX0_earlier_5 : decode cX0_earlier 5 = .ok (.iload_n 2, 1) := by decide +kernel
theorem dX0_earlier_6 : decode cX0_earlier 6 = .ok (.invokevirtual 43, 3) := by decide +kernel
theorem dX0_earlier_9 : decode cX0_earlier 9 = .ok (.ifCond .gt 7, 3) := by decide +kernel
theorem dX0_earlier_12 : decode cX0_earlier 12 = .ok (.iload_n 1, 1) := by decide +kernel
theorem dX0_earlier_13 : decode cX0_earlier 13 = .ok (.goto 4, 3) := by decide +kernel
theorem dX0_earlier_16 : decode cX0_earlier 16 = .ok (.iload_n 2, 1) := by decide +kernel
theorem dX0_earlier_17 : decode cX0_earlier 17 = .ok (.ireturn, 1) := by decide +kernel
theorem dX0_later_0 : decode cX0_later 0 = .ok (.aload_n 0, 1) := by decide +kernel
theorem dX0_later_1 : decode cX0_later 1 = .ok (.getfield 9, 3) := by decide +kernel
theorem dX0_later_4 : decode cX0_later 4 = .ok (.iload_n 1, 1) := by decide +kernel
theorem dX0_later_5 : decode cX0_later 5 = .ok (.iload_n 2, 1) := by decide +kernel
theorem dX0_later_6 : decode cX0_later 6 = .ok (.invokevirtual 43, 3) := by decide +kernel
theorem dX0_later_9 : decode cX0_later 9 = .ok (.ifCond .gt 7, 3) := by decide +kernel
theorem dX0_later_12 : decode cX0_later 12 = .ok (.iload_n 2, 1) := by decide +kernel
theorem dX0_later_13 : decode cX0_later 13 = .ok (.goto 4, 3) := by decide +kernel
theorem dX0_later_16 : decode cX0_later 16 = .ok (.iload_n 1, 1) := by decide +kernel
theorem dX0_later_17 : decode cX0_later 17 = .ok (.ireturn, 1) := by decide +kernel
theorem dX0_separation_0 : decode cX0_separation 0 = .ok (.aload_n 0, 1) := by decide +kernel
theorem dX0_separation_1 : decode cX0_separation 1 = .ok (.iload_n 1, 1) := by decide +kernel
theorem dX0_separation_2 : decode cX0_separation 2 = .ok (.iload_n 2, 1) := by decide +kernel
theorem dX0_separation_3 : decode cX0_separation 3 = .ok (.iload_n 3, 1) := by decide +kernel
theorem dX0_separation_4 : decode cX0_separation 4 = .ok (.iload 4, 2) := by decide +kernel
theorem dX0_separation_6 : decode cX0_separation 6 = .ok (.invokevirtual 46, 3) := by decide +kernel
theorem dX0_separation_9 : decode cX0_separation 9 = .ok (.ifCond .eq 6, 3) := by decide +kernel
theorem dX0_separation_12 : decode cX0_separation 12 = .ok (.bipush (-4), 2) := by decide +kernel
theorem dX0_separation_14 : decode cX0_separation 14 = .ok (.ireturn, 1) := by decide +kernel
theorem dX0_separation_15 : decode cX0_separation 15 = .ok (.aload_n 0, 1) := by decide +kernel
theorem dX0_separation_16 : decode cX0_separation 16 = .ok (.getfield 9, 3) := by decide +kernel
theorem dX0_separation_19 : decode cX0_separation 19 = .ok (.iload_n 1, 1) := by decide +kernel
theorem dX0_separation_20 : decode cX0_separation 20 = .ok (.iload_n 2, 1) := by decide +kernel
theorem dX0_separation_21 : decode cX0_separation 21 = .ok (.iload_n 3, 1) := by decide +kernel
theorem dX0_separation_22 : decode cX0_separation 22 = .ok (.invokevirtual 28, 3) := by decide +kernel
theorem dX0_separation_25 : decode cX0_separation 25 = .ok (.istore 5, 2) := by decide +kernel
theorem dX0_separation_27 : decode cX0_separation 27 = .ok (.aload_n 0, 1) := by decide +kernel
theorem dX0_separation_28 : decode cX0_separation 28 = .ok (.getfield 9, 3) := by decide +kernel
theorem dX0_separation_31 : decode cX0_separation 31 = .ok (.iload_n 1, 1) := by decide +kernel
theorem dX0_separation_32 : decode cX0_separation 32 = .ok (.iload_n 2, 1) := by decide +kernel
theorem dX0_separation_33 : decode cX0_separation 33 = .ok (.iload 4, 2) := by decide +kernel
theorem dX0_separation_35 : decode cX0_separation 35 = .ok (.invokevirtual 28, 3) := by decide +kernel
theorem dX0_separation_38 : decode cX0_separation 38 = .ok (.istore 6, 2) := by decide +kernel
theorem dX0_separation_40 : decode cX0_separation 40 = .ok (.iload 5, 2) := by decide +kernel
theorem dX0_separation_42 : decode cX0_separation 42 = .ok (.ifCond .ne 38, 3) := by decide +kernel
theorem dX0_separation_45 : decode cX0_separation 45 = .ok (.iload 6, 2) := by decide +kernel
theorem dX0_separation_47 : decode cX0_separation 47 = .ok (.ifCond .ne 33, 3) := by decide +kernel
theorem dX0_separation_50 : decode cX0_separation 50 = .ok (.aload_n 0, 1) := by decide +kernel
theorem dX0_separation_51 : decode cX0_separation 51 = .ok (.getfield 9, 3) := by decide +kernel
theorem dX0_separation_54 : decode cX0_separation 54 = .ok (.iload_n 1, 1) := by decide +kernel
theorem dX0_separation_55 : decode cX0_separation 55 = .ok (.iload_n 2, 1) := by decide +kernel
theorem dX0_separation_56 : decode cX0_separation 56 = .ok (.iload_n 3, 1) := by decide +kernel
theorem dX0_separation_57 : decode cX0_separation 57 = .ok (.invokevirtual 21, 3) := by decide +kernel
theorem dX0_separation_60 : decode cX0_separation 60 = .ok (.aload_n 0, 1) := by decide +kernel
theorem dX0_separation_61 : decode cX0_separation 61 = .ok (.getfield 9, 3) := by decide +kernel
theorem dX0_separation_64 : decode cX0_separation 64 = .ok (.iload_n 1, 1) := by decide +kernel
theorem dX0_separation_65 : decode cX0_separation 65 = .ok (.iload_n 2, 1) := by decide +kernel
theorem dX0_separation_66 : decode cX0_separation 66 = .ok (.iload 4, 2) := by decide +kernel
theorem dX0_separation_68 : decode cX0_separation 68 = .ok (.invokevirtual 21, 3) := by decide +kernel
theorem dX0_separation_71 : decode cX0_separation 71 = .ok (.if_icmp .eq 7, 3) := by decide +kernel
theorem dX0_separation_74 : decode cX0_separation 74 = .ok (.iconst 1, 1) := by decide +kernel
theorem dX0_separation_75 : decode cX0_separation 75 = .ok (.goto 4, 3) := by decide +kernel
theorem dX0_separation_78 : decode cX0_separation 78 = .ok (.iconst 0, 1) := by decide +kernel
theorem dX0_separation_79 : decode cX0_separation 79 = .ok (.ireturn, 1) := by decide +kernel
theorem dX0_separation_80 : decode cX0_separation 80 = .ok (.iload 5, 2) := by decide +kernel
theorem dX0_separation_82 : decode cX0_separation 82 = .ok (.ifCond .eq 18, 3) := by decide +kernel
theorem dX0_separation_85 : decode cX0_separation 85 = .ok (.aload_n 0, 1) := by decide +kernel
theorem dX0_separation_86 : decode cX0_separation 86 = .ok (.getfield 9, 3) := by decide +kernel
theorem dX0_separation_89 : decode cX0_separation 89 = .ok (.iload_n 1, 1) := by decide +kernel
theorem dX0_separation_90 : decode cX0_separation 90 = .ok (.iload_n 2, 1) := by decide +kernel
theorem dX0_separation_91 : decode cX0_separation 91 = .ok (.iload_n 3, 1) := by decide +kernel
theorem dX0_separation_92 : decode cX0_separation 92 = .ok (.iload 4, 2) := by decide +kernel
theorem dX0_separation_94 : decode cX0_separation 94 = .ok (.invokevirtual 50, 3) := by decide +kernel
theorem dX0_separation_97 : decode cX0_separation 97 = .ok (.ifCond .eq 6, 3) := by decide +kernel
theorem dX0_separation_100 : decode cX0_separation 100 = .ok (.bipush (-4), 2) := by decide +kernel
theorem dX0_separation_102 : decode cX0_separation 102 = .ok (.ireturn, 1) := by decide +kernel
theorem dX0_separation_103 : decode cX0_separation 103 = .ok (.iload 5, 2) := by decide +kernel
theorem dX0_separation_105 : decode cX0_separation 105 = .ok (.iload 6, 2) := by decide +kernel
theorem dX0_separation_107 : decode cX0_separation 107 = .ok (.if_icmp .eq 7, 3) := by decide +kernel
theorem dX0_separation_110 : decode cX0_separation 110 = .ok (.iconst 1, 1) := by decide +kernel
theorem dX0_separation_111 : decode cX0_separation 111 = .ok (.goto 4, 3) := by decide +kernel
theorem dX0_separation_114 : decode cX0_separation 114 = .ok (.iconst 0, 1) := by decide +kernel
theorem dX0_separation_115 : decode cX0_separation 115 = .ok (.ireturn, 1) := by decide +kernel
theorem dX0_anyEqual_0 : decode cX0_anyEqual 0 = .ok (.aload_n 0, 1) := by decide +kernel
theorem dX0_anyEqual_1 : decode cX0_anyEqual 1 = .ok (.getfield 9, 3) := by decide +kernel
theorem dX0_anyEqual_4 : decode cX0_anyEqual 4 = .ok (.iload_n 1, 1) := by decide +kernel
theorem dX0_anyEqual_5 : decode cX0_anyEqual 5 = .ok (.iload_n 2, 1) := by decide +kernel
theorem dX0_anyEqual_6 : decode cX0_anyEqual 6 = .ok (.invokevirtual 15, 3) := by decide +kernel
theorem dX0_anyEqual_9 : decode cX0_anyEqual 9 = .ok (.ifCond .ne 66, 3) := by decide +kernel
theorem dX0_anyEqual_12 : decode cX0_anyEqual 12 = .ok (.aload_n 0, 1) := by decide +kernel
theorem dX0_anyEqual_13 : decode cX0_anyEqual 13 = .ok (.getfield 9, 3) := by decide +kernel
theorem dX0_anyEqual_16 : decode cX0_anyEqual 16 = .ok (.iload_n 1, 1) := by decide +kernel
theorem dX0_anyEqual_17 : decode cX0_anyEqual 17 = .ok (.iload_n 3, 1) := by decide +kernel
theorem dX0_anyEqual_18 : decode cX0_anyEqual 18 = .ok (.invokevirtual 15, 3) := by decide +kernel
theorem dX0_anyEqual_21 : decode cX0_anyEqual 21 = .ok (.ifCond .ne 54, 3) := by decide +kernel
theorem dX0_anyEqual_24 : decode cX0_anyEqual 24 = .ok (.aload_n 0, 1) := by decide +kernel
theorem dX0_anyEqual_25 : decode cX0_anyEqual 25 = .ok (.getfield 9, 3) := by decide +kernel
theorem dX0_anyEqual_28 : decode cX0_anyEqual 28 = .ok (.iload_n 1, 1) := by decide +kernel
theorem dX0_anyEqual_29 : decode cX0_anyEqual 29 = .ok (.iload 4, 2) := by decide +kernel
theorem dX0_anyEqual_31 : decode cX0_anyEqual 31 = .ok (.invokevirtual 15, 3) := by decide +kernel
theorem dX0_anyEqual_34 : decode cX0_anyEqual 34 = .ok (.ifCond .ne 41, 3) := by decide +kernel
theorem dX0_anyEqual_37 : decode cX0_anyEqual 37 = .ok (.aload_n 0, 1) := by decide +kernel
theorem dX0_anyEqual_38 : decode cX0_anyEqual 38 = .ok (.getfield 9, 3) := by decide +kernel
theorem dX0_anyEqual_41 : decode cX0_anyEqual 41 = .ok (.iload_n 2, 1) := by decide +kernel
theorem dX0_anyEqual_42 : decode cX0_anyEqual 42 = .ok (.iload_n 3, 1) := by decide +kernel
theorem dX0_anyEqual_43 : decode cX0_anyEqual 43 = .ok (.invokevirtual 15, 3) := by decide +kernel
theorem dX0_anyEqual_46 : decode cX0_anyEqual 46 = .ok (.ifCond .ne 29, 3) := by decide +kernel
theorem dX0_anyEqual_49 : decode cX0_anyEqual 49 = .ok (.aload_n 0, 1) := by decide +kernel
theorem dX0_anyEqual_50 : decode cX0_anyEqual 50 = .ok (.getfield 9, 3) := by decide +kernel
theorem dX0_anyEqual_53 : decode cX0_anyEqual 53 = .ok (.iload_n 2, 1) := by decide +kernel
theorem dX0_anyEqual_54 : decode cX0_anyEqual 54 = .ok (.iload 4, 2) := by decide +kernel
theorem dX0_anyEqual_56 : decode cX0_anyEqual 56 = .ok (.invokevirtual 15, 3) := by decide +kernel
theorem dX0_anyEqual_59 : decode cX0_anyEqual 59 = .ok (.ifCond .ne 16, 3) := by decide +kernel
theorem dX0_anyEqual_62 : decode cX0_anyEqual 62 = .ok (.aload_n 0, 1) := by decide +kernel
theorem dX0_anyEqual_63 : decode cX0_anyEqual 63 = .ok (.getfield 9, 3) := by decide +kernel
theorem dX0_anyEqual_66 : decode cX0_anyEqual 66 = .ok (.iload_n 3, 1) := by decide +kernel
theorem dX0_anyEqual_67 : decode cX0_anyEqual 67 = .ok (.iload 4, 2) := by decide +kernel
theorem dX0_anyEqual_69 : decode cX0_anyEqual 69 = .ok (.invokevirtual 15, 3) := by decide +kernel
theorem dX0_anyEqual_72 : decode cX0_anyEqual 72 = .ok (.ifCond .eq 7, 3) := by decide +kernel
theorem dX0_anyEqual_75 : decode cX0_anyEqual 75 = .ok (.iconst 1, 1) := by decide +kernel
theorem dX0_anyEqual_76 : decode cX0_anyEqual 76 = .ok (.goto 4, 3) := by decide +kernel
theorem dX0_anyEqual_79 : decode cX0_anyEqual 79 = .ok (.iconst 0, 1) := by decide +kernel
theorem dX0_anyEqual_80 : decode cX0_anyEqual 80 = .ok (.ireturn, 1) := by decide +kernel
theorem dX1_init_0 : decode cX1_init 0 = .ok (.aload_n 0, 1) := by decide +kernel
theorem dX1_init_1 : decode cX1_init 1 = .ok (.invokespecial 3, 3) := by decide +kernel
theorem dX1_init_4 : decode cX1_init 4 = .ok (.aload_n 0, 1) := by decide +kernel
theorem dX1_init_5 : decode cX1_init 5 = .ok (.bipush 12, 2) := by decide +kernel
theorem dX1_init_7 : decode cX1_init 7 = .ok (.newarray .long, 2) := by decide +kernel
theorem dX1_init_9 : decode cX1_init 9 = .ok (.putfield 9, 3) := by decide +kernel
theorem dX1_init_12 : decode cX1_init 12 = .ok (.aload_n 0, 1) := by decide +kernel
theorem dX1_init_13 : decode cX1_init 13 = .ok (.bipush 12, 2) := by decide +kernel
theorem dX1_init_15 : decode cX1_init 15 = .ok (.newarray .long, 2) := by decide +kernel
theorem dX1_init_17 : decode cX1_init 17 = .ok (.putfield 15, 3) := by decide +kernel
theorem dX1_init_20 : decode cX1_init 20 = .ok (.aload_n 0, 1) := by decide +kernel
theorem dX1_init_21 : decode cX1_init 21 = .ok (.bipush 12, 2) := by decide +kernel
theorem dX1_init_23 : decode cX1_init 23 = .ok (.newarray .long, 2) := by decide +kernel
theorem dX1_init_25 : decode cX1_init 25 = .ok (.putfield 18, 3) := by decide +kernel
theorem dX1_init_28 : decode cX1_init 28 = .ok (.aload_n 0, 1) := by decide +kernel
theorem dX1_init_29 : decode cX1_init 29 = .ok (.iconst 0, 1) := by decide +kernel
theorem dX1_init_30 : decode cX1_init 30 = .ok (.putfield 21, 3) := by decide +kernel
theorem dX1_init_33 : decode cX1_init 33 = .ok (.aload_n 0, 1) := by decide +kernel
theorem dX1_init_34 : decode cX1_init 34 = .ok (.bipush 12, 2) := by decide +kernel
theorem dX1_init_36 : decode cX1_init 36 = .ok (.newarray .int, 2) := by decide +kernel
theorem dX1_init_38 : decode cX1_init 38 = .ok (.putfield 25, 3) := by decide +kernel
theorem dX1_init_41 : decode cX1_init 41 = .ok (.aload_n 0, 1) := by decide +kernel
theorem dX1_init_42 : decode cX1_init 42 = .ok (.iconst 0, 1) := by decide +kernel
theorem dX1_init_43 : decode cX1_init 43 = .ok (.putfield 29, 3) := by decide +kernel
theorem dX1_init_46 : decode cX1_init 46 = .ok (.aload_n 0, 1) := by decide +kernel
theorem dX1_init_47 : decode cX1_init 47 = .ok (.iconst 0, 1) := by decide +kernel
theorem dX1_init_48 : decode cX1_init 48 = .ok (.putfield 32, 3) := by decide +kernel
theorem dX1_init_51 : decode cX1_init 51 = .ok (.aload_n 0, 1) := by decide +kernel
theorem dX1_init_52 : decode cX1_init 52 = .ok (.iconst 0, 1) := by decide +kernel
theorem dX1_init_53 : decode cX1_init 53 = .ok (.putfield 35, 3) := by decide +kernel
theorem dX1_init_56 : decode cX1_init 56 = .ok (.aload_n 0, 1) := by decide +kernel
theorem dX1_init_57 : decode cX1_init 57 = .ok (.iconst 0, 1) := by decide +kernel
theorem dX1_init_58 : decode cX1_init 58 = .ok (.putfield 38, 3) := by decide +kernel
theorem dX1_init_61 : decode cX1_init 61 = .ok (.aload_n 0, 1) := by decide +kernel
theorem dX1_init_62 : decode cX1_init 62 = .ok (.aload_n 1, 1) := by decide +kernel
theorem dX1_init_63 : decode cX1_init 63 = .ok (.putfield 41, 3) := by decide +kernel
theorem dX1_init_66 : decode cX1_init 66 = .ok (.return_, 1) := by decide +kernel
theorem dX1_add_0 : decode cX1_add 0 = .ok (.aload_n 0, 1) := by decide +kernel
theorem dX1_add_1 : decode cX1_add 1 = .ok (.getfield 21, 3) := by decide +kernel
theorem dX1_add_4 : decode cX1_add 4 = .ok (.bipush 12, 2) := by decide +kernel
theorem dX1_add_6 : decode cX1_add 6 = .ok (.if_icmp .lt 6, 3) := by decide +kernel
theorem dX1_add_9 : decode cX1_add 9 = .ok (.bipush (-3), 2) := by decide +kernel
theorem dX1_add_11 : decode cX1_add 11 = .ok (.ireturn, 1) := by decide +kernel
theorem dX1_add_12 : decode cX1_add 12 = .ok (.aload_n 0, 1) := by decide +kernel
theorem dX1_add_13 : decode cX1_add 13 = .ok (.getfield 9, 3) := by decide +kernel
theorem dX1_add_16 : decode cX1_add 16 = .ok (.aload_n 0, 1) := by decide +kernel
theorem dX1_add_17 : decode cX1_add 17 = .ok (.getfield 21, 3) := by decide +kernel
theorem dX1_add_20 : decode cX1_add 20 = .ok (.aload_n 0, 1) := by decide +kernel
theorem dX1_add_21 : decode cX1_add 21 = .ok (.getfield 41, 3) := by decide +kernel
theorem dX1_add_24 : decode cX1_add 24 = .ok (.getfield 45, 3) := by decide +kernel
theorem dX1_add_27 : decode cX1_add 27 = .ok (.iload_n 2, 1) := by decide +kernel
theorem dX1_add_28 : decode cX1_add 28 = .ok (.iaload, 1) := by decide +kernel
theorem dX1_add_29 : decode cX1_add 29 = .ok (.aload_n 0, 1) := by decide +kernel
theorem dX1_add_30 : decode cX1_add 30 = .ok (.getfield 41, 3) := by decide +kernel
theorem dX1_add_33 : decode cX1_add 33 = .ok (.getfield 45, 3) := by decide +kernel
theorem dX1_add_36 : decode cX1_add 36 = .ok (.iload_n 1, 1) := by decide +kernel
theorem dX1_add_37 : decode cX1_add 37 = .ok (.iaload, 1) := by decide +kernel
theorem dX1_add_38 : decode cX1_add 38 = .ok (.isub, 1) := by decide +kernel
theorem dX1_add_39 : decode cX1_add 39 = .ok (.i2l, 1) := by decide +kernel
theorem dX1_add_40 : decode cX1_add 40 = .ok (.lastore, 1) := by decide +kernel
theorem dX1_add_41 : decode cX1_add 41 = .ok (.aload_n 0, 1) := by decide +kernel
theorem dX1_add_42 : decode cX1_add 42 = .ok (.getfield 15, 3) := by decide +kernel
theorem dX1_add_45 : decode cX1_add 45 = .ok (.aload_n 0, 1) := by decide +kernel
theorem dX1_add_46 : decode cX1_add 46 = .ok (.getfield 21, 3) := by decide +kernel
theorem dX1_add_49 : decode cX1_add 49 = .ok (.aload_n 0, 1) := by decide +kernel
theorem dX1_add_50 : decode cX1_add 50 = .ok (.getfield 41, 3) := by decide +kernel
theorem dX1_add_53 : decode cX1_add 53 = .ok (.getfield 50, 3) := by decide +kernel
theorem dX1_add_56 : decode cX1_add 56 = .ok (.iload_n 1, 1) := by decide +kernel
theorem dX1_add_57 : decode cX1_add 57 = .ok (.iaload, 1) := by decide +kernel
theorem dX1_add_58 : decode cX1_add 58 = .ok (.aload_n 0, 1) := by decide +kernel
theorem dX1_add_59 : decode cX1_add 59 = .ok (.getfield 41, 3) := by decide +kernel
theorem dX1_add_62 : decode cX1_add 62 = .ok (.getfield 50, 3) := by decide +kernel
theorem dX1_add_65 : decode cX1_add 65 = .ok (.iload_n 2, 1) := by decide +kernel
theorem dX1_add_66 : decode cX1_add 66 = .ok (.iaload, 1) := by decide +kernel
theorem dX1_add_67 : decode cX1_add 67 = .ok (.isub, 1) := by decide +kernel
theorem dX1_add_68 : decode cX1_add 68 = .ok (.i2l, 1) := by decide +kernel
theorem dX1_add_69 : decode cX1_add 69 = .ok (.lastore, 1) := by decide +kernel
theorem dX1_add_70 : decode cX1_add 70 = .ok (.aload_n 0, 1) := by decide +kernel
theorem dX1_add_71 : decode cX1_add 71 = .ok (.getfield 18, 3) := by decide +kernel
theorem dX1_add_74 : decode cX1_add 74 = .ok (.aload_n 0, 1) := by decide +kernel
theorem dX1_add_75 : decode cX1_add 75 = .ok (.getfield 21, 3) := by decide +kernel
theorem dX1_add_78 : decode cX1_add 78 = .ok (.aload_n 0, 1) := by decide +kernel
theorem dX1_add_79 : decode cX1_add 79 = .ok (.getfield 9, 3) := by decide +kernel
theorem dX1_add_82 : decode cX1_add 82 = .ok (.aload_n 0, 1) := by decide +kernel
theorem dX1_add_83 : decode cX1_add 83 = .ok (.getfield 21, 3) := by decide +kernel
theorem dX1_add_86 : decode cX1_add 86 = .ok (.laload, 1) := by decide +kernel
theorem dX1_add_87 : decode cX1_add 87 = .ok (.aload_n 0, 1) := by decide +kernel
theorem dX1_add_88 : decode cX1_add 88 = .ok (.getfield 41, 3) := by decide +kernel
theorem dX1_add_91 : decode cX1_add 91 = .ok (.getfield 50, 3) := by decide +kernel
theorem dX1_add_94 : decode cX1_add 94 = .ok (.iload_n 1, 1) := by decide +kernel
theorem dX1_add_95 : decode cX1_add 95 = .ok (.iaload, 1) := by decide +kernel
theorem dX1_add_96 : decode cX1_add 96 = .ok (.i2l, 1) := by decide +kernel
theorem dX1_add_97 : decode cX1_add 97 = .ok (.lmul, 1) := by decide +kernel
theorem dX1_add_98 : decode cX1_add 98 = .ok (.aload_n 0, 1) := by decide +kernel
theorem dX1_add_99 : decode cX1_add 99 = .ok (.getfield 15, 3) := by decide +kernel
theorem dX1_add_102 : decode cX1_add 102 = .ok (.aload_n 0, 1) := by decide +kernel
theorem dX1_add_103 : decode cX1_add 103 = .ok (.getfield 21, 3) := by decide +kernel
theorem dX1_add_106 : decode cX1_add 106 = .ok (.laload, 1) := by decide +kernel
theorem dX1_add_107 : decode cX1_add 107 = .ok (.aload_n 0, 1) := by decide +kernel
theorem dX1_add_108 : decode cX1_add 108 = .ok (.getfield 41, 3) := by decide +kernel
theorem dX1_add_111 : decode cX1_add 111 = .ok (.getfield 45, 3) := by decide +kernel
theorem dX1_add_114 : decode cX1_add 114 = .ok (.iload_n 1, 1) := by decide +kernel
theorem dX1_add_115 : decode cX1_add 115 = .ok (.iaload, 1) := by decide +kernel
theorem dX1_add_116 : decode cX1_add 116 = .ok (.i2l, 1) := by decide +kernel
theorem dX1_add_117 : decode cX1_add 117 = .ok (.lmul, 1) := by decide +kernel
theorem dX1_add_118 : decode cX1_add 118 = .ok (.ladd, 1) := by decide +kernel
theorem dX1_add_119 : decode cX1_add 119 = .ok (.lastore, 1) := by decide +kernel
theorem dX1_add_120 : decode cX1_add 120 = .ok (.aload_n 0, 1) := by decide +kernel
theorem dX1_add_121 : decode cX1_add 121 = .ok (.dup, 1) := by decide +kernel
theorem dX1_add_122 : decode cX1_add 122 = .ok (.getfield 21, 3) := by decide +kernel
theorem dX1_add_125 : decode cX1_add 125 = .ok (.iconst 1, 1) := by decide +kernel
theorem dX1_add_126 : decode cX1_add 126 = .ok (.iadd, 1) := by decide +kernel
theorem dX1_add_127 : decode cX1_add 127 = .ok (.putfield 21, 3) := by decide +kernel
theorem dX1_add_130 : decode cX1_add 130 = .ok (.aload_n 0, 1) := by decide +kernel
theorem dX1_add_131 : decode cX1_add 131 = .ok (.getfield 21, 3) := by decide +kernel
theorem dX1_add_134 : decode cX1_add 134 = .ok (.iconst 1, 1) := by decide +kernel
theorem dX1_add_135 : decode cX1_add 135 = .ok (.isub, 1) := by decide +kernel
theorem dX1_add_136 : decode cX1_add 136 = .ok (.ireturn, 1) := by decide +kernel
theorem dX1_survey_0 : decode cX1_survey 0 = .ok (.aload_n 0, 1) := by decide +kernel
theorem dX1_survey_1 : decode cX1_survey 1 = .ok (.iload_n 1, 1) := by decide +kernel
theorem dX1_survey_2 : decode cX1_survey 2 = .ok (.invokevirtual 53, 3) := by decide +kernel
theorem dX1_survey_5 : decode cX1_survey 5 = .ok (.aload_n 0, 1) := by decide +kernel
theorem dX1_survey_6 : decode cX1_survey 6 = .ok (.iconst 0, 1) := by decide +kernel
theorem dX1_survey_7 : decode cX1_survey 7 = .ok (.putfield 32, 3) := by decide +kernel
theorem dX1_survey_10 : decode cX1_survey 10 = .ok (.aload_n 0, 1) := by decide +kernel
theorem dX1_survey_11 : decode cX1_survey 11 = .ok (.iconst 0, 1) := by decide +kernel
theorem dX1_survey_12 : decode cX1_survey 12 = .ok (.putfield 35, 3) := by decide +kernel
theorem dX1_survey_15 : decode cX1_survey 15 = .ok (.aload_n 0, 1) := by decide +kernel
theorem dX1_survey_16 : decode cX1_survey 16 = .ok (.iconst 0, 1) := by decide +kernel
theorem dX1_survey_17 : decode cX1_survey 17 = .ok (.putfield 38, 3) := by decide +kernel
theorem dX1_survey_20 : decode cX1_survey 20 = .ok (.iconst 0, 1) := by decide +kernel
theorem dX1_survey_21 : decode cX1_survey 21 = .ok (.istore_n 2, 1) := by decide +kernel
theorem dX1_survey_22 : decode cX1_survey 22 = .ok (.iload_n 2, 1) := by decide +kernel
theorem dX1_survey_23 : decode cX1_survey 23 = .ok (.aload_n 0, 1) := by decide +kernel
theorem dX1_survey_24 : decode cX1_survey 24 = .ok (.getfield 29, 3) := by decide +kernel
theorem dX1_survey_27 : decode cX1_survey 27 = .ok (.if_icmp .ge 74, 3) := by decide +kernel
theorem dX1_survey_30 : decode cX1_survey 30 = .ok (.iload_n 2, 1) := by decide +kernel
theorem dX1_survey_31 : decode cX1_survey 31 = .ok (.iconst 1, 1) := by decide +kernel
theorem dX1_survey_32 : decode cX1_survey 32 = .ok (.iadd, 1) := by decide +kernel
theorem dX1_survey_33 : decode cX1_survey 33 = .ok (.istore_n 3, 1) := by decide +kernel
theorem dX1_survey_34 : decode cX1_survey 34 = .ok (.iload_n 3, 1) := by decide +kernel
theorem dX1_survey_35 : decode cX1_survey 35 = .ok (.aload_n 0, 1) := by decide +kernel
theorem dX1_survey_36 : decode cX1_survey 36 = .ok (.getfield 29, 3) := by decide +kernel
theorem dX1_survey_39 : decode cX1_survey 39 = .ok (.if_icmp .ge 56, 3) := by decide +kernel
theorem dX1_survey_42 : decode cX1_survey 42 = .ok (.aload_n 0, 1) := by decide +kernel
theorem dX1_survey_43 : decode cX1_survey 43 = .ok (.iload_n 2, 1) := by decide +kernel
theorem dX1_survey_44 : decode cX1_survey 44 = .ok (.iload_n 3, 1) := by decide +kernel
theorem dX1_survey_45 : decode cX1_survey 45 = .ok (.invokevirtual 57, 3) := by decide +kernel
theorem dX1_survey_48 : decode cX1_survey 48 = .ok (.istore 4, 2) := by decide +kernel
theorem dX1_survey_50 : decode cX1_survey 50 = .ok (.iload 4, 2) := by decide +kernel
theorem dX1_survey_52 : decode cX1_survey 52 = .ok (.ifCond .le 37, 3) := by decide +kernel
theorem dX1_survey_55 : decode cX1_survey 55 = .ok (.aload_n 0, 1) := by decide +kernel
theorem dX1_survey_56 : decode cX1_survey 56 = .ok (.dup, 1) := by decide +kernel
theorem dX1_survey_57 : decode cX1_survey 57 = .ok (.getfield 32, 3) := by decide +kernel
theorem dX1_survey_60 : decode cX1_survey 60 = .ok (.iconst 1, 1) := by decide +kernel
theorem dX1_survey_61 : decode cX1_survey 61 = .ok (.iadd, 1) := by decide +kernel
theorem dX1_survey_62 : decode cX1_survey 62 = .ok (.putfield 32, 3) := by decide +kernel
theorem dX1_survey_65 : decode cX1_survey 65 = .ok (.aload_n 0, 1) := by decide +kernel
theorem dX1_survey_66 : decode cX1_survey 66 = .ok (.dup, 1) := by decide +kernel
theorem dX1_survey_67 : decode cX1_survey 67 = .ok (.getfield 38, 3) := by decide +kernel
theorem dX1_survey_70 : decode cX1_survey 70 = .ok (.iload 4, 2) := by decide +kernel
theorem dX1_survey_72 : decode cX1_survey 72 = .ok (.iadd, 1) := by decide +kernel
theorem dX1_survey_73 : decode cX1_survey 73 = .ok (.putfield 38, 3) := by decide +kernel
theorem dX1_survey_76 : decode cX1_survey 76 = .ok (.aload_n 0, 1) := by decide +kernel
theorem dX1_survey_77 : decode cX1_survey 77 = .ok (.aload_n 0, 1) := by decide +kernel
theorem dX1_survey_78 : decode cX1_survey 78 = .ok (.getfield 35, 3) := by decide +kernel
theorem dX1_survey_81 : decode cX1_survey 81 = .ok (.iload 4, 2) := by decide +kernel
theorem dX1_survey_83 : decode cX1_survey 83 = .ok (.invokestatic 61, 3) := by decide +kernel
theorem dX1_survey_86 : decode cX1_survey 86 = .ok (.putfield 35, 3) := by decide +kernel
theorem dX1_survey_89 : decode cX1_survey 89 = .ok (.iinc 3 1, 3) := by decide +kernel
theorem dX1_survey_92 : decode cX1_survey 92 = .ok (.goto (-58), 3) := by decide +kernel
theorem dX1_survey_95 : decode cX1_survey 95 = .ok (.iinc 2 1, 3) := by decide +kernel
theorem dX1_survey_98 : decode cX1_survey 98 = .ok (.goto (-76), 3) := by decide +kernel
theorem dX1_survey_101 : decode cX1_survey 101 = .ok (.return_, 1) := by decide +kernel
theorem dX1_cells_0 : decode cX1_cells 0 = .ok (.iconst 1, 1) := by decide +kernel
theorem dX1_cells_1 : decode cX1_cells 1 = .ok (.aload_n 0, 1) := by decide +kernel
theorem dX1_cells_2 : decode cX1_cells 2 = .ok (.getfield 29, 3) := by decide +kernel
theorem dX1_cells_5 : decode cX1_cells 5 = .ok (.iadd, 1) := by decide +kernel
theorem dX1_cells_6 : decode cX1_cells 6 = .ok (.aload_n 0, 1) := by decide +kernel
theorem dX1_cells_7 : decode cX1_cells 7 = .ok (.getfield 38, 3) := by decide +kernel
theorem dX1_cells_10 : decode cX1_cells 10 = .ok (.iadd, 1) := by decide +kernel
theorem dX1_cells_11 : decode cX1_cells 11 = .ok (.aload_n 0, 1) := by decide +kernel
theorem dX1_cells_12 : decode cX1_cells 12 = .ok (.getfield 32, 3) := by decide +kernel
theorem dX1_cells_15 : decode cX1_cells 15 = .ok (.isub, 1) := by decide +kernel
theorem dX1_cells_16 : decode cX1_cells 16 = .ok (.ireturn, 1) := by decide +kernel
theorem dX1_pieces_0 : decode cX1_pieces 0 = .ok (.aload_n 0, 1) := by decide +kernel
theorem dX1_pieces_1 : decode cX1_pieces 1 = .ok (.getfield 29, 3) := by decide +kernel
theorem dX1_pieces_4 : decode cX1_pieces 4 = .ok (.aload_n 0, 1) := by decide +kernel
theorem dX1_pieces_5 : decode cX1_pieces 5 = .ok (.getfield 38, 3) := by decide +kernel
theorem dX1_pieces_8 : decode cX1_pieces 8 = .ok (.iadd, 1) := by decide +kernel
theorem dX1_pieces_9 : decode cX1_pieces 9 = .ok (.ireturn, 1) := by decide +kernel
theorem dX1_closedCells_0 : decode cX1_closedCells 0 = .ok (.aload_n 0, 1) := by decide +kernel
theorem dX1_closedCells_1 : decode cX1_closedCells 1 = .ok (.getfield 32, 3) := by decide +kernel
theorem dX1_closedCells_4 : decode cX1_closedCells 4 = .ok (.ifCond .ne 7, 3) := by decide +kernel
theorem dX1_closedCells_7 : decode cX1_closedCells 7 = .ok (.iconst 0, 1) := by decide +kernel
theorem dX1_closedCells_8 : decode cX1_closedCells 8 = .ok (.goto 14, 3) := by decide +kernel
theorem dX1_closedCells_11 : decode cX1_closedCells 11 = .ok (.aload_n 0, 1) := by decide +kernel
theorem dX1_closedCells_12 : decode cX1_closedCells 12 = .ok (.invokevirtual 66, 3) := by decide +kernel
theorem dX1_closedCells_15 : decode cX1_closedCells 15 = .ok (.iconst 2, 1) := by decide +kernel
theorem dX1_closedCells_16 : decode cX1_closedCells 16 = .ok (.aload_n 0, 1) := by decide +kernel
theorem dX1_closedCells_17 : decode cX1_closedCells 17 = .ok (.getfield 29, 3) := by decide +kernel
theorem dX1_closedCells_20 : decode cX1_closedCells 20 = .ok (.imul, 1) := by decide +kernel
theorem dX1_closedCells_21 : decode cX1_closedCells 21 = .ok (.isub, 1) := by decide +kernel
theorem dX1_closedCells_22 : decode cX1_closedCells 22 = .ok (.ireturn, 1) := by decide +kernel
theorem dX1_keepDifferent_0 : decode cX1_keepDifferent 0 = .ok (.aload_n 0, 1) := by decide +kernel
theorem dX1_keepDifferent_1 : decode cX1_keepDifferent 1 = .ok (.iconst 0, 1) := by decide +kernel
theorem dX1_keepDifferent_2 : decode cX1_keepDifferent 2 = .ok (.putfield 29, 3) := by decide +kernel
theorem dX1_keepDifferent_5 : decode cX1_keepDifferent 5 = .ok (.iconst 0, 1) := by decide +kernel
theorem dX1_keepDifferent_6 : decode cX1_keepDifferent 6 = .ok (.istore_n 2, 1) := by decide +kernel
theorem dX1_keepDifferent_7 : decode cX1_keepDifferent 7 = .ok (.iload_n 2, 1) := by decide +kernel
theorem dX1_keepDifferent_8 : decode cX1_keepDifferent 8 = .ok (.iload_n 1, 1) := by decide +kernel
theorem dX1_keepDifferent_9 : decode cX1_keepDifferent 9 = .ok (.if_icmp .ge 37, 3) := by decide +kernel
theorem dX1_keepDifferent_12 : decode cX1_keepDifferent 12 = .ok (.aload_n 0, 1) := by decide +kernel
theorem dX1_keepDifferent_13 : decode cX1_keepDifferent 13 = .ok (.iload_n 2, 1) := by decide +kernel
theorem dX1_keepDifferent_14 : decode cX1_keepDifferent 14 = .ok (.invokevirtual 70, 3) := by decide +kernel
theorem dX1_keepDifferent_17 : decode cX1_keepDifferent 17 = .ok (.ifCond .eq 23, 3) := by decide +kernel
theorem dX1_keepDifferent_20 : decode cX1_keepDifferent 20 = .ok (.aload_n 0, 1) := by decide +kernel
theorem dX1_keepDifferent_21 : decode cX1_keepDifferent 21 = .ok (.getfield 25, 3) := by decide +kernel
theorem dX1_keepDifferent_24 : decode cX1_keepDifferent 24 = .ok (.aload_n 0, 1) := by decide +kernel
theorem dX1_keepDifferent_25 : decode cX1_keepDifferent 25 = .ok (.getfield 29, 3) := by decide +kernel
theorem dX1_keepDifferent_28 : decode cX1_keepDifferent 28 = .ok (.iload_n 2, 1) := by decide +kernel
theorem dX1_keepDifferent_29 : decode cX1_keepDifferent 29 = .ok (.iastore, 1) := by decide +kernel
theorem dX1_keepDifferent_30 : decode cX1_keepDifferent 30 = .ok (.aload_n 0, 1) := by decide +kernel
theorem dX1_keepDifferent_31 : decode cX1_keepDifferent 31 = .ok (.dup, 1) := by decide +kernel
theorem dX1_keepDifferent_32 : decode cX1_keepDifferent 32 = .ok (.getfield 29, 3) := by decide +kernel
theorem dX1_keepDifferent_35 : decode cX1_keepDifferent 35 = .ok (.iconst 1, 1) := by decide +kernel
theorem dX1_keepDifferent_36 : decode cX1_keepDifferent 36 = .ok (.iadd, 1) := by decide +kernel
theorem dX1_keepDifferent_37 : decode cX1_keepDifferent 37 = .ok (.putfield 29, 3) := by decide +kernel
theorem dX1_keepDifferent_40 : decode cX1_keepDifferent 40 = .ok (.iinc 2 1, 3) := by decide +kernel
theorem dX1_keepDifferent_43 : decode cX1_keepDifferent 43 = .ok (.goto (-36), 3) := by decide +kernel
theorem dX1_keepDifferent_46 : decode cX1_keepDifferent 46 = .ok (.return_, 1) := by decide +kernel
theorem dX1_isNew_0 : decode cX1_isNew 0 = .ok (.iconst 0, 1) := by decide +kernel
theorem dX1_isNew_1 : decode cX1_isNew 1 = .ok (.istore_n 2, 1) := by decide +kernel
theorem dX1_isNew_2 : decode cX1_isNew 2 = .ok (.iload_n 2, 1) := by decide +kernel
theorem dX1_isNew_3 : decode cX1_isNew 3 = .ok (.aload_n 0, 1) := by decide +kernel
theorem dX1_isNew_4 : decode cX1_isNew 4 = .ok (.getfield 29, 3) := by decide +kernel
theorem dX1_isNew_7 : decode cX1_isNew 7 = .ok (.if_icmp .ge 25, 3) := by decide +kernel
theorem dX1_isNew_10 : decode cX1_isNew 10 = .ok (.aload_n 0, 1) := by decide +kernel
theorem dX1_isNew_11 : decode cX1_isNew 11 = .ok (.aload_n 0, 1) := by decide +kernel
theorem dX1_isNew_12 : decode cX1_isNew 12 = .ok (.getfield 25, 3) := by decide +kernel
theorem dX1_isNew_15 : decode cX1_isNew 15 = .ok (.iload_n 2, 1) := by decide +kernel
theorem dX1_isNew_16 : decode cX1_isNew 16 = .ok (.iaload, 1) := by decide +kernel
theorem dX1_isNew_17 : decode cX1_isNew 17 = .ok (.iload_n 1, 1) := by decide +kernel
theorem dX1_isNew_18 : decode cX1_isNew 18 = .ok (.invokevirtual 74, 3) := by decide +kernel
theorem dX1_isNew_21 : decode cX1_isNew 21 = .ok (.ifCond .eq 5, 3) := by decide +kernel
theorem dX1_isNew_24 : decode cX1_isNew 24 = .ok (.iconst 0, 1) := by decide +kernel
theorem dX1_isNew_25 : decode cX1_isNew 25 = .ok (.ireturn, 1) := by decide +kernel
theorem dX1_isNew_26 : decode cX1_isNew 26 = .ok (.iinc 2 1, 3) := by decide +kernel
theorem dX1_isNew_29 : decode cX1_isNew 29 = .ok (.goto (-27), 3) := by decide +kernel
theorem dX1_isNew_32 : decode cX1_isNew 32 = .ok (.iconst 1, 1) := by decide +kernel
theorem dX1_isNew_33 : decode cX1_isNew 33 = .ok (.ireturn, 1) := by decide +kernel
theorem dX1_same_0 : decode cX1_same 0 = .ok (.aload_n 0, 1) := by decide +kernel
theorem dX1_same_1 : decode cX1_same 1 = .ok (.iload_n 1, 1) := by decide +kernel
theorem dX1_same_2 : decode cX1_same 2 = .ok (.iload_n 2, 1) := by decide +kernel
theorem dX1_same_3 : decode cX1_same 3 = .ok (.invokevirtual 78, 3) := by decide +kernel
theorem dX1_same_6 : decode cX1_same 6 = .ok (.lconst 0, 1) := by decide +kernel
theorem dX1_same_7 : decode cX1_same 7 = .ok (.lcmp, 1) := by decide +kernel
theorem dX1_same_8 : decode cX1_same 8 = .ok (.ifCond .ne 67, 3) := by decide +kernel
theorem dX1_same_11 : decode cX1_same 11 = .ok (.aload_n 0, 1) := by decide +kernel
theorem dX1_same_12 : decode cX1_same 12 = .ok (.getfield 9, 3) := by decide +kernel
theorem dX1_same_15 : decode cX1_same 15 = .ok (.iload_n 1, 1) := by decide +kernel
theorem dX1_same_16 : decode cX1_same 16 = .ok (.laload, 1) := by decide +kernel
theorem dX1_same_17 : decode cX1_same 17 = .ok (.aload_n 0, 1) := by decide +kernel
theorem dX1_same_18 : decode cX1_same 18 = .ok (.getfield 18, 3) := by decide +kernel
theorem dX1_same_21 : decode cX1_same 21 = .ok (.iload_n 2, 1) := by decide +kernel
theorem dX1_same_22 : decode cX1_same 22 = .ok (.laload, 1) := by decide +kernel
theorem dX1_same_23 : decode cX1_same 23 = .ok (.lmul, 1) := by decide +kernel
theorem dX1_same_24 : decode cX1_same 24 = .ok (.aload_n 0, 1) := by decide +kernel
theorem dX1_same_25 : decode cX1_same 25 = .ok (.getfield 9, 3) := by decide +kernel
theorem dX1_same_28 : decode cX1_same 28 = .ok (.iload_n 2, 1) := by decide +kernel
theorem dX1_same_29 : decode cX1_same 29 = .ok (.laload, 1) := by decide +kernel
theorem dX1_same_30 : decode cX1_same 30 = .ok (.aload_n 0, 1) := by decide +kernel
theorem dX1_same_31 : decode cX1_same 31 = .ok (.getfield 18, 3) := by decide +kernel
theorem dX1_same_34 : decode cX1_same 34 = .ok (.iload_n 1, 1) := by decide +kernel
theorem dX1_same_35 : decode cX1_same 35 = .ok (.laload, 1) := by decide +kernel
theorem dX1_same_36 : decode cX1_same 36 = .ok (.lmul, 1) := by decide +kernel
theorem dX1_same_37 : decode cX1_same 37 = .ok (.lcmp, 1) := by decide +kernel
theorem dX1_same_38 : decode cX1_same 38 = .ok (.ifCond .ne 37, 3) := by decide +kernel
theorem dX1_same_41 : decode cX1_same 41 = .ok (.aload_n 0, 1) := by decide +kernel
theorem dX1_same_42 : decode cX1_same 42 = .ok (.getfield 15, 3) := by decide +kernel
theorem dX1_same_45 : decode cX1_same 45 = .ok (.iload_n 1, 1) := by decide +kernel
theorem dX1_same_46 : decode cX1_same 46 = .ok (.laload, 1) := by decide +kernel
theorem dX1_same_47 : decode cX1_same 47 = .ok (.aload_n 0, 1) := by decide +kernel
theorem dX1_same_48 : decode cX1_same 48 = .ok (.getfield 18, 3) := by decide +kernel
theorem dX1_same_51 : decode cX1_same 51 = .ok (.iload_n 2, 1) := by decide +kernel
theorem dX1_same_52 : decode cX1_same 52 = .ok (.laload, 1) := by decide +kernel
theorem dX1_same_53 : decode cX1_same 53 = .ok (.lmul, 1) := by decide +kernel
theorem dX1_same_54 : decode cX1_same 54 = .ok (.aload_n 0, 1) := by decide +kernel
theorem dX1_same_55 : decode cX1_same 55 = .ok (.getfield 15, 3) := by decide +kernel
theorem dX1_same_58 : decode cX1_same 58 = .ok (.iload_n 2, 1) := by decide +kernel
theorem dX1_same_59 : decode cX1_same 59 = .ok (.laload, 1) := by decide +kernel
theorem dX1_same_60 : decode cX1_same 60 = .ok (.aload_n 0, 1) := by decide +kernel
theorem dX1_same_61 : decode cX1_same 61 = .ok (.getfield 18, 3) := by decide +kernel
theorem dX1_same_64 : decode cX1_same 64 = .ok (.iload_n 1, 1) := by decide +kernel
theorem dX1_same_65 : decode cX1_same 65 = .ok (.laload, 1) := by decide +kernel
theorem dX1_same_66 : decode cX1_same 66 = .ok (.lmul, 1) := by decide +kernel
theorem dX1_same_67 : decode cX1_same 67 = .ok (.lcmp, 1) := by decide +kernel
theorem dX1_same_68 : decode cX1_same 68 = .ok (.ifCond .ne 7, 3) := by decide +kernel
theorem dX1_same_71 : decode cX1_same 71 = .ok (.iconst 1, 1) := by decide +kernel
theorem dX1_same_72 : decode cX1_same 72 = .ok (.goto 4, 3) := by decide +kernel
theorem dX1_same_75 : decode cX1_same 75 = .ok (.iconst 0, 1) := by decide +kernel
theorem dX1_same_76 : decode cX1_same 76 = .ok (.ireturn, 1) := by decide +kernel
theorem dX1_slant_0 : decode cX1_slant 0 = .ok (.aload_n 0, 1) := by decide +kernel
theorem dX1_slant_1 : decode cX1_slant 1 = .ok (.getfield 9, 3) := by decide +kernel
theorem dX1_slant_4 : decode cX1_slant 4 = .ok (.iload_n 1, 1) := by decide +kernel
theorem dX1_slant_5 : decode cX1_slant 5 = .ok (.laload, 1) := by decide +kernel
theorem dX1_slant_6 : decode cX1_slant 6 = .ok (.aload_n 0, 1) := by decide +kernel
theorem dX1_slant_7 : decode cX1_slant 7 = .ok (.getfield 15, 3) := by decide +kernel
theorem dX1_slant_10 : decode cX1_slant 10 = .ok (.iload_n 2, 1) := by decide +kernel
theorem dX1_slant_11 : decode cX1_slant 11 = .ok (.laload, 1) := by decide +kernel
theorem dX1_slant_12 : decode cX1_slant 12 = .ok (.lmul, 1) := by decide +kernel
theorem dX1_slant_13 : decode cX1_slant 13 = .ok (.aload_n 0, 1) := by decide +kernel
theorem dX1_slant_14 : decode cX1_slant 14 = .ok (.getfield 9, 3) := by decide +kernel
theorem dX1_slant_17 : decode cX1_slant 17 = .ok (.iload_n 2, 1) := by decide +kernel
theorem dX1_slant_18 : decode cX1_slant 18 = .ok (.laload, 1) := by decide +kernel
theorem dX1_slant_19 : decode cX1_slant 19 = .ok (.aload_n 0, 1) := by decide +kernel
theorem dX1_slant_20 : decode cX1_slant 20 = .ok (.getfield 15, 3) := by decide +kernel
theorem dX1_slant_23 : decode cX1_slant 23 = .ok (.iload_n 1, 1) := by decide +kernel
theorem dX1_slant_24 : decode cX1_slant 24 = .ok (.laload, 1) := by decide +kernel
theorem dX1_slant_25 : decode cX1_slant 25 = .ok (.lmul, 1) := by decide +kernel
theorem dX1_slant_26 : decode cX1_slant 26 = .ok (.lsub, 1) := by decide +kernel
theorem dX1_slant_27 : decode cX1_slant 27 = .ok (.lreturn, 1) := by decide +kernel
theorem dX1_throughMeet_0 : decode cX1_throughMeet 0 = .ok (.aload_n 0, 1) := by decide +kernel
theorem dX1_throughMeet_1 : decode cX1_throughMeet 1 = .ok (.aload_n 0, 1) := by decide +kernel
theorem dX1_throughMeet_2 : decode cX1_throughMeet 2 = .ok (.getfield 25, 3) := by decide +kernel
theorem dX1_throughMeet_5 : decode cX1_throughMeet 5 = .ok (.iload_n 1, 1) := by decide +kernel
theorem dX1_throughMeet_6 : decode cX1_throughMeet 6 = .ok (.iaload, 1) := by decide +kernel
theorem dX1_throughMeet_7 : decode cX1_throughMeet 7 = .ok (.aload_n 0, 1) := by decide +kernel
theorem dX1_throughMeet_8 : decode cX1_throughMeet 8 = .ok (.getfield 25, 3) := by decide +kernel
theorem dX1_throughMeet_11 : decode cX1_throughMeet 11 = .ok (.iload_n 2, 1) := by decide +kernel
theorem dX1_throughMeet_12 : decode cX1_throughMeet 12 = .ok (.iaload, 1) := by decide +kernel
theorem dX1_throughMeet_13 : decode cX1_throughMeet 13 = .ok (.invokevirtual 78, 3) := by decide +kernel
theorem dX1_throughMeet_16 : decode cX1_throughMeet 16 = .ok (.lconst 0, 1) := by decide +kernel
theorem dX1_throughMeet_17 : decode cX1_throughMeet 17 = .ok (.lcmp, 1) := by decide +kernel
theorem dX1_throughMeet_18 : decode cX1_throughMeet 18 = .ok (.ifCond .ne 5, 3) := by decide +kernel
theorem dX1_throughMeet_21 : decode cX1_throughMeet 21 = .ok (.iconst 0, 1) := by decide +kernel
theorem dX1_throughMeet_22 : decode cX1_throughMeet 22 = .ok (.ireturn, 1) := by decide +kernel
theorem dX1_throughMeet_23 : decode cX1_throughMeet 23 = .ok (.iconst 2, 1) := by decide +kernel
theorem dX1_throughMeet_24 : decode cX1_throughMeet 24 = .ok (.istore_n 3, 1) := by decide +kernel
theorem dX1_throughMeet_25 : decode cX1_throughMeet 25 = .ok (.iconst 0, 1) := by decide +kernel
theorem dX1_throughMeet_26 : decode cX1_throughMeet 26 = .ok (.istore 4, 2) := by decide +kernel
theorem dX1_throughMeet_28 : decode cX1_throughMeet 28 = .ok (.iload 4, 2) := by decide +kernel
theorem dX1_throughMeet_30 : decode cX1_throughMeet 30 = .ok (.aload_n 0, 1) := by decide +kernel
theorem dX1_throughMeet_31 : decode cX1_throughMeet 31 = .ok (.getfield 29, 3) := by decide +kernel
theorem dX1_throughMeet_34 : decode cX1_throughMeet 34 = .ok (.if_icmp .ge 58, 3) := by decide +kernel
theorem dX1_throughMeet_37 : decode cX1_throughMeet 37 = .ok (.iload 4, 2) := by decide +kernel
theorem dX1_throughMeet_39 : decode cX1_throughMeet 39 = .ok (.iload_n 1, 1) := by decide +kernel
theorem dX1_throughMeet_40 : decode cX1_throughMeet 40 = .ok (.if_icmp .eq 46, 3) := by decide +kernel
theorem dX1_throughMeet_43 : decode cX1_throughMeet 43 = .ok (.iload 4, 2) := by decide +kernel
theorem dX1_throughMeet_45 : decode cX1_throughMeet 45 = .ok (.iload_n 2, 1) := by decide +kernel
theorem dX1_throughMeet_46 : decode cX1_throughMeet 46 = .ok (.if_icmp .eq 40, 3) := by decide +kernel
theorem dX1_throughMeet_49 : decode cX1_throughMeet 49 = .ok (.aload_n 0, 1) := by decide +kernel
theorem dX1_throughMeet_50 : decode cX1_throughMeet 50 = .ok (.aload_n 0, 1) := by decide +kernel
theorem dX1_throughMeet_51 : decode cX1_throughMeet 51 = .ok (.getfield 25, 3) := by decide +kernel
theorem dX1_throughMeet_54 : decode cX1_throughMeet 54 = .ok (.iload_n 1, 1) := by decide +kernel
theorem dX1_throughMeet_55 : decode cX1_throughMeet 55 = .ok (.iaload, 1) := by decide +kernel
theorem dX1_throughMeet_56 : decode cX1_throughMeet 56 = .ok (.aload_n 0, 1) := by decide +kernel
theorem dX1_throughMeet_57 : decode cX1_throughMeet 57 = .ok (.getfield 25, 3) := by decide +kernel
theorem dX1_throughMeet_60 : decode cX1_throughMeet 60 = .ok (.iload_n 2, 1) := by decide +kernel
theorem dX1_throughMeet_61 : decode cX1_throughMeet 61 = .ok (.iaload, 1) := by decide +kernel
theorem dX1_throughMeet_62 : decode cX1_throughMeet 62 = .ok (.aload_n 0, 1) := by decide +kernel
theorem dX1_throughMeet_63 : decode cX1_throughMeet 63 = .ok (.getfield 25, 3) := by decide +kernel
theorem dX1_throughMeet_66 : decode cX1_throughMeet 66 = .ok (.iload 4, 2) := by decide +kernel
theorem dX1_throughMeet_68 : decode cX1_throughMeet 68 = .ok (.iaload, 1) := by decide +kernel
theorem dX1_throughMeet_69 : decode cX1_throughMeet 69 = .ok (.invokevirtual 82, 3) := by decide +kernel
theorem dX1_throughMeet_72 : decode cX1_throughMeet 72 = .ok (.ifCond .eq 14, 3) := by decide +kernel
theorem dX1_throughMeet_75 : decode cX1_throughMeet 75 = .ok (.iload 4, 2) := by decide +kernel
theorem dX1_throughMeet_77 : decode cX1_throughMeet 77 = .ok (.iload_n 2, 1) := by decide +kernel
theorem dX1_throughMeet_78 : decode cX1_throughMeet 78 = .ok (.if_icmp .ge 5, 3) := by decide +kernel
theorem dX1_throughMeet_81 : decode cX1_throughMeet 81 = .ok (.iconst 0, 1) := by decide +kernel
theorem dX1_throughMeet_82 : decode cX1_throughMeet 82 = .ok (.ireturn, 1) := by decide +kernel
theorem dX1_throughMeet_83 : decode cX1_throughMeet 83 = .ok (.iinc 3 1, 3) := by decide +kernel
theorem dX1_throughMeet_86 : decode cX1_throughMeet 86 = .ok (.iinc 4 1, 3) := by decide +kernel
theorem dX1_throughMeet_89 : decode cX1_throughMeet 89 = .ok (.goto (-61), 3) := by decide +kernel
theorem dX1_throughMeet_92 : decode cX1_throughMeet 92 = .ok (.iload_n 3, 1) := by decide +kernel
theorem dX1_throughMeet_93 : decode cX1_throughMeet 93 = .ok (.ireturn, 1) := by decide +kernel
theorem dX1_concurrent_0 : decode cX1_concurrent 0 = .ok (.aload_n 0, 1) := by decide +kernel
theorem dX1_concurrent_1 : decode cX1_concurrent 1 = .ok (.getfield 18, 3) := by decide +kernel
theorem dX1_concurrent_4 : decode cX1_concurrent 4 = .ok (.iload_n 1, 1) := by decide +kernel
theorem dX1_concurrent_5 : decode cX1_concurrent 5 = .ok (.laload, 1) := by decide +kernel
theorem dX1_concurrent_6 : decode cX1_concurrent 6 = .ok (.aload_n 0, 1) := by decide +kernel
theorem dX1_concurrent_7 : decode cX1_concurrent 7 = .ok (.getfield 15, 3) := by decide +kernel
theorem dX1_concurrent_10 : decode cX1_concurrent 10 = .ok (.iload_n 2, 1) := by decide +kernel
theorem dX1_concurrent_11 : decode cX1_concurrent 11 = .ok (.laload, 1) := by decide +kernel
theorem dX1_concurrent_12 : decode cX1_concurrent 12 = .ok (.lmul, 1) := by decide +kernel
theorem dX1_concurrent_13 : decode cX1_concurrent 13 = .ok (.aload_n 0, 1) := by decide +kernel
theorem dX1_concurrent_14 : decode cX1_concurrent 14 = .ok (.getfield 18, 3) := by decide +kernel
theorem dX1_concurrent_17 : decode cX1_concurrent 17 = .ok (.iload_n 2, 1) := by decide +kernel
theorem dX1_concurrent_18 : decode cX1_concurrent 18 = .ok (.laload, 1) := by decide +kernel
theorem dX1_concurrent_19 : decode cX1_concurrent 19 = .ok (.aload_n 0, 1) := by decide +kernel
theorem dX1_concurrent_20 : decode cX1_concurrent 20 = .ok (.getfield 15, 3) := by decide +kernel
theorem dX1_concurrent_23 : decode cX1_concurrent 23 = .ok (.iload_n 1, 1) := by decide +kernel
theorem dX1_concurrent_24 : decode cX1_concurrent 24 = .ok (.laload, 1) := by decide +kernel
theorem dX1_concurrent_25 : decode cX1_concurrent 25 = .ok (.lmul, 1) := by decide +kernel
theorem dX1_concurrent_26 : decode cX1_concurrent 26 = .ok (.lsub, 1) := by decide +kernel
theorem dX1_concurrent_27 : decode cX1_concurrent 27 = .ok (.lstore 4, 2) := by decide +kernel
theorem dX1_concurrent_29 : decode cX1_concurrent 29 = .ok (.aload_n 0, 1) := by decide +kernel
theorem dX1_concurrent_30 : decode cX1_concurrent 30 = .ok (.getfield 9, 3) := by decide +kernel
theorem dX1_concurrent_33 : decode cX1_concurrent 33 = .ok (.iload_n 1, 1) := by decide +kernel
theorem dX1_concurrent_34 : decode cX1_concurrent 34 = .ok (.laload, 1) := by decide +kernel
theorem dX1_concurrent_35 : decode cX1_concurrent 35 = .ok (.aload_n 0, 1) := by decide +kernel
theorem dX1_concurrent_36 : decode cX1_concurrent 36 = .ok (.getfield 18, 3) := by decide +kernel
theorem dX1_concurrent_39 : decode cX1_concurrent 39 = .ok (.iload_n 2, 1) := by decide +kernel
theorem dX1_concurrent_40 : decode cX1_concurrent 40 = .ok (.laload, 1) := by decide +kernel
theorem dX1_concurrent_41 : decode cX1_concurrent 41 = .ok (.lmul, 1) := by decide +kernel
theorem dX1_concurrent_42 : decode cX1_concurrent 42 = .ok (.aload_n 0, 1) := by decide +kernel
theorem dX1_concurrent_43 : decode cX1_concurrent 43 = .ok (.getfield 9, 3) := by decide +kernel
theorem dX1_concurrent_46 : decode cX1_concurrent 46 = .ok (.iload_n 2, 1) := by decide +kernel
theorem dX1_concurrent_47 : decode cX1_concurrent 47 = .ok (.laload, 1) := by decide +kernel
theorem dX1_concurrent_48 : decode cX1_concurrent 48 = .ok (.aload_n 0, 1) := by decide +kernel
theorem dX1_concurrent_49 : decode cX1_concurrent 49 = .ok (.getfield 18, 3) := by decide +kernel
theorem dX1_concurrent_52 : decode cX1_concurrent 52 = .ok (.iload_n 1, 1) := by decide +kernel
theorem dX1_concurrent_53 : decode cX1_concurrent 53 = .ok (.laload, 1) := by decide +kernel
theorem dX1_concurrent_54 : decode cX1_concurrent 54 = .ok (.lmul, 1) := by decide +kernel
theorem dX1_concurrent_55 : decode cX1_concurrent 55 = .ok (.lsub, 1) := by decide +kernel
theorem dX1_concurrent_56 : decode cX1_concurrent 56 = .ok (.lstore 6, 2) := by decide +kernel
theorem dX1_concurrent_58 : decode cX1_concurrent 58 = .ok (.aload_n 0, 1) := by decide +kernel
theorem dX1_concurrent_59 : decode cX1_concurrent 59 = .ok (.getfield 9, 3) := by decide +kernel
theorem dX1_concurrent_62 : decode cX1_concurrent 62 = .ok (.iload_n 3, 1) := by decide +kernel
theorem dX1_concurrent_63 : decode cX1_concurrent 63 = .ok (.laload, 1) := by decide +kernel
theorem dX1_concurrent_64 : decode cX1_concurrent 64 = .ok (.lload 4, 2) := by decide +kernel
theorem dX1_concurrent_66 : decode cX1_concurrent 66 = .ok (.lmul, 1) := by decide +kernel
theorem dX1_concurrent_67 : decode cX1_concurrent 67 = .ok (.aload_n 0, 1) := by decide +kernel
theorem dX1_concurrent_68 : decode cX1_concurrent 68 = .ok (.getfield 15, 3) := by decide +kernel
theorem dX1_concurrent_71 : decode cX1_concurrent 71 = .ok (.iload_n 3, 1) := by decide +kernel
theorem dX1_concurrent_72 : decode cX1_concurrent 72 = .ok (.laload, 1) := by decide +kernel
theorem dX1_concurrent_73 : decode cX1_concurrent 73 = .ok (.lload 6, 2) := by decide +kernel
theorem dX1_concurrent_75 : decode cX1_concurrent 75 = .ok (.lmul, 1) := by decide +kernel
theorem dX1_concurrent_76 : decode cX1_concurrent 76 = .ok (.ladd, 1) := by decide +kernel
theorem dX1_concurrent_77 : decode cX1_concurrent 77 = .ok (.aload_n 0, 1) := by decide +kernel
theorem dX1_concurrent_78 : decode cX1_concurrent 78 = .ok (.getfield 18, 3) := by decide +kernel
theorem dX1_concurrent_81 : decode cX1_concurrent 81 = .ok (.iload_n 3, 1) := by decide +kernel
theorem dX1_concurrent_82 : decode cX1_concurrent 82 = .ok (.laload, 1) := by decide +kernel
theorem dX1_concurrent_83 : decode cX1_concurrent 83 = .ok (.aload_n 0, 1) := by decide +kernel
theorem dX1_concurrent_84 : decode cX1_concurrent 84 = .ok (.iload_n 1, 1) := by decide +kernel
theorem dX1_concurrent_85 : decode cX1_concurrent 85 = .ok (.iload_n 2, 1) := by decide +kernel
theorem dX1_concurrent_86 : decode cX1_concurrent 86 = .ok (.invokevirtual 78, 3) := by decide +kernel
theorem dX1_concurrent_89 : decode cX1_concurrent 89 = .ok (.lmul, 1) := by decide +kernel
theorem dX1_concurrent_90 : decode cX1_concurrent 90 = .ok (.lcmp, 1) := by decide +kernel
theorem dX1_concurrent_91 : decode cX1_concurrent 91 = .ok (.ifCond .ne 7, 3) := by decide +kernel
theorem dX1_concurrent_94 : decode cX1_concurrent 94 = .ok (.iconst 1, 1) := by decide +kernel
theorem dX1_concurrent_95 : decode cX1_concurrent 95 = .ok (.goto 4, 3) := by decide +kernel
theorem dX1_concurrent_98 : decode cX1_concurrent 98 = .ok (.iconst 0, 1) := by decide +kernel
theorem dX1_concurrent_99 : decode cX1_concurrent 99 = .ok (.ireturn, 1) := by decide +kernel
theorem dX2_init_0 : decode cX2_init 0 = .ok (.aload_n 0, 1) := by decide +kernel
theorem dX2_init_1 : decode cX2_init 1 = .ok (.invokespecial 3, 3) := by decide +kernel
theorem dX2_init_4 : decode cX2_init 4 = .ok (.aload_n 0, 1) := by decide +kernel
theorem dX2_init_5 : decode cX2_init 5 = .ok (.bipush 60, 2) := by decide +kernel
theorem dX2_init_7 : decode cX2_init 7 = .ok (.newarray .int, 2) := by decide +kernel
theorem dX2_init_9 : decode cX2_init 9 = .ok (.putfield 9, 3) := by decide +kernel
theorem dX2_init_12 : decode cX2_init 12 = .ok (.aload_n 0, 1) := by decide +kernel
theorem dX2_init_13 : decode cX2_init 13 = .ok (.bipush 60, 2) := by decide +kernel
theorem dX2_init_15 : decode cX2_init 15 = .ok (.newarray .int, 2) := by decide +kernel
theorem dX2_init_17 : decode cX2_init 17 = .ok (.putfield 15, 3) := by decide +kernel
theorem dX2_init_20 : decode cX2_init 20 = .ok (.aload_n 0, 1) := by decide +kernel
theorem dX2_init_21 : decode cX2_init 21 = .ok (.iconst 0, 1) := by decide +kernel
theorem dX2_init_22 : decode cX2_init 22 = .ok (.putfield 18, 3) := by decide +kernel
theorem dX2_init_25 : decode cX2_init 25 = .ok (.return_, 1) := by decide +kernel
theorem dX2_add_0 : decode cX2_add 0 = .ok (.aload_n 0, 1) := by decide +kernel
theorem dX2_add_1 : decode cX2_add 1 = .ok (.getfield 18, 3) := by decide +kernel
theorem dX2_add_4 : decode cX2_add 4 = .ok (.bipush 60, 2) := by decide +kernel
theorem dX2_add_6 : decode cX2_add 6 = .ok (.if_icmp .lt 6, 3) := by decide +kernel
theorem dX2_add_9 : decode cX2_add 9 = .ok (.bipush (-3), 2) := by decide +kernel
theorem dX2_add_11 : decode cX2_add 11 = .ok (.ireturn, 1) := by decide +kernel
theorem dX2_add_12 : decode cX2_add 12 = .ok (.aload_n 0, 1) := by decide +kernel
theorem dX2_add_13 : decode cX2_add 13 = .ok (.getfield 9, 3) := by decide +kernel
theorem dX2_add_16 : decode cX2_add 16 = .ok (.aload_n 0, 1) := by decide +kernel
theorem dX2_add_17 : decode cX2_add 17 = .ok (.getfield 18, 3) := by decide +kernel
theorem dX2_add_20 : decode cX2_add 20 = .ok (.iload_n 1, 1) := by decide +kernel
theorem dX2_add_21 : decode cX2_add 21 = .ok (.iastore, 1) := by decide +kernel
theorem dX2_add_22 : decode cX2_add 22 = .ok (.aload_n 0, 1) := by decide +kernel
theorem dX2_add_23 : decode cX2_add 23 = .ok (.getfield 15, 3) := by decide +kernel
theorem dX2_add_26 : decode cX2_add 26 = .ok (.aload_n 0, 1) := by decide +kernel
theorem dX2_add_27 : decode cX2_add 27 = .ok (.getfield 18, 3) := by decide +kernel
theorem dX2_add_30 : decode cX2_add 30 = .ok (.iload_n 2, 1) := by decide +kernel
theorem dX2_add_31 : decode cX2_add 31 = .ok (.iastore, 1) := by decide +kernel
theorem dX2_add_32 : decode cX2_add 32 = .ok (.aload_n 0, 1) := by decide +kernel
theorem dX2_add_33 : decode cX2_add 33 = .ok (.dup, 1) := by decide +kernel
theorem dX2_add_34 : decode cX2_add 34 = .ok (.getfield 18, 3) := by decide +kernel
theorem dX2_add_37 : decode cX2_add 37 = .ok (.iconst 1, 1) := by decide +kernel
theorem dX2_add_38 : decode cX2_add 38 = .ok (.iadd, 1) := by decide +kernel
theorem dX2_add_39 : decode cX2_add 39 = .ok (.putfield 18, 3) := by decide +kernel
theorem dX2_add_42 : decode cX2_add 42 = .ok (.aload_n 0, 1) := by decide +kernel
theorem dX2_add_43 : decode cX2_add 43 = .ok (.getfield 18, 3) := by decide +kernel
theorem dX2_add_46 : decode cX2_add 46 = .ok (.iconst 1, 1) := by decide +kernel
theorem dX2_add_47 : decode cX2_add 47 = .ok (.isub, 1) := by decide +kernel
theorem dX2_add_48 : decode cX2_add 48 = .ok (.ireturn, 1) := by decide +kernel
theorem dX2_has_0 : decode cX2_has 0 = .ok (.iload_n 1, 1) := by decide +kernel
theorem dX2_has_1 : decode cX2_has 1 = .ok (.ifCond .lt 15, 3) := by decide +kernel
theorem dX2_has_4 : decode cX2_has 4 = .ok (.iload_n 1, 1) := by decide +kernel
theorem dX2_has_5 : decode cX2_has 5 = .ok (.aload_n 0, 1) := by decide +kernel
theorem dX2_has_6 : decode cX2_has 6 = .ok (.getfield 18, 3) := by decide +kernel
theorem dX2_has_9 : decode cX2_has 9 = .ok (.if_icmp .ge 7, 3) := by decide +kernel
theorem dX2_has_12 : decode cX2_has 12 = .ok (.iconst 1, 1) := by decide +kernel
theorem dX2_has_13 : decode cX2_has 13 = .ok (.goto 4, 3) := by decide +kernel
theorem dX2_has_16 : decode cX2_has 16 = .ok (.iconst 0, 1) := by decide +kernel
theorem dX2_has_17 : decode cX2_has 17 = .ok (.ireturn, 1) := by decide +kernel
theorem dX2_hasAll_0 : decode cX2_hasAll 0 = .ok (.aload_n 0, 1) := by decide +kernel
theorem dX2_hasAll_1 : decode cX2_hasAll 1 = .ok (.iload_n 1, 1) := by decide +kernel
theorem dX2_hasAll_2 : decode cX2_hasAll 2 = .ok (.invokevirtual 22, 3) := by decide +kernel
theorem dX2_hasAll_5 : decode cX2_hasAll 5 = .ok (.ifCond .eq 23, 3) := by decide +kernel
theorem dX2_hasAll_8 : decode cX2_hasAll 8 = .ok (.aload_n 0, 1) := by decide +kernel
theorem dX2_hasAll_9 : decode cX2_hasAll 9 = .ok (.iload_n 2, 1) := by decide +kernel
theorem dX2_hasAll_10 : decode cX2_hasAll 10 = .ok (.invokevirtual 22, 3) := by decide +kernel
theorem dX2_hasAll_13 : decode cX2_hasAll 13 = .ok (.ifCond .eq 15, 3) := by decide +kernel
theorem dX2_hasAll_16 : decode cX2_hasAll 16 = .ok (.aload_n 0, 1) := by decide +kernel
theorem dX2_hasAll_17 : decode cX2_hasAll 17 = .ok (.iload_n 3, 1) := by decide +kernel
theorem dX2_hasAll_18 : decode cX2_hasAll 18 = .ok (.invokevirtual 22, 3) := by decide +kernel
theorem dX2_hasAll_21 : decode cX2_hasAll 21 = .ok (.ifCond .eq 7, 3) := by decide +kernel
theorem dX2_hasAll_24 : decode cX2_hasAll 24 = .ok (.iconst 1, 1) := by decide +kernel
theorem dX2_hasAll_25 : decode cX2_hasAll 25 = .ok (.goto 4, 3) := by decide +kernel
theorem dX2_hasAll_28 : decode cX2_hasAll 28 = .ok (.iconst 0, 1) := by decide +kernel
theorem dX2_hasAll_29 : decode cX2_hasAll 29 = .ok (.ireturn, 1) := by decide +kernel
theorem dX2_equal_0 : decode cX2_equal 0 = .ok (.aload_n 0, 1) := by decide +kernel
theorem dX2_equal_1 : decode cX2_equal 1 = .ok (.iload_n 1, 1) := by decide +kernel
theorem dX2_equal_2 : decode cX2_equal 2 = .ok (.iload_n 2, 1) := by decide +kernel
theorem dX2_equal_3 : decode cX2_equal 3 = .ok (.invokevirtual 26, 3) := by decide +kernel
theorem dX2_equal_6 : decode cX2_equal 6 = .ok (.ifCond .ne 7, 3) := by decide +kernel
theorem dX2_equal_9 : decode cX2_equal 9 = .ok (.iconst 1, 1) := by decide +kernel
theorem dX2_equal_10 : decode cX2_equal 10 = .ok (.goto 4, 3) := by decide +kernel
theorem dX2_equal_13 : decode cX2_equal 13 = .ok (.iconst 0, 1) := by decide +kernel
theorem dX2_equal_14 : decode cX2_equal 14 = .ok (.ireturn, 1) := by decide +kernel
theorem dX2_compare_0 : decode cX2_compare 0 = .ok (.aload_n 0, 1) := by decide +kernel
theorem dX2_compare_1 : decode cX2_compare 1 = .ok (.getfield 9, 3) := by decide +kernel
theorem dX2_compare_4 : decode cX2_compare 4 = .ok (.iload_n 1, 1) := by decide +kernel
theorem dX2_compare_5 : decode cX2_compare 5 = .ok (.iaload, 1) := by decide +kernel
theorem dX2_compare_6 : decode cX2_compare 6 = .ok (.aload_n 0, 1) := by decide +kernel
theorem dX2_compare_7 : decode cX2_compare 7 = .ok (.getfield 9, 3) := by decide +kernel
theorem dX2_compare_10 : decode cX2_compare 10 = .ok (.iload_n 2, 1) := by decide +kernel
theorem dX2_compare_11 : decode cX2_compare 11 = .ok (.iaload, 1) := by decide +kernel
theorem dX2_compare_12 : decode cX2_compare 12 = .ok (.invokestatic 30, 3) := by decide +kernel
theorem dX2_compare_15 : decode cX2_compare 15 = .ok (.istore_n 3, 1) := by decide +kernel
theorem dX2_compare_16 : decode cX2_compare 16 = .ok (.iload_n 3, 1) := by decide +kernel
theorem dX2_compare_17 : decode cX2_compare 17 = .ok (.ifCond .eq 7, 3) := by decide +kernel
theorem dX2_compare_20 : decode cX2_compare 20 = .ok (.iload_n 3, 1) := by decide +kernel
theorem dX2_compare_21 : decode cX2_compare 21 = .ok (.goto 18, 3) := by decide +kernel
theorem dX2_compare_24 : decode cX2_compare 24 = .ok (.aload_n 0, 1) := by decide +kernel
theorem dX2_compare_25 : decode cX2_compare 25 = .ok (.getfield 15, 3) := by decide +kernel
theorem dX2_compare_28 : decode cX2_compare 28 = .ok (.iload_n 1, 1) := by decide +kernel
theorem dX2_compare_29 : decode cX2_compare 29 = .ok (.iaload, 1) := by decide +kernel
theorem dX2_compare_30 : decode cX2_compare 30 = .ok (.aload_n 0, 1) := by decide +kernel
theorem dX2_compare_31 : decode cX2_compare 31 = .ok (.getfield 15, 3) := by decide +kernel
theorem dX2_compare_34 : decode cX2_compare 34 = .ok (.iload_n 2, 1) := by decide +kernel
theorem dX2_compare_35 : decode cX2_compare 35 = .ok (.iaload, 1) := by decide +kernel
theorem dX2_compare_36 : decode cX2_compare 36 = .ok (.invokestatic 30, 3) := by decide +kernel
theorem dX2_compare_39 : decode cX2_compare 39 = .ok (.ireturn, 1) := by decide +kernel
theorem dX2_turn_0 : decode cX2_turn 0 = .ok (.aload_n 0, 1) := by decide +kernel
theorem dX2_turn_1 : decode cX2_turn 1 = .ok (.getfield 9, 3) := by decide +kernel
theorem dX2_turn_4 : decode cX2_turn 4 = .ok (.iload_n 2, 1) := by decide +kernel
theorem dX2_turn_5 : decode cX2_turn 5 = .ok (.iaload, 1) := by decide +kernel
theorem dX2_turn_6 : decode cX2_turn 6 = .ok (.aload_n 0, 1) := by decide +kernel
theorem dX2_turn_7 : decode cX2_turn 7 = .ok (.getfield 9, 3) := by decide +kernel
theorem dX2_turn_10 : decode cX2_turn 10 = .ok (.iload_n 1, 1) := by decide +kernel
theorem dX2_turn_11 : decode cX2_turn 11 = .ok (.iaload, 1) := by decide +kernel
theorem dX2_turn_12 : decode cX2_turn 12 = .ok (.isub, 1) := by decide +kernel
theorem dX2_turn_13 : decode cX2_turn 13 = .ok (.i2l, 1) := by decide +kernel
theorem dX2_turn_14 : decode cX2_turn 14 = .ok (.aload_n 0, 1) := by decide +kernel
theorem dX2_turn_15 : decode cX2_turn 15 = .ok (.getfield 15, 3) := by decide +kernel
theorem dX2_turn_18 : decode cX2_turn 18 = .ok (.iload_n 3, 1) := by decide +kernel
theorem dX2_turn_19 : decode cX2_turn 19 = .ok (.iaload, 1) := by decide +kernel
theorem dX2_turn_20 : decode cX2_turn 20 = .ok (.aload_n 0, 1) := by decide +kernel
theorem dX2_turn_21 : decode cX2_turn 21 = .ok (.getfield 15, 3) := by decide +kernel
theorem dX2_turn_24 : decode cX2_turn 24 = .ok (.iload_n 1, 1) := by decide +kernel
theorem dX2_turn_25 : decode cX2_turn 25 = .ok (.iaload, 1) := by decide +kernel
theorem dX2_turn_26 : decode cX2_turn 26 = .ok (.isub, 1) := by decide +kernel
theorem dX2_turn_27 : decode cX2_turn 27 = .ok (.i2l, 1) := by decide +kernel
theorem dX2_turn_28 : decode cX2_turn 28 = .ok (.lmul, 1) := by decide +kernel
theorem dX2_turn_29 : decode cX2_turn 29 = .ok (.lstore 4, 2) := by decide +kernel
theorem dX2_turn_31 : decode cX2_turn 31 = .ok (.aload_n 0, 1) := by decide +kernel
theorem dX2_turn_32 : decode cX2_turn 32 = .ok (.getfield 15, 3) := by decide +kernel
theorem dX2_turn_35 : decode cX2_turn 35 = .ok (.iload_n 2, 1) := by decide +kernel
theorem dX2_turn_36 : decode cX2_turn 36 = .ok (.iaload, 1) := by decide +kernel
theorem dX2_turn_37 : decode cX2_turn 37 = .ok (.aload_n 0, 1) := by decide +kernel
theorem dX2_turn_38 : decode cX2_turn 38 = .ok (.getfield 15, 3) := by decide +kernel
theorem dX2_turn_41 : decode cX2_turn 41 = .ok (.iload_n 1, 1) := by decide +kernel
theorem dX2_turn_42 : decode cX2_turn 42 = .ok (.iaload, 1) := by decide +kernel
theorem dX2_turn_43 : decode cX2_turn 43 = .ok (.isub, 1) := by decide +kernel
theorem dX2_turn_44 : decode cX2_turn 44 = .ok (.i2l, 1) := by decide +kernel
theorem dX2_turn_45 : decode cX2_turn 45 = .ok (.aload_n 0, 1) := by decide +kernel
theorem dX2_turn_46 : decode cX2_turn 46 = .ok (.getfield 9, 3) := by decide +kernel
theorem dX2_turn_49 : decode cX2_turn 49 = .ok (.iload_n 3, 1) := by decide +kernel
theorem dX2_turn_50 : decode cX2_turn 50 = .ok (.iaload, 1) := by decide +kernel
theorem dX2_turn_51 : decode cX2_turn 51 = .ok (.aload_n 0, 1) := by decide +kernel
theorem dX2_turn_52 : decode cX2_turn 52 = .ok (.getfield 9, 3) := by decide +kernel
theorem dX2_turn_55 : decode cX2_turn 55 = .ok (.iload_n 1, 1) := by decide +kernel
theorem dX2_turn_56 : decode cX2_turn 56 = .ok (.iaload, 1) := by decide +kernel
theorem dX2_turn_57 : decode cX2_turn 57 = .ok (.isub, 1) := by decide +kernel
theorem dX2_turn_58 : decode cX2_turn 58 = .ok (.i2l, 1) := by decide +kernel
theorem dX2_turn_59 : decode cX2_turn 59 = .ok (.lmul, 1) := by decide +kernel
theorem dX2_turn_60 : decode cX2_turn 60 = .ok (.lstore 6, 2) := by decide +kernel
theorem dX2_turn_62 : decode cX2_turn 62 = .ok (.lload 4, 2) := by decide +kernel
theorem dX2_turn_64 : decode cX2_turn 64 = .ok (.lload 6, 2) := by decide +kernel
theorem dX2_turn_66 : decode cX2_turn 66 = .ok (.lsub, 1) := by decide +kernel
theorem dX2_turn_67 : decode cX2_turn 67 = .ok (.invokestatic 33, 3) := by decide +kernel
theorem dX2_turn_70 : decode cX2_turn 70 = .ok (.ireturn, 1) := by decide +kernel
theorem dX2_ring_0 : decode cX2_ring 0 = .ok (.aload_n 0, 1) := by decide +kernel
theorem dX2_ring_1 : decode cX2_ring 1 = .ok (.getfield 9, 3) := by decide +kernel
theorem dX2_ring_4 : decode cX2_ring 4 = .ok (.iload_n 1, 1) := by decide +kernel
theorem dX2_ring_5 : decode cX2_ring 5 = .ok (.iaload, 1) := by decide +kernel
theorem dX2_ring_6 : decode cX2_ring 6 = .ok (.aload_n 0, 1) := by decide +kernel
theorem dX2_ring_7 : decode cX2_ring 7 = .ok (.getfield 9, 3) := by decide +kernel
theorem dX2_ring_10 : decode cX2_ring 10 = .ok (.iload 4, 2) := by decide +kernel
theorem dX2_ring_12 : decode cX2_ring 12 = .ok (.iaload, 1) := by decide +kernel
theorem dX2_ring_13 : decode cX2_ring 13 = .ok (.isub, 1) := by decide +kernel
theorem dX2_ring_14 : decode cX2_ring 14 = .ok (.i2l, 1) := by decide +kernel
theorem dX2_ring_15 : decode cX2_ring 15 = .ok (.lstore 5, 2) := by decide +kernel
theorem dX2_ring_17 : decode cX2_ring 17 = .ok (.aload_n 0, 1) := by decide +kernel
theorem dX2_ring_18 : decode cX2_ring 18 = .ok (.getfield 15, 3) := by decide +kernel
theorem dX2_ring_21 : decode cX2_ring 21 = .ok (.iload_n 1, 1) := by decide +kernel
theorem dX2_ring_22 : decode cX2_ring 22 = .ok (.iaload, 1) := by decide +kernel
theorem dX2_ring_23 : decode cX2_ring 23 = .ok (.aload_n 0, 1) := by decide +kernel
theorem dX2_ring_24 : decode cX2_ring 24 = .ok (.getfield 15, 3) := by decide +kernel
theorem dX2_ring_27 : decode cX2_ring 27 = .ok (.iload 4, 2) := by decide +kernel
theorem dX2_ring_29 : decode cX2_ring 29 = .ok (.iaload, 1) := by decide +kernel
theorem dX2_ring_30 : decode cX2_ring 30 = .ok (.isub, 1) := by decide +kernel
theorem dX2_ring_31 : decode cX2_ring 31 = .ok (.i2l, 1) := by decide +kernel
theorem dX2_ring_32 : decode cX2_ring 32 = .ok (.lstore 7, 2) := by decide +kernel
theorem dX2_ring_34 : decode cX2_ring 34 = .ok (.aload_n 0, 1) := by decide +kernel
theorem dX2_ring_35 : decode cX2_ring 35 = .ok (.getfield 9, 3) := by decide +kernel
theorem dX2_ring_38 : decode cX2_ring 38 = .ok (.iload_n 2, 1) := by decide +kernel
theorem dX2_ring_39 : decode cX2_ring 39 = .ok (.iaload, 1) := by decide +kernel
theorem dX2_ring_40 : decode cX2_ring 40 = .ok (.aload_n 0, 1) := by decide +kernel
theorem dX2_ring_41 : decode cX2_ring 41 = .ok (.getfield 9, 3) := by decide +kernel
theorem dX2_ring_44 : decode cX2_ring 44 = .ok (.iload 4, 2) := by decide +kernel
theorem dX2_ring_46 : decode cX2_ring 46 = .ok (.iaload, 1) := by decide +kernel
theorem dX2_ring_47 : decode cX2_ring 47 = .ok (.isub, 1) := by decide +kernel
theorem dX2_ring_48 : decode cX2_ring 48 = .ok (.i2l, 1) := by decide +kernel
theorem dX2_ring_49 : decode cX2_ring 49 = .ok (.lstore 9, 2) := by decide +kernel
theorem dX2_ring_51 : decode cX2_ring 51 = .ok (.aload_n 0, 1) := by decide +kernel
theorem dX2_ring_52 : decode cX2_ring 52 = .ok (.getfield 15, 3) := by decide +kernel
theorem dX2_ring_55 : decode cX2_ring 55 = .ok (.iload_n 2, 1) := by decide +kernel
theorem dX2_ring_56 : decode cX2_ring 56 = .ok (.iaload, 1) := by decide +kernel
theorem dX2_ring_57 : decode cX2_ring 57 = .ok (.aload_n 0, 1) := by decide +kernel
theorem dX2_ring_58 : decode cX2_ring 58 = .ok (.getfield 15, 3) := by decide +kernel
theorem dX2_ring_61 : decode cX2_ring 61 = .ok (.iload 4, 2) := by decide +kernel
theorem dX2_ring_63 : decode cX2_ring 63 = .ok (.iaload, 1) := by decide +kernel
theorem dX2_ring_64 : decode cX2_ring 64 = .ok (.isub, 1) := by decide +kernel
theorem dX2_ring_65 : decode cX2_ring 65 = .ok (.i2l, 1) := by decide +kernel
theorem dX2_ring_66 : decode cX2_ring 66 = .ok (.lstore 11, 2) := by decide +kernel
theorem dX2_ring_68 : decode cX2_ring 68 = .ok (.aload_n 0, 1) := by decide +kernel
theorem dX2_ring_69 : decode cX2_ring 69 = .ok (.getfield 9, 3) := by decide +kernel
theorem dX2_ring_72 : decode cX2_ring 72 = .ok (.iload_n 3, 1) := by decide +kernel
theorem dX2_ring_73 : decode cX2_ring 73 = .ok (.iaload, 1) := by decide +kernel
theorem dX2_ring_74 : decode cX2_ring 74 = .ok (.aload_n 0, 1) := by decide +kernel
theorem dX2_ring_75 : decode cX2_ring 75 = .ok (.getfield 9, 3) := by decide +kernel
theorem dX2_ring_78 : decode cX2_ring 78 = .ok (.iload 4, 2) := by decide +kernel
theorem dX2_ring_80 : decode cX2_ring 80 = .ok (.iaload, 1) := by decide +kernel
theorem dX2_ring_81 : decode cX2_ring 81 = .ok (.isub, 1) := by decide +kernel
theorem dX2_ring_82 : decode cX2_ring 82 = .ok (.i2l, 1) := by decide +kernel
theorem dX2_ring_83 : decode cX2_ring 83 = .ok (.lstore 13, 2) := by decide +kernel
theorem dX2_ring_85 : decode cX2_ring 85 = .ok (.aload_n 0, 1) := by decide +kernel
theorem dX2_ring_86 : decode cX2_ring 86 = .ok (.getfield 15, 3) := by decide +kernel
theorem dX2_ring_89 : decode cX2_ring 89 = .ok (.iload_n 3, 1) := by decide +kernel
theorem dX2_ring_90 : decode cX2_ring 90 = .ok (.iaload, 1) := by decide +kernel
theorem dX2_ring_91 : decode cX2_ring 91 = .ok (.aload_n 0, 1) := by decide +kernel
theorem dX2_ring_92 : decode cX2_ring 92 = .ok (.getfield 15, 3) := by decide +kernel
theorem dX2_ring_95 : decode cX2_ring 95 = .ok (.iload 4, 2) := by decide +kernel
theorem dX2_ring_97 : decode cX2_ring 97 = .ok (.iaload, 1) := by decide +kernel
theorem dX2_ring_98 : decode cX2_ring 98 = .ok (.isub, 1) := by decide +kernel
theorem dX2_ring_99 : decode cX2_ring 99 = .ok (.i2l, 1) := by decide +kernel
theorem dX2_ring_100 : decode cX2_ring 100 = .ok (.lstore 15, 2) := by decide +kernel
theorem dX2_ring_102 : decode cX2_ring 102 = .ok (.lload 5, 2) := by decide +kernel
theorem dX2_ring_104 : decode cX2_ring 104 = .ok (.lload 5, 2) := by decide +kernel
theorem dX2_ring_106 : decode cX2_ring 106 = .ok (.lmul, 1) := by decide +kernel
theorem dX2_ring_107 : decode cX2_ring 107 = .ok (.lload 7, 2) := by decide +kernel
theorem dX2_ring_109 : decode cX2_ring 109 = .ok (.lload 7, 2) := by decide +kernel
theorem dX2_ring_111 : decode cX2_ring 111 = .ok (.lmul, 1) := by decide +kernel
theorem dX2_ring_112 : decode cX2_ring 112 = .ok (.ladd, 1) := by decide +kernel
theorem dX2_ring_113 : decode cX2_ring 113 = .ok (.lload 9, 2) := by decide +kernel
theorem dX2_ring_115 : decode cX2_ring 115 = .ok (.lload 15, 2) := by decide +kernel
theorem dX2_ring_117 : decode cX2_ring 117 = .ok (.lmul, 1) := by decide +kernel
theorem dX2_ring_118 : decode cX2_ring 118 = .ok (.lload 11, 2) := by decide +kernel
theorem dX2_ring_120 : decode cX2_ring 120 = .ok (.lload 13, 2) := by decide +kernel
theorem dX2_ring_122 : decode cX2_ring 122 = .ok (.lmul, 1) := by decide +kernel
theorem dX2_ring_123 : decode cX2_ring 123 = .ok (.lsub, 1) := by decide +kernel
theorem dX2_ring_124 : decode cX2_ring 124 = .ok (.lmul, 1) := by decide +kernel
theorem dX2_ring_125 : decode cX2_ring 125 = .ok (.lload 9, 2) := by decide +kernel
theorem dX2_ring_127 : decode cX2_ring 127 = .ok (.lload 9, 2) := by decide +kernel
theorem dX2_ring_129 : decode cX2_ring 129 = .ok (.lmul, 1) := by decide +kernel
theorem dX2_ring_130 : decode cX2_ring 130 = .ok (.lload 11, 2) := by decide +kernel
theorem dX2_ring_132 : decode cX2_ring 132 = .ok (.lload 11, 2) := by decide +kernel
theorem dX2_ring_134 : decode cX2_ring 134 = .ok (.lmul, 1) := by decide +kernel
theorem dX2_ring_135 : decode cX2_ring 135 = .ok (.ladd, 1) := by decide +kernel
theorem dX2_ring_136 : decode cX2_ring 136 = .ok (.lload 13, 2) := by decide +kernel
theorem dX2_ring_138 : decode cX2_ring 138 = .ok (.lload 7, 2) := by decide +kernel
theorem dX2_ring_140 : decode cX2_ring 140 = .ok (.lmul, 1) := by decide +kernel
theorem dX2_ring_141 : decode cX2_ring 141 = .ok (.lload 15, 2) := by decide +kernel
theorem dX2_ring_143 : decode cX2_ring 143 = .ok (.lload 5, 2) := by decide +kernel
theorem dX2_ring_145 : decode cX2_ring 145 = .ok (.lmul, 1) := by decide +kernel
theorem dX2_ring_146 : decode cX2_ring 146 = .ok (.lsub, 1) := by decide +kernel
theorem dX2_ring_147 : decode cX2_ring 147 = .ok (.lmul, 1) := by decide +kernel
theorem dX2_ring_148 : decode cX2_ring 148 = .ok (.ladd, 1) := by decide +kernel
theorem dX2_ring_149 : decode cX2_ring 149 = .ok (.lload 13, 2) := by decide +kernel
theorem dX2_ring_151 : decode cX2_ring 151 = .ok (.lload 13, 2) := by decide +kernel
theorem dX2_ring_153 : decode cX2_ring 153 = .ok (.lmul, 1) := by decide +kernel
theorem dX2_ring_154 : decode cX2_ring 154 = .ok (.lload 15, 2) := by decide +kernel
theorem dX2_ring_156 : decode cX2_ring 156 = .ok (.lload 15, 2) := by decide +kernel
theorem dX2_ring_158 : decode cX2_ring 158 = .ok (.lmul, 1) := by decide +kernel
theorem dX2_ring_159 : decode cX2_ring 159 = .ok (.ladd, 1) := by decide +kernel
theorem dX2_ring_160 : decode cX2_ring 160 = .ok (.lload 5, 2) := by decide +kernel
theorem dX2_ring_162 : decode cX2_ring 162 = .ok (.lload 11, 2) := by decide +kernel
theorem dX2_ring_164 : decode cX2_ring 164 = .ok (.lmul, 1) := by decide +kernel
theorem dX2_ring_165 : decode cX2_ring 165 = .ok (.lload 7, 2) := by decide +kernel
theorem dX2_ring_167 : decode cX2_ring 167 = .ok (.lload 9, 2) := by decide +kernel
theorem dX2_ring_169 : decode cX2_ring 169 = .ok (.lmul, 1) := by decide +kernel
theorem dX2_ring_170 : decode cX2_ring 170 = .ok (.lsub, 1) := by decide +kernel
theorem dX2_ring_171 : decode cX2_ring 171 = .ok (.lmul, 1) := by decide +kernel
theorem dX2_ring_172 : decode cX2_ring 172 = .ok (.ladd, 1) := by decide +kernel
theorem dX2_ring_173 : decode cX2_ring 173 = .ok (.lstore 17, 2) := by decide +kernel
theorem dX2_ring_175 : decode cX2_ring 175 = .ok (.aload_n 0, 1) := by decide +kernel
theorem dX2_ring_176 : decode cX2_ring 176 = .ok (.iload_n 1, 1) := by decide +kernel
theorem dX2_ring_177 : decode cX2_ring 177 = .ok (.iload_n 2, 1) := by decide +kernel
theorem dX2_ring_178 : decode cX2_ring 178 = .ok (.iload_n 3, 1) := by decide +kernel
theorem dX2_ring_179 : decode cX2_ring 179 = .ok (.invokevirtual 37, 3) := by decide +kernel
theorem dX2_ring_182 : decode cX2_ring 182 = .ok (.lload 17, 2) := by decide +kernel
theorem dX2_ring_184 : decode cX2_ring 184 = .ok (.invokestatic 33, 3) := by decide +kernel
theorem dX2_ring_187 : decode cX2_ring 187 = .ok (.imul, 1) := by decide +kernel
theorem dX2_ring_188 : decode cX2_ring 188 = .ok (.ireturn, 1) := by decide +kernel
theorem dX2_distance_0 : decode cX2_distance 0 = .ok (.aload_n 0, 1) := by decide +kernel
theorem dX2_distance_1 : decode cX2_distance 1 = .ok (.getfield 9, 3) := by decide +kernel
theorem dX2_distance_4 : decode cX2_distance 4 = .ok (.iload_n 1, 1) := by decide +kernel
theorem dX2_distance_5 : decode cX2_distance 5 = .ok (.iaload, 1) := by decide +kernel
theorem dX2_distance_6 : decode cX2_distance 6 = .ok (.aload_n 0, 1) := by decide +kernel
theorem dX2_distance_7 : decode cX2_distance 7 = .ok (.getfield 9, 3) := by decide +kernel
theorem dX2_distance_10 : decode cX2_distance 10 = .ok (.iload_n 2, 1) := by decide +kernel
theorem dX2_distance_11 : decode cX2_distance 11 = .ok (.iaload, 1) := by decide +kernel
theorem dX2_distance_12 : decode cX2_distance 12 = .ok (.isub, 1) := by decide +kernel
theorem dX2_distance_13 : decode cX2_distance 13 = .ok (.i2l, 1) := by decide +kernel
theorem dX2_distance_14 : decode cX2_distance 14 = .ok (.lstore_n 3, 1) := by decide +kernel
theorem dX2_distance_15 : decode cX2_distance 15 = .ok (.aload_n 0, 1) := by decide +kernel
theorem dX2_distance_16 : decode cX2_distance 16 = .ok (.getfield 15, 3) := by decide +kernel
theorem dX2_distance_19 : decode cX2_distance 19 = .ok (.iload_n 1, 1) := by decide +kernel
theorem dX2_distance_20 : decode cX2_distance 20 = .ok (.iaload, 1) := by decide +kernel
theorem dX2_distance_21 : decode cX2_distance 21 = .ok (.aload_n 0, 1) := by decide +kernel
theorem dX2_distance_22 : decode cX2_distance 22 = .ok (.getfield 15, 3) := by decide +kernel
theorem dX2_distance_25 : decode cX2_distance 25 = .ok (.iload_n 2, 1) := by decide +kernel
theorem dX2_distance_26 : decode cX2_distance 26 = .ok (.iaload, 1) := by decide +kernel
theorem dX2_distance_27 : decode cX2_distance 27 = .ok (.isub, 1) := by decide +kernel
theorem dX2_distance_28 : decode cX2_distance 28 = .ok (.i2l, 1) := by decide +kernel
theorem dX2_distance_29 : decode cX2_distance 29 = .ok (.lstore 5, 2) := by decide +kernel
theorem dX2_distance_31 : decode cX2_distance 31 = .ok (.lload_n 3, 1) := by decide +kernel
theorem dX2_distance_32 : decode cX2_distance 32 = .ok (.lload_n 3, 1) := by decide +kernel
theorem dX2_distance_33 : decode cX2_distance 33 = .ok (.lmul, 1) := by decide +kernel
theorem dX2_distance_34 : decode cX2_distance 34 = .ok (.lload 5, 2) := by decide +kernel
theorem dX2_distance_36 : decode cX2_distance 36 = .ok (.lload 5, 2) := by decide +kernel
theorem dX2_distance_38 : decode cX2_distance 38 = .ok (.lmul, 1) := by decide +kernel
theorem dX2_distance_39 : decode cX2_distance 39 = .ok (.ladd, 1) := by decide +kernel
theorem dX2_distance_40 : decode cX2_distance 40 = .ok (.lreturn, 1) := by decide +kernel
theorem dX2_onSegment_0 : decode cX2_onSegment 0 = .ok (.aload_n 0, 1) := by decide +kernel
theorem dX2_onSegment_1 : decode cX2_onSegment 1 = .ok (.iload_n 1, 1) := by decide +kernel
theorem dX2_onSegment_2 : decode cX2_onSegment 2 = .ok (.iload_n 2, 1) := by decide +kernel
theorem dX2_onSegment_3 : decode cX2_onSegment 3 = .ok (.iload_n 3, 1) := by decide +kernel
theorem dX2_onSegment_4 : decode cX2_onSegment 4 = .ok (.invokevirtual 37, 3) := by decide +kernel
theorem dX2_onSegment_7 : decode cX2_onSegment 7 = .ok (.ifCond .ne 55, 3) := by decide +kernel
theorem dX2_onSegment_10 : decode cX2_onSegment 10 = .ok (.aload_n 0, 1) := by decide +kernel
theorem dX2_onSegment_11 : decode cX2_onSegment 11 = .ok (.getfield 9, 3) := by decide +kernel
theorem dX2_onSegment_14 : decode cX2_onSegment 14 = .ok (.iload_n 1, 1) := by decide +kernel
theorem dX2_onSegment_15 : decode cX2_onSegment 15 = .ok (.iaload, 1) := by decide +kernel
theorem dX2_onSegment_16 : decode cX2_onSegment 16 = .ok (.aload_n 0, 1) := by decide +kernel
theorem dX2_onSegment_17 : decode cX2_onSegment 17 = .ok (.getfield 9, 3) := by decide +kernel
theorem dX2_onSegment_20 : decode cX2_onSegment 20 = .ok (.iload_n 2, 1) := by decide +kernel
theorem dX2_onSegment_21 : decode cX2_onSegment 21 = .ok (.iaload, 1) := by decide +kernel
theorem dX2_onSegment_22 : decode cX2_onSegment 22 = .ok (.aload_n 0, 1) := by decide +kernel
theorem dX2_onSegment_23 : decode cX2_onSegment 23 = .ok (.getfield 9, 3) := by decide +kernel
theorem dX2_onSegment_26 : decode cX2_onSegment 26 = .ok (.iload_n 3, 1) := by decide +kernel
theorem dX2_onSegment_27 : decode cX2_onSegment 27 = .ok (.iaload, 1) := by decide +kernel
theorem dX2_onSegment_28 : decode cX2_onSegment 28 = .ok (.invokestatic 41, 3) := by decide +kernel
theorem dX2_onSegment_31 : decode cX2_onSegment 31 = .ok (.ifCond .eq 31, 3) := by decide +kernel
theorem dX2_onSegment_34 : decode cX2_onSegment 34 = .ok (.aload_n 0, 1) := by decide +kernel
theorem dX2_onSegment_35 : decode cX2_onSegment 35 = .ok (.getfield 15, 3) := by decide +kernel
theorem dX2_onSegment_38 : decode cX2_onSegment 38 = .ok (.iload_n 1, 1) := by decide +kernel
theorem dX2_onSegment_39 : decode cX2_onSegment 39 = .ok (.iaload, 1) := by decide +kernel
theorem dX2_onSegment_40 : decode cX2_onSegment 40 = .ok (.aload_n 0, 1) := by decide +kernel
theorem dX2_onSegment_41 : decode cX2_onSegment 41 = .ok (.getfield 15, 3) := by decide +kernel
theorem dX2_onSegment_44 : decode cX2_onSegment 44 = .ok (.iload_n 2, 1) := by decide +kernel
theorem dX2_onSegment_45 : decode cX2_onSegment 45 = .ok (.iaload, 1) := by decide +kernel
theorem dX2_onSegment_46 : decode cX2_onSegment 46 = .ok (.aload_n 0, 1) := by decide +kernel
theorem dX2_onSegment_47 : decode cX2_onSegment 47 = .ok (.getfield 15, 3) := by decide +kernel
theorem dX2_onSegment_50 : decode cX2_onSegment 50 = .ok (.iload_n 3, 1) := by decide +kernel
theorem dX2_onSegment_51 : decode cX2_onSegment 51 = .ok (.iaload, 1) := by decide +kernel
theorem dX2_onSegment_52 : decode cX2_onSegment 52 = .ok (.invokestatic 41, 3) := by decide +kernel
theorem dX2_onSegment_55 : decode cX2_onSegment 55 = .ok (.ifCond .eq 7, 3) := by decide +kernel
theorem dX2_onSegment_58 : decode cX2_onSegment 58 = .ok (.iconst 1, 1) := by decide +kernel
theorem dX2_onSegment_59 : decode cX2_onSegment 59 = .ok (.goto 4, 3) := by decide +kernel
theorem dX2_onSegment_62 : decode cX2_onSegment 62 = .ok (.iconst 0, 1) := by decide +kernel
theorem dX2_onSegment_63 : decode cX2_onSegment 63 = .ok (.ireturn, 1) := by decide +kernel
theorem dX2_sameDirection_0 : decode cX2_sameDirection 0 = .ok (.aload_n 0, 1) := by decide +kernel
theorem dX2_sameDirection_1 : decode cX2_sameDirection 1 = .ok (.getfield 9, 3) := by decide +kernel
theorem dX2_sameDirection_4 : decode cX2_sameDirection 4 = .ok (.iload_n 2, 1) := by decide +kernel
theorem dX2_sameDirection_5 : decode cX2_sameDirection 5 = .ok (.iaload, 1) := by decide +kernel
theorem dX2_sameDirection_6 : decode cX2_sameDirection 6 = .ok (.aload_n 0, 1) := by decide +kernel
theorem dX2_sameDirection_7 : decode cX2_sameDirection 7 = .ok (.getfield 9, 3) := by decide +kernel
theorem dX2_sameDirection_10 : decode cX2_sameDirection 10 = .ok (.iload_n 1, 1) := by decide +kernel
theorem dX2_sameDirection_11 : decode cX2_sameDirection 11 = .ok (.iaload, 1) := by decide +kernel
theorem dX2_sameDirection_12 : decode cX2_sameDirection 12 = .ok (.isub, 1) := by decide +kernel
theorem dX2_sameDirection_13 : decode cX2_sameDirection 13 = .ok (.i2l, 1) := by decide +kernel
theorem dX2_sameDirection_14 : decode cX2_sameDirection 14 = .ok (.aload_n 0, 1) := by decide +kernel
theorem dX2_sameDirection_15 : decode cX2_sameDirection 15 = .ok (.getfield 9, 3) := by decide +kernel
theorem dX2_sameDirection_18 : decode cX2_sameDirection 18 = .ok (.iload_n 3, 1) := by decide +kernel
theorem dX2_sameDirection_19 : decode cX2_sameDirection 19 = .ok (.iaload, 1) := by decide +kernel
theorem dX2_sameDirection_20 : decode cX2_sameDirection 20 = .ok (.aload_n 0, 1) := by decide +kernel
theorem dX2_sameDirection_21 : decode cX2_sameDirection 21 = .ok (.getfield 9, 3) := by decide +kernel
theorem dX2_sameDirection_24 : decode cX2_sameDirection 24 = .ok (.iload_n 1, 1) := by decide +kernel
theorem dX2_sameDirection_25 : decode cX2_sameDirection 25 = .ok (.iaload, 1) := by decide +kernel
theorem dX2_sameDirection_26 : decode cX2_sameDirection 26 = .ok (.isub, 1) := by decide +kernel
theorem dX2_sameDirection_27 : decode cX2_sameDirection 27 = .ok (.i2l, 1) := by decide +kernel
theorem dX2_sameDirection_28 : decode cX2_sameDirection 28 = .ok (.lmul, 1) := by decide +kernel
theorem dX2_sameDirection_29 : decode cX2_sameDirection 29 = .ok (.aload_n 0, 1) := by decide +kernel
theorem dX2_sameDirection_30 : decode cX2_sameDirection 30 = .ok (.getfield 15, 3) := by decide +kernel
theorem dX2_sameDirection_33 : decode cX2_sameDirection 33 = .ok (.iload_n 2, 1) := by decide +kernel
theorem dX2_sameDirection_34 : decode cX2_sameDirection 34 = .ok (.iaload, 1) := by decide +kernel
theorem dX2_sameDirection_35 : decode cX2_sameDirection 35 = .ok (.aload_n 0, 1) := by decide +kernel
theorem dX2_sameDirection_36 : decode cX2_sameDirection 36 = .ok (.getfield 15, 3) := by decide +kernel
theorem dX2_sameDirection_39 : decode cX2_sameDirection 39 = .ok (.iload_n 1, 1) := by decide +kernel
theorem dX2_sameDirection_40 : decode cX2_sameDirection 40 = .ok (.iaload, 1) := by decide +kernel
theorem dX2_sameDirection_41 : decode cX2_sameDirection 41 = .ok (.isub, 1) := by decide +kernel
theorem dX2_sameDirection_42 : decode cX2_sameDirection 42 = .ok (.i2l, 1) := by decide +kernel
theorem dX2_sameDirection_43 : decode cX2_sameDirection 43 = .ok (.aload_n 0, 1) := by decide +kernel
theorem dX2_sameDirection_44 : decode cX2_sameDirection 44 = .ok (.getfield 15, 3) := by decide +kernel
theorem dX2_sameDirection_47 : decode cX2_sameDirection 47 = .ok (.iload_n 3, 1) := by decide +kernel
theorem dX2_sameDirection_48 : decode cX2_sameDirection 48 = .ok (.iaload, 1) := by decide +kernel
theorem dX2_sameDirection_49 : decode cX2_sameDirection 49 = .ok (.aload_n 0, 1) := by decide +kernel
theorem dX2_sameDirection_50 : decode cX2_sameDirection 50 = .ok (.getfield 15, 3) := by decide +kernel
theorem dX2_sameDirection_53 : decode cX2_sameDirection 53 = .ok (.iload_n 1, 1) := by decide +kernel
theorem dX2_sameDirection_54 : decode cX2_sameDirection 54 = .ok (.iaload, 1) := by decide +kernel
theorem dX2_sameDirection_55 : decode cX2_sameDirection 55 = .ok (.isub, 1) := by decide +kernel
theorem dX2_sameDirection_56 : decode cX2_sameDirection 56 = .ok (.i2l, 1) := by decide +kernel
theorem dX2_sameDirection_57 : decode cX2_sameDirection 57 = .ok (.lmul, 1) := by decide +kernel
theorem dX2_sameDirection_58 : decode cX2_sameDirection 58 = .ok (.ladd, 1) := by decide +kernel
theorem dX2_sameDirection_59 : decode cX2_sameDirection 59 = .ok (.lstore 4, 2) := by decide +kernel
theorem dX2_sameDirection_61 : decode cX2_sameDirection 61 = .ok (.lload 4, 2) := by decide +kernel
theorem dX2_sameDirection_63 : decode cX2_sameDirection 63 = .ok (.lconst 0, 1) := by decide +kernel
theorem dX2_sameDirection_64 : decode cX2_sameDirection 64 = .ok (.lcmp, 1) := by decide +kernel
theorem dX2_sameDirection_65 : decode cX2_sameDirection 65 = .ok (.ifCond .le 17, 3) := by decide +kernel
theorem dX2_sameDirection_68 : decode cX2_sameDirection 68 = .ok (.aload_n 0, 1) := by decide +kernel
theorem dX2_sameDirection_69 : decode cX2_sameDirection 69 = .ok (.iload_n 1, 1) := by decide +kernel
theorem dX2_sameDirection_70 : decode cX2_sameDirection 70 = .ok (.iload_n 2, 1) := by decide +kernel
theorem dX2_sameDirection_71 : decode cX2_sameDirection 71 = .ok (.iload_n 3, 1) := by decide +kernel
theorem dX2_sameDirection_72 : decode cX2_sameDirection 72 = .ok (.invokevirtual 37, 3) := by decide +kernel
theorem dX2_sameDirection_75 : decode cX2_sameDirection 75 = .ok (.ifCond .ne 7, 3) := by decide +kernel
theorem dX2_sameDirection_78 : decode cX2_sameDirection 78 = .ok (.iconst 1, 1) := by decide +kernel
theorem dX2_sameDirection_79 : decode cX2_sameDirection 79 = .ok (.goto 4, 3) := by decide +kernel
theorem dX2_sameDirection_82 : decode cX2_sameDirection 82 = .ok (.iconst 0, 1) := by decide +kernel
theorem dX2_sameDirection_83 : decode cX2_sameDirection 83 = .ok (.ireturn, 1) := by decide +kernel
theorem dX2_liesAmong_0 : decode cX2_liesAmong 0 = .ok (.iload_n 2, 1) := by decide +kernel
theorem dX2_liesAmong_1 : decode cX2_liesAmong 1 = .ok (.iload_n 0, 1) := by decide +kernel
theorem dX2_liesAmong_2 : decode cX2_liesAmong 2 = .ok (.iload_n 1, 1) := by decide +kernel
theorem dX2_liesAmong_3 : decode cX2_liesAmong 3 = .ok (.invokestatic 45, 3) := by decide +kernel
theorem dX2_liesAmong_6 : decode cX2_liesAmong 6 = .ok (.if_icmp .lt 16, 3) := by decide +kernel
theorem dX2_liesAmong_9 : decode cX2_liesAmong 9 = .ok (.iload_n 2, 1) := by decide +kernel
theorem dX2_liesAmong_10 : decode cX2_liesAmong 10 = .ok (.iload_n 0, 1) := by decide +kernel
theorem dX2_liesAmong_11 : decode cX2_liesAmong 11 = .ok (.iload_n 1, 1) := by decide +kernel
theorem dX2_liesAmong_12 : decode cX2_liesAmong 12 = .ok (.invokestatic 50, 3) := by decide +kernel
theorem dX2_liesAmong_15 : decode cX2_liesAmong 15 = .ok (.if_icmp .gt 7, 3) := by decide +kernel
theorem dX2_liesAmong_18 : decode cX2_liesAmong 18 = .ok (.iconst 1, 1) := by decide +kernel
theorem dX2_liesAmong_19 : decode cX2_liesAmong 19 = .ok (.goto 4, 3) := by decide +kernel
theorem dX2_liesAmong_22 : decode cX2_liesAmong 22 = .ok (.iconst 0, 1) := by decide +kernel
theorem dX2_liesAmong_23 : decode cX2_liesAmong 23 = .ok (.ireturn, 1) := by decide +kernel
theorem dX3_init_0 : decode cX3_init 0 = .ok (.aload_n 0, 1) := by decide +kernel
theorem dX3_init_1 : decode cX3_init 1 = .ok (.invokespecial 1, 3) := by decide +kernel
theorem dX3_init_4 : decode cX3_init 4 = .ok (.aload_n 0, 1) := by decide +kernel
theorem dX3_init_5 : decode cX3_init 5 = .ok (.iconst 1, 1) := by decide +kernel
theorem dX3_init_6 : decode cX3_init 6 = .ok (.putfield 7, 3) := by decide +kernel
theorem dX3_init_9 : decode cX3_init 9 = .ok (.aload_n 0, 1) := by decide +kernel
theorem dX3_init_10 : decode cX3_init 10 = .ok (.iconst 0, 1) := by decide +kernel
theorem dX3_init_11 : decode cX3_init 11 = .ok (.putfield 13, 3) := by decide +kernel
theorem dX3_init_14 : decode cX3_init 14 = .ok (.aload_n 0, 1) := by decide +kernel
theorem dX3_init_15 : decode cX3_init 15 = .ok (.iconst 0, 1) := by decide +kernel
theorem dX3_init_16 : decode cX3_init 16 = .ok (.putfield 17, 3) := by decide +kernel
theorem dX3_init_19 : decode cX3_init 19 = .ok (.aload_n 0, 1) := by decide +kernel
theorem dX3_init_20 : decode cX3_init 20 = .ok (.iconst 0, 1) := by decide +kernel
theorem dX3_init_21 : decode cX3_init 21 = .ok (.putfield 20, 3) := by decide +kernel
theorem dX3_init_24 : decode cX3_init 24 = .ok (.aload_n 0, 1) := by decide +kernel
theorem dX3_init_25 : decode cX3_init 25 = .ok (.aload_n 1, 1) := by decide +kernel
theorem dX3_init_26 : decode cX3_init 26 = .ok (.putfield 23, 3) := by decide +kernel
theorem dX3_init_29 : decode cX3_init 29 = .ok (.return_, 1) := by decide +kernel
theorem dX3_note_0 : decode cX3_note 0 = .ok (.aload_n 0, 1) := by decide +kernel
theorem dX3_note_1 : decode cX3_note 1 = .ok (.getfield 7, 3) := by decide +kernel
theorem dX3_note_4 : decode cX3_note 4 = .ok (.ifCond .eq 20, 3) := by decide +kernel
theorem dX3_note_7 : decode cX3_note 7 = .ok (.iload_n 1, 1) := by decide +kernel
theorem dX3_note_8 : decode cX3_note 8 = .ok (.ifCond .eq 16, 3) := by decide +kernel
theorem dX3_note_11 : decode cX3_note 11 = .ok (.aload_n 0, 1) := by decide +kernel
theorem dX3_note_12 : decode cX3_note 12 = .ok (.dup, 1) := by decide +kernel
theorem dX3_note_13 : decode cX3_note 13 = .ok (.getfield 13, 3) := by decide +kernel
theorem dX3_note_16 : decode cX3_note 16 = .ok (.iconst 1, 1) := by decide +kernel
theorem dX3_note_17 : decode cX3_note 17 = .ok (.iadd, 1) := by decide +kernel
theorem dX3_note_18 : decode cX3_note 18 = .ok (.putfield 13, 3) := by decide +kernel
theorem dX3_note_21 : decode cX3_note 21 = .ok (.goto 13, 3) := by decide +kernel
theorem dX3_note_24 : decode cX3_note 24 = .ok (.aload_n 0, 1) := by decide +kernel
theorem dX3_note_25 : decode cX3_note 25 = .ok (.dup, 1) := by decide +kernel
theorem dX3_note_26 : decode cX3_note 26 = .ok (.getfield 17, 3) := by decide +kernel
theorem dX3_note_29 : decode cX3_note 29 = .ok (.iconst 1, 1) := by decide +kernel
theorem dX3_note_30 : decode cX3_note 30 = .ok (.iadd, 1) := by decide +kernel
theorem dX3_note_31 : decode cX3_note 31 = .ok (.putfield 17, 3) := by decide +kernel
theorem dX3_note_34 : decode cX3_note 34 = .ok (.iload_n 2, 1) := by decide +kernel
theorem dX3_note_35 : decode cX3_note 35 = .ok (.ifCond .ne 13, 3) := by decide +kernel
theorem dX3_note_38 : decode cX3_note 38 = .ok (.aload_n 0, 1) := by decide +kernel
theorem dX3_note_39 : decode cX3_note 39 = .ok (.dup, 1) := by decide +kernel
theorem dX3_note_40 : decode cX3_note 40 = .ok (.getfield 20, 3) := by decide +kernel
theorem dX3_note_43 : decode cX3_note 43 = .ok (.iconst 1, 1) := by decide +kernel
theorem dX3_note_44 : decode cX3_note 44 = .ok (.iadd, 1) := by decide +kernel
theorem dX3_note_45 : decode cX3_note 45 = .ok (.putfield 20, 3) := by decide +kernel
theorem dX3_note_48 : decode cX3_note 48 = .ok (.iload_n 2, 1) := by decide +kernel
theorem dX3_note_49 : decode cX3_note 49 = .ok (.ireturn, 1) := by decide +kernel
theorem dX3_decidesTurn_0 : decode cX3_decidesTurn 0 = .ok (.aload_n 0, 1) := by decide +kernel
theorem dX3_decidesTurn_1 : decode cX3_decidesTurn 1 = .ok (.iload_n 2, 1) := by decide +kernel
theorem dX3_decidesTurn_2 : decode cX3_decidesTurn 2 = .ok (.invokevirtual 27, 3) := by decide +kernel
theorem dX3_decidesTurn_5 : decode cX3_decidesTurn 5 = .ok (.aload_n 0, 1) := by decide +kernel
theorem dX3_decidesTurn_6 : decode cX3_decidesTurn 6 = .ok (.iload_n 1, 1) := by decide +kernel
theorem dX3_decidesTurn_7 : decode cX3_decidesTurn 7 = .ok (.invokevirtual 27, 3) := by decide +kernel
theorem dX3_decidesTurn_10 : decode cX3_decidesTurn 10 = .ok (.fsub, 1) := by decide +kernel
theorem dX3_decidesTurn_11 : decode cX3_decidesTurn 11 = .ok (.aload_n 0, 1) := by decide +kernel
theorem dX3_decidesTurn_12 : decode cX3_decidesTurn 12 = .ok (.iload_n 3, 1) := by decide +kernel
theorem dX3_decidesTurn_13 : decode cX3_decidesTurn 13 = .ok (.invokevirtual 31, 3) := by decide +kernel
theorem dX3_decidesTurn_16 : decode cX3_decidesTurn 16 = .ok (.aload_n 0, 1) := by decide +kernel
theorem dX3_decidesTurn_17 : decode cX3_decidesTurn 17 = .ok (.iload_n 1, 1) := by decide +kernel
theorem dX3_decidesTurn_18 : decode cX3_decidesTurn 18 = .ok (.invokevirtual 31, 3) := by decide +kernel
theorem dX3_decidesTurn_21 : decode cX3_decidesTurn 21 = .ok (.fsub, 1) := by decide +kernel
theorem dX3_decidesTurn_22 : decode cX3_decidesTurn 22 = .ok (.fmul, 1) := by decide +kernel
theorem dX3_decidesTurn_23 : decode cX3_decidesTurn 23 = .ok (.fstore 4, 2) := by decide +kernel
theorem dX3_decidesTurn_25 : decode cX3_decidesTurn 25 = .ok (.aload_n 0, 1) := by decide +kernel
theorem dX3_decidesTurn_26 : decode cX3_decidesTurn 26 = .ok (.iload_n 2, 1) := by decide +kernel
theorem dX3_decidesTurn_27 : decode cX3_decidesTurn 27 = .ok (.invokevirtual 31, 3) := by decide +kernel
theorem dX3_decidesTurn_30 : decode cX3_decidesTurn 30 = .ok (.aload_n 0, 1) := by decide +kernel
theorem dX3_decidesTurn_31 : decode cX3_decidesTurn 31 = .ok (.iload_n 1, 1) := by decide +kernel
theorem dX3_decidesTurn_32 : decode cX3_decidesTurn 32 = .ok (.invokevirtual 31, 3) := by decide +kernel
theorem dX3_decidesTurn_35 : decode cX3_decidesTurn 35 = .ok (.fsub, 1) := by decide +kernel
theorem dX3_decidesTurn_36 : decode cX3_decidesTurn 36 = .ok (.aload_n 0, 1) := by decide +kernel
theorem dX3_decidesTurn_37 : decode cX3_decidesTurn 37 = .ok (.iload_n 3, 1) := by decide +kernel
theorem dX3_decidesTurn_38 : decode cX3_decidesTurn 38 = .ok (.invokevirtual 27, 3) := by decide +kernel
theorem dX3_decidesTurn_41 : decode cX3_decidesTurn 41 = .ok (.aload_n 0, 1) := by decide +kernel
theorem dX3_decidesTurn_42 : decode cX3_decidesTurn 42 = .ok (.iload_n 1, 1) := by decide +kernel
theorem dX3_decidesTurn_43 : decode cX3_decidesTurn 43 = .ok (.invokevirtual 27, 3) := by decide +kernel
theorem dX3_decidesTurn_46 : decode cX3_decidesTurn 46 = .ok (.fsub, 1) := by decide +kernel
theorem dX3_decidesTurn_47 : decode cX3_decidesTurn 47 = .ok (.fmul, 1) := by decide +kernel
theorem dX3_decidesTurn_48 : decode cX3_decidesTurn 48 = .ok (.fstore 5, 2) := by decide +kernel
theorem dX3_decidesTurn_50 : decode cX3_decidesTurn 50 = .ok (.aload_n 0, 1) := by decide +kernel
theorem dX3_decidesTurn_51 : decode cX3_decidesTurn 51 = .ok (.iload_n 1, 1) := by decide +kernel
theorem dX3_decidesTurn_52 : decode cX3_decidesTurn 52 = .ok (.invokevirtual 34, 3) := by decide +kernel
theorem dX3_decidesTurn_55 : decode cX3_decidesTurn 55 = .ok (.aload_n 0, 1) := by decide +kernel
theorem dX3_decidesTurn_56 : decode cX3_decidesTurn 56 = .ok (.iload_n 2, 1) := by decide +kernel
theorem dX3_decidesTurn_57 : decode cX3_decidesTurn 57 = .ok (.invokevirtual 34, 3) := by decide +kernel
theorem dX3_decidesTurn_60 : decode cX3_decidesTurn 60 = .ok (.invokestatic 37, 3) := by decide +kernel
theorem dX3_decidesTurn_63 : decode cX3_decidesTurn 63 = .ok (.aload_n 0, 1) := by decide +kernel
theorem dX3_decidesTurn_64 : decode cX3_decidesTurn 64 = .ok (.iload_n 3, 1) := by decide +kernel
theorem dX3_decidesTurn_65 : decode cX3_decidesTurn 65 = .ok (.invokevirtual 34, 3) := by decide +kernel
theorem dX3_decidesTurn_68 : decode cX3_decidesTurn 68 = .ok (.invokestatic 37, 3) := by decide +kernel
theorem dX3_decidesTurn_71 : decode cX3_decidesTurn 71 = .ok (.fstore 6, 2) := by decide +kernel
theorem dX3_decidesTurn_73 : decode cX3_decidesTurn 73 = .ok (.fload 4, 2) := by decide +kernel
theorem dX3_decidesTurn_75 : decode cX3_decidesTurn 75 = .ok (.fload 5, 2) := by decide +kernel
theorem dX3_decidesTurn_77 : decode cX3_decidesTurn 77 = .ok (.fsub, 1) := by decide +kernel
theorem dX3_decidesTurn_78 : decode cX3_decidesTurn 78 = .ok (.invokestatic 41, 3) := by decide +kernel
theorem dX3_decidesTurn_81 : decode cX3_decidesTurn 81 = .ok (.fload 6, 2) := by decide +kernel
theorem dX3_decidesTurn_83 : decode cX3_decidesTurn 83 = .ok (.fload 6, 2) := by decide +kernel
theorem dX3_decidesTurn_85 : decode cX3_decidesTurn 85 = .ok (.fmul, 1) := by decide +kernel
theorem dX3_decidesTurn_86 : decode cX3_decidesTurn 86 = .ok (.ldc 45, 2) := by decide +kernel
theorem dX3_decidesTurn_88 : decode cX3_decidesTurn 88 = .ok (.fmul, 1) := by decide +kernel
theorem dX3_decidesTurn_89 : decode cX3_decidesTurn 89 = .ok (.fcmp .l, 1) := by decide +kernel
theorem dX3_decidesTurn_90 : decode cX3_decidesTurn 90 = .ok (.ifCond .le 7, 3) := by decide +kernel
theorem dX3_decidesTurn_93 : decode cX3_decidesTurn 93 = .ok (.iconst 1, 1) := by decide +kernel
theorem dX3_decidesTurn_94 : decode cX3_decidesTurn 94 = .ok (.goto 4, 3) := by decide +kernel
theorem dX3_decidesTurn_97 : decode cX3_decidesTurn 97 = .ok (.iconst 0, 1) := by decide +kernel
theorem dX3_decidesTurn_98 : decode cX3_decidesTurn 98 = .ok (.ireturn, 1) := by decide +kernel
theorem dX3_decidesRing_0 : decode cX3_decidesRing 0 = .ok (.aload_n 0, 1) := by decide +kernel
theorem dX3_decidesRing_1 : decode cX3_decidesRing 1 = .ok (.iload_n 1, 1) := by decide +kernel
theorem dX3_decidesRing_2 : decode cX3_decidesRing 2 = .ok (.invokevirtual 27, 3) := by decide +kernel
theorem dX3_decidesRing_5 : decode cX3_decidesRing 5 = .ok (.aload_n 0, 1) := by decide +kernel
theorem dX3_decidesRing_6 : decode cX3_decidesRing 6 = .ok (.iload 4, 2) := by decide +kernel
theorem dX3_decidesRing_8 : decode cX3_decidesRing 8 = .ok (.invokevirtual 27, 3) := by decide +kernel
theorem dX3_decidesRing_11 : decode cX3_decidesRing 11 = .ok (.fsub, 1) := by decide +kernel
theorem dX3_decidesRing_12 : decode cX3_decidesRing 12 = .ok (.fstore 5, 2) := by decide +kernel
theorem dX3_decidesRing_14 : decode cX3_decidesRing 14 = .ok (.aload_n 0, 1) := by decide +kernel
theorem dX3_decidesRing_15 : decode cX3_decidesRing 15 = .ok (.iload_n 1, 1) := by decide +kernel
theorem dX3_decidesRing_16 : decode cX3_decidesRing 16 = .ok (.invokevirtual 31, 3) := by decide +kernel
theorem dX3_decidesRing_19 : decode cX3_decidesRing 19 = .ok (.aload_n 0, 1) := by decide +kernel
theorem dX3_decidesRing_20 : decode cX3_decidesRing 20 = .ok (.iload 4, 2) := by decide +kernel
theorem dX3_decidesRing_22 : decode cX3_decidesRing 22 = .ok (.invokevirtual 31, 3) := by decide +kernel
theorem dX3_decidesRing_25 : decode cX3_decidesRing 25 = .ok (.fsub, 1) := by decide +kernel
theorem dX3_decidesRing_26 : decode cX3_decidesRing 26 = .ok (.fstore 6, 2) := by decide +kernel
theorem dX3_decidesRing_28 : decode cX3_decidesRing 28 = .ok (.aload_n 0, 1) := by decide +kernel
theorem dX3_decidesRing_29 : decode cX3_decidesRing 29 = .ok (.iload_n 2, 1) := by decide +kernel
theorem dX3_decidesRing_30 : decode cX3_decidesRing 30 = .ok (.invokevirtual 27, 3) := by decide +kernel
theorem dX3_decidesRing_33 : decode cX3_decidesRing 33 = .ok (.aload_n 0, 1) := by decide +kernel
theorem dX3_decidesRing_34 : decode cX3_decidesRing 34 = .ok (.iload 4, 2) := by decide +kernel
theorem dX3_decidesRing_36 : decode cX3_decidesRing 36 = .ok (.invokevirtual 27, 3) := by decide +kernel
theorem dX3_decidesRing_39 : decode cX3_decidesRing 39 = .ok (.fsub, 1) := by decide +kernel
theorem dX3_decidesRing_40 : decode cX3_decidesRing 40 = .ok (.fstore 7, 2) := by decide +kernel
theorem dX3_decidesRing_42 : decode cX3_decidesRing 42 = .ok (.aload_n 0, 1) := by decide +kernel
theorem dX3_decidesRing_43 : decode cX3_decidesRing 43 = .ok (.iload_n 2, 1) := by decide +kernel
theorem dX3_decidesRing_44 : decode cX3_decidesRing 44 = .ok (.invokevirtual 31, 3) := by decide +kernel
theorem dX3_decidesRing_47 : decode cX3_decidesRing 47 = .ok (.aload_n 0, 1) := by decide +kernel
theorem dX3_decidesRing_48 : decode cX3_decidesRing 48 = .ok (.iload 4, 2) := by decide +kernel
theorem dX3_decidesRing_50 : decode cX3_decidesRing 50 = .ok (.invokevirtual 31, 3) := by decide +kernel
theorem dX3_decidesRing_53 : decode cX3_decidesRing 53 = .ok (.fsub, 1) := by decide +kernel
theorem dX3_decidesRing_54 : decode cX3_decidesRing 54 = .ok (.fstore 8, 2) := by decide +kernel
theorem dX3_decidesRing_56 : decode cX3_decidesRing 56 = .ok (.aload_n 0, 1) := by decide +kernel
theorem dX3_decidesRing_57 : decode cX3_decidesRing 57 = .ok (.iload_n 3, 1) := by decide +kernel
theorem dX3_decidesRing_58 : decode cX3_decidesRing 58 = .ok (.invokevirtual 27, 3) := by decide +kernel
theorem dX3_decidesRing_61 : decode cX3_decidesRing 61 = .ok (.aload_n 0, 1) := by decide +kernel
theorem dX3_decidesRing_62 : decode cX3_decidesRing 62 = .ok (.iload 4, 2) := by decide +kernel
theorem dX3_decidesRing_64 : decode cX3_decidesRing 64 = .ok (.invokevirtual 27, 3) := by decide +kernel
theorem dX3_decidesRing_67 : decode cX3_decidesRing 67 = .ok (.fsub, 1) := by decide +kernel
theorem dX3_decidesRing_68 : decode cX3_decidesRing 68 = .ok (.fstore 9, 2) := by decide +kernel
theorem dX3_decidesRing_70 : decode cX3_decidesRing 70 = .ok (.aload_n 0, 1) := by decide +kernel
theorem dX3_decidesRing_71 : decode cX3_decidesRing 71 = .ok (.iload_n 3, 1) := by decide +kernel
theorem dX3_decidesRing_72 : decode cX3_decidesRing 72 = .ok (.invokevirtual 31, 3) := by decide +kernel
theorem dX3_decidesRing_75 : decode cX3_decidesRing 75 = .ok (.aload_n 0, 1) := by decide +kernel
theorem dX3_decidesRing_76 : decode cX3_decidesRing 76 = .ok (.iload 4, 2) := by decide +kernel
theorem dX3_decidesRing_78 : decode cX3_decidesRing 78 = .ok (.invokevirtual 31, 3) := by decide +kernel
theorem dX3_decidesRing_81 : decode cX3_decidesRing 81 = .ok (.fsub, 1) := by decide +kernel
theorem dX3_decidesRing_82 : decode cX3_decidesRing 82 = .ok (.fstore 10, 2) := by decide +kernel
theorem dX3_decidesRing_84 : decode cX3_decidesRing 84 = .ok (.fload 5, 2) := by decide +kernel
theorem dX3_decidesRing_86 : decode cX3_decidesRing 86 = .ok (.fload 5, 2) := by decide +kernel
theorem dX3_decidesRing_88 : decode cX3_decidesRing 88 = .ok (.fmul, 1) := by decide +kernel
theorem dX3_decidesRing_89 : decode cX3_decidesRing 89 = .ok (.fload 6, 2) := by decide +kernel
theorem dX3_decidesRing_91 : decode cX3_decidesRing 91 = .ok (.fload 6, 2) := by decide +kernel
theorem dX3_decidesRing_93 : decode cX3_decidesRing 93 = .ok (.fmul, 1) := by decide +kernel
theorem dX3_decidesRing_94 : decode cX3_decidesRing 94 = .ok (.fadd, 1) := by decide +kernel
theorem dX3_decidesRing_95 : decode cX3_decidesRing 95 = .ok (.fload 7, 2) := by decide +kernel
theorem dX3_decidesRing_97 : decode cX3_decidesRing 97 = .ok (.fload 10, 2) := by decide +kernel
theorem dX3_decidesRing_99 : decode cX3_decidesRing 99 = .ok (.fmul, 1) := by decide +kernel
theorem dX3_decidesRing_100 : decode cX3_decidesRing 100 = .ok (.fload 8, 2) := by decide +kernel
theorem dX3_decidesRing_102 : decode cX3_decidesRing 102 = .ok (.fload 9, 2) := by decide +kernel
theorem dX3_decidesRing_104 : decode cX3_decidesRing 104 = .ok (.fmul, 1) := by decide +kernel
theorem dX3_decidesRing_105 : decode cX3_decidesRing 105 = .ok (.fsub, 1) := by decide +kernel
theorem dX3_decidesRing_106 : decode cX3_decidesRing 106 = .ok (.fmul, 1) := by decide +kernel
theorem dX3_decidesRing_107 : decode cX3_decidesRing 107 = .ok (.fstore 11, 2) := by decide +kernel
theorem dX3_decidesRing_109 : decode cX3_decidesRing 109 = .ok (.fload 7, 2) := by decide +kernel
theorem dX3_decidesRing_111 : decode cX3_decidesRing 111 = .ok (.fload 7, 2) := by decide +kernel
theorem dX3_decidesRing_113 : decode cX3_decidesRing 113 = .ok (.fmul, 1) := by decide +kernel
theorem dX3_decidesRing_114 : decode cX3_decidesRing 114 = .ok (.fload 8, 2) := by decide +kernel
theorem dX3_decidesRing_116 : decode cX3_decidesRing 116 = .ok (.fload 8, 2) := by decide +kernel
theorem dX3_decidesRing_118 : decode cX3_decidesRing 118 = .ok (.fmul, 1) := by decide +kernel
theorem dX3_decidesRing_119 : decode cX3_decidesRing 119 = .ok (.fadd, 1) := by decide +kernel
theorem dX3_decidesRing_120 : decode cX3_decidesRing 120 = .ok (.fload 9, 2) := by decide +kernel
theorem dX3_decidesRing_122 : decode cX3_decidesRing 122 = .ok (.fload 6, 2) := by decide +kernel
theorem dX3_decidesRing_124 : decode cX3_decidesRing 124 = .ok (.fmul, 1) := by decide +kernel
theorem dX3_decidesRing_125 : decode cX3_decidesRing 125 = .ok (.fload 10, 2) := by decide +kernel
theorem dX3_decidesRing_127 : decode cX3_decidesRing 127 = .ok (.fload 5, 2) := by decide +kernel
theorem dX3_decidesRing_129 : decode cX3_decidesRing 129 = .ok (.fmul, 1) := by decide +kernel
theorem dX3_decidesRing_130 : decode cX3_decidesRing 130 = .ok (.fsub, 1) := by decide +kernel
theorem dX3_decidesRing_131 : decode cX3_decidesRing 131 = .ok (.fmul, 1) := by decide +kernel
theorem dX3_decidesRing_132 : decode cX3_decidesRing 132 = .ok (.fstore 12, 2) := by decide +kernel
theorem dX3_decidesRing_134 : decode cX3_decidesRing 134 = .ok (.fload 9, 2) := by decide +kernel
end
section
theorem dX3_decidesRing_136 : decode cX3_decidesRing 136 = .ok (.fload 9, 2) := by decide +kernel
theorem dX3_decidesRing_138 : decode cX3_decidesRing 138 = .ok (.fmul, 1) := by decide +kernel
theorem dX3_decidesRing_139 : decode cX3_decidesRing 139 = .ok (.fload 10, 2) := by decide +kernel
theorem dX3_decidesRing_141 : decode cX3_decidesRing 141 = .ok (.fload 10, 2) := by decide +kernel
theorem dX3_decidesRing_143 : decode cX3_decidesRing 143 = .ok (.fmul, 1) := by decide +kernel
theorem dX3_decidesRing_144 : decode cX3_decidesRing 144 = .ok (.fadd, 1) := by decide +kernel
theorem dX3_decidesRing_145 : decode cX3_decidesRing 145 = .ok (.fload 5, 2) := by decide +kernel
theorem dX3_decidesRing_147 : decode cX3_decidesRing 147 = .ok (.fload 8, 2) := by decide +kernel
theorem dX3_decidesRing_149 : decode cX3_decidesRing 149 = .ok (.fmul, 1) := by decide +kernel
theorem dX3_decidesRing_150 : decode cX3_decidesRing 150 = .ok (.fload 6, 2) := by decide +kernel
theorem dX3_decidesRing_152 : decode cX3_decidesRing 152 = .ok (.fload 7, 2) := by decide +kernel
theorem dX3_decidesRing_154 : decode cX3_decidesRing 154 = .ok (.fmul, 1) := by decide +kernel
theorem dX3_decidesRing_155 : decode cX3_decidesRing 155 = .ok (.fsub, 1) := by decide +kernel
theorem dX3_decidesRing_156 : decode cX3_decidesRing 156 = .ok (.fmul, 1) := by decide +kernel
theorem dX3_decidesRing_157 : decode cX3_decidesRing 157 = .ok (.fstore 13, 2) := by decide +kernel
theorem dX3_decidesRing_159 : decode cX3_decidesRing 159 = .ok (.aload_n 0, 1) := by decide +kernel
theorem dX3_decidesRing_160 : decode cX3_decidesRing 160 = .ok (.iload_n 1, 1) := by decide +kernel
theorem dX3_decidesRing_161 : decode cX3_decidesRing 161 = .ok (.invokevirtual 34, 3) := by decide +kernel
theorem dX3_decidesRing_164 : decode cX3_decidesRing 164 = .ok (.aload_n 0, 1) := by decide +kernel
theorem dX3_decidesRing_165 : decode cX3_decidesRing 165 = .ok (.iload_n 2, 1) := by decide +kernel
theorem dX3_decidesRing_166 : decode cX3_decidesRing 166 = .ok (.invokevirtual 34, 3) := by decide +kernel
theorem dX3_decidesRing_169 : decode cX3_decidesRing 169 = .ok (.invokestatic 37, 3) := by decide +kernel
theorem dX3_decidesRing_172 : decode cX3_decidesRing 172 = .ok (.aload_n 0, 1) := by decide +kernel
theorem dX3_decidesRing_173 : decode cX3_decidesRing 173 = .ok (.iload_n 3, 1) := by decide +kernel
theorem dX3_decidesRing_174 : decode cX3_decidesRing 174 = .ok (.invokevirtual 34, 3) := by decide +kernel
theorem dX3_decidesRing_177 : decode cX3_decidesRing 177 = .ok (.aload_n 0, 1) := by decide +kernel
theorem dX3_decidesRing_178 : decode cX3_decidesRing 178 = .ok (.iload 4, 2) := by decide +kernel
theorem dX3_decidesRing_180 : decode cX3_decidesRing 180 = .ok (.invokevirtual 34, 3) := by decide +kernel
theorem dX3_decidesRing_183 : decode cX3_decidesRing 183 = .ok (.invokestatic 37, 3) := by decide +kernel
theorem dX3_decidesRing_186 : decode cX3_decidesRing 186 = .ok (.invokestatic 37, 3) := by decide +kernel
theorem dX3_decidesRing_189 : decode cX3_decidesRing 189 = .ok (.fstore 14, 2) := by decide +kernel
theorem dX3_decidesRing_191 : decode cX3_decidesRing 191 = .ok (.fload 14, 2) := by decide +kernel
theorem dX3_decidesRing_193 : decode cX3_decidesRing 193 = .ok (.fload 14, 2) := by decide +kernel
theorem dX3_decidesRing_195 : decode cX3_decidesRing 195 = .ok (.fmul, 1) := by decide +kernel
theorem dX3_decidesRing_196 : decode cX3_decidesRing 196 = .ok (.fload 14, 2) := by decide +kernel
theorem dX3_decidesRing_198 : decode cX3_decidesRing 198 = .ok (.fload 14, 2) := by decide +kernel
theorem dX3_decidesRing_200 : decode cX3_decidesRing 200 = .ok (.fmul, 1) := by decide +kernel
theorem dX3_decidesRing_201 : decode cX3_decidesRing 201 = .ok (.fmul, 1) := by decide +kernel
theorem dX3_decidesRing_202 : decode cX3_decidesRing 202 = .ok (.ldc 46, 2) := by decide +kernel
theorem dX3_decidesRing_204 : decode cX3_decidesRing 204 = .ok (.fmul, 1) := by decide +kernel
theorem dX3_decidesRing_205 : decode cX3_decidesRing 205 = .ok (.fstore 15, 2) := by decide +kernel
theorem dX3_decidesRing_207 : decode cX3_decidesRing 207 = .ok (.fload 11, 2) := by decide +kernel
theorem dX3_decidesRing_209 : decode cX3_decidesRing 209 = .ok (.fload 12, 2) := by decide +kernel
theorem dX3_decidesRing_211 : decode cX3_decidesRing 211 = .ok (.fadd, 1) := by decide +kernel
theorem dX3_decidesRing_212 : decode cX3_decidesRing 212 = .ok (.fload 13, 2) := by decide +kernel
theorem dX3_decidesRing_214 : decode cX3_decidesRing 214 = .ok (.fadd, 1) := by decide +kernel
theorem dX3_decidesRing_215 : decode cX3_decidesRing 215 = .ok (.invokestatic 41, 3) := by decide +kernel
theorem dX3_decidesRing_218 : decode cX3_decidesRing 218 = .ok (.fload 15, 2) := by decide +kernel
theorem dX3_decidesRing_220 : decode cX3_decidesRing 220 = .ok (.fcmp .l, 1) := by decide +kernel
theorem dX3_decidesRing_221 : decode cX3_decidesRing 221 = .ok (.ifCond .le 7, 3) := by decide +kernel
theorem dX3_decidesRing_224 : decode cX3_decidesRing 224 = .ok (.iconst 1, 1) := by decide +kernel
theorem dX3_decidesRing_225 : decode cX3_decidesRing 225 = .ok (.goto 4, 3) := by decide +kernel
theorem dX3_decidesRing_228 : decode cX3_decidesRing 228 = .ok (.iconst 0, 1) := by decide +kernel
theorem dX3_decidesRing_229 : decode cX3_decidesRing 229 = .ok (.ireturn, 1) := by decide +kernel
theorem dX3_floatX_0 : decode cX3_floatX 0 = .ok (.aload_n 0, 1) := by decide +kernel
theorem dX3_floatX_1 : decode cX3_floatX 1 = .ok (.getfield 23, 3) := by decide +kernel
theorem dX3_floatX_4 : decode cX3_floatX 4 = .ok (.getfield 47, 3) := by decide +kernel
theorem dX3_floatX_7 : decode cX3_floatX 7 = .ok (.iload_n 1, 1) := by decide +kernel
theorem dX3_floatX_8 : decode cX3_floatX 8 = .ok (.iaload, 1) := by decide +kernel
theorem dX3_floatX_9 : decode cX3_floatX 9 = .ok (.i2f, 1) := by decide +kernel
theorem dX3_floatX_10 : decode cX3_floatX 10 = .ok (.ldc 53, 2) := by decide +kernel
theorem dX3_floatX_12 : decode cX3_floatX 12 = .ok (.fdiv, 1) := by decide +kernel
theorem dX3_floatX_13 : decode cX3_floatX 13 = .ok (.freturn, 1) := by decide +kernel
theorem dX3_floatY_0 : decode cX3_floatY 0 = .ok (.aload_n 0, 1) := by decide +kernel
theorem dX3_floatY_1 : decode cX3_floatY 1 = .ok (.getfield 23, 3) := by decide +kernel
theorem dX3_floatY_4 : decode cX3_floatY 4 = .ok (.getfield 54, 3) := by decide +kernel
theorem dX3_floatY_7 : decode cX3_floatY 7 = .ok (.iload_n 1, 1) := by decide +kernel
theorem dX3_floatY_8 : decode cX3_floatY 8 = .ok (.iaload, 1) := by decide +kernel
theorem dX3_floatY_9 : decode cX3_floatY 9 = .ok (.i2f, 1) := by decide +kernel
theorem dX3_floatY_10 : decode cX3_floatY 10 = .ok (.ldc 53, 2) := by decide +kernel
theorem dX3_floatY_12 : decode cX3_floatY 12 = .ok (.fdiv, 1) := by decide +kernel
theorem dX3_floatY_13 : decode cX3_floatY 13 = .ok (.freturn, 1) := by decide +kernel
theorem dX3_reach_0 : decode cX3_reach 0 = .ok (.aload_n 0, 1) := by decide +kernel
theorem dX3_reach_1 : decode cX3_reach 1 = .ok (.iload_n 1, 1) := by decide +kernel
theorem dX3_reach_2 : decode cX3_reach 2 = .ok (.invokevirtual 27, 3) := by decide +kernel
theorem dX3_reach_5 : decode cX3_reach 5 = .ok (.invokestatic 41, 3) := by decide +kernel
theorem dX3_reach_8 : decode cX3_reach 8 = .ok (.aload_n 0, 1) := by decide +kernel
theorem dX3_reach_9 : decode cX3_reach 9 = .ok (.iload_n 1, 1) := by decide +kernel
theorem dX3_reach_10 : decode cX3_reach 10 = .ok (.invokevirtual 31, 3) := by decide +kernel
theorem dX3_reach_13 : decode cX3_reach 13 = .ok (.invokestatic 41, 3) := by decide +kernel
theorem dX3_reach_16 : decode cX3_reach 16 = .ok (.invokestatic 37, 3) := by decide +kernel
theorem dX3_reach_19 : decode cX3_reach 19 = .ok (.freturn, 1) := by decide +kernel
theorem dX3_greater_0 : decode cX3_greater 0 = .ok (.fload_n 0, 1) := by decide +kernel
theorem dX3_greater_1 : decode cX3_greater 1 = .ok (.fload_n 1, 1) := by decide +kernel
theorem dX3_greater_2 : decode cX3_greater 2 = .ok (.fcmp .l, 1) := by decide +kernel
theorem dX3_greater_3 : decode cX3_greater 3 = .ok (.ifCond .lt 7, 3) := by decide +kernel
theorem dX3_greater_6 : decode cX3_greater 6 = .ok (.fload_n 0, 1) := by decide +kernel
theorem dX3_greater_7 : decode cX3_greater 7 = .ok (.goto 4, 3) := by decide +kernel
theorem dX3_greater_10 : decode cX3_greater 10 = .ok (.fload_n 1, 1) := by decide +kernel
theorem dX3_greater_11 : decode cX3_greater 11 = .ok (.freturn, 1) := by decide +kernel
theorem dX3_unsigned_0 : decode cX3_unsigned 0 = .ok (.fload_n 0, 1) := by decide +kernel
theorem dX3_unsigned_1 : decode cX3_unsigned 1 = .ok (.fconst 0, 1) := by decide +kernel
theorem dX3_unsigned_2 : decode cX3_unsigned 2 = .ok (.fcmp .g, 1) := by decide +kernel
theorem dX3_unsigned_3 : decode cX3_unsigned 3 = .ok (.ifCond .ge 8, 3) := by decide +kernel
theorem dX3_unsigned_6 : decode cX3_unsigned 6 = .ok (.fload_n 0, 1) := by decide +kernel
theorem dX3_unsigned_7 : decode cX3_unsigned 7 = .ok (.fneg, 1) := by decide +kernel
theorem dX3_unsigned_8 : decode cX3_unsigned 8 = .ok (.goto 4, 3) := by decide +kernel
theorem dX3_unsigned_11 : decode cX3_unsigned 11 = .ok (.fload_n 0, 1) := by decide +kernel
theorem dX3_unsigned_12 : decode cX3_unsigned 12 = .ok (.freturn, 1) := by decide +kernel
theorem dX4_init_0 : decode cX4_init 0 = .ok (.aload_n 0, 1) := by decide +kernel
theorem dX4_init_1 : decode cX4_init 1 = .ok (.invokespecial 3, 3) := by decide +kernel
theorem dX4_init_4 : decode cX4_init 4 = .ok (.aload_n 0, 1) := by decide +kernel
theorem dX4_init_5 : decode cX4_init 5 = .ok (.bipush 24, 2) := by decide +kernel
theorem dX4_init_7 : decode cX4_init 7 = .ok (.newarray .int, 2) := by decide +kernel
theorem dX4_init_9 : decode cX4_init 9 = .ok (.putfield 9, 3) := by decide +kernel
theorem dX4_init_12 : decode cX4_init 12 = .ok (.aload_n 0, 1) := by decide +kernel
theorem dX4_init_13 : decode cX4_init 13 = .ok (.iconst 0, 1) := by decide +kernel
theorem dX4_init_14 : decode cX4_init 14 = .ok (.putfield 15, 3) := by decide +kernel
theorem dX4_init_17 : decode cX4_init 17 = .ok (.aload_n 0, 1) := by decide +kernel
theorem dX4_init_18 : decode cX4_init 18 = .ok (.aload_n 1, 1) := by decide +kernel
theorem dX4_init_19 : decode cX4_init 19 = .ok (.putfield 19, 3) := by decide +kernel
theorem dX4_init_22 : decode cX4_init 22 = .ok (.return_, 1) := by decide +kernel
theorem dX4_resize_0 : decode cX4_resize 0 = .ok (.aload_n 0, 1) := by decide +kernel
theorem dX4_resize_1 : decode cX4_resize 1 = .ok (.getfield 15, 3) := by decide +kernel
theorem dX4_resize_4 : decode cX4_resize 4 = .ok (.istore_n 2, 1) := by decide +kernel
theorem dX4_resize_5 : decode cX4_resize 5 = .ok (.iconst 0, 1) := by decide +kernel
theorem dX4_resize_6 : decode cX4_resize 6 = .ok (.istore_n 3, 1) := by decide +kernel
theorem dX4_resize_7 : decode cX4_resize 7 = .ok (.iload_n 3, 1) := by decide +kernel
theorem dX4_resize_8 : decode cX4_resize 8 = .ok (.bipush 24, 2) := by decide +kernel
theorem dX4_resize_10 : decode cX4_resize 10 = .ok (.if_icmp .ge 16, 3) := by decide +kernel
theorem dX4_resize_13 : decode cX4_resize 13 = .ok (.aload_n 0, 1) := by decide +kernel
theorem dX4_resize_14 : decode cX4_resize 14 = .ok (.getfield 9, 3) := by decide +kernel
theorem dX4_resize_17 : decode cX4_resize 17 = .ok (.iload_n 3, 1) := by decide +kernel
theorem dX4_resize_18 : decode cX4_resize 18 = .ok (.iconst (-1), 1) := by decide +kernel
theorem dX4_resize_19 : decode cX4_resize 19 = .ok (.iastore, 1) := by decide +kernel
theorem dX4_resize_20 : decode cX4_resize 20 = .ok (.iinc 3 1, 3) := by decide +kernel
theorem dX4_resize_23 : decode cX4_resize 23 = .ok (.goto (-16), 3) := by decide +kernel
theorem dX4_resize_26 : decode cX4_resize 26 = .ok (.aload_n 0, 1) := by decide +kernel
theorem dX4_resize_27 : decode cX4_resize 27 = .ok (.iload_n 1, 1) := by decide +kernel
theorem dX4_resize_28 : decode cX4_resize 28 = .ok (.putfield 15, 3) := by decide +kernel
theorem dX4_resize_31 : decode cX4_resize 31 = .ok (.iload_n 2, 1) := by decide +kernel
theorem dX4_resize_32 : decode cX4_resize 32 = .ok (.ireturn, 1) := by decide +kernel
theorem dX4_hasPlace_0 : decode cX4_hasPlace 0 = .ok (.iload_n 1, 1) := by decide +kernel
theorem dX4_hasPlace_1 : decode cX4_hasPlace 1 = .ok (.ifCond .lt 15, 3) := by decide +kernel
theorem dX4_hasPlace_4 : decode cX4_hasPlace 4 = .ok (.iload_n 1, 1) := by decide +kernel
theorem dX4_hasPlace_5 : decode cX4_hasPlace 5 = .ok (.aload_n 0, 1) := by decide +kernel
theorem dX4_hasPlace_6 : decode cX4_hasPlace 6 = .ok (.getfield 15, 3) := by decide +kernel
theorem dX4_hasPlace_9 : decode cX4_hasPlace 9 = .ok (.if_icmp .ge 7, 3) := by decide +kernel
theorem dX4_hasPlace_12 : decode cX4_hasPlace 12 = .ok (.iconst 1, 1) := by decide +kernel
theorem dX4_hasPlace_13 : decode cX4_hasPlace 13 = .ok (.goto 4, 3) := by decide +kernel
theorem dX4_hasPlace_16 : decode cX4_hasPlace 16 = .ok (.iconst 0, 1) := by decide +kernel
theorem dX4_hasPlace_17 : decode cX4_hasPlace 17 = .ok (.ireturn, 1) := by decide +kernel
theorem dX4_put_0 : decode cX4_put 0 = .ok (.aload_n 0, 1) := by decide +kernel
theorem dX4_put_1 : decode cX4_put 1 = .ok (.getfield 9, 3) := by decide +kernel
theorem dX4_put_4 : decode cX4_put 4 = .ok (.iload_n 1, 1) := by decide +kernel
theorem dX4_put_5 : decode cX4_put 5 = .ok (.iaload, 1) := by decide +kernel
theorem dX4_put_6 : decode cX4_put 6 = .ok (.istore_n 3, 1) := by decide +kernel
theorem dX4_put_7 : decode cX4_put 7 = .ok (.aload_n 0, 1) := by decide +kernel
theorem dX4_put_8 : decode cX4_put 8 = .ok (.getfield 9, 3) := by decide +kernel
theorem dX4_put_11 : decode cX4_put 11 = .ok (.iload_n 1, 1) := by decide +kernel
theorem dX4_put_12 : decode cX4_put 12 = .ok (.iload_n 2, 1) := by decide +kernel
theorem dX4_put_13 : decode cX4_put 13 = .ok (.iastore, 1) := by decide +kernel
theorem dX4_put_14 : decode cX4_put 14 = .ok (.iload_n 3, 1) := by decide +kernel
theorem dX4_put_15 : decode cX4_put 15 = .ok (.ireturn, 1) := by decide +kernel
theorem dX4_fault_0 : decode cX4_fault 0 = .ok (.iload_n 1, 1) := by decide +kernel
theorem dX4_fault_1 : decode cX4_fault 1 = .ok (.iload_n 2, 1) := by decide +kernel
theorem dX4_fault_2 : decode cX4_fault 2 = .ok (.if_icmp .lt 11, 3) := by decide +kernel
theorem dX4_fault_5 : decode cX4_fault 5 = .ok (.iload_n 1, 1) := by decide +kernel
theorem dX4_fault_6 : decode cX4_fault 6 = .ok (.aload_n 0, 1) := by decide +kernel
theorem dX4_fault_7 : decode cX4_fault 7 = .ok (.getfield 15, 3) := by decide +kernel
theorem dX4_fault_10 : decode cX4_fault 10 = .ok (.if_icmp .le 6, 3) := by decide +kernel
theorem dX4_fault_13 : decode cX4_fault 13 = .ok (.bipush (-2), 2) := by decide +kernel
theorem dX4_fault_15 : decode cX4_fault 15 = .ok (.ireturn, 1) := by decide +kernel
theorem dX4_fault_16 : decode cX4_fault 16 = .ok (.iconst 0, 1) := by decide +kernel
theorem dX4_fault_17 : decode cX4_fault 17 = .ok (.istore_n 3, 1) := by decide +kernel
theorem dX4_fault_18 : decode cX4_fault 18 = .ok (.iload_n 3, 1) := by decide +kernel
theorem dX4_fault_19 : decode cX4_fault 19 = .ok (.iload_n 1, 1) := by decide +kernel
theorem dX4_fault_20 : decode cX4_fault 20 = .ok (.if_icmp .ge 22, 3) := by decide +kernel
theorem dX4_fault_23 : decode cX4_fault 23 = .ok (.aload_n 0, 1) := by decide +kernel
theorem dX4_fault_24 : decode cX4_fault 24 = .ok (.getfield 9, 3) := by decide +kernel
theorem dX4_fault_27 : decode cX4_fault 27 = .ok (.iload_n 3, 1) := by decide +kernel
theorem dX4_fault_28 : decode cX4_fault 28 = .ok (.iaload, 1) := by decide +kernel
theorem dX4_fault_29 : decode cX4_fault 29 = .ok (.iconst (-1), 1) := by decide +kernel
theorem dX4_fault_30 : decode cX4_fault 30 = .ok (.if_icmp .ne 6, 3) := by decide +kernel
theorem dX4_fault_33 : decode cX4_fault 33 = .ok (.bipush (-4), 2) := by decide +kernel
theorem dX4_fault_35 : decode cX4_fault 35 = .ok (.ireturn, 1) := by decide +kernel
theorem dX4_fault_36 : decode cX4_fault 36 = .ok (.iinc 3 1, 3) := by decide +kernel
theorem dX4_fault_39 : decode cX4_fault 39 = .ok (.goto (-21), 3) := by decide +kernel
theorem dX4_fault_42 : decode cX4_fault 42 = .ok (.iconst 0, 1) := by decide +kernel
theorem dX4_fault_43 : decode cX4_fault 43 = .ok (.ireturn, 1) := by decide +kernel
theorem dX4_endOf_0 : decode cX4_endOf 0 = .ok (.iload_n 1, 1) := by decide +kernel
theorem dX4_endOf_1 : decode cX4_endOf 1 = .ok (.iconst 1, 1) := by decide +kernel
theorem dX4_endOf_2 : decode cX4_endOf 2 = .ok (.iadd, 1) := by decide +kernel
theorem dX4_endOf_3 : decode cX4_endOf 3 = .ok (.iload_n 2, 1) := by decide +kernel
theorem dX4_endOf_4 : decode cX4_endOf 4 = .ok (.if_icmp .ge 14, 3) := by decide +kernel
theorem dX4_endOf_7 : decode cX4_endOf 7 = .ok (.aload_n 0, 1) := by decide +kernel
theorem dX4_endOf_8 : decode cX4_endOf 8 = .ok (.getfield 9, 3) := by decide +kernel
theorem dX4_endOf_11 : decode cX4_endOf 11 = .ok (.iload_n 1, 1) := by decide +kernel
theorem dX4_endOf_12 : decode cX4_endOf 12 = .ok (.iconst 1, 1) := by decide +kernel
theorem dX4_endOf_13 : decode cX4_endOf 13 = .ok (.iadd, 1) := by decide +kernel
theorem dX4_endOf_14 : decode cX4_endOf 14 = .ok (.iaload, 1) := by decide +kernel
theorem dX4_endOf_15 : decode cX4_endOf 15 = .ok (.goto 9, 3) := by decide +kernel
theorem dX4_endOf_18 : decode cX4_endOf 18 = .ok (.aload_n 0, 1) := by decide +kernel
theorem dX4_endOf_19 : decode cX4_endOf 19 = .ok (.getfield 9, 3) := by decide +kernel
theorem dX4_endOf_22 : decode cX4_endOf 22 = .ok (.iconst 0, 1) := by decide +kernel
theorem dX4_endOf_23 : decode cX4_endOf 23 = .ok (.iaload, 1) := by decide +kernel
theorem dX4_endOf_24 : decode cX4_endOf 24 = .ok (.ireturn, 1) := by decide +kernel
theorem dX4_convexity_0 : decode cX4_convexity 0 = .ok (.aload_n 0, 1) := by decide +kernel
theorem dX4_convexity_1 : decode cX4_convexity 1 = .ok (.iconst 0, 1) := by decide +kernel
theorem dX4_convexity_2 : decode cX4_convexity 2 = .ok (.iconst 2, 1) := by decide +kernel
theorem dX4_convexity_3 : decode cX4_convexity 3 = .ok (.iload_n 1, 1) := by decide +kernel
theorem dX4_convexity_4 : decode cX4_convexity 4 = .ok (.invokevirtual 23, 3) := by decide +kernel
theorem dX4_convexity_7 : decode cX4_convexity 7 = .ok (.istore_n 2, 1) := by decide +kernel
theorem dX4_convexity_8 : decode cX4_convexity 8 = .ok (.iconst 0, 1) := by decide +kernel
theorem dX4_convexity_9 : decode cX4_convexity 9 = .ok (.istore_n 3, 1) := by decide +kernel
theorem dX4_convexity_10 : decode cX4_convexity 10 = .ok (.iload_n 3, 1) := by decide +kernel
theorem dX4_convexity_11 : decode cX4_convexity 11 = .ok (.iload_n 1, 1) := by decide +kernel
theorem dX4_convexity_12 : decode cX4_convexity 12 = .ok (.if_icmp .ge 38, 3) := by decide +kernel
theorem dX4_convexity_15 : decode cX4_convexity 15 = .ok (.iconst 2, 1) := by decide +kernel
theorem dX4_convexity_16 : decode cX4_convexity 16 = .ok (.istore 4, 2) := by decide +kernel
theorem dX4_convexity_18 : decode cX4_convexity 18 = .ok (.iload 4, 2) := by decide +kernel
theorem dX4_convexity_20 : decode cX4_convexity 20 = .ok (.iload_n 1, 1) := by decide +kernel
theorem dX4_convexity_21 : decode cX4_convexity 21 = .ok (.if_icmp .ge 23, 3) := by decide +kernel
theorem dX4_convexity_24 : decode cX4_convexity 24 = .ok (.aload_n 0, 1) := by decide +kernel
theorem dX4_convexity_25 : decode cX4_convexity 25 = .ok (.iload_n 3, 1) := by decide +kernel
theorem dX4_convexity_26 : decode cX4_convexity 26 = .ok (.iload 4, 2) := by decide +kernel
theorem dX4_convexity_28 : decode cX4_convexity 28 = .ok (.iload_n 1, 1) := by decide +kernel
theorem dX4_convexity_29 : decode cX4_convexity 29 = .ok (.invokevirtual 23, 3) := by decide +kernel
theorem dX4_convexity_32 : decode cX4_convexity 32 = .ok (.iload_n 2, 1) := by decide +kernel
theorem dX4_convexity_33 : decode cX4_convexity 33 = .ok (.if_icmp .eq 5, 3) := by decide +kernel
theorem dX4_convexity_36 : decode cX4_convexity 36 = .ok (.iconst 0, 1) := by decide +kernel
theorem dX4_convexity_37 : decode cX4_convexity 37 = .ok (.ireturn, 1) := by decide +kernel
theorem dX4_convexity_38 : decode cX4_convexity 38 = .ok (.iinc 4 1, 3) := by decide +kernel
theorem dX4_convexity_41 : decode cX4_convexity 41 = .ok (.goto (-23), 3) := by decide +kernel
theorem dX4_convexity_44 : decode cX4_convexity 44 = .ok (.iinc 3 1, 3) := by decide +kernel
theorem dX4_convexity_47 : decode cX4_convexity 47 = .ok (.goto (-37), 3) := by decide +kernel
theorem dX4_convexity_50 : decode cX4_convexity 50 = .ok (.iload_n 2, 1) := by decide +kernel
theorem dX4_convexity_51 : decode cX4_convexity 51 = .ok (.ireturn, 1) := by decide +kernel
theorem dX4_sideOfOther_0 : decode cX4_sideOfOther 0 = .ok (.iload_n 1, 1) := by decide +kernel
theorem dX4_sideOfOther_1 : decode cX4_sideOfOther 1 = .ok (.iload_n 2, 1) := by decide +kernel
theorem dX4_sideOfOther_2 : decode cX4_sideOfOther 2 = .ok (.iadd, 1) := by decide +kernel
theorem dX4_sideOfOther_3 : decode cX4_sideOfOther 3 = .ok (.iload_n 3, 1) := by decide +kernel
theorem dX4_sideOfOther_4 : decode cX4_sideOfOther 4 = .ok (.if_icmp .ge 9, 3) := by decide +kernel
theorem dX4_sideOfOther_7 : decode cX4_sideOfOther 7 = .ok (.iload_n 1, 1) := by decide +kernel
theorem dX4_sideOfOther_8 : decode cX4_sideOfOther 8 = .ok (.iload_n 2, 1) := by decide +kernel
theorem dX4_sideOfOther_9 : decode cX4_sideOfOther 9 = .ok (.iadd, 1) := by decide +kernel
theorem dX4_sideOfOther_10 : decode cX4_sideOfOther 10 = .ok (.goto 8, 3) := by decide +kernel
theorem dX4_sideOfOther_13 : decode cX4_sideOfOther 13 = .ok (.iload_n 1, 1) := by decide +kernel
theorem dX4_sideOfOther_14 : decode cX4_sideOfOther 14 = .ok (.iload_n 2, 1) := by decide +kernel
theorem dX4_sideOfOther_15 : decode cX4_sideOfOther 15 = .ok (.iadd, 1) := by decide +kernel
theorem dX4_sideOfOther_16 : decode cX4_sideOfOther 16 = .ok (.iload_n 3, 1) := by decide +kernel
theorem dX4_sideOfOther_17 : decode cX4_sideOfOther 17 = .ok (.isub, 1) := by decide +kernel
theorem dX4_sideOfOther_18 : decode cX4_sideOfOther 18 = .ok (.istore 4, 2) := by decide +kernel
theorem dX4_sideOfOther_20 : decode cX4_sideOfOther 20 = .ok (.aload_n 0, 1) := by decide +kernel
theorem dX4_sideOfOther_21 : decode cX4_sideOfOther 21 = .ok (.getfield 19, 3) := by decide +kernel
theorem dX4_sideOfOther_24 : decode cX4_sideOfOther 24 = .ok (.aload_n 0, 1) := by decide +kernel
theorem dX4_sideOfOther_25 : decode cX4_sideOfOther 25 = .ok (.getfield 9, 3) := by decide +kernel
theorem dX4_sideOfOther_28 : decode cX4_sideOfOther 28 = .ok (.iload_n 1, 1) := by decide +kernel
theorem dX4_sideOfOther_29 : decode cX4_sideOfOther 29 = .ok (.iaload, 1) := by decide +kernel
theorem dX4_sideOfOther_30 : decode cX4_sideOfOther 30 = .ok (.aload_n 0, 1) := by decide +kernel
theorem dX4_sideOfOther_31 : decode cX4_sideOfOther 31 = .ok (.iload_n 1, 1) := by decide +kernel
theorem dX4_sideOfOther_32 : decode cX4_sideOfOther 32 = .ok (.iload_n 3, 1) := by decide +kernel
theorem dX4_sideOfOther_33 : decode cX4_sideOfOther 33 = .ok (.invokevirtual 27, 3) := by decide +kernel
theorem dX4_sideOfOther_36 : decode cX4_sideOfOther 36 = .ok (.aload_n 0, 1) := by decide +kernel
theorem dX4_sideOfOther_37 : decode cX4_sideOfOther 37 = .ok (.getfield 9, 3) := by decide +kernel
theorem dX4_sideOfOther_40 : decode cX4_sideOfOther 40 = .ok (.iload 4, 2) := by decide +kernel
theorem dX4_sideOfOther_42 : decode cX4_sideOfOther 42 = .ok (.iaload, 1) := by decide +kernel
theorem dX4_sideOfOther_43 : decode cX4_sideOfOther 43 = .ok (.invokevirtual 31, 3) := by decide +kernel
theorem dX4_sideOfOther_46 : decode cX4_sideOfOther 46 = .ok (.ireturn, 1) := by decide +kernel
theorem dX4_anyEdgeHolds_0 : decode cX4_anyEdgeHolds 0 = .ok (.iconst 0, 1) := by decide +kernel
theorem dX4_anyEdgeHolds_1 : decode cX4_anyEdgeHolds 1 = .ok (.istore_n 3, 1) := by decide +kernel
theorem dX4_anyEdgeHolds_2 : decode cX4_anyEdgeHolds 2 = .ok (.iload_n 3, 1) := by decide +kernel
theorem dX4_anyEdgeHolds_3 : decode cX4_anyEdgeHolds 3 = .ok (.iload_n 1, 1) := by decide +kernel
theorem dX4_anyEdgeHolds_4 : decode cX4_anyEdgeHolds 4 = .ok (.if_icmp .ge 34, 3) := by decide +kernel
theorem dX4_anyEdgeHolds_7 : decode cX4_anyEdgeHolds 7 = .ok (.aload_n 0, 1) := by decide +kernel
theorem dX4_anyEdgeHolds_8 : decode cX4_anyEdgeHolds 8 = .ok (.getfield 19, 3) := by decide +kernel
theorem dX4_anyEdgeHolds_11 : decode cX4_anyEdgeHolds 11 = .ok (.aload_n 0, 1) := by decide +kernel
theorem dX4_anyEdgeHolds_12 : decode cX4_anyEdgeHolds 12 = .ok (.getfield 9, 3) := by decide +kernel
theorem dX4_anyEdgeHolds_15 : decode cX4_anyEdgeHolds 15 = .ok (.iload_n 3, 1) := by decide +kernel
theorem dX4_anyEdgeHolds_16 : decode cX4_anyEdgeHolds 16 = .ok (.iaload, 1) := by decide +kernel
theorem dX4_anyEdgeHolds_17 : decode cX4_anyEdgeHolds 17 = .ok (.aload_n 0, 1) := by decide +kernel
theorem dX4_anyEdgeHolds_18 : decode cX4_anyEdgeHolds 18 = .ok (.iload_n 3, 1) := by decide +kernel
theorem dX4_anyEdgeHolds_19 : decode cX4_anyEdgeHolds 19 = .ok (.iload_n 1, 1) := by decide +kernel
theorem dX4_anyEdgeHolds_20 : decode cX4_anyEdgeHolds 20 = .ok (.invokevirtual 27, 3) := by decide +kernel
theorem dX4_anyEdgeHolds_23 : decode cX4_anyEdgeHolds 23 = .ok (.iload_n 2, 1) := by decide +kernel
theorem dX4_anyEdgeHolds_24 : decode cX4_anyEdgeHolds 24 = .ok (.invokevirtual 36, 3) := by decide +kernel
theorem dX4_anyEdgeHolds_27 : decode cX4_anyEdgeHolds 27 = .ok (.ifCond .eq 5, 3) := by decide +kernel
theorem dX4_anyEdgeHolds_30 : decode cX4_anyEdgeHolds 30 = .ok (.iconst 1, 1) := by decide +kernel
theorem dX4_anyEdgeHolds_31 : decode cX4_anyEdgeHolds 31 = .ok (.ireturn, 1) := by decide +kernel
theorem dX4_anyEdgeHolds_32 : decode cX4_anyEdgeHolds 32 = .ok (.iinc 3 1, 3) := by decide +kernel
theorem dX4_anyEdgeHolds_35 : decode cX4_anyEdgeHolds 35 = .ok (.goto (-33), 3) := by decide +kernel
theorem dX4_anyEdgeHolds_38 : decode cX4_anyEdgeHolds 38 = .ok (.iconst 0, 1) := by decide +kernel
theorem dX4_anyEdgeHolds_39 : decode cX4_anyEdgeHolds 39 = .ok (.ireturn, 1) := by decide +kernel
theorem dX4_risesAt_0 : decode cX4_risesAt 0 = .ok (.iconst 0, 1) := by decide +kernel
theorem dX4_risesAt_1 : decode cX4_risesAt 1 = .ok (.istore_n 3, 1) := by decide +kernel
theorem dX4_risesAt_2 : decode cX4_risesAt 2 = .ok (.iconst 0, 1) := by decide +kernel
theorem dX4_risesAt_3 : decode cX4_risesAt 3 = .ok (.istore 4, 2) := by decide +kernel
theorem dX4_risesAt_5 : decode cX4_risesAt 5 = .ok (.iload 4, 2) := by decide +kernel
theorem dX4_risesAt_7 : decode cX4_risesAt 7 = .ok (.iload_n 1, 1) := by decide +kernel
theorem dX4_risesAt_8 : decode cX4_risesAt 8 = .ok (.if_icmp .ge 34, 3) := by decide +kernel
theorem dX4_risesAt_11 : decode cX4_risesAt 11 = .ok (.aload_n 0, 1) := by decide +kernel
theorem dX4_risesAt_12 : decode cX4_risesAt 12 = .ok (.aload_n 0, 1) := by decide +kernel
theorem dX4_risesAt_13 : decode cX4_risesAt 13 = .ok (.getfield 9, 3) := by decide +kernel
theorem dX4_risesAt_16 : decode cX4_risesAt 16 = .ok (.iload 4, 2) := by decide +kernel
theorem dX4_risesAt_18 : decode cX4_risesAt 18 = .ok (.iaload, 1) := by decide +kernel
theorem dX4_risesAt_19 : decode cX4_risesAt 19 = .ok (.aload_n 0, 1) := by decide +kernel
theorem dX4_risesAt_20 : decode cX4_risesAt 20 = .ok (.iload 4, 2) := by decide +kernel
theorem dX4_risesAt_22 : decode cX4_risesAt 22 = .ok (.iload_n 1, 1) := by decide +kernel
theorem dX4_risesAt_23 : decode cX4_risesAt 23 = .ok (.invokevirtual 27, 3) := by decide +kernel
theorem dX4_risesAt_26 : decode cX4_risesAt 26 = .ok (.iload_n 2, 1) := by decide +kernel
theorem dX4_risesAt_27 : decode cX4_risesAt 27 = .ok (.invokevirtual 40, 3) := by decide +kernel
theorem dX4_risesAt_30 : decode cX4_risesAt 30 = .ok (.ifCond .eq 6, 3) := by decide +kernel
theorem dX4_risesAt_33 : decode cX4_risesAt 33 = .ok (.iinc 3 1, 3) := by decide +kernel
theorem dX4_risesAt_36 : decode cX4_risesAt 36 = .ok (.iinc 4 1, 3) := by decide +kernel
theorem dX4_risesAt_39 : decode cX4_risesAt 39 = .ok (.goto (-34), 3) := by decide +kernel
theorem dX4_risesAt_42 : decode cX4_risesAt 42 = .ok (.iload_n 3, 1) := by decide +kernel
theorem dX4_risesAt_43 : decode cX4_risesAt 43 = .ok (.ireturn, 1) := by decide +kernel
theorem dX4_fallsAt_0 : decode cX4_fallsAt 0 = .ok (.iconst 0, 1) := by decide +kernel
theorem dX4_fallsAt_1 : decode cX4_fallsAt 1 = .ok (.istore_n 3, 1) := by decide +kernel
theorem dX4_fallsAt_2 : decode cX4_fallsAt 2 = .ok (.iconst 0, 1) := by decide +kernel
theorem dX4_fallsAt_3 : decode cX4_fallsAt 3 = .ok (.istore 4, 2) := by decide +kernel
theorem dX4_fallsAt_5 : decode cX4_fallsAt 5 = .ok (.iload 4, 2) := by decide +kernel
theorem dX4_fallsAt_7 : decode cX4_fallsAt 7 = .ok (.iload_n 1, 1) := by decide +kernel
theorem dX4_fallsAt_8 : decode cX4_fallsAt 8 = .ok (.if_icmp .ge 34, 3) := by decide +kernel
theorem dX4_fallsAt_11 : decode cX4_fallsAt 11 = .ok (.aload_n 0, 1) := by decide +kernel
theorem dX4_fallsAt_12 : decode cX4_fallsAt 12 = .ok (.aload_n 0, 1) := by decide +kernel
theorem dX4_fallsAt_13 : decode cX4_fallsAt 13 = .ok (.iload 4, 2) := by decide +kernel
theorem dX4_fallsAt_15 : decode cX4_fallsAt 15 = .ok (.iload_n 1, 1) := by decide +kernel
theorem dX4_fallsAt_16 : decode cX4_fallsAt 16 = .ok (.invokevirtual 27, 3) := by decide +kernel
theorem dX4_fallsAt_19 : decode cX4_fallsAt 19 = .ok (.aload_n 0, 1) := by decide +kernel
theorem dX4_fallsAt_20 : decode cX4_fallsAt 20 = .ok (.getfield 9, 3) := by decide +kernel
theorem dX4_fallsAt_23 : decode cX4_fallsAt 23 = .ok (.iload 4, 2) := by decide +kernel
theorem dX4_fallsAt_25 : decode cX4_fallsAt 25 = .ok (.iaload, 1) := by decide +kernel
theorem dX4_fallsAt_26 : decode cX4_fallsAt 26 = .ok (.iload_n 2, 1) := by decide +kernel
theorem dX4_fallsAt_27 : decode cX4_fallsAt 27 = .ok (.invokevirtual 40, 3) := by decide +kernel
theorem dX4_fallsAt_30 : decode cX4_fallsAt 30 = .ok (.ifCond .eq 6, 3) := by decide +kernel
theorem dX4_fallsAt_33 : decode cX4_fallsAt 33 = .ok (.iinc 3 1, 3) := by decide +kernel
theorem dX4_fallsAt_36 : decode cX4_fallsAt 36 = .ok (.iinc 4 1, 3) := by decide +kernel
theorem dX4_fallsAt_39 : decode cX4_fallsAt 39 = .ok (.goto (-34), 3) := by decide +kernel
theorem dX4_fallsAt_42 : decode cX4_fallsAt 42 = .ok (.iload_n 3, 1) := by decide +kernel
theorem dX4_fallsAt_43 : decode cX4_fallsAt 43 = .ok (.ireturn, 1) := by decide +kernel
theorem dX4_climbsBeside_0 : decode cX4_climbsBeside 0 = .ok (.aload_n 0, 1) := by decide +kernel
theorem dX4_climbsBeside_1 : decode cX4_climbsBeside 1 = .ok (.getfield 19, 3) := by decide +kernel
theorem dX4_climbsBeside_4 : decode cX4_climbsBeside 4 = .ok (.getfield 43, 3) := by decide +kernel
theorem dX4_climbsBeside_7 : decode cX4_climbsBeside 7 = .ok (.iload_n 3, 1) := by decide +kernel
theorem dX4_climbsBeside_8 : decode cX4_climbsBeside 8 = .ok (.iaload, 1) := by decide +kernel
theorem dX4_climbsBeside_9 : decode cX4_climbsBeside 9 = .ok (.istore 4, 2) := by decide +kernel
theorem dX4_climbsBeside_11 : decode cX4_climbsBeside 11 = .ok (.aload_n 0, 1) := by decide +kernel
theorem dX4_climbsBeside_12 : decode cX4_climbsBeside 12 = .ok (.getfield 19, 3) := by decide +kernel
theorem dX4_climbsBeside_15 : decode cX4_climbsBeside 15 = .ok (.getfield 43, 3) := by decide +kernel
theorem dX4_climbsBeside_18 : decode cX4_climbsBeside 18 = .ok (.iload_n 1, 1) := by decide +kernel
theorem dX4_climbsBeside_19 : decode cX4_climbsBeside 19 = .ok (.iaload, 1) := by decide +kernel
theorem dX4_climbsBeside_20 : decode cX4_climbsBeside 20 = .ok (.iload 4, 2) := by decide +kernel
theorem dX4_climbsBeside_22 : decode cX4_climbsBeside 22 = .ok (.if_icmp .gt 35, 3) := by decide +kernel
theorem dX4_climbsBeside_25 : decode cX4_climbsBeside 25 = .ok (.aload_n 0, 1) := by decide +kernel
theorem dX4_climbsBeside_26 : decode cX4_climbsBeside 26 = .ok (.getfield 19, 3) := by decide +kernel
theorem dX4_climbsBeside_29 : decode cX4_climbsBeside 29 = .ok (.getfield 43, 3) := by decide +kernel
theorem dX4_climbsBeside_32 : decode cX4_climbsBeside 32 = .ok (.iload_n 2, 1) := by decide +kernel
theorem dX4_climbsBeside_33 : decode cX4_climbsBeside 33 = .ok (.iaload, 1) := by decide +kernel
theorem dX4_climbsBeside_34 : decode cX4_climbsBeside 34 = .ok (.iload 4, 2) := by decide +kernel
theorem dX4_climbsBeside_36 : decode cX4_climbsBeside 36 = .ok (.if_icmp .le 21, 3) := by decide +kernel
theorem dX4_climbsBeside_39 : decode cX4_climbsBeside 39 = .ok (.aload_n 0, 1) := by decide +kernel
theorem dX4_climbsBeside_40 : decode cX4_climbsBeside 40 = .ok (.getfield 19, 3) := by decide +kernel
theorem dX4_climbsBeside_43 : decode cX4_climbsBeside 43 = .ok (.iload_n 1, 1) := by decide +kernel
theorem dX4_climbsBeside_44 : decode cX4_climbsBeside 44 = .ok (.iload_n 2, 1) := by decide +kernel
theorem dX4_climbsBeside_45 : decode cX4_climbsBeside 45 = .ok (.iload_n 3, 1) := by decide +kernel
theorem dX4_climbsBeside_46 : decode cX4_climbsBeside 46 = .ok (.invokevirtual 31, 3) := by decide +kernel
theorem dX4_climbsBeside_49 : decode cX4_climbsBeside 49 = .ok (.iconst 1, 1) := by decide +kernel
theorem dX4_climbsBeside_50 : decode cX4_climbsBeside 50 = .ok (.if_icmp .ne 7, 3) := by decide +kernel
theorem dX4_climbsBeside_53 : decode cX4_climbsBeside 53 = .ok (.iconst 1, 1) := by decide +kernel
theorem dX4_climbsBeside_54 : decode cX4_climbsBeside 54 = .ok (.goto 4, 3) := by decide +kernel
theorem dX4_climbsBeside_57 : decode cX4_climbsBeside 57 = .ok (.iconst 0, 1) := by decide +kernel
theorem dX4_climbsBeside_58 : decode cX4_climbsBeside 58 = .ok (.ireturn, 1) := by decide +kernel
theorem dX4_nearestBits_0 : decode cX4_nearestBits 0 = .ok (.aload_n 0, 1) := by decide +kernel
theorem dX4_nearestBits_1 : decode cX4_nearestBits 1 = .ok (.getfield 19, 3) := by decide +kernel
theorem dX4_nearestBits_4 : decode cX4_nearestBits 4 = .ok (.iload_n 1, 1) := by decide +kernel
theorem dX4_nearestBits_5 : decode cX4_nearestBits 5 = .ok (.aload_n 0, 1) := by decide +kernel
theorem dX4_nearestBits_6 : decode cX4_nearestBits 6 = .ok (.getfield 9, 3) := by decide +kernel
theorem dX4_nearestBits_9 : decode cX4_nearestBits 9 = .ok (.iconst 0, 1) := by decide +kernel
theorem dX4_nearestBits_10 : decode cX4_nearestBits 10 = .ok (.iaload, 1) := by decide +kernel
theorem dX4_nearestBits_11 : decode cX4_nearestBits 11 = .ok (.invokevirtual 46, 3) := by decide +kernel
theorem dX4_nearestBits_14 : decode cX4_nearestBits 14 = .ok (.lstore_n 3, 1) := by decide +kernel
theorem dX4_nearestBits_15 : decode cX4_nearestBits 15 = .ok (.iconst 0, 1) := by decide +kernel
theorem dX4_nearestBits_16 : decode cX4_nearestBits 16 = .ok (.istore 5, 2) := by decide +kernel
theorem dX4_nearestBits_18 : decode cX4_nearestBits 18 = .ok (.iconst 0, 1) := by decide +kernel
theorem dX4_nearestBits_19 : decode cX4_nearestBits 19 = .ok (.istore 6, 2) := by decide +kernel
theorem dX4_nearestBits_21 : decode cX4_nearestBits 21 = .ok (.iload 6, 2) := by decide +kernel
theorem dX4_nearestBits_23 : decode cX4_nearestBits 23 = .ok (.iload_n 2, 1) := by decide +kernel
theorem dX4_nearestBits_24 : decode cX4_nearestBits 24 = .ok (.if_icmp .ge 55, 3) := by decide +kernel
theorem dX4_nearestBits_27 : decode cX4_nearestBits 27 = .ok (.aload_n 0, 1) := by decide +kernel
theorem dX4_nearestBits_28 : decode cX4_nearestBits 28 = .ok (.getfield 19, 3) := by decide +kernel
theorem dX4_nearestBits_31 : decode cX4_nearestBits 31 = .ok (.iload_n 1, 1) := by decide +kernel
theorem dX4_nearestBits_32 : decode cX4_nearestBits 32 = .ok (.aload_n 0, 1) := by decide +kernel
theorem dX4_nearestBits_33 : decode cX4_nearestBits 33 = .ok (.getfield 9, 3) := by decide +kernel
theorem dX4_nearestBits_36 : decode cX4_nearestBits 36 = .ok (.iload 6, 2) := by decide +kernel
theorem dX4_nearestBits_38 : decode cX4_nearestBits 38 = .ok (.iaload, 1) := by decide +kernel
theorem dX4_nearestBits_39 : decode cX4_nearestBits 39 = .ok (.invokevirtual 46, 3) := by decide +kernel
theorem dX4_nearestBits_42 : decode cX4_nearestBits 42 = .ok (.lstore 7, 2) := by decide +kernel
theorem dX4_nearestBits_44 : decode cX4_nearestBits 44 = .ok (.lload 7, 2) := by decide +kernel
theorem dX4_nearestBits_46 : decode cX4_nearestBits 46 = .ok (.lload_n 3, 1) := by decide +kernel
theorem dX4_nearestBits_47 : decode cX4_nearestBits 47 = .ok (.lcmp, 1) := by decide +kernel
theorem dX4_nearestBits_48 : decode cX4_nearestBits 48 = .ok (.ifCond .ge 9, 3) := by decide +kernel
theorem dX4_nearestBits_51 : decode cX4_nearestBits 51 = .ok (.lload 7, 2) := by decide +kernel
theorem dX4_nearestBits_53 : decode cX4_nearestBits 53 = .ok (.lstore_n 3, 1) := by decide +kernel
theorem dX4_nearestBits_54 : decode cX4_nearestBits 54 = .ok (.iconst 0, 1) := by decide +kernel
theorem dX4_nearestBits_55 : decode cX4_nearestBits 55 = .ok (.istore 5, 2) := by decide +kernel
theorem dX4_nearestBits_57 : decode cX4_nearestBits 57 = .ok (.lload 7, 2) := by decide +kernel
theorem dX4_nearestBits_59 : decode cX4_nearestBits 59 = .ok (.lload_n 3, 1) := by decide +kernel
theorem dX4_nearestBits_60 : decode cX4_nearestBits 60 = .ok (.lcmp, 1) := by decide +kernel
theorem dX4_nearestBits_61 : decode cX4_nearestBits 61 = .ok (.ifCond .ne 12, 3) := by decide +kernel
theorem dX4_nearestBits_64 : decode cX4_nearestBits 64 = .ok (.iload 5, 2) := by decide +kernel
theorem dX4_nearestBits_66 : decode cX4_nearestBits 66 = .ok (.iconst 1, 1) := by decide +kernel
theorem dX4_nearestBits_67 : decode cX4_nearestBits 67 = .ok (.iload 6, 2) := by decide +kernel
theorem dX4_nearestBits_69 : decode cX4_nearestBits 69 = .ok (.ishl, 1) := by decide +kernel
theorem dX4_nearestBits_70 : decode cX4_nearestBits 70 = .ok (.ior, 1) := by decide +kernel
theorem dX4_nearestBits_71 : decode cX4_nearestBits 71 = .ok (.istore 5, 2) := by decide +kernel
theorem dX4_nearestBits_73 : decode cX4_nearestBits 73 = .ok (.iinc 6 1, 3) := by decide +kernel
theorem dX4_nearestBits_76 : decode cX4_nearestBits 76 = .ok (.goto (-55), 3) := by decide +kernel
theorem dX4_nearestBits_79 : decode cX4_nearestBits 79 = .ok (.iload 5, 2) := by decide +kernel
theorem dX4_nearestBits_81 : decode cX4_nearestBits 81 = .ok (.ireturn, 1) := by decide +kernel
theorem dX4_placeRound_0 : decode cX4_placeRound 0 = .ok (.iconst 0, 1) := by decide +kernel
theorem dX4_placeRound_1 : decode cX4_placeRound 1 = .ok (.istore 4, 2) := by decide +kernel
theorem dX4_placeRound_3 : decode cX4_placeRound 3 = .ok (.iload 4, 2) := by decide +kernel
theorem dX4_placeRound_5 : decode cX4_placeRound 5 = .ok (.iload_n 2, 1) := by decide +kernel
theorem dX4_placeRound_6 : decode cX4_placeRound 6 = .ok (.if_icmp .ge 24, 3) := by decide +kernel
theorem dX4_placeRound_9 : decode cX4_placeRound 9 = .ok (.aload_n 0, 1) := by decide +kernel
theorem dX4_placeRound_10 : decode cX4_placeRound 10 = .ok (.iload_n 1, 1) := by decide +kernel
theorem dX4_placeRound_11 : decode cX4_placeRound 11 = .ok (.iload_n 2, 1) := by decide +kernel
theorem dX4_placeRound_12 : decode cX4_placeRound 12 = .ok (.iload 4, 2) := by decide +kernel
theorem dX4_placeRound_14 : decode cX4_placeRound 14 = .ok (.invokevirtual 50, 3) := by decide +kernel
theorem dX4_placeRound_17 : decode cX4_placeRound 17 = .ok (.iload_n 3, 1) := by decide +kernel
theorem dX4_placeRound_18 : decode cX4_placeRound 18 = .ok (.if_icmp .ne 6, 3) := by decide +kernel
theorem dX4_placeRound_21 : decode cX4_placeRound 21 = .ok (.iload 4, 2) := by decide +kernel
theorem dX4_placeRound_23 : decode cX4_placeRound 23 = .ok (.ireturn, 1) := by decide +kernel
theorem dX4_placeRound_24 : decode cX4_placeRound 24 = .ok (.iinc 4 1, 3) := by decide +kernel
theorem dX4_placeRound_27 : decode cX4_placeRound 27 = .ok (.goto (-24), 3) := by decide +kernel
theorem dX4_placeRound_30 : decode cX4_placeRound 30 = .ok (.bipush (-2), 2) := by decide +kernel
theorem dX4_placeRound_32 : decode cX4_placeRound 32 = .ok (.ireturn, 1) := by decide +kernel
theorem dX4_aheadRound_0 : decode cX4_aheadRound 0 = .ok (.iconst 0, 1) := by decide +kernel
theorem dX4_aheadRound_1 : decode cX4_aheadRound 1 = .ok (.istore 4, 2) := by decide +kernel
theorem dX4_aheadRound_3 : decode cX4_aheadRound 3 = .ok (.iconst 0, 1) := by decide +kernel
theorem dX4_aheadRound_4 : decode cX4_aheadRound 4 = .ok (.istore 5, 2) := by decide +kernel
theorem dX4_aheadRound_6 : decode cX4_aheadRound 6 = .ok (.iload 5, 2) := by decide +kernel
theorem dX4_aheadRound_8 : decode cX4_aheadRound 8 = .ok (.iload_n 2, 1) := by decide +kernel
theorem dX4_aheadRound_9 : decode cX4_aheadRound 9 = .ok (.if_icmp .ge 23, 3) := by decide +kernel
theorem dX4_aheadRound_12 : decode cX4_aheadRound 12 = .ok (.aload_n 0, 1) := by decide +kernel
theorem dX4_aheadRound_13 : decode cX4_aheadRound 13 = .ok (.iload_n 1, 1) := by decide +kernel
theorem dX4_aheadRound_14 : decode cX4_aheadRound 14 = .ok (.iload 5, 2) := by decide +kernel
theorem dX4_aheadRound_16 : decode cX4_aheadRound 16 = .ok (.iload_n 3, 1) := by decide +kernel
theorem dX4_aheadRound_17 : decode cX4_aheadRound 17 = .ok (.invokevirtual 53, 3) := by decide +kernel
theorem dX4_aheadRound_20 : decode cX4_aheadRound 20 = .ok (.ifCond .ge 6, 3) := by decide +kernel
theorem dX4_aheadRound_23 : decode cX4_aheadRound 23 = .ok (.iinc 4 1, 3) := by decide +kernel
theorem dX4_aheadRound_26 : decode cX4_aheadRound 26 = .ok (.iinc 5 1, 3) := by decide +kernel
theorem dX4_aheadRound_29 : decode cX4_aheadRound 29 = .ok (.goto (-23), 3) := by decide +kernel
theorem dX4_aheadRound_32 : decode cX4_aheadRound 32 = .ok (.iload 4, 2) := by decide +kernel
theorem dX4_aheadRound_34 : decode cX4_aheadRound 34 = .ok (.ireturn, 1) := by decide +kernel
theorem dX4_compareRound_0 : decode cX4_compareRound 0 = .ok (.aload_n 0, 1) := by decide +kernel
theorem dX4_compareRound_1 : decode cX4_compareRound 1 = .ok (.getfield 9, 3) := by decide +kernel
theorem dX4_compareRound_4 : decode cX4_compareRound 4 = .ok (.iload_n 2, 1) := by decide +kernel
theorem dX4_compareRound_5 : decode cX4_compareRound 5 = .ok (.iaload, 1) := by decide +kernel
theorem dX4_compareRound_6 : decode cX4_compareRound 6 = .ok (.istore 4, 2) := by decide +kernel
theorem dX4_compareRound_8 : decode cX4_compareRound 8 = .ok (.aload_n 0, 1) := by decide +kernel
theorem dX4_compareRound_9 : decode cX4_compareRound 9 = .ok (.getfield 9, 3) := by decide +kernel
theorem dX4_compareRound_12 : decode cX4_compareRound 12 = .ok (.iload_n 3, 1) := by decide +kernel
theorem dX4_compareRound_13 : decode cX4_compareRound 13 = .ok (.iaload, 1) := by decide +kernel
theorem dX4_compareRound_14 : decode cX4_compareRound 14 = .ok (.istore 5, 2) := by decide +kernel
theorem dX4_compareRound_16 : decode cX4_compareRound 16 = .ok (.aload_n 0, 1) := by decide +kernel
theorem dX4_compareRound_17 : decode cX4_compareRound 17 = .ok (.iload_n 1, 1) := by decide +kernel
theorem dX4_compareRound_18 : decode cX4_compareRound 18 = .ok (.iload 4, 2) := by decide +kernel
theorem dX4_compareRound_20 : decode cX4_compareRound 20 = .ok (.invokevirtual 56, 3) := by decide +kernel
theorem dX4_compareRound_23 : decode cX4_compareRound 23 = .ok (.istore 6, 2) := by decide +kernel
theorem dX4_compareRound_25 : decode cX4_compareRound 25 = .ok (.aload_n 0, 1) := by decide +kernel
theorem dX4_compareRound_26 : decode cX4_compareRound 26 = .ok (.iload_n 1, 1) := by decide +kernel
theorem dX4_compareRound_27 : decode cX4_compareRound 27 = .ok (.iload 5, 2) := by decide +kernel
theorem dX4_compareRound_29 : decode cX4_compareRound 29 = .ok (.invokevirtual 56, 3) := by decide +kernel
theorem dX4_compareRound_32 : decode cX4_compareRound 32 = .ok (.istore 7, 2) := by decide +kernel
theorem dX4_compareRound_34 : decode cX4_compareRound 34 = .ok (.iload 6, 2) := by decide +kernel
theorem dX4_compareRound_36 : decode cX4_compareRound 36 = .ok (.iload 7, 2) := by decide +kernel
theorem dX4_compareRound_38 : decode cX4_compareRound 38 = .ok (.if_icmp .eq 11, 3) := by decide +kernel
theorem dX4_compareRound_41 : decode cX4_compareRound 41 = .ok (.iload 6, 2) := by decide +kernel
theorem dX4_compareRound_43 : decode cX4_compareRound 43 = .ok (.iload 7, 2) := by decide +kernel
theorem dX4_compareRound_45 : decode cX4_compareRound 45 = .ok (.invokestatic 59, 3) := by decide +kernel
theorem dX4_compareRound_48 : decode cX4_compareRound 48 = .ok (.ireturn, 1) := by decide +kernel
theorem dX4_compareRound_49 : decode cX4_compareRound 49 = .ok (.aload_n 0, 1) := by decide +kernel
theorem dX4_compareRound_50 : decode cX4_compareRound 50 = .ok (.getfield 19, 3) := by decide +kernel
theorem dX4_compareRound_53 : decode cX4_compareRound 53 = .ok (.iload_n 1, 1) := by decide +kernel
theorem dX4_compareRound_54 : decode cX4_compareRound 54 = .ok (.iload 4, 2) := by decide +kernel
theorem dX4_compareRound_56 : decode cX4_compareRound 56 = .ok (.iload 5, 2) := by decide +kernel
theorem dX4_compareRound_58 : decode cX4_compareRound 58 = .ok (.invokevirtual 31, 3) := by decide +kernel
theorem dX4_compareRound_61 : decode cX4_compareRound 61 = .ok (.istore 8, 2) := by decide +kernel
theorem dX4_compareRound_63 : decode cX4_compareRound 63 = .ok (.iload 8, 2) := by decide +kernel
theorem dX4_compareRound_65 : decode cX4_compareRound 65 = .ok (.ifCond .eq 7, 3) := by decide +kernel
theorem dX4_compareRound_68 : decode cX4_compareRound 68 = .ok (.iload 8, 2) := by decide +kernel
theorem dX4_compareRound_70 : decode cX4_compareRound 70 = .ok (.ineg, 1) := by decide +kernel
theorem dX4_compareRound_71 : decode cX4_compareRound 71 = .ok (.ireturn, 1) := by decide +kernel
theorem dX4_compareRound_72 : decode cX4_compareRound 72 = .ok (.aload_n 0, 1) := by decide +kernel
theorem dX4_compareRound_73 : decode cX4_compareRound 73 = .ok (.getfield 19, 3) := by decide +kernel
theorem dX4_compareRound_76 : decode cX4_compareRound 76 = .ok (.iload_n 1, 1) := by decide +kernel
theorem dX4_compareRound_77 : decode cX4_compareRound 77 = .ok (.iload 4, 2) := by decide +kernel
theorem dX4_compareRound_79 : decode cX4_compareRound 79 = .ok (.invokevirtual 46, 3) := by decide +kernel
theorem dX4_compareRound_82 : decode cX4_compareRound 82 = .ok (.aload_n 0, 1) := by decide +kernel
theorem dX4_compareRound_83 : decode cX4_compareRound 83 = .ok (.getfield 19, 3) := by decide +kernel
theorem dX4_compareRound_86 : decode cX4_compareRound 86 = .ok (.iload_n 1, 1) := by decide +kernel
theorem dX4_compareRound_87 : decode cX4_compareRound 87 = .ok (.iload 5, 2) := by decide +kernel
theorem dX4_compareRound_89 : decode cX4_compareRound 89 = .ok (.invokevirtual 46, 3) := by decide +kernel
theorem dX4_compareRound_92 : decode cX4_compareRound 92 = .ok (.invokestatic 64, 3) := by decide +kernel
theorem dX4_compareRound_95 : decode cX4_compareRound 95 = .ok (.istore 9, 2) := by decide +kernel
theorem dX4_compareRound_97 : decode cX4_compareRound 97 = .ok (.iload 9, 2) := by decide +kernel
theorem dX4_compareRound_99 : decode cX4_compareRound 99 = .ok (.ifCond .eq 8, 3) := by decide +kernel
theorem dX4_compareRound_102 : decode cX4_compareRound 102 = .ok (.iload 9, 2) := by decide +kernel
theorem dX4_compareRound_104 : decode cX4_compareRound 104 = .ok (.goto 8, 3) := by decide +kernel
theorem dX4_compareRound_107 : decode cX4_compareRound 107 = .ok (.iload_n 2, 1) := by decide +kernel
theorem dX4_compareRound_108 : decode cX4_compareRound 108 = .ok (.iload_n 3, 1) := by decide +kernel
theorem dX4_compareRound_109 : decode cX4_compareRound 109 = .ok (.invokestatic 59, 3) := by decide +kernel
theorem dX4_compareRound_112 : decode cX4_compareRound 112 = .ok (.ireturn, 1) := by decide +kernel
theorem dX4_partOfTurn_0 : decode cX4_partOfTurn 0 = .ok (.aload_n 0, 1) := by decide +kernel
theorem dX4_partOfTurn_1 : decode cX4_partOfTurn 1 = .ok (.getfield 19, 3) := by decide +kernel
theorem dX4_partOfTurn_4 : decode cX4_partOfTurn 4 = .ok (.getfield 69, 3) := by decide +kernel
theorem dX4_partOfTurn_7 : decode cX4_partOfTurn 7 = .ok (.iload_n 2, 1) := by decide +kernel
theorem dX4_partOfTurn_8 : decode cX4_partOfTurn 8 = .ok (.iaload, 1) := by decide +kernel
theorem dX4_partOfTurn_9 : decode cX4_partOfTurn 9 = .ok (.aload_n 0, 1) := by decide +kernel
theorem dX4_partOfTurn_10 : decode cX4_partOfTurn 10 = .ok (.getfield 19, 3) := by decide +kernel
theorem dX4_partOfTurn_13 : decode cX4_partOfTurn 13 = .ok (.getfield 69, 3) := by decide +kernel
theorem dX4_partOfTurn_16 : decode cX4_partOfTurn 16 = .ok (.iload_n 1, 1) := by decide +kernel
theorem dX4_partOfTurn_17 : decode cX4_partOfTurn 17 = .ok (.iaload, 1) := by decide +kernel
theorem dX4_partOfTurn_18 : decode cX4_partOfTurn 18 = .ok (.isub, 1) := by decide +kernel
theorem dX4_partOfTurn_19 : decode cX4_partOfTurn 19 = .ok (.istore_n 3, 1) := by decide +kernel
theorem dX4_partOfTurn_20 : decode cX4_partOfTurn 20 = .ok (.aload_n 0, 1) := by decide +kernel
theorem dX4_partOfTurn_21 : decode cX4_partOfTurn 21 = .ok (.getfield 19, 3) := by decide +kernel
theorem dX4_partOfTurn_24 : decode cX4_partOfTurn 24 = .ok (.getfield 43, 3) := by decide +kernel
theorem dX4_partOfTurn_27 : decode cX4_partOfTurn 27 = .ok (.iload_n 2, 1) := by decide +kernel
theorem dX4_partOfTurn_28 : decode cX4_partOfTurn 28 = .ok (.iaload, 1) := by decide +kernel
theorem dX4_partOfTurn_29 : decode cX4_partOfTurn 29 = .ok (.aload_n 0, 1) := by decide +kernel
theorem dX4_partOfTurn_30 : decode cX4_partOfTurn 30 = .ok (.getfield 19, 3) := by decide +kernel
theorem dX4_partOfTurn_33 : decode cX4_partOfTurn 33 = .ok (.getfield 43, 3) := by decide +kernel
theorem dX4_partOfTurn_36 : decode cX4_partOfTurn 36 = .ok (.iload_n 1, 1) := by decide +kernel
theorem dX4_partOfTurn_37 : decode cX4_partOfTurn 37 = .ok (.iaload, 1) := by decide +kernel
theorem dX4_partOfTurn_38 : decode cX4_partOfTurn 38 = .ok (.isub, 1) := by decide +kernel
theorem dX4_partOfTurn_39 : decode cX4_partOfTurn 39 = .ok (.istore 4, 2) := by decide +kernel
theorem dX4_partOfTurn_41 : decode cX4_partOfTurn 41 = .ok (.iload_n 3, 1) := by decide +kernel
theorem dX4_partOfTurn_42 : decode cX4_partOfTurn 42 = .ok (.ifCond .ne 10, 3) := by decide +kernel
theorem dX4_partOfTurn_45 : decode cX4_partOfTurn 45 = .ok (.iload 4, 2) := by decide +kernel
theorem dX4_partOfTurn_47 : decode cX4_partOfTurn 47 = .ok (.ifCond .ne 5, 3) := by decide +kernel
theorem dX4_partOfTurn_50 : decode cX4_partOfTurn 50 = .ok (.iconst 0, 1) := by decide +kernel
theorem dX4_partOfTurn_51 : decode cX4_partOfTurn 51 = .ok (.ireturn, 1) := by decide +kernel
theorem dX4_partOfTurn_52 : decode cX4_partOfTurn 52 = .ok (.iload 4, 2) := by decide +kernel
theorem dX4_partOfTurn_54 : decode cX4_partOfTurn 54 = .ok (.ifCond .gt 12, 3) := by decide +kernel
theorem dX4_partOfTurn_57 : decode cX4_partOfTurn 57 = .ok (.iload 4, 2) := by decide +kernel
theorem dX4_partOfTurn_59 : decode cX4_partOfTurn 59 = .ok (.ifCond .ne 11, 3) := by decide +kernel
theorem dX4_partOfTurn_62 : decode cX4_partOfTurn 62 = .ok (.iload_n 3, 1) := by decide +kernel
theorem dX4_partOfTurn_63 : decode cX4_partOfTurn 63 = .ok (.ifCond .le 7, 3) := by decide +kernel
theorem dX4_partOfTurn_66 : decode cX4_partOfTurn 66 = .ok (.iconst 1, 1) := by decide +kernel
theorem dX4_partOfTurn_67 : decode cX4_partOfTurn 67 = .ok (.goto 4, 3) := by decide +kernel
theorem dX4_partOfTurn_70 : decode cX4_partOfTurn 70 = .ok (.iconst 2, 1) := by decide +kernel
theorem dX4_partOfTurn_71 : decode cX4_partOfTurn 71 = .ok (.ireturn, 1) := by decide +kernel
theorem dX4_placeAlong_0 : decode cX4_placeAlong 0 = .ok (.iconst 0, 1) := by decide +kernel
theorem dX4_placeAlong_1 : decode cX4_placeAlong 1 = .ok (.istore_n 3, 1) := by decide +kernel
theorem dX4_placeAlong_2 : decode cX4_placeAlong 2 = .ok (.iload_n 3, 1) := by decide +kernel
theorem dX4_placeAlong_3 : decode cX4_placeAlong 3 = .ok (.iload_n 1, 1) := by decide +kernel
theorem dX4_placeAlong_4 : decode cX4_placeAlong 4 = .ok (.if_icmp .ge 21, 3) := by decide +kernel
theorem dX4_placeAlong_7 : decode cX4_placeAlong 7 = .ok (.aload_n 0, 1) := by decide +kernel
theorem dX4_placeAlong_8 : decode cX4_placeAlong 8 = .ok (.iload_n 1, 1) := by decide +kernel
theorem dX4_placeAlong_9 : decode cX4_placeAlong 9 = .ok (.iload_n 3, 1) := by decide +kernel
theorem dX4_placeAlong_10 : decode cX4_placeAlong 10 = .ok (.invokevirtual 72, 3) := by decide +kernel
theorem dX4_placeAlong_13 : decode cX4_placeAlong 13 = .ok (.iload_n 2, 1) := by decide +kernel
theorem dX4_placeAlong_14 : decode cX4_placeAlong 14 = .ok (.if_icmp .ne 5, 3) := by decide +kernel
theorem dX4_placeAlong_17 : decode cX4_placeAlong 17 = .ok (.iload_n 3, 1) := by decide +kernel
theorem dX4_placeAlong_18 : decode cX4_placeAlong 18 = .ok (.ireturn, 1) := by decide +kernel
theorem dX4_placeAlong_19 : decode cX4_placeAlong 19 = .ok (.iinc 3 1, 3) := by decide +kernel
theorem dX4_placeAlong_22 : decode cX4_placeAlong 22 = .ok (.goto (-20), 3) := by decide +kernel
theorem dX4_placeAlong_25 : decode cX4_placeAlong 25 = .ok (.bipush (-2), 2) := by decide +kernel
theorem dX4_placeAlong_27 : decode cX4_placeAlong 27 = .ok (.ireturn, 1) := by decide +kernel
theorem dX4_aheadAlong_0 : decode cX4_aheadAlong 0 = .ok (.iconst 0, 1) := by decide +kernel
theorem dX4_aheadAlong_1 : decode cX4_aheadAlong 1 = .ok (.istore_n 3, 1) := by decide +kernel
theorem dX4_aheadAlong_2 : decode cX4_aheadAlong 2 = .ok (.iconst 0, 1) := by decide +kernel
theorem dX4_aheadAlong_3 : decode cX4_aheadAlong 3 = .ok (.istore 4, 2) := by decide +kernel
theorem dX4_aheadAlong_5 : decode cX4_aheadAlong 5 = .ok (.iload 4, 2) := by decide +kernel
theorem dX4_aheadAlong_7 : decode cX4_aheadAlong 7 = .ok (.iload_n 1, 1) := by decide +kernel
theorem dX4_aheadAlong_8 : decode cX4_aheadAlong 8 = .ok (.if_icmp .ge 22, 3) := by decide +kernel
theorem dX4_aheadAlong_11 : decode cX4_aheadAlong 11 = .ok (.aload_n 0, 1) := by decide +kernel
theorem dX4_aheadAlong_12 : decode cX4_aheadAlong 12 = .ok (.iload 4, 2) := by decide +kernel
theorem dX4_aheadAlong_14 : decode cX4_aheadAlong 14 = .ok (.iload_n 2, 1) := by decide +kernel
theorem dX4_aheadAlong_15 : decode cX4_aheadAlong 15 = .ok (.invokevirtual 75, 3) := by decide +kernel
theorem dX4_aheadAlong_18 : decode cX4_aheadAlong 18 = .ok (.ifCond .ge 6, 3) := by decide +kernel
theorem dX4_aheadAlong_21 : decode cX4_aheadAlong 21 = .ok (.iinc 3 1, 3) := by decide +kernel
theorem dX4_aheadAlong_24 : decode cX4_aheadAlong 24 = .ok (.iinc 4 1, 3) := by decide +kernel
theorem dX4_aheadAlong_27 : decode cX4_aheadAlong 27 = .ok (.goto (-22), 3) := by decide +kernel
theorem dX4_aheadAlong_30 : decode cX4_aheadAlong 30 = .ok (.iload_n 3, 1) := by decide +kernel
theorem dX4_aheadAlong_31 : decode cX4_aheadAlong 31 = .ok (.ireturn, 1) := by decide +kernel
theorem dX4_compareAlong_0 : decode cX4_compareAlong 0 = .ok (.aload_n 0, 1) := by decide +kernel
theorem dX4_compareAlong_1 : decode cX4_compareAlong 1 = .ok (.getfield 19, 3) := by decide +kernel
theorem dX4_compareAlong_4 : decode cX4_compareAlong 4 = .ok (.aload_n 0, 1) := by decide +kernel
theorem dX4_compareAlong_5 : decode cX4_compareAlong 5 = .ok (.getfield 9, 3) := by decide +kernel
theorem dX4_compareAlong_8 : decode cX4_compareAlong 8 = .ok (.iload_n 1, 1) := by decide +kernel
theorem dX4_compareAlong_9 : decode cX4_compareAlong 9 = .ok (.iaload, 1) := by decide +kernel
theorem dX4_compareAlong_10 : decode cX4_compareAlong 10 = .ok (.aload_n 0, 1) := by decide +kernel
theorem dX4_compareAlong_11 : decode cX4_compareAlong 11 = .ok (.getfield 9, 3) := by decide +kernel
theorem dX4_compareAlong_14 : decode cX4_compareAlong 14 = .ok (.iload_n 2, 1) := by decide +kernel
theorem dX4_compareAlong_15 : decode cX4_compareAlong 15 = .ok (.iaload, 1) := by decide +kernel
theorem dX4_compareAlong_16 : decode cX4_compareAlong 16 = .ok (.invokevirtual 78, 3) := by decide +kernel
theorem dX4_compareAlong_19 : decode cX4_compareAlong 19 = .ok (.istore_n 3, 1) := by decide +kernel
theorem dX4_compareAlong_20 : decode cX4_compareAlong 20 = .ok (.iload_n 3, 1) := by decide +kernel
theorem dX4_compareAlong_21 : decode cX4_compareAlong 21 = .ok (.ifCond .eq 7, 3) := by decide +kernel
theorem dX4_compareAlong_24 : decode cX4_compareAlong 24 = .ok (.iload_n 3, 1) := by decide +kernel
theorem dX4_compareAlong_25 : decode cX4_compareAlong 25 = .ok (.goto 8, 3) := by decide +kernel
theorem dX4_compareAlong_28 : decode cX4_compareAlong 28 = .ok (.iload_n 1, 1) := by decide +kernel
theorem dX4_compareAlong_29 : decode cX4_compareAlong 29 = .ok (.iload_n 2, 1) := by decide +kernel
theorem dX4_compareAlong_30 : decode cX4_compareAlong 30 = .ok (.invokestatic 59, 3) := by decide +kernel
theorem dX4_compareAlong_33 : decode cX4_compareAlong 33 = .ok (.ireturn, 1) := by decide +kernel
theorem dX4_crossSum_0 : decode cX4_crossSum 0 = .ok (.lconst 0, 1) := by decide +kernel
theorem dX4_crossSum_1 : decode cX4_crossSum 1 = .ok (.lstore_n 2, 1) := by decide +kernel
theorem dX4_crossSum_2 : decode cX4_crossSum 2 = .ok (.iconst 0, 1) := by decide +kernel
theorem dX4_crossSum_3 : decode cX4_crossSum 3 = .ok (.istore 4, 2) := by decide +kernel
theorem dX4_crossSum_5 : decode cX4_crossSum 5 = .ok (.iload 4, 2) := by decide +kernel
theorem dX4_crossSum_7 : decode cX4_crossSum 7 = .ok (.iload_n 1, 1) := by decide +kernel
theorem dX4_crossSum_8 : decode cX4_crossSum 8 = .ok (.if_icmp .ge 77, 3) := by decide +kernel
theorem dX4_crossSum_11 : decode cX4_crossSum 11 = .ok (.aload_n 0, 1) := by decide +kernel
theorem dX4_crossSum_12 : decode cX4_crossSum 12 = .ok (.getfield 9, 3) := by decide +kernel
theorem dX4_crossSum_15 : decode cX4_crossSum 15 = .ok (.iload 4, 2) := by decide +kernel
theorem dX4_crossSum_17 : decode cX4_crossSum 17 = .ok (.iaload, 1) := by decide +kernel
theorem dX4_crossSum_18 : decode cX4_crossSum 18 = .ok (.istore 5, 2) := by decide +kernel
theorem dX4_crossSum_20 : decode cX4_crossSum 20 = .ok (.aload_n 0, 1) := by decide +kernel
theorem dX4_crossSum_21 : decode cX4_crossSum 21 = .ok (.iload 4, 2) := by decide +kernel
theorem dX4_crossSum_23 : decode cX4_crossSum 23 = .ok (.iload_n 1, 1) := by decide +kernel
theorem dX4_crossSum_24 : decode cX4_crossSum 24 = .ok (.invokevirtual 27, 3) := by decide +kernel
theorem dX4_crossSum_27 : decode cX4_crossSum 27 = .ok (.istore 6, 2) := by decide +kernel
theorem dX4_crossSum_29 : decode cX4_crossSum 29 = .ok (.lload_n 2, 1) := by decide +kernel
theorem dX4_crossSum_30 : decode cX4_crossSum 30 = .ok (.aload_n 0, 1) := by decide +kernel
theorem dX4_crossSum_31 : decode cX4_crossSum 31 = .ok (.getfield 19, 3) := by decide +kernel
theorem dX4_crossSum_34 : decode cX4_crossSum 34 = .ok (.getfield 69, 3) := by decide +kernel
theorem dX4_crossSum_37 : decode cX4_crossSum 37 = .ok (.iload 5, 2) := by decide +kernel
theorem dX4_crossSum_39 : decode cX4_crossSum 39 = .ok (.iaload, 1) := by decide +kernel
theorem dX4_crossSum_40 : decode cX4_crossSum 40 = .ok (.i2l, 1) := by decide +kernel
theorem dX4_crossSum_41 : decode cX4_crossSum 41 = .ok (.aload_n 0, 1) := by decide +kernel
theorem dX4_crossSum_42 : decode cX4_crossSum 42 = .ok (.getfield 19, 3) := by decide +kernel
theorem dX4_crossSum_45 : decode cX4_crossSum 45 = .ok (.getfield 43, 3) := by decide +kernel
theorem dX4_crossSum_48 : decode cX4_crossSum 48 = .ok (.iload 6, 2) := by decide +kernel
theorem dX4_crossSum_50 : decode cX4_crossSum 50 = .ok (.iaload, 1) := by decide +kernel
theorem dX4_crossSum_51 : decode cX4_crossSum 51 = .ok (.i2l, 1) := by decide +kernel
theorem dX4_crossSum_52 : decode cX4_crossSum 52 = .ok (.lmul, 1) := by decide +kernel
theorem dX4_crossSum_53 : decode cX4_crossSum 53 = .ok (.aload_n 0, 1) := by decide +kernel
theorem dX4_crossSum_54 : decode cX4_crossSum 54 = .ok (.getfield 19, 3) := by decide +kernel
theorem dX4_crossSum_57 : decode cX4_crossSum 57 = .ok (.getfield 69, 3) := by decide +kernel
theorem dX4_crossSum_60 : decode cX4_crossSum 60 = .ok (.iload 6, 2) := by decide +kernel
theorem dX4_crossSum_62 : decode cX4_crossSum 62 = .ok (.iaload, 1) := by decide +kernel
theorem dX4_crossSum_63 : decode cX4_crossSum 63 = .ok (.i2l, 1) := by decide +kernel
theorem dX4_crossSum_64 : decode cX4_crossSum 64 = .ok (.aload_n 0, 1) := by decide +kernel
theorem dX4_crossSum_65 : decode cX4_crossSum 65 = .ok (.getfield 19, 3) := by decide +kernel
theorem dX4_crossSum_68 : decode cX4_crossSum 68 = .ok (.getfield 43, 3) := by decide +kernel
theorem dX4_crossSum_71 : decode cX4_crossSum 71 = .ok (.iload 5, 2) := by decide +kernel
theorem dX4_crossSum_73 : decode cX4_crossSum 73 = .ok (.iaload, 1) := by decide +kernel
theorem dX4_crossSum_74 : decode cX4_crossSum 74 = .ok (.i2l, 1) := by decide +kernel
theorem dX4_crossSum_75 : decode cX4_crossSum 75 = .ok (.lmul, 1) := by decide +kernel
theorem dX4_crossSum_76 : decode cX4_crossSum 76 = .ok (.lsub, 1) := by decide +kernel
theorem dX4_crossSum_77 : decode cX4_crossSum 77 = .ok (.ladd, 1) := by decide +kernel
theorem dX4_crossSum_78 : decode cX4_crossSum 78 = .ok (.lstore_n 2, 1) := by decide +kernel
theorem dX4_crossSum_79 : decode cX4_crossSum 79 = .ok (.iinc 4 1, 3) := by decide +kernel
theorem dX4_crossSum_82 : decode cX4_crossSum 82 = .ok (.goto (-77), 3) := by decide +kernel
theorem dX4_crossSum_85 : decode cX4_crossSum 85 = .ok (.lload_n 2, 1) := by decide +kernel
theorem dX4_crossSum_86 : decode cX4_crossSum 86 = .ok (.lreturn, 1) := by decide +kernel
theorem dX5_init_0 : decode cX5_init 0 = .ok (.aload_n 0, 1) := by decide +kernel
theorem dX5_init_1 : decode cX5_init 1 = .ok (.invokespecial 1, 3) := by decide +kernel
theorem dX5_init_4 : decode cX5_init 4 = .ok (.aload_n 0, 1) := by decide +kernel
theorem dX5_init_5 : decode cX5_init 5 = .ok (.new 7, 3) := by decide +kernel
theorem dX5_init_8 : decode cX5_init 8 = .ok (.dup, 1) := by decide +kernel
theorem dX5_init_9 : decode cX5_init 9 = .ok (.invokespecial 9, 3) := by decide +kernel
theorem dX5_init_12 : decode cX5_init 12 = .ok (.putfield 10, 3) := by decide +kernel
theorem dX5_init_15 : decode cX5_init 15 = .ok (.aload_n 0, 1) := by decide +kernel
theorem dX5_init_16 : decode cX5_init 16 = .ok (.new 16, 3) := by decide +kernel
theorem dX5_init_19 : decode cX5_init 19 = .ok (.dup, 1) := by decide +kernel
theorem dX5_init_20 : decode cX5_init 20 = .ok (.aload_n 0, 1) := by decide +kernel
theorem dX5_init_21 : decode cX5_init 21 = .ok (.getfield 10, 3) := by decide +kernel
theorem dX5_init_24 : decode cX5_init 24 = .ok (.invokespecial 18, 3) := by decide +kernel
theorem dX5_init_27 : decode cX5_init 27 = .ok (.putfield 21, 3) := by decide +kernel
theorem dX5_init_30 : decode cX5_init 30 = .ok (.aload_n 0, 1) := by decide +kernel
theorem dX5_init_31 : decode cX5_init 31 = .ok (.new 25, 3) := by decide +kernel
theorem dX5_init_34 : decode cX5_init 34 = .ok (.dup, 1) := by decide +kernel
theorem dX5_init_35 : decode cX5_init 35 = .ok (.aload_n 0, 1) := by decide +kernel
theorem dX5_init_36 : decode cX5_init 36 = .ok (.getfield 10, 3) := by decide +kernel
theorem dX5_init_39 : decode cX5_init 39 = .ok (.invokespecial 27, 3) := by decide +kernel
theorem dX5_init_42 : decode cX5_init 42 = .ok (.putfield 28, 3) := by decide +kernel
theorem dX5_init_45 : decode cX5_init 45 = .ok (.aload_n 0, 1) := by decide +kernel
theorem dX5_init_46 : decode cX5_init 46 = .ok (.new 32, 3) := by decide +kernel
theorem dX5_init_49 : decode cX5_init 49 = .ok (.dup, 1) := by decide +kernel
theorem dX5_init_50 : decode cX5_init 50 = .ok (.aload_n 0, 1) := by decide +kernel
theorem dX5_init_51 : decode cX5_init 51 = .ok (.getfield 10, 3) := by decide +kernel
theorem dX5_init_54 : decode cX5_init 54 = .ok (.invokespecial 34, 3) := by decide +kernel
theorem dX5_init_57 : decode cX5_init 57 = .ok (.putfield 35, 3) := by decide +kernel
theorem dX5_init_60 : decode cX5_init 60 = .ok (.aload_n 0, 1) := by decide +kernel
theorem dX5_init_61 : decode cX5_init 61 = .ok (.new 39, 3) := by decide +kernel
theorem dX5_init_64 : decode cX5_init 64 = .ok (.dup, 1) := by decide +kernel
theorem dX5_init_65 : decode cX5_init 65 = .ok (.aload_n 0, 1) := by decide +kernel
theorem dX5_init_66 : decode cX5_init 66 = .ok (.getfield 10, 3) := by decide +kernel
theorem dX5_init_69 : decode cX5_init 69 = .ok (.invokespecial 41, 3) := by decide +kernel
theorem dX5_init_72 : decode cX5_init 72 = .ok (.putfield 42, 3) := by decide +kernel
theorem dX5_init_75 : decode cX5_init 75 = .ok (.return_, 1) := by decide +kernel
theorem dX5_point_0 : decode cX5_point 0 = .ok (.lload_n 1, 1) := by decide +kernel
theorem dX5_point_1 : decode cX5_point 1 = .ok (.invokestatic 46, 3) := by decide +kernel
theorem dX5_point_4 : decode cX5_point 4 = .ok (.ifCond .eq 18, 3) := by decide +kernel
theorem dX5_point_7 : decode cX5_point 7 = .ok (.lload_n 3, 1) := by decide +kernel
theorem dX5_point_8 : decode cX5_point 8 = .ok (.invokestatic 46, 3) := by decide +kernel
theorem dX5_point_11 : decode cX5_point 11 = .ok (.ifCond .eq 11, 3) := by decide +kernel
theorem dX5_point_14 : decode cX5_point 14 = .ok (.lload 5, 2) := by decide +kernel
theorem dX5_point_16 : decode cX5_point 16 = .ok (.invokestatic 50, 3) := by decide +kernel
theorem dX5_point_19 : decode cX5_point 19 = .ok (.ifCond .ne 6, 3) := by decide +kernel
theorem dX5_point_22 : decode cX5_point 22 = .ok (.bipush (-2), 2) := by decide +kernel
theorem dX5_point_24 : decode cX5_point 24 = .ok (.ireturn, 1) := by decide +kernel
theorem dX5_point_25 : decode cX5_point 25 = .ok (.bipush 12, 2) := by decide +kernel
theorem dX5_point_27 : decode cX5_point 27 = .ok (.lload 5, 2) := by decide +kernel
theorem dX5_point_29 : decode cX5_point 29 = .ok (.l2i, 1) := by decide +kernel
theorem dX5_point_30 : decode cX5_point 30 = .ok (.idiv, 1) := by decide +kernel
theorem dX5_point_31 : decode cX5_point 31 = .ok (.istore 7, 2) := by decide +kernel
theorem dX5_point_33 : decode cX5_point 33 = .ok (.aload_n 0, 1) := by decide +kernel
theorem dX5_point_34 : decode cX5_point 34 = .ok (.getfield 10, 3) := by decide +kernel
theorem dX5_point_37 : decode cX5_point 37 = .ok (.lload_n 1, 1) := by decide +kernel
theorem dX5_point_38 : decode cX5_point 38 = .ok (.l2i, 1) := by decide +kernel
theorem dX5_point_39 : decode cX5_point 39 = .ok (.iload 7, 2) := by decide +kernel
theorem dX5_point_41 : decode cX5_point 41 = .ok (.imul, 1) := by decide +kernel
theorem dX5_point_42 : decode cX5_point 42 = .ok (.lload_n 3, 1) := by decide +kernel
theorem dX5_point_43 : decode cX5_point 43 = .ok (.l2i, 1) := by decide +kernel
theorem dX5_point_44 : decode cX5_point 44 = .ok (.iload 7, 2) := by decide +kernel
theorem dX5_point_46 : decode cX5_point 46 = .ok (.imul, 1) := by decide +kernel
theorem dX5_point_47 : decode cX5_point 47 = .ok (.invokevirtual 53, 3) := by decide +kernel
theorem dX5_point_50 : decode cX5_point 50 = .ok (.ireturn, 1) := by decide +kernel
theorem dX5_size_0 : decode cX5_size 0 = .ok (.iload_n 1, 1) := by decide +kernel
theorem dX5_size_1 : decode cX5_size 1 = .ok (.ifCond .ge 13, 3) := by decide +kernel
theorem dX5_size_4 : decode cX5_size 4 = .ok (.new 57, 3) := by decide +kernel
theorem dX5_size_7 : decode cX5_size 7 = .ok (.dup, 1) := by decide +kernel
theorem dX5_size_8 : decode cX5_size 8 = .ok (.ldc 59, 2) := by decide +kernel
theorem dX5_size_10 : decode cX5_size 10 = .ok (.invokespecial 61, 3) := by decide +kernel
theorem dX5_size_13 : decode cX5_size 13 = .ok (.athrow, 1) := by decide +kernel
theorem dX5_size_14 : decode cX5_size 14 = .ok (.iload_n 1, 1) := by decide +kernel
theorem dX5_size_15 : decode cX5_size 15 = .ok (.bipush 24, 2) := by decide +kernel
theorem dX5_size_17 : decode cX5_size 17 = .ok (.if_icmp .le 6, 3) := by decide +kernel
theorem dX5_size_20 : decode cX5_size 20 = .ok (.bipush (-2), 2) := by decide +kernel
theorem dX5_size_22 : decode cX5_size 22 = .ok (.ireturn, 1) := by decide +kernel
theorem dX5_size_23 : decode cX5_size 23 = .ok (.aload_n 0, 1) := by decide +kernel
theorem dX5_size_24 : decode cX5_size 24 = .ok (.getfield 35, 3) := by decide +kernel
theorem dX5_size_27 : decode cX5_size 27 = .ok (.iload_n 1, 1) := by decide +kernel
theorem dX5_size_28 : decode cX5_size 28 = .ok (.invokevirtual 64, 3) := by decide +kernel
theorem dX5_size_31 : decode cX5_size 31 = .ok (.ireturn, 1) := by decide +kernel
theorem dX5_of_0 : decode cX5_of 0 = .ok (.iload_n 2, 1) := by decide +kernel
theorem dX5_of_1 : decode cX5_of 1 = .ok (.iconst (-1), 1) := by decide +kernel
theorem dX5_of_2 : decode cX5_of 2 = .ok (.if_icmp .eq 17, 3) := by decide +kernel
theorem dX5_of_5 : decode cX5_of 5 = .ok (.aload_n 0, 1) := by decide +kernel
theorem dX5_of_6 : decode cX5_of 6 = .ok (.getfield 10, 3) := by decide +kernel
theorem dX5_of_9 : decode cX5_of 9 = .ok (.iload_n 2, 1) := by decide +kernel
theorem dX5_of_10 : decode cX5_of 10 = .ok (.invokevirtual 68, 3) := by decide +kernel
theorem dX5_of_13 : decode cX5_of 13 = .ok (.ifCond .ne 6, 3) := by decide +kernel
theorem dX5_of_16 : decode cX5_of 16 = .ok (.bipush (-2), 2) := by decide +kernel
theorem dX5_of_18 : decode cX5_of 18 = .ok (.ireturn, 1) := by decide +kernel
theorem dX5_of_19 : decode cX5_of 19 = .ok (.aload_n 0, 1) := by decide +kernel
theorem dX5_of_20 : decode cX5_of 20 = .ok (.getfield 35, 3) := by decide +kernel
theorem dX5_of_23 : decode cX5_of 23 = .ok (.iload_n 1, 1) := by decide +kernel
theorem dX5_of_24 : decode cX5_of 24 = .ok (.invokevirtual 72, 3) := by decide +kernel
theorem dX5_of_27 : decode cX5_of 27 = .ok (.ifCond .ne 13, 3) := by decide +kernel
theorem dX5_of_30 : decode cX5_of 30 = .ok (.new 75, 3) := by decide +kernel
theorem dX5_of_33 : decode cX5_of 33 = .ok (.dup, 1) := by decide +kernel
theorem dX5_of_34 : decode cX5_of 34 = .ok (.ldc 77, 2) := by decide +kernel
theorem dX5_of_36 : decode cX5_of 36 = .ok (.invokespecial 79, 3) := by decide +kernel
theorem dX5_of_39 : decode cX5_of 39 = .ok (.athrow, 1) := by decide +kernel
theorem dX5_of_40 : decode cX5_of 40 = .ok (.aload_n 0, 1) := by decide +kernel
theorem dX5_of_41 : decode cX5_of 41 = .ok (.getfield 35, 3) := by decide +kernel
theorem dX5_of_44 : decode cX5_of 44 = .ok (.iload_n 1, 1) := by decide +kernel
theorem dX5_of_45 : decode cX5_of 45 = .ok (.iload_n 2, 1) := by decide +kernel
theorem dX5_of_46 : decode cX5_of 46 = .ok (.invokevirtual 80, 3) := by decide +kernel
theorem dX5_of_49 : decode cX5_of 49 = .ok (.ireturn, 1) := by decide +kernel
theorem dX5_at_0 : decode cX5_at 0 = .ok (.aload_n 0, 1) := by decide +kernel
theorem dX5_at_1 : decode cX5_at 1 = .ok (.getfield 35, 3) := by decide +kernel
theorem dX5_at_4 : decode cX5_at 4 = .ok (.iload_n 1, 1) := by decide +kernel
theorem dX5_at_5 : decode cX5_at 5 = .ok (.invokevirtual 72, 3) := by decide +kernel
theorem dX5_at_8 : decode cX5_at 8 = .ok (.ifCond .ne 13, 3) := by decide +kernel
theorem dX5_at_11 : decode cX5_at 11 = .ok (.new 75, 3) := by decide +kernel
theorem dX5_at_14 : decode cX5_at 14 = .ok (.dup, 1) := by decide +kernel
theorem dX5_at_15 : decode cX5_at 15 = .ok (.ldc 77, 2) := by decide +kernel
theorem dX5_at_17 : decode cX5_at 17 = .ok (.invokespecial 79, 3) := by decide +kernel
theorem dX5_at_20 : decode cX5_at 20 = .ok (.athrow, 1) := by decide +kernel
theorem dX5_at_21 : decode cX5_at 21 = .ok (.aload_n 0, 1) := by decide +kernel
theorem dX5_at_22 : decode cX5_at 22 = .ok (.getfield 35, 3) := by decide +kernel
theorem dX5_at_25 : decode cX5_at 25 = .ok (.getfield 83, 3) := by decide +kernel
theorem dX5_at_28 : decode cX5_at 28 = .ok (.iload_n 1, 1) := by decide +kernel
theorem dX5_at_29 : decode cX5_at 29 = .ok (.iaload, 1) := by decide +kernel
theorem dX5_at_30 : decode cX5_at 30 = .ok (.istore_n 3, 1) := by decide +kernel
theorem dX5_at_31 : decode cX5_at 31 = .ok (.aload_n 0, 1) := by decide +kernel
theorem dX5_at_32 : decode cX5_at 32 = .ok (.getfield 10, 3) := by decide +kernel
theorem dX5_at_35 : decode cX5_at 35 = .ok (.iload_n 3, 1) := by decide +kernel
theorem dX5_at_36 : decode cX5_at 36 = .ok (.invokevirtual 68, 3) := by decide +kernel
theorem dX5_at_39 : decode cX5_at 39 = .ok (.ifCond .ne 13, 3) := by decide +kernel
theorem dX5_at_42 : decode cX5_at 42 = .ok (.new 87, 3) := by decide +kernel
theorem dX5_at_45 : decode cX5_at 45 = .ok (.dup, 1) := by decide +kernel
theorem dX5_at_46 : decode cX5_at 46 = .ok (.ldc 89, 2) := by decide +kernel
theorem dX5_at_48 : decode cX5_at 48 = .ok (.invokespecial 91, 3) := by decide +kernel
theorem dX5_at_51 : decode cX5_at 51 = .ok (.athrow, 1) := by decide +kernel
theorem dX5_at_52 : decode cX5_at 52 = .ok (.iload_n 2, 1) := by decide +kernel
theorem dX5_at_53 : decode cX5_at 53 = .ok (.ifCond .ne 13, 3) := by decide +kernel
theorem dX5_at_56 : decode cX5_at 56 = .ok (.aload_n 0, 1) := by decide +kernel
theorem dX5_at_57 : decode cX5_at 57 = .ok (.getfield 10, 3) := by decide +kernel
theorem dX5_at_60 : decode cX5_at 60 = .ok (.getfield 92, 3) := by decide +kernel
theorem dX5_at_63 : decode cX5_at 63 = .ok (.iload_n 3, 1) := by decide +kernel
theorem dX5_at_64 : decode cX5_at 64 = .ok (.iaload, 1) := by decide +kernel
theorem dX5_at_65 : decode cX5_at 65 = .ok (.ireturn, 1) := by decide +kernel
theorem dX5_at_66 : decode cX5_at 66 = .ok (.iload_n 2, 1) := by decide +kernel
theorem dX5_at_67 : decode cX5_at 67 = .ok (.iconst 1, 1) := by decide +kernel
theorem dX5_at_68 : decode cX5_at 68 = .ok (.if_icmp .ne 15, 3) := by decide +kernel
theorem dX5_at_71 : decode cX5_at 71 = .ok (.aload_n 0, 1) := by decide +kernel
theorem dX5_at_72 : decode cX5_at 72 = .ok (.getfield 10, 3) := by decide +kernel
theorem dX5_at_75 : decode cX5_at 75 = .ok (.getfield 95, 3) := by decide +kernel
theorem dX5_at_78 : decode cX5_at 78 = .ok (.iload_n 3, 1) := by decide +kernel
theorem dX5_at_79 : decode cX5_at 79 = .ok (.iaload, 1) := by decide +kernel
theorem dX5_at_80 : decode cX5_at 80 = .ok (.goto 4, 3) := by decide +kernel
theorem dX5_at_83 : decode cX5_at 83 = .ok (.iload_n 3, 1) := by decide +kernel
theorem dX5_at_84 : decode cX5_at 84 = .ok (.ireturn, 1) := by decide +kernel
theorem dX5_side_0 : decode cX5_side 0 = .ok (.aload_n 0, 1) := by decide +kernel
theorem dX5_side_1 : decode cX5_side 1 = .ok (.getfield 10, 3) := by decide +kernel
theorem dX5_side_4 : decode cX5_side 4 = .ok (.iload_n 1, 1) := by decide +kernel
theorem dX5_side_5 : decode cX5_side 5 = .ok (.iload_n 2, 1) := by decide +kernel
theorem dX5_side_6 : decode cX5_side 6 = .ok (.iload_n 3, 1) := by decide +kernel
theorem dX5_side_7 : decode cX5_side 7 = .ok (.invokevirtual 98, 3) := by decide +kernel
theorem dX5_side_10 : decode cX5_side 10 = .ok (.ifCond .ne 6, 3) := by decide +kernel
theorem dX5_side_13 : decode cX5_side 13 = .ok (.bipush (-2), 2) := by decide +kernel
theorem dX5_side_15 : decode cX5_side 15 = .ok (.ireturn, 1) := by decide +kernel
theorem dX5_side_16 : decode cX5_side 16 = .ok (.aload_n 0, 1) := by decide +kernel
theorem dX5_side_17 : decode cX5_side 17 = .ok (.getfield 10, 3) := by decide +kernel
theorem dX5_side_20 : decode cX5_side 20 = .ok (.iload_n 1, 1) := by decide +kernel
theorem dX5_side_21 : decode cX5_side 21 = .ok (.iload_n 2, 1) := by decide +kernel
theorem dX5_side_22 : decode cX5_side 22 = .ok (.invokevirtual 102, 3) := by decide +kernel
theorem dX5_side_25 : decode cX5_side 25 = .ok (.ifCond .eq 6, 3) := by decide +kernel
theorem dX5_side_28 : decode cX5_side 28 = .ok (.bipush (-4), 2) := by decide +kernel
theorem dX5_side_30 : decode cX5_side 30 = .ok (.ireturn, 1) := by decide +kernel
theorem dX5_side_31 : decode cX5_side 31 = .ok (.aload_n 0, 1) := by decide +kernel
theorem dX5_side_32 : decode cX5_side 32 = .ok (.getfield 21, 3) := by decide +kernel
theorem dX5_side_35 : decode cX5_side 35 = .ok (.aload_n 0, 1) := by decide +kernel
theorem dX5_side_36 : decode cX5_side 36 = .ok (.getfield 21, 3) := by decide +kernel
theorem dX5_side_39 : decode cX5_side 39 = .ok (.iload_n 1, 1) := by decide +kernel
theorem dX5_side_40 : decode cX5_side 40 = .ok (.iload_n 2, 1) := by decide +kernel
theorem dX5_side_41 : decode cX5_side 41 = .ok (.iload_n 3, 1) := by decide +kernel
theorem dX5_side_42 : decode cX5_side 42 = .ok (.invokevirtual 106, 3) := by decide +kernel
theorem dX5_side_45 : decode cX5_side 45 = .ok (.aload_n 0, 1) := by decide +kernel
theorem dX5_side_46 : decode cX5_side 46 = .ok (.getfield 10, 3) := by decide +kernel
theorem dX5_side_49 : decode cX5_side 49 = .ok (.iload_n 1, 1) := by decide +kernel
theorem dX5_side_50 : decode cX5_side 50 = .ok (.iload_n 2, 1) := by decide +kernel
theorem dX5_side_51 : decode cX5_side 51 = .ok (.iload_n 3, 1) := by decide +kernel
theorem dX5_side_52 : decode cX5_side 52 = .ok (.invokevirtual 109, 3) := by decide +kernel
theorem dX5_side_55 : decode cX5_side 55 = .ok (.invokevirtual 113, 3) := by decide +kernel
theorem dX5_side_58 : decode cX5_side 58 = .ok (.ireturn, 1) := by decide +kernel
theorem dX5_circle_0 : decode cX5_circle 0 = .ok (.aload_n 0, 1) := by decide +kernel
theorem dX5_circle_1 : decode cX5_circle 1 = .ok (.getfield 10, 3) := by decide +kernel
theorem dX5_circle_4 : decode cX5_circle 4 = .ok (.iload_n 1, 1) := by decide +kernel
theorem dX5_circle_5 : decode cX5_circle 5 = .ok (.iload_n 2, 1) := by decide +kernel
theorem dX5_circle_6 : decode cX5_circle 6 = .ok (.iload_n 3, 1) := by decide +kernel
theorem dX5_circle_7 : decode cX5_circle 7 = .ok (.invokevirtual 98, 3) := by decide +kernel
theorem dX5_circle_10 : decode cX5_circle 10 = .ok (.ifCond .eq 15, 3) := by decide +kernel
theorem dX5_circle_13 : decode cX5_circle 13 = .ok (.aload_n 0, 1) := by decide +kernel
theorem dX5_circle_14 : decode cX5_circle 14 = .ok (.getfield 10, 3) := by decide +kernel
theorem dX5_circle_17 : decode cX5_circle 17 = .ok (.iload 4, 2) := by decide +kernel
theorem dX5_circle_19 : decode cX5_circle 19 = .ok (.invokevirtual 68, 3) := by decide +kernel
theorem dX5_circle_22 : decode cX5_circle 22 = .ok (.ifCond .ne 6, 3) := by decide +kernel
theorem dX5_circle_25 : decode cX5_circle 25 = .ok (.bipush (-2), 2) := by decide +kernel
theorem dX5_circle_27 : decode cX5_circle 27 = .ok (.ireturn, 1) := by decide +kernel
theorem dX5_circle_28 : decode cX5_circle 28 = .ok (.aload_n 0, 1) := by decide +kernel
theorem dX5_circle_29 : decode cX5_circle 29 = .ok (.getfield 10, 3) := by decide +kernel
theorem dX5_circle_32 : decode cX5_circle 32 = .ok (.iload_n 1, 1) := by decide +kernel
theorem dX5_circle_33 : decode cX5_circle 33 = .ok (.iload_n 2, 1) := by decide +kernel
theorem dX5_circle_34 : decode cX5_circle 34 = .ok (.iload_n 3, 1) := by decide +kernel
theorem dX5_circle_35 : decode cX5_circle 35 = .ok (.invokevirtual 109, 3) := by decide +kernel
theorem dX5_circle_38 : decode cX5_circle 38 = .ok (.ifCond .ne 6, 3) := by decide +kernel
theorem dX5_circle_41 : decode cX5_circle 41 = .ok (.bipush (-4), 2) := by decide +kernel
theorem dX5_circle_43 : decode cX5_circle 43 = .ok (.ireturn, 1) := by decide +kernel
theorem dX5_circle_44 : decode cX5_circle 44 = .ok (.aload_n 0, 1) := by decide +kernel
theorem dX5_circle_45 : decode cX5_circle 45 = .ok (.getfield 21, 3) := by decide +kernel
theorem dX5_circle_48 : decode cX5_circle 48 = .ok (.aload_n 0, 1) := by decide +kernel
theorem dX5_circle_49 : decode cX5_circle 49 = .ok (.getfield 21, 3) := by decide +kernel
theorem dX5_circle_52 : decode cX5_circle 52 = .ok (.iload_n 1, 1) := by decide +kernel
theorem dX5_circle_53 : decode cX5_circle 53 = .ok (.iload_n 2, 1) := by decide +kernel
theorem dX5_circle_54 : decode cX5_circle 54 = .ok (.iload_n 3, 1) := by decide +kernel
theorem dX5_circle_55 : decode cX5_circle 55 = .ok (.iload 4, 2) := by decide +kernel
theorem dX5_circle_57 : decode cX5_circle 57 = .ok (.invokevirtual 117, 3) := by decide +kernel
theorem dX5_circle_60 : decode cX5_circle 60 = .ok (.aload_n 0, 1) := by decide +kernel
theorem dX5_circle_61 : decode cX5_circle 61 = .ok (.getfield 10, 3) := by decide +kernel
theorem dX5_circle_64 : decode cX5_circle 64 = .ok (.iload_n 1, 1) := by decide +kernel
theorem dX5_circle_65 : decode cX5_circle 65 = .ok (.iload_n 2, 1) := by decide +kernel
theorem dX5_circle_66 : decode cX5_circle 66 = .ok (.iload_n 3, 1) := by decide +kernel
theorem dX5_circle_67 : decode cX5_circle 67 = .ok (.iload 4, 2) := by decide +kernel
theorem dX5_circle_69 : decode cX5_circle 69 = .ok (.invokevirtual 121, 3) := by decide +kernel
theorem dX5_circle_72 : decode cX5_circle 72 = .ok (.invokevirtual 113, 3) := by decide +kernel
theorem dX5_circle_75 : decode cX5_circle 75 = .ok (.ireturn, 1) := by decide +kernel
theorem dX5_filter_0 : decode cX5_filter 0 = .ok (.aload_n 0, 1) := by decide +kernel
theorem dX5_filter_1 : decode cX5_filter 1 = .ok (.getfield 21, 3) := by decide +kernel
theorem dX5_filter_4 : decode cX5_filter 4 = .ok (.getfield 125, 3) := by decide +kernel
theorem dX5_filter_7 : decode cX5_filter 7 = .ok (.ifCond .eq 7, 3) := by decide +kernel
theorem dX5_filter_10 : decode cX5_filter 10 = .ok (.iconst 1, 1) := by decide +kernel
theorem dX5_filter_11 : decode cX5_filter 11 = .ok (.goto 4, 3) := by decide +kernel
theorem dX5_filter_14 : decode cX5_filter 14 = .ok (.iconst 0, 1) := by decide +kernel
theorem dX5_filter_15 : decode cX5_filter 15 = .ok (.istore_n 2, 1) := by decide +kernel
theorem dX5_filter_16 : decode cX5_filter 16 = .ok (.aload_n 0, 1) := by decide +kernel
theorem dX5_filter_17 : decode cX5_filter 17 = .ok (.getfield 21, 3) := by decide +kernel
theorem dX5_filter_20 : decode cX5_filter 20 = .ok (.iload_n 1, 1) := by decide +kernel
theorem dX5_filter_21 : decode cX5_filter 21 = .ok (.putfield 125, 3) := by decide +kernel
theorem dX5_filter_24 : decode cX5_filter 24 = .ok (.iload_n 2, 1) := by decide +kernel
theorem dX5_filter_25 : decode cX5_filter 25 = .ok (.ireturn, 1) := by decide +kernel
theorem dX5_decided_0 : decode cX5_decided 0 = .ok (.iload_n 1, 1) := by decide +kernel
theorem dX5_decided_1 : decode cX5_decided 1 = .ok (.tableswitch 51 0 2 #[27, 35, 43], 27) := by decide +kernel
theorem dX5_decided_28 : decode cX5_decided 28 = .ok (.aload_n 0, 1) := by decide +kernel
theorem dX5_decided_29 : decode cX5_decided 29 = .ok (.getfield 21, 3) := by decide +kernel
theorem dX5_decided_32 : decode cX5_decided 32 = .ok (.getfield 129, 3) := by decide +kernel
theorem dX5_decided_35 : decode cX5_decided 35 = .ok (.ireturn, 1) := by decide +kernel
theorem dX5_decided_36 : decode cX5_decided 36 = .ok (.aload_n 0, 1) := by decide +kernel
theorem dX5_decided_37 : decode cX5_decided 37 = .ok (.getfield 21, 3) := by decide +kernel
theorem dX5_decided_40 : decode cX5_decided 40 = .ok (.getfield 133, 3) := by decide +kernel
theorem dX5_decided_43 : decode cX5_decided 43 = .ok (.ireturn, 1) := by decide +kernel
theorem dX5_decided_44 : decode cX5_decided 44 = .ok (.aload_n 0, 1) := by decide +kernel
theorem dX5_decided_45 : decode cX5_decided 45 = .ok (.getfield 21, 3) := by decide +kernel
theorem dX5_decided_48 : decode cX5_decided 48 = .ok (.getfield 136, 3) := by decide +kernel
theorem dX5_decided_51 : decode cX5_decided 51 = .ok (.ireturn, 1) := by decide +kernel
theorem dX5_decided_52 : decode cX5_decided 52 = .ok (.bipush (-2), 2) := by decide +kernel
theorem dX5_decided_54 : decode cX5_decided 54 = .ok (.ireturn, 1) := by decide +kernel
theorem dX5_between_0 : decode cX5_between 0 = .ok (.aload_n 0, 1) := by decide +kernel
theorem dX5_between_1 : decode cX5_between 1 = .ok (.getfield 10, 3) := by decide +kernel
theorem dX5_between_4 : decode cX5_between 4 = .ok (.iload_n 1, 1) := by decide +kernel
theorem dX5_between_5 : decode cX5_between 5 = .ok (.iload_n 2, 1) := by decide +kernel
theorem dX5_between_6 : decode cX5_between 6 = .ok (.iload_n 3, 1) := by decide +kernel
theorem dX5_between_7 : decode cX5_between 7 = .ok (.invokevirtual 98, 3) := by decide +kernel
theorem dX5_between_10 : decode cX5_between 10 = .ok (.ifCond .eq 16, 3) := by decide +kernel
theorem dX5_between_13 : decode cX5_between 13 = .ok (.aload_n 0, 1) := by decide +kernel
theorem dX5_between_14 : decode cX5_between 14 = .ok (.getfield 28, 3) := by decide +kernel
theorem dX5_between_17 : decode cX5_between 17 = .ok (.iload_n 1, 1) := by decide +kernel
theorem dX5_between_18 : decode cX5_between 18 = .ok (.iload_n 2, 1) := by decide +kernel
theorem dX5_between_19 : decode cX5_between 19 = .ok (.iload_n 3, 1) := by decide +kernel
theorem dX5_between_20 : decode cX5_between 20 = .ok (.invokevirtual 139, 3) := by decide +kernel
theorem dX5_between_23 : decode cX5_between 23 = .ok (.goto 5, 3) := by decide +kernel
theorem dX5_between_26 : decode cX5_between 26 = .ok (.bipush (-2), 2) := by decide +kernel
theorem dX5_between_28 : decode cX5_between 28 = .ok (.ireturn, 1) := by decide +kernel
theorem dX5_inside_0 : decode cX5_inside 0 = .ok (.aload_n 0, 1) := by decide +kernel
theorem dX5_inside_1 : decode cX5_inside 1 = .ok (.getfield 10, 3) := by decide +kernel
theorem dX5_inside_4 : decode cX5_inside 4 = .ok (.iload_n 1, 1) := by decide +kernel
theorem dX5_inside_5 : decode cX5_inside 5 = .ok (.iload_n 2, 1) := by decide +kernel
theorem dX5_inside_6 : decode cX5_inside 6 = .ok (.iload_n 3, 1) := by decide +kernel
theorem dX5_inside_7 : decode cX5_inside 7 = .ok (.invokevirtual 98, 3) := by decide +kernel
theorem dX5_inside_10 : decode cX5_inside 10 = .ok (.ifCond .eq 15, 3) := by decide +kernel
theorem dX5_inside_13 : decode cX5_inside 13 = .ok (.aload_n 0, 1) := by decide +kernel
theorem dX5_inside_14 : decode cX5_inside 14 = .ok (.getfield 10, 3) := by decide +kernel
theorem dX5_inside_17 : decode cX5_inside 17 = .ok (.iload 4, 2) := by decide +kernel
theorem dX5_inside_19 : decode cX5_inside 19 = .ok (.invokevirtual 68, 3) := by decide +kernel
theorem dX5_inside_22 : decode cX5_inside 22 = .ok (.ifCond .ne 6, 3) := by decide +kernel
theorem dX5_inside_25 : decode cX5_inside 25 = .ok (.bipush (-2), 2) := by decide +kernel
theorem dX5_inside_27 : decode cX5_inside 27 = .ok (.ireturn, 1) := by decide +kernel
theorem dX5_inside_28 : decode cX5_inside 28 = .ok (.aload_n 0, 1) := by decide +kernel
theorem dX5_inside_29 : decode cX5_inside 29 = .ok (.getfield 10, 3) := by decide +kernel
theorem dX5_inside_32 : decode cX5_inside 32 = .ok (.iload_n 1, 1) := by decide +kernel
theorem dX5_inside_33 : decode cX5_inside 33 = .ok (.iload_n 2, 1) := by decide +kernel
theorem dX5_inside_34 : decode cX5_inside 34 = .ok (.invokevirtual 102, 3) := by decide +kernel
theorem dX5_inside_37 : decode cX5_inside 37 = .ok (.ifCond .ne 15, 3) := by decide +kernel
theorem dX5_inside_40 : decode cX5_inside 40 = .ok (.aload_n 0, 1) := by decide +kernel
theorem dX5_inside_41 : decode cX5_inside 41 = .ok (.getfield 10, 3) := by decide +kernel
theorem dX5_inside_44 : decode cX5_inside 44 = .ok (.iload_n 1, 1) := by decide +kernel
theorem dX5_inside_45 : decode cX5_inside 45 = .ok (.iload_n 3, 1) := by decide +kernel
theorem dX5_inside_46 : decode cX5_inside 46 = .ok (.invokevirtual 102, 3) := by decide +kernel
theorem dX5_inside_49 : decode cX5_inside 49 = .ok (.ifCond .eq 6, 3) := by decide +kernel
theorem dX5_inside_52 : decode cX5_inside 52 = .ok (.bipush (-4), 2) := by decide +kernel
theorem dX5_inside_54 : decode cX5_inside 54 = .ok (.ireturn, 1) := by decide +kernel
theorem dX5_inside_55 : decode cX5_inside 55 = .ok (.aload_n 0, 1) := by decide +kernel
theorem dX5_inside_56 : decode cX5_inside 56 = .ok (.getfield 28, 3) := by decide +kernel
theorem dX5_inside_59 : decode cX5_inside 59 = .ok (.iload_n 1, 1) := by decide +kernel
theorem dX5_inside_60 : decode cX5_inside 60 = .ok (.iload_n 2, 1) := by decide +kernel
theorem dX5_inside_61 : decode cX5_inside 61 = .ok (.iload_n 3, 1) := by decide +kernel
theorem dX5_inside_62 : decode cX5_inside 62 = .ok (.iload 4, 2) := by decide +kernel
theorem dX5_inside_64 : decode cX5_inside 64 = .ok (.invokevirtual 142, 3) := by decide +kernel
theorem dX5_inside_67 : decode cX5_inside 67 = .ok (.ireturn, 1) := by decide +kernel
theorem dX5_cross_0 : decode cX5_cross 0 = .ok (.aload_n 0, 1) := by decide +kernel
theorem dX5_cross_1 : decode cX5_cross 1 = .ok (.getfield 10, 3) := by decide +kernel
theorem dX5_cross_4 : decode cX5_cross 4 = .ok (.iload_n 1, 1) := by decide +kernel
theorem dX5_cross_5 : decode cX5_cross 5 = .ok (.iload_n 2, 1) := by decide +kernel
theorem dX5_cross_6 : decode cX5_cross 6 = .ok (.iload_n 3, 1) := by decide +kernel
theorem dX5_cross_7 : decode cX5_cross 7 = .ok (.invokevirtual 98, 3) := by decide +kernel
theorem dX5_cross_10 : decode cX5_cross 10 = .ok (.ifCond .eq 15, 3) := by decide +kernel
theorem dX5_cross_13 : decode cX5_cross 13 = .ok (.aload_n 0, 1) := by decide +kernel
theorem dX5_cross_14 : decode cX5_cross 14 = .ok (.getfield 10, 3) := by decide +kernel
theorem dX5_cross_17 : decode cX5_cross 17 = .ok (.iload 4, 2) := by decide +kernel
theorem dX5_cross_19 : decode cX5_cross 19 = .ok (.invokevirtual 68, 3) := by decide +kernel
theorem dX5_cross_22 : decode cX5_cross 22 = .ok (.ifCond .ne 6, 3) := by decide +kernel
theorem dX5_cross_25 : decode cX5_cross 25 = .ok (.bipush (-2), 2) := by decide +kernel
theorem dX5_cross_27 : decode cX5_cross 27 = .ok (.ireturn, 1) := by decide +kernel
theorem dX5_cross_28 : decode cX5_cross 28 = .ok (.aload_n 0, 1) := by decide +kernel
theorem dX5_cross_29 : decode cX5_cross 29 = .ok (.getfield 28, 3) := by decide +kernel
theorem dX5_cross_32 : decode cX5_cross 32 = .ok (.iload_n 1, 1) := by decide +kernel
theorem dX5_cross_33 : decode cX5_cross 33 = .ok (.iload_n 2, 1) := by decide +kernel
theorem dX5_cross_34 : decode cX5_cross 34 = .ok (.iload_n 3, 1) := by decide +kernel
theorem dX5_cross_35 : decode cX5_cross 35 = .ok (.iload 4, 2) := by decide +kernel
theorem dX5_cross_37 : decode cX5_cross 37 = .ok (.invokevirtual 145, 3) := by decide +kernel
theorem dX5_cross_40 : decode cX5_cross 40 = .ok (.ireturn, 1) := by decide +kernel
theorem dX5_separated_0 : decode cX5_separated 0 = .ok (.aload_n 0, 1) := by decide +kernel
theorem dX5_separated_1 : decode cX5_separated 1 = .ok (.getfield 10, 3) := by decide +kernel
theorem dX5_separated_4 : decode cX5_separated 4 = .ok (.iload_n 1, 1) := by decide +kernel
theorem dX5_separated_5 : decode cX5_separated 5 = .ok (.iload_n 2, 1) := by decide +kernel
theorem dX5_separated_6 : decode cX5_separated 6 = .ok (.iload_n 3, 1) := by decide +kernel
theorem dX5_separated_7 : decode cX5_separated 7 = .ok (.invokevirtual 98, 3) := by decide +kernel
theorem dX5_separated_10 : decode cX5_separated 10 = .ok (.ifCond .eq 15, 3) := by decide +kernel
theorem dX5_separated_13 : decode cX5_separated 13 = .ok (.aload_n 0, 1) := by decide +kernel
theorem dX5_separated_14 : decode cX5_separated 14 = .ok (.getfield 10, 3) := by decide +kernel
theorem dX5_separated_17 : decode cX5_separated 17 = .ok (.iload 4, 2) := by decide +kernel
theorem dX5_separated_19 : decode cX5_separated 19 = .ok (.invokevirtual 68, 3) := by decide +kernel
theorem dX5_separated_22 : decode cX5_separated 22 = .ok (.ifCond .ne 6, 3) := by decide +kernel
theorem dX5_separated_25 : decode cX5_separated 25 = .ok (.bipush (-2), 2) := by decide +kernel
theorem dX5_separated_27 : decode cX5_separated 27 = .ok (.ireturn, 1) := by decide +kernel
theorem dX5_separated_28 : decode cX5_separated 28 = .ok (.aload_n 0, 1) := by decide +kernel
theorem dX5_separated_29 : decode cX5_separated 29 = .ok (.getfield 28, 3) := by decide +kernel
theorem dX5_separated_32 : decode cX5_separated 32 = .ok (.iload_n 1, 1) := by decide +kernel
theorem dX5_separated_33 : decode cX5_separated 33 = .ok (.iload_n 2, 1) := by decide +kernel
theorem dX5_separated_34 : decode cX5_separated 34 = .ok (.iload_n 3, 1) := by decide +kernel
theorem dX5_separated_35 : decode cX5_separated 35 = .ok (.iload 4, 2) := by decide +kernel
theorem dX5_separated_37 : decode cX5_separated 37 = .ok (.invokevirtual 148, 3) := by decide +kernel
theorem dX5_separated_40 : decode cX5_separated 40 = .ok (.ireturn, 1) := by decide +kernel
theorem dX5_convex_0 : decode cX5_convex 0 = .ok (.aload_n 0, 1) := by decide +kernel
theorem dX5_convex_1 : decode cX5_convex 1 = .ok (.getfield 35, 3) := by decide +kernel
theorem dX5_convex_4 : decode cX5_convex 4 = .ok (.iload_n 1, 1) := by decide +kernel
theorem dX5_convex_5 : decode cX5_convex 5 = .ok (.iconst 3, 1) := by decide +kernel
theorem dX5_convex_6 : decode cX5_convex 6 = .ok (.invokevirtual 151, 3) := by decide +kernel
theorem dX5_convex_9 : decode cX5_convex 9 = .ok (.istore_n 2, 1) := by decide +kernel
theorem dX5_convex_10 : decode cX5_convex 10 = .ok (.iload_n 2, 1) := by decide +kernel
theorem dX5_convex_11 : decode cX5_convex 11 = .ok (.ifCond .ne 14, 3) := by decide +kernel
theorem dX5_convex_14 : decode cX5_convex 14 = .ok (.aload_n 0, 1) := by decide +kernel
theorem dX5_convex_15 : decode cX5_convex 15 = .ok (.getfield 35, 3) := by decide +kernel
theorem dX5_convex_18 : decode cX5_convex 18 = .ok (.iload_n 1, 1) := by decide +kernel
theorem dX5_convex_19 : decode cX5_convex 19 = .ok (.invokevirtual 154, 3) := by decide +kernel
theorem dX5_convex_22 : decode cX5_convex 22 = .ok (.goto 4, 3) := by decide +kernel
theorem dX5_convex_25 : decode cX5_convex 25 = .ok (.iload_n 2, 1) := by decide +kernel
theorem dX5_convex_26 : decode cX5_convex 26 = .ok (.ireturn, 1) := by decide +kernel
theorem dX5_polygon_0 : decode cX5_polygon 0 = .ok (.aload_n 0, 1) := by decide +kernel
theorem dX5_polygon_1 : decode cX5_polygon 1 = .ok (.getfield 10, 3) := by decide +kernel
theorem dX5_polygon_4 : decode cX5_polygon 4 = .ok (.iload_n 2, 1) := by decide +kernel
theorem dX5_polygon_5 : decode cX5_polygon 5 = .ok (.invokevirtual 68, 3) := by decide +kernel
theorem dX5_polygon_8 : decode cX5_polygon 8 = .ok (.ifCond .eq 15, 3) := by decide +kernel
theorem dX5_polygon_11 : decode cX5_polygon 11 = .ok (.aload_n 0, 1) := by decide +kernel
theorem dX5_polygon_12 : decode cX5_polygon 12 = .ok (.getfield 35, 3) := by decide +kernel
theorem dX5_polygon_15 : decode cX5_polygon 15 = .ok (.iload_n 1, 1) := by decide +kernel
theorem dX5_polygon_16 : decode cX5_polygon 16 = .ok (.iconst 1, 1) := by decide +kernel
theorem dX5_polygon_17 : decode cX5_polygon 17 = .ok (.invokevirtual 151, 3) := by decide +kernel
theorem dX5_polygon_20 : decode cX5_polygon 20 = .ok (.goto 5, 3) := by decide +kernel
theorem dX5_polygon_23 : decode cX5_polygon 23 = .ok (.bipush (-2), 2) := by decide +kernel
theorem dX5_polygon_25 : decode cX5_polygon 25 = .ok (.istore_n 3, 1) := by decide +kernel
theorem dX5_polygon_26 : decode cX5_polygon 26 = .ok (.iload_n 3, 1) := by decide +kernel
theorem dX5_polygon_27 : decode cX5_polygon 27 = .ok (.ifCond .eq 5, 3) := by decide +kernel
theorem dX5_polygon_30 : decode cX5_polygon 30 = .ok (.iload_n 3, 1) := by decide +kernel
theorem dX5_polygon_31 : decode cX5_polygon 31 = .ok (.ireturn, 1) := by decide +kernel
theorem dX5_polygon_32 : decode cX5_polygon 32 = .ok (.aload_n 0, 1) := by decide +kernel
theorem dX5_polygon_33 : decode cX5_polygon 33 = .ok (.getfield 35, 3) := by decide +kernel
theorem dX5_polygon_36 : decode cX5_polygon 36 = .ok (.iload_n 1, 1) := by decide +kernel
theorem dX5_polygon_37 : decode cX5_polygon 37 = .ok (.iload_n 2, 1) := by decide +kernel
theorem dX5_polygon_38 : decode cX5_polygon 38 = .ok (.invokevirtual 157, 3) := by decide +kernel
theorem dX5_polygon_41 : decode cX5_polygon 41 = .ok (.ifCond .eq 5, 3) := by decide +kernel
theorem dX5_polygon_44 : decode cX5_polygon 44 = .ok (.iconst 2, 1) := by decide +kernel
theorem dX5_polygon_45 : decode cX5_polygon 45 = .ok (.ireturn, 1) := by decide +kernel
theorem dX5_polygon_46 : decode cX5_polygon 46 = .ok (.aload_n 0, 1) := by decide +kernel
theorem dX5_polygon_47 : decode cX5_polygon 47 = .ok (.getfield 35, 3) := by decide +kernel
theorem dX5_polygon_50 : decode cX5_polygon 50 = .ok (.iload_n 1, 1) := by decide +kernel
theorem dX5_polygon_51 : decode cX5_polygon 51 = .ok (.iload_n 2, 1) := by decide +kernel
theorem dX5_polygon_52 : decode cX5_polygon 52 = .ok (.invokevirtual 160, 3) := by decide +kernel
theorem dX5_polygon_55 : decode cX5_polygon 55 = .ok (.aload_n 0, 1) := by decide +kernel
theorem dX5_polygon_56 : decode cX5_polygon 56 = .ok (.getfield 35, 3) := by decide +kernel
theorem dX5_polygon_59 : decode cX5_polygon 59 = .ok (.iload_n 1, 1) := by decide +kernel
theorem dX5_polygon_60 : decode cX5_polygon 60 = .ok (.iload_n 2, 1) := by decide +kernel
theorem dX5_polygon_61 : decode cX5_polygon 61 = .ok (.invokevirtual 163, 3) := by decide +kernel
theorem dX5_polygon_64 : decode cX5_polygon 64 = .ok (.iadd, 1) := by decide +kernel
theorem dX5_polygon_65 : decode cX5_polygon 65 = .ok (.iconst 2, 1) := by decide +kernel
theorem dX5_polygon_66 : decode cX5_polygon 66 = .ok (.irem, 1) := by decide +kernel
theorem dX5_polygon_67 : decode cX5_polygon 67 = .ok (.ireturn, 1) := by decide +kernel
theorem dX5_winding_0 : decode cX5_winding 0 = .ok (.aload_n 0, 1) := by decide +kernel
theorem dX5_winding_1 : decode cX5_winding 1 = .ok (.getfield 10, 3) := by decide +kernel
theorem dX5_winding_4 : decode cX5_winding 4 = .ok (.iload_n 2, 1) := by decide +kernel
theorem dX5_winding_5 : decode cX5_winding 5 = .ok (.invokevirtual 68, 3) := by decide +kernel
theorem dX5_winding_8 : decode cX5_winding 8 = .ok (.ifCond .eq 15, 3) := by decide +kernel
theorem dX5_winding_11 : decode cX5_winding 11 = .ok (.aload_n 0, 1) := by decide +kernel
theorem dX5_winding_12 : decode cX5_winding 12 = .ok (.getfield 35, 3) := by decide +kernel
theorem dX5_winding_15 : decode cX5_winding 15 = .ok (.iload_n 1, 1) := by decide +kernel
theorem dX5_winding_16 : decode cX5_winding 16 = .ok (.iconst 1, 1) := by decide +kernel
theorem dX5_winding_17 : decode cX5_winding 17 = .ok (.invokevirtual 151, 3) := by decide +kernel
theorem dX5_winding_20 : decode cX5_winding 20 = .ok (.ifCond .eq 6, 3) := by decide +kernel
theorem dX5_winding_23 : decode cX5_winding 23 = .ok (.bipush (-100), 2) := by decide +kernel
theorem dX5_winding_25 : decode cX5_winding 25 = .ok (.ireturn, 1) := by decide +kernel
theorem dX5_winding_26 : decode cX5_winding 26 = .ok (.aload_n 0, 1) := by decide +kernel
theorem dX5_winding_27 : decode cX5_winding 27 = .ok (.getfield 35, 3) := by decide +kernel
theorem dX5_winding_30 : decode cX5_winding 30 = .ok (.iload_n 1, 1) := by decide +kernel
theorem dX5_winding_31 : decode cX5_winding 31 = .ok (.iload_n 2, 1) := by decide +kernel
theorem dX5_winding_32 : decode cX5_winding 32 = .ok (.invokevirtual 157, 3) := by decide +kernel
theorem dX5_winding_35 : decode cX5_winding 35 = .ok (.ifCond .eq 6, 3) := by decide +kernel
theorem dX5_winding_38 : decode cX5_winding 38 = .ok (.bipush 100, 2) := by decide +kernel
theorem dX5_winding_40 : decode cX5_winding 40 = .ok (.ireturn, 1) := by decide +kernel
theorem dX5_winding_41 : decode cX5_winding 41 = .ok (.aload_n 0, 1) := by decide +kernel
theorem dX5_winding_42 : decode cX5_winding 42 = .ok (.getfield 35, 3) := by decide +kernel
theorem dX5_winding_45 : decode cX5_winding 45 = .ok (.iload_n 1, 1) := by decide +kernel
theorem dX5_winding_46 : decode cX5_winding 46 = .ok (.iload_n 2, 1) := by decide +kernel
theorem dX5_winding_47 : decode cX5_winding 47 = .ok (.invokevirtual 160, 3) := by decide +kernel
theorem dX5_winding_50 : decode cX5_winding 50 = .ok (.aload_n 0, 1) := by decide +kernel
theorem dX5_winding_51 : decode cX5_winding 51 = .ok (.getfield 35, 3) := by decide +kernel
theorem dX5_winding_54 : decode cX5_winding 54 = .ok (.iload_n 1, 1) := by decide +kernel
theorem dX5_winding_55 : decode cX5_winding 55 = .ok (.iload_n 2, 1) := by decide +kernel
theorem dX5_winding_56 : decode cX5_winding 56 = .ok (.invokevirtual 163, 3) := by decide +kernel
theorem dX5_winding_59 : decode cX5_winding 59 = .ok (.isub, 1) := by decide +kernel
theorem dX5_winding_60 : decode cX5_winding 60 = .ok (.ireturn, 1) := by decide +kernel
theorem dX5_nearest_0 : decode cX5_nearest 0 = .ok (.aload_n 0, 1) := by decide +kernel
theorem dX5_nearest_1 : decode cX5_nearest 1 = .ok (.getfield 10, 3) := by decide +kernel
theorem dX5_nearest_4 : decode cX5_nearest 4 = .ok (.iload_n 1, 1) := by decide +kernel
theorem dX5_nearest_5 : decode cX5_nearest 5 = .ok (.invokevirtual 68, 3) := by decide +kernel
theorem dX5_nearest_8 : decode cX5_nearest 8 = .ok (.ifCond .eq 15, 3) := by decide +kernel
theorem dX5_nearest_11 : decode cX5_nearest 11 = .ok (.aload_n 0, 1) := by decide +kernel
theorem dX5_nearest_12 : decode cX5_nearest 12 = .ok (.getfield 35, 3) := by decide +kernel
theorem dX5_nearest_15 : decode cX5_nearest 15 = .ok (.iload_n 2, 1) := by decide +kernel
theorem dX5_nearest_16 : decode cX5_nearest 16 = .ok (.iconst 1, 1) := by decide +kernel
theorem dX5_nearest_17 : decode cX5_nearest 17 = .ok (.invokevirtual 151, 3) := by decide +kernel
theorem dX5_nearest_20 : decode cX5_nearest 20 = .ok (.goto 5, 3) := by decide +kernel
theorem dX5_nearest_23 : decode cX5_nearest 23 = .ok (.bipush (-2), 2) := by decide +kernel
theorem dX5_nearest_25 : decode cX5_nearest 25 = .ok (.istore_n 3, 1) := by decide +kernel
theorem dX5_nearest_26 : decode cX5_nearest 26 = .ok (.iload_n 3, 1) := by decide +kernel
theorem dX5_nearest_27 : decode cX5_nearest 27 = .ok (.ifCond .ne 15, 3) := by decide +kernel
theorem dX5_nearest_30 : decode cX5_nearest 30 = .ok (.aload_n 0, 1) := by decide +kernel
theorem dX5_nearest_31 : decode cX5_nearest 31 = .ok (.getfield 35, 3) := by decide +kernel
theorem dX5_nearest_34 : decode cX5_nearest 34 = .ok (.iload_n 1, 1) := by decide +kernel
theorem dX5_nearest_35 : decode cX5_nearest 35 = .ok (.iload_n 2, 1) := by decide +kernel
theorem dX5_nearest_36 : decode cX5_nearest 36 = .ok (.invokevirtual 166, 3) := by decide +kernel
theorem dX5_nearest_39 : decode cX5_nearest 39 = .ok (.goto 4, 3) := by decide +kernel
theorem dX5_nearest_42 : decode cX5_nearest 42 = .ok (.iload_n 3, 1) := by decide +kernel
theorem dX5_nearest_43 : decode cX5_nearest 43 = .ok (.ireturn, 1) := by decide +kernel
theorem dX5_around_0 : decode cX5_around 0 = .ok (.aload_n 0, 1) := by decide +kernel
theorem dX5_around_1 : decode cX5_around 1 = .ok (.getfield 10, 3) := by decide +kernel
theorem dX5_around_4 : decode cX5_around 4 = .ok (.iload_n 1, 1) := by decide +kernel
theorem dX5_around_5 : decode cX5_around 5 = .ok (.invokevirtual 68, 3) := by decide +kernel
theorem dX5_around_8 : decode cX5_around 8 = .ok (.ifCond .eq 24, 3) := by decide +kernel
theorem dX5_around_11 : decode cX5_around 11 = .ok (.iload_n 3, 1) := by decide +kernel
theorem dX5_around_12 : decode cX5_around 12 = .ok (.ifCond .lt 20, 3) := by decide +kernel
theorem dX5_around_15 : decode cX5_around 15 = .ok (.iload_n 3, 1) := by decide +kernel
theorem dX5_around_16 : decode cX5_around 16 = .ok (.iload_n 2, 1) := by decide +kernel
theorem dX5_around_17 : decode cX5_around 17 = .ok (.if_icmp .ge 15, 3) := by decide +kernel
theorem dX5_around_20 : decode cX5_around 20 = .ok (.aload_n 0, 1) := by decide +kernel
theorem dX5_around_21 : decode cX5_around 21 = .ok (.getfield 35, 3) := by decide +kernel
theorem dX5_around_24 : decode cX5_around 24 = .ok (.iload_n 2, 1) := by decide +kernel
theorem dX5_around_25 : decode cX5_around 25 = .ok (.iconst 1, 1) := by decide +kernel
theorem dX5_around_26 : decode cX5_around 26 = .ok (.invokevirtual 151, 3) := by decide +kernel
theorem dX5_around_29 : decode cX5_around 29 = .ok (.goto 5, 3) := by decide +kernel
theorem dX5_around_32 : decode cX5_around 32 = .ok (.bipush (-2), 2) := by decide +kernel
theorem dX5_around_34 : decode cX5_around 34 = .ok (.istore 4, 2) := by decide +kernel
theorem dX5_around_36 : decode cX5_around 36 = .ok (.iload 4, 2) := by decide +kernel
theorem dX5_around_38 : decode cX5_around 38 = .ok (.ifCond .ne 16, 3) := by decide +kernel
theorem dX5_around_41 : decode cX5_around 41 = .ok (.aload_n 0, 1) := by decide +kernel
theorem dX5_around_42 : decode cX5_around 42 = .ok (.getfield 35, 3) := by decide +kernel
theorem dX5_around_45 : decode cX5_around 45 = .ok (.iload_n 1, 1) := by decide +kernel
theorem dX5_around_46 : decode cX5_around 46 = .ok (.iload_n 2, 1) := by decide +kernel
theorem dX5_around_47 : decode cX5_around 47 = .ok (.iload_n 3, 1) := by decide +kernel
theorem dX5_around_48 : decode cX5_around 48 = .ok (.invokevirtual 169, 3) := by decide +kernel
theorem dX5_around_51 : decode cX5_around 51 = .ok (.goto 5, 3) := by decide +kernel
theorem dX5_around_54 : decode cX5_around 54 = .ok (.iload 4, 2) := by decide +kernel
theorem dX5_around_56 : decode cX5_around 56 = .ok (.ireturn, 1) := by decide +kernel
theorem dX5_order_0 : decode cX5_order 0 = .ok (.iload_n 2, 1) := by decide +kernel
theorem dX5_order_1 : decode cX5_order 1 = .ok (.ifCond .lt 20, 3) := by decide +kernel
theorem dX5_order_4 : decode cX5_order 4 = .ok (.iload_n 2, 1) := by decide +kernel
theorem dX5_order_5 : decode cX5_order 5 = .ok (.iload_n 1, 1) := by decide +kernel
theorem dX5_order_6 : decode cX5_order 6 = .ok (.if_icmp .ge 15, 3) := by decide +kernel
theorem dX5_order_9 : decode cX5_order 9 = .ok (.aload_n 0, 1) := by decide +kernel
theorem dX5_order_10 : decode cX5_order 10 = .ok (.getfield 35, 3) := by decide +kernel
theorem dX5_order_13 : decode cX5_order 13 = .ok (.iload_n 1, 1) := by decide +kernel
theorem dX5_order_14 : decode cX5_order 14 = .ok (.iconst 1, 1) := by decide +kernel
theorem dX5_order_15 : decode cX5_order 15 = .ok (.invokevirtual 151, 3) := by decide +kernel
theorem dX5_order_18 : decode cX5_order 18 = .ok (.goto 5, 3) := by decide +kernel
theorem dX5_order_21 : decode cX5_order 21 = .ok (.bipush (-2), 2) := by decide +kernel
theorem dX5_order_23 : decode cX5_order 23 = .ok (.istore_n 3, 1) := by decide +kernel
theorem dX5_order_24 : decode cX5_order 24 = .ok (.iload_n 3, 1) := by decide +kernel
theorem dX5_order_25 : decode cX5_order 25 = .ok (.ifCond .ne 15, 3) := by decide +kernel
theorem dX5_order_28 : decode cX5_order 28 = .ok (.aload_n 0, 1) := by decide +kernel
theorem dX5_order_29 : decode cX5_order 29 = .ok (.getfield 35, 3) := by decide +kernel
theorem dX5_order_32 : decode cX5_order 32 = .ok (.iload_n 1, 1) := by decide +kernel
theorem dX5_order_33 : decode cX5_order 33 = .ok (.iload_n 2, 1) := by decide +kernel
theorem dX5_order_34 : decode cX5_order 34 = .ok (.invokevirtual 172, 3) := by decide +kernel
theorem dX5_order_37 : decode cX5_order 37 = .ok (.goto 4, 3) := by decide +kernel
theorem dX5_order_40 : decode cX5_order 40 = .ok (.iload_n 3, 1) := by decide +kernel
theorem dX5_order_41 : decode cX5_order 41 = .ok (.ireturn, 1) := by decide +kernel
theorem dX5_area_0 : decode cX5_area 0 = .ok (.aload_n 0, 1) := by decide +kernel
theorem dX5_area_1 : decode cX5_area 1 = .ok (.getfield 35, 3) := by decide +kernel
theorem dX5_area_4 : decode cX5_area 4 = .ok (.iload_n 1, 1) := by decide +kernel
theorem dX5_area_5 : decode cX5_area 5 = .ok (.iconst 1, 1) := by decide +kernel
theorem dX5_area_6 : decode cX5_area 6 = .ok (.invokevirtual 151, 3) := by decide +kernel
theorem dX5_area_9 : decode cX5_area 9 = .ok (.ifCond .eq 5, 3) := by decide +kernel
theorem dX5_area_12 : decode cX5_area 12 = .ok (.lconst 0, 1) := by decide +kernel
theorem dX5_area_13 : decode cX5_area 13 = .ok (.lreturn, 1) := by decide +kernel
theorem dX5_area_14 : decode cX5_area 14 = .ok (.lload_n 2, 1) := by decide +kernel
theorem dX5_area_15 : decode cX5_area 15 = .ok (.lconst 0, 1) := by decide +kernel
theorem dX5_area_16 : decode cX5_area 16 = .ok (.lcmp, 1) := by decide +kernel
theorem dX5_area_17 : decode cX5_area 17 = .ok (.ifCond .ne 13, 3) := by decide +kernel
theorem dX5_area_20 : decode cX5_area 20 = .ok (.new 175, 3) := by decide +kernel
theorem dX5_area_23 : decode cX5_area 23 = .ok (.dup, 1) := by decide +kernel
theorem dX5_area_24 : decode cX5_area 24 = .ok (.ldc 177, 2) := by decide +kernel
theorem dX5_area_26 : decode cX5_area 26 = .ok (.invokespecial 179, 3) := by decide +kernel
theorem dX5_area_29 : decode cX5_area 29 = .ok (.athrow, 1) := by decide +kernel
theorem dX5_area_30 : decode cX5_area 30 = .ok (.aload_n 0, 1) := by decide +kernel
theorem dX5_area_31 : decode cX5_area 31 = .ok (.getfield 35, 3) := by decide +kernel
theorem dX5_area_34 : decode cX5_area 34 = .ok (.iload_n 1, 1) := by decide +kernel
theorem dX5_area_35 : decode cX5_area 35 = .ok (.invokevirtual 180, 3) := by decide +kernel
theorem dX5_area_38 : decode cX5_area 38 = .ok (.lload_n 2, 1) := by decide +kernel
theorem dX5_area_39 : decode cX5_area 39 = .ok (.ldiv, 1) := by decide +kernel
theorem dX5_area_40 : decode cX5_area 40 = .ok (.lreturn, 1) := by decide +kernel
theorem dX5_line_0 : decode cX5_line 0 = .ok (.aload_n 0, 1) := by decide +kernel
theorem dX5_line_1 : decode cX5_line 1 = .ok (.getfield 10, 3) := by decide +kernel
theorem dX5_line_4 : decode cX5_line 4 = .ok (.iload_n 1, 1) := by decide +kernel
theorem dX5_line_5 : decode cX5_line 5 = .ok (.invokevirtual 68, 3) := by decide +kernel
theorem dX5_line_8 : decode cX5_line 8 = .ok (.ifCond .eq 14, 3) := by decide +kernel
theorem dX5_line_11 : decode cX5_line 11 = .ok (.aload_n 0, 1) := by decide +kernel
theorem dX5_line_12 : decode cX5_line 12 = .ok (.getfield 10, 3) := by decide +kernel
theorem dX5_line_15 : decode cX5_line 15 = .ok (.iload_n 2, 1) := by decide +kernel
theorem dX5_line_16 : decode cX5_line 16 = .ok (.invokevirtual 68, 3) := by decide +kernel
theorem dX5_line_19 : decode cX5_line 19 = .ok (.ifCond .ne 6, 3) := by decide +kernel
theorem dX5_line_22 : decode cX5_line 22 = .ok (.bipush (-2), 2) := by decide +kernel
theorem dX5_line_24 : decode cX5_line 24 = .ok (.ireturn, 1) := by decide +kernel
theorem dX5_line_25 : decode cX5_line 25 = .ok (.aload_n 0, 1) := by decide +kernel
theorem dX5_line_26 : decode cX5_line 26 = .ok (.getfield 10, 3) := by decide +kernel
theorem dX5_line_29 : decode cX5_line 29 = .ok (.iload_n 1, 1) := by decide +kernel
theorem dX5_line_30 : decode cX5_line 30 = .ok (.iload_n 2, 1) := by decide +kernel
theorem dX5_line_31 : decode cX5_line 31 = .ok (.invokevirtual 102, 3) := by decide +kernel
theorem dX5_line_34 : decode cX5_line 34 = .ok (.ifCond .eq 6, 3) := by decide +kernel
theorem dX5_line_37 : decode cX5_line 37 = .ok (.bipush (-4), 2) := by decide +kernel
theorem dX5_line_39 : decode cX5_line 39 = .ok (.ireturn, 1) := by decide +kernel
theorem dX5_line_40 : decode cX5_line 40 = .ok (.aload_n 0, 1) := by decide +kernel
theorem dX5_line_41 : decode cX5_line 41 = .ok (.getfield 42, 3) := by decide +kernel
theorem dX5_line_44 : decode cX5_line 44 = .ok (.iload_n 1, 1) := by decide +kernel
theorem dX5_line_45 : decode cX5_line 45 = .ok (.iload_n 2, 1) := by decide +kernel
theorem dX5_line_46 : decode cX5_line 46 = .ok (.invokevirtual 184, 3) := by decide +kernel
theorem dX5_line_49 : decode cX5_line 49 = .ok (.ireturn, 1) := by decide +kernel
theorem dX5_lines_0 : decode cX5_lines 0 = .ok (.iload_n 1, 1) := by decide +kernel
theorem dX5_lines_1 : decode cX5_lines 1 = .ok (.ifCond .lt 23, 3) := by decide +kernel
theorem dX5_lines_4 : decode cX5_lines 4 = .ok (.iload_n 1, 1) := by decide +kernel
theorem dX5_lines_5 : decode cX5_lines 5 = .ok (.aload_n 0, 1) := by decide +kernel
theorem dX5_lines_6 : decode cX5_lines 6 = .ok (.getfield 42, 3) := by decide +kernel
theorem dX5_lines_9 : decode cX5_lines 9 = .ok (.getfield 185, 3) := by decide +kernel
theorem dX5_lines_12 : decode cX5_lines 12 = .ok (.if_icmp .gt 12, 3) := by decide +kernel
theorem dX5_lines_15 : decode cX5_lines 15 = .ok (.iload_n 2, 1) := by decide +kernel
theorem dX5_lines_16 : decode cX5_lines 16 = .ok (.ifCond .lt 8, 3) := by decide +kernel
theorem dX5_lines_19 : decode cX5_lines 19 = .ok (.iload_n 2, 1) := by decide +kernel
theorem dX5_lines_20 : decode cX5_lines 20 = .ok (.iconst 5, 1) := by decide +kernel
theorem dX5_lines_21 : decode cX5_lines 21 = .ok (.if_icmp .le 6, 3) := by decide +kernel
theorem dX5_lines_24 : decode cX5_lines 24 = .ok (.bipush (-2), 2) := by decide +kernel
theorem dX5_lines_26 : decode cX5_lines 26 = .ok (.ireturn, 1) := by decide +kernel
theorem dX5_lines_27 : decode cX5_lines 27 = .ok (.aload_n 0, 1) := by decide +kernel
theorem dX5_lines_28 : decode cX5_lines 28 = .ok (.getfield 42, 3) := by decide +kernel
theorem dX5_lines_31 : decode cX5_lines 31 = .ok (.iload_n 1, 1) := by decide +kernel
theorem dX5_lines_32 : decode cX5_lines 32 = .ok (.invokevirtual 188, 3) := by decide +kernel
theorem dX5_lines_35 : decode cX5_lines 35 = .ok (.iload_n 2, 1) := by decide +kernel
theorem dX5_lines_36 : decode cX5_lines 36 = .ok (.tableswitch 76 0 4 #[36, 44, 52, 60, 68], 36) := by decide +kernel
theorem dX5_lines_72 : decode cX5_lines 72 = .ok (.aload_n 0, 1) := by decide +kernel
theorem dX5_lines_73 : decode cX5_lines 73 = .ok (.getfield 42, 3) := by decide +kernel
theorem dX5_lines_76 : decode cX5_lines 76 = .ok (.getfield 192, 3) := by decide +kernel
theorem dX5_lines_79 : decode cX5_lines 79 = .ok (.ireturn, 1) := by decide +kernel
theorem dX5_lines_80 : decode cX5_lines 80 = .ok (.aload_n 0, 1) := by decide +kernel
theorem dX5_lines_81 : decode cX5_lines 81 = .ok (.getfield 42, 3) := by decide +kernel
theorem dX5_lines_84 : decode cX5_lines 84 = .ok (.getfield 195, 3) := by decide +kernel
theorem dX5_lines_87 : decode cX5_lines 87 = .ok (.ireturn, 1) := by decide +kernel
theorem dX5_lines_88 : decode cX5_lines 88 = .ok (.aload_n 0, 1) := by decide +kernel
theorem dX5_lines_89 : decode cX5_lines 89 = .ok (.getfield 42, 3) := by decide +kernel
theorem dX5_lines_92 : decode cX5_lines 92 = .ok (.invokevirtual 198, 3) := by decide +kernel
theorem dX5_lines_95 : decode cX5_lines 95 = .ok (.ireturn, 1) := by decide +kernel
theorem dX5_lines_96 : decode cX5_lines 96 = .ok (.aload_n 0, 1) := by decide +kernel
theorem dX5_lines_97 : decode cX5_lines 97 = .ok (.getfield 42, 3) := by decide +kernel
theorem dX5_lines_100 : decode cX5_lines 100 = .ok (.invokevirtual 202, 3) := by decide +kernel
theorem dX5_lines_103 : decode cX5_lines 103 = .ok (.ireturn, 1) := by decide +kernel
theorem dX5_lines_104 : decode cX5_lines 104 = .ok (.aload_n 0, 1) := by decide +kernel
theorem dX5_lines_105 : decode cX5_lines 105 = .ok (.getfield 42, 3) := by decide +kernel
theorem dX5_lines_108 : decode cX5_lines 108 = .ok (.invokevirtual 205, 3) := by decide +kernel
theorem dX5_lines_111 : decode cX5_lines 111 = .ok (.ireturn, 1) := by decide +kernel
theorem dX5_lines_112 : decode cX5_lines 112 = .ok (.aload_n 0, 1) := by decide +kernel
theorem dX5_lines_113 : decode cX5_lines 113 = .ok (.getfield 42, 3) := by decide +kernel
theorem dX5_lines_116 : decode cX5_lines 116 = .ok (.getfield 208, 3) := by decide +kernel
theorem dX5_lines_119 : decode cX5_lines 119 = .ok (.ireturn, 1) := by decide +kernel
theorem dX5_count_0 : decode cX5_count 0 = .ok (.iload_n 1, 1) := by decide +kernel
theorem dX5_count_1 : decode cX5_count 1 = .ok (.tableswitch 71 0 3 #[31, 39, 47, 55], 31) := by decide +kernel
theorem dX5_count_32 : decode cX5_count 32 = .ok (.aload_n 0, 1) := by decide +kernel
theorem dX5_count_33 : decode cX5_count 33 = .ok (.getfield 10, 3) := by decide +kernel
theorem dX5_count_36 : decode cX5_count 36 = .ok (.getfield 211, 3) := by decide +kernel
theorem dX5_count_39 : decode cX5_count 39 = .ok (.ireturn, 1) := by decide +kernel
theorem dX5_count_40 : decode cX5_count 40 = .ok (.aload_n 0, 1) := by decide +kernel
theorem dX5_count_41 : decode cX5_count 41 = .ok (.getfield 35, 3) := by decide +kernel
theorem dX5_count_44 : decode cX5_count 44 = .ok (.getfield 212, 3) := by decide +kernel
theorem dX5_count_47 : decode cX5_count 47 = .ok (.ireturn, 1) := by decide +kernel
theorem dX5_count_48 : decode cX5_count 48 = .ok (.aload_n 0, 1) := by decide +kernel
theorem dX5_count_49 : decode cX5_count 49 = .ok (.getfield 42, 3) := by decide +kernel
theorem dX5_count_52 : decode cX5_count 52 = .ok (.getfield 185, 3) := by decide +kernel
theorem dX5_count_55 : decode cX5_count 55 = .ok (.ireturn, 1) := by decide +kernel
theorem dX5_count_56 : decode cX5_count 56 = .ok (.aload_n 0, 1) := by decide +kernel
theorem dX5_count_57 : decode cX5_count 57 = .ok (.getfield 21, 3) := by decide +kernel
theorem dX5_count_60 : decode cX5_count 60 = .ok (.getfield 125, 3) := by decide +kernel
theorem dX5_count_63 : decode cX5_count 63 = .ok (.ifCond .eq 7, 3) := by decide +kernel
theorem dX5_count_66 : decode cX5_count 66 = .ok (.iconst 1, 1) := by decide +kernel
theorem dX5_count_67 : decode cX5_count 67 = .ok (.goto 4, 3) := by decide +kernel
theorem dX5_count_70 : decode cX5_count 70 = .ok (.iconst 0, 1) := by decide +kernel
theorem dX5_count_71 : decode cX5_count 71 = .ok (.ireturn, 1) := by decide +kernel
theorem dX5_count_72 : decode cX5_count 72 = .ok (.bipush (-2), 2) := by decide +kernel
theorem dX5_count_74 : decode cX5_count 74 = .ok (.ireturn, 1) := by decide +kernel
theorem dX5_isCoordinate_0 : decode cX5_isCoordinate 0 = .ok (.lload_n 0, 1) := by decide +kernel
theorem dX5_isCoordinate_1 : decode cX5_isCoordinate 1 = .ok (.ldc2_w 213, 3) := by decide +kernel
theorem dX5_isCoordinate_4 : decode cX5_isCoordinate 4 = .ok (.lcmp, 1) := by decide +kernel
theorem dX5_isCoordinate_5 : decode cX5_isCoordinate 5 = .ok (.ifCond .lt 15, 3) := by decide +kernel
theorem dX5_isCoordinate_8 : decode cX5_isCoordinate 8 = .ok (.lload_n 0, 1) := by decide +kernel
theorem dX5_isCoordinate_9 : decode cX5_isCoordinate 9 = .ok (.ldc2_w 215, 3) := by decide +kernel
theorem dX5_isCoordinate_12 : decode cX5_isCoordinate 12 = .ok (.lcmp, 1) := by decide +kernel
theorem dX5_isCoordinate_13 : decode cX5_isCoordinate 13 = .ok (.ifCond .gt 7, 3) := by decide +kernel
theorem dX5_isCoordinate_16 : decode cX5_isCoordinate 16 = .ok (.iconst 1, 1) := by decide +kernel
theorem dX5_isCoordinate_17 : decode cX5_isCoordinate 17 = .ok (.goto 4, 3) := by decide +kernel
theorem dX5_isCoordinate_20 : decode cX5_isCoordinate 20 = .ok (.iconst 0, 1) := by decide +kernel
theorem dX5_isCoordinate_21 : decode cX5_isCoordinate 21 = .ok (.ireturn, 1) := by decide +kernel
theorem dX5_isDown_0 : decode cX5_isDown 0 = .ok (.lload_n 0, 1) := by decide +kernel
theorem dX5_isDown_1 : decode cX5_isDown 1 = .ok (.lconst 0, 1) := by decide +kernel
theorem dX5_isDown_2 : decode cX5_isDown 2 = .ok (.lcmp, 1) := by decide +kernel
theorem dX5_isDown_3 : decode cX5_isDown 3 = .ok (.ifCond .le 25, 3) := by decide +kernel
theorem dX5_isDown_6 : decode cX5_isDown 6 = .ok (.lload_n 0, 1) := by decide +kernel
theorem dX5_isDown_7 : decode cX5_isDown 7 = .ok (.ldc2_w 217, 3) := by decide +kernel
theorem dX5_isDown_10 : decode cX5_isDown 10 = .ok (.lcmp, 1) := by decide +kernel
theorem dX5_isDown_11 : decode cX5_isDown 11 = .ok (.ifCond .gt 17, 3) := by decide +kernel
theorem dX5_isDown_14 : decode cX5_isDown 14 = .ok (.ldc2_w 217, 3) := by decide +kernel
theorem dX5_isDown_17 : decode cX5_isDown 17 = .ok (.lload_n 0, 1) := by decide +kernel
theorem dX5_isDown_18 : decode cX5_isDown 18 = .ok (.lrem, 1) := by decide +kernel
theorem dX5_isDown_19 : decode cX5_isDown 19 = .ok (.lconst 0, 1) := by decide +kernel
theorem dX5_isDown_20 : decode cX5_isDown 20 = .ok (.lcmp, 1) := by decide +kernel
theorem dX5_isDown_21 : decode cX5_isDown 21 = .ok (.ifCond .ne 7, 3) := by decide +kernel
theorem dX5_isDown_24 : decode cX5_isDown 24 = .ok (.iconst 1, 1) := by decide +kernel
theorem dX5_isDown_25 : decode cX5_isDown 25 = .ok (.goto 4, 3) := by decide +kernel
theorem dX5_isDown_28 : decode cX5_isDown 28 = .ok (.iconst 0, 1) := by decide +kernel
theorem dX5_isDown_29 : decode cX5_isDown 29 = .ok (.ireturn, 1) := by decide +kernel
theorem dX5_signOf_0 : decode cX5_signOf 0 = .ok (.lload_n 0, 1) := by decide +kernel
theorem dX5_signOf_1 : decode cX5_signOf 1 = .ok (.lconst 0, 1) := by decide +kernel
theorem dX5_signOf_2 : decode cX5_signOf 2 = .ok (.invokestatic 219, 3) := by decide +kernel
theorem dX5_signOf_5 : decode cX5_signOf 5 = .ok (.ireturn, 1) := by decide +kernel
theorem dX6_thrown_0 : decode cX6_thrown 0 = .ok (.aload_n 0, 1) := by decide +kernel
theorem dX6_thrown_1 : decode cX6_thrown 1 = .ok (.getfield 1, 3) := by decide +kernel
theorem dX6_thrown_4 : decode cX6_thrown 4 = .ok (.ireturn, 1) := by decide +kernel
theorem dX6_fail_0 : decode cX6_fail 0 = .ok (.aload_n 0, 1) := by decide +kernel
theorem dX6_fail_1 : decode cX6_fail 1 = .ok (.iload_n 1, 1) := by decide +kernel
theorem dX6_fail_2 : decode cX6_fail 2 = .ok (.putfield 1, 3) := by decide +kernel
theorem dX6_fail_5 : decode cX6_fail 5 = .ok (.iconst 0, 1) := by decide +kernel
theorem dX6_fail_6 : decode cX6_fail 6 = .ok (.ireturn, 1) := by decide +kernel
theorem dX6_init_0 : decode cX6_init 0 = .ok (.aload_n 0, 1) := by decide +kernel
theorem dX6_init_1 : decode cX6_init 1 = .ok (.invokespecial 7, 3) := by decide +kernel
theorem dX6_init_4 : decode cX6_init 4 = .ok (.aload_n 0, 1) := by decide +kernel
theorem dX6_init_5 : decode cX6_init 5 = .ok (.bipush 60, 2) := by decide +kernel
theorem dX6_init_7 : decode cX6_init 7 = .ok (.newarray .int, 2) := by decide +kernel
theorem dX6_init_9 : decode cX6_init 9 = .ok (.putfield 13, 3) := by decide +kernel
theorem dX6_init_12 : decode cX6_init 12 = .ok (.aload_n 0, 1) := by decide +kernel
theorem dX6_init_13 : decode cX6_init 13 = .ok (.bipush 60, 2) := by decide +kernel
theorem dX6_init_15 : decode cX6_init 15 = .ok (.newarray .int, 2) := by decide +kernel
theorem dX6_init_17 : decode cX6_init 17 = .ok (.putfield 17, 3) := by decide +kernel
theorem dX6_init_20 : decode cX6_init 20 = .ok (.aload_n 0, 1) := by decide +kernel
theorem dX6_init_21 : decode cX6_init 21 = .ok (.bipush 24, 2) := by decide +kernel
theorem dX6_init_23 : decode cX6_init 23 = .ok (.newarray .int, 2) := by decide +kernel
theorem dX6_init_25 : decode cX6_init 25 = .ok (.putfield 20, 3) := by decide +kernel
theorem dX6_init_28 : decode cX6_init 28 = .ok (.aload_n 0, 1) := by decide +kernel
theorem dX6_init_29 : decode cX6_init 29 = .ok (.iconst 1, 1) := by decide +kernel
theorem dX6_init_30 : decode cX6_init 30 = .ok (.putfield 23, 3) := by decide +kernel
theorem dX6_init_33 : decode cX6_init 33 = .ok (.aload_n 0, 1) := by decide +kernel
theorem dX6_init_34 : decode cX6_init 34 = .ok (.bipush 12, 2) := by decide +kernel
theorem dX6_init_36 : decode cX6_init 36 = .ok (.newarray .long, 2) := by decide +kernel
theorem dX6_init_38 : decode cX6_init 38 = .ok (.putfield 27, 3) := by decide +kernel
theorem dX6_init_41 : decode cX6_init 41 = .ok (.aload_n 0, 1) := by decide +kernel
theorem dX6_init_42 : decode cX6_init 42 = .ok (.bipush 12, 2) := by decide +kernel
theorem dX6_init_44 : decode cX6_init 44 = .ok (.newarray .long, 2) := by decide +kernel
theorem dX6_init_46 : decode cX6_init 46 = .ok (.putfield 31, 3) := by decide +kernel
theorem dX6_init_49 : decode cX6_init 49 = .ok (.aload_n 0, 1) := by decide +kernel
theorem dX6_init_50 : decode cX6_init 50 = .ok (.bipush 12, 2) := by decide +kernel
theorem dX6_init_52 : decode cX6_init 52 = .ok (.newarray .long, 2) := by decide +kernel
theorem dX6_init_54 : decode cX6_init 54 = .ok (.putfield 34, 3) := by decide +kernel
theorem dX6_init_57 : decode cX6_init 57 = .ok (.iconst 0, 1) := by decide +kernel
theorem dX6_init_58 : decode cX6_init 58 = .ok (.istore_n 1, 1) := by decide +kernel
theorem dX6_init_59 : decode cX6_init 59 = .ok (.iload_n 1, 1) := by decide +kernel
theorem dX6_init_60 : decode cX6_init 60 = .ok (.bipush 24, 2) := by decide +kernel
theorem dX6_init_62 : decode cX6_init 62 = .ok (.if_icmp .ge 16, 3) := by decide +kernel
theorem dX6_init_65 : decode cX6_init 65 = .ok (.aload_n 0, 1) := by decide +kernel
theorem dX6_init_66 : decode cX6_init 66 = .ok (.getfield 20, 3) := by decide +kernel
theorem dX6_init_69 : decode cX6_init 69 = .ok (.iload_n 1, 1) := by decide +kernel
theorem dX6_init_70 : decode cX6_init 70 = .ok (.iconst (-1), 1) := by decide +kernel
theorem dX6_init_71 : decode cX6_init 71 = .ok (.iastore, 1) := by decide +kernel
theorem dX6_init_72 : decode cX6_init 72 = .ok (.iinc 1 1, 3) := by decide +kernel
theorem dX6_init_75 : decode cX6_init 75 = .ok (.goto (-16), 3) := by decide +kernel
theorem dX6_init_78 : decode cX6_init 78 = .ok (.return_, 1) := by decide +kernel
theorem dX6_point_0 : decode cX6_point 0 = .ok (.aload_n 0, 1) := by decide +kernel
theorem dX6_point_1 : decode cX6_point 1 = .ok (.iconst 0, 1) := by decide +kernel
theorem dX6_point_2 : decode cX6_point 2 = .ok (.putfield 1, 3) := by decide +kernel
theorem dX6_point_5 : decode cX6_point 5 = .ok (.lload 5, 2) := by decide +kernel
theorem dX6_point_7 : decode cX6_point 7 = .ok (.lconst 1, 1) := by decide +kernel
theorem dX6_point_8 : decode cX6_point 8 = .ok (.lcmp, 1) := by decide +kernel
theorem dX6_point_9 : decode cX6_point 9 = .ok (.ifCond .eq 48, 3) := by decide +kernel
theorem dX6_point_12 : decode cX6_point 12 = .ok (.lload 5, 2) := by decide +kernel
theorem dX6_point_14 : decode cX6_point 14 = .ok (.ldc2_w 37, 3) := by decide +kernel
theorem dX6_point_17 : decode cX6_point 17 = .ok (.lcmp, 1) := by decide +kernel
theorem dX6_point_18 : decode cX6_point 18 = .ok (.ifCond .eq 39, 3) := by decide +kernel
theorem dX6_point_21 : decode cX6_point 21 = .ok (.lload 5, 2) := by decide +kernel
theorem dX6_point_23 : decode cX6_point 23 = .ok (.ldc2_w 39, 3) := by decide +kernel
theorem dX6_point_26 : decode cX6_point 26 = .ok (.lcmp, 1) := by decide +kernel
theorem dX6_point_27 : decode cX6_point 27 = .ok (.ifCond .eq 30, 3) := by decide +kernel
theorem dX6_point_30 : decode cX6_point 30 = .ok (.lload 5, 2) := by decide +kernel
theorem dX6_point_32 : decode cX6_point 32 = .ok (.ldc2_w 41, 3) := by decide +kernel
theorem dX6_point_35 : decode cX6_point 35 = .ok (.lcmp, 1) := by decide +kernel
theorem dX6_point_36 : decode cX6_point 36 = .ok (.ifCond .eq 21, 3) := by decide +kernel
theorem dX6_point_39 : decode cX6_point 39 = .ok (.lload 5, 2) := by decide +kernel
theorem dX6_point_41 : decode cX6_point 41 = .ok (.ldc2_w 43, 3) := by decide +kernel
theorem dX6_point_44 : decode cX6_point 44 = .ok (.lcmp, 1) := by decide +kernel
theorem dX6_point_45 : decode cX6_point 45 = .ok (.ifCond .eq 12, 3) := by decide +kernel
theorem dX6_point_48 : decode cX6_point 48 = .ok (.lload 5, 2) := by decide +kernel
theorem dX6_point_50 : decode cX6_point 50 = .ok (.ldc2_w 45, 3) := by decide +kernel
theorem dX6_point_53 : decode cX6_point 53 = .ok (.lcmp, 1) := by decide +kernel
theorem dX6_point_54 : decode cX6_point 54 = .ok (.ifCond .ne 7, 3) := by decide +kernel
theorem dX6_point_57 : decode cX6_point 57 = .ok (.iconst 1, 1) := by decide +kernel
theorem dX6_point_58 : decode cX6_point 58 = .ok (.goto 4, 3) := by decide +kernel
theorem dX6_point_61 : decode cX6_point 61 = .ok (.iconst 0, 1) := by decide +kernel
theorem dX6_point_62 : decode cX6_point 62 = .ok (.istore 7, 2) := by decide +kernel
theorem dX6_point_64 : decode cX6_point 64 = .ok (.iload 7, 2) := by decide +kernel
theorem dX6_point_66 : decode cX6_point 66 = .ok (.ifCond .eq 35, 3) := by decide +kernel
theorem dX6_point_69 : decode cX6_point 69 = .ok (.lload_n 1, 1) := by decide +kernel
end
section
theorem dX6_point_70 : decode cX6_point 70 = .ok (.ldc2_w 47, 3) := by decide +kernel
theorem dX6_point_73 : decode cX6_point 73 = .ok (.lcmp, 1) := by decide +kernel
theorem dX6_point_74 : decode cX6_point 74 = .ok (.ifCond .lt 27, 3) := by decide +kernel
theorem dX6_point_77 : decode cX6_point 77 = .ok (.lload_n 1, 1) := by decide +kernel
theorem dX6_point_78 : decode cX6_point 78 = .ok (.ldc2_w 49, 3) := by decide +kernel
theorem dX6_point_81 : decode cX6_point 81 = .ok (.lcmp, 1) := by decide +kernel
theorem dX6_point_82 : decode cX6_point 82 = .ok (.ifCond .gt 19, 3) := by decide +kernel
theorem dX6_point_85 : decode cX6_point 85 = .ok (.lload_n 3, 1) := by decide +kernel
theorem dX6_point_86 : decode cX6_point 86 = .ok (.ldc2_w 47, 3) := by decide +kernel
theorem dX6_point_89 : decode cX6_point 89 = .ok (.lcmp, 1) := by decide +kernel
theorem dX6_point_90 : decode cX6_point 90 = .ok (.ifCond .lt 11, 3) := by decide +kernel
theorem dX6_point_93 : decode cX6_point 93 = .ok (.lload_n 3, 1) := by decide +kernel
theorem dX6_point_94 : decode cX6_point 94 = .ok (.ldc2_w 49, 3) := by decide +kernel
theorem dX6_point_97 : decode cX6_point 97 = .ok (.lcmp, 1) := by decide +kernel
theorem dX6_point_98 : decode cX6_point 98 = .ok (.ifCond .le 6, 3) := by decide +kernel
theorem dX6_point_101 : decode cX6_point 101 = .ok (.bipush (-2), 2) := by decide +kernel
theorem dX6_point_103 : decode cX6_point 103 = .ok (.ireturn, 1) := by decide +kernel
theorem dX6_point_104 : decode cX6_point 104 = .ok (.aload_n 0, 1) := by decide +kernel
theorem dX6_point_105 : decode cX6_point 105 = .ok (.getfield 51, 3) := by decide +kernel
theorem dX6_point_108 : decode cX6_point 108 = .ok (.bipush 60, 2) := by decide +kernel
theorem dX6_point_110 : decode cX6_point 110 = .ok (.if_icmp .ne 6, 3) := by decide +kernel
theorem dX6_point_113 : decode cX6_point 113 = .ok (.bipush (-3), 2) := by decide +kernel
theorem dX6_point_115 : decode cX6_point 115 = .ok (.ireturn, 1) := by decide +kernel
theorem dX6_point_116 : decode cX6_point 116 = .ok (.aload_n 0, 1) := by decide +kernel
theorem dX6_point_117 : decode cX6_point 117 = .ok (.getfield 13, 3) := by decide +kernel
theorem dX6_point_120 : decode cX6_point 120 = .ok (.aload_n 0, 1) := by decide +kernel
theorem dX6_point_121 : decode cX6_point 121 = .ok (.getfield 51, 3) := by decide +kernel
theorem dX6_point_124 : decode cX6_point 124 = .ok (.lload_n 1, 1) := by decide +kernel
theorem dX6_point_125 : decode cX6_point 125 = .ok (.ldc2_w 45, 3) := by decide +kernel
theorem dX6_point_128 : decode cX6_point 128 = .ok (.lload 5, 2) := by decide +kernel
theorem dX6_point_130 : decode cX6_point 130 = .ok (.ldiv, 1) := by decide +kernel
theorem dX6_point_131 : decode cX6_point 131 = .ok (.lmul, 1) := by decide +kernel
theorem dX6_point_132 : decode cX6_point 132 = .ok (.l2i, 1) := by decide +kernel
theorem dX6_point_133 : decode cX6_point 133 = .ok (.iastore, 1) := by decide +kernel
theorem dX6_point_134 : decode cX6_point 134 = .ok (.aload_n 0, 1) := by decide +kernel
theorem dX6_point_135 : decode cX6_point 135 = .ok (.getfield 17, 3) := by decide +kernel
theorem dX6_point_138 : decode cX6_point 138 = .ok (.aload_n 0, 1) := by decide +kernel
theorem dX6_point_139 : decode cX6_point 139 = .ok (.getfield 51, 3) := by decide +kernel
theorem dX6_point_142 : decode cX6_point 142 = .ok (.lload_n 3, 1) := by decide +kernel
theorem dX6_point_143 : decode cX6_point 143 = .ok (.ldc2_w 45, 3) := by decide +kernel
theorem dX6_point_146 : decode cX6_point 146 = .ok (.lload 5, 2) := by decide +kernel
theorem dX6_point_148 : decode cX6_point 148 = .ok (.ldiv, 1) := by decide +kernel
theorem dX6_point_149 : decode cX6_point 149 = .ok (.lmul, 1) := by decide +kernel
theorem dX6_point_150 : decode cX6_point 150 = .ok (.l2i, 1) := by decide +kernel
theorem dX6_point_151 : decode cX6_point 151 = .ok (.iastore, 1) := by decide +kernel
theorem dX6_point_152 : decode cX6_point 152 = .ok (.aload_n 0, 1) := by decide +kernel
theorem dX6_point_153 : decode cX6_point 153 = .ok (.dup, 1) := by decide +kernel
theorem dX6_point_154 : decode cX6_point 154 = .ok (.getfield 51, 3) := by decide +kernel
theorem dX6_point_157 : decode cX6_point 157 = .ok (.iconst 1, 1) := by decide +kernel
theorem dX6_point_158 : decode cX6_point 158 = .ok (.iadd, 1) := by decide +kernel
theorem dX6_point_159 : decode cX6_point 159 = .ok (.putfield 51, 3) := by decide +kernel
theorem dX6_point_162 : decode cX6_point 162 = .ok (.aload_n 0, 1) := by decide +kernel
theorem dX6_point_163 : decode cX6_point 163 = .ok (.getfield 51, 3) := by decide +kernel
theorem dX6_point_166 : decode cX6_point 166 = .ok (.iconst 1, 1) := by decide +kernel
theorem dX6_point_167 : decode cX6_point 167 = .ok (.isub, 1) := by decide +kernel
theorem dX6_point_168 : decode cX6_point 168 = .ok (.ireturn, 1) := by decide +kernel
theorem dX6_isPoint_0 : decode cX6_isPoint 0 = .ok (.iload_n 1, 1) := by decide +kernel
theorem dX6_isPoint_1 : decode cX6_isPoint 1 = .ok (.ifCond .lt 15, 3) := by decide +kernel
theorem dX6_isPoint_4 : decode cX6_isPoint 4 = .ok (.iload_n 1, 1) := by decide +kernel
theorem dX6_isPoint_5 : decode cX6_isPoint 5 = .ok (.aload_n 0, 1) := by decide +kernel
theorem dX6_isPoint_6 : decode cX6_isPoint 6 = .ok (.getfield 51, 3) := by decide +kernel
theorem dX6_isPoint_9 : decode cX6_isPoint 9 = .ok (.if_icmp .ge 7, 3) := by decide +kernel
theorem dX6_isPoint_12 : decode cX6_isPoint 12 = .ok (.iconst 1, 1) := by decide +kernel
theorem dX6_isPoint_13 : decode cX6_isPoint 13 = .ok (.goto 4, 3) := by decide +kernel
theorem dX6_isPoint_16 : decode cX6_isPoint 16 = .ok (.iconst 0, 1) := by decide +kernel
theorem dX6_isPoint_17 : decode cX6_isPoint 17 = .ok (.ireturn, 1) := by decide +kernel
theorem dX6_areEqual_0 : decode cX6_areEqual 0 = .ok (.aload_n 0, 1) := by decide +kernel
theorem dX6_areEqual_1 : decode cX6_areEqual 1 = .ok (.getfield 13, 3) := by decide +kernel
theorem dX6_areEqual_4 : decode cX6_areEqual 4 = .ok (.iload_n 1, 1) := by decide +kernel
theorem dX6_areEqual_5 : decode cX6_areEqual 5 = .ok (.iaload, 1) := by decide +kernel
theorem dX6_areEqual_6 : decode cX6_areEqual 6 = .ok (.aload_n 0, 1) := by decide +kernel
theorem dX6_areEqual_7 : decode cX6_areEqual 7 = .ok (.getfield 13, 3) := by decide +kernel
theorem dX6_areEqual_10 : decode cX6_areEqual 10 = .ok (.iload_n 2, 1) := by decide +kernel
theorem dX6_areEqual_11 : decode cX6_areEqual 11 = .ok (.iaload, 1) := by decide +kernel
theorem dX6_areEqual_12 : decode cX6_areEqual 12 = .ok (.if_icmp .ne 22, 3) := by decide +kernel
theorem dX6_areEqual_15 : decode cX6_areEqual 15 = .ok (.aload_n 0, 1) := by decide +kernel
theorem dX6_areEqual_16 : decode cX6_areEqual 16 = .ok (.getfield 17, 3) := by decide +kernel
theorem dX6_areEqual_19 : decode cX6_areEqual 19 = .ok (.iload_n 1, 1) := by decide +kernel
theorem dX6_areEqual_20 : decode cX6_areEqual 20 = .ok (.iaload, 1) := by decide +kernel
theorem dX6_areEqual_21 : decode cX6_areEqual 21 = .ok (.aload_n 0, 1) := by decide +kernel
theorem dX6_areEqual_22 : decode cX6_areEqual 22 = .ok (.getfield 17, 3) := by decide +kernel
theorem dX6_areEqual_25 : decode cX6_areEqual 25 = .ok (.iload_n 2, 1) := by decide +kernel
theorem dX6_areEqual_26 : decode cX6_areEqual 26 = .ok (.iaload, 1) := by decide +kernel
theorem dX6_areEqual_27 : decode cX6_areEqual 27 = .ok (.if_icmp .ne 7, 3) := by decide +kernel
theorem dX6_areEqual_30 : decode cX6_areEqual 30 = .ok (.iconst 1, 1) := by decide +kernel
theorem dX6_areEqual_31 : decode cX6_areEqual 31 = .ok (.goto 4, 3) := by decide +kernel
theorem dX6_areEqual_34 : decode cX6_areEqual 34 = .ok (.iconst 0, 1) := by decide +kernel
theorem dX6_areEqual_35 : decode cX6_areEqual 35 = .ok (.ireturn, 1) := by decide +kernel
theorem dX6_signOf_0 : decode cX6_signOf 0 = .ok (.lload_n 0, 1) := by decide +kernel
theorem dX6_signOf_1 : decode cX6_signOf 1 = .ok (.lconst 0, 1) := by decide +kernel
theorem dX6_signOf_2 : decode cX6_signOf 2 = .ok (.lcmp, 1) := by decide +kernel
theorem dX6_signOf_3 : decode cX6_signOf 3 = .ok (.ifCond .le 7, 3) := by decide +kernel
theorem dX6_signOf_6 : decode cX6_signOf 6 = .ok (.iconst 1, 1) := by decide +kernel
theorem dX6_signOf_7 : decode cX6_signOf 7 = .ok (.goto 14, 3) := by decide +kernel
theorem dX6_signOf_10 : decode cX6_signOf 10 = .ok (.lload_n 0, 1) := by decide +kernel
theorem dX6_signOf_11 : decode cX6_signOf 11 = .ok (.lconst 0, 1) := by decide +kernel
theorem dX6_signOf_12 : decode cX6_signOf 12 = .ok (.lcmp, 1) := by decide +kernel
theorem dX6_signOf_13 : decode cX6_signOf 13 = .ok (.ifCond .ge 7, 3) := by decide +kernel
theorem dX6_signOf_16 : decode cX6_signOf 16 = .ok (.iconst (-1), 1) := by decide +kernel
theorem dX6_signOf_17 : decode cX6_signOf 17 = .ok (.goto 4, 3) := by decide +kernel
theorem dX6_signOf_20 : decode cX6_signOf 20 = .ok (.iconst 0, 1) := by decide +kernel
theorem dX6_signOf_21 : decode cX6_signOf 21 = .ok (.ireturn, 1) := by decide +kernel
theorem dX6_turn_0 : decode cX6_turn 0 = .ok (.aload_n 0, 1) := by decide +kernel
theorem dX6_turn_1 : decode cX6_turn 1 = .ok (.getfield 13, 3) := by decide +kernel
theorem dX6_turn_4 : decode cX6_turn 4 = .ok (.iload_n 2, 1) := by decide +kernel
theorem dX6_turn_5 : decode cX6_turn 5 = .ok (.iaload, 1) := by decide +kernel
theorem dX6_turn_6 : decode cX6_turn 6 = .ok (.aload_n 0, 1) := by decide +kernel
theorem dX6_turn_7 : decode cX6_turn 7 = .ok (.getfield 13, 3) := by decide +kernel
theorem dX6_turn_10 : decode cX6_turn 10 = .ok (.iload_n 1, 1) := by decide +kernel
theorem dX6_turn_11 : decode cX6_turn 11 = .ok (.iaload, 1) := by decide +kernel
theorem dX6_turn_12 : decode cX6_turn 12 = .ok (.isub, 1) := by decide +kernel
theorem dX6_turn_13 : decode cX6_turn 13 = .ok (.i2l, 1) := by decide +kernel
theorem dX6_turn_14 : decode cX6_turn 14 = .ok (.aload_n 0, 1) := by decide +kernel
theorem dX6_turn_15 : decode cX6_turn 15 = .ok (.getfield 17, 3) := by decide +kernel
theorem dX6_turn_18 : decode cX6_turn 18 = .ok (.iload_n 3, 1) := by decide +kernel
theorem dX6_turn_19 : decode cX6_turn 19 = .ok (.iaload, 1) := by decide +kernel
theorem dX6_turn_20 : decode cX6_turn 20 = .ok (.aload_n 0, 1) := by decide +kernel
theorem dX6_turn_21 : decode cX6_turn 21 = .ok (.getfield 17, 3) := by decide +kernel
theorem dX6_turn_24 : decode cX6_turn 24 = .ok (.iload_n 1, 1) := by decide +kernel
theorem dX6_turn_25 : decode cX6_turn 25 = .ok (.iaload, 1) := by decide +kernel
theorem dX6_turn_26 : decode cX6_turn 26 = .ok (.isub, 1) := by decide +kernel
theorem dX6_turn_27 : decode cX6_turn 27 = .ok (.i2l, 1) := by decide +kernel
theorem dX6_turn_28 : decode cX6_turn 28 = .ok (.lmul, 1) := by decide +kernel
theorem dX6_turn_29 : decode cX6_turn 29 = .ok (.aload_n 0, 1) := by decide +kernel
theorem dX6_turn_30 : decode cX6_turn 30 = .ok (.getfield 17, 3) := by decide +kernel
theorem dX6_turn_33 : decode cX6_turn 33 = .ok (.iload_n 2, 1) := by decide +kernel
theorem dX6_turn_34 : decode cX6_turn 34 = .ok (.iaload, 1) := by decide +kernel
theorem dX6_turn_35 : decode cX6_turn 35 = .ok (.aload_n 0, 1) := by decide +kernel
theorem dX6_turn_36 : decode cX6_turn 36 = .ok (.getfield 17, 3) := by decide +kernel
theorem dX6_turn_39 : decode cX6_turn 39 = .ok (.iload_n 1, 1) := by decide +kernel
theorem dX6_turn_40 : decode cX6_turn 40 = .ok (.iaload, 1) := by decide +kernel
theorem dX6_turn_41 : decode cX6_turn 41 = .ok (.isub, 1) := by decide +kernel
theorem dX6_turn_42 : decode cX6_turn 42 = .ok (.i2l, 1) := by decide +kernel
theorem dX6_turn_43 : decode cX6_turn 43 = .ok (.aload_n 0, 1) := by decide +kernel
theorem dX6_turn_44 : decode cX6_turn 44 = .ok (.getfield 13, 3) := by decide +kernel
theorem dX6_turn_47 : decode cX6_turn 47 = .ok (.iload_n 3, 1) := by decide +kernel
theorem dX6_turn_48 : decode cX6_turn 48 = .ok (.iaload, 1) := by decide +kernel
theorem dX6_turn_49 : decode cX6_turn 49 = .ok (.aload_n 0, 1) := by decide +kernel
theorem dX6_turn_50 : decode cX6_turn 50 = .ok (.getfield 13, 3) := by decide +kernel
theorem dX6_turn_53 : decode cX6_turn 53 = .ok (.iload_n 1, 1) := by decide +kernel
theorem dX6_turn_54 : decode cX6_turn 54 = .ok (.iaload, 1) := by decide +kernel
theorem dX6_turn_55 : decode cX6_turn 55 = .ok (.isub, 1) := by decide +kernel
theorem dX6_turn_56 : decode cX6_turn 56 = .ok (.i2l, 1) := by decide +kernel
theorem dX6_turn_57 : decode cX6_turn 57 = .ok (.lmul, 1) := by decide +kernel
theorem dX6_turn_58 : decode cX6_turn 58 = .ok (.lsub, 1) := by decide +kernel
theorem dX6_turn_59 : decode cX6_turn 59 = .ok (.invokestatic 54, 3) := by decide +kernel
theorem dX6_turn_62 : decode cX6_turn 62 = .ok (.ireturn, 1) := by decide +kernel
theorem dX6_along_0 : decode cX6_along 0 = .ok (.aload_n 0, 1) := by decide +kernel
theorem dX6_along_1 : decode cX6_along 1 = .ok (.getfield 13, 3) := by decide +kernel
theorem dX6_along_4 : decode cX6_along 4 = .ok (.iload_n 2, 1) := by decide +kernel
theorem dX6_along_5 : decode cX6_along 5 = .ok (.iaload, 1) := by decide +kernel
theorem dX6_along_6 : decode cX6_along 6 = .ok (.aload_n 0, 1) := by decide +kernel
theorem dX6_along_7 : decode cX6_along 7 = .ok (.getfield 13, 3) := by decide +kernel
theorem dX6_along_10 : decode cX6_along 10 = .ok (.iload_n 1, 1) := by decide +kernel
theorem dX6_along_11 : decode cX6_along 11 = .ok (.iaload, 1) := by decide +kernel
theorem dX6_along_12 : decode cX6_along 12 = .ok (.isub, 1) := by decide +kernel
theorem dX6_along_13 : decode cX6_along 13 = .ok (.i2l, 1) := by decide +kernel
theorem dX6_along_14 : decode cX6_along 14 = .ok (.aload_n 0, 1) := by decide +kernel
theorem dX6_along_15 : decode cX6_along 15 = .ok (.getfield 13, 3) := by decide +kernel
theorem dX6_along_18 : decode cX6_along 18 = .ok (.iload_n 3, 1) := by decide +kernel
theorem dX6_along_19 : decode cX6_along 19 = .ok (.iaload, 1) := by decide +kernel
theorem dX6_along_20 : decode cX6_along 20 = .ok (.aload_n 0, 1) := by decide +kernel
theorem dX6_along_21 : decode cX6_along 21 = .ok (.getfield 13, 3) := by decide +kernel
theorem dX6_along_24 : decode cX6_along 24 = .ok (.iload_n 1, 1) := by decide +kernel
theorem dX6_along_25 : decode cX6_along 25 = .ok (.iaload, 1) := by decide +kernel
theorem dX6_along_26 : decode cX6_along 26 = .ok (.isub, 1) := by decide +kernel
theorem dX6_along_27 : decode cX6_along 27 = .ok (.i2l, 1) := by decide +kernel
theorem dX6_along_28 : decode cX6_along 28 = .ok (.lmul, 1) := by decide +kernel
theorem dX6_along_29 : decode cX6_along 29 = .ok (.aload_n 0, 1) := by decide +kernel
theorem dX6_along_30 : decode cX6_along 30 = .ok (.getfield 17, 3) := by decide +kernel
theorem dX6_along_33 : decode cX6_along 33 = .ok (.iload_n 2, 1) := by decide +kernel
theorem dX6_along_34 : decode cX6_along 34 = .ok (.iaload, 1) := by decide +kernel
theorem dX6_along_35 : decode cX6_along 35 = .ok (.aload_n 0, 1) := by decide +kernel
theorem dX6_along_36 : decode cX6_along 36 = .ok (.getfield 17, 3) := by decide +kernel
theorem dX6_along_39 : decode cX6_along 39 = .ok (.iload_n 1, 1) := by decide +kernel
theorem dX6_along_40 : decode cX6_along 40 = .ok (.iaload, 1) := by decide +kernel
theorem dX6_along_41 : decode cX6_along 41 = .ok (.isub, 1) := by decide +kernel
theorem dX6_along_42 : decode cX6_along 42 = .ok (.i2l, 1) := by decide +kernel
theorem dX6_along_43 : decode cX6_along 43 = .ok (.aload_n 0, 1) := by decide +kernel
theorem dX6_along_44 : decode cX6_along 44 = .ok (.getfield 17, 3) := by decide +kernel
theorem dX6_along_47 : decode cX6_along 47 = .ok (.iload_n 3, 1) := by decide +kernel
theorem dX6_along_48 : decode cX6_along 48 = .ok (.iaload, 1) := by decide +kernel
theorem dX6_along_49 : decode cX6_along 49 = .ok (.aload_n 0, 1) := by decide +kernel
theorem dX6_along_50 : decode cX6_along 50 = .ok (.getfield 17, 3) := by decide +kernel
theorem dX6_along_53 : decode cX6_along 53 = .ok (.iload_n 1, 1) := by decide +kernel
theorem dX6_along_54 : decode cX6_along 54 = .ok (.iaload, 1) := by decide +kernel
theorem dX6_along_55 : decode cX6_along 55 = .ok (.isub, 1) := by decide +kernel
theorem dX6_along_56 : decode cX6_along 56 = .ok (.i2l, 1) := by decide +kernel
theorem dX6_along_57 : decode cX6_along 57 = .ok (.lmul, 1) := by decide +kernel
theorem dX6_along_58 : decode cX6_along 58 = .ok (.ladd, 1) := by decide +kernel
theorem dX6_along_59 : decode cX6_along 59 = .ok (.lreturn, 1) := by decide +kernel
theorem dX6_ring_0 : decode cX6_ring 0 = .ok (.aload_n 0, 1) := by decide +kernel
theorem dX6_ring_1 : decode cX6_ring 1 = .ok (.getfield 13, 3) := by decide +kernel
theorem dX6_ring_4 : decode cX6_ring 4 = .ok (.iload_n 1, 1) := by decide +kernel
theorem dX6_ring_5 : decode cX6_ring 5 = .ok (.iaload, 1) := by decide +kernel
theorem dX6_ring_6 : decode cX6_ring 6 = .ok (.aload_n 0, 1) := by decide +kernel
theorem dX6_ring_7 : decode cX6_ring 7 = .ok (.getfield 13, 3) := by decide +kernel
theorem dX6_ring_10 : decode cX6_ring 10 = .ok (.iload 4, 2) := by decide +kernel
theorem dX6_ring_12 : decode cX6_ring 12 = .ok (.iaload, 1) := by decide +kernel
theorem dX6_ring_13 : decode cX6_ring 13 = .ok (.isub, 1) := by decide +kernel
theorem dX6_ring_14 : decode cX6_ring 14 = .ok (.i2l, 1) := by decide +kernel
theorem dX6_ring_15 : decode cX6_ring 15 = .ok (.lstore 5, 2) := by decide +kernel
theorem dX6_ring_17 : decode cX6_ring 17 = .ok (.aload_n 0, 1) := by decide +kernel
theorem dX6_ring_18 : decode cX6_ring 18 = .ok (.getfield 17, 3) := by decide +kernel
theorem dX6_ring_21 : decode cX6_ring 21 = .ok (.iload_n 1, 1) := by decide +kernel
theorem dX6_ring_22 : decode cX6_ring 22 = .ok (.iaload, 1) := by decide +kernel
theorem dX6_ring_23 : decode cX6_ring 23 = .ok (.aload_n 0, 1) := by decide +kernel
theorem dX6_ring_24 : decode cX6_ring 24 = .ok (.getfield 17, 3) := by decide +kernel
theorem dX6_ring_27 : decode cX6_ring 27 = .ok (.iload 4, 2) := by decide +kernel
theorem dX6_ring_29 : decode cX6_ring 29 = .ok (.iaload, 1) := by decide +kernel
theorem dX6_ring_30 : decode cX6_ring 30 = .ok (.isub, 1) := by decide +kernel
theorem dX6_ring_31 : decode cX6_ring 31 = .ok (.i2l, 1) := by decide +kernel
theorem dX6_ring_32 : decode cX6_ring 32 = .ok (.lstore 7, 2) := by decide +kernel
theorem dX6_ring_34 : decode cX6_ring 34 = .ok (.aload_n 0, 1) := by decide +kernel
theorem dX6_ring_35 : decode cX6_ring 35 = .ok (.getfield 13, 3) := by decide +kernel
theorem dX6_ring_38 : decode cX6_ring 38 = .ok (.iload_n 2, 1) := by decide +kernel
theorem dX6_ring_39 : decode cX6_ring 39 = .ok (.iaload, 1) := by decide +kernel
theorem dX6_ring_40 : decode cX6_ring 40 = .ok (.aload_n 0, 1) := by decide +kernel
theorem dX6_ring_41 : decode cX6_ring 41 = .ok (.getfield 13, 3) := by decide +kernel
theorem dX6_ring_44 : decode cX6_ring 44 = .ok (.iload 4, 2) := by decide +kernel
theorem dX6_ring_46 : decode cX6_ring 46 = .ok (.iaload, 1) := by decide +kernel
theorem dX6_ring_47 : decode cX6_ring 47 = .ok (.isub, 1) := by decide +kernel
theorem dX6_ring_48 : decode cX6_ring 48 = .ok (.i2l, 1) := by decide +kernel
theorem dX6_ring_49 : decode cX6_ring 49 = .ok (.lstore 9, 2) := by decide +kernel
theorem dX6_ring_51 : decode cX6_ring 51 = .ok (.aload_n 0, 1) := by decide +kernel
theorem dX6_ring_52 : decode cX6_ring 52 = .ok (.getfield 17, 3) := by decide +kernel
theorem dX6_ring_55 : decode cX6_ring 55 = .ok (.iload_n 2, 1) := by decide +kernel
theorem dX6_ring_56 : decode cX6_ring 56 = .ok (.iaload, 1) := by decide +kernel
theorem dX6_ring_57 : decode cX6_ring 57 = .ok (.aload_n 0, 1) := by decide +kernel
theorem dX6_ring_58 : decode cX6_ring 58 = .ok (.getfield 17, 3) := by decide +kernel
theorem dX6_ring_61 : decode cX6_ring 61 = .ok (.iload 4, 2) := by decide +kernel
theorem dX6_ring_63 : decode cX6_ring 63 = .ok (.iaload, 1) := by decide +kernel
theorem dX6_ring_64 : decode cX6_ring 64 = .ok (.isub, 1) := by decide +kernel
theorem dX6_ring_65 : decode cX6_ring 65 = .ok (.i2l, 1) := by decide +kernel
theorem dX6_ring_66 : decode cX6_ring 66 = .ok (.lstore 11, 2) := by decide +kernel
theorem dX6_ring_68 : decode cX6_ring 68 = .ok (.aload_n 0, 1) := by decide +kernel
theorem dX6_ring_69 : decode cX6_ring 69 = .ok (.getfield 13, 3) := by decide +kernel
theorem dX6_ring_72 : decode cX6_ring 72 = .ok (.iload_n 3, 1) := by decide +kernel
theorem dX6_ring_73 : decode cX6_ring 73 = .ok (.iaload, 1) := by decide +kernel
theorem dX6_ring_74 : decode cX6_ring 74 = .ok (.aload_n 0, 1) := by decide +kernel
theorem dX6_ring_75 : decode cX6_ring 75 = .ok (.getfield 13, 3) := by decide +kernel
theorem dX6_ring_78 : decode cX6_ring 78 = .ok (.iload 4, 2) := by decide +kernel
theorem dX6_ring_80 : decode cX6_ring 80 = .ok (.iaload, 1) := by decide +kernel
theorem dX6_ring_81 : decode cX6_ring 81 = .ok (.isub, 1) := by decide +kernel
theorem dX6_ring_82 : decode cX6_ring 82 = .ok (.i2l, 1) := by decide +kernel
theorem dX6_ring_83 : decode cX6_ring 83 = .ok (.lstore 13, 2) := by decide +kernel
theorem dX6_ring_85 : decode cX6_ring 85 = .ok (.aload_n 0, 1) := by decide +kernel
theorem dX6_ring_86 : decode cX6_ring 86 = .ok (.getfield 17, 3) := by decide +kernel
theorem dX6_ring_89 : decode cX6_ring 89 = .ok (.iload_n 3, 1) := by decide +kernel
theorem dX6_ring_90 : decode cX6_ring 90 = .ok (.iaload, 1) := by decide +kernel
theorem dX6_ring_91 : decode cX6_ring 91 = .ok (.aload_n 0, 1) := by decide +kernel
theorem dX6_ring_92 : decode cX6_ring 92 = .ok (.getfield 17, 3) := by decide +kernel
theorem dX6_ring_95 : decode cX6_ring 95 = .ok (.iload 4, 2) := by decide +kernel
theorem dX6_ring_97 : decode cX6_ring 97 = .ok (.iaload, 1) := by decide +kernel
theorem dX6_ring_98 : decode cX6_ring 98 = .ok (.isub, 1) := by decide +kernel
theorem dX6_ring_99 : decode cX6_ring 99 = .ok (.i2l, 1) := by decide +kernel
theorem dX6_ring_100 : decode cX6_ring 100 = .ok (.lstore 15, 2) := by decide +kernel
theorem dX6_ring_102 : decode cX6_ring 102 = .ok (.lload 5, 2) := by decide +kernel
theorem dX6_ring_104 : decode cX6_ring 104 = .ok (.lload 5, 2) := by decide +kernel
theorem dX6_ring_106 : decode cX6_ring 106 = .ok (.lmul, 1) := by decide +kernel
theorem dX6_ring_107 : decode cX6_ring 107 = .ok (.lload 7, 2) := by decide +kernel
theorem dX6_ring_109 : decode cX6_ring 109 = .ok (.lload 7, 2) := by decide +kernel
theorem dX6_ring_111 : decode cX6_ring 111 = .ok (.lmul, 1) := by decide +kernel
theorem dX6_ring_112 : decode cX6_ring 112 = .ok (.ladd, 1) := by decide +kernel
theorem dX6_ring_113 : decode cX6_ring 113 = .ok (.lstore 17, 2) := by decide +kernel
theorem dX6_ring_115 : decode cX6_ring 115 = .ok (.lload 9, 2) := by decide +kernel
theorem dX6_ring_117 : decode cX6_ring 117 = .ok (.lload 9, 2) := by decide +kernel
theorem dX6_ring_119 : decode cX6_ring 119 = .ok (.lmul, 1) := by decide +kernel
theorem dX6_ring_120 : decode cX6_ring 120 = .ok (.lload 11, 2) := by decide +kernel
theorem dX6_ring_122 : decode cX6_ring 122 = .ok (.lload 11, 2) := by decide +kernel
theorem dX6_ring_124 : decode cX6_ring 124 = .ok (.lmul, 1) := by decide +kernel
theorem dX6_ring_125 : decode cX6_ring 125 = .ok (.ladd, 1) := by decide +kernel
theorem dX6_ring_126 : decode cX6_ring 126 = .ok (.lstore 19, 2) := by decide +kernel
theorem dX6_ring_128 : decode cX6_ring 128 = .ok (.lload 13, 2) := by decide +kernel
theorem dX6_ring_130 : decode cX6_ring 130 = .ok (.lload 13, 2) := by decide +kernel
theorem dX6_ring_132 : decode cX6_ring 132 = .ok (.lmul, 1) := by decide +kernel
theorem dX6_ring_133 : decode cX6_ring 133 = .ok (.lload 15, 2) := by decide +kernel
theorem dX6_ring_135 : decode cX6_ring 135 = .ok (.lload 15, 2) := by decide +kernel
theorem dX6_ring_137 : decode cX6_ring 137 = .ok (.lmul, 1) := by decide +kernel
theorem dX6_ring_138 : decode cX6_ring 138 = .ok (.ladd, 1) := by decide +kernel
theorem dX6_ring_139 : decode cX6_ring 139 = .ok (.lstore 21, 2) := by decide +kernel
theorem dX6_ring_141 : decode cX6_ring 141 = .ok (.aload_n 0, 1) := by decide +kernel
theorem dX6_ring_142 : decode cX6_ring 142 = .ok (.iload_n 1, 1) := by decide +kernel
theorem dX6_ring_143 : decode cX6_ring 143 = .ok (.iload_n 2, 1) := by decide +kernel
theorem dX6_ring_144 : decode cX6_ring 144 = .ok (.iload_n 3, 1) := by decide +kernel
theorem dX6_ring_145 : decode cX6_ring 145 = .ok (.invokevirtual 58, 3) := by decide +kernel
theorem dX6_ring_148 : decode cX6_ring 148 = .ok (.lload 17, 2) := by decide +kernel
theorem dX6_ring_150 : decode cX6_ring 150 = .ok (.lload 9, 2) := by decide +kernel
theorem dX6_ring_152 : decode cX6_ring 152 = .ok (.lload 15, 2) := by decide +kernel
theorem dX6_ring_154 : decode cX6_ring 154 = .ok (.lmul, 1) := by decide +kernel
theorem dX6_ring_155 : decode cX6_ring 155 = .ok (.lload 11, 2) := by decide +kernel
theorem dX6_ring_157 : decode cX6_ring 157 = .ok (.lload 13, 2) := by decide +kernel
theorem dX6_ring_159 : decode cX6_ring 159 = .ok (.lmul, 1) := by decide +kernel
theorem dX6_ring_160 : decode cX6_ring 160 = .ok (.lsub, 1) := by decide +kernel
theorem dX6_ring_161 : decode cX6_ring 161 = .ok (.lmul, 1) := by decide +kernel
theorem dX6_ring_162 : decode cX6_ring 162 = .ok (.lload 19, 2) := by decide +kernel
theorem dX6_ring_164 : decode cX6_ring 164 = .ok (.lload 13, 2) := by decide +kernel
theorem dX6_ring_166 : decode cX6_ring 166 = .ok (.lload 7, 2) := by decide +kernel
theorem dX6_ring_168 : decode cX6_ring 168 = .ok (.lmul, 1) := by decide +kernel
theorem dX6_ring_169 : decode cX6_ring 169 = .ok (.lload 15, 2) := by decide +kernel
theorem dX6_ring_171 : decode cX6_ring 171 = .ok (.lload 5, 2) := by decide +kernel
theorem dX6_ring_173 : decode cX6_ring 173 = .ok (.lmul, 1) := by decide +kernel
theorem dX6_ring_174 : decode cX6_ring 174 = .ok (.lsub, 1) := by decide +kernel
theorem dX6_ring_175 : decode cX6_ring 175 = .ok (.lmul, 1) := by decide +kernel
theorem dX6_ring_176 : decode cX6_ring 176 = .ok (.ladd, 1) := by decide +kernel
theorem dX6_ring_177 : decode cX6_ring 177 = .ok (.lload 21, 2) := by decide +kernel
theorem dX6_ring_179 : decode cX6_ring 179 = .ok (.lload 5, 2) := by decide +kernel
theorem dX6_ring_181 : decode cX6_ring 181 = .ok (.lload 11, 2) := by decide +kernel
theorem dX6_ring_183 : decode cX6_ring 183 = .ok (.lmul, 1) := by decide +kernel
theorem dX6_ring_184 : decode cX6_ring 184 = .ok (.lload 7, 2) := by decide +kernel
theorem dX6_ring_186 : decode cX6_ring 186 = .ok (.lload 9, 2) := by decide +kernel
theorem dX6_ring_188 : decode cX6_ring 188 = .ok (.lmul, 1) := by decide +kernel
theorem dX6_ring_189 : decode cX6_ring 189 = .ok (.lsub, 1) := by decide +kernel
theorem dX6_ring_190 : decode cX6_ring 190 = .ok (.lmul, 1) := by decide +kernel
theorem dX6_ring_191 : decode cX6_ring 191 = .ok (.ladd, 1) := by decide +kernel
theorem dX6_ring_192 : decode cX6_ring 192 = .ok (.invokestatic 54, 3) := by decide +kernel
theorem dX6_ring_195 : decode cX6_ring 195 = .ok (.imul, 1) := by decide +kernel
theorem dX6_ring_196 : decode cX6_ring 196 = .ok (.ireturn, 1) := by decide +kernel
theorem dX6_size_0 : decode cX6_size 0 = .ok (.aload_n 0, 1) := by decide +kernel
theorem dX6_size_1 : decode cX6_size 1 = .ok (.iconst 0, 1) := by decide +kernel
theorem dX6_size_2 : decode cX6_size 2 = .ok (.putfield 1, 3) := by decide +kernel
theorem dX6_size_5 : decode cX6_size 5 = .ok (.iload_n 1, 1) := by decide +kernel
theorem dX6_size_6 : decode cX6_size 6 = .ok (.bipush 24, 2) := by decide +kernel
theorem dX6_size_8 : decode cX6_size 8 = .ok (.if_icmp .le 6, 3) := by decide +kernel
theorem dX6_size_11 : decode cX6_size 11 = .ok (.bipush (-2), 2) := by decide +kernel
theorem dX6_size_13 : decode cX6_size 13 = .ok (.ireturn, 1) := by decide +kernel
theorem dX6_size_14 : decode cX6_size 14 = .ok (.iload_n 1, 1) := by decide +kernel
theorem dX6_size_15 : decode cX6_size 15 = .ok (.ifCond .ge 9, 3) := by decide +kernel
theorem dX6_size_18 : decode cX6_size 18 = .ok (.aload_n 0, 1) := by decide +kernel
theorem dX6_size_19 : decode cX6_size 19 = .ok (.iconst 1, 1) := by decide +kernel
theorem dX6_size_20 : decode cX6_size 20 = .ok (.invokevirtual 62, 3) := by decide +kernel
theorem dX6_size_23 : decode cX6_size 23 = .ok (.ireturn, 1) := by decide +kernel
theorem dX6_size_24 : decode cX6_size 24 = .ok (.aload_n 0, 1) := by decide +kernel
theorem dX6_size_25 : decode cX6_size 25 = .ok (.getfield 66, 3) := by decide +kernel
theorem dX6_size_28 : decode cX6_size 28 = .ok (.istore_n 2, 1) := by decide +kernel
theorem dX6_size_29 : decode cX6_size 29 = .ok (.aload_n 0, 1) := by decide +kernel
theorem dX6_size_30 : decode cX6_size 30 = .ok (.iload_n 1, 1) := by decide +kernel
theorem dX6_size_31 : decode cX6_size 31 = .ok (.putfield 66, 3) := by decide +kernel
theorem dX6_size_34 : decode cX6_size 34 = .ok (.iconst 0, 1) := by decide +kernel
theorem dX6_size_35 : decode cX6_size 35 = .ok (.istore_n 3, 1) := by decide +kernel
theorem dX6_size_36 : decode cX6_size 36 = .ok (.iload_n 3, 1) := by decide +kernel
theorem dX6_size_37 : decode cX6_size 37 = .ok (.bipush 24, 2) := by decide +kernel
theorem dX6_size_39 : decode cX6_size 39 = .ok (.if_icmp .ge 16, 3) := by decide +kernel
theorem dX6_size_42 : decode cX6_size 42 = .ok (.aload_n 0, 1) := by decide +kernel
theorem dX6_size_43 : decode cX6_size 43 = .ok (.getfield 20, 3) := by decide +kernel
theorem dX6_size_46 : decode cX6_size 46 = .ok (.iload_n 3, 1) := by decide +kernel
theorem dX6_size_47 : decode cX6_size 47 = .ok (.iconst (-1), 1) := by decide +kernel
theorem dX6_size_48 : decode cX6_size 48 = .ok (.iastore, 1) := by decide +kernel
theorem dX6_size_49 : decode cX6_size 49 = .ok (.iinc 3 1, 3) := by decide +kernel
theorem dX6_size_52 : decode cX6_size 52 = .ok (.goto (-16), 3) := by decide +kernel
theorem dX6_size_55 : decode cX6_size 55 = .ok (.iload_n 2, 1) := by decide +kernel
theorem dX6_size_56 : decode cX6_size 56 = .ok (.ireturn, 1) := by decide +kernel
theorem dX6_isPlace_0 : decode cX6_isPlace 0 = .ok (.iload_n 1, 1) := by decide +kernel
theorem dX6_isPlace_1 : decode cX6_isPlace 1 = .ok (.ifCond .lt 15, 3) := by decide +kernel
theorem dX6_isPlace_4 : decode cX6_isPlace 4 = .ok (.iload_n 1, 1) := by decide +kernel
theorem dX6_isPlace_5 : decode cX6_isPlace 5 = .ok (.aload_n 0, 1) := by decide +kernel
theorem dX6_isPlace_6 : decode cX6_isPlace 6 = .ok (.getfield 66, 3) := by decide +kernel
theorem dX6_isPlace_9 : decode cX6_isPlace 9 = .ok (.if_icmp .ge 7, 3) := by decide +kernel
theorem dX6_isPlace_12 : decode cX6_isPlace 12 = .ok (.iconst 1, 1) := by decide +kernel
theorem dX6_isPlace_13 : decode cX6_isPlace 13 = .ok (.goto 4, 3) := by decide +kernel
theorem dX6_isPlace_16 : decode cX6_isPlace 16 = .ok (.iconst 0, 1) := by decide +kernel
theorem dX6_isPlace_17 : decode cX6_isPlace 17 = .ok (.ireturn, 1) := by decide +kernel
theorem dX6_of_0 : decode cX6_of 0 = .ok (.aload_n 0, 1) := by decide +kernel
theorem dX6_of_1 : decode cX6_of 1 = .ok (.iconst 0, 1) := by decide +kernel
theorem dX6_of_2 : decode cX6_of 2 = .ok (.putfield 1, 3) := by decide +kernel
theorem dX6_of_5 : decode cX6_of 5 = .ok (.iload_n 2, 1) := by decide +kernel
theorem dX6_of_6 : decode cX6_of 6 = .ok (.iconst (-1), 1) := by decide +kernel
theorem dX6_of_7 : decode cX6_of 7 = .ok (.if_icmp .eq 14, 3) := by decide +kernel
theorem dX6_of_10 : decode cX6_of 10 = .ok (.aload_n 0, 1) := by decide +kernel
theorem dX6_of_11 : decode cX6_of 11 = .ok (.iload_n 2, 1) := by decide +kernel
theorem dX6_of_12 : decode cX6_of 12 = .ok (.invokevirtual 69, 3) := by decide +kernel
theorem dX6_of_15 : decode cX6_of 15 = .ok (.ifCond .ne 6, 3) := by decide +kernel
theorem dX6_of_18 : decode cX6_of 18 = .ok (.bipush (-2), 2) := by decide +kernel
theorem dX6_of_20 : decode cX6_of 20 = .ok (.ireturn, 1) := by decide +kernel
theorem dX6_of_21 : decode cX6_of 21 = .ok (.aload_n 0, 1) := by decide +kernel
theorem dX6_of_22 : decode cX6_of 22 = .ok (.iload_n 1, 1) := by decide +kernel
theorem dX6_of_23 : decode cX6_of 23 = .ok (.invokevirtual 73, 3) := by decide +kernel
theorem dX6_of_26 : decode cX6_of 26 = .ok (.ifCond .ne 9, 3) := by decide +kernel
theorem dX6_of_29 : decode cX6_of 29 = .ok (.aload_n 0, 1) := by decide +kernel
theorem dX6_of_30 : decode cX6_of 30 = .ok (.iconst 1, 1) := by decide +kernel
theorem dX6_of_31 : decode cX6_of 31 = .ok (.invokevirtual 62, 3) := by decide +kernel
theorem dX6_of_34 : decode cX6_of 34 = .ok (.ireturn, 1) := by decide +kernel
theorem dX6_of_35 : decode cX6_of 35 = .ok (.aload_n 0, 1) := by decide +kernel
theorem dX6_of_36 : decode cX6_of 36 = .ok (.getfield 20, 3) := by decide +kernel
theorem dX6_of_39 : decode cX6_of 39 = .ok (.iload_n 1, 1) := by decide +kernel
theorem dX6_of_40 : decode cX6_of 40 = .ok (.iaload, 1) := by decide +kernel
theorem dX6_of_41 : decode cX6_of 41 = .ok (.istore_n 3, 1) := by decide +kernel
theorem dX6_of_42 : decode cX6_of 42 = .ok (.aload_n 0, 1) := by decide +kernel
theorem dX6_of_43 : decode cX6_of 43 = .ok (.getfield 20, 3) := by decide +kernel
theorem dX6_of_46 : decode cX6_of 46 = .ok (.iload_n 1, 1) := by decide +kernel
theorem dX6_of_47 : decode cX6_of 47 = .ok (.iload_n 2, 1) := by decide +kernel
theorem dX6_of_48 : decode cX6_of 48 = .ok (.iastore, 1) := by decide +kernel
theorem dX6_of_49 : decode cX6_of 49 = .ok (.iload_n 3, 1) := by decide +kernel
theorem dX6_of_50 : decode cX6_of 50 = .ok (.ireturn, 1) := by decide +kernel
theorem dX6_at_0 : decode cX6_at 0 = .ok (.aload_n 0, 1) := by decide +kernel
theorem dX6_at_1 : decode cX6_at 1 = .ok (.iconst 0, 1) := by decide +kernel
theorem dX6_at_2 : decode cX6_at 2 = .ok (.putfield 1, 3) := by decide +kernel
theorem dX6_at_5 : decode cX6_at 5 = .ok (.aload_n 0, 1) := by decide +kernel
theorem dX6_at_6 : decode cX6_at 6 = .ok (.iload_n 1, 1) := by decide +kernel
theorem dX6_at_7 : decode cX6_at 7 = .ok (.invokevirtual 73, 3) := by decide +kernel
theorem dX6_at_10 : decode cX6_at 10 = .ok (.ifCond .ne 9, 3) := by decide +kernel
theorem dX6_at_13 : decode cX6_at 13 = .ok (.aload_n 0, 1) := by decide +kernel
theorem dX6_at_14 : decode cX6_at 14 = .ok (.iconst 1, 1) := by decide +kernel
theorem dX6_at_15 : decode cX6_at 15 = .ok (.invokevirtual 62, 3) := by decide +kernel
theorem dX6_at_18 : decode cX6_at 18 = .ok (.ireturn, 1) := by decide +kernel
theorem dX6_at_19 : decode cX6_at 19 = .ok (.aload_n 0, 1) := by decide +kernel
theorem dX6_at_20 : decode cX6_at 20 = .ok (.getfield 20, 3) := by decide +kernel
theorem dX6_at_23 : decode cX6_at 23 = .ok (.iload_n 1, 1) := by decide +kernel
theorem dX6_at_24 : decode cX6_at 24 = .ok (.iaload, 1) := by decide +kernel
theorem dX6_at_25 : decode cX6_at 25 = .ok (.iconst (-1), 1) := by decide +kernel
theorem dX6_at_26 : decode cX6_at 26 = .ok (.if_icmp .ne 9, 3) := by decide +kernel
theorem dX6_at_29 : decode cX6_at 29 = .ok (.aload_n 0, 1) := by decide +kernel
theorem dX6_at_30 : decode cX6_at 30 = .ok (.iconst 2, 1) := by decide +kernel
theorem dX6_at_31 : decode cX6_at 31 = .ok (.invokevirtual 62, 3) := by decide +kernel
theorem dX6_at_34 : decode cX6_at 34 = .ok (.ireturn, 1) := by decide +kernel
theorem dX6_at_35 : decode cX6_at 35 = .ok (.iload_n 2, 1) := by decide +kernel
theorem dX6_at_36 : decode cX6_at 36 = .ok (.ifCond .ne 17, 3) := by decide +kernel
theorem dX6_at_39 : decode cX6_at 39 = .ok (.aload_n 0, 1) := by decide +kernel
theorem dX6_at_40 : decode cX6_at 40 = .ok (.getfield 13, 3) := by decide +kernel
theorem dX6_at_43 : decode cX6_at 43 = .ok (.aload_n 0, 1) := by decide +kernel
theorem dX6_at_44 : decode cX6_at 44 = .ok (.getfield 20, 3) := by decide +kernel
theorem dX6_at_47 : decode cX6_at 47 = .ok (.iload_n 1, 1) := by decide +kernel
theorem dX6_at_48 : decode cX6_at 48 = .ok (.iaload, 1) := by decide +kernel
theorem dX6_at_49 : decode cX6_at 49 = .ok (.iaload, 1) := by decide +kernel
theorem dX6_at_50 : decode cX6_at 50 = .ok (.goto 28, 3) := by decide +kernel
theorem dX6_at_53 : decode cX6_at 53 = .ok (.iload_n 2, 1) := by decide +kernel
theorem dX6_at_54 : decode cX6_at 54 = .ok (.iconst 1, 1) := by decide +kernel
theorem dX6_at_55 : decode cX6_at 55 = .ok (.if_icmp .ne 17, 3) := by decide +kernel
theorem dX6_at_58 : decode cX6_at 58 = .ok (.aload_n 0, 1) := by decide +kernel
theorem dX6_at_59 : decode cX6_at 59 = .ok (.getfield 17, 3) := by decide +kernel
theorem dX6_at_62 : decode cX6_at 62 = .ok (.aload_n 0, 1) := by decide +kernel
theorem dX6_at_63 : decode cX6_at 63 = .ok (.getfield 20, 3) := by decide +kernel
theorem dX6_at_66 : decode cX6_at 66 = .ok (.iload_n 1, 1) := by decide +kernel
theorem dX6_at_67 : decode cX6_at 67 = .ok (.iaload, 1) := by decide +kernel
theorem dX6_at_68 : decode cX6_at 68 = .ok (.iaload, 1) := by decide +kernel
theorem dX6_at_69 : decode cX6_at 69 = .ok (.goto 9, 3) := by decide +kernel
theorem dX6_at_72 : decode cX6_at 72 = .ok (.aload_n 0, 1) := by decide +kernel
theorem dX6_at_73 : decode cX6_at 73 = .ok (.getfield 20, 3) := by decide +kernel
theorem dX6_at_76 : decode cX6_at 76 = .ok (.iload_n 1, 1) := by decide +kernel
theorem dX6_at_77 : decode cX6_at 77 = .ok (.iaload, 1) := by decide +kernel
theorem dX6_at_78 : decode cX6_at 78 = .ok (.ireturn, 1) := by decide +kernel
theorem dX6_size__0 : decode cX6_size_ 0 = .ok (.fload_n 0, 1) := by decide +kernel
theorem dX6_size__1 : decode cX6_size_ 1 = .ok (.fconst 0, 1) := by decide +kernel
theorem dX6_size__2 : decode cX6_size_ 2 = .ok (.fcmp .g, 1) := by decide +kernel
theorem dX6_size__3 : decode cX6_size_ 3 = .ok (.ifCond .ge 8, 3) := by decide +kernel
theorem dX6_size__6 : decode cX6_size_ 6 = .ok (.fload_n 0, 1) := by decide +kernel
theorem dX6_size__7 : decode cX6_size_ 7 = .ok (.fneg, 1) := by decide +kernel
theorem dX6_size__8 : decode cX6_size_ 8 = .ok (.goto 4, 3) := by decide +kernel
theorem dX6_size__11 : decode cX6_size_ 11 = .ok (.fload_n 0, 1) := by decide +kernel
theorem dX6_size__12 : decode cX6_size_ 12 = .ok (.freturn, 1) := by decide +kernel
theorem dX6_greater_0 : decode cX6_greater 0 = .ok (.fload_n 0, 1) := by decide +kernel
theorem dX6_greater_1 : decode cX6_greater 1 = .ok (.fload_n 1, 1) := by decide +kernel
theorem dX6_greater_2 : decode cX6_greater 2 = .ok (.fcmp .l, 1) := by decide +kernel
theorem dX6_greater_3 : decode cX6_greater 3 = .ok (.ifCond .le 7, 3) := by decide +kernel
theorem dX6_greater_6 : decode cX6_greater 6 = .ok (.fload_n 0, 1) := by decide +kernel
theorem dX6_greater_7 : decode cX6_greater 7 = .ok (.goto 4, 3) := by decide +kernel
theorem dX6_greater_10 : decode cX6_greater 10 = .ok (.fload_n 1, 1) := by decide +kernel
theorem dX6_greater_11 : decode cX6_greater 11 = .ok (.freturn, 1) := by decide +kernel
theorem dX6_fx_0 : decode cX6_fx 0 = .ok (.aload_n 0, 1) := by decide +kernel
theorem dX6_fx_1 : decode cX6_fx 1 = .ok (.getfield 13, 3) := by decide +kernel
theorem dX6_fx_4 : decode cX6_fx 4 = .ok (.iload_n 1, 1) := by decide +kernel
theorem dX6_fx_5 : decode cX6_fx 5 = .ok (.iaload, 1) := by decide +kernel
theorem dX6_fx_6 : decode cX6_fx 6 = .ok (.i2f, 1) := by decide +kernel
theorem dX6_fx_7 : decode cX6_fx 7 = .ok (.ldc 76, 2) := by decide +kernel
theorem dX6_fx_9 : decode cX6_fx 9 = .ok (.fdiv, 1) := by decide +kernel
theorem dX6_fx_10 : decode cX6_fx 10 = .ok (.freturn, 1) := by decide +kernel
theorem dX6_fy_0 : decode cX6_fy 0 = .ok (.aload_n 0, 1) := by decide +kernel
theorem dX6_fy_1 : decode cX6_fy 1 = .ok (.getfield 17, 3) := by decide +kernel
theorem dX6_fy_4 : decode cX6_fy 4 = .ok (.iload_n 1, 1) := by decide +kernel
theorem dX6_fy_5 : decode cX6_fy 5 = .ok (.iaload, 1) := by decide +kernel
theorem dX6_fy_6 : decode cX6_fy 6 = .ok (.i2f, 1) := by decide +kernel
theorem dX6_fy_7 : decode cX6_fy 7 = .ok (.ldc 76, 2) := by decide +kernel
theorem dX6_fy_9 : decode cX6_fy 9 = .ok (.fdiv, 1) := by decide +kernel
theorem dX6_fy_10 : decode cX6_fy 10 = .ok (.freturn, 1) := by decide +kernel
theorem dX6_most_0 : decode cX6_most 0 = .ok (.aload_n 0, 1) := by decide +kernel
theorem dX6_most_1 : decode cX6_most 1 = .ok (.iload_n 1, 1) := by decide +kernel
theorem dX6_most_2 : decode cX6_most 2 = .ok (.invokevirtual 77, 3) := by decide +kernel
theorem dX6_most_5 : decode cX6_most 5 = .ok (.invokestatic 81, 3) := by decide +kernel
theorem dX6_most_8 : decode cX6_most 8 = .ok (.aload_n 0, 1) := by decide +kernel
theorem dX6_most_9 : decode cX6_most 9 = .ok (.iload_n 1, 1) := by decide +kernel
theorem dX6_most_10 : decode cX6_most 10 = .ok (.invokevirtual 85, 3) := by decide +kernel
theorem dX6_most_13 : decode cX6_most 13 = .ok (.invokestatic 81, 3) := by decide +kernel
theorem dX6_most_16 : decode cX6_most 16 = .ok (.invokestatic 88, 3) := by decide +kernel
theorem dX6_most_19 : decode cX6_most 19 = .ok (.aload_n 0, 1) := by decide +kernel
theorem dX6_most_20 : decode cX6_most 20 = .ok (.iload_n 2, 1) := by decide +kernel
theorem dX6_most_21 : decode cX6_most 21 = .ok (.invokevirtual 77, 3) := by decide +kernel
theorem dX6_most_24 : decode cX6_most 24 = .ok (.invokestatic 81, 3) := by decide +kernel
theorem dX6_most_27 : decode cX6_most 27 = .ok (.aload_n 0, 1) := by decide +kernel
theorem dX6_most_28 : decode cX6_most 28 = .ok (.iload_n 2, 1) := by decide +kernel
theorem dX6_most_29 : decode cX6_most 29 = .ok (.invokevirtual 85, 3) := by decide +kernel
theorem dX6_most_32 : decode cX6_most 32 = .ok (.invokestatic 81, 3) := by decide +kernel
theorem dX6_most_35 : decode cX6_most 35 = .ok (.invokestatic 88, 3) := by decide +kernel
theorem dX6_most_38 : decode cX6_most 38 = .ok (.invokestatic 88, 3) := by decide +kernel
theorem dX6_most_41 : decode cX6_most 41 = .ok (.aload_n 0, 1) := by decide +kernel
theorem dX6_most_42 : decode cX6_most 42 = .ok (.iload_n 3, 1) := by decide +kernel
theorem dX6_most_43 : decode cX6_most 43 = .ok (.invokevirtual 77, 3) := by decide +kernel
theorem dX6_most_46 : decode cX6_most 46 = .ok (.invokestatic 81, 3) := by decide +kernel
theorem dX6_most_49 : decode cX6_most 49 = .ok (.aload_n 0, 1) := by decide +kernel
theorem dX6_most_50 : decode cX6_most 50 = .ok (.iload_n 3, 1) := by decide +kernel
theorem dX6_most_51 : decode cX6_most 51 = .ok (.invokevirtual 85, 3) := by decide +kernel
theorem dX6_most_54 : decode cX6_most 54 = .ok (.invokestatic 81, 3) := by decide +kernel
theorem dX6_most_57 : decode cX6_most 57 = .ok (.invokestatic 88, 3) := by decide +kernel
theorem dX6_most_60 : decode cX6_most 60 = .ok (.invokestatic 88, 3) := by decide +kernel
theorem dX6_most_63 : decode cX6_most 63 = .ok (.freturn, 1) := by decide +kernel
theorem dX6_decidesTurn_0 : decode cX6_decidesTurn 0 = .ok (.aload_n 0, 1) := by decide +kernel
theorem dX6_decidesTurn_1 : decode cX6_decidesTurn 1 = .ok (.iload_n 2, 1) := by decide +kernel
theorem dX6_decidesTurn_2 : decode cX6_decidesTurn 2 = .ok (.invokevirtual 77, 3) := by decide +kernel
theorem dX6_decidesTurn_5 : decode cX6_decidesTurn 5 = .ok (.aload_n 0, 1) := by decide +kernel
theorem dX6_decidesTurn_6 : decode cX6_decidesTurn 6 = .ok (.iload_n 1, 1) := by decide +kernel
theorem dX6_decidesTurn_7 : decode cX6_decidesTurn 7 = .ok (.invokevirtual 77, 3) := by decide +kernel
theorem dX6_decidesTurn_10 : decode cX6_decidesTurn 10 = .ok (.fsub, 1) := by decide +kernel
theorem dX6_decidesTurn_11 : decode cX6_decidesTurn 11 = .ok (.aload_n 0, 1) := by decide +kernel
theorem dX6_decidesTurn_12 : decode cX6_decidesTurn 12 = .ok (.iload_n 3, 1) := by decide +kernel
theorem dX6_decidesTurn_13 : decode cX6_decidesTurn 13 = .ok (.invokevirtual 85, 3) := by decide +kernel
theorem dX6_decidesTurn_16 : decode cX6_decidesTurn 16 = .ok (.aload_n 0, 1) := by decide +kernel
theorem dX6_decidesTurn_17 : decode cX6_decidesTurn 17 = .ok (.iload_n 1, 1) := by decide +kernel
theorem dX6_decidesTurn_18 : decode cX6_decidesTurn 18 = .ok (.invokevirtual 85, 3) := by decide +kernel
theorem dX6_decidesTurn_21 : decode cX6_decidesTurn 21 = .ok (.fsub, 1) := by decide +kernel
theorem dX6_decidesTurn_22 : decode cX6_decidesTurn 22 = .ok (.fmul, 1) := by decide +kernel
theorem dX6_decidesTurn_23 : decode cX6_decidesTurn 23 = .ok (.fstore 4, 2) := by decide +kernel
theorem dX6_decidesTurn_25 : decode cX6_decidesTurn 25 = .ok (.aload_n 0, 1) := by decide +kernel
theorem dX6_decidesTurn_26 : decode cX6_decidesTurn 26 = .ok (.iload_n 2, 1) := by decide +kernel
theorem dX6_decidesTurn_27 : decode cX6_decidesTurn 27 = .ok (.invokevirtual 85, 3) := by decide +kernel
theorem dX6_decidesTurn_30 : decode cX6_decidesTurn 30 = .ok (.aload_n 0, 1) := by decide +kernel
theorem dX6_decidesTurn_31 : decode cX6_decidesTurn 31 = .ok (.iload_n 1, 1) := by decide +kernel
theorem dX6_decidesTurn_32 : decode cX6_decidesTurn 32 = .ok (.invokevirtual 85, 3) := by decide +kernel
theorem dX6_decidesTurn_35 : decode cX6_decidesTurn 35 = .ok (.fsub, 1) := by decide +kernel
theorem dX6_decidesTurn_36 : decode cX6_decidesTurn 36 = .ok (.aload_n 0, 1) := by decide +kernel
theorem dX6_decidesTurn_37 : decode cX6_decidesTurn 37 = .ok (.iload_n 3, 1) := by decide +kernel
theorem dX6_decidesTurn_38 : decode cX6_decidesTurn 38 = .ok (.invokevirtual 77, 3) := by decide +kernel
theorem dX6_decidesTurn_41 : decode cX6_decidesTurn 41 = .ok (.aload_n 0, 1) := by decide +kernel
theorem dX6_decidesTurn_42 : decode cX6_decidesTurn 42 = .ok (.iload_n 1, 1) := by decide +kernel
theorem dX6_decidesTurn_43 : decode cX6_decidesTurn 43 = .ok (.invokevirtual 77, 3) := by decide +kernel
theorem dX6_decidesTurn_46 : decode cX6_decidesTurn 46 = .ok (.fsub, 1) := by decide +kernel
theorem dX6_decidesTurn_47 : decode cX6_decidesTurn 47 = .ok (.fmul, 1) := by decide +kernel
theorem dX6_decidesTurn_48 : decode cX6_decidesTurn 48 = .ok (.fstore 5, 2) := by decide +kernel
theorem dX6_decidesTurn_50 : decode cX6_decidesTurn 50 = .ok (.fload 4, 2) := by decide +kernel
theorem dX6_decidesTurn_52 : decode cX6_decidesTurn 52 = .ok (.fload 5, 2) := by decide +kernel
theorem dX6_decidesTurn_54 : decode cX6_decidesTurn 54 = .ok (.fsub, 1) := by decide +kernel
theorem dX6_decidesTurn_55 : decode cX6_decidesTurn 55 = .ok (.fstore 6, 2) := by decide +kernel
theorem dX6_decidesTurn_57 : decode cX6_decidesTurn 57 = .ok (.aload_n 0, 1) := by decide +kernel
theorem dX6_decidesTurn_58 : decode cX6_decidesTurn 58 = .ok (.iload_n 1, 1) := by decide +kernel
theorem dX6_decidesTurn_59 : decode cX6_decidesTurn 59 = .ok (.iload_n 2, 1) := by decide +kernel
theorem dX6_decidesTurn_60 : decode cX6_decidesTurn 60 = .ok (.iload_n 3, 1) := by decide +kernel
theorem dX6_decidesTurn_61 : decode cX6_decidesTurn 61 = .ok (.invokevirtual 92, 3) := by decide +kernel
theorem dX6_decidesTurn_64 : decode cX6_decidesTurn 64 = .ok (.fstore 7, 2) := by decide +kernel
theorem dX6_decidesTurn_66 : decode cX6_decidesTurn 66 = .ok (.fload 7, 2) := by decide +kernel
theorem dX6_decidesTurn_68 : decode cX6_decidesTurn 68 = .ok (.fload 7, 2) := by decide +kernel
theorem dX6_decidesTurn_70 : decode cX6_decidesTurn 70 = .ok (.fmul, 1) := by decide +kernel
theorem dX6_decidesTurn_71 : decode cX6_decidesTurn 71 = .ok (.ldc 96, 2) := by decide +kernel
theorem dX6_decidesTurn_73 : decode cX6_decidesTurn 73 = .ok (.fmul, 1) := by decide +kernel
theorem dX6_decidesTurn_74 : decode cX6_decidesTurn 74 = .ok (.fstore 8, 2) := by decide +kernel
theorem dX6_decidesTurn_76 : decode cX6_decidesTurn 76 = .ok (.fload 6, 2) := by decide +kernel
theorem dX6_decidesTurn_78 : decode cX6_decidesTurn 78 = .ok (.invokestatic 81, 3) := by decide +kernel
theorem dX6_decidesTurn_81 : decode cX6_decidesTurn 81 = .ok (.fload 8, 2) := by decide +kernel
theorem dX6_decidesTurn_83 : decode cX6_decidesTurn 83 = .ok (.fcmp .l, 1) := by decide +kernel
theorem dX6_decidesTurn_84 : decode cX6_decidesTurn 84 = .ok (.ifCond .le 7, 3) := by decide +kernel
theorem dX6_decidesTurn_87 : decode cX6_decidesTurn 87 = .ok (.iconst 1, 1) := by decide +kernel
theorem dX6_decidesTurn_88 : decode cX6_decidesTurn 88 = .ok (.goto 4, 3) := by decide +kernel
theorem dX6_decidesTurn_91 : decode cX6_decidesTurn 91 = .ok (.iconst 0, 1) := by decide +kernel
theorem dX6_decidesTurn_92 : decode cX6_decidesTurn 92 = .ok (.ireturn, 1) := by decide +kernel
theorem dX6_decidesRing_0 : decode cX6_decidesRing 0 = .ok (.aload_n 0, 1) := by decide +kernel
theorem dX6_decidesRing_1 : decode cX6_decidesRing 1 = .ok (.iload_n 1, 1) := by decide +kernel
theorem dX6_decidesRing_2 : decode cX6_decidesRing 2 = .ok (.invokevirtual 77, 3) := by decide +kernel
theorem dX6_decidesRing_5 : decode cX6_decidesRing 5 = .ok (.aload_n 0, 1) := by decide +kernel
theorem dX6_decidesRing_6 : decode cX6_decidesRing 6 = .ok (.iload 4, 2) := by decide +kernel
theorem dX6_decidesRing_8 : decode cX6_decidesRing 8 = .ok (.invokevirtual 77, 3) := by decide +kernel
theorem dX6_decidesRing_11 : decode cX6_decidesRing 11 = .ok (.fsub, 1) := by decide +kernel
theorem dX6_decidesRing_12 : decode cX6_decidesRing 12 = .ok (.fstore 5, 2) := by decide +kernel
theorem dX6_decidesRing_14 : decode cX6_decidesRing 14 = .ok (.aload_n 0, 1) := by decide +kernel
theorem dX6_decidesRing_15 : decode cX6_decidesRing 15 = .ok (.iload_n 1, 1) := by decide +kernel
theorem dX6_decidesRing_16 : decode cX6_decidesRing 16 = .ok (.invokevirtual 85, 3) := by decide +kernel
theorem dX6_decidesRing_19 : decode cX6_decidesRing 19 = .ok (.aload_n 0, 1) := by decide +kernel
theorem dX6_decidesRing_20 : decode cX6_decidesRing 20 = .ok (.iload 4, 2) := by decide +kernel
theorem dX6_decidesRing_22 : decode cX6_decidesRing 22 = .ok (.invokevirtual 85, 3) := by decide +kernel
theorem dX6_decidesRing_25 : decode cX6_decidesRing 25 = .ok (.fsub, 1) := by decide +kernel
theorem dX6_decidesRing_26 : decode cX6_decidesRing 26 = .ok (.fstore 6, 2) := by decide +kernel
theorem dX6_decidesRing_28 : decode cX6_decidesRing 28 = .ok (.aload_n 0, 1) := by decide +kernel
theorem dX6_decidesRing_29 : decode cX6_decidesRing 29 = .ok (.iload_n 2, 1) := by decide +kernel
theorem dX6_decidesRing_30 : decode cX6_decidesRing 30 = .ok (.invokevirtual 77, 3) := by decide +kernel
theorem dX6_decidesRing_33 : decode cX6_decidesRing 33 = .ok (.aload_n 0, 1) := by decide +kernel
theorem dX6_decidesRing_34 : decode cX6_decidesRing 34 = .ok (.iload 4, 2) := by decide +kernel
theorem dX6_decidesRing_36 : decode cX6_decidesRing 36 = .ok (.invokevirtual 77, 3) := by decide +kernel
theorem dX6_decidesRing_39 : decode cX6_decidesRing 39 = .ok (.fsub, 1) := by decide +kernel
theorem dX6_decidesRing_40 : decode cX6_decidesRing 40 = .ok (.fstore 7, 2) := by decide +kernel
theorem dX6_decidesRing_42 : decode cX6_decidesRing 42 = .ok (.aload_n 0, 1) := by decide +kernel
theorem dX6_decidesRing_43 : decode cX6_decidesRing 43 = .ok (.iload_n 2, 1) := by decide +kernel
theorem dX6_decidesRing_44 : decode cX6_decidesRing 44 = .ok (.invokevirtual 85, 3) := by decide +kernel
theorem dX6_decidesRing_47 : decode cX6_decidesRing 47 = .ok (.aload_n 0, 1) := by decide +kernel
theorem dX6_decidesRing_48 : decode cX6_decidesRing 48 = .ok (.iload 4, 2) := by decide +kernel
theorem dX6_decidesRing_50 : decode cX6_decidesRing 50 = .ok (.invokevirtual 85, 3) := by decide +kernel
theorem dX6_decidesRing_53 : decode cX6_decidesRing 53 = .ok (.fsub, 1) := by decide +kernel
theorem dX6_decidesRing_54 : decode cX6_decidesRing 54 = .ok (.fstore 8, 2) := by decide +kernel
theorem dX6_decidesRing_56 : decode cX6_decidesRing 56 = .ok (.aload_n 0, 1) := by decide +kernel
theorem dX6_decidesRing_57 : decode cX6_decidesRing 57 = .ok (.iload_n 3, 1) := by decide +kernel
theorem dX6_decidesRing_58 : decode cX6_decidesRing 58 = .ok (.invokevirtual 77, 3) := by decide +kernel
theorem dX6_decidesRing_61 : decode cX6_decidesRing 61 = .ok (.aload_n 0, 1) := by decide +kernel
theorem dX6_decidesRing_62 : decode cX6_decidesRing 62 = .ok (.iload 4, 2) := by decide +kernel
theorem dX6_decidesRing_64 : decode cX6_decidesRing 64 = .ok (.invokevirtual 77, 3) := by decide +kernel
theorem dX6_decidesRing_67 : decode cX6_decidesRing 67 = .ok (.fsub, 1) := by decide +kernel
theorem dX6_decidesRing_68 : decode cX6_decidesRing 68 = .ok (.fstore 9, 2) := by decide +kernel
theorem dX6_decidesRing_70 : decode cX6_decidesRing 70 = .ok (.aload_n 0, 1) := by decide +kernel
theorem dX6_decidesRing_71 : decode cX6_decidesRing 71 = .ok (.iload_n 3, 1) := by decide +kernel
theorem dX6_decidesRing_72 : decode cX6_decidesRing 72 = .ok (.invokevirtual 85, 3) := by decide +kernel
theorem dX6_decidesRing_75 : decode cX6_decidesRing 75 = .ok (.aload_n 0, 1) := by decide +kernel
theorem dX6_decidesRing_76 : decode cX6_decidesRing 76 = .ok (.iload 4, 2) := by decide +kernel
theorem dX6_decidesRing_78 : decode cX6_decidesRing 78 = .ok (.invokevirtual 85, 3) := by decide +kernel
theorem dX6_decidesRing_81 : decode cX6_decidesRing 81 = .ok (.fsub, 1) := by decide +kernel
theorem dX6_decidesRing_82 : decode cX6_decidesRing 82 = .ok (.fstore 10, 2) := by decide +kernel
theorem dX6_decidesRing_84 : decode cX6_decidesRing 84 = .ok (.fload 5, 2) := by decide +kernel
theorem dX6_decidesRing_86 : decode cX6_decidesRing 86 = .ok (.fload 5, 2) := by decide +kernel
theorem dX6_decidesRing_88 : decode cX6_decidesRing 88 = .ok (.fmul, 1) := by decide +kernel
theorem dX6_decidesRing_89 : decode cX6_decidesRing 89 = .ok (.fload 6, 2) := by decide +kernel
theorem dX6_decidesRing_91 : decode cX6_decidesRing 91 = .ok (.fload 6, 2) := by decide +kernel
theorem dX6_decidesRing_93 : decode cX6_decidesRing 93 = .ok (.fmul, 1) := by decide +kernel
theorem dX6_decidesRing_94 : decode cX6_decidesRing 94 = .ok (.fadd, 1) := by decide +kernel
theorem dX6_decidesRing_95 : decode cX6_decidesRing 95 = .ok (.fstore 11, 2) := by decide +kernel
theorem dX6_decidesRing_97 : decode cX6_decidesRing 97 = .ok (.fload 7, 2) := by decide +kernel
theorem dX6_decidesRing_99 : decode cX6_decidesRing 99 = .ok (.fload 7, 2) := by decide +kernel
theorem dX6_decidesRing_101 : decode cX6_decidesRing 101 = .ok (.fmul, 1) := by decide +kernel
theorem dX6_decidesRing_102 : decode cX6_decidesRing 102 = .ok (.fload 8, 2) := by decide +kernel
theorem dX6_decidesRing_104 : decode cX6_decidesRing 104 = .ok (.fload 8, 2) := by decide +kernel
theorem dX6_decidesRing_106 : decode cX6_decidesRing 106 = .ok (.fmul, 1) := by decide +kernel
theorem dX6_decidesRing_107 : decode cX6_decidesRing 107 = .ok (.fadd, 1) := by decide +kernel
theorem dX6_decidesRing_108 : decode cX6_decidesRing 108 = .ok (.fstore 12, 2) := by decide +kernel
theorem dX6_decidesRing_110 : decode cX6_decidesRing 110 = .ok (.fload 9, 2) := by decide +kernel
theorem dX6_decidesRing_112 : decode cX6_decidesRing 112 = .ok (.fload 9, 2) := by decide +kernel
theorem dX6_decidesRing_114 : decode cX6_decidesRing 114 = .ok (.fmul, 1) := by decide +kernel
theorem dX6_decidesRing_115 : decode cX6_decidesRing 115 = .ok (.fload 10, 2) := by decide +kernel
theorem dX6_decidesRing_117 : decode cX6_decidesRing 117 = .ok (.fload 10, 2) := by decide +kernel
theorem dX6_decidesRing_119 : decode cX6_decidesRing 119 = .ok (.fmul, 1) := by decide +kernel
theorem dX6_decidesRing_120 : decode cX6_decidesRing 120 = .ok (.fadd, 1) := by decide +kernel
theorem dX6_decidesRing_121 : decode cX6_decidesRing 121 = .ok (.fstore 13, 2) := by decide +kernel
theorem dX6_decidesRing_123 : decode cX6_decidesRing 123 = .ok (.fload 11, 2) := by decide +kernel
theorem dX6_decidesRing_125 : decode cX6_decidesRing 125 = .ok (.fload 7, 2) := by decide +kernel
theorem dX6_decidesRing_127 : decode cX6_decidesRing 127 = .ok (.fload 10, 2) := by decide +kernel
theorem dX6_decidesRing_129 : decode cX6_decidesRing 129 = .ok (.fmul, 1) := by decide +kernel
theorem dX6_decidesRing_130 : decode cX6_decidesRing 130 = .ok (.fload 8, 2) := by decide +kernel
theorem dX6_decidesRing_132 : decode cX6_decidesRing 132 = .ok (.fload 9, 2) := by decide +kernel
theorem dX6_decidesRing_134 : decode cX6_decidesRing 134 = .ok (.fmul, 1) := by decide +kernel
theorem dX6_decidesRing_135 : decode cX6_decidesRing 135 = .ok (.fsub, 1) := by decide +kernel
theorem dX6_decidesRing_136 : decode cX6_decidesRing 136 = .ok (.fmul, 1) := by decide +kernel
theorem dX6_decidesRing_137 : decode cX6_decidesRing 137 = .ok (.fload 12, 2) := by decide +kernel
theorem dX6_decidesRing_139 : decode cX6_decidesRing 139 = .ok (.fload 9, 2) := by decide +kernel
theorem dX6_decidesRing_141 : decode cX6_decidesRing 141 = .ok (.fload 6, 2) := by decide +kernel
theorem dX6_decidesRing_143 : decode cX6_decidesRing 143 = .ok (.fmul, 1) := by decide +kernel
theorem dX6_decidesRing_144 : decode cX6_decidesRing 144 = .ok (.fload 10, 2) := by decide +kernel
theorem dX6_decidesRing_146 : decode cX6_decidesRing 146 = .ok (.fload 5, 2) := by decide +kernel
theorem dX6_decidesRing_148 : decode cX6_decidesRing 148 = .ok (.fmul, 1) := by decide +kernel
theorem dX6_decidesRing_149 : decode cX6_decidesRing 149 = .ok (.fsub, 1) := by decide +kernel
theorem dX6_decidesRing_150 : decode cX6_decidesRing 150 = .ok (.fmul, 1) := by decide +kernel
theorem dX6_decidesRing_151 : decode cX6_decidesRing 151 = .ok (.fadd, 1) := by decide +kernel
theorem dX6_decidesRing_152 : decode cX6_decidesRing 152 = .ok (.fload 13, 2) := by decide +kernel
theorem dX6_decidesRing_154 : decode cX6_decidesRing 154 = .ok (.fload 5, 2) := by decide +kernel
theorem dX6_decidesRing_156 : decode cX6_decidesRing 156 = .ok (.fload 8, 2) := by decide +kernel
theorem dX6_decidesRing_158 : decode cX6_decidesRing 158 = .ok (.fmul, 1) := by decide +kernel
theorem dX6_decidesRing_159 : decode cX6_decidesRing 159 = .ok (.fload 6, 2) := by decide +kernel
theorem dX6_decidesRing_161 : decode cX6_decidesRing 161 = .ok (.fload 7, 2) := by decide +kernel
theorem dX6_decidesRing_163 : decode cX6_decidesRing 163 = .ok (.fmul, 1) := by decide +kernel
theorem dX6_decidesRing_164 : decode cX6_decidesRing 164 = .ok (.fsub, 1) := by decide +kernel
theorem dX6_decidesRing_165 : decode cX6_decidesRing 165 = .ok (.fmul, 1) := by decide +kernel
theorem dX6_decidesRing_166 : decode cX6_decidesRing 166 = .ok (.fadd, 1) := by decide +kernel
theorem dX6_decidesRing_167 : decode cX6_decidesRing 167 = .ok (.fstore 14, 2) := by decide +kernel
theorem dX6_decidesRing_169 : decode cX6_decidesRing 169 = .ok (.aload_n 0, 1) := by decide +kernel
theorem dX6_decidesRing_170 : decode cX6_decidesRing 170 = .ok (.iload_n 1, 1) := by decide +kernel
theorem dX6_decidesRing_171 : decode cX6_decidesRing 171 = .ok (.iload_n 2, 1) := by decide +kernel
theorem dX6_decidesRing_172 : decode cX6_decidesRing 172 = .ok (.iload_n 3, 1) := by decide +kernel
theorem dX6_decidesRing_173 : decode cX6_decidesRing 173 = .ok (.invokevirtual 92, 3) := by decide +kernel
theorem dX6_decidesRing_176 : decode cX6_decidesRing 176 = .ok (.aload_n 0, 1) := by decide +kernel
theorem dX6_decidesRing_177 : decode cX6_decidesRing 177 = .ok (.iload 4, 2) := by decide +kernel
theorem dX6_decidesRing_179 : decode cX6_decidesRing 179 = .ok (.invokevirtual 77, 3) := by decide +kernel
theorem dX6_decidesRing_182 : decode cX6_decidesRing 182 = .ok (.invokestatic 81, 3) := by decide +kernel
theorem dX6_decidesRing_185 : decode cX6_decidesRing 185 = .ok (.aload_n 0, 1) := by decide +kernel
theorem dX6_decidesRing_186 : decode cX6_decidesRing 186 = .ok (.iload 4, 2) := by decide +kernel
theorem dX6_decidesRing_188 : decode cX6_decidesRing 188 = .ok (.invokevirtual 85, 3) := by decide +kernel
theorem dX6_decidesRing_191 : decode cX6_decidesRing 191 = .ok (.invokestatic 81, 3) := by decide +kernel
theorem dX6_decidesRing_194 : decode cX6_decidesRing 194 = .ok (.invokestatic 88, 3) := by decide +kernel
theorem dX6_decidesRing_197 : decode cX6_decidesRing 197 = .ok (.invokestatic 88, 3) := by decide +kernel
theorem dX6_decidesRing_200 : decode cX6_decidesRing 200 = .ok (.fstore 15, 2) := by decide +kernel
theorem dX6_decidesRing_202 : decode cX6_decidesRing 202 = .ok (.fload 15, 2) := by decide +kernel
theorem dX6_decidesRing_204 : decode cX6_decidesRing 204 = .ok (.fload 15, 2) := by decide +kernel
theorem dX6_decidesRing_206 : decode cX6_decidesRing 206 = .ok (.fmul, 1) := by decide +kernel
theorem dX6_decidesRing_207 : decode cX6_decidesRing 207 = .ok (.fload 15, 2) := by decide +kernel
theorem dX6_decidesRing_209 : decode cX6_decidesRing 209 = .ok (.fload 15, 2) := by decide +kernel
theorem dX6_decidesRing_211 : decode cX6_decidesRing 211 = .ok (.fmul, 1) := by decide +kernel
theorem dX6_decidesRing_212 : decode cX6_decidesRing 212 = .ok (.fmul, 1) := by decide +kernel
theorem dX6_decidesRing_213 : decode cX6_decidesRing 213 = .ok (.ldc 97, 2) := by decide +kernel
theorem dX6_decidesRing_215 : decode cX6_decidesRing 215 = .ok (.fmul, 1) := by decide +kernel
theorem dX6_decidesRing_216 : decode cX6_decidesRing 216 = .ok (.fstore 16, 2) := by decide +kernel
theorem dX6_decidesRing_218 : decode cX6_decidesRing 218 = .ok (.fload 14, 2) := by decide +kernel
theorem dX6_decidesRing_220 : decode cX6_decidesRing 220 = .ok (.invokestatic 81, 3) := by decide +kernel
theorem dX6_decidesRing_223 : decode cX6_decidesRing 223 = .ok (.fload 16, 2) := by decide +kernel
theorem dX6_decidesRing_225 : decode cX6_decidesRing 225 = .ok (.fcmp .l, 1) := by decide +kernel
theorem dX6_decidesRing_226 : decode cX6_decidesRing 226 = .ok (.ifCond .le 7, 3) := by decide +kernel
theorem dX6_decidesRing_229 : decode cX6_decidesRing 229 = .ok (.iconst 1, 1) := by decide +kernel
theorem dX6_decidesRing_230 : decode cX6_decidesRing 230 = .ok (.goto 4, 3) := by decide +kernel
theorem dX6_decidesRing_233 : decode cX6_decidesRing 233 = .ok (.iconst 0, 1) := by decide +kernel
theorem dX6_decidesRing_234 : decode cX6_decidesRing 234 = .ok (.ireturn, 1) := by decide +kernel
theorem dX6_counted_0 : decode cX6_counted 0 = .ok (.aload_n 0, 1) := by decide +kernel
theorem dX6_counted_1 : decode cX6_counted 1 = .ok (.dup, 1) := by decide +kernel
theorem dX6_counted_2 : decode cX6_counted 2 = .ok (.getfield 98, 3) := by decide +kernel
theorem dX6_counted_5 : decode cX6_counted 5 = .ok (.aload_n 0, 1) := by decide +kernel
theorem dX6_counted_6 : decode cX6_counted 6 = .ok (.getfield 23, 3) := by decide +kernel
theorem dX6_counted_9 : decode cX6_counted 9 = .ok (.ifCond .eq 11, 3) := by decide +kernel
theorem dX6_counted_12 : decode cX6_counted 12 = .ok (.iload_n 1, 1) := by decide +kernel
theorem dX6_counted_13 : decode cX6_counted 13 = .ok (.ifCond .eq 7, 3) := by decide +kernel
theorem dX6_counted_16 : decode cX6_counted 16 = .ok (.iconst 1, 1) := by decide +kernel
theorem dX6_counted_17 : decode cX6_counted 17 = .ok (.goto 4, 3) := by decide +kernel
theorem dX6_counted_20 : decode cX6_counted 20 = .ok (.iconst 0, 1) := by decide +kernel
theorem dX6_counted_21 : decode cX6_counted 21 = .ok (.iadd, 1) := by decide +kernel
theorem dX6_counted_22 : decode cX6_counted 22 = .ok (.putfield 98, 3) := by decide +kernel
theorem dX6_counted_25 : decode cX6_counted 25 = .ok (.aload_n 0, 1) := by decide +kernel
theorem dX6_counted_26 : decode cX6_counted 26 = .ok (.dup, 1) := by decide +kernel
theorem dX6_counted_27 : decode cX6_counted 27 = .ok (.getfield 101, 3) := by decide +kernel
theorem dX6_counted_30 : decode cX6_counted 30 = .ok (.aload_n 0, 1) := by decide +kernel
theorem dX6_counted_31 : decode cX6_counted 31 = .ok (.getfield 23, 3) := by decide +kernel
theorem dX6_counted_34 : decode cX6_counted 34 = .ok (.ifCond .eq 11, 3) := by decide +kernel
theorem dX6_counted_37 : decode cX6_counted 37 = .ok (.iload_n 1, 1) := by decide +kernel
theorem dX6_counted_38 : decode cX6_counted 38 = .ok (.ifCond .eq 7, 3) := by decide +kernel
theorem dX6_counted_41 : decode cX6_counted 41 = .ok (.iconst 0, 1) := by decide +kernel
theorem dX6_counted_42 : decode cX6_counted 42 = .ok (.goto 4, 3) := by decide +kernel
theorem dX6_counted_45 : decode cX6_counted 45 = .ok (.iconst 1, 1) := by decide +kernel
theorem dX6_counted_46 : decode cX6_counted 46 = .ok (.iadd, 1) := by decide +kernel
theorem dX6_counted_47 : decode cX6_counted 47 = .ok (.putfield 101, 3) := by decide +kernel
theorem dX6_counted_50 : decode cX6_counted 50 = .ok (.aload_n 0, 1) := by decide +kernel
theorem dX6_counted_51 : decode cX6_counted 51 = .ok (.dup, 1) := by decide +kernel
theorem dX6_counted_52 : decode cX6_counted 52 = .ok (.getfield 104, 3) := by decide +kernel
theorem dX6_counted_55 : decode cX6_counted 55 = .ok (.iload_n 2, 1) := by decide +kernel
theorem dX6_counted_56 : decode cX6_counted 56 = .ok (.ifCond .ne 7, 3) := by decide +kernel
theorem dX6_counted_59 : decode cX6_counted 59 = .ok (.iconst 1, 1) := by decide +kernel
theorem dX6_counted_60 : decode cX6_counted 60 = .ok (.goto 4, 3) := by decide +kernel
theorem dX6_counted_63 : decode cX6_counted 63 = .ok (.iconst 0, 1) := by decide +kernel
theorem dX6_counted_64 : decode cX6_counted 64 = .ok (.iadd, 1) := by decide +kernel
theorem dX6_counted_65 : decode cX6_counted 65 = .ok (.putfield 104, 3) := by decide +kernel
theorem dX6_counted_68 : decode cX6_counted 68 = .ok (.iload_n 2, 1) := by decide +kernel
theorem dX6_counted_69 : decode cX6_counted 69 = .ok (.ireturn, 1) := by decide +kernel
theorem dX6_side_0 : decode cX6_side 0 = .ok (.aload_n 0, 1) := by decide +kernel
theorem dX6_side_1 : decode cX6_side 1 = .ok (.iconst 0, 1) := by decide +kernel
theorem dX6_side_2 : decode cX6_side 2 = .ok (.putfield 1, 3) := by decide +kernel
theorem dX6_side_5 : decode cX6_side 5 = .ok (.aload_n 0, 1) := by decide +kernel
theorem dX6_side_6 : decode cX6_side 6 = .ok (.iload_n 1, 1) := by decide +kernel
theorem dX6_side_7 : decode cX6_side 7 = .ok (.invokevirtual 69, 3) := by decide +kernel
theorem dX6_side_10 : decode cX6_side 10 = .ok (.ifCond .eq 19, 3) := by decide +kernel
theorem dX6_side_13 : decode cX6_side 13 = .ok (.aload_n 0, 1) := by decide +kernel
theorem dX6_side_14 : decode cX6_side 14 = .ok (.iload_n 2, 1) := by decide +kernel
theorem dX6_side_15 : decode cX6_side 15 = .ok (.invokevirtual 69, 3) := by decide +kernel
theorem dX6_side_18 : decode cX6_side 18 = .ok (.ifCond .eq 11, 3) := by decide +kernel
theorem dX6_side_21 : decode cX6_side 21 = .ok (.aload_n 0, 1) := by decide +kernel
theorem dX6_side_22 : decode cX6_side 22 = .ok (.iload_n 3, 1) := by decide +kernel
theorem dX6_side_23 : decode cX6_side 23 = .ok (.invokevirtual 69, 3) := by decide +kernel
theorem dX6_side_26 : decode cX6_side 26 = .ok (.ifCond .ne 6, 3) := by decide +kernel
theorem dX6_side_29 : decode cX6_side 29 = .ok (.bipush (-2), 2) := by decide +kernel
theorem dX6_side_31 : decode cX6_side 31 = .ok (.ireturn, 1) := by decide +kernel
theorem dX6_side_32 : decode cX6_side 32 = .ok (.aload_n 0, 1) := by decide +kernel
theorem dX6_side_33 : decode cX6_side 33 = .ok (.iload_n 1, 1) := by decide +kernel
theorem dX6_side_34 : decode cX6_side 34 = .ok (.iload_n 2, 1) := by decide +kernel
theorem dX6_side_35 : decode cX6_side 35 = .ok (.invokevirtual 107, 3) := by decide +kernel
theorem dX6_side_38 : decode cX6_side 38 = .ok (.ifCond .eq 8, 3) := by decide +kernel
theorem dX6_side_41 : decode cX6_side 41 = .ok (.bipush (-4), 2) := by decide +kernel
theorem dX6_side_43 : decode cX6_side 43 = .ok (.goto 21, 3) := by decide +kernel
theorem dX6_side_46 : decode cX6_side 46 = .ok (.aload_n 0, 1) := by decide +kernel
theorem dX6_side_47 : decode cX6_side 47 = .ok (.aload_n 0, 1) := by decide +kernel
theorem dX6_side_48 : decode cX6_side 48 = .ok (.iload_n 1, 1) := by decide +kernel
theorem dX6_side_49 : decode cX6_side 49 = .ok (.iload_n 2, 1) := by decide +kernel
theorem dX6_side_50 : decode cX6_side 50 = .ok (.iload_n 3, 1) := by decide +kernel
theorem dX6_side_51 : decode cX6_side 51 = .ok (.invokevirtual 111, 3) := by decide +kernel
theorem dX6_side_54 : decode cX6_side 54 = .ok (.aload_n 0, 1) := by decide +kernel
theorem dX6_side_55 : decode cX6_side 55 = .ok (.iload_n 1, 1) := by decide +kernel
theorem dX6_side_56 : decode cX6_side 56 = .ok (.iload_n 2, 1) := by decide +kernel
theorem dX6_side_57 : decode cX6_side 57 = .ok (.iload_n 3, 1) := by decide +kernel
theorem dX6_side_58 : decode cX6_side 58 = .ok (.invokevirtual 58, 3) := by decide +kernel
theorem dX6_side_61 : decode cX6_side 61 = .ok (.invokevirtual 115, 3) := by decide +kernel
theorem dX6_side_64 : decode cX6_side 64 = .ok (.ireturn, 1) := by decide +kernel
theorem dX6_circle_0 : decode cX6_circle 0 = .ok (.aload_n 0, 1) := by decide +kernel
theorem dX6_circle_1 : decode cX6_circle 1 = .ok (.iconst 0, 1) := by decide +kernel
theorem dX6_circle_2 : decode cX6_circle 2 = .ok (.putfield 1, 3) := by decide +kernel
theorem dX6_circle_5 : decode cX6_circle 5 = .ok (.aload_n 0, 1) := by decide +kernel
theorem dX6_circle_6 : decode cX6_circle 6 = .ok (.iload_n 1, 1) := by decide +kernel
theorem dX6_circle_7 : decode cX6_circle 7 = .ok (.invokevirtual 69, 3) := by decide +kernel
theorem dX6_circle_10 : decode cX6_circle 10 = .ok (.ifCond .eq 28, 3) := by decide +kernel
theorem dX6_circle_13 : decode cX6_circle 13 = .ok (.aload_n 0, 1) := by decide +kernel
theorem dX6_circle_14 : decode cX6_circle 14 = .ok (.iload_n 2, 1) := by decide +kernel
theorem dX6_circle_15 : decode cX6_circle 15 = .ok (.invokevirtual 69, 3) := by decide +kernel
theorem dX6_circle_18 : decode cX6_circle 18 = .ok (.ifCond .eq 20, 3) := by decide +kernel
theorem dX6_circle_21 : decode cX6_circle 21 = .ok (.aload_n 0, 1) := by decide +kernel
theorem dX6_circle_22 : decode cX6_circle 22 = .ok (.iload_n 3, 1) := by decide +kernel
theorem dX6_circle_23 : decode cX6_circle 23 = .ok (.invokevirtual 69, 3) := by decide +kernel
theorem dX6_circle_26 : decode cX6_circle 26 = .ok (.ifCond .eq 12, 3) := by decide +kernel
theorem dX6_circle_29 : decode cX6_circle 29 = .ok (.aload_n 0, 1) := by decide +kernel
theorem dX6_circle_30 : decode cX6_circle 30 = .ok (.iload 4, 2) := by decide +kernel
theorem dX6_circle_32 : decode cX6_circle 32 = .ok (.invokevirtual 69, 3) := by decide +kernel
theorem dX6_circle_35 : decode cX6_circle 35 = .ok (.ifCond .ne 6, 3) := by decide +kernel
theorem dX6_circle_38 : decode cX6_circle 38 = .ok (.bipush (-2), 2) := by decide +kernel
theorem dX6_circle_40 : decode cX6_circle 40 = .ok (.ireturn, 1) := by decide +kernel
theorem dX6_circle_41 : decode cX6_circle 41 = .ok (.aload_n 0, 1) := by decide +kernel
theorem dX6_circle_42 : decode cX6_circle 42 = .ok (.iload_n 1, 1) := by decide +kernel
theorem dX6_circle_43 : decode cX6_circle 43 = .ok (.iload_n 2, 1) := by decide +kernel
theorem dX6_circle_44 : decode cX6_circle 44 = .ok (.iload_n 3, 1) := by decide +kernel
theorem dX6_circle_45 : decode cX6_circle 45 = .ok (.invokevirtual 58, 3) := by decide +kernel
theorem dX6_circle_48 : decode cX6_circle 48 = .ok (.ifCond .ne 8, 3) := by decide +kernel
theorem dX6_circle_51 : decode cX6_circle 51 = .ok (.bipush (-4), 2) := by decide +kernel
theorem dX6_circle_53 : decode cX6_circle 53 = .ok (.goto 25, 3) := by decide +kernel
theorem dX6_circle_56 : decode cX6_circle 56 = .ok (.aload_n 0, 1) := by decide +kernel
theorem dX6_circle_57 : decode cX6_circle 57 = .ok (.aload_n 0, 1) := by decide +kernel
theorem dX6_circle_58 : decode cX6_circle 58 = .ok (.iload_n 1, 1) := by decide +kernel
theorem dX6_circle_59 : decode cX6_circle 59 = .ok (.iload_n 2, 1) := by decide +kernel
theorem dX6_circle_60 : decode cX6_circle 60 = .ok (.iload_n 3, 1) := by decide +kernel
theorem dX6_circle_61 : decode cX6_circle 61 = .ok (.iload 4, 2) := by decide +kernel
theorem dX6_circle_63 : decode cX6_circle 63 = .ok (.invokevirtual 119, 3) := by decide +kernel
theorem dX6_circle_66 : decode cX6_circle 66 = .ok (.aload_n 0, 1) := by decide +kernel
theorem dX6_circle_67 : decode cX6_circle 67 = .ok (.iload_n 1, 1) := by decide +kernel
theorem dX6_circle_68 : decode cX6_circle 68 = .ok (.iload_n 2, 1) := by decide +kernel
theorem dX6_circle_69 : decode cX6_circle 69 = .ok (.iload_n 3, 1) := by decide +kernel
theorem dX6_circle_70 : decode cX6_circle 70 = .ok (.iload 4, 2) := by decide +kernel
theorem dX6_circle_72 : decode cX6_circle 72 = .ok (.invokevirtual 123, 3) := by decide +kernel
theorem dX6_circle_75 : decode cX6_circle 75 = .ok (.invokevirtual 115, 3) := by decide +kernel
theorem dX6_circle_78 : decode cX6_circle 78 = .ok (.ireturn, 1) := by decide +kernel
theorem dX6_filter_0 : decode cX6_filter 0 = .ok (.aload_n 0, 1) := by decide +kernel
theorem dX6_filter_1 : decode cX6_filter 1 = .ok (.iconst 0, 1) := by decide +kernel
theorem dX6_filter_2 : decode cX6_filter 2 = .ok (.putfield 1, 3) := by decide +kernel
theorem dX6_filter_5 : decode cX6_filter 5 = .ok (.aload_n 0, 1) := by decide +kernel
theorem dX6_filter_6 : decode cX6_filter 6 = .ok (.getfield 23, 3) := by decide +kernel
theorem dX6_filter_9 : decode cX6_filter 9 = .ok (.ifCond .eq 7, 3) := by decide +kernel
theorem dX6_filter_12 : decode cX6_filter 12 = .ok (.iconst 1, 1) := by decide +kernel
theorem dX6_filter_13 : decode cX6_filter 13 = .ok (.goto 4, 3) := by decide +kernel
theorem dX6_filter_16 : decode cX6_filter 16 = .ok (.iconst 0, 1) := by decide +kernel
theorem dX6_filter_17 : decode cX6_filter 17 = .ok (.istore_n 2, 1) := by decide +kernel
theorem dX6_filter_18 : decode cX6_filter 18 = .ok (.aload_n 0, 1) := by decide +kernel
theorem dX6_filter_19 : decode cX6_filter 19 = .ok (.iload_n 1, 1) := by decide +kernel
theorem dX6_filter_20 : decode cX6_filter 20 = .ok (.putfield 23, 3) := by decide +kernel
theorem dX6_filter_23 : decode cX6_filter 23 = .ok (.iload_n 2, 1) := by decide +kernel
theorem dX6_filter_24 : decode cX6_filter 24 = .ok (.ireturn, 1) := by decide +kernel
theorem dX6_decided_0 : decode cX6_decided 0 = .ok (.aload_n 0, 1) := by decide +kernel
theorem dX6_decided_1 : decode cX6_decided 1 = .ok (.iconst 0, 1) := by decide +kernel
theorem dX6_decided_2 : decode cX6_decided 2 = .ok (.putfield 1, 3) := by decide +kernel
theorem dX6_decided_5 : decode cX6_decided 5 = .ok (.iload_n 1, 1) := by decide +kernel
theorem dX6_decided_6 : decode cX6_decided 6 = .ok (.ifCond .ne 10, 3) := by decide +kernel
theorem dX6_decided_9 : decode cX6_decided 9 = .ok (.aload_n 0, 1) := by decide +kernel
theorem dX6_decided_10 : decode cX6_decided 10 = .ok (.getfield 98, 3) := by decide +kernel
theorem dX6_decided_13 : decode cX6_decided 13 = .ok (.goto 29, 3) := by decide +kernel
theorem dX6_decided_16 : decode cX6_decided 16 = .ok (.iload_n 1, 1) := by decide +kernel
theorem dX6_decided_17 : decode cX6_decided 17 = .ok (.iconst 1, 1) := by decide +kernel
theorem dX6_decided_18 : decode cX6_decided 18 = .ok (.if_icmp .ne 10, 3) := by decide +kernel
theorem dX6_decided_21 : decode cX6_decided 21 = .ok (.aload_n 0, 1) := by decide +kernel
theorem dX6_decided_22 : decode cX6_decided 22 = .ok (.getfield 101, 3) := by decide +kernel
theorem dX6_decided_25 : decode cX6_decided 25 = .ok (.goto 17, 3) := by decide +kernel
theorem dX6_decided_28 : decode cX6_decided 28 = .ok (.iload_n 1, 1) := by decide +kernel
theorem dX6_decided_29 : decode cX6_decided 29 = .ok (.iconst 2, 1) := by decide +kernel
theorem dX6_decided_30 : decode cX6_decided 30 = .ok (.if_icmp .ne 10, 3) := by decide +kernel
theorem dX6_decided_33 : decode cX6_decided 33 = .ok (.aload_n 0, 1) := by decide +kernel
theorem dX6_decided_34 : decode cX6_decided 34 = .ok (.getfield 104, 3) := by decide +kernel
theorem dX6_decided_37 : decode cX6_decided 37 = .ok (.goto 5, 3) := by decide +kernel
theorem dX6_decided_40 : decode cX6_decided 40 = .ok (.bipush (-2), 2) := by decide +kernel
theorem dX6_decided_42 : decode cX6_decided 42 = .ok (.ireturn, 1) := by decide +kernel
theorem dX6_isOn_0 : decode cX6_isOn 0 = .ok (.aload_n 0, 1) := by decide +kernel
theorem dX6_isOn_1 : decode cX6_isOn 1 = .ok (.iload_n 1, 1) := by decide +kernel
theorem dX6_isOn_2 : decode cX6_isOn 2 = .ok (.iload_n 2, 1) := by decide +kernel
theorem dX6_isOn_3 : decode cX6_isOn 3 = .ok (.iload_n 3, 1) := by decide +kernel
theorem dX6_isOn_4 : decode cX6_isOn 4 = .ok (.invokevirtual 58, 3) := by decide +kernel
theorem dX6_isOn_7 : decode cX6_isOn 7 = .ok (.ifCond .ne 40, 3) := by decide +kernel
theorem dX6_isOn_10 : decode cX6_isOn 10 = .ok (.aload_n 0, 1) := by decide +kernel
theorem dX6_isOn_11 : decode cX6_isOn 11 = .ok (.iload_n 1, 1) := by decide +kernel
theorem dX6_isOn_12 : decode cX6_isOn 12 = .ok (.iload_n 2, 1) := by decide +kernel
theorem dX6_isOn_13 : decode cX6_isOn 13 = .ok (.invokevirtual 107, 3) := by decide +kernel
theorem dX6_isOn_16 : decode cX6_isOn 16 = .ok (.ifCond .eq 15, 3) := by decide +kernel
theorem dX6_isOn_19 : decode cX6_isOn 19 = .ok (.aload_n 0, 1) := by decide +kernel
theorem dX6_isOn_20 : decode cX6_isOn 20 = .ok (.iload_n 1, 1) := by decide +kernel
theorem dX6_isOn_21 : decode cX6_isOn 21 = .ok (.iload_n 3, 1) := by decide +kernel
theorem dX6_isOn_22 : decode cX6_isOn 22 = .ok (.invokevirtual 107, 3) := by decide +kernel
theorem dX6_isOn_25 : decode cX6_isOn 25 = .ok (.ifCond .eq 22, 3) := by decide +kernel
theorem dX6_isOn_28 : decode cX6_isOn 28 = .ok (.goto 15, 3) := by decide +kernel
theorem dX6_isOn_31 : decode cX6_isOn 31 = .ok (.aload_n 0, 1) := by decide +kernel
theorem dX6_isOn_32 : decode cX6_isOn 32 = .ok (.iload_n 3, 1) := by decide +kernel
theorem dX6_isOn_33 : decode cX6_isOn 33 = .ok (.iload_n 1, 1) := by decide +kernel
theorem dX6_isOn_34 : decode cX6_isOn 34 = .ok (.iload_n 2, 1) := by decide +kernel
theorem dX6_isOn_35 : decode cX6_isOn 35 = .ok (.invokevirtual 127, 3) := by decide +kernel
theorem dX6_isOn_38 : decode cX6_isOn 38 = .ok (.lconst 0, 1) := by decide +kernel
theorem dX6_isOn_39 : decode cX6_isOn 39 = .ok (.lcmp, 1) := by decide +kernel
theorem dX6_isOn_40 : decode cX6_isOn 40 = .ok (.ifCond .gt 7, 3) := by decide +kernel
theorem dX6_isOn_43 : decode cX6_isOn 43 = .ok (.iconst 1, 1) := by decide +kernel
theorem dX6_isOn_44 : decode cX6_isOn 44 = .ok (.goto 4, 3) := by decide +kernel
theorem dX6_isOn_47 : decode cX6_isOn 47 = .ok (.iconst 0, 1) := by decide +kernel
theorem dX6_isOn_48 : decode cX6_isOn 48 = .ok (.ireturn, 1) := by decide +kernel
theorem dX6_between_0 : decode cX6_between 0 = .ok (.aload_n 0, 1) := by decide +kernel
theorem dX6_between_1 : decode cX6_between 1 = .ok (.iconst 0, 1) := by decide +kernel
theorem dX6_between_2 : decode cX6_between 2 = .ok (.putfield 1, 3) := by decide +kernel
theorem dX6_between_5 : decode cX6_between 5 = .ok (.aload_n 0, 1) := by decide +kernel
theorem dX6_between_6 : decode cX6_between 6 = .ok (.iload_n 1, 1) := by decide +kernel
theorem dX6_between_7 : decode cX6_between 7 = .ok (.invokevirtual 69, 3) := by decide +kernel
theorem dX6_between_10 : decode cX6_between 10 = .ok (.ifCond .eq 19, 3) := by decide +kernel
theorem dX6_between_13 : decode cX6_between 13 = .ok (.aload_n 0, 1) := by decide +kernel
theorem dX6_between_14 : decode cX6_between 14 = .ok (.iload_n 2, 1) := by decide +kernel
theorem dX6_between_15 : decode cX6_between 15 = .ok (.invokevirtual 69, 3) := by decide +kernel
theorem dX6_between_18 : decode cX6_between 18 = .ok (.ifCond .eq 11, 3) := by decide +kernel
theorem dX6_between_21 : decode cX6_between 21 = .ok (.aload_n 0, 1) := by decide +kernel
theorem dX6_between_22 : decode cX6_between 22 = .ok (.iload_n 3, 1) := by decide +kernel
theorem dX6_between_23 : decode cX6_between 23 = .ok (.invokevirtual 69, 3) := by decide +kernel
theorem dX6_between_26 : decode cX6_between 26 = .ok (.ifCond .ne 6, 3) := by decide +kernel
theorem dX6_between_29 : decode cX6_between 29 = .ok (.bipush (-2), 2) := by decide +kernel
theorem dX6_between_31 : decode cX6_between 31 = .ok (.ireturn, 1) := by decide +kernel
theorem dX6_between_32 : decode cX6_between 32 = .ok (.aload_n 0, 1) := by decide +kernel
theorem dX6_between_33 : decode cX6_between 33 = .ok (.iload_n 1, 1) := by decide +kernel
theorem dX6_between_34 : decode cX6_between 34 = .ok (.iload_n 2, 1) := by decide +kernel
theorem dX6_between_35 : decode cX6_between 35 = .ok (.invokevirtual 107, 3) := by decide +kernel
theorem dX6_between_38 : decode cX6_between 38 = .ok (.ifCond .ne 12, 3) := by decide +kernel
theorem dX6_between_41 : decode cX6_between 41 = .ok (.aload_n 0, 1) := by decide +kernel
theorem dX6_between_42 : decode cX6_between 42 = .ok (.iload_n 2, 1) := by decide +kernel
theorem dX6_between_43 : decode cX6_between 43 = .ok (.iload_n 3, 1) := by decide +kernel
theorem dX6_between_44 : decode cX6_between 44 = .ok (.invokevirtual 107, 3) := by decide +kernel
theorem dX6_between_47 : decode cX6_between 47 = .ok (.ifCond .eq 7, 3) := by decide +kernel
theorem dX6_between_50 : decode cX6_between 50 = .ok (.iconst 2, 1) := by decide +kernel
theorem dX6_between_51 : decode cX6_between 51 = .ok (.goto 18, 3) := by decide +kernel
theorem dX6_between_54 : decode cX6_between 54 = .ok (.aload_n 0, 1) := by decide +kernel
theorem dX6_between_55 : decode cX6_between 55 = .ok (.iload_n 1, 1) := by decide +kernel
theorem dX6_between_56 : decode cX6_between 56 = .ok (.iload_n 3, 1) := by decide +kernel
theorem dX6_between_57 : decode cX6_between 57 = .ok (.iload_n 2, 1) := by decide +kernel
theorem dX6_between_58 : decode cX6_between 58 = .ok (.invokevirtual 131, 3) := by decide +kernel
theorem dX6_between_61 : decode cX6_between 61 = .ok (.ifCond .eq 7, 3) := by decide +kernel
theorem dX6_between_64 : decode cX6_between 64 = .ok (.iconst 1, 1) := by decide +kernel
theorem dX6_between_65 : decode cX6_between 65 = .ok (.goto 4, 3) := by decide +kernel
theorem dX6_between_68 : decode cX6_between 68 = .ok (.iconst 0, 1) := by decide +kernel
theorem dX6_between_69 : decode cX6_between 69 = .ok (.ireturn, 1) := by decide +kernel
theorem dX6_isOneWay_0 : decode cX6_isOneWay 0 = .ok (.aload_n 0, 1) := by decide +kernel
theorem dX6_isOneWay_1 : decode cX6_isOneWay 1 = .ok (.iload_n 1, 1) := by decide +kernel
theorem dX6_isOneWay_2 : decode cX6_isOneWay 2 = .ok (.iload_n 2, 1) := by decide +kernel
theorem dX6_isOneWay_3 : decode cX6_isOneWay 3 = .ok (.iload_n 3, 1) := by decide +kernel
theorem dX6_isOneWay_4 : decode cX6_isOneWay 4 = .ok (.invokevirtual 58, 3) := by decide +kernel
theorem dX6_isOneWay_7 : decode cX6_isOneWay 7 = .ok (.ifCond .ne 19, 3) := by decide +kernel
theorem dX6_isOneWay_10 : decode cX6_isOneWay 10 = .ok (.aload_n 0, 1) := by decide +kernel
theorem dX6_isOneWay_11 : decode cX6_isOneWay 11 = .ok (.iload_n 1, 1) := by decide +kernel
theorem dX6_isOneWay_12 : decode cX6_isOneWay 12 = .ok (.iload_n 2, 1) := by decide +kernel
theorem dX6_isOneWay_13 : decode cX6_isOneWay 13 = .ok (.iload_n 3, 1) := by decide +kernel
theorem dX6_isOneWay_14 : decode cX6_isOneWay 14 = .ok (.invokevirtual 127, 3) := by decide +kernel
theorem dX6_isOneWay_17 : decode cX6_isOneWay 17 = .ok (.lconst 0, 1) := by decide +kernel
theorem dX6_isOneWay_18 : decode cX6_isOneWay 18 = .ok (.lcmp, 1) := by decide +kernel
theorem dX6_isOneWay_19 : decode cX6_isOneWay 19 = .ok (.ifCond .le 7, 3) := by decide +kernel
theorem dX6_isOneWay_22 : decode cX6_isOneWay 22 = .ok (.iconst 1, 1) := by decide +kernel
theorem dX6_isOneWay_23 : decode cX6_isOneWay 23 = .ok (.goto 4, 3) := by decide +kernel
theorem dX6_isOneWay_26 : decode cX6_isOneWay 26 = .ok (.iconst 0, 1) := by decide +kernel
theorem dX6_isOneWay_27 : decode cX6_isOneWay 27 = .ok (.ireturn, 1) := by decide +kernel
theorem dX6_inside_0 : decode cX6_inside 0 = .ok (.aload_n 0, 1) := by decide +kernel
theorem dX6_inside_1 : decode cX6_inside 1 = .ok (.iconst 0, 1) := by decide +kernel
theorem dX6_inside_2 : decode cX6_inside 2 = .ok (.putfield 1, 3) := by decide +kernel
theorem dX6_inside_5 : decode cX6_inside 5 = .ok (.aload_n 0, 1) := by decide +kernel
theorem dX6_inside_6 : decode cX6_inside 6 = .ok (.iload_n 1, 1) := by decide +kernel
theorem dX6_inside_7 : decode cX6_inside 7 = .ok (.invokevirtual 69, 3) := by decide +kernel
theorem dX6_inside_10 : decode cX6_inside 10 = .ok (.ifCond .eq 28, 3) := by decide +kernel
theorem dX6_inside_13 : decode cX6_inside 13 = .ok (.aload_n 0, 1) := by decide +kernel
theorem dX6_inside_14 : decode cX6_inside 14 = .ok (.iload_n 2, 1) := by decide +kernel
theorem dX6_inside_15 : decode cX6_inside 15 = .ok (.invokevirtual 69, 3) := by decide +kernel
theorem dX6_inside_18 : decode cX6_inside 18 = .ok (.ifCond .eq 20, 3) := by decide +kernel
theorem dX6_inside_21 : decode cX6_inside 21 = .ok (.aload_n 0, 1) := by decide +kernel
theorem dX6_inside_22 : decode cX6_inside 22 = .ok (.iload_n 3, 1) := by decide +kernel
theorem dX6_inside_23 : decode cX6_inside 23 = .ok (.invokevirtual 69, 3) := by decide +kernel
theorem dX6_inside_26 : decode cX6_inside 26 = .ok (.ifCond .eq 12, 3) := by decide +kernel
theorem dX6_inside_29 : decode cX6_inside 29 = .ok (.aload_n 0, 1) := by decide +kernel
theorem dX6_inside_30 : decode cX6_inside 30 = .ok (.iload 4, 2) := by decide +kernel
theorem dX6_inside_32 : decode cX6_inside 32 = .ok (.invokevirtual 69, 3) := by decide +kernel
theorem dX6_inside_35 : decode cX6_inside 35 = .ok (.ifCond .ne 6, 3) := by decide +kernel
theorem dX6_inside_38 : decode cX6_inside 38 = .ok (.bipush (-2), 2) := by decide +kernel
theorem dX6_inside_40 : decode cX6_inside 40 = .ok (.ireturn, 1) := by decide +kernel
theorem dX6_inside_41 : decode cX6_inside 41 = .ok (.aload_n 0, 1) := by decide +kernel
theorem dX6_inside_42 : decode cX6_inside 42 = .ok (.iload_n 1, 1) := by decide +kernel
theorem dX6_inside_43 : decode cX6_inside 43 = .ok (.iload_n 2, 1) := by decide +kernel
theorem dX6_inside_44 : decode cX6_inside 44 = .ok (.invokevirtual 107, 3) := by decide +kernel
theorem dX6_inside_47 : decode cX6_inside 47 = .ok (.ifCond .ne 12, 3) := by decide +kernel
theorem dX6_inside_50 : decode cX6_inside 50 = .ok (.aload_n 0, 1) := by decide +kernel
theorem dX6_inside_51 : decode cX6_inside 51 = .ok (.iload_n 1, 1) := by decide +kernel
theorem dX6_inside_52 : decode cX6_inside 52 = .ok (.iload_n 3, 1) := by decide +kernel
theorem dX6_inside_53 : decode cX6_inside 53 = .ok (.invokevirtual 107, 3) := by decide +kernel
theorem dX6_inside_56 : decode cX6_inside 56 = .ok (.ifCond .eq 6, 3) := by decide +kernel
theorem dX6_inside_59 : decode cX6_inside 59 = .ok (.bipush (-4), 2) := by decide +kernel
theorem dX6_inside_61 : decode cX6_inside 61 = .ok (.ireturn, 1) := by decide +kernel
theorem dX6_inside_62 : decode cX6_inside 62 = .ok (.aload_n 0, 1) := by decide +kernel
theorem dX6_inside_63 : decode cX6_inside 63 = .ok (.iload_n 1, 1) := by decide +kernel
theorem dX6_inside_64 : decode cX6_inside 64 = .ok (.iload 4, 2) := by decide +kernel
theorem dX6_inside_66 : decode cX6_inside 66 = .ok (.invokevirtual 107, 3) := by decide +kernel
theorem dX6_inside_69 : decode cX6_inside 69 = .ok (.ifCond .ne 25, 3) := by decide +kernel
theorem dX6_inside_72 : decode cX6_inside 72 = .ok (.aload_n 0, 1) := by decide +kernel
theorem dX6_inside_73 : decode cX6_inside 73 = .ok (.iload_n 1, 1) := by decide +kernel
theorem dX6_inside_74 : decode cX6_inside 74 = .ok (.iload_n 2, 1) := by decide +kernel
theorem dX6_inside_75 : decode cX6_inside 75 = .ok (.iload 4, 2) := by decide +kernel
theorem dX6_inside_77 : decode cX6_inside 77 = .ok (.invokevirtual 133, 3) := by decide +kernel
theorem dX6_inside_80 : decode cX6_inside 80 = .ok (.ifCond .ne 14, 3) := by decide +kernel
theorem dX6_inside_83 : decode cX6_inside 83 = .ok (.aload_n 0, 1) := by decide +kernel
theorem dX6_inside_84 : decode cX6_inside 84 = .ok (.iload_n 1, 1) := by decide +kernel
theorem dX6_inside_85 : decode cX6_inside 85 = .ok (.iload_n 3, 1) := by decide +kernel
theorem dX6_inside_86 : decode cX6_inside 86 = .ok (.iload 4, 2) := by decide +kernel
theorem dX6_inside_88 : decode cX6_inside 88 = .ok (.invokevirtual 133, 3) := by decide +kernel
theorem dX6_inside_91 : decode cX6_inside 91 = .ok (.ifCond .eq 5, 3) := by decide +kernel
theorem dX6_inside_94 : decode cX6_inside 94 = .ok (.iconst 2, 1) := by decide +kernel
theorem dX6_inside_95 : decode cX6_inside 95 = .ok (.ireturn, 1) := by decide +kernel
theorem dX6_inside_96 : decode cX6_inside 96 = .ok (.aload_n 0, 1) := by decide +kernel
theorem dX6_inside_97 : decode cX6_inside 97 = .ok (.iload_n 1, 1) := by decide +kernel
theorem dX6_inside_98 : decode cX6_inside 98 = .ok (.iload_n 2, 1) := by decide +kernel
theorem dX6_inside_99 : decode cX6_inside 99 = .ok (.iload_n 3, 1) := by decide +kernel
theorem dX6_inside_100 : decode cX6_inside 100 = .ok (.invokevirtual 133, 3) := by decide +kernel
theorem dX6_inside_103 : decode cX6_inside 103 = .ok (.ifCond .eq 5, 3) := by decide +kernel
theorem dX6_inside_106 : decode cX6_inside 106 = .ok (.iconst 0, 1) := by decide +kernel
theorem dX6_inside_107 : decode cX6_inside 107 = .ok (.ireturn, 1) := by decide +kernel
theorem dX6_inside_108 : decode cX6_inside 108 = .ok (.aload_n 0, 1) := by decide +kernel
theorem dX6_inside_109 : decode cX6_inside 109 = .ok (.iload_n 1, 1) := by decide +kernel
theorem dX6_inside_110 : decode cX6_inside 110 = .ok (.iload_n 2, 1) := by decide +kernel
theorem dX6_inside_111 : decode cX6_inside 111 = .ok (.iload_n 3, 1) := by decide +kernel
theorem dX6_inside_112 : decode cX6_inside 112 = .ok (.invokevirtual 58, 3) := by decide +kernel
theorem dX6_inside_115 : decode cX6_inside 115 = .ok (.istore 5, 2) := by decide +kernel
theorem dX6_inside_117 : decode cX6_inside 117 = .ok (.iload 5, 2) := by decide +kernel
theorem dX6_inside_119 : decode cX6_inside 119 = .ok (.ifCond .ne 20, 3) := by decide +kernel
theorem dX6_inside_122 : decode cX6_inside 122 = .ok (.aload_n 0, 1) := by decide +kernel
theorem dX6_inside_123 : decode cX6_inside 123 = .ok (.iload_n 1, 1) := by decide +kernel
theorem dX6_inside_124 : decode cX6_inside 124 = .ok (.iload_n 2, 1) := by decide +kernel
theorem dX6_inside_125 : decode cX6_inside 125 = .ok (.iload 4, 2) := by decide +kernel
theorem dX6_inside_127 : decode cX6_inside 127 = .ok (.invokevirtual 58, 3) := by decide +kernel
theorem dX6_inside_130 : decode cX6_inside 130 = .ok (.ifCond .le 7, 3) := by decide +kernel
theorem dX6_inside_133 : decode cX6_inside 133 = .ok (.iconst 1, 1) := by decide +kernel
theorem dX6_inside_134 : decode cX6_inside 134 = .ok (.goto 4, 3) := by decide +kernel
theorem dX6_inside_137 : decode cX6_inside 137 = .ok (.iconst 0, 1) := by decide +kernel
theorem dX6_inside_138 : decode cX6_inside 138 = .ok (.ireturn, 1) := by decide +kernel
theorem dX6_inside_139 : decode cX6_inside 139 = .ok (.iload 5, 2) := by decide +kernel
theorem dX6_inside_141 : decode cX6_inside 141 = .ok (.ifCond .le 31, 3) := by decide +kernel
theorem dX6_inside_144 : decode cX6_inside 144 = .ok (.aload_n 0, 1) := by decide +kernel
theorem dX6_inside_145 : decode cX6_inside 145 = .ok (.iload_n 1, 1) := by decide +kernel
theorem dX6_inside_146 : decode cX6_inside 146 = .ok (.iload_n 2, 1) := by decide +kernel
theorem dX6_inside_147 : decode cX6_inside 147 = .ok (.iload 4, 2) := by decide +kernel
theorem dX6_inside_149 : decode cX6_inside 149 = .ok (.invokevirtual 58, 3) := by decide +kernel
theorem dX6_inside_152 : decode cX6_inside 152 = .ok (.ifCond .le 18, 3) := by decide +kernel
theorem dX6_inside_155 : decode cX6_inside 155 = .ok (.aload_n 0, 1) := by decide +kernel
theorem dX6_inside_156 : decode cX6_inside 156 = .ok (.iload_n 1, 1) := by decide +kernel
theorem dX6_inside_157 : decode cX6_inside 157 = .ok (.iload 4, 2) := by decide +kernel
theorem dX6_inside_159 : decode cX6_inside 159 = .ok (.iload_n 3, 1) := by decide +kernel
theorem dX6_inside_160 : decode cX6_inside 160 = .ok (.invokevirtual 58, 3) := by decide +kernel
theorem dX6_inside_163 : decode cX6_inside 163 = .ok (.ifCond .le 7, 3) := by decide +kernel
theorem dX6_inside_166 : decode cX6_inside 166 = .ok (.iconst 1, 1) := by decide +kernel
theorem dX6_inside_167 : decode cX6_inside 167 = .ok (.goto 4, 3) := by decide +kernel
theorem dX6_inside_170 : decode cX6_inside 170 = .ok (.iconst 0, 1) := by decide +kernel
theorem dX6_inside_171 : decode cX6_inside 171 = .ok (.ireturn, 1) := by decide +kernel
theorem dX6_inside_172 : decode cX6_inside 172 = .ok (.aload_n 0, 1) := by decide +kernel
theorem dX6_inside_173 : decode cX6_inside 173 = .ok (.iload_n 1, 1) := by decide +kernel
theorem dX6_inside_174 : decode cX6_inside 174 = .ok (.iload_n 3, 1) := by decide +kernel
theorem dX6_inside_175 : decode cX6_inside 175 = .ok (.iload 4, 2) := by decide +kernel
theorem dX6_inside_177 : decode cX6_inside 177 = .ok (.invokevirtual 58, 3) := by decide +kernel
theorem dX6_inside_180 : decode cX6_inside 180 = .ok (.ifCond .le 18, 3) := by decide +kernel
theorem dX6_inside_183 : decode cX6_inside 183 = .ok (.aload_n 0, 1) := by decide +kernel
theorem dX6_inside_184 : decode cX6_inside 184 = .ok (.iload_n 1, 1) := by decide +kernel
theorem dX6_inside_185 : decode cX6_inside 185 = .ok (.iload 4, 2) := by decide +kernel
theorem dX6_inside_187 : decode cX6_inside 187 = .ok (.iload_n 2, 1) := by decide +kernel
theorem dX6_inside_188 : decode cX6_inside 188 = .ok (.invokevirtual 58, 3) := by decide +kernel
theorem dX6_inside_191 : decode cX6_inside 191 = .ok (.ifCond .le 7, 3) := by decide +kernel
theorem dX6_inside_194 : decode cX6_inside 194 = .ok (.iconst 0, 1) := by decide +kernel
theorem dX6_inside_195 : decode cX6_inside 195 = .ok (.goto 4, 3) := by decide +kernel
theorem dX6_inside_198 : decode cX6_inside 198 = .ok (.iconst 1, 1) := by decide +kernel
theorem dX6_inside_199 : decode cX6_inside 199 = .ok (.ireturn, 1) := by decide +kernel
theorem dX6_common_0 : decode cX6_common 0 = .ok (.iconst 0, 1) := by decide +kernel
theorem dX6_common_1 : decode cX6_common 1 = .ok (.istore 5, 2) := by decide +kernel
theorem dX6_common_3 : decode cX6_common 3 = .ok (.aload_n 0, 1) := by decide +kernel
theorem dX6_common_4 : decode cX6_common 4 = .ok (.iload_n 1, 1) := by decide +kernel
theorem dX6_common_5 : decode cX6_common 5 = .ok (.iload_n 2, 1) := by decide +kernel
theorem dX6_common_6 : decode cX6_common 6 = .ok (.iload_n 3, 1) := by decide +kernel
theorem dX6_common_7 : decode cX6_common 7 = .ok (.invokevirtual 131, 3) := by decide +kernel
theorem dX6_common_10 : decode cX6_common 10 = .ok (.istore 6, 2) := by decide +kernel
theorem dX6_common_12 : decode cX6_common 12 = .ok (.aload_n 0, 1) := by decide +kernel
theorem dX6_common_13 : decode cX6_common 13 = .ok (.iload_n 1, 1) := by decide +kernel
theorem dX6_common_14 : decode cX6_common 14 = .ok (.iload_n 2, 1) := by decide +kernel
theorem dX6_common_15 : decode cX6_common 15 = .ok (.iload 4, 2) := by decide +kernel
theorem dX6_common_17 : decode cX6_common 17 = .ok (.invokevirtual 131, 3) := by decide +kernel
theorem dX6_common_20 : decode cX6_common 20 = .ok (.istore 7, 2) := by decide +kernel
theorem dX6_common_22 : decode cX6_common 22 = .ok (.aload_n 0, 1) := by decide +kernel
theorem dX6_common_23 : decode cX6_common 23 = .ok (.iload_n 3, 1) := by decide +kernel
theorem dX6_common_24 : decode cX6_common 24 = .ok (.iload 4, 2) := by decide +kernel
theorem dX6_common_26 : decode cX6_common 26 = .ok (.iload_n 1, 1) := by decide +kernel
theorem dX6_common_27 : decode cX6_common 27 = .ok (.invokevirtual 131, 3) := by decide +kernel
theorem dX6_common_30 : decode cX6_common 30 = .ok (.istore 8, 2) := by decide +kernel
theorem dX6_common_32 : decode cX6_common 32 = .ok (.aload_n 0, 1) := by decide +kernel
theorem dX6_common_33 : decode cX6_common 33 = .ok (.iload_n 3, 1) := by decide +kernel
theorem dX6_common_34 : decode cX6_common 34 = .ok (.iload 4, 2) := by decide +kernel
theorem dX6_common_36 : decode cX6_common 36 = .ok (.iload_n 2, 1) := by decide +kernel
theorem dX6_common_37 : decode cX6_common 37 = .ok (.invokevirtual 131, 3) := by decide +kernel
theorem dX6_common_40 : decode cX6_common 40 = .ok (.istore 9, 2) := by decide +kernel
theorem dX6_common_42 : decode cX6_common 42 = .ok (.iload 5, 2) := by decide +kernel
theorem dX6_common_44 : decode cX6_common 44 = .ok (.iload 6, 2) := by decide +kernel
theorem dX6_common_46 : decode cX6_common 46 = .ok (.ifCond .eq 7, 3) := by decide +kernel
theorem dX6_common_49 : decode cX6_common 49 = .ok (.iconst 1, 1) := by decide +kernel
theorem dX6_common_50 : decode cX6_common 50 = .ok (.goto 4, 3) := by decide +kernel
theorem dX6_common_53 : decode cX6_common 53 = .ok (.iconst 0, 1) := by decide +kernel
theorem dX6_common_54 : decode cX6_common 54 = .ok (.iadd, 1) := by decide +kernel
theorem dX6_common_55 : decode cX6_common 55 = .ok (.istore 5, 2) := by decide +kernel
theorem dX6_common_57 : decode cX6_common 57 = .ok (.iload 5, 2) := by decide +kernel
theorem dX6_common_59 : decode cX6_common 59 = .ok (.iload 7, 2) := by decide +kernel
theorem dX6_common_61 : decode cX6_common 61 = .ok (.ifCond .eq 17, 3) := by decide +kernel
theorem dX6_common_64 : decode cX6_common 64 = .ok (.aload_n 0, 1) := by decide +kernel
theorem dX6_common_65 : decode cX6_common 65 = .ok (.iload_n 3, 1) := by decide +kernel
theorem dX6_common_66 : decode cX6_common 66 = .ok (.iload 4, 2) := by decide +kernel
theorem dX6_common_68 : decode cX6_common 68 = .ok (.invokevirtual 107, 3) := by decide +kernel
theorem dX6_common_71 : decode cX6_common 71 = .ok (.ifCond .ne 7, 3) := by decide +kernel
theorem dX6_common_74 : decode cX6_common 74 = .ok (.iconst 1, 1) := by decide +kernel
theorem dX6_common_75 : decode cX6_common 75 = .ok (.goto 4, 3) := by decide +kernel
theorem dX6_common_78 : decode cX6_common 78 = .ok (.iconst 0, 1) := by decide +kernel
theorem dX6_common_79 : decode cX6_common 79 = .ok (.iadd, 1) := by decide +kernel
theorem dX6_common_80 : decode cX6_common 80 = .ok (.istore 5, 2) := by decide +kernel
theorem dX6_common_82 : decode cX6_common 82 = .ok (.iload 5, 2) := by decide +kernel
theorem dX6_common_84 : decode cX6_common 84 = .ok (.iload 8, 2) := by decide +kernel
theorem dX6_common_86 : decode cX6_common 86 = .ok (.ifCond .eq 26, 3) := by decide +kernel
theorem dX6_common_89 : decode cX6_common 89 = .ok (.aload_n 0, 1) := by decide +kernel
theorem dX6_common_90 : decode cX6_common 90 = .ok (.iload_n 1, 1) := by decide +kernel
theorem dX6_common_91 : decode cX6_common 91 = .ok (.iload_n 3, 1) := by decide +kernel
theorem dX6_common_92 : decode cX6_common 92 = .ok (.invokevirtual 107, 3) := by decide +kernel
theorem dX6_common_95 : decode cX6_common 95 = .ok (.ifCond .ne 17, 3) := by decide +kernel
theorem dX6_common_98 : decode cX6_common 98 = .ok (.aload_n 0, 1) := by decide +kernel
theorem dX6_common_99 : decode cX6_common 99 = .ok (.iload_n 1, 1) := by decide +kernel
theorem dX6_common_100 : decode cX6_common 100 = .ok (.iload 4, 2) := by decide +kernel
theorem dX6_common_102 : decode cX6_common 102 = .ok (.invokevirtual 107, 3) := by decide +kernel
theorem dX6_common_105 : decode cX6_common 105 = .ok (.ifCond .ne 7, 3) := by decide +kernel
theorem dX6_common_108 : decode cX6_common 108 = .ok (.iconst 1, 1) := by decide +kernel
theorem dX6_common_109 : decode cX6_common 109 = .ok (.goto 4, 3) := by decide +kernel
theorem dX6_common_112 : decode cX6_common 112 = .ok (.iconst 0, 1) := by decide +kernel
theorem dX6_common_113 : decode cX6_common 113 = .ok (.iadd, 1) := by decide +kernel
theorem dX6_common_114 : decode cX6_common 114 = .ok (.istore 5, 2) := by decide +kernel
theorem dX6_common_116 : decode cX6_common 116 = .ok (.iload 5, 2) := by decide +kernel
theorem dX6_common_118 : decode cX6_common 118 = .ok (.iload 9, 2) := by decide +kernel
theorem dX6_common_120 : decode cX6_common 120 = .ok (.ifCond .eq 35, 3) := by decide +kernel
theorem dX6_common_123 : decode cX6_common 123 = .ok (.aload_n 0, 1) := by decide +kernel
theorem dX6_common_124 : decode cX6_common 124 = .ok (.iload_n 2, 1) := by decide +kernel
theorem dX6_common_125 : decode cX6_common 125 = .ok (.iload_n 3, 1) := by decide +kernel
theorem dX6_common_126 : decode cX6_common 126 = .ok (.invokevirtual 107, 3) := by decide +kernel
theorem dX6_common_129 : decode cX6_common 129 = .ok (.ifCond .ne 26, 3) := by decide +kernel
theorem dX6_common_132 : decode cX6_common 132 = .ok (.aload_n 0, 1) := by decide +kernel
theorem dX6_common_133 : decode cX6_common 133 = .ok (.iload_n 2, 1) := by decide +kernel
theorem dX6_common_134 : decode cX6_common 134 = .ok (.iload 4, 2) := by decide +kernel
theorem dX6_common_136 : decode cX6_common 136 = .ok (.invokevirtual 107, 3) := by decide +kernel
theorem dX6_common_139 : decode cX6_common 139 = .ok (.ifCond .ne 16, 3) := by decide +kernel
theorem dX6_common_142 : decode cX6_common 142 = .ok (.aload_n 0, 1) := by decide +kernel
theorem dX6_common_143 : decode cX6_common 143 = .ok (.iload_n 1, 1) := by decide +kernel
theorem dX6_common_144 : decode cX6_common 144 = .ok (.iload_n 2, 1) := by decide +kernel
theorem dX6_common_145 : decode cX6_common 145 = .ok (.invokevirtual 107, 3) := by decide +kernel
theorem dX6_common_148 : decode cX6_common 148 = .ok (.ifCond .ne 7, 3) := by decide +kernel
theorem dX6_common_151 : decode cX6_common 151 = .ok (.iconst 1, 1) := by decide +kernel
theorem dX6_common_152 : decode cX6_common 152 = .ok (.goto 4, 3) := by decide +kernel
theorem dX6_common_155 : decode cX6_common 155 = .ok (.iconst 0, 1) := by decide +kernel
theorem dX6_common_156 : decode cX6_common 156 = .ok (.iadd, 1) := by decide +kernel
theorem dX6_common_157 : decode cX6_common 157 = .ok (.istore 5, 2) := by decide +kernel
theorem dX6_common_159 : decode cX6_common 159 = .ok (.iload 5, 2) := by decide +kernel
theorem dX6_common_161 : decode cX6_common 161 = .ok (.iconst 1, 1) := by decide +kernel
theorem dX6_common_162 : decode cX6_common 162 = .ok (.if_icmp .le 7, 3) := by decide +kernel
theorem dX6_common_165 : decode cX6_common 165 = .ok (.iconst 2, 1) := by decide +kernel
theorem dX6_common_166 : decode cX6_common 166 = .ok (.goto 5, 3) := by decide +kernel
theorem dX6_common_169 : decode cX6_common 169 = .ok (.iload 5, 2) := by decide +kernel
theorem dX6_common_171 : decode cX6_common 171 = .ok (.ireturn, 1) := by decide +kernel
theorem dX6_cross_0 : decode cX6_cross 0 = .ok (.aload_n 0, 1) := by decide +kernel
theorem dX6_cross_1 : decode cX6_cross 1 = .ok (.iconst 0, 1) := by decide +kernel
theorem dX6_cross_2 : decode cX6_cross 2 = .ok (.putfield 1, 3) := by decide +kernel
theorem dX6_cross_5 : decode cX6_cross 5 = .ok (.aload_n 0, 1) := by decide +kernel
theorem dX6_cross_6 : decode cX6_cross 6 = .ok (.iload_n 1, 1) := by decide +kernel
theorem dX6_cross_7 : decode cX6_cross 7 = .ok (.invokevirtual 69, 3) := by decide +kernel
theorem dX6_cross_10 : decode cX6_cross 10 = .ok (.ifCond .eq 28, 3) := by decide +kernel
theorem dX6_cross_13 : decode cX6_cross 13 = .ok (.aload_n 0, 1) := by decide +kernel
theorem dX6_cross_14 : decode cX6_cross 14 = .ok (.iload_n 2, 1) := by decide +kernel
theorem dX6_cross_15 : decode cX6_cross 15 = .ok (.invokevirtual 69, 3) := by decide +kernel
theorem dX6_cross_18 : decode cX6_cross 18 = .ok (.ifCond .eq 20, 3) := by decide +kernel
theorem dX6_cross_21 : decode cX6_cross 21 = .ok (.aload_n 0, 1) := by decide +kernel
theorem dX6_cross_22 : decode cX6_cross 22 = .ok (.iload_n 3, 1) := by decide +kernel
theorem dX6_cross_23 : decode cX6_cross 23 = .ok (.invokevirtual 69, 3) := by decide +kernel
theorem dX6_cross_26 : decode cX6_cross 26 = .ok (.ifCond .eq 12, 3) := by decide +kernel
theorem dX6_cross_29 : decode cX6_cross 29 = .ok (.aload_n 0, 1) := by decide +kernel
theorem dX6_cross_30 : decode cX6_cross 30 = .ok (.iload 4, 2) := by decide +kernel
theorem dX6_cross_32 : decode cX6_cross 32 = .ok (.invokevirtual 69, 3) := by decide +kernel
theorem dX6_cross_35 : decode cX6_cross 35 = .ok (.ifCond .ne 6, 3) := by decide +kernel
theorem dX6_cross_38 : decode cX6_cross 38 = .ok (.bipush (-2), 2) := by decide +kernel
theorem dX6_cross_40 : decode cX6_cross 40 = .ok (.ireturn, 1) := by decide +kernel
theorem dX6_cross_41 : decode cX6_cross 41 = .ok (.aload_n 0, 1) := by decide +kernel
theorem dX6_cross_42 : decode cX6_cross 42 = .ok (.iload_n 1, 1) := by decide +kernel
theorem dX6_cross_43 : decode cX6_cross 43 = .ok (.iload_n 2, 1) := by decide +kernel
theorem dX6_cross_44 : decode cX6_cross 44 = .ok (.iload_n 3, 1) := by decide +kernel
theorem dX6_cross_45 : decode cX6_cross 45 = .ok (.invokevirtual 58, 3) := by decide +kernel
theorem dX6_cross_48 : decode cX6_cross 48 = .ok (.istore 5, 2) := by decide +kernel
theorem dX6_cross_50 : decode cX6_cross 50 = .ok (.aload_n 0, 1) := by decide +kernel
theorem dX6_cross_51 : decode cX6_cross 51 = .ok (.iload_n 1, 1) := by decide +kernel
theorem dX6_cross_52 : decode cX6_cross 52 = .ok (.iload_n 2, 1) := by decide +kernel
theorem dX6_cross_53 : decode cX6_cross 53 = .ok (.iload 4, 2) := by decide +kernel
theorem dX6_cross_55 : decode cX6_cross 55 = .ok (.invokevirtual 58, 3) := by decide +kernel
theorem dX6_cross_58 : decode cX6_cross 58 = .ok (.istore 6, 2) := by decide +kernel
theorem dX6_cross_60 : decode cX6_cross 60 = .ok (.aload_n 0, 1) := by decide +kernel
theorem dX6_cross_61 : decode cX6_cross 61 = .ok (.iload_n 3, 1) := by decide +kernel
theorem dX6_cross_62 : decode cX6_cross 62 = .ok (.iload 4, 2) := by decide +kernel
theorem dX6_cross_64 : decode cX6_cross 64 = .ok (.iload_n 1, 1) := by decide +kernel
theorem dX6_cross_65 : decode cX6_cross 65 = .ok (.invokevirtual 58, 3) := by decide +kernel
theorem dX6_cross_68 : decode cX6_cross 68 = .ok (.istore 7, 2) := by decide +kernel
theorem dX6_cross_70 : decode cX6_cross 70 = .ok (.aload_n 0, 1) := by decide +kernel
theorem dX6_cross_71 : decode cX6_cross 71 = .ok (.iload_n 3, 1) := by decide +kernel
theorem dX6_cross_72 : decode cX6_cross 72 = .ok (.iload 4, 2) := by decide +kernel
theorem dX6_cross_74 : decode cX6_cross 74 = .ok (.iload_n 2, 1) := by decide +kernel
theorem dX6_cross_75 : decode cX6_cross 75 = .ok (.invokevirtual 58, 3) := by decide +kernel
theorem dX6_cross_78 : decode cX6_cross 78 = .ok (.istore 8, 2) := by decide +kernel
theorem dX6_cross_80 : decode cX6_cross 80 = .ok (.iload 5, 2) := by decide +kernel
theorem dX6_cross_82 : decode cX6_cross 82 = .ok (.ifCond .ne 22, 3) := by decide +kernel
theorem dX6_cross_85 : decode cX6_cross 85 = .ok (.iload 6, 2) := by decide +kernel
theorem dX6_cross_87 : decode cX6_cross 87 = .ok (.ifCond .ne 17, 3) := by decide +kernel
theorem dX6_cross_90 : decode cX6_cross 90 = .ok (.iload 7, 2) := by decide +kernel
theorem dX6_cross_92 : decode cX6_cross 92 = .ok (.ifCond .ne 12, 3) := by decide +kernel
theorem dX6_cross_95 : decode cX6_cross 95 = .ok (.iload 8, 2) := by decide +kernel
theorem dX6_cross_97 : decode cX6_cross 97 = .ok (.ifCond .ne 7, 3) := by decide +kernel
theorem dX6_cross_100 : decode cX6_cross 100 = .ok (.iconst 1, 1) := by decide +kernel
theorem dX6_cross_101 : decode cX6_cross 101 = .ok (.goto 4, 3) := by decide +kernel
theorem dX6_cross_104 : decode cX6_cross 104 = .ok (.iconst 0, 1) := by decide +kernel
theorem dX6_cross_105 : decode cX6_cross 105 = .ok (.istore 9, 2) := by decide +kernel
theorem dX6_cross_107 : decode cX6_cross 107 = .ok (.iload 9, 2) := by decide +kernel
theorem dX6_cross_109 : decode cX6_cross 109 = .ok (.ifCond .eq 36, 3) := by decide +kernel
theorem dX6_cross_112 : decode cX6_cross 112 = .ok (.aload_n 0, 1) := by decide +kernel
theorem dX6_cross_113 : decode cX6_cross 113 = .ok (.iload_n 1, 1) := by decide +kernel
theorem dX6_cross_114 : decode cX6_cross 114 = .ok (.iload_n 2, 1) := by decide +kernel
theorem dX6_cross_115 : decode cX6_cross 115 = .ok (.iload_n 3, 1) := by decide +kernel
theorem dX6_cross_116 : decode cX6_cross 116 = .ok (.iload 4, 2) := by decide +kernel
theorem dX6_cross_118 : decode cX6_cross 118 = .ok (.invokevirtual 136, 3) := by decide +kernel
theorem dX6_cross_121 : decode cX6_cross 121 = .ok (.istore 10, 2) := by decide +kernel
theorem dX6_cross_123 : decode cX6_cross 123 = .ok (.iload 10, 2) := by decide +kernel
theorem dX6_cross_125 : decode cX6_cross 125 = .ok (.iconst 2, 1) := by decide +kernel
theorem dX6_cross_126 : decode cX6_cross 126 = .ok (.if_icmp .ne 7, 3) := by decide +kernel
theorem dX6_cross_129 : decode cX6_cross 129 = .ok (.iconst 3, 1) := by decide +kernel
theorem dX6_cross_130 : decode cX6_cross 130 = .ok (.goto 14, 3) := by decide +kernel
theorem dX6_cross_133 : decode cX6_cross 133 = .ok (.iload 10, 2) := by decide +kernel
theorem dX6_cross_135 : decode cX6_cross 135 = .ok (.iconst 1, 1) := by decide +kernel
theorem dX6_cross_136 : decode cX6_cross 136 = .ok (.if_icmp .ne 7, 3) := by decide +kernel
theorem dX6_cross_139 : decode cX6_cross 139 = .ok (.iconst 2, 1) := by decide +kernel
theorem dX6_cross_140 : decode cX6_cross 140 = .ok (.goto 4, 3) := by decide +kernel
theorem dX6_cross_143 : decode cX6_cross 143 = .ok (.iconst 0, 1) := by decide +kernel
theorem dX6_cross_144 : decode cX6_cross 144 = .ok (.ireturn, 1) := by decide +kernel
theorem dX6_cross_145 : decode cX6_cross 145 = .ok (.iload 5, 2) := by decide +kernel
theorem dX6_cross_147 : decode cX6_cross 147 = .ok (.iload 6, 2) := by decide +kernel
theorem dX6_cross_149 : decode cX6_cross 149 = .ok (.imul, 1) := by decide +kernel
theorem dX6_cross_150 : decode cX6_cross 150 = .ok (.ifCond .ge 13, 3) := by decide +kernel
theorem dX6_cross_153 : decode cX6_cross 153 = .ok (.iload 7, 2) := by decide +kernel
theorem dX6_cross_155 : decode cX6_cross 155 = .ok (.iload 8, 2) := by decide +kernel
theorem dX6_cross_157 : decode cX6_cross 157 = .ok (.imul, 1) := by decide +kernel
theorem dX6_cross_158 : decode cX6_cross 158 = .ok (.ifCond .ge 5, 3) := by decide +kernel
theorem dX6_cross_161 : decode cX6_cross 161 = .ok (.iconst 1, 1) := by decide +kernel
theorem dX6_cross_162 : decode cX6_cross 162 = .ok (.ireturn, 1) := by decide +kernel
theorem dX6_cross_163 : decode cX6_cross 163 = .ok (.aload_n 0, 1) := by decide +kernel
theorem dX6_cross_164 : decode cX6_cross 164 = .ok (.iload_n 1, 1) := by decide +kernel
theorem dX6_cross_165 : decode cX6_cross 165 = .ok (.iload_n 2, 1) := by decide +kernel
theorem dX6_cross_166 : decode cX6_cross 166 = .ok (.iload_n 3, 1) := by decide +kernel
theorem dX6_cross_167 : decode cX6_cross 167 = .ok (.invokevirtual 131, 3) := by decide +kernel
theorem dX6_cross_170 : decode cX6_cross 170 = .ok (.ifCond .ne 36, 3) := by decide +kernel
theorem dX6_cross_173 : decode cX6_cross 173 = .ok (.aload_n 0, 1) := by decide +kernel
theorem dX6_cross_174 : decode cX6_cross 174 = .ok (.iload_n 1, 1) := by decide +kernel
theorem dX6_cross_175 : decode cX6_cross 175 = .ok (.iload_n 2, 1) := by decide +kernel
theorem dX6_cross_176 : decode cX6_cross 176 = .ok (.iload 4, 2) := by decide +kernel
theorem dX6_cross_178 : decode cX6_cross 178 = .ok (.invokevirtual 131, 3) := by decide +kernel
theorem dX6_cross_181 : decode cX6_cross 181 = .ok (.ifCond .ne 25, 3) := by decide +kernel
theorem dX6_cross_184 : decode cX6_cross 184 = .ok (.aload_n 0, 1) := by decide +kernel
theorem dX6_cross_185 : decode cX6_cross 185 = .ok (.iload_n 3, 1) := by decide +kernel
theorem dX6_cross_186 : decode cX6_cross 186 = .ok (.iload 4, 2) := by decide +kernel
theorem dX6_cross_188 : decode cX6_cross 188 = .ok (.iload_n 1, 1) := by decide +kernel
theorem dX6_cross_189 : decode cX6_cross 189 = .ok (.invokevirtual 131, 3) := by decide +kernel
theorem dX6_cross_192 : decode cX6_cross 192 = .ok (.ifCond .ne 14, 3) := by decide +kernel
theorem dX6_cross_195 : decode cX6_cross 195 = .ok (.aload_n 0, 1) := by decide +kernel
theorem dX6_cross_196 : decode cX6_cross 196 = .ok (.iload_n 3, 1) := by decide +kernel
theorem dX6_cross_197 : decode cX6_cross 197 = .ok (.iload 4, 2) := by decide +kernel
theorem dX6_cross_199 : decode cX6_cross 199 = .ok (.iload_n 2, 1) := by decide +kernel
theorem dX6_cross_200 : decode cX6_cross 200 = .ok (.invokevirtual 131, 3) := by decide +kernel
theorem dX6_cross_203 : decode cX6_cross 203 = .ok (.ifCond .eq 7, 3) := by decide +kernel
theorem dX6_cross_206 : decode cX6_cross 206 = .ok (.iconst 2, 1) := by decide +kernel
theorem dX6_cross_207 : decode cX6_cross 207 = .ok (.goto 4, 3) := by decide +kernel
theorem dX6_cross_210 : decode cX6_cross 210 = .ok (.iconst 0, 1) := by decide +kernel
theorem dX6_cross_211 : decode cX6_cross 211 = .ok (.ireturn, 1) := by decide +kernel
theorem dX6_separated_0 : decode cX6_separated 0 = .ok (.aload_n 0, 1) := by decide +kernel
theorem dX6_separated_1 : decode cX6_separated 1 = .ok (.iconst 0, 1) := by decide +kernel
theorem dX6_separated_2 : decode cX6_separated 2 = .ok (.putfield 1, 3) := by decide +kernel
theorem dX6_separated_5 : decode cX6_separated 5 = .ok (.aload_n 0, 1) := by decide +kernel
theorem dX6_separated_6 : decode cX6_separated 6 = .ok (.iload_n 1, 1) := by decide +kernel
theorem dX6_separated_7 : decode cX6_separated 7 = .ok (.invokevirtual 69, 3) := by decide +kernel
theorem dX6_separated_10 : decode cX6_separated 10 = .ok (.ifCond .eq 28, 3) := by decide +kernel
theorem dX6_separated_13 : decode cX6_separated 13 = .ok (.aload_n 0, 1) := by decide +kernel
theorem dX6_separated_14 : decode cX6_separated 14 = .ok (.iload_n 2, 1) := by decide +kernel
theorem dX6_separated_15 : decode cX6_separated 15 = .ok (.invokevirtual 69, 3) := by decide +kernel
theorem dX6_separated_18 : decode cX6_separated 18 = .ok (.ifCond .eq 20, 3) := by decide +kernel
theorem dX6_separated_21 : decode cX6_separated 21 = .ok (.aload_n 0, 1) := by decide +kernel
theorem dX6_separated_22 : decode cX6_separated 22 = .ok (.iload_n 3, 1) := by decide +kernel
theorem dX6_separated_23 : decode cX6_separated 23 = .ok (.invokevirtual 69, 3) := by decide +kernel
theorem dX6_separated_26 : decode cX6_separated 26 = .ok (.ifCond .eq 12, 3) := by decide +kernel
theorem dX6_separated_29 : decode cX6_separated 29 = .ok (.aload_n 0, 1) := by decide +kernel
theorem dX6_separated_30 : decode cX6_separated 30 = .ok (.iload 4, 2) := by decide +kernel
theorem dX6_separated_32 : decode cX6_separated 32 = .ok (.invokevirtual 69, 3) := by decide +kernel
theorem dX6_separated_35 : decode cX6_separated 35 = .ok (.ifCond .ne 6, 3) := by decide +kernel
theorem dX6_separated_38 : decode cX6_separated 38 = .ok (.bipush (-2), 2) := by decide +kernel
theorem dX6_separated_40 : decode cX6_separated 40 = .ok (.ireturn, 1) := by decide +kernel
theorem dX6_separated_41 : decode cX6_separated 41 = .ok (.aload_n 0, 1) := by decide +kernel
theorem dX6_separated_42 : decode cX6_separated 42 = .ok (.iload_n 1, 1) := by decide +kernel
theorem dX6_separated_43 : decode cX6_separated 43 = .ok (.iload_n 2, 1) := by decide +kernel
theorem dX6_separated_44 : decode cX6_separated 44 = .ok (.invokevirtual 107, 3) := by decide +kernel
theorem dX6_separated_47 : decode cX6_separated 47 = .ok (.ifCond .ne 51, 3) := by decide +kernel
theorem dX6_separated_50 : decode cX6_separated 50 = .ok (.aload_n 0, 1) := by decide +kernel
theorem dX6_separated_51 : decode cX6_separated 51 = .ok (.iload_n 1, 1) := by decide +kernel
theorem dX6_separated_52 : decode cX6_separated 52 = .ok (.iload_n 3, 1) := by decide +kernel
theorem dX6_separated_53 : decode cX6_separated 53 = .ok (.invokevirtual 107, 3) := by decide +kernel
theorem dX6_separated_56 : decode cX6_separated 56 = .ok (.ifCond .ne 42, 3) := by decide +kernel
theorem dX6_separated_59 : decode cX6_separated 59 = .ok (.aload_n 0, 1) := by decide +kernel
theorem dX6_separated_60 : decode cX6_separated 60 = .ok (.iload_n 1, 1) := by decide +kernel
theorem dX6_separated_61 : decode cX6_separated 61 = .ok (.iload 4, 2) := by decide +kernel
theorem dX6_separated_63 : decode cX6_separated 63 = .ok (.invokevirtual 107, 3) := by decide +kernel
theorem dX6_separated_66 : decode cX6_separated 66 = .ok (.ifCond .ne 32, 3) := by decide +kernel
theorem dX6_separated_69 : decode cX6_separated 69 = .ok (.aload_n 0, 1) := by decide +kernel
theorem dX6_separated_70 : decode cX6_separated 70 = .ok (.iload_n 2, 1) := by decide +kernel
theorem dX6_separated_71 : decode cX6_separated 71 = .ok (.iload_n 3, 1) := by decide +kernel
theorem dX6_separated_72 : decode cX6_separated 72 = .ok (.invokevirtual 107, 3) := by decide +kernel
theorem dX6_separated_75 : decode cX6_separated 75 = .ok (.ifCond .ne 23, 3) := by decide +kernel
theorem dX6_separated_78 : decode cX6_separated 78 = .ok (.aload_n 0, 1) := by decide +kernel
theorem dX6_separated_79 : decode cX6_separated 79 = .ok (.iload_n 2, 1) := by decide +kernel
theorem dX6_separated_80 : decode cX6_separated 80 = .ok (.iload 4, 2) := by decide +kernel
theorem dX6_separated_82 : decode cX6_separated 82 = .ok (.invokevirtual 107, 3) := by decide +kernel
theorem dX6_separated_85 : decode cX6_separated 85 = .ok (.ifCond .ne 13, 3) := by decide +kernel
theorem dX6_separated_88 : decode cX6_separated 88 = .ok (.aload_n 0, 1) := by decide +kernel
theorem dX6_separated_89 : decode cX6_separated 89 = .ok (.iload_n 3, 1) := by decide +kernel
theorem dX6_separated_90 : decode cX6_separated 90 = .ok (.iload 4, 2) := by decide +kernel
theorem dX6_separated_92 : decode cX6_separated 92 = .ok (.invokevirtual 107, 3) := by decide +kernel
theorem dX6_separated_95 : decode cX6_separated 95 = .ok (.ifCond .eq 6, 3) := by decide +kernel
theorem dX6_separated_98 : decode cX6_separated 98 = .ok (.bipush (-4), 2) := by decide +kernel
theorem dX6_separated_100 : decode cX6_separated 100 = .ok (.ireturn, 1) := by decide +kernel
theorem dX6_separated_101 : decode cX6_separated 101 = .ok (.aload_n 0, 1) := by decide +kernel
theorem dX6_separated_102 : decode cX6_separated 102 = .ok (.iload_n 1, 1) := by decide +kernel
theorem dX6_separated_103 : decode cX6_separated 103 = .ok (.iload_n 2, 1) := by decide +kernel
theorem dX6_separated_104 : decode cX6_separated 104 = .ok (.iload_n 3, 1) := by decide +kernel
theorem dX6_separated_105 : decode cX6_separated 105 = .ok (.invokevirtual 58, 3) := by decide +kernel
theorem dX6_separated_108 : decode cX6_separated 108 = .ok (.istore 5, 2) := by decide +kernel
theorem dX6_separated_110 : decode cX6_separated 110 = .ok (.aload_n 0, 1) := by decide +kernel
theorem dX6_separated_111 : decode cX6_separated 111 = .ok (.iload_n 1, 1) := by decide +kernel
theorem dX6_separated_112 : decode cX6_separated 112 = .ok (.iload_n 2, 1) := by decide +kernel
theorem dX6_separated_113 : decode cX6_separated 113 = .ok (.iload 4, 2) := by decide +kernel
theorem dX6_separated_115 : decode cX6_separated 115 = .ok (.invokevirtual 58, 3) := by decide +kernel
theorem dX6_separated_118 : decode cX6_separated 118 = .ok (.istore 6, 2) := by decide +kernel
theorem dX6_separated_120 : decode cX6_separated 120 = .ok (.iload 5, 2) := by decide +kernel
theorem dX6_separated_122 : decode cX6_separated 122 = .ok (.ifCond .ne 32, 3) := by decide +kernel
theorem dX6_separated_125 : decode cX6_separated 125 = .ok (.iload 6, 2) := by decide +kernel
theorem dX6_separated_127 : decode cX6_separated 127 = .ok (.ifCond .ne 27, 3) := by decide +kernel
theorem dX6_separated_130 : decode cX6_separated 130 = .ok (.aload_n 0, 1) := by decide +kernel
theorem dX6_separated_131 : decode cX6_separated 131 = .ok (.iload_n 1, 1) := by decide +kernel
theorem dX6_separated_132 : decode cX6_separated 132 = .ok (.iload_n 2, 1) := by decide +kernel
theorem dX6_separated_133 : decode cX6_separated 133 = .ok (.iload_n 3, 1) := by decide +kernel
theorem dX6_separated_134 : decode cX6_separated 134 = .ok (.invokevirtual 131, 3) := by decide +kernel
theorem dX6_separated_137 : decode cX6_separated 137 = .ok (.aload_n 0, 1) := by decide +kernel
theorem dX6_separated_138 : decode cX6_separated 138 = .ok (.iload_n 1, 1) := by decide +kernel
theorem dX6_separated_139 : decode cX6_separated 139 = .ok (.iload_n 2, 1) := by decide +kernel
theorem dX6_separated_140 : decode cX6_separated 140 = .ok (.iload 4, 2) := by decide +kernel
theorem dX6_separated_142 : decode cX6_separated 142 = .ok (.invokevirtual 131, 3) := by decide +kernel
theorem dX6_separated_145 : decode cX6_separated 145 = .ok (.if_icmp .eq 7, 3) := by decide +kernel
theorem dX6_separated_148 : decode cX6_separated 148 = .ok (.iconst 1, 1) := by decide +kernel
theorem dX6_separated_149 : decode cX6_separated 149 = .ok (.goto 4, 3) := by decide +kernel
theorem dX6_separated_152 : decode cX6_separated 152 = .ok (.iconst 0, 1) := by decide +kernel
theorem dX6_separated_153 : decode cX6_separated 153 = .ok (.ireturn, 1) := by decide +kernel
theorem dX6_separated_154 : decode cX6_separated 154 = .ok (.iload 5, 2) := by decide +kernel
theorem dX6_separated_156 : decode cX6_separated 156 = .ok (.ifCond .eq 15, 3) := by decide +kernel
theorem dX6_separated_159 : decode cX6_separated 159 = .ok (.aload_n 0, 1) := by decide +kernel
theorem dX6_separated_160 : decode cX6_separated 160 = .ok (.iload_n 1, 1) := by decide +kernel
theorem dX6_separated_161 : decode cX6_separated 161 = .ok (.iload_n 2, 1) := by decide +kernel
theorem dX6_separated_162 : decode cX6_separated 162 = .ok (.iload_n 3, 1) := by decide +kernel
theorem dX6_separated_163 : decode cX6_separated 163 = .ok (.iload 4, 2) := by decide +kernel
theorem dX6_separated_165 : decode cX6_separated 165 = .ok (.invokevirtual 123, 3) := by decide +kernel
theorem dX6_separated_168 : decode cX6_separated 168 = .ok (.ifCond .eq 6, 3) := by decide +kernel
theorem dX6_separated_171 : decode cX6_separated 171 = .ok (.bipush (-4), 2) := by decide +kernel
theorem dX6_separated_173 : decode cX6_separated 173 = .ok (.ireturn, 1) := by decide +kernel
theorem dX6_separated_174 : decode cX6_separated 174 = .ok (.iload 5, 2) := by decide +kernel
theorem dX6_separated_176 : decode cX6_separated 176 = .ok (.iload 6, 2) := by decide +kernel
theorem dX6_separated_178 : decode cX6_separated 178 = .ok (.imul, 1) := by decide +kernel
theorem dX6_separated_179 : decode cX6_separated 179 = .ok (.ifCond .ge 7, 3) := by decide +kernel
theorem dX6_separated_182 : decode cX6_separated 182 = .ok (.iconst 1, 1) := by decide +kernel
theorem dX6_separated_183 : decode cX6_separated 183 = .ok (.goto 4, 3) := by decide +kernel
theorem dX6_separated_186 : decode cX6_separated 186 = .ok (.iconst 0, 1) := by decide +kernel
theorem dX6_separated_187 : decode cX6_separated 187 = .ok (.ireturn, 1) := by decide +kernel
theorem dX6_isMany_0 : decode cX6_isMany 0 = .ok (.iload_n 1, 1) := by decide +kernel
theorem dX6_isMany_1 : decode cX6_isMany 1 = .ok (.iload_n 2, 1) := by decide +kernel
theorem dX6_isMany_2 : decode cX6_isMany 2 = .ok (.if_icmp .lt 15, 3) := by decide +kernel
theorem dX6_isMany_5 : decode cX6_isMany 5 = .ok (.iload_n 1, 1) := by decide +kernel
theorem dX6_isMany_6 : decode cX6_isMany 6 = .ok (.aload_n 0, 1) := by decide +kernel
theorem dX6_isMany_7 : decode cX6_isMany 7 = .ok (.getfield 66, 3) := by decide +kernel
theorem dX6_isMany_10 : decode cX6_isMany 10 = .ok (.if_icmp .gt 7, 3) := by decide +kernel
theorem dX6_isMany_13 : decode cX6_isMany 13 = .ok (.iconst 1, 1) := by decide +kernel
theorem dX6_isMany_14 : decode cX6_isMany 14 = .ok (.goto 4, 3) := by decide +kernel
theorem dX6_isMany_17 : decode cX6_isMany 17 = .ok (.iconst 0, 1) := by decide +kernel
theorem dX6_isMany_18 : decode cX6_isMany 18 = .ok (.ireturn, 1) := by decide +kernel
theorem dX6_isWhole_0 : decode cX6_isWhole 0 = .ok (.iconst 1, 1) := by decide +kernel
theorem dX6_isWhole_1 : decode cX6_isWhole 1 = .ok (.istore_n 2, 1) := by decide +kernel
theorem dX6_isWhole_2 : decode cX6_isWhole 2 = .ok (.iconst 0, 1) := by decide +kernel
theorem dX6_isWhole_3 : decode cX6_isWhole 3 = .ok (.istore_n 3, 1) := by decide +kernel
theorem dX6_isWhole_4 : decode cX6_isWhole 4 = .ok (.iload_n 3, 1) := by decide +kernel
theorem dX6_isWhole_5 : decode cX6_isWhole 5 = .ok (.iload_n 1, 1) := by decide +kernel
theorem dX6_isWhole_6 : decode cX6_isWhole 6 = .ok (.if_icmp .ge 29, 3) := by decide +kernel
theorem dX6_isWhole_9 : decode cX6_isWhole 9 = .ok (.iload_n 2, 1) := by decide +kernel
theorem dX6_isWhole_10 : decode cX6_isWhole 10 = .ok (.ifCond .eq 17, 3) := by decide +kernel
theorem dX6_isWhole_13 : decode cX6_isWhole 13 = .ok (.aload_n 0, 1) := by decide +kernel
theorem dX6_isWhole_14 : decode cX6_isWhole 14 = .ok (.getfield 20, 3) := by decide +kernel
theorem dX6_isWhole_17 : decode cX6_isWhole 17 = .ok (.iload_n 3, 1) := by decide +kernel
theorem dX6_isWhole_18 : decode cX6_isWhole 18 = .ok (.iaload, 1) := by decide +kernel
theorem dX6_isWhole_19 : decode cX6_isWhole 19 = .ok (.iconst (-1), 1) := by decide +kernel
theorem dX6_isWhole_20 : decode cX6_isWhole 20 = .ok (.if_icmp .eq 7, 3) := by decide +kernel
theorem dX6_isWhole_23 : decode cX6_isWhole 23 = .ok (.iconst 1, 1) := by decide +kernel
theorem dX6_isWhole_24 : decode cX6_isWhole 24 = .ok (.goto 4, 3) := by decide +kernel
theorem dX6_isWhole_27 : decode cX6_isWhole 27 = .ok (.iconst 0, 1) := by decide +kernel
theorem dX6_isWhole_28 : decode cX6_isWhole 28 = .ok (.istore_n 2, 1) := by decide +kernel
theorem dX6_isWhole_29 : decode cX6_isWhole 29 = .ok (.iinc 3 1, 3) := by decide +kernel
theorem dX6_isWhole_32 : decode cX6_isWhole 32 = .ok (.goto (-28), 3) := by decide +kernel
theorem dX6_isWhole_35 : decode cX6_isWhole 35 = .ok (.iload_n 2, 1) := by decide +kernel
theorem dX6_isWhole_36 : decode cX6_isWhole 36 = .ok (.ireturn, 1) := by decide +kernel
end
section
theorem dX6_next_0 : decode cX6_next 0 = .ok (.aload_n 0, 1) := by decide +kernel
theorem dX6_next_1 : decode cX6_next 1 = .ok (.getfield 20, 3) := by decide +kernel
theorem dX6_next_4 : decode cX6_next 4 = .ok (.iload_n 1, 1) := by decide +kernel
theorem dX6_next_5 : decode cX6_next 5 = .ok (.iconst 1, 1) := by decide +kernel
theorem dX6_next_6 : decode cX6_next 6 = .ok (.iadd, 1) := by decide +kernel
theorem dX6_next_7 : decode cX6_next 7 = .ok (.iload_n 2, 1) := by decide +kernel
theorem dX6_next_8 : decode cX6_next 8 = .ok (.if_icmp .ne 7, 3) := by decide +kernel
theorem dX6_next_11 : decode cX6_next 11 = .ok (.iconst 0, 1) := by decide +kernel
theorem dX6_next_12 : decode cX6_next 12 = .ok (.goto 6, 3) := by decide +kernel
theorem dX6_next_15 : decode cX6_next 15 = .ok (.iload_n 1, 1) := by decide +kernel
theorem dX6_next_16 : decode cX6_next 16 = .ok (.iconst 1, 1) := by decide +kernel
theorem dX6_next_17 : decode cX6_next 17 = .ok (.iadd, 1) := by decide +kernel
theorem dX6_next_18 : decode cX6_next 18 = .ok (.iaload, 1) := by decide +kernel
theorem dX6_next_19 : decode cX6_next 19 = .ok (.ireturn, 1) := by decide +kernel
theorem dX6_convex_0 : decode cX6_convex 0 = .ok (.aload_n 0, 1) := by decide +kernel
theorem dX6_convex_1 : decode cX6_convex 1 = .ok (.iconst 0, 1) := by decide +kernel
theorem dX6_convex_2 : decode cX6_convex 2 = .ok (.putfield 1, 3) := by decide +kernel
theorem dX6_convex_5 : decode cX6_convex 5 = .ok (.aload_n 0, 1) := by decide +kernel
theorem dX6_convex_6 : decode cX6_convex 6 = .ok (.iload_n 1, 1) := by decide +kernel
theorem dX6_convex_7 : decode cX6_convex 7 = .ok (.iconst 3, 1) := by decide +kernel
theorem dX6_convex_8 : decode cX6_convex 8 = .ok (.invokevirtual 139, 3) := by decide +kernel
theorem dX6_convex_11 : decode cX6_convex 11 = .ok (.ifCond .ne 6, 3) := by decide +kernel
theorem dX6_convex_14 : decode cX6_convex 14 = .ok (.bipush (-2), 2) := by decide +kernel
theorem dX6_convex_16 : decode cX6_convex 16 = .ok (.ireturn, 1) := by decide +kernel
theorem dX6_convex_17 : decode cX6_convex 17 = .ok (.aload_n 0, 1) := by decide +kernel
theorem dX6_convex_18 : decode cX6_convex 18 = .ok (.iload_n 1, 1) := by decide +kernel
theorem dX6_convex_19 : decode cX6_convex 19 = .ok (.invokevirtual 142, 3) := by decide +kernel
theorem dX6_convex_22 : decode cX6_convex 22 = .ok (.ifCond .ne 6, 3) := by decide +kernel
theorem dX6_convex_25 : decode cX6_convex 25 = .ok (.bipush (-4), 2) := by decide +kernel
theorem dX6_convex_27 : decode cX6_convex 27 = .ok (.ireturn, 1) := by decide +kernel
theorem dX6_convex_28 : decode cX6_convex 28 = .ok (.iconst 1, 1) := by decide +kernel
theorem dX6_convex_29 : decode cX6_convex 29 = .ok (.istore_n 2, 1) := by decide +kernel
theorem dX6_convex_30 : decode cX6_convex 30 = .ok (.iconst 1, 1) := by decide +kernel
theorem dX6_convex_31 : decode cX6_convex 31 = .ok (.istore_n 3, 1) := by decide +kernel
theorem dX6_convex_32 : decode cX6_convex 32 = .ok (.iconst 0, 1) := by decide +kernel
theorem dX6_convex_33 : decode cX6_convex 33 = .ok (.istore 4, 2) := by decide +kernel
theorem dX6_convex_35 : decode cX6_convex 35 = .ok (.iload 4, 2) := by decide +kernel
theorem dX6_convex_37 : decode cX6_convex 37 = .ok (.iload_n 1, 1) := by decide +kernel
theorem dX6_convex_38 : decode cX6_convex 38 = .ok (.if_icmp .ge 127, 3) := by decide +kernel
theorem dX6_convex_41 : decode cX6_convex 41 = .ok (.iconst 0, 1) := by decide +kernel
theorem dX6_convex_42 : decode cX6_convex 42 = .ok (.istore 5, 2) := by decide +kernel
theorem dX6_convex_44 : decode cX6_convex 44 = .ok (.iload 5, 2) := by decide +kernel
theorem dX6_convex_46 : decode cX6_convex 46 = .ok (.iload_n 1, 1) := by decide +kernel
theorem dX6_convex_47 : decode cX6_convex 47 = .ok (.if_icmp .ge 112, 3) := by decide +kernel
theorem dX6_convex_50 : decode cX6_convex 50 = .ok (.iload 5, 2) := by decide +kernel
theorem dX6_convex_52 : decode cX6_convex 52 = .ok (.iload 4, 2) := by decide +kernel
theorem dX6_convex_54 : decode cX6_convex 54 = .ok (.if_icmp .eq 14, 3) := by decide +kernel
theorem dX6_convex_57 : decode cX6_convex 57 = .ok (.iload 5, 2) := by decide +kernel
theorem dX6_convex_59 : decode cX6_convex 59 = .ok (.iload 4, 2) := by decide +kernel
theorem dX6_convex_61 : decode cX6_convex 61 = .ok (.iconst 1, 1) := by decide +kernel
theorem dX6_convex_62 : decode cX6_convex 62 = .ok (.iadd, 1) := by decide +kernel
theorem dX6_convex_63 : decode cX6_convex 63 = .ok (.iload_n 1, 1) := by decide +kernel
theorem dX6_convex_64 : decode cX6_convex 64 = .ok (.irem, 1) := by decide +kernel
theorem dX6_convex_65 : decode cX6_convex 65 = .ok (.if_icmp .ne 7, 3) := by decide +kernel
theorem dX6_convex_68 : decode cX6_convex 68 = .ok (.iconst 1, 1) := by decide +kernel
theorem dX6_convex_69 : decode cX6_convex 69 = .ok (.goto 4, 3) := by decide +kernel
theorem dX6_convex_72 : decode cX6_convex 72 = .ok (.iconst 0, 1) := by decide +kernel
theorem dX6_convex_73 : decode cX6_convex 73 = .ok (.istore 6, 2) := by decide +kernel
theorem dX6_convex_75 : decode cX6_convex 75 = .ok (.iload 6, 2) := by decide +kernel
theorem dX6_convex_77 : decode cX6_convex 77 = .ok (.ifCond .eq 7, 3) := by decide +kernel
theorem dX6_convex_80 : decode cX6_convex 80 = .ok (.iconst 0, 1) := by decide +kernel
theorem dX6_convex_81 : decode cX6_convex 81 = .ok (.goto 28, 3) := by decide +kernel
theorem dX6_convex_84 : decode cX6_convex 84 = .ok (.aload_n 0, 1) := by decide +kernel
theorem dX6_convex_85 : decode cX6_convex 85 = .ok (.aload_n 0, 1) := by decide +kernel
theorem dX6_convex_86 : decode cX6_convex 86 = .ok (.getfield 20, 3) := by decide +kernel
theorem dX6_convex_89 : decode cX6_convex 89 = .ok (.iload 4, 2) := by decide +kernel
theorem dX6_convex_91 : decode cX6_convex 91 = .ok (.iaload, 1) := by decide +kernel
theorem dX6_convex_92 : decode cX6_convex 92 = .ok (.aload_n 0, 1) := by decide +kernel
theorem dX6_convex_93 : decode cX6_convex 93 = .ok (.iload 4, 2) := by decide +kernel
theorem dX6_convex_95 : decode cX6_convex 95 = .ok (.iload_n 1, 1) := by decide +kernel
theorem dX6_convex_96 : decode cX6_convex 96 = .ok (.invokevirtual 145, 3) := by decide +kernel
theorem dX6_convex_99 : decode cX6_convex 99 = .ok (.aload_n 0, 1) := by decide +kernel
theorem dX6_convex_100 : decode cX6_convex 100 = .ok (.getfield 20, 3) := by decide +kernel
theorem dX6_convex_103 : decode cX6_convex 103 = .ok (.iload 5, 2) := by decide +kernel
theorem dX6_convex_105 : decode cX6_convex 105 = .ok (.iaload, 1) := by decide +kernel
theorem dX6_convex_106 : decode cX6_convex 106 = .ok (.invokevirtual 58, 3) := by decide +kernel
theorem dX6_convex_109 : decode cX6_convex 109 = .ok (.istore 7, 2) := by decide +kernel
theorem dX6_convex_111 : decode cX6_convex 111 = .ok (.iload_n 2, 1) := by decide +kernel
theorem dX6_convex_112 : decode cX6_convex 112 = .ok (.ifCond .eq 18, 3) := by decide +kernel
theorem dX6_convex_115 : decode cX6_convex 115 = .ok (.iload 6, 2) := by decide +kernel
theorem dX6_convex_117 : decode cX6_convex 117 = .ok (.ifCond .ne 9, 3) := by decide +kernel
theorem dX6_convex_120 : decode cX6_convex 120 = .ok (.iload 7, 2) := by decide +kernel
theorem dX6_convex_122 : decode cX6_convex 122 = .ok (.iconst 1, 1) := by decide +kernel
theorem dX6_convex_123 : decode cX6_convex 123 = .ok (.if_icmp .ne 7, 3) := by decide +kernel
theorem dX6_convex_126 : decode cX6_convex 126 = .ok (.iconst 1, 1) := by decide +kernel
theorem dX6_convex_127 : decode cX6_convex 127 = .ok (.goto 4, 3) := by decide +kernel
theorem dX6_convex_130 : decode cX6_convex 130 = .ok (.iconst 0, 1) := by decide +kernel
theorem dX6_convex_131 : decode cX6_convex 131 = .ok (.istore_n 2, 1) := by decide +kernel
theorem dX6_convex_132 : decode cX6_convex 132 = .ok (.iload_n 3, 1) := by decide +kernel
theorem dX6_convex_133 : decode cX6_convex 133 = .ok (.ifCond .eq 18, 3) := by decide +kernel
theorem dX6_convex_136 : decode cX6_convex 136 = .ok (.iload 6, 2) := by decide +kernel
theorem dX6_convex_138 : decode cX6_convex 138 = .ok (.ifCond .ne 9, 3) := by decide +kernel
theorem dX6_convex_141 : decode cX6_convex 141 = .ok (.iload 7, 2) := by decide +kernel
theorem dX6_convex_143 : decode cX6_convex 143 = .ok (.iconst (-1), 1) := by decide +kernel
theorem dX6_convex_144 : decode cX6_convex 144 = .ok (.if_icmp .ne 7, 3) := by decide +kernel
theorem dX6_convex_147 : decode cX6_convex 147 = .ok (.iconst 1, 1) := by decide +kernel
theorem dX6_convex_148 : decode cX6_convex 148 = .ok (.goto 4, 3) := by decide +kernel
theorem dX6_convex_151 : decode cX6_convex 151 = .ok (.iconst 0, 1) := by decide +kernel
theorem dX6_convex_152 : decode cX6_convex 152 = .ok (.istore_n 3, 1) := by decide +kernel
theorem dX6_convex_153 : decode cX6_convex 153 = .ok (.iinc 5 1, 3) := by decide +kernel
theorem dX6_convex_156 : decode cX6_convex 156 = .ok (.goto (-112), 3) := by decide +kernel
theorem dX6_convex_159 : decode cX6_convex 159 = .ok (.iinc 4 1, 3) := by decide +kernel
theorem dX6_convex_162 : decode cX6_convex 162 = .ok (.goto (-127), 3) := by decide +kernel
theorem dX6_convex_165 : decode cX6_convex 165 = .ok (.iload_n 2, 1) := by decide +kernel
theorem dX6_convex_166 : decode cX6_convex 166 = .ok (.ifCond .eq 7, 3) := by decide +kernel
theorem dX6_convex_169 : decode cX6_convex 169 = .ok (.iconst 1, 1) := by decide +kernel
theorem dX6_convex_170 : decode cX6_convex 170 = .ok (.goto 12, 3) := by decide +kernel
theorem dX6_convex_173 : decode cX6_convex 173 = .ok (.iload_n 3, 1) := by decide +kernel
theorem dX6_convex_174 : decode cX6_convex 174 = .ok (.ifCond .eq 7, 3) := by decide +kernel
theorem dX6_convex_177 : decode cX6_convex 177 = .ok (.iconst (-1), 1) := by decide +kernel
theorem dX6_convex_178 : decode cX6_convex 178 = .ok (.goto 4, 3) := by decide +kernel
theorem dX6_convex_181 : decode cX6_convex 181 = .ok (.iconst 0, 1) := by decide +kernel
theorem dX6_convex_182 : decode cX6_convex 182 = .ok (.ireturn, 1) := by decide +kernel
theorem dX6_isOnEdge_0 : decode cX6_isOnEdge 0 = .ok (.iconst 0, 1) := by decide +kernel
theorem dX6_isOnEdge_1 : decode cX6_isOnEdge 1 = .ok (.istore_n 3, 1) := by decide +kernel
theorem dX6_isOnEdge_2 : decode cX6_isOnEdge 2 = .ok (.iconst 0, 1) := by decide +kernel
theorem dX6_isOnEdge_3 : decode cX6_isOnEdge 3 = .ok (.istore 4, 2) := by decide +kernel
theorem dX6_isOnEdge_5 : decode cX6_isOnEdge 5 = .ok (.iload 4, 2) := by decide +kernel
theorem dX6_isOnEdge_7 : decode cX6_isOnEdge 7 = .ok (.iload_n 1, 1) := by decide +kernel
theorem dX6_isOnEdge_8 : decode cX6_isOnEdge 8 = .ok (.if_icmp .ge 41, 3) := by decide +kernel
theorem dX6_isOnEdge_11 : decode cX6_isOnEdge 11 = .ok (.iload_n 3, 1) := by decide +kernel
theorem dX6_isOnEdge_12 : decode cX6_isOnEdge 12 = .ok (.ifCond .ne 25, 3) := by decide +kernel
theorem dX6_isOnEdge_15 : decode cX6_isOnEdge 15 = .ok (.aload_n 0, 1) := by decide +kernel
theorem dX6_isOnEdge_16 : decode cX6_isOnEdge 16 = .ok (.aload_n 0, 1) := by decide +kernel
theorem dX6_isOnEdge_17 : decode cX6_isOnEdge 17 = .ok (.getfield 20, 3) := by decide +kernel
theorem dX6_isOnEdge_20 : decode cX6_isOnEdge 20 = .ok (.iload 4, 2) := by decide +kernel
theorem dX6_isOnEdge_22 : decode cX6_isOnEdge 22 = .ok (.iaload, 1) := by decide +kernel
theorem dX6_isOnEdge_23 : decode cX6_isOnEdge 23 = .ok (.aload_n 0, 1) := by decide +kernel
theorem dX6_isOnEdge_24 : decode cX6_isOnEdge 24 = .ok (.iload 4, 2) := by decide +kernel
theorem dX6_isOnEdge_26 : decode cX6_isOnEdge 26 = .ok (.iload_n 1, 1) := by decide +kernel
theorem dX6_isOnEdge_27 : decode cX6_isOnEdge 27 = .ok (.invokevirtual 145, 3) := by decide +kernel
theorem dX6_isOnEdge_30 : decode cX6_isOnEdge 30 = .ok (.iload_n 2, 1) := by decide +kernel
theorem dX6_isOnEdge_31 : decode cX6_isOnEdge 31 = .ok (.invokevirtual 131, 3) := by decide +kernel
theorem dX6_isOnEdge_34 : decode cX6_isOnEdge 34 = .ok (.ifCond .eq 7, 3) := by decide +kernel
theorem dX6_isOnEdge_37 : decode cX6_isOnEdge 37 = .ok (.iconst 1, 1) := by decide +kernel
theorem dX6_isOnEdge_38 : decode cX6_isOnEdge 38 = .ok (.goto 4, 3) := by decide +kernel
theorem dX6_isOnEdge_41 : decode cX6_isOnEdge 41 = .ok (.iconst 0, 1) := by decide +kernel
theorem dX6_isOnEdge_42 : decode cX6_isOnEdge 42 = .ok (.istore_n 3, 1) := by decide +kernel
theorem dX6_isOnEdge_43 : decode cX6_isOnEdge 43 = .ok (.iinc 4 1, 3) := by decide +kernel
theorem dX6_isOnEdge_46 : decode cX6_isOnEdge 46 = .ok (.goto (-41), 3) := by decide +kernel
theorem dX6_isOnEdge_49 : decode cX6_isOnEdge 49 = .ok (.iload_n 3, 1) := by decide +kernel
theorem dX6_isOnEdge_50 : decode cX6_isOnEdge 50 = .ok (.ireturn, 1) := by decide +kernel
theorem dX6_rises_0 : decode cX6_rises 0 = .ok (.aload_n 0, 1) := by decide +kernel
theorem dX6_rises_1 : decode cX6_rises 1 = .ok (.getfield 20, 3) := by decide +kernel
theorem dX6_rises_4 : decode cX6_rises 4 = .ok (.iload_n 1, 1) := by decide +kernel
theorem dX6_rises_5 : decode cX6_rises 5 = .ok (.iaload, 1) := by decide +kernel
theorem dX6_rises_6 : decode cX6_rises 6 = .ok (.istore 4, 2) := by decide +kernel
theorem dX6_rises_8 : decode cX6_rises 8 = .ok (.aload_n 0, 1) := by decide +kernel
theorem dX6_rises_9 : decode cX6_rises 9 = .ok (.iload_n 1, 1) := by decide +kernel
theorem dX6_rises_10 : decode cX6_rises 10 = .ok (.iload_n 2, 1) := by decide +kernel
theorem dX6_rises_11 : decode cX6_rises 11 = .ok (.invokevirtual 145, 3) := by decide +kernel
theorem dX6_rises_14 : decode cX6_rises 14 = .ok (.istore 5, 2) := by decide +kernel
theorem dX6_rises_16 : decode cX6_rises 16 = .ok (.aload_n 0, 1) := by decide +kernel
theorem dX6_rises_17 : decode cX6_rises 17 = .ok (.getfield 17, 3) := by decide +kernel
theorem dX6_rises_20 : decode cX6_rises 20 = .ok (.iload 4, 2) := by decide +kernel
theorem dX6_rises_22 : decode cX6_rises 22 = .ok (.iaload, 1) := by decide +kernel
theorem dX6_rises_23 : decode cX6_rises 23 = .ok (.aload_n 0, 1) := by decide +kernel
theorem dX6_rises_24 : decode cX6_rises 24 = .ok (.getfield 17, 3) := by decide +kernel
theorem dX6_rises_27 : decode cX6_rises 27 = .ok (.iload_n 3, 1) := by decide +kernel
theorem dX6_rises_28 : decode cX6_rises 28 = .ok (.iaload, 1) := by decide +kernel
theorem dX6_rises_29 : decode cX6_rises 29 = .ok (.if_icmp .gt 23, 3) := by decide +kernel
theorem dX6_rises_32 : decode cX6_rises 32 = .ok (.aload_n 0, 1) := by decide +kernel
theorem dX6_rises_33 : decode cX6_rises 33 = .ok (.getfield 17, 3) := by decide +kernel
theorem dX6_rises_36 : decode cX6_rises 36 = .ok (.iload 5, 2) := by decide +kernel
theorem dX6_rises_38 : decode cX6_rises 38 = .ok (.iaload, 1) := by decide +kernel
theorem dX6_rises_39 : decode cX6_rises 39 = .ok (.aload_n 0, 1) := by decide +kernel
theorem dX6_rises_40 : decode cX6_rises 40 = .ok (.getfield 17, 3) := by decide +kernel
theorem dX6_rises_43 : decode cX6_rises 43 = .ok (.iload_n 3, 1) := by decide +kernel
theorem dX6_rises_44 : decode cX6_rises 44 = .ok (.iaload, 1) := by decide +kernel
theorem dX6_rises_45 : decode cX6_rises 45 = .ok (.if_icmp .le 7, 3) := by decide +kernel
theorem dX6_rises_48 : decode cX6_rises 48 = .ok (.iconst 1, 1) := by decide +kernel
theorem dX6_rises_49 : decode cX6_rises 49 = .ok (.goto 4, 3) := by decide +kernel
theorem dX6_rises_52 : decode cX6_rises 52 = .ok (.iconst 0, 1) := by decide +kernel
theorem dX6_rises_53 : decode cX6_rises 53 = .ok (.istore 6, 2) := by decide +kernel
theorem dX6_rises_55 : decode cX6_rises 55 = .ok (.aload_n 0, 1) := by decide +kernel
theorem dX6_rises_56 : decode cX6_rises 56 = .ok (.getfield 17, 3) := by decide +kernel
theorem dX6_rises_59 : decode cX6_rises 59 = .ok (.iload 5, 2) := by decide +kernel
theorem dX6_rises_61 : decode cX6_rises 61 = .ok (.iaload, 1) := by decide +kernel
theorem dX6_rises_62 : decode cX6_rises 62 = .ok (.aload_n 0, 1) := by decide +kernel
theorem dX6_rises_63 : decode cX6_rises 63 = .ok (.getfield 17, 3) := by decide +kernel
theorem dX6_rises_66 : decode cX6_rises 66 = .ok (.iload_n 3, 1) := by decide +kernel
theorem dX6_rises_67 : decode cX6_rises 67 = .ok (.iaload, 1) := by decide +kernel
theorem dX6_rises_68 : decode cX6_rises 68 = .ok (.if_icmp .gt 23, 3) := by decide +kernel
theorem dX6_rises_71 : decode cX6_rises 71 = .ok (.aload_n 0, 1) := by decide +kernel
theorem dX6_rises_72 : decode cX6_rises 72 = .ok (.getfield 17, 3) := by decide +kernel
theorem dX6_rises_75 : decode cX6_rises 75 = .ok (.iload 4, 2) := by decide +kernel
theorem dX6_rises_77 : decode cX6_rises 77 = .ok (.iaload, 1) := by decide +kernel
theorem dX6_rises_78 : decode cX6_rises 78 = .ok (.aload_n 0, 1) := by decide +kernel
theorem dX6_rises_79 : decode cX6_rises 79 = .ok (.getfield 17, 3) := by decide +kernel
theorem dX6_rises_82 : decode cX6_rises 82 = .ok (.iload_n 3, 1) := by decide +kernel
theorem dX6_rises_83 : decode cX6_rises 83 = .ok (.iaload, 1) := by decide +kernel
theorem dX6_rises_84 : decode cX6_rises 84 = .ok (.if_icmp .le 7, 3) := by decide +kernel
theorem dX6_rises_87 : decode cX6_rises 87 = .ok (.iconst 1, 1) := by decide +kernel
theorem dX6_rises_88 : decode cX6_rises 88 = .ok (.goto 4, 3) := by decide +kernel
theorem dX6_rises_91 : decode cX6_rises 91 = .ok (.iconst 0, 1) := by decide +kernel
theorem dX6_rises_92 : decode cX6_rises 92 = .ok (.istore 7, 2) := by decide +kernel
theorem dX6_rises_94 : decode cX6_rises 94 = .ok (.iload 6, 2) := by decide +kernel
theorem dX6_rises_96 : decode cX6_rises 96 = .ok (.ifCond .eq 20, 3) := by decide +kernel
theorem dX6_rises_99 : decode cX6_rises 99 = .ok (.aload_n 0, 1) := by decide +kernel
theorem dX6_rises_100 : decode cX6_rises 100 = .ok (.iload 4, 2) := by decide +kernel
theorem dX6_rises_102 : decode cX6_rises 102 = .ok (.iload 5, 2) := by decide +kernel
theorem dX6_rises_104 : decode cX6_rises 104 = .ok (.iload_n 3, 1) := by decide +kernel
theorem dX6_rises_105 : decode cX6_rises 105 = .ok (.invokevirtual 58, 3) := by decide +kernel
theorem dX6_rises_108 : decode cX6_rises 108 = .ok (.iconst 1, 1) := by decide +kernel
theorem dX6_rises_109 : decode cX6_rises 109 = .ok (.if_icmp .ne 7, 3) := by decide +kernel
theorem dX6_rises_112 : decode cX6_rises 112 = .ok (.iconst 1, 1) := by decide +kernel
theorem dX6_rises_113 : decode cX6_rises 113 = .ok (.goto 26, 3) := by decide +kernel
theorem dX6_rises_116 : decode cX6_rises 116 = .ok (.iload 7, 2) := by decide +kernel
theorem dX6_rises_118 : decode cX6_rises 118 = .ok (.ifCond .eq 20, 3) := by decide +kernel
theorem dX6_rises_121 : decode cX6_rises 121 = .ok (.aload_n 0, 1) := by decide +kernel
theorem dX6_rises_122 : decode cX6_rises 122 = .ok (.iload 4, 2) := by decide +kernel
theorem dX6_rises_124 : decode cX6_rises 124 = .ok (.iload 5, 2) := by decide +kernel
theorem dX6_rises_126 : decode cX6_rises 126 = .ok (.iload_n 3, 1) := by decide +kernel
theorem dX6_rises_127 : decode cX6_rises 127 = .ok (.invokevirtual 58, 3) := by decide +kernel
theorem dX6_rises_130 : decode cX6_rises 130 = .ok (.iconst (-1), 1) := by decide +kernel
theorem dX6_rises_131 : decode cX6_rises 131 = .ok (.if_icmp .ne 7, 3) := by decide +kernel
theorem dX6_rises_134 : decode cX6_rises 134 = .ok (.iconst (-1), 1) := by decide +kernel
theorem dX6_rises_135 : decode cX6_rises 135 = .ok (.goto 4, 3) := by decide +kernel
theorem dX6_rises_138 : decode cX6_rises 138 = .ok (.iconst 0, 1) := by decide +kernel
theorem dX6_rises_139 : decode cX6_rises 139 = .ok (.ireturn, 1) := by decide +kernel
theorem dX6_polygon_0 : decode cX6_polygon 0 = .ok (.aload_n 0, 1) := by decide +kernel
theorem dX6_polygon_1 : decode cX6_polygon 1 = .ok (.iconst 0, 1) := by decide +kernel
theorem dX6_polygon_2 : decode cX6_polygon 2 = .ok (.putfield 1, 3) := by decide +kernel
theorem dX6_polygon_5 : decode cX6_polygon 5 = .ok (.aload_n 0, 1) := by decide +kernel
theorem dX6_polygon_6 : decode cX6_polygon 6 = .ok (.iload_n 1, 1) := by decide +kernel
theorem dX6_polygon_7 : decode cX6_polygon 7 = .ok (.iconst 1, 1) := by decide +kernel
theorem dX6_polygon_8 : decode cX6_polygon 8 = .ok (.invokevirtual 139, 3) := by decide +kernel
theorem dX6_polygon_11 : decode cX6_polygon 11 = .ok (.ifCond .eq 11, 3) := by decide +kernel
theorem dX6_polygon_14 : decode cX6_polygon 14 = .ok (.aload_n 0, 1) := by decide +kernel
theorem dX6_polygon_15 : decode cX6_polygon 15 = .ok (.iload_n 2, 1) := by decide +kernel
theorem dX6_polygon_16 : decode cX6_polygon 16 = .ok (.invokevirtual 69, 3) := by decide +kernel
theorem dX6_polygon_19 : decode cX6_polygon 19 = .ok (.ifCond .ne 6, 3) := by decide +kernel
theorem dX6_polygon_22 : decode cX6_polygon 22 = .ok (.bipush (-2), 2) := by decide +kernel
theorem dX6_polygon_24 : decode cX6_polygon 24 = .ok (.ireturn, 1) := by decide +kernel
theorem dX6_polygon_25 : decode cX6_polygon 25 = .ok (.aload_n 0, 1) := by decide +kernel
theorem dX6_polygon_26 : decode cX6_polygon 26 = .ok (.iload_n 1, 1) := by decide +kernel
theorem dX6_polygon_27 : decode cX6_polygon 27 = .ok (.invokevirtual 142, 3) := by decide +kernel
theorem dX6_polygon_30 : decode cX6_polygon 30 = .ok (.ifCond .ne 6, 3) := by decide +kernel
theorem dX6_polygon_33 : decode cX6_polygon 33 = .ok (.bipush (-4), 2) := by decide +kernel
theorem dX6_polygon_35 : decode cX6_polygon 35 = .ok (.ireturn, 1) := by decide +kernel
theorem dX6_polygon_36 : decode cX6_polygon 36 = .ok (.aload_n 0, 1) := by decide +kernel
theorem dX6_polygon_37 : decode cX6_polygon 37 = .ok (.iload_n 1, 1) := by decide +kernel
theorem dX6_polygon_38 : decode cX6_polygon 38 = .ok (.iload_n 2, 1) := by decide +kernel
theorem dX6_polygon_39 : decode cX6_polygon 39 = .ok (.invokevirtual 149, 3) := by decide +kernel
theorem dX6_polygon_42 : decode cX6_polygon 42 = .ok (.ifCond .eq 5, 3) := by decide +kernel
theorem dX6_polygon_45 : decode cX6_polygon 45 = .ok (.iconst 2, 1) := by decide +kernel
theorem dX6_polygon_46 : decode cX6_polygon 46 = .ok (.ireturn, 1) := by decide +kernel
theorem dX6_polygon_47 : decode cX6_polygon 47 = .ok (.iconst 0, 1) := by decide +kernel
theorem dX6_polygon_48 : decode cX6_polygon 48 = .ok (.istore_n 3, 1) := by decide +kernel
theorem dX6_polygon_49 : decode cX6_polygon 49 = .ok (.iconst 0, 1) := by decide +kernel
theorem dX6_polygon_50 : decode cX6_polygon 50 = .ok (.istore 4, 2) := by decide +kernel
theorem dX6_polygon_52 : decode cX6_polygon 52 = .ok (.iload 4, 2) := by decide +kernel
theorem dX6_polygon_54 : decode cX6_polygon 54 = .ok (.iload_n 1, 1) := by decide +kernel
theorem dX6_polygon_55 : decode cX6_polygon 55 = .ok (.if_icmp .ge 28, 3) := by decide +kernel
theorem dX6_polygon_58 : decode cX6_polygon 58 = .ok (.iload_n 3, 1) := by decide +kernel
theorem dX6_polygon_59 : decode cX6_polygon 59 = .ok (.aload_n 0, 1) := by decide +kernel
theorem dX6_polygon_60 : decode cX6_polygon 60 = .ok (.iload 4, 2) := by decide +kernel
theorem dX6_polygon_62 : decode cX6_polygon 62 = .ok (.iload_n 1, 1) := by decide +kernel
theorem dX6_polygon_63 : decode cX6_polygon 63 = .ok (.iload_n 2, 1) := by decide +kernel
theorem dX6_polygon_64 : decode cX6_polygon 64 = .ok (.invokevirtual 152, 3) := by decide +kernel
theorem dX6_polygon_67 : decode cX6_polygon 67 = .ok (.ifCond .ne 7, 3) := by decide +kernel
theorem dX6_polygon_70 : decode cX6_polygon 70 = .ok (.iconst 0, 1) := by decide +kernel
theorem dX6_polygon_71 : decode cX6_polygon 71 = .ok (.goto 4, 3) := by decide +kernel
theorem dX6_polygon_74 : decode cX6_polygon 74 = .ok (.iconst 1, 1) := by decide +kernel
theorem dX6_polygon_75 : decode cX6_polygon 75 = .ok (.iadd, 1) := by decide +kernel
theorem dX6_polygon_76 : decode cX6_polygon 76 = .ok (.istore_n 3, 1) := by decide +kernel
theorem dX6_polygon_77 : decode cX6_polygon 77 = .ok (.iinc 4 1, 3) := by decide +kernel
theorem dX6_polygon_80 : decode cX6_polygon 80 = .ok (.goto (-28), 3) := by decide +kernel
theorem dX6_polygon_83 : decode cX6_polygon 83 = .ok (.iload_n 3, 1) := by decide +kernel
theorem dX6_polygon_84 : decode cX6_polygon 84 = .ok (.iconst 2, 1) := by decide +kernel
theorem dX6_polygon_85 : decode cX6_polygon 85 = .ok (.irem, 1) := by decide +kernel
theorem dX6_polygon_86 : decode cX6_polygon 86 = .ok (.ireturn, 1) := by decide +kernel
theorem dX6_winding_0 : decode cX6_winding 0 = .ok (.aload_n 0, 1) := by decide +kernel
theorem dX6_winding_1 : decode cX6_winding 1 = .ok (.iconst 0, 1) := by decide +kernel
theorem dX6_winding_2 : decode cX6_winding 2 = .ok (.putfield 1, 3) := by decide +kernel
theorem dX6_winding_5 : decode cX6_winding 5 = .ok (.aload_n 0, 1) := by decide +kernel
theorem dX6_winding_6 : decode cX6_winding 6 = .ok (.iload_n 1, 1) := by decide +kernel
theorem dX6_winding_7 : decode cX6_winding 7 = .ok (.iconst 1, 1) := by decide +kernel
theorem dX6_winding_8 : decode cX6_winding 8 = .ok (.invokevirtual 139, 3) := by decide +kernel
theorem dX6_winding_11 : decode cX6_winding 11 = .ok (.ifCond .eq 19, 3) := by decide +kernel
theorem dX6_winding_14 : decode cX6_winding 14 = .ok (.aload_n 0, 1) := by decide +kernel
theorem dX6_winding_15 : decode cX6_winding 15 = .ok (.iload_n 2, 1) := by decide +kernel
theorem dX6_winding_16 : decode cX6_winding 16 = .ok (.invokevirtual 69, 3) := by decide +kernel
theorem dX6_winding_19 : decode cX6_winding 19 = .ok (.ifCond .eq 11, 3) := by decide +kernel
theorem dX6_winding_22 : decode cX6_winding 22 = .ok (.aload_n 0, 1) := by decide +kernel
theorem dX6_winding_23 : decode cX6_winding 23 = .ok (.iload_n 1, 1) := by decide +kernel
theorem dX6_winding_24 : decode cX6_winding 24 = .ok (.invokevirtual 142, 3) := by decide +kernel
theorem dX6_winding_27 : decode cX6_winding 27 = .ok (.ifCond .ne 6, 3) := by decide +kernel
theorem dX6_winding_30 : decode cX6_winding 30 = .ok (.bipush (-100), 2) := by decide +kernel
theorem dX6_winding_32 : decode cX6_winding 32 = .ok (.ireturn, 1) := by decide +kernel
theorem dX6_winding_33 : decode cX6_winding 33 = .ok (.aload_n 0, 1) := by decide +kernel
theorem dX6_winding_34 : decode cX6_winding 34 = .ok (.iload_n 1, 1) := by decide +kernel
theorem dX6_winding_35 : decode cX6_winding 35 = .ok (.iload_n 2, 1) := by decide +kernel
theorem dX6_winding_36 : decode cX6_winding 36 = .ok (.invokevirtual 149, 3) := by decide +kernel
theorem dX6_winding_39 : decode cX6_winding 39 = .ok (.ifCond .eq 6, 3) := by decide +kernel
theorem dX6_winding_42 : decode cX6_winding 42 = .ok (.bipush 100, 2) := by decide +kernel
theorem dX6_winding_44 : decode cX6_winding 44 = .ok (.ireturn, 1) := by decide +kernel
theorem dX6_winding_45 : decode cX6_winding 45 = .ok (.iconst 0, 1) := by decide +kernel
theorem dX6_winding_46 : decode cX6_winding 46 = .ok (.istore_n 3, 1) := by decide +kernel
theorem dX6_winding_47 : decode cX6_winding 47 = .ok (.iconst 0, 1) := by decide +kernel
theorem dX6_winding_48 : decode cX6_winding 48 = .ok (.istore 4, 2) := by decide +kernel
theorem dX6_winding_50 : decode cX6_winding 50 = .ok (.iload 4, 2) := by decide +kernel
theorem dX6_winding_52 : decode cX6_winding 52 = .ok (.iload_n 1, 1) := by decide +kernel
theorem dX6_winding_53 : decode cX6_winding 53 = .ok (.if_icmp .ge 20, 3) := by decide +kernel
theorem dX6_winding_56 : decode cX6_winding 56 = .ok (.iload_n 3, 1) := by decide +kernel
theorem dX6_winding_57 : decode cX6_winding 57 = .ok (.aload_n 0, 1) := by decide +kernel
theorem dX6_winding_58 : decode cX6_winding 58 = .ok (.iload 4, 2) := by decide +kernel
theorem dX6_winding_60 : decode cX6_winding 60 = .ok (.iload_n 1, 1) := by decide +kernel
theorem dX6_winding_61 : decode cX6_winding 61 = .ok (.iload_n 2, 1) := by decide +kernel
theorem dX6_winding_62 : decode cX6_winding 62 = .ok (.invokevirtual 152, 3) := by decide +kernel
theorem dX6_winding_65 : decode cX6_winding 65 = .ok (.iadd, 1) := by decide +kernel
theorem dX6_winding_66 : decode cX6_winding 66 = .ok (.istore_n 3, 1) := by decide +kernel
theorem dX6_winding_67 : decode cX6_winding 67 = .ok (.iinc 4 1, 3) := by decide +kernel
theorem dX6_winding_70 : decode cX6_winding 70 = .ok (.goto (-20), 3) := by decide +kernel
theorem dX6_winding_73 : decode cX6_winding 73 = .ok (.iload_n 3, 1) := by decide +kernel
theorem dX6_winding_74 : decode cX6_winding 74 = .ok (.ireturn, 1) := by decide +kernel
theorem dX6_far_0 : decode cX6_far 0 = .ok (.aload_n 0, 1) := by decide +kernel
theorem dX6_far_1 : decode cX6_far 1 = .ok (.iload_n 1, 1) := by decide +kernel
theorem dX6_far_2 : decode cX6_far 2 = .ok (.iload_n 2, 1) := by decide +kernel
theorem dX6_far_3 : decode cX6_far 3 = .ok (.iload_n 2, 1) := by decide +kernel
theorem dX6_far_4 : decode cX6_far 4 = .ok (.invokevirtual 127, 3) := by decide +kernel
theorem dX6_far_7 : decode cX6_far 7 = .ok (.lreturn, 1) := by decide +kernel
theorem dX6_nearest_0 : decode cX6_nearest 0 = .ok (.aload_n 0, 1) := by decide +kernel
theorem dX6_nearest_1 : decode cX6_nearest 1 = .ok (.iconst 0, 1) := by decide +kernel
theorem dX6_nearest_2 : decode cX6_nearest 2 = .ok (.putfield 1, 3) := by decide +kernel
theorem dX6_nearest_5 : decode cX6_nearest 5 = .ok (.aload_n 0, 1) := by decide +kernel
theorem dX6_nearest_6 : decode cX6_nearest 6 = .ok (.iload_n 1, 1) := by decide +kernel
theorem dX6_nearest_7 : decode cX6_nearest 7 = .ok (.invokevirtual 69, 3) := by decide +kernel
theorem dX6_nearest_10 : decode cX6_nearest 10 = .ok (.ifCond .eq 12, 3) := by decide +kernel
theorem dX6_nearest_13 : decode cX6_nearest 13 = .ok (.aload_n 0, 1) := by decide +kernel
theorem dX6_nearest_14 : decode cX6_nearest 14 = .ok (.iload_n 2, 1) := by decide +kernel
theorem dX6_nearest_15 : decode cX6_nearest 15 = .ok (.iconst 1, 1) := by decide +kernel
theorem dX6_nearest_16 : decode cX6_nearest 16 = .ok (.invokevirtual 139, 3) := by decide +kernel
theorem dX6_nearest_19 : decode cX6_nearest 19 = .ok (.ifCond .ne 6, 3) := by decide +kernel
theorem dX6_nearest_22 : decode cX6_nearest 22 = .ok (.bipush (-2), 2) := by decide +kernel
theorem dX6_nearest_24 : decode cX6_nearest 24 = .ok (.ireturn, 1) := by decide +kernel
theorem dX6_nearest_25 : decode cX6_nearest 25 = .ok (.aload_n 0, 1) := by decide +kernel
theorem dX6_nearest_26 : decode cX6_nearest 26 = .ok (.iload_n 2, 1) := by decide +kernel
theorem dX6_nearest_27 : decode cX6_nearest 27 = .ok (.invokevirtual 142, 3) := by decide +kernel
theorem dX6_nearest_30 : decode cX6_nearest 30 = .ok (.ifCond .ne 6, 3) := by decide +kernel
theorem dX6_nearest_33 : decode cX6_nearest 33 = .ok (.bipush (-4), 2) := by decide +kernel
theorem dX6_nearest_35 : decode cX6_nearest 35 = .ok (.ireturn, 1) := by decide +kernel
theorem dX6_nearest_36 : decode cX6_nearest 36 = .ok (.iconst 0, 1) := by decide +kernel
theorem dX6_nearest_37 : decode cX6_nearest 37 = .ok (.istore_n 3, 1) := by decide +kernel
theorem dX6_nearest_38 : decode cX6_nearest 38 = .ok (.aload_n 0, 1) := by decide +kernel
theorem dX6_nearest_39 : decode cX6_nearest 39 = .ok (.iload_n 1, 1) := by decide +kernel
theorem dX6_nearest_40 : decode cX6_nearest 40 = .ok (.aload_n 0, 1) := by decide +kernel
theorem dX6_nearest_41 : decode cX6_nearest 41 = .ok (.getfield 20, 3) := by decide +kernel
theorem dX6_nearest_44 : decode cX6_nearest 44 = .ok (.iconst 0, 1) := by decide +kernel
theorem dX6_nearest_45 : decode cX6_nearest 45 = .ok (.iaload, 1) := by decide +kernel
theorem dX6_nearest_46 : decode cX6_nearest 46 = .ok (.invokevirtual 155, 3) := by decide +kernel
theorem dX6_nearest_49 : decode cX6_nearest 49 = .ok (.lstore 4, 2) := by decide +kernel
theorem dX6_nearest_51 : decode cX6_nearest 51 = .ok (.iconst 0, 1) := by decide +kernel
theorem dX6_nearest_52 : decode cX6_nearest 52 = .ok (.istore 6, 2) := by decide +kernel
theorem dX6_nearest_54 : decode cX6_nearest 54 = .ok (.iload 6, 2) := by decide +kernel
theorem dX6_nearest_56 : decode cX6_nearest 56 = .ok (.iload_n 2, 1) := by decide +kernel
theorem dX6_nearest_57 : decode cX6_nearest 57 = .ok (.if_icmp .ge 74, 3) := by decide +kernel
theorem dX6_nearest_60 : decode cX6_nearest 60 = .ok (.aload_n 0, 1) := by decide +kernel
theorem dX6_nearest_61 : decode cX6_nearest 61 = .ok (.iload_n 1, 1) := by decide +kernel
theorem dX6_nearest_62 : decode cX6_nearest 62 = .ok (.aload_n 0, 1) := by decide +kernel
theorem dX6_nearest_63 : decode cX6_nearest 63 = .ok (.getfield 20, 3) := by decide +kernel
theorem dX6_nearest_66 : decode cX6_nearest 66 = .ok (.iload 6, 2) := by decide +kernel
theorem dX6_nearest_68 : decode cX6_nearest 68 = .ok (.iaload, 1) := by decide +kernel
theorem dX6_nearest_69 : decode cX6_nearest 69 = .ok (.invokevirtual 155, 3) := by decide +kernel
theorem dX6_nearest_72 : decode cX6_nearest 72 = .ok (.lstore 7, 2) := by decide +kernel
theorem dX6_nearest_74 : decode cX6_nearest 74 = .ok (.lload 7, 2) := by decide +kernel
theorem dX6_nearest_76 : decode cX6_nearest 76 = .ok (.lload 4, 2) := by decide +kernel
theorem dX6_nearest_78 : decode cX6_nearest 78 = .ok (.lcmp, 1) := by decide +kernel
theorem dX6_nearest_79 : decode cX6_nearest 79 = .ok (.ifCond .ge 10, 3) := by decide +kernel
theorem dX6_nearest_82 : decode cX6_nearest 82 = .ok (.iconst 1, 1) := by decide +kernel
theorem dX6_nearest_83 : decode cX6_nearest 83 = .ok (.iload 6, 2) := by decide +kernel
theorem dX6_nearest_85 : decode cX6_nearest 85 = .ok (.ishl, 1) := by decide +kernel
theorem dX6_nearest_86 : decode cX6_nearest 86 = .ok (.goto 21, 3) := by decide +kernel
theorem dX6_nearest_89 : decode cX6_nearest 89 = .ok (.lload 7, 2) := by decide +kernel
theorem dX6_nearest_91 : decode cX6_nearest 91 = .ok (.lload 4, 2) := by decide +kernel
theorem dX6_nearest_93 : decode cX6_nearest 93 = .ok (.lcmp, 1) := by decide +kernel
theorem dX6_nearest_94 : decode cX6_nearest 94 = .ok (.ifCond .ne 12, 3) := by decide +kernel
theorem dX6_nearest_97 : decode cX6_nearest 97 = .ok (.iload_n 3, 1) := by decide +kernel
theorem dX6_nearest_98 : decode cX6_nearest 98 = .ok (.iconst 1, 1) := by decide +kernel
theorem dX6_nearest_99 : decode cX6_nearest 99 = .ok (.iload 6, 2) := by decide +kernel
theorem dX6_nearest_101 : decode cX6_nearest 101 = .ok (.ishl, 1) := by decide +kernel
theorem dX6_nearest_102 : decode cX6_nearest 102 = .ok (.ior, 1) := by decide +kernel
theorem dX6_nearest_103 : decode cX6_nearest 103 = .ok (.goto 4, 3) := by decide +kernel
theorem dX6_nearest_106 : decode cX6_nearest 106 = .ok (.iload_n 3, 1) := by decide +kernel
theorem dX6_nearest_107 : decode cX6_nearest 107 = .ok (.istore_n 3, 1) := by decide +kernel
theorem dX6_nearest_108 : decode cX6_nearest 108 = .ok (.lload 7, 2) := by decide +kernel
theorem dX6_nearest_110 : decode cX6_nearest 110 = .ok (.lload 4, 2) := by decide +kernel
theorem dX6_nearest_112 : decode cX6_nearest 112 = .ok (.lcmp, 1) := by decide +kernel
theorem dX6_nearest_113 : decode cX6_nearest 113 = .ok (.ifCond .ge 8, 3) := by decide +kernel
theorem dX6_nearest_116 : decode cX6_nearest 116 = .ok (.lload 7, 2) := by decide +kernel
theorem dX6_nearest_118 : decode cX6_nearest 118 = .ok (.goto 5, 3) := by decide +kernel
theorem dX6_nearest_121 : decode cX6_nearest 121 = .ok (.lload 4, 2) := by decide +kernel
theorem dX6_nearest_123 : decode cX6_nearest 123 = .ok (.lstore 4, 2) := by decide +kernel
theorem dX6_nearest_125 : decode cX6_nearest 125 = .ok (.iinc 6 1, 3) := by decide +kernel
theorem dX6_nearest_128 : decode cX6_nearest 128 = .ok (.goto (-74), 3) := by decide +kernel
theorem dX6_nearest_131 : decode cX6_nearest 131 = .ok (.iload_n 3, 1) := by decide +kernel
theorem dX6_nearest_132 : decode cX6_nearest 132 = .ok (.ireturn, 1) := by decide +kernel
theorem dX6_half_0 : decode cX6_half 0 = .ok (.aload_n 0, 1) := by decide +kernel
theorem dX6_half_1 : decode cX6_half 1 = .ok (.getfield 17, 3) := by decide +kernel
theorem dX6_half_4 : decode cX6_half 4 = .ok (.iload_n 2, 1) := by decide +kernel
theorem dX6_half_5 : decode cX6_half 5 = .ok (.iaload, 1) := by decide +kernel
theorem dX6_half_6 : decode cX6_half 6 = .ok (.aload_n 0, 1) := by decide +kernel
theorem dX6_half_7 : decode cX6_half 7 = .ok (.getfield 17, 3) := by decide +kernel
theorem dX6_half_10 : decode cX6_half 10 = .ok (.iload_n 1, 1) := by decide +kernel
theorem dX6_half_11 : decode cX6_half 11 = .ok (.iaload, 1) := by decide +kernel
theorem dX6_half_12 : decode cX6_half 12 = .ok (.if_icmp .gt 33, 3) := by decide +kernel
theorem dX6_half_15 : decode cX6_half 15 = .ok (.aload_n 0, 1) := by decide +kernel
theorem dX6_half_16 : decode cX6_half 16 = .ok (.getfield 17, 3) := by decide +kernel
theorem dX6_half_19 : decode cX6_half 19 = .ok (.iload_n 2, 1) := by decide +kernel
theorem dX6_half_20 : decode cX6_half 20 = .ok (.iaload, 1) := by decide +kernel
theorem dX6_half_21 : decode cX6_half 21 = .ok (.aload_n 0, 1) := by decide +kernel
theorem dX6_half_22 : decode cX6_half 22 = .ok (.getfield 17, 3) := by decide +kernel
theorem dX6_half_25 : decode cX6_half 25 = .ok (.iload_n 1, 1) := by decide +kernel
theorem dX6_half_26 : decode cX6_half 26 = .ok (.iaload, 1) := by decide +kernel
theorem dX6_half_27 : decode cX6_half 27 = .ok (.if_icmp .ne 22, 3) := by decide +kernel
theorem dX6_half_30 : decode cX6_half 30 = .ok (.aload_n 0, 1) := by decide +kernel
theorem dX6_half_31 : decode cX6_half 31 = .ok (.getfield 13, 3) := by decide +kernel
theorem dX6_half_34 : decode cX6_half 34 = .ok (.iload_n 2, 1) := by decide +kernel
theorem dX6_half_35 : decode cX6_half 35 = .ok (.iaload, 1) := by decide +kernel
theorem dX6_half_36 : decode cX6_half 36 = .ok (.aload_n 0, 1) := by decide +kernel
theorem dX6_half_37 : decode cX6_half 37 = .ok (.getfield 13, 3) := by decide +kernel
theorem dX6_half_40 : decode cX6_half 40 = .ok (.iload_n 1, 1) := by decide +kernel
theorem dX6_half_41 : decode cX6_half 41 = .ok (.iaload, 1) := by decide +kernel
theorem dX6_half_42 : decode cX6_half 42 = .ok (.if_icmp .le 7, 3) := by decide +kernel
theorem dX6_half_45 : decode cX6_half 45 = .ok (.iconst 0, 1) := by decide +kernel
theorem dX6_half_46 : decode cX6_half 46 = .ok (.goto 4, 3) := by decide +kernel
theorem dX6_half_49 : decode cX6_half 49 = .ok (.iconst 1, 1) := by decide +kernel
theorem dX6_half_50 : decode cX6_half 50 = .ok (.ireturn, 1) := by decide +kernel
theorem dX6_isAhead_0 : decode cX6_isAhead 0 = .ok (.aload_n 0, 1) := by decide +kernel
theorem dX6_isAhead_1 : decode cX6_isAhead 1 = .ok (.getfield 20, 3) := by decide +kernel
theorem dX6_isAhead_4 : decode cX6_isAhead 4 = .ok (.iload_n 2, 1) := by decide +kernel
theorem dX6_isAhead_5 : decode cX6_isAhead 5 = .ok (.iaload, 1) := by decide +kernel
theorem dX6_isAhead_6 : decode cX6_isAhead 6 = .ok (.istore 4, 2) := by decide +kernel
theorem dX6_isAhead_8 : decode cX6_isAhead 8 = .ok (.aload_n 0, 1) := by decide +kernel
theorem dX6_isAhead_9 : decode cX6_isAhead 9 = .ok (.getfield 20, 3) := by decide +kernel
theorem dX6_isAhead_12 : decode cX6_isAhead 12 = .ok (.iload_n 3, 1) := by decide +kernel
theorem dX6_isAhead_13 : decode cX6_isAhead 13 = .ok (.iaload, 1) := by decide +kernel
theorem dX6_isAhead_14 : decode cX6_isAhead 14 = .ok (.istore 5, 2) := by decide +kernel
theorem dX6_isAhead_16 : decode cX6_isAhead 16 = .ok (.aload_n 0, 1) := by decide +kernel
theorem dX6_isAhead_17 : decode cX6_isAhead 17 = .ok (.iload_n 1, 1) := by decide +kernel
theorem dX6_isAhead_18 : decode cX6_isAhead 18 = .ok (.iload 4, 2) := by decide +kernel
theorem dX6_isAhead_20 : decode cX6_isAhead 20 = .ok (.invokevirtual 107, 3) := by decide +kernel
theorem dX6_isAhead_23 : decode cX6_isAhead 23 = .ok (.istore 6, 2) := by decide +kernel
theorem dX6_isAhead_25 : decode cX6_isAhead 25 = .ok (.aload_n 0, 1) := by decide +kernel
theorem dX6_isAhead_26 : decode cX6_isAhead 26 = .ok (.iload_n 1, 1) := by decide +kernel
theorem dX6_isAhead_27 : decode cX6_isAhead 27 = .ok (.iload 5, 2) := by decide +kernel
theorem dX6_isAhead_29 : decode cX6_isAhead 29 = .ok (.invokevirtual 107, 3) := by decide +kernel
theorem dX6_isAhead_32 : decode cX6_isAhead 32 = .ok (.istore 7, 2) := by decide +kernel
theorem dX6_isAhead_34 : decode cX6_isAhead 34 = .ok (.iload 6, 2) := by decide +kernel
theorem dX6_isAhead_36 : decode cX6_isAhead 36 = .ok (.ifCond .ne 8, 3) := by decide +kernel
theorem dX6_isAhead_39 : decode cX6_isAhead 39 = .ok (.iload 7, 2) := by decide +kernel
theorem dX6_isAhead_41 : decode cX6_isAhead 41 = .ok (.ifCond .eq 24, 3) := by decide +kernel
theorem dX6_isAhead_44 : decode cX6_isAhead 44 = .ok (.iload 6, 2) := by decide +kernel
theorem dX6_isAhead_46 : decode cX6_isAhead 46 = .ok (.ifCond .eq 17, 3) := by decide +kernel
theorem dX6_isAhead_49 : decode cX6_isAhead 49 = .ok (.iload 7, 2) := by decide +kernel
theorem dX6_isAhead_51 : decode cX6_isAhead 51 = .ok (.ifCond .eq 8, 3) := by decide +kernel
theorem dX6_isAhead_54 : decode cX6_isAhead 54 = .ok (.iload_n 2, 1) := by decide +kernel
theorem dX6_isAhead_55 : decode cX6_isAhead 55 = .ok (.iload_n 3, 1) := by decide +kernel
theorem dX6_isAhead_56 : decode cX6_isAhead 56 = .ok (.if_icmp .ge 7, 3) := by decide +kernel
theorem dX6_isAhead_59 : decode cX6_isAhead 59 = .ok (.iconst 1, 1) := by decide +kernel
theorem dX6_isAhead_60 : decode cX6_isAhead 60 = .ok (.goto 4, 3) := by decide +kernel
theorem dX6_isAhead_63 : decode cX6_isAhead 63 = .ok (.iconst 0, 1) := by decide +kernel
theorem dX6_isAhead_64 : decode cX6_isAhead 64 = .ok (.ireturn, 1) := by decide +kernel
theorem dX6_isAhead_65 : decode cX6_isAhead 65 = .ok (.aload_n 0, 1) := by decide +kernel
theorem dX6_isAhead_66 : decode cX6_isAhead 66 = .ok (.iload_n 1, 1) := by decide +kernel
theorem dX6_isAhead_67 : decode cX6_isAhead 67 = .ok (.iload 4, 2) := by decide +kernel
theorem dX6_isAhead_69 : decode cX6_isAhead 69 = .ok (.invokevirtual 159, 3) := by decide +kernel
theorem dX6_isAhead_72 : decode cX6_isAhead 72 = .ok (.aload_n 0, 1) := by decide +kernel
theorem dX6_isAhead_73 : decode cX6_isAhead 73 = .ok (.iload_n 1, 1) := by decide +kernel
theorem dX6_isAhead_74 : decode cX6_isAhead 74 = .ok (.iload 5, 2) := by decide +kernel
theorem dX6_isAhead_76 : decode cX6_isAhead 76 = .ok (.invokevirtual 159, 3) := by decide +kernel
theorem dX6_isAhead_79 : decode cX6_isAhead 79 = .ok (.if_icmp .eq 26, 3) := by decide +kernel
theorem dX6_isAhead_82 : decode cX6_isAhead 82 = .ok (.aload_n 0, 1) := by decide +kernel
theorem dX6_isAhead_83 : decode cX6_isAhead 83 = .ok (.iload_n 1, 1) := by decide +kernel
theorem dX6_isAhead_84 : decode cX6_isAhead 84 = .ok (.iload 4, 2) := by decide +kernel
theorem dX6_isAhead_86 : decode cX6_isAhead 86 = .ok (.invokevirtual 159, 3) := by decide +kernel
theorem dX6_isAhead_89 : decode cX6_isAhead 89 = .ok (.aload_n 0, 1) := by decide +kernel
theorem dX6_isAhead_90 : decode cX6_isAhead 90 = .ok (.iload_n 1, 1) := by decide +kernel
theorem dX6_isAhead_91 : decode cX6_isAhead 91 = .ok (.iload 5, 2) := by decide +kernel
theorem dX6_isAhead_93 : decode cX6_isAhead 93 = .ok (.invokevirtual 159, 3) := by decide +kernel
theorem dX6_isAhead_96 : decode cX6_isAhead 96 = .ok (.if_icmp .ge 7, 3) := by decide +kernel
theorem dX6_isAhead_99 : decode cX6_isAhead 99 = .ok (.iconst 1, 1) := by decide +kernel
theorem dX6_isAhead_100 : decode cX6_isAhead 100 = .ok (.goto 4, 3) := by decide +kernel
theorem dX6_isAhead_103 : decode cX6_isAhead 103 = .ok (.iconst 0, 1) := by decide +kernel
theorem dX6_isAhead_104 : decode cX6_isAhead 104 = .ok (.ireturn, 1) := by decide +kernel
theorem dX6_isAhead_105 : decode cX6_isAhead 105 = .ok (.aload_n 0, 1) := by decide +kernel
theorem dX6_isAhead_106 : decode cX6_isAhead 106 = .ok (.iload_n 1, 1) := by decide +kernel
theorem dX6_isAhead_107 : decode cX6_isAhead 107 = .ok (.iload 4, 2) := by decide +kernel
theorem dX6_isAhead_109 : decode cX6_isAhead 109 = .ok (.iload 5, 2) := by decide +kernel
theorem dX6_isAhead_111 : decode cX6_isAhead 111 = .ok (.invokevirtual 58, 3) := by decide +kernel
theorem dX6_isAhead_114 : decode cX6_isAhead 114 = .ok (.istore 8, 2) := by decide +kernel
theorem dX6_isAhead_116 : decode cX6_isAhead 116 = .ok (.iload 8, 2) := by decide +kernel
theorem dX6_isAhead_118 : decode cX6_isAhead 118 = .ok (.ifCond .eq 14, 3) := by decide +kernel
theorem dX6_isAhead_121 : decode cX6_isAhead 121 = .ok (.iload 8, 2) := by decide +kernel
theorem dX6_isAhead_123 : decode cX6_isAhead 123 = .ok (.ifCond .le 7, 3) := by decide +kernel
theorem dX6_isAhead_126 : decode cX6_isAhead 126 = .ok (.iconst 1, 1) := by decide +kernel
theorem dX6_isAhead_127 : decode cX6_isAhead 127 = .ok (.goto 4, 3) := by decide +kernel
theorem dX6_isAhead_130 : decode cX6_isAhead 130 = .ok (.iconst 0, 1) := by decide +kernel
theorem dX6_isAhead_131 : decode cX6_isAhead 131 = .ok (.ireturn, 1) := by decide +kernel
theorem dX6_isAhead_132 : decode cX6_isAhead 132 = .ok (.aload_n 0, 1) := by decide +kernel
theorem dX6_isAhead_133 : decode cX6_isAhead 133 = .ok (.iload_n 1, 1) := by decide +kernel
theorem dX6_isAhead_134 : decode cX6_isAhead 134 = .ok (.iload 4, 2) := by decide +kernel
theorem dX6_isAhead_136 : decode cX6_isAhead 136 = .ok (.invokevirtual 155, 3) := by decide +kernel
theorem dX6_isAhead_139 : decode cX6_isAhead 139 = .ok (.aload_n 0, 1) := by decide +kernel
theorem dX6_isAhead_140 : decode cX6_isAhead 140 = .ok (.iload_n 1, 1) := by decide +kernel
theorem dX6_isAhead_141 : decode cX6_isAhead 141 = .ok (.iload 5, 2) := by decide +kernel
theorem dX6_isAhead_143 : decode cX6_isAhead 143 = .ok (.invokevirtual 155, 3) := by decide +kernel
theorem dX6_isAhead_146 : decode cX6_isAhead 146 = .ok (.lcmp, 1) := by decide +kernel
theorem dX6_isAhead_147 : decode cX6_isAhead 147 = .ok (.ifCond .eq 29, 3) := by decide +kernel
theorem dX6_isAhead_150 : decode cX6_isAhead 150 = .ok (.aload_n 0, 1) := by decide +kernel
theorem dX6_isAhead_151 : decode cX6_isAhead 151 = .ok (.iload_n 1, 1) := by decide +kernel
theorem dX6_isAhead_152 : decode cX6_isAhead 152 = .ok (.iload 4, 2) := by decide +kernel
theorem dX6_isAhead_154 : decode cX6_isAhead 154 = .ok (.invokevirtual 155, 3) := by decide +kernel
theorem dX6_isAhead_157 : decode cX6_isAhead 157 = .ok (.aload_n 0, 1) := by decide +kernel
theorem dX6_isAhead_158 : decode cX6_isAhead 158 = .ok (.iload_n 1, 1) := by decide +kernel
theorem dX6_isAhead_159 : decode cX6_isAhead 159 = .ok (.iload 5, 2) := by decide +kernel
theorem dX6_isAhead_161 : decode cX6_isAhead 161 = .ok (.invokevirtual 155, 3) := by decide +kernel
theorem dX6_isAhead_164 : decode cX6_isAhead 164 = .ok (.lcmp, 1) := by decide +kernel
theorem dX6_isAhead_165 : decode cX6_isAhead 165 = .ok (.ifCond .ge 7, 3) := by decide +kernel
theorem dX6_isAhead_168 : decode cX6_isAhead 168 = .ok (.iconst 1, 1) := by decide +kernel
theorem dX6_isAhead_169 : decode cX6_isAhead 169 = .ok (.goto 17, 3) := by decide +kernel
theorem dX6_isAhead_172 : decode cX6_isAhead 172 = .ok (.iconst 0, 1) := by decide +kernel
theorem dX6_isAhead_173 : decode cX6_isAhead 173 = .ok (.goto 13, 3) := by decide +kernel
theorem dX6_isAhead_176 : decode cX6_isAhead 176 = .ok (.iload_n 2, 1) := by decide +kernel
theorem dX6_isAhead_177 : decode cX6_isAhead 177 = .ok (.iload_n 3, 1) := by decide +kernel
theorem dX6_isAhead_178 : decode cX6_isAhead 178 = .ok (.if_icmp .ge 7, 3) := by decide +kernel
theorem dX6_isAhead_181 : decode cX6_isAhead 181 = .ok (.iconst 1, 1) := by decide +kernel
theorem dX6_isAhead_182 : decode cX6_isAhead 182 = .ok (.goto 4, 3) := by decide +kernel
theorem dX6_isAhead_185 : decode cX6_isAhead 185 = .ok (.iconst 0, 1) := by decide +kernel
theorem dX6_isAhead_186 : decode cX6_isAhead 186 = .ok (.ireturn, 1) := by decide +kernel
theorem dX6_around_0 : decode cX6_around 0 = .ok (.aload_n 0, 1) := by decide +kernel
theorem dX6_around_1 : decode cX6_around 1 = .ok (.iconst 0, 1) := by decide +kernel
theorem dX6_around_2 : decode cX6_around 2 = .ok (.putfield 1, 3) := by decide +kernel
theorem dX6_around_5 : decode cX6_around 5 = .ok (.aload_n 0, 1) := by decide +kernel
theorem dX6_around_6 : decode cX6_around 6 = .ok (.iload_n 1, 1) := by decide +kernel
theorem dX6_around_7 : decode cX6_around 7 = .ok (.invokevirtual 69, 3) := by decide +kernel
theorem dX6_around_10 : decode cX6_around 10 = .ok (.ifCond .eq 21, 3) := by decide +kernel
theorem dX6_around_13 : decode cX6_around 13 = .ok (.aload_n 0, 1) := by decide +kernel
theorem dX6_around_14 : decode cX6_around 14 = .ok (.iload_n 2, 1) := by decide +kernel
theorem dX6_around_15 : decode cX6_around 15 = .ok (.iconst 1, 1) := by decide +kernel
theorem dX6_around_16 : decode cX6_around 16 = .ok (.invokevirtual 139, 3) := by decide +kernel
theorem dX6_around_19 : decode cX6_around 19 = .ok (.ifCond .eq 12, 3) := by decide +kernel
theorem dX6_around_22 : decode cX6_around 22 = .ok (.iload_n 3, 1) := by decide +kernel
theorem dX6_around_23 : decode cX6_around 23 = .ok (.ifCond .lt 8, 3) := by decide +kernel
theorem dX6_around_26 : decode cX6_around 26 = .ok (.iload_n 3, 1) := by decide +kernel
theorem dX6_around_27 : decode cX6_around 27 = .ok (.iload_n 2, 1) := by decide +kernel
theorem dX6_around_28 : decode cX6_around 28 = .ok (.if_icmp .lt 6, 3) := by decide +kernel
theorem dX6_around_31 : decode cX6_around 31 = .ok (.bipush (-2), 2) := by decide +kernel
theorem dX6_around_33 : decode cX6_around 33 = .ok (.ireturn, 1) := by decide +kernel
theorem dX6_around_34 : decode cX6_around 34 = .ok (.aload_n 0, 1) := by decide +kernel
theorem dX6_around_35 : decode cX6_around 35 = .ok (.iload_n 2, 1) := by decide +kernel
theorem dX6_around_36 : decode cX6_around 36 = .ok (.invokevirtual 142, 3) := by decide +kernel
theorem dX6_around_39 : decode cX6_around 39 = .ok (.ifCond .ne 6, 3) := by decide +kernel
theorem dX6_around_42 : decode cX6_around 42 = .ok (.bipush (-4), 2) := by decide +kernel
theorem dX6_around_44 : decode cX6_around 44 = .ok (.ireturn, 1) := by decide +kernel
theorem dX6_around_45 : decode cX6_around 45 = .ok (.iconst (-1), 1) := by decide +kernel
theorem dX6_around_46 : decode cX6_around 46 = .ok (.istore 4, 2) := by decide +kernel
theorem dX6_around_48 : decode cX6_around 48 = .ok (.iconst 0, 1) := by decide +kernel
theorem dX6_around_49 : decode cX6_around 49 = .ok (.istore 5, 2) := by decide +kernel
theorem dX6_around_51 : decode cX6_around 51 = .ok (.iload 5, 2) := by decide +kernel
theorem dX6_around_53 : decode cX6_around 53 = .ok (.iload_n 2, 1) := by decide +kernel
theorem dX6_around_54 : decode cX6_around 54 = .ok (.if_icmp .ge 71, 3) := by decide +kernel
theorem dX6_around_57 : decode cX6_around 57 = .ok (.iconst 0, 1) := by decide +kernel
theorem dX6_around_58 : decode cX6_around 58 = .ok (.istore 6, 2) := by decide +kernel
theorem dX6_around_60 : decode cX6_around 60 = .ok (.iconst 0, 1) := by decide +kernel
theorem dX6_around_61 : decode cX6_around 61 = .ok (.istore 7, 2) := by decide +kernel
theorem dX6_around_63 : decode cX6_around 63 = .ok (.iload 7, 2) := by decide +kernel
theorem dX6_around_65 : decode cX6_around 65 = .ok (.iload_n 2, 1) := by decide +kernel
theorem dX6_around_66 : decode cX6_around 66 = .ok (.if_icmp .ge 38, 3) := by decide +kernel
theorem dX6_around_69 : decode cX6_around 69 = .ok (.iload 6, 2) := by decide +kernel
theorem dX6_around_71 : decode cX6_around 71 = .ok (.iload 7, 2) := by decide +kernel
theorem dX6_around_73 : decode cX6_around 73 = .ok (.iload 5, 2) := by decide +kernel
theorem dX6_around_75 : decode cX6_around 75 = .ok (.if_icmp .eq 19, 3) := by decide +kernel
theorem dX6_around_78 : decode cX6_around 78 = .ok (.aload_n 0, 1) := by decide +kernel
theorem dX6_around_79 : decode cX6_around 79 = .ok (.iload_n 1, 1) := by decide +kernel
theorem dX6_around_80 : decode cX6_around 80 = .ok (.iload 7, 2) := by decide +kernel
theorem dX6_around_82 : decode cX6_around 82 = .ok (.iload 5, 2) := by decide +kernel
theorem dX6_around_84 : decode cX6_around 84 = .ok (.invokevirtual 162, 3) := by decide +kernel
theorem dX6_around_87 : decode cX6_around 87 = .ok (.ifCond .eq 7, 3) := by decide +kernel
theorem dX6_around_90 : decode cX6_around 90 = .ok (.iconst 1, 1) := by decide +kernel
theorem dX6_around_91 : decode cX6_around 91 = .ok (.goto 4, 3) := by decide +kernel
theorem dX6_around_94 : decode cX6_around 94 = .ok (.iconst 0, 1) := by decide +kernel
theorem dX6_around_95 : decode cX6_around 95 = .ok (.iadd, 1) := by decide +kernel
theorem dX6_around_96 : decode cX6_around 96 = .ok (.istore 6, 2) := by decide +kernel
theorem dX6_around_98 : decode cX6_around 98 = .ok (.iinc 7 1, 3) := by decide +kernel
theorem dX6_around_101 : decode cX6_around 101 = .ok (.goto (-38), 3) := by decide +kernel
theorem dX6_around_104 : decode cX6_around 104 = .ok (.iload 6, 2) := by decide +kernel
theorem dX6_around_106 : decode cX6_around 106 = .ok (.iload_n 3, 1) := by decide +kernel
theorem dX6_around_107 : decode cX6_around 107 = .ok (.if_icmp .ne 8, 3) := by decide +kernel
theorem dX6_around_110 : decode cX6_around 110 = .ok (.iload 5, 2) := by decide +kernel
theorem dX6_around_112 : decode cX6_around 112 = .ok (.goto 5, 3) := by decide +kernel
theorem dX6_around_115 : decode cX6_around 115 = .ok (.iload 4, 2) := by decide +kernel
theorem dX6_around_117 : decode cX6_around 117 = .ok (.istore 4, 2) := by decide +kernel
theorem dX6_around_119 : decode cX6_around 119 = .ok (.iinc 5 1, 3) := by decide +kernel
theorem dX6_around_122 : decode cX6_around 122 = .ok (.goto (-71), 3) := by decide +kernel
theorem dX6_around_125 : decode cX6_around 125 = .ok (.iload 4, 2) := by decide +kernel
theorem dX6_around_127 : decode cX6_around 127 = .ok (.ireturn, 1) := by decide +kernel
theorem dX6_isLess_0 : decode cX6_isLess 0 = .ok (.aload_n 0, 1) := by decide +kernel
theorem dX6_isLess_1 : decode cX6_isLess 1 = .ok (.getfield 20, 3) := by decide +kernel
theorem dX6_isLess_4 : decode cX6_isLess 4 = .ok (.iload_n 1, 1) := by decide +kernel
theorem dX6_isLess_5 : decode cX6_isLess 5 = .ok (.iaload, 1) := by decide +kernel
theorem dX6_isLess_6 : decode cX6_isLess 6 = .ok (.istore_n 3, 1) := by decide +kernel
theorem dX6_isLess_7 : decode cX6_isLess 7 = .ok (.aload_n 0, 1) := by decide +kernel
theorem dX6_isLess_8 : decode cX6_isLess 8 = .ok (.getfield 20, 3) := by decide +kernel
theorem dX6_isLess_11 : decode cX6_isLess 11 = .ok (.iload_n 2, 1) := by decide +kernel
theorem dX6_isLess_12 : decode cX6_isLess 12 = .ok (.iaload, 1) := by decide +kernel
theorem dX6_isLess_13 : decode cX6_isLess 13 = .ok (.istore 4, 2) := by decide +kernel
theorem dX6_isLess_15 : decode cX6_isLess 15 = .ok (.aload_n 0, 1) := by decide +kernel
theorem dX6_isLess_16 : decode cX6_isLess 16 = .ok (.getfield 13, 3) := by decide +kernel
theorem dX6_isLess_19 : decode cX6_isLess 19 = .ok (.iload_n 3, 1) := by decide +kernel
theorem dX6_isLess_20 : decode cX6_isLess 20 = .ok (.iaload, 1) := by decide +kernel
theorem dX6_isLess_21 : decode cX6_isLess 21 = .ok (.aload_n 0, 1) := by decide +kernel
theorem dX6_isLess_22 : decode cX6_isLess 22 = .ok (.getfield 13, 3) := by decide +kernel
theorem dX6_isLess_25 : decode cX6_isLess 25 = .ok (.iload 4, 2) := by decide +kernel
theorem dX6_isLess_27 : decode cX6_isLess 27 = .ok (.iaload, 1) := by decide +kernel
theorem dX6_isLess_28 : decode cX6_isLess 28 = .ok (.if_icmp .eq 27, 3) := by decide +kernel
theorem dX6_isLess_31 : decode cX6_isLess 31 = .ok (.aload_n 0, 1) := by decide +kernel
theorem dX6_isLess_32 : decode cX6_isLess 32 = .ok (.getfield 13, 3) := by decide +kernel
theorem dX6_isLess_35 : decode cX6_isLess 35 = .ok (.iload_n 3, 1) := by decide +kernel
theorem dX6_isLess_36 : decode cX6_isLess 36 = .ok (.iaload, 1) := by decide +kernel
theorem dX6_isLess_37 : decode cX6_isLess 37 = .ok (.aload_n 0, 1) := by decide +kernel
theorem dX6_isLess_38 : decode cX6_isLess 38 = .ok (.getfield 13, 3) := by decide +kernel
theorem dX6_isLess_41 : decode cX6_isLess 41 = .ok (.iload 4, 2) := by decide +kernel
theorem dX6_isLess_43 : decode cX6_isLess 43 = .ok (.iaload, 1) := by decide +kernel
theorem dX6_isLess_44 : decode cX6_isLess 44 = .ok (.if_icmp .ge 7, 3) := by decide +kernel
theorem dX6_isLess_47 : decode cX6_isLess 47 = .ok (.iconst 1, 1) := by decide +kernel
theorem dX6_isLess_48 : decode cX6_isLess 48 = .ok (.goto 57, 3) := by decide +kernel
theorem dX6_isLess_51 : decode cX6_isLess 51 = .ok (.iconst 0, 1) := by decide +kernel
theorem dX6_isLess_52 : decode cX6_isLess 52 = .ok (.goto 53, 3) := by decide +kernel
theorem dX6_isLess_55 : decode cX6_isLess 55 = .ok (.aload_n 0, 1) := by decide +kernel
theorem dX6_isLess_56 : decode cX6_isLess 56 = .ok (.getfield 17, 3) := by decide +kernel
theorem dX6_isLess_59 : decode cX6_isLess 59 = .ok (.iload_n 3, 1) := by decide +kernel
theorem dX6_isLess_60 : decode cX6_isLess 60 = .ok (.iaload, 1) := by decide +kernel
theorem dX6_isLess_61 : decode cX6_isLess 61 = .ok (.aload_n 0, 1) := by decide +kernel
theorem dX6_isLess_62 : decode cX6_isLess 62 = .ok (.getfield 17, 3) := by decide +kernel
theorem dX6_isLess_65 : decode cX6_isLess 65 = .ok (.iload 4, 2) := by decide +kernel
theorem dX6_isLess_67 : decode cX6_isLess 67 = .ok (.iaload, 1) := by decide +kernel
theorem dX6_isLess_68 : decode cX6_isLess 68 = .ok (.if_icmp .eq 27, 3) := by decide +kernel
theorem dX6_isLess_71 : decode cX6_isLess 71 = .ok (.aload_n 0, 1) := by decide +kernel
theorem dX6_isLess_72 : decode cX6_isLess 72 = .ok (.getfield 17, 3) := by decide +kernel
theorem dX6_isLess_75 : decode cX6_isLess 75 = .ok (.iload_n 3, 1) := by decide +kernel
theorem dX6_isLess_76 : decode cX6_isLess 76 = .ok (.iaload, 1) := by decide +kernel
theorem dX6_isLess_77 : decode cX6_isLess 77 = .ok (.aload_n 0, 1) := by decide +kernel
theorem dX6_isLess_78 : decode cX6_isLess 78 = .ok (.getfield 17, 3) := by decide +kernel
theorem dX6_isLess_81 : decode cX6_isLess 81 = .ok (.iload 4, 2) := by decide +kernel
theorem dX6_isLess_83 : decode cX6_isLess 83 = .ok (.iaload, 1) := by decide +kernel
theorem dX6_isLess_84 : decode cX6_isLess 84 = .ok (.if_icmp .ge 7, 3) := by decide +kernel
theorem dX6_isLess_87 : decode cX6_isLess 87 = .ok (.iconst 1, 1) := by decide +kernel
theorem dX6_isLess_88 : decode cX6_isLess 88 = .ok (.goto 17, 3) := by decide +kernel
theorem dX6_isLess_91 : decode cX6_isLess 91 = .ok (.iconst 0, 1) := by decide +kernel
theorem dX6_isLess_92 : decode cX6_isLess 92 = .ok (.goto 13, 3) := by decide +kernel
theorem dX6_isLess_95 : decode cX6_isLess 95 = .ok (.iload_n 1, 1) := by decide +kernel
theorem dX6_isLess_96 : decode cX6_isLess 96 = .ok (.iload_n 2, 1) := by decide +kernel
theorem dX6_isLess_97 : decode cX6_isLess 97 = .ok (.if_icmp .ge 7, 3) := by decide +kernel
theorem dX6_isLess_100 : decode cX6_isLess 100 = .ok (.iconst 1, 1) := by decide +kernel
theorem dX6_isLess_101 : decode cX6_isLess 101 = .ok (.goto 4, 3) := by decide +kernel
theorem dX6_isLess_104 : decode cX6_isLess 104 = .ok (.iconst 0, 1) := by decide +kernel
theorem dX6_isLess_105 : decode cX6_isLess 105 = .ok (.ireturn, 1) := by decide +kernel
theorem dX6_order_0 : decode cX6_order 0 = .ok (.aload_n 0, 1) := by decide +kernel
theorem dX6_order_1 : decode cX6_order 1 = .ok (.iconst 0, 1) := by decide +kernel
theorem dX6_order_2 : decode cX6_order 2 = .ok (.putfield 1, 3) := by decide +kernel
theorem dX6_order_5 : decode cX6_order 5 = .ok (.aload_n 0, 1) := by decide +kernel
theorem dX6_order_6 : decode cX6_order 6 = .ok (.iload_n 1, 1) := by decide +kernel
theorem dX6_order_7 : decode cX6_order 7 = .ok (.iconst 1, 1) := by decide +kernel
theorem dX6_order_8 : decode cX6_order 8 = .ok (.invokevirtual 139, 3) := by decide +kernel
theorem dX6_order_11 : decode cX6_order 11 = .ok (.ifCond .eq 12, 3) := by decide +kernel
theorem dX6_order_14 : decode cX6_order 14 = .ok (.iload_n 2, 1) := by decide +kernel
theorem dX6_order_15 : decode cX6_order 15 = .ok (.ifCond .lt 8, 3) := by decide +kernel
theorem dX6_order_18 : decode cX6_order 18 = .ok (.iload_n 2, 1) := by decide +kernel
theorem dX6_order_19 : decode cX6_order 19 = .ok (.iload_n 1, 1) := by decide +kernel
theorem dX6_order_20 : decode cX6_order 20 = .ok (.if_icmp .lt 6, 3) := by decide +kernel
theorem dX6_order_23 : decode cX6_order 23 = .ok (.bipush (-2), 2) := by decide +kernel
theorem dX6_order_25 : decode cX6_order 25 = .ok (.ireturn, 1) := by decide +kernel
theorem dX6_order_26 : decode cX6_order 26 = .ok (.aload_n 0, 1) := by decide +kernel
theorem dX6_order_27 : decode cX6_order 27 = .ok (.iload_n 1, 1) := by decide +kernel
theorem dX6_order_28 : decode cX6_order 28 = .ok (.invokevirtual 142, 3) := by decide +kernel
theorem dX6_order_31 : decode cX6_order 31 = .ok (.ifCond .ne 6, 3) := by decide +kernel
theorem dX6_order_34 : decode cX6_order 34 = .ok (.bipush (-4), 2) := by decide +kernel
theorem dX6_order_36 : decode cX6_order 36 = .ok (.ireturn, 1) := by decide +kernel
theorem dX6_order_37 : decode cX6_order 37 = .ok (.iconst (-1), 1) := by decide +kernel
theorem dX6_order_38 : decode cX6_order 38 = .ok (.istore_n 3, 1) := by decide +kernel
theorem dX6_order_39 : decode cX6_order 39 = .ok (.iconst 0, 1) := by decide +kernel
theorem dX6_order_40 : decode cX6_order 40 = .ok (.istore 4, 2) := by decide +kernel
theorem dX6_order_42 : decode cX6_order 42 = .ok (.iload 4, 2) := by decide +kernel
theorem dX6_order_44 : decode cX6_order 44 = .ok (.iload_n 1, 1) := by decide +kernel
theorem dX6_order_45 : decode cX6_order 45 = .ok (.if_icmp .ge 68, 3) := by decide +kernel
theorem dX6_order_48 : decode cX6_order 48 = .ok (.iconst 0, 1) := by decide +kernel
theorem dX6_order_49 : decode cX6_order 49 = .ok (.istore 5, 2) := by decide +kernel
theorem dX6_order_51 : decode cX6_order 51 = .ok (.iconst 0, 1) := by decide +kernel
theorem dX6_order_52 : decode cX6_order 52 = .ok (.istore 6, 2) := by decide +kernel
theorem dX6_order_54 : decode cX6_order 54 = .ok (.iload 6, 2) := by decide +kernel
theorem dX6_order_56 : decode cX6_order 56 = .ok (.iload_n 1, 1) := by decide +kernel
theorem dX6_order_57 : decode cX6_order 57 = .ok (.if_icmp .ge 37, 3) := by decide +kernel
theorem dX6_order_60 : decode cX6_order 60 = .ok (.iload 5, 2) := by decide +kernel
theorem dX6_order_62 : decode cX6_order 62 = .ok (.iload 6, 2) := by decide +kernel
theorem dX6_order_64 : decode cX6_order 64 = .ok (.iload 4, 2) := by decide +kernel
theorem dX6_order_66 : decode cX6_order 66 = .ok (.if_icmp .eq 18, 3) := by decide +kernel
theorem dX6_order_69 : decode cX6_order 69 = .ok (.aload_n 0, 1) := by decide +kernel
theorem dX6_order_70 : decode cX6_order 70 = .ok (.iload 6, 2) := by decide +kernel
theorem dX6_order_72 : decode cX6_order 72 = .ok (.iload 4, 2) := by decide +kernel
theorem dX6_order_74 : decode cX6_order 74 = .ok (.invokevirtual 165, 3) := by decide +kernel
theorem dX6_order_77 : decode cX6_order 77 = .ok (.ifCond .eq 7, 3) := by decide +kernel
theorem dX6_order_80 : decode cX6_order 80 = .ok (.iconst 1, 1) := by decide +kernel
theorem dX6_order_81 : decode cX6_order 81 = .ok (.goto 4, 3) := by decide +kernel
theorem dX6_order_84 : decode cX6_order 84 = .ok (.iconst 0, 1) := by decide +kernel
theorem dX6_order_85 : decode cX6_order 85 = .ok (.iadd, 1) := by decide +kernel
theorem dX6_order_86 : decode cX6_order 86 = .ok (.istore 5, 2) := by decide +kernel
theorem dX6_order_88 : decode cX6_order 88 = .ok (.iinc 6 1, 3) := by decide +kernel
theorem dX6_order_91 : decode cX6_order 91 = .ok (.goto (-37), 3) := by decide +kernel
theorem dX6_order_94 : decode cX6_order 94 = .ok (.iload 5, 2) := by decide +kernel
theorem dX6_order_96 : decode cX6_order 96 = .ok (.iload_n 2, 1) := by decide +kernel
theorem dX6_order_97 : decode cX6_order 97 = .ok (.if_icmp .ne 8, 3) := by decide +kernel
theorem dX6_order_100 : decode cX6_order 100 = .ok (.iload 4, 2) := by decide +kernel
theorem dX6_order_102 : decode cX6_order 102 = .ok (.goto 4, 3) := by decide +kernel
theorem dX6_order_105 : decode cX6_order 105 = .ok (.iload_n 3, 1) := by decide +kernel
theorem dX6_order_106 : decode cX6_order 106 = .ok (.istore_n 3, 1) := by decide +kernel
theorem dX6_order_107 : decode cX6_order 107 = .ok (.iinc 4 1, 3) := by decide +kernel
theorem dX6_order_110 : decode cX6_order 110 = .ok (.goto (-68), 3) := by decide +kernel
theorem dX6_order_113 : decode cX6_order 113 = .ok (.iload_n 3, 1) := by decide +kernel
theorem dX6_order_114 : decode cX6_order 114 = .ok (.ireturn, 1) := by decide +kernel
theorem dX6_area_0 : decode cX6_area 0 = .ok (.aload_n 0, 1) := by decide +kernel
theorem dX6_area_1 : decode cX6_area 1 = .ok (.iconst 0, 1) := by decide +kernel
theorem dX6_area_2 : decode cX6_area 2 = .ok (.putfield 1, 3) := by decide +kernel
theorem dX6_area_5 : decode cX6_area 5 = .ok (.aload_n 0, 1) := by decide +kernel
theorem dX6_area_6 : decode cX6_area 6 = .ok (.iload_n 1, 1) := by decide +kernel
theorem dX6_area_7 : decode cX6_area 7 = .ok (.iconst 1, 1) := by decide +kernel
theorem dX6_area_8 : decode cX6_area 8 = .ok (.invokevirtual 139, 3) := by decide +kernel
theorem dX6_area_11 : decode cX6_area 11 = .ok (.ifCond .eq 11, 3) := by decide +kernel
theorem dX6_area_14 : decode cX6_area 14 = .ok (.aload_n 0, 1) := by decide +kernel
theorem dX6_area_15 : decode cX6_area 15 = .ok (.iload_n 1, 1) := by decide +kernel
theorem dX6_area_16 : decode cX6_area 16 = .ok (.invokevirtual 142, 3) := by decide +kernel
theorem dX6_area_19 : decode cX6_area 19 = .ok (.ifCond .ne 5, 3) := by decide +kernel
theorem dX6_area_22 : decode cX6_area 22 = .ok (.lconst 0, 1) := by decide +kernel
theorem dX6_area_23 : decode cX6_area 23 = .ok (.lreturn, 1) := by decide +kernel
theorem dX6_area_24 : decode cX6_area 24 = .ok (.lload_n 2, 1) := by decide +kernel
theorem dX6_area_25 : decode cX6_area 25 = .ok (.lconst 0, 1) := by decide +kernel
theorem dX6_area_26 : decode cX6_area 26 = .ok (.lcmp, 1) := by decide +kernel
theorem dX6_area_27 : decode cX6_area 27 = .ok (.ifCond .ne 10, 3) := by decide +kernel
theorem dX6_area_30 : decode cX6_area 30 = .ok (.aload_n 0, 1) := by decide +kernel
theorem dX6_area_31 : decode cX6_area 31 = .ok (.iconst 1, 1) := by decide +kernel
theorem dX6_area_32 : decode cX6_area 32 = .ok (.invokevirtual 62, 3) := by decide +kernel
theorem dX6_area_35 : decode cX6_area 35 = .ok (.i2l, 1) := by decide +kernel
theorem dX6_area_36 : decode cX6_area 36 = .ok (.lreturn, 1) := by decide +kernel
theorem dX6_area_37 : decode cX6_area 37 = .ok (.lconst 0, 1) := by decide +kernel
theorem dX6_area_38 : decode cX6_area 38 = .ok (.lstore 4, 2) := by decide +kernel
theorem dX6_area_40 : decode cX6_area 40 = .ok (.iconst 0, 1) := by decide +kernel
theorem dX6_area_41 : decode cX6_area 41 = .ok (.istore 6, 2) := by decide +kernel
theorem dX6_area_43 : decode cX6_area 43 = .ok (.iload 6, 2) := by decide +kernel
theorem dX6_area_45 : decode cX6_area 45 = .ok (.iload_n 1, 1) := by decide +kernel
theorem dX6_area_46 : decode cX6_area 46 = .ok (.if_icmp .ge 67, 3) := by decide +kernel
theorem dX6_area_49 : decode cX6_area 49 = .ok (.aload_n 0, 1) := by decide +kernel
theorem dX6_area_50 : decode cX6_area 50 = .ok (.getfield 20, 3) := by decide +kernel
theorem dX6_area_53 : decode cX6_area 53 = .ok (.iload 6, 2) := by decide +kernel
theorem dX6_area_55 : decode cX6_area 55 = .ok (.iaload, 1) := by decide +kernel
theorem dX6_area_56 : decode cX6_area 56 = .ok (.istore 7, 2) := by decide +kernel
theorem dX6_area_58 : decode cX6_area 58 = .ok (.aload_n 0, 1) := by decide +kernel
theorem dX6_area_59 : decode cX6_area 59 = .ok (.iload 6, 2) := by decide +kernel
theorem dX6_area_61 : decode cX6_area 61 = .ok (.iload_n 1, 1) := by decide +kernel
theorem dX6_area_62 : decode cX6_area 62 = .ok (.invokevirtual 145, 3) := by decide +kernel
theorem dX6_area_65 : decode cX6_area 65 = .ok (.istore 8, 2) := by decide +kernel
theorem dX6_area_67 : decode cX6_area 67 = .ok (.lload 4, 2) := by decide +kernel
theorem dX6_area_69 : decode cX6_area 69 = .ok (.aload_n 0, 1) := by decide +kernel
theorem dX6_area_70 : decode cX6_area 70 = .ok (.getfield 13, 3) := by decide +kernel
theorem dX6_area_73 : decode cX6_area 73 = .ok (.iload 7, 2) := by decide +kernel
theorem dX6_area_75 : decode cX6_area 75 = .ok (.iaload, 1) := by decide +kernel
theorem dX6_area_76 : decode cX6_area 76 = .ok (.i2l, 1) := by decide +kernel
theorem dX6_area_77 : decode cX6_area 77 = .ok (.aload_n 0, 1) := by decide +kernel
theorem dX6_area_78 : decode cX6_area 78 = .ok (.getfield 17, 3) := by decide +kernel
theorem dX6_area_81 : decode cX6_area 81 = .ok (.iload 8, 2) := by decide +kernel
theorem dX6_area_83 : decode cX6_area 83 = .ok (.iaload, 1) := by decide +kernel
theorem dX6_area_84 : decode cX6_area 84 = .ok (.i2l, 1) := by decide +kernel
theorem dX6_area_85 : decode cX6_area 85 = .ok (.lmul, 1) := by decide +kernel
theorem dX6_area_86 : decode cX6_area 86 = .ok (.aload_n 0, 1) := by decide +kernel
theorem dX6_area_87 : decode cX6_area 87 = .ok (.getfield 13, 3) := by decide +kernel
theorem dX6_area_90 : decode cX6_area 90 = .ok (.iload 8, 2) := by decide +kernel
theorem dX6_area_92 : decode cX6_area 92 = .ok (.iaload, 1) := by decide +kernel
theorem dX6_area_93 : decode cX6_area 93 = .ok (.i2l, 1) := by decide +kernel
theorem dX6_area_94 : decode cX6_area 94 = .ok (.aload_n 0, 1) := by decide +kernel
theorem dX6_area_95 : decode cX6_area 95 = .ok (.getfield 17, 3) := by decide +kernel
theorem dX6_area_98 : decode cX6_area 98 = .ok (.iload 7, 2) := by decide +kernel
theorem dX6_area_100 : decode cX6_area 100 = .ok (.iaload, 1) := by decide +kernel
theorem dX6_area_101 : decode cX6_area 101 = .ok (.i2l, 1) := by decide +kernel
theorem dX6_area_102 : decode cX6_area 102 = .ok (.lmul, 1) := by decide +kernel
theorem dX6_area_103 : decode cX6_area 103 = .ok (.lsub, 1) := by decide +kernel
theorem dX6_area_104 : decode cX6_area 104 = .ok (.ladd, 1) := by decide +kernel
theorem dX6_area_105 : decode cX6_area 105 = .ok (.lstore 4, 2) := by decide +kernel
theorem dX6_area_107 : decode cX6_area 107 = .ok (.iinc 6 1, 3) := by decide +kernel
theorem dX6_area_110 : decode cX6_area 110 = .ok (.goto (-67), 3) := by decide +kernel
theorem dX6_area_113 : decode cX6_area 113 = .ok (.lload 4, 2) := by decide +kernel
theorem dX6_area_115 : decode cX6_area 115 = .ok (.lload_n 2, 1) := by decide +kernel
theorem dX6_area_116 : decode cX6_area 116 = .ok (.ldiv, 1) := by decide +kernel
theorem dX6_area_117 : decode cX6_area 117 = .ok (.lreturn, 1) := by decide +kernel
theorem dX6_line_0 : decode cX6_line 0 = .ok (.aload_n 0, 1) := by decide +kernel
theorem dX6_line_1 : decode cX6_line 1 = .ok (.iconst 0, 1) := by decide +kernel
theorem dX6_line_2 : decode cX6_line 2 = .ok (.putfield 1, 3) := by decide +kernel
theorem dX6_line_5 : decode cX6_line 5 = .ok (.aload_n 0, 1) := by decide +kernel
theorem dX6_line_6 : decode cX6_line 6 = .ok (.iload_n 1, 1) := by decide +kernel
theorem dX6_line_7 : decode cX6_line 7 = .ok (.invokevirtual 69, 3) := by decide +kernel
theorem dX6_line_10 : decode cX6_line 10 = .ok (.ifCond .eq 11, 3) := by decide +kernel
theorem dX6_line_13 : decode cX6_line 13 = .ok (.aload_n 0, 1) := by decide +kernel
theorem dX6_line_14 : decode cX6_line 14 = .ok (.iload_n 2, 1) := by decide +kernel
theorem dX6_line_15 : decode cX6_line 15 = .ok (.invokevirtual 69, 3) := by decide +kernel
theorem dX6_line_18 : decode cX6_line 18 = .ok (.ifCond .ne 6, 3) := by decide +kernel
theorem dX6_line_21 : decode cX6_line 21 = .ok (.bipush (-2), 2) := by decide +kernel
theorem dX6_line_23 : decode cX6_line 23 = .ok (.ireturn, 1) := by decide +kernel
theorem dX6_line_24 : decode cX6_line 24 = .ok (.aload_n 0, 1) := by decide +kernel
theorem dX6_line_25 : decode cX6_line 25 = .ok (.iload_n 1, 1) := by decide +kernel
theorem dX6_line_26 : decode cX6_line 26 = .ok (.iload_n 2, 1) := by decide +kernel
theorem dX6_line_27 : decode cX6_line 27 = .ok (.invokevirtual 107, 3) := by decide +kernel
theorem dX6_line_30 : decode cX6_line 30 = .ok (.ifCond .eq 6, 3) := by decide +kernel
theorem dX6_line_33 : decode cX6_line 33 = .ok (.bipush (-4), 2) := by decide +kernel
theorem dX6_line_35 : decode cX6_line 35 = .ok (.ireturn, 1) := by decide +kernel
theorem dX6_line_36 : decode cX6_line 36 = .ok (.aload_n 0, 1) := by decide +kernel
theorem dX6_line_37 : decode cX6_line 37 = .ok (.getfield 168, 3) := by decide +kernel
theorem dX6_line_40 : decode cX6_line 40 = .ok (.bipush 12, 2) := by decide +kernel
theorem dX6_line_42 : decode cX6_line 42 = .ok (.if_icmp .ne 6, 3) := by decide +kernel
theorem dX6_line_45 : decode cX6_line 45 = .ok (.bipush (-3), 2) := by decide +kernel
theorem dX6_line_47 : decode cX6_line 47 = .ok (.ireturn, 1) := by decide +kernel
theorem dX6_line_48 : decode cX6_line 48 = .ok (.aload_n 0, 1) := by decide +kernel
theorem dX6_line_49 : decode cX6_line 49 = .ok (.getfield 27, 3) := by decide +kernel
theorem dX6_line_52 : decode cX6_line 52 = .ok (.aload_n 0, 1) := by decide +kernel
theorem dX6_line_53 : decode cX6_line 53 = .ok (.getfield 168, 3) := by decide +kernel
theorem dX6_line_56 : decode cX6_line 56 = .ok (.aload_n 0, 1) := by decide +kernel
theorem dX6_line_57 : decode cX6_line 57 = .ok (.getfield 17, 3) := by decide +kernel
theorem dX6_line_60 : decode cX6_line 60 = .ok (.iload_n 2, 1) := by decide +kernel
theorem dX6_line_61 : decode cX6_line 61 = .ok (.iaload, 1) := by decide +kernel
theorem dX6_line_62 : decode cX6_line 62 = .ok (.aload_n 0, 1) := by decide +kernel
theorem dX6_line_63 : decode cX6_line 63 = .ok (.getfield 17, 3) := by decide +kernel
theorem dX6_line_66 : decode cX6_line 66 = .ok (.iload_n 1, 1) := by decide +kernel
theorem dX6_line_67 : decode cX6_line 67 = .ok (.iaload, 1) := by decide +kernel
theorem dX6_line_68 : decode cX6_line 68 = .ok (.isub, 1) := by decide +kernel
theorem dX6_line_69 : decode cX6_line 69 = .ok (.i2l, 1) := by decide +kernel
theorem dX6_line_70 : decode cX6_line 70 = .ok (.lastore, 1) := by decide +kernel
theorem dX6_line_71 : decode cX6_line 71 = .ok (.aload_n 0, 1) := by decide +kernel
theorem dX6_line_72 : decode cX6_line 72 = .ok (.getfield 31, 3) := by decide +kernel
theorem dX6_line_75 : decode cX6_line 75 = .ok (.aload_n 0, 1) := by decide +kernel
theorem dX6_line_76 : decode cX6_line 76 = .ok (.getfield 168, 3) := by decide +kernel
theorem dX6_line_79 : decode cX6_line 79 = .ok (.aload_n 0, 1) := by decide +kernel
theorem dX6_line_80 : decode cX6_line 80 = .ok (.getfield 13, 3) := by decide +kernel
theorem dX6_line_83 : decode cX6_line 83 = .ok (.iload_n 1, 1) := by decide +kernel
theorem dX6_line_84 : decode cX6_line 84 = .ok (.iaload, 1) := by decide +kernel
theorem dX6_line_85 : decode cX6_line 85 = .ok (.aload_n 0, 1) := by decide +kernel
theorem dX6_line_86 : decode cX6_line 86 = .ok (.getfield 13, 3) := by decide +kernel
theorem dX6_line_89 : decode cX6_line 89 = .ok (.iload_n 2, 1) := by decide +kernel
theorem dX6_line_90 : decode cX6_line 90 = .ok (.iaload, 1) := by decide +kernel
theorem dX6_line_91 : decode cX6_line 91 = .ok (.isub, 1) := by decide +kernel
theorem dX6_line_92 : decode cX6_line 92 = .ok (.i2l, 1) := by decide +kernel
theorem dX6_line_93 : decode cX6_line 93 = .ok (.lastore, 1) := by decide +kernel
theorem dX6_line_94 : decode cX6_line 94 = .ok (.aload_n 0, 1) := by decide +kernel
theorem dX6_line_95 : decode cX6_line 95 = .ok (.getfield 34, 3) := by decide +kernel
theorem dX6_line_98 : decode cX6_line 98 = .ok (.aload_n 0, 1) := by decide +kernel
theorem dX6_line_99 : decode cX6_line 99 = .ok (.getfield 168, 3) := by decide +kernel
theorem dX6_line_102 : decode cX6_line 102 = .ok (.aload_n 0, 1) := by decide +kernel
theorem dX6_line_103 : decode cX6_line 103 = .ok (.getfield 27, 3) := by decide +kernel
theorem dX6_line_106 : decode cX6_line 106 = .ok (.aload_n 0, 1) := by decide +kernel
theorem dX6_line_107 : decode cX6_line 107 = .ok (.getfield 168, 3) := by decide +kernel
theorem dX6_line_110 : decode cX6_line 110 = .ok (.laload, 1) := by decide +kernel
theorem dX6_line_111 : decode cX6_line 111 = .ok (.aload_n 0, 1) := by decide +kernel
theorem dX6_line_112 : decode cX6_line 112 = .ok (.getfield 13, 3) := by decide +kernel
theorem dX6_line_115 : decode cX6_line 115 = .ok (.iload_n 1, 1) := by decide +kernel
theorem dX6_line_116 : decode cX6_line 116 = .ok (.iaload, 1) := by decide +kernel
theorem dX6_line_117 : decode cX6_line 117 = .ok (.i2l, 1) := by decide +kernel
theorem dX6_line_118 : decode cX6_line 118 = .ok (.lmul, 1) := by decide +kernel
theorem dX6_line_119 : decode cX6_line 119 = .ok (.aload_n 0, 1) := by decide +kernel
theorem dX6_line_120 : decode cX6_line 120 = .ok (.getfield 31, 3) := by decide +kernel
theorem dX6_line_123 : decode cX6_line 123 = .ok (.aload_n 0, 1) := by decide +kernel
theorem dX6_line_124 : decode cX6_line 124 = .ok (.getfield 168, 3) := by decide +kernel
theorem dX6_line_127 : decode cX6_line 127 = .ok (.laload, 1) := by decide +kernel
theorem dX6_line_128 : decode cX6_line 128 = .ok (.aload_n 0, 1) := by decide +kernel
theorem dX6_line_129 : decode cX6_line 129 = .ok (.getfield 17, 3) := by decide +kernel
theorem dX6_line_132 : decode cX6_line 132 = .ok (.iload_n 1, 1) := by decide +kernel
theorem dX6_line_133 : decode cX6_line 133 = .ok (.iaload, 1) := by decide +kernel
theorem dX6_line_134 : decode cX6_line 134 = .ok (.i2l, 1) := by decide +kernel
theorem dX6_line_135 : decode cX6_line 135 = .ok (.lmul, 1) := by decide +kernel
theorem dX6_line_136 : decode cX6_line 136 = .ok (.ladd, 1) := by decide +kernel
theorem dX6_line_137 : decode cX6_line 137 = .ok (.lastore, 1) := by decide +kernel
theorem dX6_line_138 : decode cX6_line 138 = .ok (.aload_n 0, 1) := by decide +kernel
theorem dX6_line_139 : decode cX6_line 139 = .ok (.dup, 1) := by decide +kernel
theorem dX6_line_140 : decode cX6_line 140 = .ok (.getfield 168, 3) := by decide +kernel
theorem dX6_line_143 : decode cX6_line 143 = .ok (.iconst 1, 1) := by decide +kernel
theorem dX6_line_144 : decode cX6_line 144 = .ok (.iadd, 1) := by decide +kernel
theorem dX6_line_145 : decode cX6_line 145 = .ok (.putfield 168, 3) := by decide +kernel
theorem dX6_line_148 : decode cX6_line 148 = .ok (.aload_n 0, 1) := by decide +kernel
theorem dX6_line_149 : decode cX6_line 149 = .ok (.getfield 168, 3) := by decide +kernel
theorem dX6_line_152 : decode cX6_line 152 = .ok (.iconst 1, 1) := by decide +kernel
theorem dX6_line_153 : decode cX6_line 153 = .ok (.isub, 1) := by decide +kernel
theorem dX6_line_154 : decode cX6_line 154 = .ok (.ireturn, 1) := by decide +kernel
theorem dX6_both_0 : decode cX6_both 0 = .ok (.aload_n 0, 1) := by decide +kernel
theorem dX6_both_1 : decode cX6_both 1 = .ok (.getfield 27, 3) := by decide +kernel
theorem dX6_both_4 : decode cX6_both 4 = .ok (.iload_n 1, 1) := by decide +kernel
theorem dX6_both_5 : decode cX6_both 5 = .ok (.laload, 1) := by decide +kernel
theorem dX6_both_6 : decode cX6_both 6 = .ok (.aload_n 0, 1) := by decide +kernel
theorem dX6_both_7 : decode cX6_both 7 = .ok (.getfield 31, 3) := by decide +kernel
theorem dX6_both_10 : decode cX6_both 10 = .ok (.iload_n 2, 1) := by decide +kernel
theorem dX6_both_11 : decode cX6_both 11 = .ok (.laload, 1) := by decide +kernel
theorem dX6_both_12 : decode cX6_both 12 = .ok (.lmul, 1) := by decide +kernel
theorem dX6_both_13 : decode cX6_both 13 = .ok (.aload_n 0, 1) := by decide +kernel
theorem dX6_both_14 : decode cX6_both 14 = .ok (.getfield 27, 3) := by decide +kernel
theorem dX6_both_17 : decode cX6_both 17 = .ok (.iload_n 2, 1) := by decide +kernel
theorem dX6_both_18 : decode cX6_both 18 = .ok (.laload, 1) := by decide +kernel
theorem dX6_both_19 : decode cX6_both 19 = .ok (.aload_n 0, 1) := by decide +kernel
theorem dX6_both_20 : decode cX6_both 20 = .ok (.getfield 31, 3) := by decide +kernel
theorem dX6_both_23 : decode cX6_both 23 = .ok (.iload_n 1, 1) := by decide +kernel
theorem dX6_both_24 : decode cX6_both 24 = .ok (.laload, 1) := by decide +kernel
theorem dX6_both_25 : decode cX6_both 25 = .ok (.lmul, 1) := by decide +kernel
theorem dX6_both_26 : decode cX6_both 26 = .ok (.lsub, 1) := by decide +kernel
theorem dX6_both_27 : decode cX6_both 27 = .ok (.lreturn, 1) := by decide +kernel
theorem dX6_isOne_0 : decode cX6_isOne 0 = .ok (.aload_n 0, 1) := by decide +kernel
theorem dX6_isOne_1 : decode cX6_isOne 1 = .ok (.iload_n 1, 1) := by decide +kernel
theorem dX6_isOne_2 : decode cX6_isOne 2 = .ok (.iload_n 2, 1) := by decide +kernel
theorem dX6_isOne_3 : decode cX6_isOne 3 = .ok (.invokevirtual 171, 3) := by decide +kernel
theorem dX6_isOne_6 : decode cX6_isOne 6 = .ok (.lconst 0, 1) := by decide +kernel
theorem dX6_isOne_7 : decode cX6_isOne 7 = .ok (.lcmp, 1) := by decide +kernel
theorem dX6_isOne_8 : decode cX6_isOne 8 = .ok (.ifCond .ne 67, 3) := by decide +kernel
theorem dX6_isOne_11 : decode cX6_isOne 11 = .ok (.aload_n 0, 1) := by decide +kernel
theorem dX6_isOne_12 : decode cX6_isOne 12 = .ok (.getfield 27, 3) := by decide +kernel
theorem dX6_isOne_15 : decode cX6_isOne 15 = .ok (.iload_n 1, 1) := by decide +kernel
theorem dX6_isOne_16 : decode cX6_isOne 16 = .ok (.laload, 1) := by decide +kernel
theorem dX6_isOne_17 : decode cX6_isOne 17 = .ok (.aload_n 0, 1) := by decide +kernel
theorem dX6_isOne_18 : decode cX6_isOne 18 = .ok (.getfield 34, 3) := by decide +kernel
theorem dX6_isOne_21 : decode cX6_isOne 21 = .ok (.iload_n 2, 1) := by decide +kernel
theorem dX6_isOne_22 : decode cX6_isOne 22 = .ok (.laload, 1) := by decide +kernel
theorem dX6_isOne_23 : decode cX6_isOne 23 = .ok (.lmul, 1) := by decide +kernel
theorem dX6_isOne_24 : decode cX6_isOne 24 = .ok (.aload_n 0, 1) := by decide +kernel
theorem dX6_isOne_25 : decode cX6_isOne 25 = .ok (.getfield 27, 3) := by decide +kernel
theorem dX6_isOne_28 : decode cX6_isOne 28 = .ok (.iload_n 2, 1) := by decide +kernel
theorem dX6_isOne_29 : decode cX6_isOne 29 = .ok (.laload, 1) := by decide +kernel
theorem dX6_isOne_30 : decode cX6_isOne 30 = .ok (.aload_n 0, 1) := by decide +kernel
theorem dX6_isOne_31 : decode cX6_isOne 31 = .ok (.getfield 34, 3) := by decide +kernel
theorem dX6_isOne_34 : decode cX6_isOne 34 = .ok (.iload_n 1, 1) := by decide +kernel
theorem dX6_isOne_35 : decode cX6_isOne 35 = .ok (.laload, 1) := by decide +kernel
theorem dX6_isOne_36 : decode cX6_isOne 36 = .ok (.lmul, 1) := by decide +kernel
theorem dX6_isOne_37 : decode cX6_isOne 37 = .ok (.lcmp, 1) := by decide +kernel
theorem dX6_isOne_38 : decode cX6_isOne 38 = .ok (.ifCond .ne 37, 3) := by decide +kernel
theorem dX6_isOne_41 : decode cX6_isOne 41 = .ok (.aload_n 0, 1) := by decide +kernel
theorem dX6_isOne_42 : decode cX6_isOne 42 = .ok (.getfield 31, 3) := by decide +kernel
theorem dX6_isOne_45 : decode cX6_isOne 45 = .ok (.iload_n 1, 1) := by decide +kernel
theorem dX6_isOne_46 : decode cX6_isOne 46 = .ok (.laload, 1) := by decide +kernel
theorem dX6_isOne_47 : decode cX6_isOne 47 = .ok (.aload_n 0, 1) := by decide +kernel
theorem dX6_isOne_48 : decode cX6_isOne 48 = .ok (.getfield 34, 3) := by decide +kernel
theorem dX6_isOne_51 : decode cX6_isOne 51 = .ok (.iload_n 2, 1) := by decide +kernel
theorem dX6_isOne_52 : decode cX6_isOne 52 = .ok (.laload, 1) := by decide +kernel
theorem dX6_isOne_53 : decode cX6_isOne 53 = .ok (.lmul, 1) := by decide +kernel
theorem dX6_isOne_54 : decode cX6_isOne 54 = .ok (.aload_n 0, 1) := by decide +kernel
theorem dX6_isOne_55 : decode cX6_isOne 55 = .ok (.getfield 31, 3) := by decide +kernel
theorem dX6_isOne_58 : decode cX6_isOne 58 = .ok (.iload_n 2, 1) := by decide +kernel
theorem dX6_isOne_59 : decode cX6_isOne 59 = .ok (.laload, 1) := by decide +kernel
theorem dX6_isOne_60 : decode cX6_isOne 60 = .ok (.aload_n 0, 1) := by decide +kernel
theorem dX6_isOne_61 : decode cX6_isOne 61 = .ok (.getfield 34, 3) := by decide +kernel
theorem dX6_isOne_64 : decode cX6_isOne 64 = .ok (.iload_n 1, 1) := by decide +kernel
theorem dX6_isOne_65 : decode cX6_isOne 65 = .ok (.laload, 1) := by decide +kernel
theorem dX6_isOne_66 : decode cX6_isOne 66 = .ok (.lmul, 1) := by decide +kernel
theorem dX6_isOne_67 : decode cX6_isOne 67 = .ok (.lcmp, 1) := by decide +kernel
theorem dX6_isOne_68 : decode cX6_isOne 68 = .ok (.ifCond .ne 7, 3) := by decide +kernel
theorem dX6_isOne_71 : decode cX6_isOne 71 = .ok (.iconst 1, 1) := by decide +kernel
theorem dX6_isOne_72 : decode cX6_isOne 72 = .ok (.goto 4, 3) := by decide +kernel
theorem dX6_isOne_75 : decode cX6_isOne 75 = .ok (.iconst 0, 1) := by decide +kernel
theorem dX6_isOne_76 : decode cX6_isOne 76 = .ok (.ireturn, 1) := by decide +kernel
theorem dX6_isNew_0 : decode cX6_isNew 0 = .ok (.iconst 1, 1) := by decide +kernel
theorem dX6_isNew_1 : decode cX6_isNew 1 = .ok (.istore_n 2, 1) := by decide +kernel
theorem dX6_isNew_2 : decode cX6_isNew 2 = .ok (.iconst 0, 1) := by decide +kernel
theorem dX6_isNew_3 : decode cX6_isNew 3 = .ok (.istore_n 3, 1) := by decide +kernel
theorem dX6_isNew_4 : decode cX6_isNew 4 = .ok (.iload_n 3, 1) := by decide +kernel
theorem dX6_isNew_5 : decode cX6_isNew 5 = .ok (.iload_n 1, 1) := by decide +kernel
theorem dX6_isNew_6 : decode cX6_isNew 6 = .ok (.if_icmp .ge 28, 3) := by decide +kernel
theorem dX6_isNew_9 : decode cX6_isNew 9 = .ok (.iload_n 2, 1) := by decide +kernel
theorem dX6_isNew_10 : decode cX6_isNew 10 = .ok (.ifCond .eq 16, 3) := by decide +kernel
theorem dX6_isNew_13 : decode cX6_isNew 13 = .ok (.aload_n 0, 1) := by decide +kernel
theorem dX6_isNew_14 : decode cX6_isNew 14 = .ok (.iload_n 1, 1) := by decide +kernel
theorem dX6_isNew_15 : decode cX6_isNew 15 = .ok (.iload_n 3, 1) := by decide +kernel
theorem dX6_isNew_16 : decode cX6_isNew 16 = .ok (.invokevirtual 174, 3) := by decide +kernel
theorem dX6_isNew_19 : decode cX6_isNew 19 = .ok (.ifCond .ne 7, 3) := by decide +kernel
theorem dX6_isNew_22 : decode cX6_isNew 22 = .ok (.iconst 1, 1) := by decide +kernel
theorem dX6_isNew_23 : decode cX6_isNew 23 = .ok (.goto 4, 3) := by decide +kernel
theorem dX6_isNew_26 : decode cX6_isNew 26 = .ok (.iconst 0, 1) := by decide +kernel
theorem dX6_isNew_27 : decode cX6_isNew 27 = .ok (.istore_n 2, 1) := by decide +kernel
theorem dX6_isNew_28 : decode cX6_isNew 28 = .ok (.iinc 3 1, 3) := by decide +kernel
theorem dX6_isNew_31 : decode cX6_isNew 31 = .ok (.goto (-27), 3) := by decide +kernel
theorem dX6_isNew_34 : decode cX6_isNew 34 = .ok (.iload_n 2, 1) := by decide +kernel
theorem dX6_isNew_35 : decode cX6_isNew 35 = .ok (.ireturn, 1) := by decide +kernel
theorem dX6_isThrough_0 : decode cX6_isThrough 0 = .ok (.aload_n 0, 1) := by decide +kernel
theorem dX6_isThrough_1 : decode cX6_isThrough 1 = .ok (.getfield 34, 3) := by decide +kernel
theorem dX6_isThrough_4 : decode cX6_isThrough 4 = .ok (.iload_n 1, 1) := by decide +kernel
theorem dX6_isThrough_5 : decode cX6_isThrough 5 = .ok (.laload, 1) := by decide +kernel
theorem dX6_isThrough_6 : decode cX6_isThrough 6 = .ok (.aload_n 0, 1) := by decide +kernel
theorem dX6_isThrough_7 : decode cX6_isThrough 7 = .ok (.getfield 31, 3) := by decide +kernel
theorem dX6_isThrough_10 : decode cX6_isThrough 10 = .ok (.iload_n 2, 1) := by decide +kernel
theorem dX6_isThrough_11 : decode cX6_isThrough 11 = .ok (.laload, 1) := by decide +kernel
theorem dX6_isThrough_12 : decode cX6_isThrough 12 = .ok (.lmul, 1) := by decide +kernel
theorem dX6_isThrough_13 : decode cX6_isThrough 13 = .ok (.aload_n 0, 1) := by decide +kernel
theorem dX6_isThrough_14 : decode cX6_isThrough 14 = .ok (.getfield 34, 3) := by decide +kernel
theorem dX6_isThrough_17 : decode cX6_isThrough 17 = .ok (.iload_n 2, 1) := by decide +kernel
theorem dX6_isThrough_18 : decode cX6_isThrough 18 = .ok (.laload, 1) := by decide +kernel
theorem dX6_isThrough_19 : decode cX6_isThrough 19 = .ok (.aload_n 0, 1) := by decide +kernel
theorem dX6_isThrough_20 : decode cX6_isThrough 20 = .ok (.getfield 31, 3) := by decide +kernel
theorem dX6_isThrough_23 : decode cX6_isThrough 23 = .ok (.iload_n 1, 1) := by decide +kernel
theorem dX6_isThrough_24 : decode cX6_isThrough 24 = .ok (.laload, 1) := by decide +kernel
theorem dX6_isThrough_25 : decode cX6_isThrough 25 = .ok (.lmul, 1) := by decide +kernel
theorem dX6_isThrough_26 : decode cX6_isThrough 26 = .ok (.lsub, 1) := by decide +kernel
theorem dX6_isThrough_27 : decode cX6_isThrough 27 = .ok (.lstore 4, 2) := by decide +kernel
theorem dX6_isThrough_29 : decode cX6_isThrough 29 = .ok (.aload_n 0, 1) := by decide +kernel
theorem dX6_isThrough_30 : decode cX6_isThrough 30 = .ok (.getfield 27, 3) := by decide +kernel
theorem dX6_isThrough_33 : decode cX6_isThrough 33 = .ok (.iload_n 1, 1) := by decide +kernel
theorem dX6_isThrough_34 : decode cX6_isThrough 34 = .ok (.laload, 1) := by decide +kernel
theorem dX6_isThrough_35 : decode cX6_isThrough 35 = .ok (.aload_n 0, 1) := by decide +kernel
theorem dX6_isThrough_36 : decode cX6_isThrough 36 = .ok (.getfield 34, 3) := by decide +kernel
theorem dX6_isThrough_39 : decode cX6_isThrough 39 = .ok (.iload_n 2, 1) := by decide +kernel
theorem dX6_isThrough_40 : decode cX6_isThrough 40 = .ok (.laload, 1) := by decide +kernel
theorem dX6_isThrough_41 : decode cX6_isThrough 41 = .ok (.lmul, 1) := by decide +kernel
theorem dX6_isThrough_42 : decode cX6_isThrough 42 = .ok (.aload_n 0, 1) := by decide +kernel
theorem dX6_isThrough_43 : decode cX6_isThrough 43 = .ok (.getfield 27, 3) := by decide +kernel
theorem dX6_isThrough_46 : decode cX6_isThrough 46 = .ok (.iload_n 2, 1) := by decide +kernel
theorem dX6_isThrough_47 : decode cX6_isThrough 47 = .ok (.laload, 1) := by decide +kernel
theorem dX6_isThrough_48 : decode cX6_isThrough 48 = .ok (.aload_n 0, 1) := by decide +kernel
theorem dX6_isThrough_49 : decode cX6_isThrough 49 = .ok (.getfield 34, 3) := by decide +kernel
theorem dX6_isThrough_52 : decode cX6_isThrough 52 = .ok (.iload_n 1, 1) := by decide +kernel
theorem dX6_isThrough_53 : decode cX6_isThrough 53 = .ok (.laload, 1) := by decide +kernel
theorem dX6_isThrough_54 : decode cX6_isThrough 54 = .ok (.lmul, 1) := by decide +kernel
theorem dX6_isThrough_55 : decode cX6_isThrough 55 = .ok (.lsub, 1) := by decide +kernel
theorem dX6_isThrough_56 : decode cX6_isThrough 56 = .ok (.lstore 6, 2) := by decide +kernel
theorem dX6_isThrough_58 : decode cX6_isThrough 58 = .ok (.aload_n 0, 1) := by decide +kernel
theorem dX6_isThrough_59 : decode cX6_isThrough 59 = .ok (.getfield 27, 3) := by decide +kernel
theorem dX6_isThrough_62 : decode cX6_isThrough 62 = .ok (.iload_n 3, 1) := by decide +kernel
theorem dX6_isThrough_63 : decode cX6_isThrough 63 = .ok (.laload, 1) := by decide +kernel
theorem dX6_isThrough_64 : decode cX6_isThrough 64 = .ok (.lload 4, 2) := by decide +kernel
theorem dX6_isThrough_66 : decode cX6_isThrough 66 = .ok (.lmul, 1) := by decide +kernel
theorem dX6_isThrough_67 : decode cX6_isThrough 67 = .ok (.aload_n 0, 1) := by decide +kernel
theorem dX6_isThrough_68 : decode cX6_isThrough 68 = .ok (.getfield 31, 3) := by decide +kernel
theorem dX6_isThrough_71 : decode cX6_isThrough 71 = .ok (.iload_n 3, 1) := by decide +kernel
theorem dX6_isThrough_72 : decode cX6_isThrough 72 = .ok (.laload, 1) := by decide +kernel
theorem dX6_isThrough_73 : decode cX6_isThrough 73 = .ok (.lload 6, 2) := by decide +kernel
theorem dX6_isThrough_75 : decode cX6_isThrough 75 = .ok (.lmul, 1) := by decide +kernel
theorem dX6_isThrough_76 : decode cX6_isThrough 76 = .ok (.ladd, 1) := by decide +kernel
theorem dX6_isThrough_77 : decode cX6_isThrough 77 = .ok (.aload_n 0, 1) := by decide +kernel
theorem dX6_isThrough_78 : decode cX6_isThrough 78 = .ok (.getfield 34, 3) := by decide +kernel
theorem dX6_isThrough_81 : decode cX6_isThrough 81 = .ok (.iload_n 3, 1) := by decide +kernel
theorem dX6_isThrough_82 : decode cX6_isThrough 82 = .ok (.laload, 1) := by decide +kernel
theorem dX6_isThrough_83 : decode cX6_isThrough 83 = .ok (.aload_n 0, 1) := by decide +kernel
theorem dX6_isThrough_84 : decode cX6_isThrough 84 = .ok (.iload_n 1, 1) := by decide +kernel
theorem dX6_isThrough_85 : decode cX6_isThrough 85 = .ok (.iload_n 2, 1) := by decide +kernel
theorem dX6_isThrough_86 : decode cX6_isThrough 86 = .ok (.invokevirtual 171, 3) := by decide +kernel
theorem dX6_isThrough_89 : decode cX6_isThrough 89 = .ok (.lmul, 1) := by decide +kernel
theorem dX6_isThrough_90 : decode cX6_isThrough 90 = .ok (.lcmp, 1) := by decide +kernel
theorem dX6_isThrough_91 : decode cX6_isThrough 91 = .ok (.ifCond .ne 7, 3) := by decide +kernel
theorem dX6_isThrough_94 : decode cX6_isThrough 94 = .ok (.iconst 1, 1) := by decide +kernel
theorem dX6_isThrough_95 : decode cX6_isThrough 95 = .ok (.goto 4, 3) := by decide +kernel
theorem dX6_isThrough_98 : decode cX6_isThrough 98 = .ok (.iconst 0, 1) := by decide +kernel
theorem dX6_isThrough_99 : decode cX6_isThrough 99 = .ok (.ireturn, 1) := by decide +kernel
theorem dX6_lines_0 : decode cX6_lines 0 = .ok (.aload_n 0, 1) := by decide +kernel
theorem dX6_lines_1 : decode cX6_lines 1 = .ok (.iconst 0, 1) := by decide +kernel
theorem dX6_lines_2 : decode cX6_lines 2 = .ok (.putfield 1, 3) := by decide +kernel
theorem dX6_lines_5 : decode cX6_lines 5 = .ok (.iload_n 1, 1) := by decide +kernel
theorem dX6_lines_6 : decode cX6_lines 6 = .ok (.ifCond .lt 20, 3) := by decide +kernel
theorem dX6_lines_9 : decode cX6_lines 9 = .ok (.iload_n 1, 1) := by decide +kernel
theorem dX6_lines_10 : decode cX6_lines 10 = .ok (.aload_n 0, 1) := by decide +kernel
theorem dX6_lines_11 : decode cX6_lines 11 = .ok (.getfield 168, 3) := by decide +kernel
theorem dX6_lines_14 : decode cX6_lines 14 = .ok (.if_icmp .gt 12, 3) := by decide +kernel
theorem dX6_lines_17 : decode cX6_lines 17 = .ok (.iload_n 2, 1) := by decide +kernel
theorem dX6_lines_18 : decode cX6_lines 18 = .ok (.ifCond .lt 8, 3) := by decide +kernel
theorem dX6_lines_21 : decode cX6_lines 21 = .ok (.iload_n 2, 1) := by decide +kernel
theorem dX6_lines_22 : decode cX6_lines 22 = .ok (.iconst 5, 1) := by decide +kernel
theorem dX6_lines_23 : decode cX6_lines 23 = .ok (.if_icmp .le 6, 3) := by decide +kernel
theorem dX6_lines_26 : decode cX6_lines 26 = .ok (.bipush (-2), 2) := by decide +kernel
theorem dX6_lines_28 : decode cX6_lines 28 = .ok (.ireturn, 1) := by decide +kernel
theorem dX6_lines_29 : decode cX6_lines 29 = .ok (.iconst 0, 1) := by decide +kernel
theorem dX6_lines_30 : decode cX6_lines 30 = .ok (.istore_n 3, 1) := by decide +kernel
theorem dX6_lines_31 : decode cX6_lines 31 = .ok (.iconst 0, 1) := by decide +kernel
theorem dX6_lines_32 : decode cX6_lines 32 = .ok (.istore 4, 2) := by decide +kernel
theorem dX6_lines_34 : decode cX6_lines 34 = .ok (.iconst 0, 1) := by decide +kernel
theorem dX6_lines_35 : decode cX6_lines 35 = .ok (.istore 5, 2) := by decide +kernel
theorem dX6_lines_37 : decode cX6_lines 37 = .ok (.iconst 0, 1) := by decide +kernel
theorem dX6_lines_38 : decode cX6_lines 38 = .ok (.istore 6, 2) := by decide +kernel
theorem dX6_lines_40 : decode cX6_lines 40 = .ok (.iconst 0, 1) := by decide +kernel
theorem dX6_lines_41 : decode cX6_lines 41 = .ok (.istore 7, 2) := by decide +kernel
theorem dX6_lines_43 : decode cX6_lines 43 = .ok (.iconst 0, 1) := by decide +kernel
theorem dX6_lines_44 : decode cX6_lines 44 = .ok (.istore 8, 2) := by decide +kernel
theorem dX6_lines_46 : decode cX6_lines 46 = .ok (.iload 8, 2) := by decide +kernel
theorem dX6_lines_48 : decode cX6_lines 48 = .ok (.iload_n 1, 1) := by decide +kernel
theorem dX6_lines_49 : decode cX6_lines 49 = .ok (.if_icmp .ge 212, 3) := by decide +kernel
theorem dX6_lines_52 : decode cX6_lines 52 = .ok (.iload_n 3, 1) := by decide +kernel
theorem dX6_lines_53 : decode cX6_lines 53 = .ok (.aload_n 0, 1) := by decide +kernel
theorem dX6_lines_54 : decode cX6_lines 54 = .ok (.iload 8, 2) := by decide +kernel
theorem dX6_lines_56 : decode cX6_lines 56 = .ok (.invokevirtual 177, 3) := by decide +kernel
theorem dX6_lines_59 : decode cX6_lines 59 = .ok (.ifCond .eq 7, 3) := by decide +kernel
theorem dX6_lines_62 : decode cX6_lines 62 = .ok (.iconst 1, 1) := by decide +kernel
theorem dX6_lines_63 : decode cX6_lines 63 = .ok (.goto 4, 3) := by decide +kernel
theorem dX6_lines_66 : decode cX6_lines 66 = .ok (.iconst 0, 1) := by decide +kernel
theorem dX6_lines_67 : decode cX6_lines 67 = .ok (.iadd, 1) := by decide +kernel
theorem dX6_lines_68 : decode cX6_lines 68 = .ok (.istore_n 3, 1) := by decide +kernel
theorem dX6_lines_69 : decode cX6_lines 69 = .ok (.iload 8, 2) := by decide +kernel
theorem dX6_lines_71 : decode cX6_lines 71 = .ok (.iconst 1, 1) := by decide +kernel
theorem dX6_lines_72 : decode cX6_lines 72 = .ok (.iadd, 1) := by decide +kernel
theorem dX6_lines_73 : decode cX6_lines 73 = .ok (.istore 9, 2) := by decide +kernel
theorem dX6_lines_75 : decode cX6_lines 75 = .ok (.iload 9, 2) := by decide +kernel
theorem dX6_lines_77 : decode cX6_lines 77 = .ok (.iload_n 1, 1) := by decide +kernel
theorem dX6_lines_78 : decode cX6_lines 78 = .ok (.if_icmp .ge 177, 3) := by decide +kernel
theorem dX6_lines_81 : decode cX6_lines 81 = .ok (.aload_n 0, 1) := by decide +kernel
theorem dX6_lines_82 : decode cX6_lines 82 = .ok (.iload 8, 2) := by decide +kernel
theorem dX6_lines_84 : decode cX6_lines 84 = .ok (.invokevirtual 177, 3) := by decide +kernel
theorem dX6_lines_87 : decode cX6_lines 87 = .ok (.ifCond .eq 162, 3) := by decide +kernel
theorem dX6_lines_90 : decode cX6_lines 90 = .ok (.aload_n 0, 1) := by decide +kernel
theorem dX6_lines_91 : decode cX6_lines 91 = .ok (.iload 9, 2) := by decide +kernel
theorem dX6_lines_93 : decode cX6_lines 93 = .ok (.invokevirtual 177, 3) := by decide +kernel
theorem dX6_lines_96 : decode cX6_lines 96 = .ok (.ifCond .eq 153, 3) := by decide +kernel
theorem dX6_lines_99 : decode cX6_lines 99 = .ok (.aload_n 0, 1) := by decide +kernel
theorem dX6_lines_100 : decode cX6_lines 100 = .ok (.iload 8, 2) := by decide +kernel
theorem dX6_lines_102 : decode cX6_lines 102 = .ok (.iload 9, 2) := by decide +kernel
theorem dX6_lines_104 : decode cX6_lines 104 = .ok (.invokevirtual 171, 3) := by decide +kernel
theorem dX6_lines_107 : decode cX6_lines 107 = .ok (.lconst 0, 1) := by decide +kernel
theorem dX6_lines_108 : decode cX6_lines 108 = .ok (.lcmp, 1) := by decide +kernel
theorem dX6_lines_109 : decode cX6_lines 109 = .ok (.ifCond .ne 6, 3) := by decide +kernel
theorem dX6_lines_112 : decode cX6_lines 112 = .ok (.goto 137, 3) := by decide +kernel
theorem dX6_lines_115 : decode cX6_lines 115 = .ok (.iconst 0, 1) := by decide +kernel
theorem dX6_lines_116 : decode cX6_lines 116 = .ok (.istore 10, 2) := by decide +kernel
theorem dX6_lines_118 : decode cX6_lines 118 = .ok (.iconst 0, 1) := by decide +kernel
theorem dX6_lines_119 : decode cX6_lines 119 = .ok (.istore 11, 2) := by decide +kernel
theorem dX6_lines_121 : decode cX6_lines 121 = .ok (.iconst 0, 1) := by decide +kernel
theorem dX6_lines_122 : decode cX6_lines 122 = .ok (.istore 12, 2) := by decide +kernel
theorem dX6_lines_124 : decode cX6_lines 124 = .ok (.iload 12, 2) := by decide +kernel
theorem dX6_lines_126 : decode cX6_lines 126 = .ok (.iload_n 1, 1) := by decide +kernel
theorem dX6_lines_127 : decode cX6_lines 127 = .ok (.if_icmp .ge 82, 3) := by decide +kernel
theorem dX6_lines_130 : decode cX6_lines 130 = .ok (.aload_n 0, 1) := by decide +kernel
theorem dX6_lines_131 : decode cX6_lines 131 = .ok (.iload 12, 2) := by decide +kernel
theorem dX6_lines_133 : decode cX6_lines 133 = .ok (.invokevirtual 177, 3) := by decide +kernel
theorem dX6_lines_136 : decode cX6_lines 136 = .ok (.ifCond .eq 20, 3) := by decide +kernel
theorem dX6_lines_139 : decode cX6_lines 139 = .ok (.aload_n 0, 1) := by decide +kernel
theorem dX6_lines_140 : decode cX6_lines 140 = .ok (.iload 8, 2) := by decide +kernel
theorem dX6_lines_142 : decode cX6_lines 142 = .ok (.iload 9, 2) := by decide +kernel
theorem dX6_lines_144 : decode cX6_lines 144 = .ok (.iload 12, 2) := by decide +kernel
theorem dX6_lines_146 : decode cX6_lines 146 = .ok (.invokevirtual 180, 3) := by decide +kernel
theorem dX6_lines_149 : decode cX6_lines 149 = .ok (.ifCond .eq 7, 3) := by decide +kernel
theorem dX6_lines_152 : decode cX6_lines 152 = .ok (.iconst 1, 1) := by decide +kernel
theorem dX6_lines_153 : decode cX6_lines 153 = .ok (.goto 4, 3) := by decide +kernel
theorem dX6_lines_156 : decode cX6_lines 156 = .ok (.iconst 0, 1) := by decide +kernel
theorem dX6_lines_157 : decode cX6_lines 157 = .ok (.istore 13, 2) := by decide +kernel
theorem dX6_lines_159 : decode cX6_lines 159 = .ok (.iload 10, 2) := by decide +kernel
theorem dX6_lines_161 : decode cX6_lines 161 = .ok (.iload 13, 2) := by decide +kernel
theorem dX6_lines_163 : decode cX6_lines 163 = .ok (.ifCond .eq 21, 3) := by decide +kernel
theorem dX6_lines_166 : decode cX6_lines 166 = .ok (.iload 12, 2) := by decide +kernel
theorem dX6_lines_168 : decode cX6_lines 168 = .ok (.iload 9, 2) := by decide +kernel
theorem dX6_lines_170 : decode cX6_lines 170 = .ok (.if_icmp .ge 14, 3) := by decide +kernel
theorem dX6_lines_173 : decode cX6_lines 173 = .ok (.iload 12, 2) := by decide +kernel
theorem dX6_lines_175 : decode cX6_lines 175 = .ok (.iload 8, 2) := by decide +kernel
theorem dX6_lines_177 : decode cX6_lines 177 = .ok (.if_icmp .eq 7, 3) := by decide +kernel
theorem dX6_lines_180 : decode cX6_lines 180 = .ok (.iconst 1, 1) := by decide +kernel
theorem dX6_lines_181 : decode cX6_lines 181 = .ok (.goto 4, 3) := by decide +kernel
theorem dX6_lines_184 : decode cX6_lines 184 = .ok (.iconst 0, 1) := by decide +kernel
theorem dX6_lines_185 : decode cX6_lines 185 = .ok (.iadd, 1) := by decide +kernel
theorem dX6_lines_186 : decode cX6_lines 186 = .ok (.istore 10, 2) := by decide +kernel
theorem dX6_lines_188 : decode cX6_lines 188 = .ok (.iload 11, 2) := by decide +kernel
theorem dX6_lines_190 : decode cX6_lines 190 = .ok (.iload 13, 2) := by decide +kernel
theorem dX6_lines_192 : decode cX6_lines 192 = .ok (.ifCond .eq 7, 3) := by decide +kernel
theorem dX6_lines_195 : decode cX6_lines 195 = .ok (.iconst 1, 1) := by decide +kernel
theorem dX6_lines_196 : decode cX6_lines 196 = .ok (.goto 4, 3) := by decide +kernel
theorem dX6_lines_199 : decode cX6_lines 199 = .ok (.iconst 0, 1) := by decide +kernel
theorem dX6_lines_200 : decode cX6_lines 200 = .ok (.iadd, 1) := by decide +kernel
theorem dX6_lines_201 : decode cX6_lines 201 = .ok (.istore 11, 2) := by decide +kernel
theorem dX6_lines_203 : decode cX6_lines 203 = .ok (.iinc 12 1, 3) := by decide +kernel
theorem dX6_lines_206 : decode cX6_lines 206 = .ok (.goto (-82), 3) := by decide +kernel
theorem dX6_lines_209 : decode cX6_lines 209 = .ok (.iload 10, 2) := by decide +kernel
theorem dX6_lines_211 : decode cX6_lines 211 = .ok (.ifCond .ne 38, 3) := by decide +kernel
theorem dX6_lines_214 : decode cX6_lines 214 = .ok (.iinc 4 1, 3) := by decide +kernel
theorem dX6_lines_217 : decode cX6_lines 217 = .ok (.iload 5, 2) := by decide +kernel
theorem dX6_lines_219 : decode cX6_lines 219 = .ok (.iload 11, 2) := by decide +kernel
theorem dX6_lines_221 : decode cX6_lines 221 = .ok (.iconst 1, 1) := by decide +kernel
theorem dX6_lines_222 : decode cX6_lines 222 = .ok (.isub, 1) := by decide +kernel
theorem dX6_lines_223 : decode cX6_lines 223 = .ok (.iadd, 1) := by decide +kernel
theorem dX6_lines_224 : decode cX6_lines 224 = .ok (.istore 5, 2) := by decide +kernel
theorem dX6_lines_226 : decode cX6_lines 226 = .ok (.iload 7, 2) := by decide +kernel
theorem dX6_lines_228 : decode cX6_lines 228 = .ok (.iload 11, 2) := by decide +kernel
theorem dX6_lines_230 : decode cX6_lines 230 = .ok (.iadd, 1) := by decide +kernel
theorem dX6_lines_231 : decode cX6_lines 231 = .ok (.istore 7, 2) := by decide +kernel
theorem dX6_lines_233 : decode cX6_lines 233 = .ok (.iload 11, 2) := by decide +kernel
theorem dX6_lines_235 : decode cX6_lines 235 = .ok (.iload 6, 2) := by decide +kernel
theorem dX6_lines_237 : decode cX6_lines 237 = .ok (.if_icmp .le 8, 3) := by decide +kernel
theorem dX6_lines_240 : decode cX6_lines 240 = .ok (.iload 11, 2) := by decide +kernel
theorem dX6_lines_242 : decode cX6_lines 242 = .ok (.goto 5, 3) := by decide +kernel
theorem dX6_lines_245 : decode cX6_lines 245 = .ok (.iload 6, 2) := by decide +kernel
theorem dX6_lines_247 : decode cX6_lines 247 = .ok (.istore 6, 2) := by decide +kernel
theorem dX6_lines_249 : decode cX6_lines 249 = .ok (.iinc 9 1, 3) := by decide +kernel
theorem dX6_lines_252 : decode cX6_lines 252 = .ok (.goto (-177), 3) := by decide +kernel
theorem dX6_lines_255 : decode cX6_lines 255 = .ok (.iinc 8 1, 3) := by decide +kernel
theorem dX6_lines_258 : decode cX6_lines 258 = .ok (.goto (-212), 3) := by decide +kernel
theorem dX6_lines_261 : decode cX6_lines 261 = .ok (.iconst 1, 1) := by decide +kernel
theorem dX6_lines_262 : decode cX6_lines 262 = .ok (.iload_n 3, 1) := by decide +kernel
theorem dX6_lines_263 : decode cX6_lines 263 = .ok (.iadd, 1) := by decide +kernel
theorem dX6_lines_264 : decode cX6_lines 264 = .ok (.iload 5, 2) := by decide +kernel
theorem dX6_lines_266 : decode cX6_lines 266 = .ok (.iadd, 1) := by decide +kernel
theorem dX6_lines_267 : decode cX6_lines 267 = .ok (.istore 8, 2) := by decide +kernel
theorem dX6_lines_269 : decode cX6_lines 269 = .ok (.iload_n 2, 1) := by decide +kernel
theorem dX6_lines_270 : decode cX6_lines 270 = .ok (.tableswitch 63 0 4 #[34, 36, 39, 42, 47], 34) := by decide +kernel
theorem dX6_lines_304 : decode cX6_lines 304 = .ok (.iload_n 3, 1) := by decide +kernel
theorem dX6_lines_305 : decode cX6_lines 305 = .ok (.ireturn, 1) := by decide +kernel
theorem dX6_lines_306 : decode cX6_lines 306 = .ok (.iload 4, 2) := by decide +kernel
theorem dX6_lines_308 : decode cX6_lines 308 = .ok (.ireturn, 1) := by decide +kernel
theorem dX6_lines_309 : decode cX6_lines 309 = .ok (.iload 8, 2) := by decide +kernel
theorem dX6_lines_311 : decode cX6_lines 311 = .ok (.ireturn, 1) := by decide +kernel
theorem dX6_lines_312 : decode cX6_lines 312 = .ok (.iload_n 3, 1) := by decide +kernel
theorem dX6_lines_313 : decode cX6_lines 313 = .ok (.iload 7, 2) := by decide +kernel
theorem dX6_lines_315 : decode cX6_lines 315 = .ok (.iadd, 1) := by decide +kernel
theorem dX6_lines_316 : decode cX6_lines 316 = .ok (.ireturn, 1) := by decide +kernel
theorem dX6_lines_317 : decode cX6_lines 317 = .ok (.iload 4, 2) := by decide +kernel
theorem dX6_lines_319 : decode cX6_lines 319 = .ok (.ifCond .ne 7, 3) := by decide +kernel
theorem dX6_lines_322 : decode cX6_lines 322 = .ok (.iconst 0, 1) := by decide +kernel
theorem dX6_lines_323 : decode cX6_lines 323 = .ok (.goto 9, 3) := by decide +kernel
theorem dX6_lines_326 : decode cX6_lines 326 = .ok (.iload 8, 2) := by decide +kernel
theorem dX6_lines_328 : decode cX6_lines 328 = .ok (.iconst 2, 1) := by decide +kernel
theorem dX6_lines_329 : decode cX6_lines 329 = .ok (.iload_n 3, 1) := by decide +kernel
theorem dX6_lines_330 : decode cX6_lines 330 = .ok (.imul, 1) := by decide +kernel
theorem dX6_lines_331 : decode cX6_lines 331 = .ok (.isub, 1) := by decide +kernel
theorem dX6_lines_332 : decode cX6_lines 332 = .ok (.ireturn, 1) := by decide +kernel
theorem dX6_lines_333 : decode cX6_lines 333 = .ok (.iload 6, 2) := by decide +kernel
theorem dX6_lines_335 : decode cX6_lines 335 = .ok (.ireturn, 1) := by decide +kernel
theorem dX6_count_0 : decode cX6_count 0 = .ok (.aload_n 0, 1) := by decide +kernel
theorem dX6_count_1 : decode cX6_count 1 = .ok (.iconst 0, 1) := by decide +kernel
theorem dX6_count_2 : decode cX6_count 2 = .ok (.putfield 1, 3) := by decide +kernel
theorem dX6_count_5 : decode cX6_count 5 = .ok (.iload_n 1, 1) := by decide +kernel
theorem dX6_count_6 : decode cX6_count 6 = .ok (.ifCond .ne 10, 3) := by decide +kernel
theorem dX6_count_9 : decode cX6_count 9 = .ok (.aload_n 0, 1) := by decide +kernel
theorem dX6_count_10 : decode cX6_count 10 = .ok (.getfield 51, 3) := by decide +kernel
theorem dX6_count_13 : decode cX6_count 13 = .ok (.goto 49, 3) := by decide +kernel
theorem dX6_count_16 : decode cX6_count 16 = .ok (.iload_n 1, 1) := by decide +kernel
theorem dX6_count_17 : decode cX6_count 17 = .ok (.iconst 1, 1) := by decide +kernel
theorem dX6_count_18 : decode cX6_count 18 = .ok (.if_icmp .ne 10, 3) := by decide +kernel
theorem dX6_count_21 : decode cX6_count 21 = .ok (.aload_n 0, 1) := by decide +kernel
theorem dX6_count_22 : decode cX6_count 22 = .ok (.getfield 66, 3) := by decide +kernel
theorem dX6_count_25 : decode cX6_count 25 = .ok (.goto 37, 3) := by decide +kernel
theorem dX6_count_28 : decode cX6_count 28 = .ok (.iload_n 1, 1) := by decide +kernel
theorem dX6_count_29 : decode cX6_count 29 = .ok (.iconst 2, 1) := by decide +kernel
theorem dX6_count_30 : decode cX6_count 30 = .ok (.if_icmp .ne 10, 3) := by decide +kernel
theorem dX6_count_33 : decode cX6_count 33 = .ok (.aload_n 0, 1) := by decide +kernel
theorem dX6_count_34 : decode cX6_count 34 = .ok (.getfield 168, 3) := by decide +kernel
theorem dX6_count_37 : decode cX6_count 37 = .ok (.goto 25, 3) := by decide +kernel
theorem dX6_count_40 : decode cX6_count 40 = .ok (.iload_n 1, 1) := by decide +kernel
theorem dX6_count_41 : decode cX6_count 41 = .ok (.iconst 3, 1) := by decide +kernel
theorem dX6_count_42 : decode cX6_count 42 = .ok (.if_icmp .ne 18, 3) := by decide +kernel
theorem dX6_count_45 : decode cX6_count 45 = .ok (.aload_n 0, 1) := by decide +kernel
theorem dX6_count_46 : decode cX6_count 46 = .ok (.getfield 23, 3) := by decide +kernel
theorem dX6_count_49 : decode cX6_count 49 = .ok (.ifCond .eq 7, 3) := by decide +kernel
theorem dX6_count_52 : decode cX6_count 52 = .ok (.iconst 1, 1) := by decide +kernel
theorem dX6_count_53 : decode cX6_count 53 = .ok (.goto 9, 3) := by decide +kernel
theorem dX6_count_56 : decode cX6_count 56 = .ok (.iconst 0, 1) := by decide +kernel
theorem dX6_count_57 : decode cX6_count 57 = .ok (.goto 5, 3) := by decide +kernel
theorem dX6_count_60 : decode cX6_count 60 = .ok (.bipush (-2), 2) := by decide +kernel
theorem dX6_count_62 : decode cX6_count 62 = .ok (.ireturn, 1) := by decide +kernel
theorem dJx00060_init_a7421_0 : decode cJx00060_init_a7421 0 = .ok (.aload_n 0, 1) := by decide +kernel
theorem dJx00060_init_a7421_1 : decode cJx00060_init_a7421 1 = .ok (.aload_n 1, 1) := by decide +kernel
theorem dJx00060_init_a7421_2 : decode cJx00060_init_a7421 2 = .ok (.invokespecial 7, 3) := by decide +kernel
theorem dJx00060_init_a7421_5 : decode cJx00060_init_a7421 5 = .ok (.return_, 1) := by decide +kernel
theorem dJ6_compare_7cf53_0 : decode cJ6_compare_7cf53 0 = .ok (.iload_n 0, 1) := by decide +kernel
theorem dJ6_compare_7cf53_1 : decode cJ6_compare_7cf53 1 = .ok (.iload_n 1, 1) := by decide +kernel
theorem dJ6_compare_7cf53_2 : decode cJ6_compare_7cf53 2 = .ok (.if_icmp .ge 7, 3) := by decide +kernel
theorem dJ6_compare_7cf53_5 : decode cJ6_compare_7cf53 5 = .ok (.iconst (-1), 1) := by decide +kernel
theorem dJ6_compare_7cf53_6 : decode cJ6_compare_7cf53 6 = .ok (.goto 13, 3) := by decide +kernel
theorem dJ6_compare_7cf53_9 : decode cJ6_compare_7cf53 9 = .ok (.iload_n 0, 1) := by decide +kernel
theorem dJ6_compare_7cf53_10 : decode cJ6_compare_7cf53 10 = .ok (.iload_n 1, 1) := by decide +kernel
theorem dJ6_compare_7cf53_11 : decode cJ6_compare_7cf53 11 = .ok (.if_icmp .ne 7, 3) := by decide +kernel
theorem dJ6_compare_7cf53_14 : decode cJ6_compare_7cf53 14 = .ok (.iconst 0, 1) := by decide +kernel
theorem dJ6_compare_7cf53_15 : decode cJ6_compare_7cf53 15 = .ok (.goto 4, 3) := by decide +kernel
theorem dJ6_compare_7cf53_18 : decode cJ6_compare_7cf53 18 = .ok (.iconst 1, 1) := by decide +kernel
theorem dJ6_compare_7cf53_19 : decode cJ6_compare_7cf53 19 = .ok (.ireturn, 1) := by decide +kernel
theorem dJ13_compare_74951_0 : decode cJ13_compare_74951 0 = .ok (.lload_n 0, 1) := by decide +kernel
theorem dJ13_compare_74951_1 : decode cJ13_compare_74951 1 = .ok (.lload_n 2, 1) := by decide +kernel
theorem dJ13_compare_74951_2 : decode cJ13_compare_74951 2 = .ok (.lcmp, 1) := by decide +kernel
theorem dJ13_compare_74951_3 : decode cJ13_compare_74951 3 = .ok (.ifCond .ge 7, 3) := by decide +kernel
theorem dJ13_compare_74951_6 : decode cJ13_compare_74951 6 = .ok (.iconst (-1), 1) := by decide +kernel
theorem dJ13_compare_74951_7 : decode cJ13_compare_74951 7 = .ok (.goto 14, 3) := by decide +kernel
theorem dJ13_compare_74951_10 : decode cJ13_compare_74951 10 = .ok (.lload_n 0, 1) := by decide +kernel
theorem dJ13_compare_74951_11 : decode cJ13_compare_74951 11 = .ok (.lload_n 2, 1) := by decide +kernel
theorem dJ13_compare_74951_12 : decode cJ13_compare_74951 12 = .ok (.lcmp, 1) := by decide +kernel
theorem dJ13_compare_74951_13 : decode cJ13_compare_74951 13 = .ok (.ifCond .ne 7, 3) := by decide +kernel
theorem dJ13_compare_74951_16 : decode cJ13_compare_74951 16 = .ok (.iconst 0, 1) := by decide +kernel
theorem dJ13_compare_74951_17 : decode cJ13_compare_74951 17 = .ok (.goto 4, 3) := by decide +kernel
theorem dJ13_compare_74951_20 : decode cJ13_compare_74951 20 = .ok (.iconst 1, 1) := by decide +kernel
theorem dJ13_compare_74951_21 : decode cJ13_compare_74951 21 = .ok (.ireturn, 1) := by decide +kernel
theorem dJ9_max_7cf53_0 : decode cJ9_max_7cf53 0 = .ok (.iload_n 0, 1) := by decide +kernel
theorem dJ9_max_7cf53_1 : decode cJ9_max_7cf53 1 = .ok (.iload_n 1, 1) := by decide +kernel
theorem dJ9_max_7cf53_2 : decode cJ9_max_7cf53 2 = .ok (.if_icmp .lt 7, 3) := by decide +kernel
theorem dJ9_max_7cf53_5 : decode cJ9_max_7cf53 5 = .ok (.iload_n 0, 1) := by decide +kernel
theorem dJ9_max_7cf53_6 : decode cJ9_max_7cf53 6 = .ok (.goto 4, 3) := by decide +kernel
theorem dJ9_max_7cf53_9 : decode cJ9_max_7cf53 9 = .ok (.iload_n 1, 1) := by decide +kernel
theorem dJ9_max_7cf53_10 : decode cJ9_max_7cf53 10 = .ok (.ireturn, 1) := by decide +kernel
theorem dJ9_min_7cf53_0 : decode cJ9_min_7cf53 0 = .ok (.iload_n 0, 1) := by decide +kernel
theorem dJ9_min_7cf53_1 : decode cJ9_min_7cf53 1 = .ok (.iload_n 1, 1) := by decide +kernel
theorem dJ9_min_7cf53_2 : decode cJ9_min_7cf53 2 = .ok (.if_icmp .gt 7, 3) := by decide +kernel
theorem dJ9_min_7cf53_5 : decode cJ9_min_7cf53 5 = .ok (.iload_n 0, 1) := by decide +kernel
theorem dJ9_min_7cf53_6 : decode cJ9_min_7cf53 6 = .ok (.goto 4, 3) := by decide +kernel
theorem dJ9_min_7cf53_9 : decode cJ9_min_7cf53 9 = .ok (.iload_n 1, 1) := by decide +kernel
theorem dJ9_min_7cf53_10 : decode cJ9_min_7cf53 10 = .ok (.ireturn, 1) := by decide +kernel
theorem dJxde1cd_init_a7421_0 : decode cJxde1cd_init_a7421 0 = .ok (.aload_n 0, 1) := by decide +kernel
theorem dJxde1cd_init_a7421_1 : decode cJxde1cd_init_a7421 1 = .ok (.aload_n 1, 1) := by decide +kernel
theorem dJxde1cd_init_a7421_2 : decode cJxde1cd_init_a7421 2 = .ok (.invokespecial 7, 3) := by decide +kernel
theorem dJxde1cd_init_a7421_5 : decode cJxde1cd_init_a7421 5 = .ok (.return_, 1) := by decide +kernel
theorem dJx5d777_init_da8c8_0 : decode cJx5d777_init_da8c8 0 = .ok (.aload_n 0, 1) := by decide +kernel
theorem dJx5d777_init_da8c8_1 : decode cJx5d777_init_da8c8 1 = .ok (.invokespecial 1, 3) := by decide +kernel
theorem dJx5d777_init_da8c8_4 : decode cJx5d777_init_da8c8 4 = .ok (.return_, 1) := by decide +kernel
theorem dJx5d777_init_a7421_0 : decode cJx5d777_init_a7421 0 = .ok (.aload_n 0, 1) := by decide +kernel
theorem dJx5d777_init_a7421_1 : decode cJx5d777_init_a7421 1 = .ok (.aload_n 1, 1) := by decide +kernel
theorem dJx5d777_init_a7421_2 : decode cJx5d777_init_a7421 2 = .ok (.invokespecial 7, 3) := by decide +kernel
theorem dJx5d777_init_a7421_5 : decode cJx5d777_init_a7421 5 = .ok (.return_, 1) := by decide +kernel
theorem dJx5d777_fillInStackTrace_cddbd_0 : decode cJx5d777_fillInStackTrace_cddbd 0 = .ok (.aload_n 0, 1) := by decide +kernel
theorem dJx5d777_fillInStackTrace_cddbd_1 : decode cJx5d777_fillInStackTrace_cddbd 1 = .ok (.getfield 10, 3) := by decide +kernel
theorem dJx5d777_fillInStackTrace_cddbd_4 : decode cJx5d777_fillInStackTrace_cddbd 4 = .ok (.ifCond .ne 11, 3) := by decide +kernel
theorem dJx5d777_fillInStackTrace_cddbd_7 : decode cJx5d777_fillInStackTrace_cddbd 7 = .ok (.aload_n 0, 1) := by decide +kernel
theorem dJx5d777_fillInStackTrace_cddbd_8 : decode cJx5d777_fillInStackTrace_cddbd 8 = .ok (.iconst 1, 1) := by decide +kernel
theorem dJx5d777_fillInStackTrace_cddbd_9 : decode cJx5d777_fillInStackTrace_cddbd 9 = .ok (.putfield 10, 3) := by decide +kernel
theorem dJx5d777_fillInStackTrace_cddbd_12 : decode cJx5d777_fillInStackTrace_cddbd 12 = .ok (.goto 24, 3) := by decide +kernel
theorem dJx5d777_fillInStackTrace_cddbd_15 : decode cJx5d777_fillInStackTrace_cddbd 15 = .ok (.aload_n 0, 1) := by decide +kernel
theorem dJx5d777_fillInStackTrace_cddbd_16 : decode cJx5d777_fillInStackTrace_cddbd 16 = .ok (.getfield 10, 3) := by decide +kernel
theorem dJx5d777_fillInStackTrace_cddbd_19 : decode cJx5d777_fillInStackTrace_cddbd 19 = .ok (.iconst 1, 1) := by decide +kernel
theorem dJx5d777_fillInStackTrace_cddbd_20 : decode cJx5d777_fillInStackTrace_cddbd 20 = .ok (.if_icmp .ne 16, 3) := by decide +kernel
theorem dJx5d777_fillInStackTrace_cddbd_23 : decode cJx5d777_fillInStackTrace_cddbd 23 = .ok (.aload_n 0, 1) := by decide +kernel
theorem dJx5d777_fillInStackTrace_cddbd_24 : decode cJx5d777_fillInStackTrace_cddbd 24 = .ok (.aload_n 0, 1) := by decide +kernel
theorem dJx5d777_fillInStackTrace_cddbd_25 : decode cJx5d777_fillInStackTrace_cddbd 25 = .ok (.invokevirtual 16, 3) := by decide +kernel
theorem dJx5d777_fillInStackTrace_cddbd_28 : decode cJx5d777_fillInStackTrace_cddbd 28 = .ok (.putfield 20, 3) := by decide +kernel
theorem dJx5d777_fillInStackTrace_cddbd_31 : decode cJx5d777_fillInStackTrace_cddbd 31 = .ok (.aload_n 0, 1) := by decide +kernel
theorem dJx5d777_fillInStackTrace_cddbd_32 : decode cJx5d777_fillInStackTrace_cddbd 32 = .ok (.iconst 2, 1) := by decide +kernel
theorem dJx5d777_fillInStackTrace_cddbd_33 : decode cJx5d777_fillInStackTrace_cddbd 33 = .ok (.putfield 10, 3) := by decide +kernel
theorem dJx5d777_fillInStackTrace_cddbd_36 : decode cJx5d777_fillInStackTrace_cddbd 36 = .ok (.aload_n 0, 1) := by decide +kernel
theorem dJx5d777_fillInStackTrace_cddbd_37 : decode cJx5d777_fillInStackTrace_cddbd 37 = .ok (.invokespecial 24, 3) := by decide +kernel
theorem dJx5d777_fillInStackTrace_cddbd_40 : decode cJx5d777_fillInStackTrace_cddbd 40 = .ok (.areturn, 1) := by decide +kernel
theorem dL_size_0 : decode cL_size 0 = .ok (.aload_n 2, 1) := by decide +kernel
theorem dL_size_1 : decode cL_size 1 = .ok (.iconst 0, 1) := by decide +kernel
theorem dL_size_2 : decode cL_size 2 = .ok (.aload_n 0, 1) := by decide +kernel
theorem dL_size_3 : decode cL_size 3 = .ok (.iload_n 1, 1) := by decide +kernel
theorem dL_size_4 : decode cL_size 4 = .ok (.invokevirtual 7, 3) := by decide +kernel
theorem dL_size_7 : decode cL_size 7 = .ok (.i2l, 1) := by decide +kernel
theorem dL_size_8 : decode cL_size 8 = .ok (.lastore, 1) := by decide +kernel
theorem dL_size_9 : decode cL_size 9 = .ok (.goto 6, 3) := by decide +kernel
theorem dL_size_12 : decode cL_size 12 = .ok (.astore_n 3, 1) := by decide +kernel
theorem dL_size_13 : decode cL_size 13 = .ok (.iconst 1, 1) := by decide +kernel
theorem dL_size_14 : decode cL_size 14 = .ok (.ireturn, 1) := by decide +kernel
theorem dL_size_15 : decode cL_size 15 = .ok (.iconst 0, 1) := by decide +kernel
theorem dL_size_16 : decode cL_size 16 = .ok (.ireturn, 1) := by decide +kernel
theorem dL_of_0 : decode cL_of 0 = .ok (.aload_n 3, 1) := by decide +kernel
theorem dL_of_1 : decode cL_of 1 = .ok (.iconst 0, 1) := by decide +kernel
theorem dL_of_2 : decode cL_of 2 = .ok (.aload_n 0, 1) := by decide +kernel
theorem dL_of_3 : decode cL_of 3 = .ok (.iload_n 1, 1) := by decide +kernel
theorem dL_of_4 : decode cL_of 4 = .ok (.iload_n 2, 1) := by decide +kernel
theorem dL_of_5 : decode cL_of 5 = .ok (.invokevirtual 15, 3) := by decide +kernel
theorem dL_of_8 : decode cL_of 8 = .ok (.i2l, 1) := by decide +kernel
theorem dL_of_9 : decode cL_of 9 = .ok (.lastore, 1) := by decide +kernel
theorem dL_of_10 : decode cL_of 10 = .ok (.goto 7, 3) := by decide +kernel
theorem dL_of_13 : decode cL_of 13 = .ok (.astore 4, 2) := by decide +kernel
theorem dL_of_15 : decode cL_of 15 = .ok (.iconst 1, 1) := by decide +kernel
theorem dL_of_16 : decode cL_of 16 = .ok (.ireturn, 1) := by decide +kernel
theorem dL_of_17 : decode cL_of 17 = .ok (.iconst 0, 1) := by decide +kernel
theorem dL_of_18 : decode cL_of 18 = .ok (.ireturn, 1) := by decide +kernel
theorem dL_at_0 : decode cL_at 0 = .ok (.aload_n 3, 1) := by decide +kernel
theorem dL_at_1 : decode cL_at 1 = .ok (.iconst 0, 1) := by decide +kernel
theorem dL_at_2 : decode cL_at 2 = .ok (.aload_n 0, 1) := by decide +kernel
theorem dL_at_3 : decode cL_at 3 = .ok (.iload_n 1, 1) := by decide +kernel
theorem dL_at_4 : decode cL_at 4 = .ok (.iload_n 2, 1) := by decide +kernel
theorem dL_at_5 : decode cL_at 5 = .ok (.invokevirtual 21, 3) := by decide +kernel
theorem dL_at_8 : decode cL_at 8 = .ok (.i2l, 1) := by decide +kernel
theorem dL_at_9 : decode cL_at 9 = .ok (.lastore, 1) := by decide +kernel
theorem dL_at_10 : decode cL_at 10 = .ok (.goto 11, 3) := by decide +kernel
theorem dL_at_13 : decode cL_at 13 = .ok (.astore 4, 2) := by decide +kernel
theorem dL_at_15 : decode cL_at 15 = .ok (.iconst 1, 1) := by decide +kernel
theorem dL_at_16 : decode cL_at 16 = .ok (.ireturn, 1) := by decide +kernel
theorem dL_at_17 : decode cL_at 17 = .ok (.astore 4, 2) := by decide +kernel
theorem dL_at_19 : decode cL_at 19 = .ok (.iconst 2, 1) := by decide +kernel
theorem dL_at_20 : decode cL_at 20 = .ok (.ireturn, 1) := by decide +kernel
theorem dL_at_21 : decode cL_at 21 = .ok (.iconst 0, 1) := by decide +kernel
theorem dL_at_22 : decode cL_at 22 = .ok (.ireturn, 1) := by decide +kernel
theorem dL_area_0 : decode cL_area 0 = .ok (.aload 4, 2) := by decide +kernel
theorem dL_area_2 : decode cL_area 2 = .ok (.iconst 0, 1) := by decide +kernel
theorem dL_area_3 : decode cL_area 3 = .ok (.aload_n 0, 1) := by decide +kernel
theorem dL_area_4 : decode cL_area 4 = .ok (.iload_n 1, 1) := by decide +kernel
theorem dL_area_5 : decode cL_area 5 = .ok (.lload_n 2, 1) := by decide +kernel
theorem dL_area_6 : decode cL_area 6 = .ok (.invokevirtual 26, 3) := by decide +kernel
theorem dL_area_9 : decode cL_area 9 = .ok (.lastore, 1) := by decide +kernel
theorem dL_area_10 : decode cL_area 10 = .ok (.goto 7, 3) := by decide +kernel
theorem dL_area_13 : decode cL_area 13 = .ok (.astore 5, 2) := by decide +kernel
theorem dL_area_15 : decode cL_area 15 = .ok (.iconst 1, 1) := by decide +kernel
theorem dL_area_16 : decode cL_area 16 = .ok (.ireturn, 1) := by decide +kernel
theorem dL_area_17 : decode cL_area 17 = .ok (.iconst 0, 1) := by decide +kernel
theorem dL_area_18 : decode cL_area 18 = .ok (.ireturn, 1) := by decide +kernel
theorem dL_law_0 : decode cL_law 0 = .ok (.new 8, 3) := by decide +kernel
theorem dL_law_3 : decode cL_law 3 = .ok (.dup, 1) := by decide +kernel
theorem dL_law_4 : decode cL_law 4 = .ok (.invokespecial 32, 3) := by decide +kernel
theorem dL_law_7 : decode cL_law 7 = .ok (.astore_n 1, 1) := by decide +kernel
theorem dL_law_8 : decode cL_law 8 = .ok (.new 33, 3) := by decide +kernel
theorem dL_law_11 : decode cL_law 11 = .ok (.dup, 1) := by decide +kernel
theorem dL_law_12 : decode cL_law 12 = .ok (.invokespecial 35, 3) := by decide +kernel
theorem dL_law_15 : decode cL_law 15 = .ok (.astore_n 2, 1) := by decide +kernel
theorem dL_law_16 : decode cL_law 16 = .ok (.iconst 1, 1) := by decide +kernel
theorem dL_law_17 : decode cL_law 17 = .ok (.newarray .long, 2) := by decide +kernel
theorem dL_law_19 : decode cL_law 19 = .ok (.astore_n 3, 1) := by decide +kernel
theorem dL_law_20 : decode cL_law 20 = .ok (.iconst 0, 1) := by decide +kernel
theorem dL_law_21 : decode cL_law 21 = .ok (.istore 4, 2) := by decide +kernel
theorem dL_law_23 : decode cL_law 23 = .ok (.iload 4, 2) := by decide +kernel
theorem dL_law_25 : decode cL_law 25 = .ok (.aload_n 0, 1) := by decide +kernel
theorem dL_law_26 : decode cL_law 26 = .ok (.arraylength, 1) := by decide +kernel
theorem dL_law_27 : decode cL_law 27 = .ok (.bipush 7, 2) := by decide +kernel
theorem dL_law_29 : decode cL_law 29 = .ok (.isub, 1) := by decide +kernel
theorem dL_law_30 : decode cL_law 30 = .ok (.if_icmp .gt 1287, 3) := by decide +kernel
theorem dL_law_33 : decode cL_law 33 = .ok (.aload_n 0, 1) := by decide +kernel
theorem dL_law_34 : decode cL_law 34 = .ok (.iload 4, 2) := by decide +kernel
theorem dL_law_36 : decode cL_law 36 = .ok (.iaload, 1) := by decide +kernel
end
section
theorem dL_law_37 : decode cL_law 37 = .ok (.bipush 31, 2) := by decide +kernel
theorem dL_law_39 : decode cL_law 39 = .ok (.iand, 1) := by decide +kernel
theorem dL_law_40 : decode cL_law 40 = .ok (.tableswitch 1271 0 21 #[104, 251, 307, 375, 443, 492, 553, 594, 619, 668, 729, 790, 851, 876, 913, 950, 987, 1036, 1073, 1172, 1209, 1246], 104) := by decide +kernel
theorem dL_law_144 : decode cL_law 144 = .ok (.aload_n 1, 1) := by decide +kernel
theorem dL_law_145 : decode cL_law 145 = .ok (.aload_n 0, 1) := by decide +kernel
theorem dL_law_146 : decode cL_law 146 = .ok (.iload 4, 2) := by decide +kernel
theorem dL_law_148 : decode cL_law 148 = .ok (.iconst 1, 1) := by decide +kernel
theorem dL_law_149 : decode cL_law 149 = .ok (.iadd, 1) := by decide +kernel
theorem dL_law_150 : decode cL_law 150 = .ok (.iaload, 1) := by decide +kernel
theorem dL_law_151 : decode cL_law 151 = .ok (.i2l, 1) := by decide +kernel
theorem dL_law_152 : decode cL_law 152 = .ok (.bipush 32, 2) := by decide +kernel
theorem dL_law_154 : decode cL_law 154 = .ok (.lshl, 1) := by decide +kernel
theorem dL_law_155 : decode cL_law 155 = .ok (.aload_n 0, 1) := by decide +kernel
theorem dL_law_156 : decode cL_law 156 = .ok (.iload 4, 2) := by decide +kernel
theorem dL_law_158 : decode cL_law 158 = .ok (.iconst 2, 1) := by decide +kernel
theorem dL_law_159 : decode cL_law 159 = .ok (.iadd, 1) := by decide +kernel
theorem dL_law_160 : decode cL_law 160 = .ok (.iaload, 1) := by decide +kernel
theorem dL_law_161 : decode cL_law 161 = .ok (.i2l, 1) := by decide +kernel
theorem dL_law_162 : decode cL_law 162 = .ok (.ldc2_w 36, 3) := by decide +kernel
theorem dL_law_165 : decode cL_law 165 = .ok (.land, 1) := by decide +kernel
theorem dL_law_166 : decode cL_law 166 = .ok (.lor, 1) := by decide +kernel
theorem dL_law_167 : decode cL_law 167 = .ok (.aload_n 0, 1) := by decide +kernel
theorem dL_law_168 : decode cL_law 168 = .ok (.iload 4, 2) := by decide +kernel
theorem dL_law_170 : decode cL_law 170 = .ok (.iconst 3, 1) := by decide +kernel
theorem dL_law_171 : decode cL_law 171 = .ok (.iadd, 1) := by decide +kernel
theorem dL_law_172 : decode cL_law 172 = .ok (.iaload, 1) := by decide +kernel
theorem dL_law_173 : decode cL_law 173 = .ok (.i2l, 1) := by decide +kernel
theorem dL_law_174 : decode cL_law 174 = .ok (.bipush 32, 2) := by decide +kernel
theorem dL_law_176 : decode cL_law 176 = .ok (.lshl, 1) := by decide +kernel
theorem dL_law_177 : decode cL_law 177 = .ok (.aload_n 0, 1) := by decide +kernel
theorem dL_law_178 : decode cL_law 178 = .ok (.iload 4, 2) := by decide +kernel
theorem dL_law_180 : decode cL_law 180 = .ok (.iconst 4, 1) := by decide +kernel
theorem dL_law_181 : decode cL_law 181 = .ok (.iadd, 1) := by decide +kernel
theorem dL_law_182 : decode cL_law 182 = .ok (.iaload, 1) := by decide +kernel
theorem dL_law_183 : decode cL_law 183 = .ok (.i2l, 1) := by decide +kernel
theorem dL_law_184 : decode cL_law 184 = .ok (.ldc2_w 36, 3) := by decide +kernel
theorem dL_law_187 : decode cL_law 187 = .ok (.land, 1) := by decide +kernel
theorem dL_law_188 : decode cL_law 188 = .ok (.lor, 1) := by decide +kernel
theorem dL_law_189 : decode cL_law 189 = .ok (.aload_n 0, 1) := by decide +kernel
theorem dL_law_190 : decode cL_law 190 = .ok (.iload 4, 2) := by decide +kernel
theorem dL_law_192 : decode cL_law 192 = .ok (.iconst 5, 1) := by decide +kernel
theorem dL_law_193 : decode cL_law 193 = .ok (.iadd, 1) := by decide +kernel
theorem dL_law_194 : decode cL_law 194 = .ok (.iaload, 1) := by decide +kernel
theorem dL_law_195 : decode cL_law 195 = .ok (.i2l, 1) := by decide +kernel
theorem dL_law_196 : decode cL_law 196 = .ok (.bipush 32, 2) := by decide +kernel
theorem dL_law_198 : decode cL_law 198 = .ok (.lshl, 1) := by decide +kernel
theorem dL_law_199 : decode cL_law 199 = .ok (.aload_n 0, 1) := by decide +kernel
theorem dL_law_200 : decode cL_law 200 = .ok (.iload 4, 2) := by decide +kernel
theorem dL_law_202 : decode cL_law 202 = .ok (.bipush 6, 2) := by decide +kernel
theorem dL_law_204 : decode cL_law 204 = .ok (.iadd, 1) := by decide +kernel
theorem dL_law_205 : decode cL_law 205 = .ok (.iaload, 1) := by decide +kernel
theorem dL_law_206 : decode cL_law 206 = .ok (.i2l, 1) := by decide +kernel
theorem dL_law_207 : decode cL_law 207 = .ok (.ldc2_w 36, 3) := by decide +kernel
theorem dL_law_210 : decode cL_law 210 = .ok (.land, 1) := by decide +kernel
theorem dL_law_211 : decode cL_law 211 = .ok (.lor, 1) := by decide +kernel
theorem dL_law_212 : decode cL_law 212 = .ok (.invokevirtual 38, 3) := by decide +kernel
theorem dL_law_215 : decode cL_law 215 = .ok (.aload_n 2, 1) := by decide +kernel
theorem dL_law_216 : decode cL_law 216 = .ok (.aload_n 0, 1) := by decide +kernel
theorem dL_law_217 : decode cL_law 217 = .ok (.iload 4, 2) := by decide +kernel
theorem dL_law_219 : decode cL_law 219 = .ok (.iconst 1, 1) := by decide +kernel
theorem dL_law_220 : decode cL_law 220 = .ok (.iadd, 1) := by decide +kernel
theorem dL_law_221 : decode cL_law 221 = .ok (.iaload, 1) := by decide +kernel
theorem dL_law_222 : decode cL_law 222 = .ok (.i2l, 1) := by decide +kernel
theorem dL_law_223 : decode cL_law 223 = .ok (.bipush 32, 2) := by decide +kernel
theorem dL_law_225 : decode cL_law 225 = .ok (.lshl, 1) := by decide +kernel
theorem dL_law_226 : decode cL_law 226 = .ok (.aload_n 0, 1) := by decide +kernel
theorem dL_law_227 : decode cL_law 227 = .ok (.iload 4, 2) := by decide +kernel
theorem dL_law_229 : decode cL_law 229 = .ok (.iconst 2, 1) := by decide +kernel
theorem dL_law_230 : decode cL_law 230 = .ok (.iadd, 1) := by decide +kernel
theorem dL_law_231 : decode cL_law 231 = .ok (.iaload, 1) := by decide +kernel
theorem dL_law_232 : decode cL_law 232 = .ok (.i2l, 1) := by decide +kernel
theorem dL_law_233 : decode cL_law 233 = .ok (.ldc2_w 36, 3) := by decide +kernel
theorem dL_law_236 : decode cL_law 236 = .ok (.land, 1) := by decide +kernel
theorem dL_law_237 : decode cL_law 237 = .ok (.lor, 1) := by decide +kernel
theorem dL_law_238 : decode cL_law 238 = .ok (.aload_n 0, 1) := by decide +kernel
theorem dL_law_239 : decode cL_law 239 = .ok (.iload 4, 2) := by decide +kernel
theorem dL_law_241 : decode cL_law 241 = .ok (.iconst 3, 1) := by decide +kernel
theorem dL_law_242 : decode cL_law 242 = .ok (.iadd, 1) := by decide +kernel
theorem dL_law_243 : decode cL_law 243 = .ok (.iaload, 1) := by decide +kernel
theorem dL_law_244 : decode cL_law 244 = .ok (.i2l, 1) := by decide +kernel
theorem dL_law_245 : decode cL_law 245 = .ok (.bipush 32, 2) := by decide +kernel
theorem dL_law_247 : decode cL_law 247 = .ok (.lshl, 1) := by decide +kernel
theorem dL_law_248 : decode cL_law 248 = .ok (.aload_n 0, 1) := by decide +kernel
theorem dL_law_249 : decode cL_law 249 = .ok (.iload 4, 2) := by decide +kernel
theorem dL_law_251 : decode cL_law 251 = .ok (.iconst 4, 1) := by decide +kernel
theorem dL_law_252 : decode cL_law 252 = .ok (.iadd, 1) := by decide +kernel
theorem dL_law_253 : decode cL_law 253 = .ok (.iaload, 1) := by decide +kernel
theorem dL_law_254 : decode cL_law 254 = .ok (.i2l, 1) := by decide +kernel
theorem dL_law_255 : decode cL_law 255 = .ok (.ldc2_w 36, 3) := by decide +kernel
theorem dL_law_258 : decode cL_law 258 = .ok (.land, 1) := by decide +kernel
theorem dL_law_259 : decode cL_law 259 = .ok (.lor, 1) := by decide +kernel
theorem dL_law_260 : decode cL_law 260 = .ok (.aload_n 0, 1) := by decide +kernel
theorem dL_law_261 : decode cL_law 261 = .ok (.iload 4, 2) := by decide +kernel
theorem dL_law_263 : decode cL_law 263 = .ok (.iconst 5, 1) := by decide +kernel
theorem dL_law_264 : decode cL_law 264 = .ok (.iadd, 1) := by decide +kernel
theorem dL_law_265 : decode cL_law 265 = .ok (.iaload, 1) := by decide +kernel
theorem dL_law_266 : decode cL_law 266 = .ok (.i2l, 1) := by decide +kernel
theorem dL_law_267 : decode cL_law 267 = .ok (.bipush 32, 2) := by decide +kernel
theorem dL_law_269 : decode cL_law 269 = .ok (.lshl, 1) := by decide +kernel
theorem dL_law_270 : decode cL_law 270 = .ok (.aload_n 0, 1) := by decide +kernel
theorem dL_law_271 : decode cL_law 271 = .ok (.iload 4, 2) := by decide +kernel
theorem dL_law_273 : decode cL_law 273 = .ok (.bipush 6, 2) := by decide +kernel
theorem dL_law_275 : decode cL_law 275 = .ok (.iadd, 1) := by decide +kernel
theorem dL_law_276 : decode cL_law 276 = .ok (.iaload, 1) := by decide +kernel
theorem dL_law_277 : decode cL_law 277 = .ok (.i2l, 1) := by decide +kernel
theorem dL_law_278 : decode cL_law 278 = .ok (.ldc2_w 36, 3) := by decide +kernel
theorem dL_law_281 : decode cL_law 281 = .ok (.land, 1) := by decide +kernel
theorem dL_law_282 : decode cL_law 282 = .ok (.lor, 1) := by decide +kernel
theorem dL_law_283 : decode cL_law 283 = .ok (.invokevirtual 42, 3) := by decide +kernel
theorem dL_law_286 : decode cL_law 286 = .ok (.if_icmp .eq 1025, 3) := by decide +kernel
theorem dL_law_289 : decode cL_law 289 = .ok (.iconst 0, 1) := by decide +kernel
theorem dL_law_290 : decode cL_law 290 = .ok (.ireturn, 1) := by decide +kernel
theorem dL_law_291 : decode cL_law 291 = .ok (.aload_n 1, 1) := by decide +kernel
theorem dL_law_292 : decode cL_law 292 = .ok (.aload_n 0, 1) := by decide +kernel
theorem dL_law_293 : decode cL_law 293 = .ok (.iload 4, 2) := by decide +kernel
theorem dL_law_295 : decode cL_law 295 = .ok (.iconst 1, 1) := by decide +kernel
theorem dL_law_296 : decode cL_law 296 = .ok (.iadd, 1) := by decide +kernel
theorem dL_law_297 : decode cL_law 297 = .ok (.iaload, 1) := by decide +kernel
theorem dL_law_298 : decode cL_law 298 = .ok (.aload_n 3, 1) := by decide +kernel
theorem dL_law_299 : decode cL_law 299 = .ok (.invokestatic 43, 3) := by decide +kernel
theorem dL_law_302 : decode cL_law 302 = .ok (.istore 5, 2) := by decide +kernel
theorem dL_law_304 : decode cL_law 304 = .ok (.aload_n 2, 1) := by decide +kernel
theorem dL_law_305 : decode cL_law 305 = .ok (.aload_n 0, 1) := by decide +kernel
theorem dL_law_306 : decode cL_law 306 = .ok (.iload 4, 2) := by decide +kernel
theorem dL_law_308 : decode cL_law 308 = .ok (.iconst 1, 1) := by decide +kernel
theorem dL_law_309 : decode cL_law 309 = .ok (.iadd, 1) := by decide +kernel
theorem dL_law_310 : decode cL_law 310 = .ok (.iaload, 1) := by decide +kernel
theorem dL_law_311 : decode cL_law 311 = .ok (.invokevirtual 48, 3) := by decide +kernel
theorem dL_law_314 : decode cL_law 314 = .ok (.istore 6, 2) := by decide +kernel
theorem dL_law_316 : decode cL_law 316 = .ok (.aload_n 2, 1) := by decide +kernel
theorem dL_law_317 : decode cL_law 317 = .ok (.invokevirtual 49, 3) := by decide +kernel
theorem dL_law_320 : decode cL_law 320 = .ok (.iload 5, 2) := by decide +kernel
theorem dL_law_322 : decode cL_law 322 = .ok (.if_icmp .eq 5, 3) := by decide +kernel
theorem dL_law_325 : decode cL_law 325 = .ok (.iconst 0, 1) := by decide +kernel
theorem dL_law_326 : decode cL_law 326 = .ok (.ireturn, 1) := by decide +kernel
theorem dL_law_327 : decode cL_law 327 = .ok (.iload 5, 2) := by decide +kernel
theorem dL_law_329 : decode cL_law 329 = .ok (.ifCond .ne 15, 3) := by decide +kernel
theorem dL_law_332 : decode cL_law 332 = .ok (.aload_n 3, 1) := by decide +kernel
theorem dL_law_333 : decode cL_law 333 = .ok (.iconst 0, 1) := by decide +kernel
theorem dL_law_334 : decode cL_law 334 = .ok (.laload, 1) := by decide +kernel
theorem dL_law_335 : decode cL_law 335 = .ok (.iload 6, 2) := by decide +kernel
theorem dL_law_337 : decode cL_law 337 = .ok (.i2l, 1) := by decide +kernel
theorem dL_law_338 : decode cL_law 338 = .ok (.lcmp, 1) := by decide +kernel
theorem dL_law_339 : decode cL_law 339 = .ok (.ifCond .eq 5, 3) := by decide +kernel
theorem dL_law_342 : decode cL_law 342 = .ok (.iconst 0, 1) := by decide +kernel
theorem dL_law_343 : decode cL_law 343 = .ok (.ireturn, 1) := by decide +kernel
theorem dL_law_344 : decode cL_law 344 = .ok (.goto 967, 3) := by decide +kernel
theorem dL_law_347 : decode cL_law 347 = .ok (.aload_n 1, 1) := by decide +kernel
theorem dL_law_348 : decode cL_law 348 = .ok (.aload_n 0, 1) := by decide +kernel
theorem dL_law_349 : decode cL_law 349 = .ok (.iload 4, 2) := by decide +kernel
theorem dL_law_351 : decode cL_law 351 = .ok (.iconst 1, 1) := by decide +kernel
theorem dL_law_352 : decode cL_law 352 = .ok (.iadd, 1) := by decide +kernel
theorem dL_law_353 : decode cL_law 353 = .ok (.iaload, 1) := by decide +kernel
theorem dL_law_354 : decode cL_law 354 = .ok (.aload_n 0, 1) := by decide +kernel
theorem dL_law_355 : decode cL_law 355 = .ok (.iload 4, 2) := by decide +kernel
theorem dL_law_357 : decode cL_law 357 = .ok (.iconst 2, 1) := by decide +kernel
theorem dL_law_358 : decode cL_law 358 = .ok (.iadd, 1) := by decide +kernel
theorem dL_law_359 : decode cL_law 359 = .ok (.iaload, 1) := by decide +kernel
theorem dL_law_360 : decode cL_law 360 = .ok (.aload_n 3, 1) := by decide +kernel
theorem dL_law_361 : decode cL_law 361 = .ok (.invokestatic 53, 3) := by decide +kernel
theorem dL_law_364 : decode cL_law 364 = .ok (.istore 5, 2) := by decide +kernel
theorem dL_law_366 : decode cL_law 366 = .ok (.aload_n 2, 1) := by decide +kernel
theorem dL_law_367 : decode cL_law 367 = .ok (.aload_n 0, 1) := by decide +kernel
theorem dL_law_368 : decode cL_law 368 = .ok (.iload 4, 2) := by decide +kernel
theorem dL_law_370 : decode cL_law 370 = .ok (.iconst 1, 1) := by decide +kernel
theorem dL_law_371 : decode cL_law 371 = .ok (.iadd, 1) := by decide +kernel
theorem dL_law_372 : decode cL_law 372 = .ok (.iaload, 1) := by decide +kernel
theorem dL_law_373 : decode cL_law 373 = .ok (.aload_n 0, 1) := by decide +kernel
theorem dL_law_374 : decode cL_law 374 = .ok (.iload 4, 2) := by decide +kernel
theorem dL_law_376 : decode cL_law 376 = .ok (.iconst 2, 1) := by decide +kernel
theorem dL_law_377 : decode cL_law 377 = .ok (.iadd, 1) := by decide +kernel
theorem dL_law_378 : decode cL_law 378 = .ok (.iaload, 1) := by decide +kernel
theorem dL_law_379 : decode cL_law 379 = .ok (.invokevirtual 56, 3) := by decide +kernel
theorem dL_law_382 : decode cL_law 382 = .ok (.istore 6, 2) := by decide +kernel
theorem dL_law_384 : decode cL_law 384 = .ok (.aload_n 2, 1) := by decide +kernel
theorem dL_law_385 : decode cL_law 385 = .ok (.invokevirtual 49, 3) := by decide +kernel
theorem dL_law_388 : decode cL_law 388 = .ok (.iload 5, 2) := by decide +kernel
theorem dL_law_390 : decode cL_law 390 = .ok (.if_icmp .eq 5, 3) := by decide +kernel
theorem dL_law_393 : decode cL_law 393 = .ok (.iconst 0, 1) := by decide +kernel
theorem dL_law_394 : decode cL_law 394 = .ok (.ireturn, 1) := by decide +kernel
theorem dL_law_395 : decode cL_law 395 = .ok (.iload 5, 2) := by decide +kernel
theorem dL_law_397 : decode cL_law 397 = .ok (.ifCond .ne 15, 3) := by decide +kernel
theorem dL_law_400 : decode cL_law 400 = .ok (.aload_n 3, 1) := by decide +kernel
theorem dL_law_401 : decode cL_law 401 = .ok (.iconst 0, 1) := by decide +kernel
theorem dL_law_402 : decode cL_law 402 = .ok (.laload, 1) := by decide +kernel
theorem dL_law_403 : decode cL_law 403 = .ok (.iload 6, 2) := by decide +kernel
theorem dL_law_405 : decode cL_law 405 = .ok (.i2l, 1) := by decide +kernel
theorem dL_law_406 : decode cL_law 406 = .ok (.lcmp, 1) := by decide +kernel
theorem dL_law_407 : decode cL_law 407 = .ok (.ifCond .eq 5, 3) := by decide +kernel
theorem dL_law_410 : decode cL_law 410 = .ok (.iconst 0, 1) := by decide +kernel
theorem dL_law_411 : decode cL_law 411 = .ok (.ireturn, 1) := by decide +kernel
theorem dL_law_412 : decode cL_law 412 = .ok (.goto 899, 3) := by decide +kernel
theorem dL_law_415 : decode cL_law 415 = .ok (.aload_n 1, 1) := by decide +kernel
theorem dL_law_416 : decode cL_law 416 = .ok (.aload_n 0, 1) := by decide +kernel
theorem dL_law_417 : decode cL_law 417 = .ok (.iload 4, 2) := by decide +kernel
theorem dL_law_419 : decode cL_law 419 = .ok (.iconst 1, 1) := by decide +kernel
theorem dL_law_420 : decode cL_law 420 = .ok (.iadd, 1) := by decide +kernel
theorem dL_law_421 : decode cL_law 421 = .ok (.iaload, 1) := by decide +kernel
theorem dL_law_422 : decode cL_law 422 = .ok (.aload_n 0, 1) := by decide +kernel
theorem dL_law_423 : decode cL_law 423 = .ok (.iload 4, 2) := by decide +kernel
theorem dL_law_425 : decode cL_law 425 = .ok (.iconst 2, 1) := by decide +kernel
theorem dL_law_426 : decode cL_law 426 = .ok (.iadd, 1) := by decide +kernel
theorem dL_law_427 : decode cL_law 427 = .ok (.iaload, 1) := by decide +kernel
theorem dL_law_428 : decode cL_law 428 = .ok (.aload_n 3, 1) := by decide +kernel
theorem dL_law_429 : decode cL_law 429 = .ok (.invokestatic 57, 3) := by decide +kernel
theorem dL_law_432 : decode cL_law 432 = .ok (.istore 5, 2) := by decide +kernel
theorem dL_law_434 : decode cL_law 434 = .ok (.aload_n 2, 1) := by decide +kernel
theorem dL_law_435 : decode cL_law 435 = .ok (.aload_n 0, 1) := by decide +kernel
theorem dL_law_436 : decode cL_law 436 = .ok (.iload 4, 2) := by decide +kernel
theorem dL_law_438 : decode cL_law 438 = .ok (.iconst 1, 1) := by decide +kernel
theorem dL_law_439 : decode cL_law 439 = .ok (.iadd, 1) := by decide +kernel
theorem dL_law_440 : decode cL_law 440 = .ok (.iaload, 1) := by decide +kernel
theorem dL_law_441 : decode cL_law 441 = .ok (.aload_n 0, 1) := by decide +kernel
theorem dL_law_442 : decode cL_law 442 = .ok (.iload 4, 2) := by decide +kernel
theorem dL_law_444 : decode cL_law 444 = .ok (.iconst 2, 1) := by decide +kernel
theorem dL_law_445 : decode cL_law 445 = .ok (.iadd, 1) := by decide +kernel
theorem dL_law_446 : decode cL_law 446 = .ok (.iaload, 1) := by decide +kernel
theorem dL_law_447 : decode cL_law 447 = .ok (.invokevirtual 59, 3) := by decide +kernel
theorem dL_law_450 : decode cL_law 450 = .ok (.istore 6, 2) := by decide +kernel
theorem dL_law_452 : decode cL_law 452 = .ok (.aload_n 2, 1) := by decide +kernel
theorem dL_law_453 : decode cL_law 453 = .ok (.invokevirtual 49, 3) := by decide +kernel
theorem dL_law_456 : decode cL_law 456 = .ok (.iload 5, 2) := by decide +kernel
theorem dL_law_458 : decode cL_law 458 = .ok (.if_icmp .eq 5, 3) := by decide +kernel
theorem dL_law_461 : decode cL_law 461 = .ok (.iconst 0, 1) := by decide +kernel
theorem dL_law_462 : decode cL_law 462 = .ok (.ireturn, 1) := by decide +kernel
theorem dL_law_463 : decode cL_law 463 = .ok (.iload 5, 2) := by decide +kernel
theorem dL_law_465 : decode cL_law 465 = .ok (.ifCond .ne 15, 3) := by decide +kernel
theorem dL_law_468 : decode cL_law 468 = .ok (.aload_n 3, 1) := by decide +kernel
theorem dL_law_469 : decode cL_law 469 = .ok (.iconst 0, 1) := by decide +kernel
theorem dL_law_470 : decode cL_law 470 = .ok (.laload, 1) := by decide +kernel
theorem dL_law_471 : decode cL_law 471 = .ok (.iload 6, 2) := by decide +kernel
theorem dL_law_473 : decode cL_law 473 = .ok (.i2l, 1) := by decide +kernel
theorem dL_law_474 : decode cL_law 474 = .ok (.lcmp, 1) := by decide +kernel
theorem dL_law_475 : decode cL_law 475 = .ok (.ifCond .eq 5, 3) := by decide +kernel
theorem dL_law_478 : decode cL_law 478 = .ok (.iconst 0, 1) := by decide +kernel
theorem dL_law_479 : decode cL_law 479 = .ok (.ireturn, 1) := by decide +kernel
theorem dL_law_480 : decode cL_law 480 = .ok (.goto 831, 3) := by decide +kernel
theorem dL_law_483 : decode cL_law 483 = .ok (.aload_n 1, 1) := by decide +kernel
theorem dL_law_484 : decode cL_law 484 = .ok (.aload_n 0, 1) := by decide +kernel
theorem dL_law_485 : decode cL_law 485 = .ok (.iload 4, 2) := by decide +kernel
theorem dL_law_487 : decode cL_law 487 = .ok (.iconst 1, 1) := by decide +kernel
theorem dL_law_488 : decode cL_law 488 = .ok (.iadd, 1) := by decide +kernel
theorem dL_law_489 : decode cL_law 489 = .ok (.iaload, 1) := by decide +kernel
theorem dL_law_490 : decode cL_law 490 = .ok (.aload_n 0, 1) := by decide +kernel
theorem dL_law_491 : decode cL_law 491 = .ok (.iload 4, 2) := by decide +kernel
theorem dL_law_493 : decode cL_law 493 = .ok (.iconst 2, 1) := by decide +kernel
theorem dL_law_494 : decode cL_law 494 = .ok (.iadd, 1) := by decide +kernel
theorem dL_law_495 : decode cL_law 495 = .ok (.iaload, 1) := by decide +kernel
theorem dL_law_496 : decode cL_law 496 = .ok (.aload_n 0, 1) := by decide +kernel
theorem dL_law_497 : decode cL_law 497 = .ok (.iload 4, 2) := by decide +kernel
theorem dL_law_499 : decode cL_law 499 = .ok (.iconst 3, 1) := by decide +kernel
theorem dL_law_500 : decode cL_law 500 = .ok (.iadd, 1) := by decide +kernel
theorem dL_law_501 : decode cL_law 501 = .ok (.iaload, 1) := by decide +kernel
theorem dL_law_502 : decode cL_law 502 = .ok (.invokevirtual 60, 3) := by decide +kernel
theorem dL_law_505 : decode cL_law 505 = .ok (.aload_n 2, 1) := by decide +kernel
theorem dL_law_506 : decode cL_law 506 = .ok (.aload_n 0, 1) := by decide +kernel
theorem dL_law_507 : decode cL_law 507 = .ok (.iload 4, 2) := by decide +kernel
theorem dL_law_509 : decode cL_law 509 = .ok (.iconst 1, 1) := by decide +kernel
theorem dL_law_510 : decode cL_law 510 = .ok (.iadd, 1) := by decide +kernel
theorem dL_law_511 : decode cL_law 511 = .ok (.iaload, 1) := by decide +kernel
theorem dL_law_512 : decode cL_law 512 = .ok (.aload_n 0, 1) := by decide +kernel
theorem dL_law_513 : decode cL_law 513 = .ok (.iload 4, 2) := by decide +kernel
theorem dL_law_515 : decode cL_law 515 = .ok (.iconst 2, 1) := by decide +kernel
theorem dL_law_516 : decode cL_law 516 = .ok (.iadd, 1) := by decide +kernel
theorem dL_law_517 : decode cL_law 517 = .ok (.iaload, 1) := by decide +kernel
theorem dL_law_518 : decode cL_law 518 = .ok (.aload_n 0, 1) := by decide +kernel
theorem dL_law_519 : decode cL_law 519 = .ok (.iload 4, 2) := by decide +kernel
theorem dL_law_521 : decode cL_law 521 = .ok (.iconst 3, 1) := by decide +kernel
theorem dL_law_522 : decode cL_law 522 = .ok (.iadd, 1) := by decide +kernel
theorem dL_law_523 : decode cL_law 523 = .ok (.iaload, 1) := by decide +kernel
theorem dL_law_524 : decode cL_law 524 = .ok (.invokevirtual 64, 3) := by decide +kernel
theorem dL_law_527 : decode cL_law 527 = .ok (.if_icmp .eq 784, 3) := by decide +kernel
theorem dL_law_530 : decode cL_law 530 = .ok (.iconst 0, 1) := by decide +kernel
theorem dL_law_531 : decode cL_law 531 = .ok (.ireturn, 1) := by decide +kernel
theorem dL_law_532 : decode cL_law 532 = .ok (.aload_n 1, 1) := by decide +kernel
theorem dL_law_533 : decode cL_law 533 = .ok (.aload_n 0, 1) := by decide +kernel
theorem dL_law_534 : decode cL_law 534 = .ok (.iload 4, 2) := by decide +kernel
theorem dL_law_536 : decode cL_law 536 = .ok (.iconst 1, 1) := by decide +kernel
theorem dL_law_537 : decode cL_law 537 = .ok (.iadd, 1) := by decide +kernel
theorem dL_law_538 : decode cL_law 538 = .ok (.iaload, 1) := by decide +kernel
theorem dL_law_539 : decode cL_law 539 = .ok (.aload_n 0, 1) := by decide +kernel
theorem dL_law_540 : decode cL_law 540 = .ok (.iload 4, 2) := by decide +kernel
theorem dL_law_542 : decode cL_law 542 = .ok (.iconst 2, 1) := by decide +kernel
theorem dL_law_543 : decode cL_law 543 = .ok (.iadd, 1) := by decide +kernel
theorem dL_law_544 : decode cL_law 544 = .ok (.iaload, 1) := by decide +kernel
theorem dL_law_545 : decode cL_law 545 = .ok (.aload_n 0, 1) := by decide +kernel
theorem dL_law_546 : decode cL_law 546 = .ok (.iload 4, 2) := by decide +kernel
theorem dL_law_548 : decode cL_law 548 = .ok (.iconst 3, 1) := by decide +kernel
theorem dL_law_549 : decode cL_law 549 = .ok (.iadd, 1) := by decide +kernel
theorem dL_law_550 : decode cL_law 550 = .ok (.iaload, 1) := by decide +kernel
theorem dL_law_551 : decode cL_law 551 = .ok (.aload_n 0, 1) := by decide +kernel
theorem dL_law_552 : decode cL_law 552 = .ok (.iload 4, 2) := by decide +kernel
theorem dL_law_554 : decode cL_law 554 = .ok (.iconst 4, 1) := by decide +kernel
theorem dL_law_555 : decode cL_law 555 = .ok (.iadd, 1) := by decide +kernel
theorem dL_law_556 : decode cL_law 556 = .ok (.iaload, 1) := by decide +kernel
theorem dL_law_557 : decode cL_law 557 = .ok (.invokevirtual 65, 3) := by decide +kernel
theorem dL_law_560 : decode cL_law 560 = .ok (.aload_n 2, 1) := by decide +kernel
theorem dL_law_561 : decode cL_law 561 = .ok (.aload_n 0, 1) := by decide +kernel
theorem dL_law_562 : decode cL_law 562 = .ok (.iload 4, 2) := by decide +kernel
theorem dL_law_564 : decode cL_law 564 = .ok (.iconst 1, 1) := by decide +kernel
theorem dL_law_565 : decode cL_law 565 = .ok (.iadd, 1) := by decide +kernel
theorem dL_law_566 : decode cL_law 566 = .ok (.iaload, 1) := by decide +kernel
theorem dL_law_567 : decode cL_law 567 = .ok (.aload_n 0, 1) := by decide +kernel
theorem dL_law_568 : decode cL_law 568 = .ok (.iload 4, 2) := by decide +kernel
theorem dL_law_570 : decode cL_law 570 = .ok (.iconst 2, 1) := by decide +kernel
theorem dL_law_571 : decode cL_law 571 = .ok (.iadd, 1) := by decide +kernel
theorem dL_law_572 : decode cL_law 572 = .ok (.iaload, 1) := by decide +kernel
theorem dL_law_573 : decode cL_law 573 = .ok (.aload_n 0, 1) := by decide +kernel
theorem dL_law_574 : decode cL_law 574 = .ok (.iload 4, 2) := by decide +kernel
theorem dL_law_576 : decode cL_law 576 = .ok (.iconst 3, 1) := by decide +kernel
theorem dL_law_577 : decode cL_law 577 = .ok (.iadd, 1) := by decide +kernel
theorem dL_law_578 : decode cL_law 578 = .ok (.iaload, 1) := by decide +kernel
theorem dL_law_579 : decode cL_law 579 = .ok (.aload_n 0, 1) := by decide +kernel
theorem dL_law_580 : decode cL_law 580 = .ok (.iload 4, 2) := by decide +kernel
theorem dL_law_582 : decode cL_law 582 = .ok (.iconst 4, 1) := by decide +kernel
theorem dL_law_583 : decode cL_law 583 = .ok (.iadd, 1) := by decide +kernel
theorem dL_law_584 : decode cL_law 584 = .ok (.iaload, 1) := by decide +kernel
theorem dL_law_585 : decode cL_law 585 = .ok (.invokevirtual 69, 3) := by decide +kernel
theorem dL_law_588 : decode cL_law 588 = .ok (.if_icmp .eq 723, 3) := by decide +kernel
theorem dL_law_591 : decode cL_law 591 = .ok (.iconst 0, 1) := by decide +kernel
theorem dL_law_592 : decode cL_law 592 = .ok (.ireturn, 1) := by decide +kernel
theorem dL_law_593 : decode cL_law 593 = .ok (.aload_n 1, 1) := by decide +kernel
theorem dL_law_594 : decode cL_law 594 = .ok (.aload_n 0, 1) := by decide +kernel
theorem dL_law_595 : decode cL_law 595 = .ok (.iload 4, 2) := by decide +kernel
theorem dL_law_597 : decode cL_law 597 = .ok (.iconst 1, 1) := by decide +kernel
theorem dL_law_598 : decode cL_law 598 = .ok (.iadd, 1) := by decide +kernel
theorem dL_law_599 : decode cL_law 599 = .ok (.iaload, 1) := by decide +kernel
theorem dL_law_600 : decode cL_law 600 = .ok (.ifCond .eq 7, 3) := by decide +kernel
theorem dL_law_603 : decode cL_law 603 = .ok (.iconst 1, 1) := by decide +kernel
theorem dL_law_604 : decode cL_law 604 = .ok (.goto 4, 3) := by decide +kernel
theorem dL_law_607 : decode cL_law 607 = .ok (.iconst 0, 1) := by decide +kernel
theorem dL_law_608 : decode cL_law 608 = .ok (.invokevirtual 70, 3) := by decide +kernel
theorem dL_law_611 : decode cL_law 611 = .ok (.aload_n 2, 1) := by decide +kernel
theorem dL_law_612 : decode cL_law 612 = .ok (.aload_n 0, 1) := by decide +kernel
theorem dL_law_613 : decode cL_law 613 = .ok (.iload 4, 2) := by decide +kernel
theorem dL_law_615 : decode cL_law 615 = .ok (.iconst 1, 1) := by decide +kernel
theorem dL_law_616 : decode cL_law 616 = .ok (.iadd, 1) := by decide +kernel
theorem dL_law_617 : decode cL_law 617 = .ok (.iaload, 1) := by decide +kernel
theorem dL_law_618 : decode cL_law 618 = .ok (.ifCond .eq 7, 3) := by decide +kernel
theorem dL_law_621 : decode cL_law 621 = .ok (.iconst 1, 1) := by decide +kernel
theorem dL_law_622 : decode cL_law 622 = .ok (.goto 4, 3) := by decide +kernel
theorem dL_law_625 : decode cL_law 625 = .ok (.iconst 0, 1) := by decide +kernel
theorem dL_law_626 : decode cL_law 626 = .ok (.invokevirtual 74, 3) := by decide +kernel
theorem dL_law_629 : decode cL_law 629 = .ok (.if_icmp .eq 682, 3) := by decide +kernel
theorem dL_law_632 : decode cL_law 632 = .ok (.iconst 0, 1) := by decide +kernel
theorem dL_law_633 : decode cL_law 633 = .ok (.ireturn, 1) := by decide +kernel
theorem dL_law_634 : decode cL_law 634 = .ok (.aload_n 1, 1) := by decide +kernel
theorem dL_law_635 : decode cL_law 635 = .ok (.aload_n 0, 1) := by decide +kernel
theorem dL_law_636 : decode cL_law 636 = .ok (.iload 4, 2) := by decide +kernel
theorem dL_law_638 : decode cL_law 638 = .ok (.iconst 1, 1) := by decide +kernel
theorem dL_law_639 : decode cL_law 639 = .ok (.iadd, 1) := by decide +kernel
theorem dL_law_640 : decode cL_law 640 = .ok (.iaload, 1) := by decide +kernel
theorem dL_law_641 : decode cL_law 641 = .ok (.invokevirtual 75, 3) := by decide +kernel
theorem dL_law_644 : decode cL_law 644 = .ok (.aload_n 2, 1) := by decide +kernel
theorem dL_law_645 : decode cL_law 645 = .ok (.aload_n 0, 1) := by decide +kernel
theorem dL_law_646 : decode cL_law 646 = .ok (.iload 4, 2) := by decide +kernel
theorem dL_law_648 : decode cL_law 648 = .ok (.iconst 1, 1) := by decide +kernel
theorem dL_law_649 : decode cL_law 649 = .ok (.iadd, 1) := by decide +kernel
theorem dL_law_650 : decode cL_law 650 = .ok (.iaload, 1) := by decide +kernel
theorem dL_law_651 : decode cL_law 651 = .ok (.invokevirtual 78, 3) := by decide +kernel
theorem dL_law_654 : decode cL_law 654 = .ok (.if_icmp .eq 657, 3) := by decide +kernel
theorem dL_law_657 : decode cL_law 657 = .ok (.iconst 0, 1) := by decide +kernel
theorem dL_law_658 : decode cL_law 658 = .ok (.ireturn, 1) := by decide +kernel
theorem dL_law_659 : decode cL_law 659 = .ok (.aload_n 1, 1) := by decide +kernel
theorem dL_law_660 : decode cL_law 660 = .ok (.aload_n 0, 1) := by decide +kernel
theorem dL_law_661 : decode cL_law 661 = .ok (.iload 4, 2) := by decide +kernel
theorem dL_law_663 : decode cL_law 663 = .ok (.iconst 1, 1) := by decide +kernel
theorem dL_law_664 : decode cL_law 664 = .ok (.iadd, 1) := by decide +kernel
theorem dL_law_665 : decode cL_law 665 = .ok (.iaload, 1) := by decide +kernel
theorem dL_law_666 : decode cL_law 666 = .ok (.aload_n 0, 1) := by decide +kernel
theorem dL_law_667 : decode cL_law 667 = .ok (.iload 4, 2) := by decide +kernel
theorem dL_law_669 : decode cL_law 669 = .ok (.iconst 2, 1) := by decide +kernel
theorem dL_law_670 : decode cL_law 670 = .ok (.iadd, 1) := by decide +kernel
theorem dL_law_671 : decode cL_law 671 = .ok (.iaload, 1) := by decide +kernel
theorem dL_law_672 : decode cL_law 672 = .ok (.aload_n 0, 1) := by decide +kernel
theorem dL_law_673 : decode cL_law 673 = .ok (.iload 4, 2) := by decide +kernel
theorem dL_law_675 : decode cL_law 675 = .ok (.iconst 3, 1) := by decide +kernel
theorem dL_law_676 : decode cL_law 676 = .ok (.iadd, 1) := by decide +kernel
theorem dL_law_677 : decode cL_law 677 = .ok (.iaload, 1) := by decide +kernel
theorem dL_law_678 : decode cL_law 678 = .ok (.invokevirtual 79, 3) := by decide +kernel
theorem dL_law_681 : decode cL_law 681 = .ok (.aload_n 2, 1) := by decide +kernel
theorem dL_law_682 : decode cL_law 682 = .ok (.aload_n 0, 1) := by decide +kernel
theorem dL_law_683 : decode cL_law 683 = .ok (.iload 4, 2) := by decide +kernel
theorem dL_law_685 : decode cL_law 685 = .ok (.iconst 1, 1) := by decide +kernel
theorem dL_law_686 : decode cL_law 686 = .ok (.iadd, 1) := by decide +kernel
theorem dL_law_687 : decode cL_law 687 = .ok (.iaload, 1) := by decide +kernel
theorem dL_law_688 : decode cL_law 688 = .ok (.aload_n 0, 1) := by decide +kernel
theorem dL_law_689 : decode cL_law 689 = .ok (.iload 4, 2) := by decide +kernel
theorem dL_law_691 : decode cL_law 691 = .ok (.iconst 2, 1) := by decide +kernel
theorem dL_law_692 : decode cL_law 692 = .ok (.iadd, 1) := by decide +kernel
theorem dL_law_693 : decode cL_law 693 = .ok (.iaload, 1) := by decide +kernel
theorem dL_law_694 : decode cL_law 694 = .ok (.aload_n 0, 1) := by decide +kernel
theorem dL_law_695 : decode cL_law 695 = .ok (.iload 4, 2) := by decide +kernel
theorem dL_law_697 : decode cL_law 697 = .ok (.iconst 3, 1) := by decide +kernel
theorem dL_law_698 : decode cL_law 698 = .ok (.iadd, 1) := by decide +kernel
theorem dL_law_699 : decode cL_law 699 = .ok (.iaload, 1) := by decide +kernel
theorem dL_law_700 : decode cL_law 700 = .ok (.invokevirtual 82, 3) := by decide +kernel
theorem dL_law_703 : decode cL_law 703 = .ok (.if_icmp .eq 608, 3) := by decide +kernel
theorem dL_law_706 : decode cL_law 706 = .ok (.iconst 0, 1) := by decide +kernel
theorem dL_law_707 : decode cL_law 707 = .ok (.ireturn, 1) := by decide +kernel
theorem dL_law_708 : decode cL_law 708 = .ok (.aload_n 1, 1) := by decide +kernel
theorem dL_law_709 : decode cL_law 709 = .ok (.aload_n 0, 1) := by decide +kernel
theorem dL_law_710 : decode cL_law 710 = .ok (.iload 4, 2) := by decide +kernel
theorem dL_law_712 : decode cL_law 712 = .ok (.iconst 1, 1) := by decide +kernel
theorem dL_law_713 : decode cL_law 713 = .ok (.iadd, 1) := by decide +kernel
theorem dL_law_714 : decode cL_law 714 = .ok (.iaload, 1) := by decide +kernel
theorem dL_law_715 : decode cL_law 715 = .ok (.aload_n 0, 1) := by decide +kernel
theorem dL_law_716 : decode cL_law 716 = .ok (.iload 4, 2) := by decide +kernel
theorem dL_law_718 : decode cL_law 718 = .ok (.iconst 2, 1) := by decide +kernel
theorem dL_law_719 : decode cL_law 719 = .ok (.iadd, 1) := by decide +kernel
theorem dL_law_720 : decode cL_law 720 = .ok (.iaload, 1) := by decide +kernel
theorem dL_law_721 : decode cL_law 721 = .ok (.aload_n 0, 1) := by decide +kernel
theorem dL_law_722 : decode cL_law 722 = .ok (.iload 4, 2) := by decide +kernel
theorem dL_law_724 : decode cL_law 724 = .ok (.iconst 3, 1) := by decide +kernel
theorem dL_law_725 : decode cL_law 725 = .ok (.iadd, 1) := by decide +kernel
theorem dL_law_726 : decode cL_law 726 = .ok (.iaload, 1) := by decide +kernel
theorem dL_law_727 : decode cL_law 727 = .ok (.aload_n 0, 1) := by decide +kernel
theorem dL_law_728 : decode cL_law 728 = .ok (.iload 4, 2) := by decide +kernel
theorem dL_law_730 : decode cL_law 730 = .ok (.iconst 4, 1) := by decide +kernel
theorem dL_law_731 : decode cL_law 731 = .ok (.iadd, 1) := by decide +kernel
theorem dL_law_732 : decode cL_law 732 = .ok (.iaload, 1) := by decide +kernel
theorem dL_law_733 : decode cL_law 733 = .ok (.invokevirtual 83, 3) := by decide +kernel
theorem dL_law_736 : decode cL_law 736 = .ok (.aload_n 2, 1) := by decide +kernel
theorem dL_law_737 : decode cL_law 737 = .ok (.aload_n 0, 1) := by decide +kernel
theorem dL_law_738 : decode cL_law 738 = .ok (.iload 4, 2) := by decide +kernel
theorem dL_law_740 : decode cL_law 740 = .ok (.iconst 1, 1) := by decide +kernel
theorem dL_law_741 : decode cL_law 741 = .ok (.iadd, 1) := by decide +kernel
theorem dL_law_742 : decode cL_law 742 = .ok (.iaload, 1) := by decide +kernel
theorem dL_law_743 : decode cL_law 743 = .ok (.aload_n 0, 1) := by decide +kernel
theorem dL_law_744 : decode cL_law 744 = .ok (.iload 4, 2) := by decide +kernel
theorem dL_law_746 : decode cL_law 746 = .ok (.iconst 2, 1) := by decide +kernel
theorem dL_law_747 : decode cL_law 747 = .ok (.iadd, 1) := by decide +kernel
theorem dL_law_748 : decode cL_law 748 = .ok (.iaload, 1) := by decide +kernel
theorem dL_law_749 : decode cL_law 749 = .ok (.aload_n 0, 1) := by decide +kernel
theorem dL_law_750 : decode cL_law 750 = .ok (.iload 4, 2) := by decide +kernel
theorem dL_law_752 : decode cL_law 752 = .ok (.iconst 3, 1) := by decide +kernel
theorem dL_law_753 : decode cL_law 753 = .ok (.iadd, 1) := by decide +kernel
theorem dL_law_754 : decode cL_law 754 = .ok (.iaload, 1) := by decide +kernel
theorem dL_law_755 : decode cL_law 755 = .ok (.aload_n 0, 1) := by decide +kernel
theorem dL_law_756 : decode cL_law 756 = .ok (.iload 4, 2) := by decide +kernel
theorem dL_law_758 : decode cL_law 758 = .ok (.iconst 4, 1) := by decide +kernel
theorem dL_law_759 : decode cL_law 759 = .ok (.iadd, 1) := by decide +kernel
theorem dL_law_760 : decode cL_law 760 = .ok (.iaload, 1) := by decide +kernel
theorem dL_law_761 : decode cL_law 761 = .ok (.invokevirtual 86, 3) := by decide +kernel
theorem dL_law_764 : decode cL_law 764 = .ok (.if_icmp .eq 547, 3) := by decide +kernel
theorem dL_law_767 : decode cL_law 767 = .ok (.iconst 0, 1) := by decide +kernel
theorem dL_law_768 : decode cL_law 768 = .ok (.ireturn, 1) := by decide +kernel
theorem dL_law_769 : decode cL_law 769 = .ok (.aload_n 1, 1) := by decide +kernel
theorem dL_law_770 : decode cL_law 770 = .ok (.aload_n 0, 1) := by decide +kernel
theorem dL_law_771 : decode cL_law 771 = .ok (.iload 4, 2) := by decide +kernel
theorem dL_law_773 : decode cL_law 773 = .ok (.iconst 1, 1) := by decide +kernel
theorem dL_law_774 : decode cL_law 774 = .ok (.iadd, 1) := by decide +kernel
theorem dL_law_775 : decode cL_law 775 = .ok (.iaload, 1) := by decide +kernel
theorem dL_law_776 : decode cL_law 776 = .ok (.aload_n 0, 1) := by decide +kernel
theorem dL_law_777 : decode cL_law 777 = .ok (.iload 4, 2) := by decide +kernel
theorem dL_law_779 : decode cL_law 779 = .ok (.iconst 2, 1) := by decide +kernel
theorem dL_law_780 : decode cL_law 780 = .ok (.iadd, 1) := by decide +kernel
theorem dL_law_781 : decode cL_law 781 = .ok (.iaload, 1) := by decide +kernel
theorem dL_law_782 : decode cL_law 782 = .ok (.aload_n 0, 1) := by decide +kernel
theorem dL_law_783 : decode cL_law 783 = .ok (.iload 4, 2) := by decide +kernel
theorem dL_law_785 : decode cL_law 785 = .ok (.iconst 3, 1) := by decide +kernel
theorem dL_law_786 : decode cL_law 786 = .ok (.iadd, 1) := by decide +kernel
theorem dL_law_787 : decode cL_law 787 = .ok (.iaload, 1) := by decide +kernel
theorem dL_law_788 : decode cL_law 788 = .ok (.aload_n 0, 1) := by decide +kernel
theorem dL_law_789 : decode cL_law 789 = .ok (.iload 4, 2) := by decide +kernel
theorem dL_law_791 : decode cL_law 791 = .ok (.iconst 4, 1) := by decide +kernel
theorem dL_law_792 : decode cL_law 792 = .ok (.iadd, 1) := by decide +kernel
theorem dL_law_793 : decode cL_law 793 = .ok (.iaload, 1) := by decide +kernel
theorem dL_law_794 : decode cL_law 794 = .ok (.invokevirtual 87, 3) := by decide +kernel
theorem dL_law_797 : decode cL_law 797 = .ok (.aload_n 2, 1) := by decide +kernel
theorem dL_law_798 : decode cL_law 798 = .ok (.aload_n 0, 1) := by decide +kernel
theorem dL_law_799 : decode cL_law 799 = .ok (.iload 4, 2) := by decide +kernel
theorem dL_law_801 : decode cL_law 801 = .ok (.iconst 1, 1) := by decide +kernel
theorem dL_law_802 : decode cL_law 802 = .ok (.iadd, 1) := by decide +kernel
theorem dL_law_803 : decode cL_law 803 = .ok (.iaload, 1) := by decide +kernel
theorem dL_law_804 : decode cL_law 804 = .ok (.aload_n 0, 1) := by decide +kernel
theorem dL_law_805 : decode cL_law 805 = .ok (.iload 4, 2) := by decide +kernel
theorem dL_law_807 : decode cL_law 807 = .ok (.iconst 2, 1) := by decide +kernel
theorem dL_law_808 : decode cL_law 808 = .ok (.iadd, 1) := by decide +kernel
theorem dL_law_809 : decode cL_law 809 = .ok (.iaload, 1) := by decide +kernel
theorem dL_law_810 : decode cL_law 810 = .ok (.aload_n 0, 1) := by decide +kernel
theorem dL_law_811 : decode cL_law 811 = .ok (.iload 4, 2) := by decide +kernel
theorem dL_law_813 : decode cL_law 813 = .ok (.iconst 3, 1) := by decide +kernel
theorem dL_law_814 : decode cL_law 814 = .ok (.iadd, 1) := by decide +kernel
theorem dL_law_815 : decode cL_law 815 = .ok (.iaload, 1) := by decide +kernel
theorem dL_law_816 : decode cL_law 816 = .ok (.aload_n 0, 1) := by decide +kernel
theorem dL_law_817 : decode cL_law 817 = .ok (.iload 4, 2) := by decide +kernel
theorem dL_law_819 : decode cL_law 819 = .ok (.iconst 4, 1) := by decide +kernel
theorem dL_law_820 : decode cL_law 820 = .ok (.iadd, 1) := by decide +kernel
theorem dL_law_821 : decode cL_law 821 = .ok (.iaload, 1) := by decide +kernel
theorem dL_law_822 : decode cL_law 822 = .ok (.invokevirtual 90, 3) := by decide +kernel
theorem dL_law_825 : decode cL_law 825 = .ok (.if_icmp .eq 486, 3) := by decide +kernel
theorem dL_law_828 : decode cL_law 828 = .ok (.iconst 0, 1) := by decide +kernel
theorem dL_law_829 : decode cL_law 829 = .ok (.ireturn, 1) := by decide +kernel
theorem dL_law_830 : decode cL_law 830 = .ok (.aload_n 1, 1) := by decide +kernel
theorem dL_law_831 : decode cL_law 831 = .ok (.aload_n 0, 1) := by decide +kernel
theorem dL_law_832 : decode cL_law 832 = .ok (.iload 4, 2) := by decide +kernel
theorem dL_law_834 : decode cL_law 834 = .ok (.iconst 1, 1) := by decide +kernel
theorem dL_law_835 : decode cL_law 835 = .ok (.iadd, 1) := by decide +kernel
theorem dL_law_836 : decode cL_law 836 = .ok (.iaload, 1) := by decide +kernel
theorem dL_law_837 : decode cL_law 837 = .ok (.aload_n 0, 1) := by decide +kernel
theorem dL_law_838 : decode cL_law 838 = .ok (.iload 4, 2) := by decide +kernel
theorem dL_law_840 : decode cL_law 840 = .ok (.iconst 2, 1) := by decide +kernel
theorem dL_law_841 : decode cL_law 841 = .ok (.iadd, 1) := by decide +kernel
theorem dL_law_842 : decode cL_law 842 = .ok (.iaload, 1) := by decide +kernel
theorem dL_law_843 : decode cL_law 843 = .ok (.aload_n 0, 1) := by decide +kernel
theorem dL_law_844 : decode cL_law 844 = .ok (.iload 4, 2) := by decide +kernel
theorem dL_law_846 : decode cL_law 846 = .ok (.iconst 3, 1) := by decide +kernel
theorem dL_law_847 : decode cL_law 847 = .ok (.iadd, 1) := by decide +kernel
theorem dL_law_848 : decode cL_law 848 = .ok (.iaload, 1) := by decide +kernel
theorem dL_law_849 : decode cL_law 849 = .ok (.aload_n 0, 1) := by decide +kernel
theorem dL_law_850 : decode cL_law 850 = .ok (.iload 4, 2) := by decide +kernel
theorem dL_law_852 : decode cL_law 852 = .ok (.iconst 4, 1) := by decide +kernel
theorem dL_law_853 : decode cL_law 853 = .ok (.iadd, 1) := by decide +kernel
theorem dL_law_854 : decode cL_law 854 = .ok (.iaload, 1) := by decide +kernel
theorem dL_law_855 : decode cL_law 855 = .ok (.invokevirtual 91, 3) := by decide +kernel
theorem dL_law_858 : decode cL_law 858 = .ok (.aload_n 2, 1) := by decide +kernel
theorem dL_law_859 : decode cL_law 859 = .ok (.aload_n 0, 1) := by decide +kernel
theorem dL_law_860 : decode cL_law 860 = .ok (.iload 4, 2) := by decide +kernel
theorem dL_law_862 : decode cL_law 862 = .ok (.iconst 1, 1) := by decide +kernel
theorem dL_law_863 : decode cL_law 863 = .ok (.iadd, 1) := by decide +kernel
theorem dL_law_864 : decode cL_law 864 = .ok (.iaload, 1) := by decide +kernel
theorem dL_law_865 : decode cL_law 865 = .ok (.aload_n 0, 1) := by decide +kernel
theorem dL_law_866 : decode cL_law 866 = .ok (.iload 4, 2) := by decide +kernel
theorem dL_law_868 : decode cL_law 868 = .ok (.iconst 2, 1) := by decide +kernel
theorem dL_law_869 : decode cL_law 869 = .ok (.iadd, 1) := by decide +kernel
theorem dL_law_870 : decode cL_law 870 = .ok (.iaload, 1) := by decide +kernel
theorem dL_law_871 : decode cL_law 871 = .ok (.aload_n 0, 1) := by decide +kernel
theorem dL_law_872 : decode cL_law 872 = .ok (.iload 4, 2) := by decide +kernel
theorem dL_law_874 : decode cL_law 874 = .ok (.iconst 3, 1) := by decide +kernel
theorem dL_law_875 : decode cL_law 875 = .ok (.iadd, 1) := by decide +kernel
theorem dL_law_876 : decode cL_law 876 = .ok (.iaload, 1) := by decide +kernel
theorem dL_law_877 : decode cL_law 877 = .ok (.aload_n 0, 1) := by decide +kernel
theorem dL_law_878 : decode cL_law 878 = .ok (.iload 4, 2) := by decide +kernel
theorem dL_law_880 : decode cL_law 880 = .ok (.iconst 4, 1) := by decide +kernel
theorem dL_law_881 : decode cL_law 881 = .ok (.iadd, 1) := by decide +kernel
theorem dL_law_882 : decode cL_law 882 = .ok (.iaload, 1) := by decide +kernel
theorem dL_law_883 : decode cL_law 883 = .ok (.invokevirtual 94, 3) := by decide +kernel
theorem dL_law_886 : decode cL_law 886 = .ok (.if_icmp .eq 425, 3) := by decide +kernel
theorem dL_law_889 : decode cL_law 889 = .ok (.iconst 0, 1) := by decide +kernel
theorem dL_law_890 : decode cL_law 890 = .ok (.ireturn, 1) := by decide +kernel
theorem dL_law_891 : decode cL_law 891 = .ok (.aload_n 1, 1) := by decide +kernel
theorem dL_law_892 : decode cL_law 892 = .ok (.aload_n 0, 1) := by decide +kernel
theorem dL_law_893 : decode cL_law 893 = .ok (.iload 4, 2) := by decide +kernel
theorem dL_law_895 : decode cL_law 895 = .ok (.iconst 1, 1) := by decide +kernel
theorem dL_law_896 : decode cL_law 896 = .ok (.iadd, 1) := by decide +kernel
theorem dL_law_897 : decode cL_law 897 = .ok (.iaload, 1) := by decide +kernel
theorem dL_law_898 : decode cL_law 898 = .ok (.invokevirtual 95, 3) := by decide +kernel
theorem dL_law_901 : decode cL_law 901 = .ok (.aload_n 2, 1) := by decide +kernel
theorem dL_law_902 : decode cL_law 902 = .ok (.aload_n 0, 1) := by decide +kernel
theorem dL_law_903 : decode cL_law 903 = .ok (.iload 4, 2) := by decide +kernel
theorem dL_law_905 : decode cL_law 905 = .ok (.iconst 1, 1) := by decide +kernel
theorem dL_law_906 : decode cL_law 906 = .ok (.iadd, 1) := by decide +kernel
theorem dL_law_907 : decode cL_law 907 = .ok (.iaload, 1) := by decide +kernel
theorem dL_law_908 : decode cL_law 908 = .ok (.invokevirtual 98, 3) := by decide +kernel
theorem dL_law_911 : decode cL_law 911 = .ok (.if_icmp .eq 400, 3) := by decide +kernel
theorem dL_law_914 : decode cL_law 914 = .ok (.iconst 0, 1) := by decide +kernel
theorem dL_law_915 : decode cL_law 915 = .ok (.ireturn, 1) := by decide +kernel
theorem dL_law_916 : decode cL_law 916 = .ok (.aload_n 1, 1) := by decide +kernel
theorem dL_law_917 : decode cL_law 917 = .ok (.aload_n 0, 1) := by decide +kernel
theorem dL_law_918 : decode cL_law 918 = .ok (.iload 4, 2) := by decide +kernel
theorem dL_law_920 : decode cL_law 920 = .ok (.iconst 1, 1) := by decide +kernel
theorem dL_law_921 : decode cL_law 921 = .ok (.iadd, 1) := by decide +kernel
theorem dL_law_922 : decode cL_law 922 = .ok (.iaload, 1) := by decide +kernel
theorem dL_law_923 : decode cL_law 923 = .ok (.aload_n 0, 1) := by decide +kernel
theorem dL_law_924 : decode cL_law 924 = .ok (.iload 4, 2) := by decide +kernel
theorem dL_law_926 : decode cL_law 926 = .ok (.iconst 2, 1) := by decide +kernel
theorem dL_law_927 : decode cL_law 927 = .ok (.iadd, 1) := by decide +kernel
theorem dL_law_928 : decode cL_law 928 = .ok (.iaload, 1) := by decide +kernel
theorem dL_law_929 : decode cL_law 929 = .ok (.invokevirtual 99, 3) := by decide +kernel
theorem dL_law_932 : decode cL_law 932 = .ok (.aload_n 2, 1) := by decide +kernel
theorem dL_law_933 : decode cL_law 933 = .ok (.aload_n 0, 1) := by decide +kernel
theorem dL_law_934 : decode cL_law 934 = .ok (.iload 4, 2) := by decide +kernel
theorem dL_law_936 : decode cL_law 936 = .ok (.iconst 1, 1) := by decide +kernel
theorem dL_law_937 : decode cL_law 937 = .ok (.iadd, 1) := by decide +kernel
theorem dL_law_938 : decode cL_law 938 = .ok (.iaload, 1) := by decide +kernel
theorem dL_law_939 : decode cL_law 939 = .ok (.aload_n 0, 1) := by decide +kernel
theorem dL_law_940 : decode cL_law 940 = .ok (.iload 4, 2) := by decide +kernel
theorem dL_law_942 : decode cL_law 942 = .ok (.iconst 2, 1) := by decide +kernel
theorem dL_law_943 : decode cL_law 943 = .ok (.iadd, 1) := by decide +kernel
theorem dL_law_944 : decode cL_law 944 = .ok (.iaload, 1) := by decide +kernel
theorem dL_law_945 : decode cL_law 945 = .ok (.invokevirtual 102, 3) := by decide +kernel
theorem dL_law_948 : decode cL_law 948 = .ok (.if_icmp .eq 363, 3) := by decide +kernel
theorem dL_law_951 : decode cL_law 951 = .ok (.iconst 0, 1) := by decide +kernel
theorem dL_law_952 : decode cL_law 952 = .ok (.ireturn, 1) := by decide +kernel
theorem dL_law_953 : decode cL_law 953 = .ok (.aload_n 1, 1) := by decide +kernel
theorem dL_law_954 : decode cL_law 954 = .ok (.aload_n 0, 1) := by decide +kernel
theorem dL_law_955 : decode cL_law 955 = .ok (.iload 4, 2) := by decide +kernel
theorem dL_law_957 : decode cL_law 957 = .ok (.iconst 1, 1) := by decide +kernel
theorem dL_law_958 : decode cL_law 958 = .ok (.iadd, 1) := by decide +kernel
theorem dL_law_959 : decode cL_law 959 = .ok (.iaload, 1) := by decide +kernel
theorem dL_law_960 : decode cL_law 960 = .ok (.aload_n 0, 1) := by decide +kernel
theorem dL_law_961 : decode cL_law 961 = .ok (.iload 4, 2) := by decide +kernel
theorem dL_law_963 : decode cL_law 963 = .ok (.iconst 2, 1) := by decide +kernel
theorem dL_law_964 : decode cL_law 964 = .ok (.iadd, 1) := by decide +kernel
theorem dL_law_965 : decode cL_law 965 = .ok (.iaload, 1) := by decide +kernel
theorem dL_law_966 : decode cL_law 966 = .ok (.invokevirtual 103, 3) := by decide +kernel
theorem dL_law_969 : decode cL_law 969 = .ok (.aload_n 2, 1) := by decide +kernel
theorem dL_law_970 : decode cL_law 970 = .ok (.aload_n 0, 1) := by decide +kernel
theorem dL_law_971 : decode cL_law 971 = .ok (.iload 4, 2) := by decide +kernel
theorem dL_law_973 : decode cL_law 973 = .ok (.iconst 1, 1) := by decide +kernel
theorem dL_law_974 : decode cL_law 974 = .ok (.iadd, 1) := by decide +kernel
theorem dL_law_975 : decode cL_law 975 = .ok (.iaload, 1) := by decide +kernel
theorem dL_law_976 : decode cL_law 976 = .ok (.aload_n 0, 1) := by decide +kernel
theorem dL_law_977 : decode cL_law 977 = .ok (.iload 4, 2) := by decide +kernel
theorem dL_law_979 : decode cL_law 979 = .ok (.iconst 2, 1) := by decide +kernel
theorem dL_law_980 : decode cL_law 980 = .ok (.iadd, 1) := by decide +kernel
theorem dL_law_981 : decode cL_law 981 = .ok (.iaload, 1) := by decide +kernel
theorem dL_law_982 : decode cL_law 982 = .ok (.invokevirtual 106, 3) := by decide +kernel
theorem dL_law_985 : decode cL_law 985 = .ok (.if_icmp .eq 326, 3) := by decide +kernel
theorem dL_law_988 : decode cL_law 988 = .ok (.iconst 0, 1) := by decide +kernel
theorem dL_law_989 : decode cL_law 989 = .ok (.ireturn, 1) := by decide +kernel
theorem dL_law_990 : decode cL_law 990 = .ok (.aload_n 1, 1) := by decide +kernel
theorem dL_law_991 : decode cL_law 991 = .ok (.aload_n 0, 1) := by decide +kernel
theorem dL_law_992 : decode cL_law 992 = .ok (.iload 4, 2) := by decide +kernel
theorem dL_law_994 : decode cL_law 994 = .ok (.iconst 1, 1) := by decide +kernel
theorem dL_law_995 : decode cL_law 995 = .ok (.iadd, 1) := by decide +kernel
theorem dL_law_996 : decode cL_law 996 = .ok (.iaload, 1) := by decide +kernel
theorem dL_law_997 : decode cL_law 997 = .ok (.aload_n 0, 1) := by decide +kernel
theorem dL_law_998 : decode cL_law 998 = .ok (.iload 4, 2) := by decide +kernel
theorem dL_law_1000 : decode cL_law 1000 = .ok (.iconst 2, 1) := by decide +kernel
theorem dL_law_1001 : decode cL_law 1001 = .ok (.iadd, 1) := by decide +kernel
theorem dL_law_1002 : decode cL_law 1002 = .ok (.iaload, 1) := by decide +kernel
theorem dL_law_1003 : decode cL_law 1003 = .ok (.invokevirtual 107, 3) := by decide +kernel
theorem dL_law_1006 : decode cL_law 1006 = .ok (.aload_n 2, 1) := by decide +kernel
theorem dL_law_1007 : decode cL_law 1007 = .ok (.aload_n 0, 1) := by decide +kernel
theorem dL_law_1008 : decode cL_law 1008 = .ok (.iload 4, 2) := by decide +kernel
theorem dL_law_1010 : decode cL_law 1010 = .ok (.iconst 1, 1) := by decide +kernel
theorem dL_law_1011 : decode cL_law 1011 = .ok (.iadd, 1) := by decide +kernel
theorem dL_law_1012 : decode cL_law 1012 = .ok (.iaload, 1) := by decide +kernel
theorem dL_law_1013 : decode cL_law 1013 = .ok (.aload_n 0, 1) := by decide +kernel
theorem dL_law_1014 : decode cL_law 1014 = .ok (.iload 4, 2) := by decide +kernel
theorem dL_law_1016 : decode cL_law 1016 = .ok (.iconst 2, 1) := by decide +kernel
theorem dL_law_1017 : decode cL_law 1017 = .ok (.iadd, 1) := by decide +kernel
theorem dL_law_1018 : decode cL_law 1018 = .ok (.iaload, 1) := by decide +kernel
theorem dL_law_1019 : decode cL_law 1019 = .ok (.invokevirtual 110, 3) := by decide +kernel
theorem dL_law_1022 : decode cL_law 1022 = .ok (.if_icmp .eq 289, 3) := by decide +kernel
theorem dL_law_1025 : decode cL_law 1025 = .ok (.iconst 0, 1) := by decide +kernel
theorem dL_law_1026 : decode cL_law 1026 = .ok (.ireturn, 1) := by decide +kernel
theorem dL_law_1027 : decode cL_law 1027 = .ok (.aload_n 1, 1) := by decide +kernel
theorem dL_law_1028 : decode cL_law 1028 = .ok (.aload_n 0, 1) := by decide +kernel
theorem dL_law_1029 : decode cL_law 1029 = .ok (.iload 4, 2) := by decide +kernel
theorem dL_law_1031 : decode cL_law 1031 = .ok (.iconst 1, 1) := by decide +kernel
theorem dL_law_1032 : decode cL_law 1032 = .ok (.iadd, 1) := by decide +kernel
theorem dL_law_1033 : decode cL_law 1033 = .ok (.iaload, 1) := by decide +kernel
theorem dL_law_1034 : decode cL_law 1034 = .ok (.aload_n 0, 1) := by decide +kernel
theorem dL_law_1035 : decode cL_law 1035 = .ok (.iload 4, 2) := by decide +kernel
theorem dL_law_1037 : decode cL_law 1037 = .ok (.iconst 2, 1) := by decide +kernel
theorem dL_law_1038 : decode cL_law 1038 = .ok (.iadd, 1) := by decide +kernel
theorem dL_law_1039 : decode cL_law 1039 = .ok (.iaload, 1) := by decide +kernel
theorem dL_law_1040 : decode cL_law 1040 = .ok (.aload_n 0, 1) := by decide +kernel
theorem dL_law_1041 : decode cL_law 1041 = .ok (.iload 4, 2) := by decide +kernel
theorem dL_law_1043 : decode cL_law 1043 = .ok (.iconst 3, 1) := by decide +kernel
theorem dL_law_1044 : decode cL_law 1044 = .ok (.iadd, 1) := by decide +kernel
theorem dL_law_1045 : decode cL_law 1045 = .ok (.iaload, 1) := by decide +kernel
theorem dL_law_1046 : decode cL_law 1046 = .ok (.invokevirtual 111, 3) := by decide +kernel
theorem dL_law_1049 : decode cL_law 1049 = .ok (.aload_n 2, 1) := by decide +kernel
theorem dL_law_1050 : decode cL_law 1050 = .ok (.aload_n 0, 1) := by decide +kernel
theorem dL_law_1051 : decode cL_law 1051 = .ok (.iload 4, 2) := by decide +kernel
theorem dL_law_1053 : decode cL_law 1053 = .ok (.iconst 1, 1) := by decide +kernel
theorem dL_law_1054 : decode cL_law 1054 = .ok (.iadd, 1) := by decide +kernel
theorem dL_law_1055 : decode cL_law 1055 = .ok (.iaload, 1) := by decide +kernel
theorem dL_law_1056 : decode cL_law 1056 = .ok (.aload_n 0, 1) := by decide +kernel
theorem dL_law_1057 : decode cL_law 1057 = .ok (.iload 4, 2) := by decide +kernel
theorem dL_law_1059 : decode cL_law 1059 = .ok (.iconst 2, 1) := by decide +kernel
theorem dL_law_1060 : decode cL_law 1060 = .ok (.iadd, 1) := by decide +kernel
theorem dL_law_1061 : decode cL_law 1061 = .ok (.iaload, 1) := by decide +kernel
theorem dL_law_1062 : decode cL_law 1062 = .ok (.aload_n 0, 1) := by decide +kernel
theorem dL_law_1063 : decode cL_law 1063 = .ok (.iload 4, 2) := by decide +kernel
theorem dL_law_1065 : decode cL_law 1065 = .ok (.iconst 3, 1) := by decide +kernel
theorem dL_law_1066 : decode cL_law 1066 = .ok (.iadd, 1) := by decide +kernel
theorem dL_law_1067 : decode cL_law 1067 = .ok (.iaload, 1) := by decide +kernel
theorem dL_law_1068 : decode cL_law 1068 = .ok (.invokevirtual 114, 3) := by decide +kernel
theorem dL_law_1071 : decode cL_law 1071 = .ok (.if_icmp .eq 240, 3) := by decide +kernel
theorem dL_law_1074 : decode cL_law 1074 = .ok (.iconst 0, 1) := by decide +kernel
theorem dL_law_1075 : decode cL_law 1075 = .ok (.ireturn, 1) := by decide +kernel
theorem dL_law_1076 : decode cL_law 1076 = .ok (.aload_n 1, 1) := by decide +kernel
theorem dL_law_1077 : decode cL_law 1077 = .ok (.aload_n 0, 1) := by decide +kernel
theorem dL_law_1078 : decode cL_law 1078 = .ok (.iload 4, 2) := by decide +kernel
theorem dL_law_1080 : decode cL_law 1080 = .ok (.iconst 1, 1) := by decide +kernel
theorem dL_law_1081 : decode cL_law 1081 = .ok (.iadd, 1) := by decide +kernel
theorem dL_law_1082 : decode cL_law 1082 = .ok (.iaload, 1) := by decide +kernel
theorem dL_law_1083 : decode cL_law 1083 = .ok (.aload_n 0, 1) := by decide +kernel
theorem dL_law_1084 : decode cL_law 1084 = .ok (.iload 4, 2) := by decide +kernel
theorem dL_law_1086 : decode cL_law 1086 = .ok (.iconst 2, 1) := by decide +kernel
theorem dL_law_1087 : decode cL_law 1087 = .ok (.iadd, 1) := by decide +kernel
theorem dL_law_1088 : decode cL_law 1088 = .ok (.iaload, 1) := by decide +kernel
theorem dL_law_1089 : decode cL_law 1089 = .ok (.invokevirtual 115, 3) := by decide +kernel
theorem dL_law_1092 : decode cL_law 1092 = .ok (.aload_n 2, 1) := by decide +kernel
theorem dL_law_1093 : decode cL_law 1093 = .ok (.aload_n 0, 1) := by decide +kernel
theorem dL_law_1094 : decode cL_law 1094 = .ok (.iload 4, 2) := by decide +kernel
theorem dL_law_1096 : decode cL_law 1096 = .ok (.iconst 1, 1) := by decide +kernel
theorem dL_law_1097 : decode cL_law 1097 = .ok (.iadd, 1) := by decide +kernel
theorem dL_law_1098 : decode cL_law 1098 = .ok (.iaload, 1) := by decide +kernel
theorem dL_law_1099 : decode cL_law 1099 = .ok (.aload_n 0, 1) := by decide +kernel
theorem dL_law_1100 : decode cL_law 1100 = .ok (.iload 4, 2) := by decide +kernel
theorem dL_law_1102 : decode cL_law 1102 = .ok (.iconst 2, 1) := by decide +kernel
theorem dL_law_1103 : decode cL_law 1103 = .ok (.iadd, 1) := by decide +kernel
theorem dL_law_1104 : decode cL_law 1104 = .ok (.iaload, 1) := by decide +kernel
theorem dL_law_1105 : decode cL_law 1105 = .ok (.invokevirtual 118, 3) := by decide +kernel
theorem dL_law_1108 : decode cL_law 1108 = .ok (.if_icmp .eq 203, 3) := by decide +kernel
theorem dL_law_1111 : decode cL_law 1111 = .ok (.iconst 0, 1) := by decide +kernel
theorem dL_law_1112 : decode cL_law 1112 = .ok (.ireturn, 1) := by decide +kernel
theorem dL_law_1113 : decode cL_law 1113 = .ok (.aload_n 1, 1) := by decide +kernel
theorem dL_law_1114 : decode cL_law 1114 = .ok (.aload_n 0, 1) := by decide +kernel
theorem dL_law_1115 : decode cL_law 1115 = .ok (.iload 4, 2) := by decide +kernel
theorem dL_law_1117 : decode cL_law 1117 = .ok (.iconst 1, 1) := by decide +kernel
theorem dL_law_1118 : decode cL_law 1118 = .ok (.iadd, 1) := by decide +kernel
theorem dL_law_1119 : decode cL_law 1119 = .ok (.iaload, 1) := by decide +kernel
theorem dL_law_1120 : decode cL_law 1120 = .ok (.aload_n 0, 1) := by decide +kernel
theorem dL_law_1121 : decode cL_law 1121 = .ok (.iload 4, 2) := by decide +kernel
theorem dL_law_1123 : decode cL_law 1123 = .ok (.iconst 2, 1) := by decide +kernel
theorem dL_law_1124 : decode cL_law 1124 = .ok (.iadd, 1) := by decide +kernel
theorem dL_law_1125 : decode cL_law 1125 = .ok (.iaload, 1) := by decide +kernel
theorem dL_law_1126 : decode cL_law 1126 = .ok (.i2l, 1) := by decide +kernel
theorem dL_law_1127 : decode cL_law 1127 = .ok (.bipush 32, 2) := by decide +kernel
theorem dL_law_1129 : decode cL_law 1129 = .ok (.lshl, 1) := by decide +kernel
theorem dL_law_1130 : decode cL_law 1130 = .ok (.aload_n 0, 1) := by decide +kernel
theorem dL_law_1131 : decode cL_law 1131 = .ok (.iload 4, 2) := by decide +kernel
theorem dL_law_1133 : decode cL_law 1133 = .ok (.iconst 3, 1) := by decide +kernel
theorem dL_law_1134 : decode cL_law 1134 = .ok (.iadd, 1) := by decide +kernel
theorem dL_law_1135 : decode cL_law 1135 = .ok (.iaload, 1) := by decide +kernel
theorem dL_law_1136 : decode cL_law 1136 = .ok (.i2l, 1) := by decide +kernel
theorem dL_law_1137 : decode cL_law 1137 = .ok (.ldc2_w 36, 3) := by decide +kernel
theorem dL_law_1140 : decode cL_law 1140 = .ok (.land, 1) := by decide +kernel
theorem dL_law_1141 : decode cL_law 1141 = .ok (.lor, 1) := by decide +kernel
theorem dL_law_1142 : decode cL_law 1142 = .ok (.aload_n 3, 1) := by decide +kernel
theorem dL_law_1143 : decode cL_law 1143 = .ok (.invokestatic 119, 3) := by decide +kernel
theorem dL_law_1146 : decode cL_law 1146 = .ok (.istore 5, 2) := by decide +kernel
theorem dL_law_1148 : decode cL_law 1148 = .ok (.aload_n 2, 1) := by decide +kernel
theorem dL_law_1149 : decode cL_law 1149 = .ok (.aload_n 0, 1) := by decide +kernel
theorem dL_law_1150 : decode cL_law 1150 = .ok (.iload 4, 2) := by decide +kernel
theorem dL_law_1152 : decode cL_law 1152 = .ok (.iconst 1, 1) := by decide +kernel
theorem dL_law_1153 : decode cL_law 1153 = .ok (.iadd, 1) := by decide +kernel
theorem dL_law_1154 : decode cL_law 1154 = .ok (.iaload, 1) := by decide +kernel
theorem dL_law_1155 : decode cL_law 1155 = .ok (.aload_n 0, 1) := by decide +kernel
theorem dL_law_1156 : decode cL_law 1156 = .ok (.iload 4, 2) := by decide +kernel
theorem dL_law_1158 : decode cL_law 1158 = .ok (.iconst 2, 1) := by decide +kernel
theorem dL_law_1159 : decode cL_law 1159 = .ok (.iadd, 1) := by decide +kernel
theorem dL_law_1160 : decode cL_law 1160 = .ok (.iaload, 1) := by decide +kernel
theorem dL_law_1161 : decode cL_law 1161 = .ok (.i2l, 1) := by decide +kernel
theorem dL_law_1162 : decode cL_law 1162 = .ok (.bipush 32, 2) := by decide +kernel
theorem dL_law_1164 : decode cL_law 1164 = .ok (.lshl, 1) := by decide +kernel
theorem dL_law_1165 : decode cL_law 1165 = .ok (.aload_n 0, 1) := by decide +kernel
theorem dL_law_1166 : decode cL_law 1166 = .ok (.iload 4, 2) := by decide +kernel
theorem dL_law_1168 : decode cL_law 1168 = .ok (.iconst 3, 1) := by decide +kernel
theorem dL_law_1169 : decode cL_law 1169 = .ok (.iadd, 1) := by decide +kernel
theorem dL_law_1170 : decode cL_law 1170 = .ok (.iaload, 1) := by decide +kernel
theorem dL_law_1171 : decode cL_law 1171 = .ok (.i2l, 1) := by decide +kernel
theorem dL_law_1172 : decode cL_law 1172 = .ok (.ldc2_w 36, 3) := by decide +kernel
theorem dL_law_1175 : decode cL_law 1175 = .ok (.land, 1) := by decide +kernel
theorem dL_law_1176 : decode cL_law 1176 = .ok (.lor, 1) := by decide +kernel
theorem dL_law_1177 : decode cL_law 1177 = .ok (.invokevirtual 122, 3) := by decide +kernel
theorem dL_law_1180 : decode cL_law 1180 = .ok (.lstore 6, 2) := by decide +kernel
theorem dL_law_1182 : decode cL_law 1182 = .ok (.aload_n 2, 1) := by decide +kernel
theorem dL_law_1183 : decode cL_law 1183 = .ok (.invokevirtual 49, 3) := by decide +kernel
theorem dL_law_1186 : decode cL_law 1186 = .ok (.iload 5, 2) := by decide +kernel
theorem dL_law_1188 : decode cL_law 1188 = .ok (.if_icmp .eq 5, 3) := by decide +kernel
theorem dL_law_1191 : decode cL_law 1191 = .ok (.iconst 0, 1) := by decide +kernel
theorem dL_law_1192 : decode cL_law 1192 = .ok (.ireturn, 1) := by decide +kernel
theorem dL_law_1193 : decode cL_law 1193 = .ok (.iload 5, 2) := by decide +kernel
theorem dL_law_1195 : decode cL_law 1195 = .ok (.ifCond .ne 14, 3) := by decide +kernel
theorem dL_law_1198 : decode cL_law 1198 = .ok (.aload_n 3, 1) := by decide +kernel
theorem dL_law_1199 : decode cL_law 1199 = .ok (.iconst 0, 1) := by decide +kernel
theorem dL_law_1200 : decode cL_law 1200 = .ok (.laload, 1) := by decide +kernel
theorem dL_law_1201 : decode cL_law 1201 = .ok (.lload 6, 2) := by decide +kernel
theorem dL_law_1203 : decode cL_law 1203 = .ok (.lcmp, 1) := by decide +kernel
theorem dL_law_1204 : decode cL_law 1204 = .ok (.ifCond .eq 5, 3) := by decide +kernel
theorem dL_law_1207 : decode cL_law 1207 = .ok (.iconst 0, 1) := by decide +kernel
theorem dL_law_1208 : decode cL_law 1208 = .ok (.ireturn, 1) := by decide +kernel
theorem dL_law_1209 : decode cL_law 1209 = .ok (.goto 102, 3) := by decide +kernel
theorem dL_law_1212 : decode cL_law 1212 = .ok (.aload_n 1, 1) := by decide +kernel
theorem dL_law_1213 : decode cL_law 1213 = .ok (.aload_n 0, 1) := by decide +kernel
theorem dL_law_1214 : decode cL_law 1214 = .ok (.iload 4, 2) := by decide +kernel
theorem dL_law_1216 : decode cL_law 1216 = .ok (.iconst 1, 1) := by decide +kernel
theorem dL_law_1217 : decode cL_law 1217 = .ok (.iadd, 1) := by decide +kernel
theorem dL_law_1218 : decode cL_law 1218 = .ok (.iaload, 1) := by decide +kernel
theorem dL_law_1219 : decode cL_law 1219 = .ok (.aload_n 0, 1) := by decide +kernel
theorem dL_law_1220 : decode cL_law 1220 = .ok (.iload 4, 2) := by decide +kernel
theorem dL_law_1222 : decode cL_law 1222 = .ok (.iconst 2, 1) := by decide +kernel
theorem dL_law_1223 : decode cL_law 1223 = .ok (.iadd, 1) := by decide +kernel
theorem dL_law_1224 : decode cL_law 1224 = .ok (.iaload, 1) := by decide +kernel
theorem dL_law_1225 : decode cL_law 1225 = .ok (.invokevirtual 123, 3) := by decide +kernel
theorem dL_law_1228 : decode cL_law 1228 = .ok (.aload_n 2, 1) := by decide +kernel
theorem dL_law_1229 : decode cL_law 1229 = .ok (.aload_n 0, 1) := by decide +kernel
theorem dL_law_1230 : decode cL_law 1230 = .ok (.iload 4, 2) := by decide +kernel
theorem dL_law_1232 : decode cL_law 1232 = .ok (.iconst 1, 1) := by decide +kernel
theorem dL_law_1233 : decode cL_law 1233 = .ok (.iadd, 1) := by decide +kernel
theorem dL_law_1234 : decode cL_law 1234 = .ok (.iaload, 1) := by decide +kernel
theorem dL_law_1235 : decode cL_law 1235 = .ok (.aload_n 0, 1) := by decide +kernel
theorem dL_law_1236 : decode cL_law 1236 = .ok (.iload 4, 2) := by decide +kernel
theorem dL_law_1238 : decode cL_law 1238 = .ok (.iconst 2, 1) := by decide +kernel
theorem dL_law_1239 : decode cL_law 1239 = .ok (.iadd, 1) := by decide +kernel
theorem dL_law_1240 : decode cL_law 1240 = .ok (.iaload, 1) := by decide +kernel
theorem dL_law_1241 : decode cL_law 1241 = .ok (.invokevirtual 126, 3) := by decide +kernel
theorem dL_law_1244 : decode cL_law 1244 = .ok (.if_icmp .eq 67, 3) := by decide +kernel
theorem dL_law_1247 : decode cL_law 1247 = .ok (.iconst 0, 1) := by decide +kernel
theorem dL_law_1248 : decode cL_law 1248 = .ok (.ireturn, 1) := by decide +kernel
theorem dL_law_1249 : decode cL_law 1249 = .ok (.aload_n 1, 1) := by decide +kernel
theorem dL_law_1250 : decode cL_law 1250 = .ok (.aload_n 0, 1) := by decide +kernel
theorem dL_law_1251 : decode cL_law 1251 = .ok (.iload 4, 2) := by decide +kernel
theorem dL_law_1253 : decode cL_law 1253 = .ok (.iconst 1, 1) := by decide +kernel
theorem dL_law_1254 : decode cL_law 1254 = .ok (.iadd, 1) := by decide +kernel
theorem dL_law_1255 : decode cL_law 1255 = .ok (.iaload, 1) := by decide +kernel
theorem dL_law_1256 : decode cL_law 1256 = .ok (.aload_n 0, 1) := by decide +kernel
theorem dL_law_1257 : decode cL_law 1257 = .ok (.iload 4, 2) := by decide +kernel
theorem dL_law_1259 : decode cL_law 1259 = .ok (.iconst 2, 1) := by decide +kernel
theorem dL_law_1260 : decode cL_law 1260 = .ok (.iadd, 1) := by decide +kernel
theorem dL_law_1261 : decode cL_law 1261 = .ok (.iaload, 1) := by decide +kernel
theorem dL_law_1262 : decode cL_law 1262 = .ok (.invokevirtual 127, 3) := by decide +kernel
theorem dL_law_1265 : decode cL_law 1265 = .ok (.aload_n 2, 1) := by decide +kernel
theorem dL_law_1266 : decode cL_law 1266 = .ok (.aload_n 0, 1) := by decide +kernel
theorem dL_law_1267 : decode cL_law 1267 = .ok (.iload 4, 2) := by decide +kernel
theorem dL_law_1269 : decode cL_law 1269 = .ok (.iconst 1, 1) := by decide +kernel
theorem dL_law_1270 : decode cL_law 1270 = .ok (.iadd, 1) := by decide +kernel
theorem dL_law_1271 : decode cL_law 1271 = .ok (.iaload, 1) := by decide +kernel
theorem dL_law_1272 : decode cL_law 1272 = .ok (.aload_n 0, 1) := by decide +kernel
theorem dL_law_1273 : decode cL_law 1273 = .ok (.iload 4, 2) := by decide +kernel
theorem dL_law_1275 : decode cL_law 1275 = .ok (.iconst 2, 1) := by decide +kernel
theorem dL_law_1276 : decode cL_law 1276 = .ok (.iadd, 1) := by decide +kernel
theorem dL_law_1277 : decode cL_law 1277 = .ok (.iaload, 1) := by decide +kernel
theorem dL_law_1278 : decode cL_law 1278 = .ok (.invokevirtual 130, 3) := by decide +kernel
theorem dL_law_1281 : decode cL_law 1281 = .ok (.if_icmp .eq 30, 3) := by decide +kernel
theorem dL_law_1284 : decode cL_law 1284 = .ok (.iconst 0, 1) := by decide +kernel
theorem dL_law_1285 : decode cL_law 1285 = .ok (.ireturn, 1) := by decide +kernel
theorem dL_law_1286 : decode cL_law 1286 = .ok (.aload_n 1, 1) := by decide +kernel
theorem dL_law_1287 : decode cL_law 1287 = .ok (.aload_n 0, 1) := by decide +kernel
theorem dL_law_1288 : decode cL_law 1288 = .ok (.iload 4, 2) := by decide +kernel
theorem dL_law_1290 : decode cL_law 1290 = .ok (.iconst 1, 1) := by decide +kernel
theorem dL_law_1291 : decode cL_law 1291 = .ok (.iadd, 1) := by decide +kernel
theorem dL_law_1292 : decode cL_law 1292 = .ok (.iaload, 1) := by decide +kernel
theorem dL_law_1293 : decode cL_law 1293 = .ok (.invokevirtual 131, 3) := by decide +kernel
theorem dL_law_1296 : decode cL_law 1296 = .ok (.aload_n 2, 1) := by decide +kernel
theorem dL_law_1297 : decode cL_law 1297 = .ok (.aload_n 0, 1) := by decide +kernel
theorem dL_law_1298 : decode cL_law 1298 = .ok (.iload 4, 2) := by decide +kernel
theorem dL_law_1300 : decode cL_law 1300 = .ok (.iconst 1, 1) := by decide +kernel
theorem dL_law_1301 : decode cL_law 1301 = .ok (.iadd, 1) := by decide +kernel
theorem dL_law_1302 : decode cL_law 1302 = .ok (.iaload, 1) := by decide +kernel
theorem dL_law_1303 : decode cL_law 1303 = .ok (.invokevirtual 134, 3) := by decide +kernel
theorem dL_law_1306 : decode cL_law 1306 = .ok (.if_icmp .eq 5, 3) := by decide +kernel
theorem dL_law_1309 : decode cL_law 1309 = .ok (.iconst 0, 1) := by decide +kernel
theorem dL_law_1310 : decode cL_law 1310 = .ok (.ireturn, 1) := by decide +kernel
theorem dL_law_1311 : decode cL_law 1311 = .ok (.iinc 4 7, 3) := by decide +kernel
theorem dL_law_1314 : decode cL_law 1314 = .ok (.goto (-1291), 3) := by decide +kernel
theorem dL_law_1317 : decode cL_law 1317 = .ok (.iconst 1, 1) := by decide +kernel
theorem dL_law_1318 : decode cL_law 1318 = .ok (.ireturn, 1) := by decide +kernel
end
section
theorem zz_last : True := trivial
end
