section
-- ===== PART A: goes FIRST, ahead of the names: the tables' words, and 'selects' of the private methods out of them =====
/-- a private method of a class that the tables say can be made, by its rows of tables_1 -/
def lw_okq (q : MethodName × Nat) : Prop := (q.1.cls ≠ "java/lang/invoke/MethodHandle" ∧ q.1.cls ≠ "java/lang/invoke/VarHandle") ∧ Cond.instantiable q.1.cls q.2 ∈ tables_1 ∧ Cond.privateMethod q.1 ∈ tables_1 ∧ Cond.instanceMethod q.1 ∈ tables_1
theorem lw_p0 : lw_okq (⟨"GoalEngine$Collector", "dropNeedlessTrail", "()V"⟩, 6) := ⟨⟨by decide +kernel, by decide +kernel⟩, List.mem_of_getElem? (i := 244) (by decide +kernel), List.mem_of_getElem? (i := 375) (by decide +kernel), List.mem_of_getElem? (i := 376) (by decide +kernel)⟩
theorem lw_p1 : lw_okq (⟨"GoalEngine$Collector", "traceLive", "(II)V"⟩, 6) := ⟨⟨by decide +kernel, by decide +kernel⟩, List.mem_of_getElem? (i := 244) (by decide +kernel), List.mem_of_getElem? (i := 379) (by decide +kernel), List.mem_of_getElem? (i := 380) (by decide +kernel)⟩
theorem lw_p2 : lw_okq (⟨"GoalEngine$Tracer", "reach", "(I)V"⟩, 4) := ⟨⟨by decide +kernel, by decide +kernel⟩, List.mem_of_getElem? (i := 130) (by decide +kernel), List.mem_of_getElem? (i := 391) (by decide +kernel), List.mem_of_getElem? (i := 392) (by decide +kernel)⟩
theorem lw_p3 : lw_okq (⟨"GoalEngine$Collector", "traceGoals", "(I)V"⟩, 6) := ⟨⟨by decide +kernel, by decide +kernel⟩, List.mem_of_getElem? (i := 244) (by decide +kernel), List.mem_of_getElem? (i := 398) (by decide +kernel), List.mem_of_getElem? (i := 399) (by decide +kernel)⟩
theorem lw_p4 : lw_okq (⟨"GoalEngine$Collector", "findNewPlaces", "()V"⟩, 6) := ⟨⟨by decide +kernel, by decide +kernel⟩, List.mem_of_getElem? (i := 244) (by decide +kernel), List.mem_of_getElem? (i := 402) (by decide +kernel), List.mem_of_getElem? (i := 403) (by decide +kernel)⟩
theorem lw_p5 : lw_okq (⟨"GoalEngine$Collector", "moveCells", "()V"⟩, 6) := ⟨⟨by decide +kernel, by decide +kernel⟩, List.mem_of_getElem? (i := 244) (by decide +kernel), List.mem_of_getElem? (i := 411) (by decide +kernel), List.mem_of_getElem? (i := 412) (by decide +kernel)⟩
theorem lw_p6 : lw_okq (⟨"GoalEngine$Collector", "moved", "(I)I"⟩, 6) := ⟨⟨by decide +kernel, by decide +kernel⟩, List.mem_of_getElem? (i := 244) (by decide +kernel), List.mem_of_getElem? (i := 415) (by decide +kernel), List.mem_of_getElem? (i := 416) (by decide +kernel)⟩
theorem lw_p7 : lw_okq (⟨"GoalEngine$Collector", "moveGoals", "(I)V"⟩, 6) := ⟨⟨by decide +kernel, by decide +kernel⟩, List.mem_of_getElem? (i := 244) (by decide +kernel), List.mem_of_getElem? (i := 426) (by decide +kernel), List.mem_of_getElem? (i := 427) (by decide +kernel)⟩
theorem lw_p8 : lw_okq (⟨"GoalEngine$Collector", "moveMarks", "()V"⟩, 6) := ⟨⟨by decide +kernel, by decide +kernel⟩, List.mem_of_getElem? (i := 244) (by decide +kernel), List.mem_of_getElem? (i := 430) (by decide +kernel), List.mem_of_getElem? (i := 431) (by decide +kernel)⟩
theorem lw_p9 : lw_okq (⟨"GoalEngine$Answer", "writeTerm", "(I)V"⟩, 7) := ⟨⟨by decide +kernel, by decide +kernel⟩, List.mem_of_getElem? (i := 270) (by decide +kernel), List.mem_of_getElem? (i := 446) (by decide +kernel), List.mem_of_getElem? (i := 447) (by decide +kernel)⟩
theorem lw_p10 : lw_okq (⟨"GoalEngine$Answer", "wordOf", "(I)I"⟩, 7) := ⟨⟨by decide +kernel, by decide +kernel⟩, List.mem_of_getElem? (i := 270) (by decide +kernel), List.mem_of_getElem? (i := 454) (by decide +kernel), List.mem_of_getElem? (i := 455) (by decide +kernel)⟩
theorem lw_p11 : lw_okq (⟨"GoalEngine$Answer", "openArguments", "(I)V"⟩, 7) := ⟨⟨by decide +kernel, by decide +kernel⟩, List.mem_of_getElem? (i := 270) (by decide +kernel), List.mem_of_getElem? (i := 462) (by decide +kernel), List.mem_of_getElem? (i := 463) (by decide +kernel)⟩
theorem lw_p12 : lw_okq (⟨"java/lang/Throwable", "fillInStackTrace", "(I)Ljava/lang/Throwable;"⟩, 6) := ⟨⟨by decide +kernel, by decide +kernel⟩, List.mem_of_getElem? (i := 523) (by decide +kernel), List.mem_of_getElem? (i := 521) (by decide +kernel), List.mem_of_getElem? (i := 522) (by decide +kernel)⟩
theorem lw_p13 : lw_okq (⟨"GoalEngine", "takeTyped", "()I"⟩, 4) := ⟨⟨by decide +kernel, by decide +kernel⟩, List.mem_of_getElem? (i := 27) (by decide +kernel), List.mem_of_getElem? (i := 570) (by decide +kernel), List.mem_of_getElem? (i := 571) (by decide +kernel)⟩
theorem lw_p14 : lw_okq (⟨"GoalEngine$Cells", "takeVariables", "(I)V"⟩, 9) := ⟨⟨by decide +kernel, by decide +kernel⟩, List.mem_of_getElem? (i := 85) (by decide +kernel), List.mem_of_getElem? (i := 619) (by decide +kernel), List.mem_of_getElem? (i := 620) (by decide +kernel)⟩
theorem lw_p15 : lw_okq (⟨"GoalEngine$Cells", "termOf", "(I)I"⟩, 9) := ⟨⟨by decide +kernel, by decide +kernel⟩, List.mem_of_getElem? (i := 85) (by decide +kernel), List.mem_of_getElem? (i := 623) (by decide +kernel), List.mem_of_getElem? (i := 624) (by decide +kernel)⟩
def lw_privs_1 : List (MethodName × Nat) := [(⟨"GoalEngine$Collector", "dropNeedlessTrail", "()V"⟩, 6), (⟨"GoalEngine$Collector", "traceLive", "(II)V"⟩, 6), (⟨"GoalEngine$Tracer", "reach", "(I)V"⟩, 4), (⟨"GoalEngine$Collector", "traceGoals", "(I)V"⟩, 6), (⟨"GoalEngine$Collector", "findNewPlaces", "()V"⟩, 6), (⟨"GoalEngine$Collector", "moveCells", "()V"⟩, 6), (⟨"GoalEngine$Collector", "moved", "(I)I"⟩, 6), (⟨"GoalEngine$Collector", "moveGoals", "(I)V"⟩, 6), (⟨"GoalEngine$Collector", "moveMarks", "()V"⟩, 6), (⟨"GoalEngine$Answer", "writeTerm", "(I)V"⟩, 7), (⟨"GoalEngine$Answer", "wordOf", "(I)I"⟩, 7), (⟨"GoalEngine$Answer", "openArguments", "(I)V"⟩, 7), (⟨"java/lang/Throwable", "fillInStackTrace", "(I)Ljava/lang/Throwable;"⟩, 6), (⟨"GoalEngine", "takeTyped", "()I"⟩, 4), (⟨"GoalEngine$Cells", "takeVariables", "(I)V"⟩, 9), (⟨"GoalEngine$Cells", "termOf", "(I)I"⟩, 9)]
theorem lw_r1 : ∀ q ∈ lw_privs_1, lw_okq q := List.forall_mem_cons.mpr ⟨lw_p0, List.forall_mem_cons.mpr ⟨lw_p1, List.forall_mem_cons.mpr ⟨lw_p2, List.forall_mem_cons.mpr ⟨lw_p3, List.forall_mem_cons.mpr ⟨lw_p4, List.forall_mem_cons.mpr ⟨lw_p5, List.forall_mem_cons.mpr ⟨lw_p6, List.forall_mem_cons.mpr ⟨lw_p7, List.forall_mem_cons.mpr ⟨lw_p8, List.forall_mem_cons.mpr ⟨lw_p9, List.forall_mem_cons.mpr ⟨lw_p10, List.forall_mem_cons.mpr ⟨lw_p11, List.forall_mem_cons.mpr ⟨lw_p12, List.forall_mem_cons.mpr ⟨lw_p13, List.forall_mem_cons.mpr ⟨lw_p14, List.forall_mem_cons.mpr ⟨lw_p15, fun _ h => absurd h List.not_mem_nil⟩⟩⟩⟩⟩⟩⟩⟩⟩⟩⟩⟩⟩⟩⟩⟩
theorem lw_p16 : lw_okq (⟨"GoalEngine$Cells", "place", "(I)V"⟩, 9) := ⟨⟨by decide +kernel, by decide +kernel⟩, List.mem_of_getElem? (i := 85) (by decide +kernel), List.mem_of_getElem? (i := 628) (by decide +kernel), List.mem_of_getElem? (i := 629) (by decide +kernel)⟩
theorem lw_p17 : lw_okq (⟨"GoalEngine$Cells", "takeName", "(I)V"⟩, 9) := ⟨⟨by decide +kernel, by decide +kernel⟩, List.mem_of_getElem? (i := 85) (by decide +kernel), List.mem_of_getElem? (i := 632) (by decide +kernel), List.mem_of_getElem? (i := 633) (by decide +kernel)⟩
theorem lw_p18 : lw_okq (⟨"GoalEngine$Search", "bringGoals", "(II)V"⟩, 13) := ⟨⟨by decide +kernel, by decide +kernel⟩, List.mem_of_getElem? (i := 77) (by decide +kernel), List.mem_of_getElem? (i := 636) (by decide +kernel), List.mem_of_getElem? (i := 637) (by decide +kernel)⟩
theorem lw_p19 : lw_okq (⟨"GoalEngine$Goals", "grow", "()V"⟩, 4) := ⟨⟨by decide +kernel, by decide +kernel⟩, List.mem_of_getElem? (i := 185) (by decide +kernel), List.mem_of_getElem? (i := 646) (by decide +kernel), List.mem_of_getElem? (i := 647) (by decide +kernel)⟩
theorem lw_p20 : lw_okq (⟨"GoalEngine$Search", "meet", "(III)I"⟩, 13) := ⟨⟨by decide +kernel, by decide +kernel⟩, List.mem_of_getElem? (i := 77) (by decide +kernel), List.mem_of_getElem? (i := 687) (by decide +kernel), List.mem_of_getElem? (i := 688) (by decide +kernel)⟩
theorem lw_p21 : lw_okq (⟨"GoalEngine$Unifier", "lookAt", "(II)Z"⟩, 5) := ⟨⟨by decide +kernel, by decide +kernel⟩, List.mem_of_getElem? (i := 150) (by decide +kernel), List.mem_of_getElem? (i := 696) (by decide +kernel), List.mem_of_getElem? (i := 697) (by decide +kernel)⟩
theorem lw_p22 : lw_okq (⟨"GoalEngine$Unifier", "bindLater", "(II)V"⟩, 5) := ⟨⟨by decide +kernel, by decide +kernel⟩, List.mem_of_getElem? (i := 150) (by decide +kernel), List.mem_of_getElem? (i := 700) (by decide +kernel), List.mem_of_getElem? (i := 701) (by decide +kernel)⟩
theorem lw_p23 : lw_okq (⟨"GoalEngine$Unifier", "bindUnlessInside", "(II)Z"⟩, 5) := ⟨⟨by decide +kernel, by decide +kernel⟩, List.mem_of_getElem? (i := 150) (by decide +kernel), List.mem_of_getElem? (i := 710) (by decide +kernel), List.mem_of_getElem? (i := 711) (by decide +kernel)⟩
theorem lw_p24 : lw_okq (⟨"GoalEngine$Unifier", "openArguments", "(II)Z"⟩, 5) := ⟨⟨by decide +kernel, by decide +kernel⟩, List.mem_of_getElem? (i := 150) (by decide +kernel), List.mem_of_getElem? (i := 717) (by decide +kernel), List.mem_of_getElem? (i := 718) (by decide +kernel)⟩
theorem lw_p25 : lw_okq (⟨"GoalEngine$Calculator", "resultOf", "(I)J"⟩, 2) := ⟨⟨by decide +kernel, by decide +kernel⟩, List.mem_of_getElem? (i := 172) (by decide +kernel), List.mem_of_getElem? (i := 728) (by decide +kernel), List.mem_of_getElem? (i := 729) (by decide +kernel)⟩
theorem lw_p26 : lw_okq (⟨"GoalEngine$Calculator", "isOperation", "(I)Z"⟩, 2) := ⟨⟨by decide +kernel, by decide +kernel⟩, List.mem_of_getElem? (i := 172) (by decide +kernel), List.mem_of_getElem? (i := 733) (by decide +kernel), List.mem_of_getElem? (i := 734) (by decide +kernel)⟩
theorem lw_p27 : lw_okq (⟨"GoalEngine$Search", "tryRule", "(III)I"⟩, 13) := ⟨⟨by decide +kernel, by decide +kernel⟩, List.mem_of_getElem? (i := 77) (by decide +kernel), List.mem_of_getElem? (i := 754) (by decide +kernel), List.mem_of_getElem? (i := 755) (by decide +kernel)⟩
theorem lw_p28 : lw_okq (⟨"GoalEngine$Search", "hasRoomFor", "(LGoalEngine$Clause;)Z"⟩, 13) := ⟨⟨by decide +kernel, by decide +kernel⟩, List.mem_of_getElem? (i := 77) (by decide +kernel), List.mem_of_getElem? (i := 764) (by decide +kernel), List.mem_of_getElem? (i := 765) (by decide +kernel)⟩
theorem lw_p29 : lw_okq (⟨"GoalEngineModel", "areGoals", "(I)Z"⟩, 50) := ⟨⟨by decide +kernel, by decide +kernel⟩, List.mem_of_getElem? (i := 872) (by decide +kernel), List.mem_of_getElem? (i := 1041) (by decide +kernel), List.mem_of_getElem? (i := 1042) (by decide +kernel)⟩
theorem lw_p30 : lw_okq (⟨"GoalEngineModel", "behind", "(I)I"⟩, 50) := ⟨⟨by decide +kernel, by decide +kernel⟩, List.mem_of_getElem? (i := 872) (by decide +kernel), List.mem_of_getElem? (i := 1045) (by decide +kernel), List.mem_of_getElem? (i := 1046) (by decide +kernel)⟩
theorem lw_p31 : lw_okq (⟨"GoalEngineModel", "arity", "(I)I"⟩, 50) := ⟨⟨by decide +kernel, by decide +kernel⟩, List.mem_of_getElem? (i := 872) (by decide +kernel), List.mem_of_getElem? (i := 1049) (by decide +kernel), List.mem_of_getElem? (i := 1050) (by decide +kernel)⟩
def lw_privs_2 : List (MethodName × Nat) := [(⟨"GoalEngine$Cells", "place", "(I)V"⟩, 9), (⟨"GoalEngine$Cells", "takeName", "(I)V"⟩, 9), (⟨"GoalEngine$Search", "bringGoals", "(II)V"⟩, 13), (⟨"GoalEngine$Goals", "grow", "()V"⟩, 4), (⟨"GoalEngine$Search", "meet", "(III)I"⟩, 13), (⟨"GoalEngine$Unifier", "lookAt", "(II)Z"⟩, 5), (⟨"GoalEngine$Unifier", "bindLater", "(II)V"⟩, 5), (⟨"GoalEngine$Unifier", "bindUnlessInside", "(II)Z"⟩, 5), (⟨"GoalEngine$Unifier", "openArguments", "(II)Z"⟩, 5), (⟨"GoalEngine$Calculator", "resultOf", "(I)J"⟩, 2), (⟨"GoalEngine$Calculator", "isOperation", "(I)Z"⟩, 2), (⟨"GoalEngine$Search", "tryRule", "(III)I"⟩, 13), (⟨"GoalEngine$Search", "hasRoomFor", "(LGoalEngine$Clause;)Z"⟩, 13), (⟨"GoalEngineModel", "areGoals", "(I)Z"⟩, 50), (⟨"GoalEngineModel", "behind", "(I)I"⟩, 50), (⟨"GoalEngineModel", "arity", "(I)I"⟩, 50)]
theorem lw_r2 : ∀ q ∈ lw_privs_2, lw_okq q := List.forall_mem_cons.mpr ⟨lw_p16, List.forall_mem_cons.mpr ⟨lw_p17, List.forall_mem_cons.mpr ⟨lw_p18, List.forall_mem_cons.mpr ⟨lw_p19, List.forall_mem_cons.mpr ⟨lw_p20, List.forall_mem_cons.mpr ⟨lw_p21, List.forall_mem_cons.mpr ⟨lw_p22, List.forall_mem_cons.mpr ⟨lw_p23, List.forall_mem_cons.mpr ⟨lw_p24, List.forall_mem_cons.mpr ⟨lw_p25, List.forall_mem_cons.mpr ⟨lw_p26, List.forall_mem_cons.mpr ⟨lw_p27, List.forall_mem_cons.mpr ⟨lw_p28, List.forall_mem_cons.mpr ⟨lw_p29, List.forall_mem_cons.mpr ⟨lw_p30, List.forall_mem_cons.mpr ⟨lw_p31, fun _ h => absurd h List.not_mem_nil⟩⟩⟩⟩⟩⟩⟩⟩⟩⟩⟩⟩⟩⟩⟩⟩
theorem lw_p32 : lw_okq (⟨"GoalEngineModel", "end", "()V"⟩, 50) := ⟨⟨by decide +kernel, by decide +kernel⟩, List.mem_of_getElem? (i := 872) (by decide +kernel), List.mem_of_getElem? (i := 1057) (by decide +kernel), List.mem_of_getElem? (i := 1058) (by decide +kernel)⟩
theorem lw_p33 : lw_okq (⟨"GoalEngineModel", "copy", "([III)V"⟩, 50) := ⟨⟨by decide +kernel, by decide +kernel⟩, List.mem_of_getElem? (i := 872) (by decide +kernel), List.mem_of_getElem? (i := 1061) (by decide +kernel), List.mem_of_getElem? (i := 1062) (by decide +kernel)⟩
theorem lw_p34 : lw_okq (⟨"GoalEngineModel", "hasVariable", "([IIII)Z"⟩, 50) := ⟨⟨by decide +kernel, by decide +kernel⟩, List.mem_of_getElem? (i := 872) (by decide +kernel), List.mem_of_getElem? (i := 1065) (by decide +kernel), List.mem_of_getElem? (i := 1066) (by decide +kernel)⟩
theorem lw_p35 : lw_okq (⟨"GoalEngineModel", "take", "(I)I"⟩, 50) := ⟨⟨by decide +kernel, by decide +kernel⟩, List.mem_of_getElem? (i := 872) (by decide +kernel), List.mem_of_getElem? (i := 1069) (by decide +kernel), List.mem_of_getElem? (i := 1070) (by decide +kernel)⟩
theorem lw_p36 : lw_okq (⟨"GoalEngineModel", "copyWord", "(I)V"⟩, 50) := ⟨⟨by decide +kernel, by decide +kernel⟩, List.mem_of_getElem? (i := 872) (by decide +kernel), List.mem_of_getElem? (i := 1073) (by decide +kernel), List.mem_of_getElem? (i := 1074) (by decide +kernel)⟩
theorem lw_p37 : lw_okq (⟨"GoalEngineModel", "place", "()V"⟩, 50) := ⟨⟨by decide +kernel, by decide +kernel⟩, List.mem_of_getElem? (i := 872) (by decide +kernel), List.mem_of_getElem? (i := 1077) (by decide +kernel), List.mem_of_getElem? (i := 1078) (by decide +kernel)⟩
theorem lw_p38 : lw_okq (⟨"GoalEngineModel", "link", "(IIII)I"⟩, 50) := ⟨⟨by decide +kernel, by decide +kernel⟩, List.mem_of_getElem? (i := 872) (by decide +kernel), List.mem_of_getElem? (i := 1081) (by decide +kernel), List.mem_of_getElem? (i := 1082) (by decide +kernel)⟩
theorem lw_p39 : lw_okq (⟨"GoalEngineModel", "inUse", "()I"⟩, 50) := ⟨⟨by decide +kernel, by decide +kernel⟩, List.mem_of_getElem? (i := 872) (by decide +kernel), List.mem_of_getElem? (i := 1085) (by decide +kernel), List.mem_of_getElem? (i := 1086) (by decide +kernel)⟩
theorem lw_p40 : lw_okq (⟨"GoalEngineModel", "step", "()V"⟩, 50) := ⟨⟨by decide +kernel, by decide +kernel⟩, List.mem_of_getElem? (i := 872) (by decide +kernel), List.mem_of_getElem? (i := 1093) (by decide +kernel), List.mem_of_getElem? (i := 1094) (by decide +kernel)⟩
theorem lw_p41 : lw_okq (⟨"GoalEngineModel", "kindOf", "(I)I"⟩, 50) := ⟨⟨by decide +kernel, by decide +kernel⟩, List.mem_of_getElem? (i := 872) (by decide +kernel), List.mem_of_getElem? (i := 1097) (by decide +kernel), List.mem_of_getElem? (i := 1098) (by decide +kernel)⟩
theorem lw_p42 : lw_okq (⟨"GoalEngineModel", "valueOf", "(I)I"⟩, 50) := ⟨⟨by decide +kernel, by decide +kernel⟩, List.mem_of_getElem? (i := 872) (by decide +kernel), List.mem_of_getElem? (i := 1101) (by decide +kernel), List.mem_of_getElem? (i := 1102) (by decide +kernel)⟩
theorem lw_p43 : lw_okq (⟨"GoalEngineModel", "attempt", "(II)V"⟩, 50) := ⟨⟨by decide +kernel, by decide +kernel⟩, List.mem_of_getElem? (i := 872) (by decide +kernel), List.mem_of_getElem? (i := 1105) (by decide +kernel), List.mem_of_getElem? (i := 1106) (by decide +kernel)⟩
theorem lw_p44 : lw_okq (⟨"GoalEngineModel", "wordOf", "(II)I"⟩, 50) := ⟨⟨by decide +kernel, by decide +kernel⟩, List.mem_of_getElem? (i := 872) (by decide +kernel), List.mem_of_getElem? (i := 1109) (by decide +kernel), List.mem_of_getElem? (i := 1110) (by decide +kernel)⟩
theorem lw_p45 : lw_okq (⟨"GoalEngineModel", "ruleFor", "(II)I"⟩, 50) := ⟨⟨by decide +kernel, by decide +kernel⟩, List.mem_of_getElem? (i := 872) (by decide +kernel), List.mem_of_getElem? (i := 1113) (by decide +kernel), List.mem_of_getElem? (i := 1114) (by decide +kernel)⟩
theorem lw_p46 : lw_okq (⟨"GoalEngineModel", "needs", "([III)I"⟩, 50) := ⟨⟨by decide +kernel, by decide +kernel⟩, List.mem_of_getElem? (i := 872) (by decide +kernel), List.mem_of_getElem? (i := 1117) (by decide +kernel), List.mem_of_getElem? (i := 1118) (by decide +kernel)⟩
theorem lw_p47 : lw_okq (⟨"GoalEngineModel", "free", "(II)I"⟩, 50) := ⟨⟨by decide +kernel, by decide +kernel⟩, List.mem_of_getElem? (i := 872) (by decide +kernel), List.mem_of_getElem? (i := 1121) (by decide +kernel), List.mem_of_getElem? (i := 1122) (by decide +kernel)⟩
def lw_privs_3 : List (MethodName × Nat) := [(⟨"GoalEngineModel", "end", "()V"⟩, 50), (⟨"GoalEngineModel", "copy", "([III)V"⟩, 50), (⟨"GoalEngineModel", "hasVariable", "([IIII)Z"⟩, 50), (⟨"GoalEngineModel", "take", "(I)I"⟩, 50), (⟨"GoalEngineModel", "copyWord", "(I)V"⟩, 50), (⟨"GoalEngineModel", "place", "()V"⟩, 50), (⟨"GoalEngineModel", "link", "(IIII)I"⟩, 50), (⟨"GoalEngineModel", "inUse", "()I"⟩, 50), (⟨"GoalEngineModel", "step", "()V"⟩, 50), (⟨"GoalEngineModel", "kindOf", "(I)I"⟩, 50), (⟨"GoalEngineModel", "valueOf", "(I)I"⟩, 50), (⟨"GoalEngineModel", "attempt", "(II)V"⟩, 50), (⟨"GoalEngineModel", "wordOf", "(II)I"⟩, 50), (⟨"GoalEngineModel", "ruleFor", "(II)I"⟩, 50), (⟨"GoalEngineModel", "needs", "([III)I"⟩, 50), (⟨"GoalEngineModel", "free", "(II)I"⟩, 50)]
theorem lw_r3 : ∀ q ∈ lw_privs_3, lw_okq q := List.forall_mem_cons.mpr ⟨lw_p32, List.forall_mem_cons.mpr ⟨lw_p33, List.forall_mem_cons.mpr ⟨lw_p34, List.forall_mem_cons.mpr ⟨lw_p35, List.forall_mem_cons.mpr ⟨lw_p36, List.forall_mem_cons.mpr ⟨lw_p37, List.forall_mem_cons.mpr ⟨lw_p38, List.forall_mem_cons.mpr ⟨lw_p39, List.forall_mem_cons.mpr ⟨lw_p40, List.forall_mem_cons.mpr ⟨lw_p41, List.forall_mem_cons.mpr ⟨lw_p42, List.forall_mem_cons.mpr ⟨lw_p43, List.forall_mem_cons.mpr ⟨lw_p44, List.forall_mem_cons.mpr ⟨lw_p45, List.forall_mem_cons.mpr ⟨lw_p46, List.forall_mem_cons.mpr ⟨lw_p47, fun _ h => absurd h List.not_mem_nil⟩⟩⟩⟩⟩⟩⟩⟩⟩⟩⟩⟩⟩⟩⟩⟩
theorem lw_p48 : lw_okq (⟨"GoalEngineModel", "mark", "(II)V"⟩, 50) := ⟨⟨by decide +kernel, by decide +kernel⟩, List.mem_of_getElem? (i := 872) (by decide +kernel), List.mem_of_getElem? (i := 1125) (by decide +kernel), List.mem_of_getElem? (i := 1126) (by decide +kernel)⟩
theorem lw_p49 : lw_okq (⟨"GoalEngineModel", "push", "(II)V"⟩, 50) := ⟨⟨by decide +kernel, by decide +kernel⟩, List.mem_of_getElem? (i := 872) (by decide +kernel), List.mem_of_getElem? (i := 1129) (by decide +kernel), List.mem_of_getElem? (i := 1130) (by decide +kernel)⟩
theorem lw_p50 : lw_okq (⟨"GoalEngineModel", "pushArguments", "(I)V"⟩, 50) := ⟨⟨by decide +kernel, by decide +kernel⟩, List.mem_of_getElem? (i := 872) (by decide +kernel), List.mem_of_getElem? (i := 1133) (by decide +kernel), List.mem_of_getElem? (i := 1134) (by decide +kernel)⟩
theorem lw_p51 : lw_okq (⟨"GoalEngineModel", "markGoals", "(I)V"⟩, 50) := ⟨⟨by decide +kernel, by decide +kernel⟩, List.mem_of_getElem? (i := 872) (by decide +kernel), List.mem_of_getElem? (i := 1137) (by decide +kernel), List.mem_of_getElem? (i := 1138) (by decide +kernel)⟩
theorem lw_p52 : lw_okq (⟨"GoalEngineModel", "unify", "(IIII)V"⟩, 50) := ⟨⟨by decide +kernel, by decide +kernel⟩, List.mem_of_getElem? (i := 872) (by decide +kernel), List.mem_of_getElem? (i := 1141) (by decide +kernel), List.mem_of_getElem? (i := 1142) (by decide +kernel)⟩
theorem lw_p53 : lw_okq (⟨"GoalEngineModel", "mean", "(II)V"⟩, 50) := ⟨⟨by decide +kernel, by decide +kernel⟩, List.mem_of_getElem? (i := 872) (by decide +kernel), List.mem_of_getElem? (i := 1145) (by decide +kernel), List.mem_of_getElem? (i := 1146) (by decide +kernel)⟩
theorem lw_p54 : lw_okq (⟨"GoalEngineModel", "meet", "(IIII)V"⟩, 50) := ⟨⟨by decide +kernel, by decide +kernel⟩, List.mem_of_getElem? (i := 872) (by decide +kernel), List.mem_of_getElem? (i := 1149) (by decide +kernel), List.mem_of_getElem? (i := 1150) (by decide +kernel)⟩
theorem lw_p55 : lw_okq (⟨"GoalEngineModel", "bind", "(III)V"⟩, 50) := ⟨⟨by decide +kernel, by decide +kernel⟩, List.mem_of_getElem? (i := 872) (by decide +kernel), List.mem_of_getElem? (i := 1153) (by decide +kernel), List.mem_of_getElem? (i := 1154) (by decide +kernel)⟩
theorem lw_p56 : lw_okq (⟨"GoalEngineModel", "occurs", "(III)Z"⟩, 50) := ⟨⟨by decide +kernel, by decide +kernel⟩, List.mem_of_getElem? (i := 872) (by decide +kernel), List.mem_of_getElem? (i := 1157) (by decide +kernel), List.mem_of_getElem? (i := 1158) (by decide +kernel)⟩
theorem lw_p57 : lw_okq (⟨"GoalEngineModel", "pushPairs", "(II)V"⟩, 50) := ⟨⟨by decide +kernel, by decide +kernel⟩, List.mem_of_getElem? (i := 872) (by decide +kernel), List.mem_of_getElem? (i := 1161) (by decide +kernel), List.mem_of_getElem? (i := 1162) (by decide +kernel)⟩
theorem lw_p58 : lw_okq (⟨"GoalEngineModel", "known", "(II)V"⟩, 50) := ⟨⟨by decide +kernel, by decide +kernel⟩, List.mem_of_getElem? (i := 872) (by decide +kernel), List.mem_of_getElem? (i := 1165) (by decide +kernel), List.mem_of_getElem? (i := 1166) (by decide +kernel)⟩
theorem lw_p59 : lw_okq (⟨"GoalEngineModel", "argumentKind", "(II)I"⟩, 50) := ⟨⟨by decide +kernel, by decide +kernel⟩, List.mem_of_getElem? (i := 872) (by decide +kernel), List.mem_of_getElem? (i := 1169) (by decide +kernel), List.mem_of_getElem? (i := 1170) (by decide +kernel)⟩
theorem lw_p60 : lw_okq (⟨"GoalEngineModel", "argumentValue", "(II)I"⟩, 50) := ⟨⟨by decide +kernel, by decide +kernel⟩, List.mem_of_getElem? (i := 872) (by decide +kernel), List.mem_of_getElem? (i := 1173) (by decide +kernel), List.mem_of_getElem? (i := 1174) (by decide +kernel)⟩
theorem lw_p61 : lw_okq (⟨"GoalEngineModel", "calculate", "(II)I"⟩, 50) := ⟨⟨by decide +kernel, by decide +kernel⟩, List.mem_of_getElem? (i := 872) (by decide +kernel), List.mem_of_getElem? (i := 1177) (by decide +kernel), List.mem_of_getElem? (i := 1178) (by decide +kernel)⟩
theorem lw_p62 : lw_okq (⟨"GoalEngineModel", "apply", "(I)V"⟩, 50) := ⟨⟨by decide +kernel, by decide +kernel⟩, List.mem_of_getElem? (i := 872) (by decide +kernel), List.mem_of_getElem? (i := 1181) (by decide +kernel), List.mem_of_getElem? (i := 1182) (by decide +kernel)⟩
theorem lw_p63 : lw_okq (⟨"GoalEngineModel", "round", "(J)I"⟩, 50) := ⟨⟨by decide +kernel, by decide +kernel⟩, List.mem_of_getElem? (i := 872) (by decide +kernel), List.mem_of_getElem? (i := 1185) (by decide +kernel), List.mem_of_getElem? (i := 1186) (by decide +kernel)⟩
def lw_privs_4 : List (MethodName × Nat) := [(⟨"GoalEngineModel", "mark", "(II)V"⟩, 50), (⟨"GoalEngineModel", "push", "(II)V"⟩, 50), (⟨"GoalEngineModel", "pushArguments", "(I)V"⟩, 50), (⟨"GoalEngineModel", "markGoals", "(I)V"⟩, 50), (⟨"GoalEngineModel", "unify", "(IIII)V"⟩, 50), (⟨"GoalEngineModel", "mean", "(II)V"⟩, 50), (⟨"GoalEngineModel", "meet", "(IIII)V"⟩, 50), (⟨"GoalEngineModel", "bind", "(III)V"⟩, 50), (⟨"GoalEngineModel", "occurs", "(III)Z"⟩, 50), (⟨"GoalEngineModel", "pushPairs", "(II)V"⟩, 50), (⟨"GoalEngineModel", "known", "(II)V"⟩, 50), (⟨"GoalEngineModel", "argumentKind", "(II)I"⟩, 50), (⟨"GoalEngineModel", "argumentValue", "(II)I"⟩, 50), (⟨"GoalEngineModel", "calculate", "(II)I"⟩, 50), (⟨"GoalEngineModel", "apply", "(I)V"⟩, 50), (⟨"GoalEngineModel", "round", "(J)I"⟩, 50)]
theorem lw_r4 : ∀ q ∈ lw_privs_4, lw_okq q := List.forall_mem_cons.mpr ⟨lw_p48, List.forall_mem_cons.mpr ⟨lw_p49, List.forall_mem_cons.mpr ⟨lw_p50, List.forall_mem_cons.mpr ⟨lw_p51, List.forall_mem_cons.mpr ⟨lw_p52, List.forall_mem_cons.mpr ⟨lw_p53, List.forall_mem_cons.mpr ⟨lw_p54, List.forall_mem_cons.mpr ⟨lw_p55, List.forall_mem_cons.mpr ⟨lw_p56, List.forall_mem_cons.mpr ⟨lw_p57, List.forall_mem_cons.mpr ⟨lw_p58, List.forall_mem_cons.mpr ⟨lw_p59, List.forall_mem_cons.mpr ⟨lw_p60, List.forall_mem_cons.mpr ⟨lw_p61, List.forall_mem_cons.mpr ⟨lw_p62, List.forall_mem_cons.mpr ⟨lw_p63, fun _ h => absurd h List.not_mem_nil⟩⟩⟩⟩⟩⟩⟩⟩⟩⟩⟩⟩⟩⟩⟩⟩
theorem lw_p64 : lw_okq (⟨"GoalEngineModel", "fail", "()V"⟩, 50) := ⟨⟨by decide +kernel, by decide +kernel⟩, List.mem_of_getElem? (i := 872) (by decide +kernel), List.mem_of_getElem? (i := 1189) (by decide +kernel), List.mem_of_getElem? (i := 1190) (by decide +kernel)⟩
theorem lw_p65 : lw_okq (⟨"GoalEngineModel", "findAnswer", "()V"⟩, 50) := ⟨⟨by decide +kernel, by decide +kernel⟩, List.mem_of_getElem? (i := 872) (by decide +kernel), List.mem_of_getElem? (i := 1213) (by decide +kernel), List.mem_of_getElem? (i := 1214) (by decide +kernel)⟩
theorem lw_p66 : lw_okq (⟨"GoalEngineModel", "sayTerm", "()V"⟩, 50) := ⟨⟨by decide +kernel, by decide +kernel⟩, List.mem_of_getElem? (i := 872) (by decide +kernel), List.mem_of_getElem? (i := 1217) (by decide +kernel), List.mem_of_getElem? (i := 1218) (by decide +kernel)⟩
def lw_privs_5 : List (MethodName × Nat) := [(⟨"GoalEngineModel", "fail", "()V"⟩, 50), (⟨"GoalEngineModel", "findAnswer", "()V"⟩, 50), (⟨"GoalEngineModel", "sayTerm", "()V"⟩, 50)]
theorem lw_r5 : ∀ q ∈ lw_privs_5, lw_okq q := List.forall_mem_cons.mpr ⟨lw_p64, List.forall_mem_cons.mpr ⟨lw_p65, List.forall_mem_cons.mpr ⟨lw_p66, fun _ h => absurd h List.not_mem_nil⟩⟩⟩
def lw_privs : List (MethodName × Nat) := lw_privs_1 ++ (lw_privs_2 ++ (lw_privs_3 ++ (lw_privs_4 ++ (lw_privs_5))))
def lw_tbl : List Cond := k2_sels lw_privs ++ tables_1
theorem lw_privs_ok : ∀ q ∈ lw_privs, lw_okq q := by
  show ∀ q ∈ lw_privs_1 ++ (lw_privs_2 ++ (lw_privs_3 ++ (lw_privs_4 ++ (lw_privs_5)))), lw_okq q
  exact List.forall_mem_append.mpr ⟨lw_r1, List.forall_mem_append.mpr ⟨lw_r2, List.forall_mem_append.mpr ⟨lw_r3, List.forall_mem_append.mpr ⟨lw_r4, lw_r5⟩⟩⟩⟩
end
section
def R_law : String := "GoalEngineLaw"
def lw_P (b : Addr) (xs : List Int32) (args : Array Value) (s : State) : Prop := args = #[.ref b] ∧ s.IntsAt b xs ∧ xs.length ≤ 1024 ∧ (Jvm.Cond.and given_1 narrow_1).before args s = true
def lw_Q (_ : Array Value) (s : State) (o : Outcome) (t : State) : Prop := o = .returned (some (.int 1)) ∧ Framed s o t [] 601024 7293034
def lw_Z (below : List Frame) (a : Array Value) (s : State) : State → Prop := fun t => ∃ o, t.status = .running ∧ Ended t below o ∧ lw_Q a s o t
/-- the law's own end, with 1 on the stack, nothing written that was there before, its room as the claim has it -/
theorem lw_ret {p : Program} {l : Launch} {e : Env} {s : State} {m : MethodId} {below : List Frame} {meth : Method} {c : Code} {b : Nat} {R : Room} {args : Array Value} (hx : p.tables.exec = Jvm.exec) (hb : c.code = code) (hr : meth.sig.returnType = ret) (hlocks : meth.locks = false) {pc : Nat} {H : Heap} {ls : Array Slot} (hdg : decode code pc = .ok (.ireturn, 1)) : W p l e R s m args below meth c H [] 601024 7293034 (lw_Z below args s) (F0 m pc ls [.int 1]) := by
  intro T hT X
  obtain ⟨fs, hret, hrun, hended, hW, hframe⟩ := X.leave (v := some (.int 1)) (hlocks := hlocks) (fun h => by rw [hr] at h; cases h)
  have hmeth' : T.vm.method? m = some meth := X.method'
  refine ⟨T.setFrames fs, ?_, .returned (some (.int 1)), hrun, hended, rfl, ⟨_, rfl⟩, hW, hframe⟩
  jvm_step X.here [X.here.top, hx, hb, hdg, hmeth', hr, ret, narrow_b1]
  (try refine ⟨rfl, ?_⟩); (try refine ⟨rfl, ?_⟩)
  first | (intro acts; rw [hret _ acts rfl rfl rfl]) | rw [hret _ _ rfl rfl rfl]
  exact Steps.refl _
/-- what holds at the law's entry: the machine, the code, the tables' words (any of lw_tbl by 'hts w (by decide +kernel)'), the script of L ints xs at the cell b, what the Statement gives of the start (any of its parts by flat_of_before) -/
def lw_At (p : Program) (s : State) (m : MethodId) (meth : Method) (c : Code) (b L : Nat) (xs : Nat → Int32) : Prop :=
  p.tables.exec = Jvm.exec ∧ c.code = code ∧ meth.sig.returnType = ret ∧ c.maxLocals = 7 ∧ s.vm.findClass R_law = some m.cls ∧ (∀ w ∈ lw_tbl, w.before #[Value.ref b] s = true) ∧ va_X b L xs s s.heap ∧ b < s.heap.size ∧ meth.locks = false ∧ (Jvm.Cond.and given_1 narrow_1).before #[Value.ref b] s = true
def gv_Cn : Nat := 601024
def gv_Sn : Nat := 7293034
end
section
/-! names: the classes with their fields, the tables' words by their places, the methods by their numbers (written by wip/tools/gen.py out of the Statement and the listing) -/
def gF_GE : u_T := fun k => match k with
  | 0 => ("GoalEngine", "typed", "[I", true)
  | 1 => ("GoalEngine", "typedCount", "I", false)
  | 2 => ("GoalEngine", "rules", "LGoalEngine$RuleBook;", true)
  | _ => ("GoalEngine", "search", "LGoalEngine$Search;", true)
def gF_RB : u_T := fun k => match k with
  | 0 => ("GoalEngine$RuleBook", "clauses", "[LGoalEngine$Clause;", true)
  | _ => ("GoalEngine$RuleBook", "size", "I", false)
def gF_CL : u_T := fun k => match k with
  | 0 => ("GoalEngine$Clause", "row", "[I", true)
  | 1 => ("GoalEngine$Clause", "length", "I", false)
  | 2 => ("GoalEngine$Clause", "variables", "I", false)
  | _ => ("GoalEngine$Clause", "cellsOfCopy", "I", false)
def gF_SE : u_T := fun k => match k with
  | 0 => ("GoalEngine$Search", "rules", "LGoalEngine$RuleBook;", true)
  | 1 => ("GoalEngine$Search", "question", "LGoalEngine$Clause;", true)
  | 2 => ("GoalEngine$Search", "cells", "LGoalEngine$Cells;", true)
  | 3 => ("GoalEngine$Search", "unifier", "LGoalEngine$Unifier;", true)
  | 4 => ("GoalEngine$Search", "calculator", "LGoalEngine$Calculator;", true)
  | 5 => ("GoalEngine$Search", "goals", "LGoalEngine$Goals;", true)
  | 6 => ("GoalEngine$Search", "choices", "LGoalEngine$Choices;", true)
  | 7 => ("GoalEngine$Search", "collector", "LGoalEngine$Collector;", true)
  | 8 => ("GoalEngine$Search", "answer", "LGoalEngine$Answer;", true)
  | 9 => ("GoalEngine$Search", "firstGoal", "I", false)
  | 10 => ("GoalEngine$Search", "saidRule", "I", false)
  | 11 => ("GoalEngine$Search", "state", "I", false)
  | _ => ("GoalEngine$Search", "tank", "I", false)
def gF_CE : u_T := fun k => match k with
  | 0 => ("GoalEngine$Cells", "cell", "[I", true)
  | 1 => ("GoalEngine$Cells", "used", "I", false)
  | 2 => ("GoalEngine$Cells", "trail", "[I", true)
  | 3 => ("GoalEngine$Cells", "trailed", "I", false)
  | 4 => ("GoalEngine$Cells", "variableAt", "[I", true)
  | 5 => ("GoalEngine$Cells", "open", "[I", true)
  | 6 => ("GoalEngine$Cells", "openCount", "I", false)
  | 7 => ("GoalEngine$Cells", "copied", "[I", true)
  | _ => ("GoalEngine$Cells", "copiedCount", "I", false)
def gF_TR : u_T := fun k => match k with
  | 0 => ("GoalEngine$Tracer", "cells", "LGoalEngine$Cells;", true)
  | 1 => ("GoalEngine$Tracer", "reached", "[Z", true)
  | 2 => ("GoalEngine$Tracer", "waiting", "[I", true)
  | _ => ("GoalEngine$Tracer", "waitingCount", "I", false)
def gF_UN : u_T := fun k => match k with
  | 0 => ("GoalEngine$Unifier", "cells", "LGoalEngine$Cells;", true)
  | 1 => ("GoalEngine$Unifier", "tracer", "LGoalEngine$Tracer;", true)
  | 2 => ("GoalEngine$Unifier", "left", "[I", true)
  | 3 => ("GoalEngine$Unifier", "right", "[I", true)
  | _ => ("GoalEngine$Unifier", "pairs", "I", false)
def gF_CA : u_T := fun k => match k with
  | 0 => ("GoalEngine$Calculator", "cells", "LGoalEngine$Cells;", true)
  | _ => ("GoalEngine$Calculator", "operations", "I", false)
def gF_GO : u_T := fun k => match k with
  | 0 => ("GoalEngine$Goals", "term", "[I", false)
  | 1 => ("GoalEngine$Goals", "height", "[I", false)
  | 2 => ("GoalEngine$Goals", "behind", "[I", false)
  | _ => ("GoalEngine$Goals", "seen", "[Z", false)
def gF_CH : u_T := fun k => match k with
  | 0 => ("GoalEngine$Choices", "firstGoal", "[I", true)
  | 1 => ("GoalEngine$Choices", "nextRule", "[I", true)
  | 2 => ("GoalEngine$Choices", "cellMark", "[I", true)
  | 3 => ("GoalEngine$Choices", "trailMark", "[I", true)
  | 4 => ("GoalEngine$Choices", "goalMark", "[I", true)
  | _ => ("GoalEngine$Choices", "size", "I", false)
def gF_CO : u_T := fun k => match k with
  | 0 => ("GoalEngine$Collector", "cells", "LGoalEngine$Cells;", true)
  | 1 => ("GoalEngine$Collector", "goals", "LGoalEngine$Goals;", true)
  | 2 => ("GoalEngine$Collector", "choices", "LGoalEngine$Choices;", true)
  | 3 => ("GoalEngine$Collector", "tracer", "LGoalEngine$Tracer;", true)
  | 4 => ("GoalEngine$Collector", "newPlace", "[I", true)
  | _ => ("GoalEngine$Collector", "collections", "I", false)
def gF_AN : u_T := fun k => match k with
  | 0 => ("GoalEngine$Answer", "cells", "LGoalEngine$Cells;", true)
  | 1 => ("GoalEngine$Answer", "row", "[I", true)
  | 2 => ("GoalEngine$Answer", "length", "I", false)
  | 3 => ("GoalEngine$Answer", "freeVariables", "[I", true)
  | 4 => ("GoalEngine$Answer", "freeCount", "I", false)
  | 5 => ("GoalEngine$Answer", "waiting", "[I", true)
  | _ => ("GoalEngine$Answer", "waitingCount", "I", false)
def gF_MO : u_T := fun k => match k with
  | 0 => ("GoalEngineModel", "thrown", "I", false)
  | 1 => ("GoalEngineModel", "typed", "I", false)
  | 2 => ("GoalEngineModel", "words", "[I", false)
  | 3 => ("GoalEngineModel", "rules", "I", false)
  | 4 => ("GoalEngineModel", "ruleWords", "[I", false)
  | 5 => ("GoalEngineModel", "ruleLength", "[I", false)
  | 6 => ("GoalEngineModel", "uses", "[I", false)
  | 7 => ("GoalEngineModel", "taken", "[I", false)
  | 8 => ("GoalEngineModel", "cellKind", "[I", false)
  | 9 => ("GoalEngineModel", "cellValue", "[I", false)
  | 10 => ("GoalEngineModel", "nameOf", "[I", false)
  | 11 => ("GoalEngineModel", "argument", "[I", false)
  | 12 => ("GoalEngineModel", "stamps", "I", false)
  | 13 => ("GoalEngineModel", "goals", "I", false)
  | 14 => ("GoalEngineModel", "goal", "[I", false)
  | 15 => ("GoalEngineModel", "goalNext", "[I", false)
  | 16 => ("GoalEngineModel", "atHand", "I", false)
  | 17 => ("GoalEngineModel", "said", "I", false)
  | 18 => ("GoalEngineModel", "choices", "I", false)
  | 19 => ("GoalEngineModel", "choiceGoals", "[I", false)
  | 20 => ("GoalEngineModel", "choiceRule", "[I", false)
  | 21 => ("GoalEngineModel", "choiceStamp", "[I", false)
  | 22 => ("GoalEngineModel", "choiceTrail", "[I", false)
  | 23 => ("GoalEngineModel", "trail", "I", false)
  | 24 => ("GoalEngineModel", "bound", "[I", false)
  | 25 => ("GoalEngineModel", "searching", "Z", false)
  | 26 => ("GoalEngineModel", "answered", "Z", false)
  | 27 => ("GoalEngineModel", "tank", "I", false)
  | 28 => ("GoalEngineModel", "collections", "I", false)
  | 29 => ("GoalEngineModel", "asked", "[I", false)
  | 30 => ("GoalEngineModel", "pile", "I", false)
  | 31 => ("GoalEngineModel", "pileKind", "[I", false)
  | 32 => ("GoalEngineModel", "pileValue", "[I", false)
  | 33 => ("GoalEngineModel", "marks", "[I", false)
  | 34 => ("GoalEngineModel", "markNumber", "I", false)
  | 35 => ("GoalEngineModel", "pairs", "I", false)
  | 36 => ("GoalEngineModel", "results", "I", false)
  | 37 => ("GoalEngineModel", "resultOf", "[I", false)
  | 38 => ("GoalEngineModel", "saidWords", "I", false)
  | 39 => ("GoalEngineModel", "answer", "[I", false)
  | 40 => ("GoalEngineModel", "kind", "I", false)
  | 41 => ("GoalEngineModel", "value", "I", false)
  | 42 => ("GoalEngineModel", "copied", "[I", false)
  | 43 => ("GoalEngineModel", "open", "I", false)
  | 44 => ("GoalEngineModel", "openCell", "[I", false)
  | 45 => ("GoalEngineModel", "openNext", "[I", false)
  | 46 => ("GoalEngineModel", "heads", "I", false)
  | 47 => ("GoalEngineModel", "headKind", "[I", false)
  | 48 => ("GoalEngineModel", "headValue", "[I", false)
  | _ => ("GoalEngineModel", "outcome", "I", false)
def gv_cl : List vw_C := [("GoalEngine", gF_GE, 4), ("GoalEngine$RuleBook", gF_RB, 2), ("GoalEngine$Clause", gF_CL, 4), ("GoalEngine$Search", gF_SE, 13), ("GoalEngine$Cells", gF_CE, 9), ("GoalEngine$Tracer", gF_TR, 4), ("GoalEngine$Unifier", gF_UN, 5), ("GoalEngine$Calculator", gF_CA, 2), ("GoalEngine$Goals", gF_GO, 4), ("GoalEngine$Choices", gF_CH, 6), ("GoalEngine$Collector", gF_CO, 6), ("GoalEngine$Answer", gF_AN, 7), ("GoalEngineModel", gF_MO, 50)]
def gv_T : List Jvm.Cond := lw_tbl
def gv_qc : String := "GoalEngine$Clause"
def gv_qi : Nat := 2
def gv_host : String := "GoalEngine"
def gv_cw (c : Nat) : Nat × Nat := match c with
  | 0 => (94, 68)
  | 1 => (102, 69)
  | 2 => (109, 70)
  | 3 => (144, 71)
  | 4 => (152, 72)
  | 5 => (197, 73)
  | 6 => (217, 74)
  | 7 => (239, 75)
  | 8 => (252, 76)
  | 9 => (277, 77)
  | 10 => (311, 78)
  | 11 => (337, 79)
  | 12 => (939, 80)
  | _ => (0, 0)
def gv_mns : List MethodName := [⟨"GoalEngine", "<init>", "()V"⟩,
  ⟨"GoalEngine", "put", "(I)I"⟩,
  ⟨"GoalEngine", "rule", "()I"⟩,
  ⟨"GoalEngine", "ask", "()I"⟩,
  ⟨"GoalEngine", "solve", "(I)I"⟩,
  ⟨"GoalEngine", "next", "()Z"⟩,
  ⟨"GoalEngine", "stop", "()V"⟩,
  ⟨"GoalEngine", "collect", "()I"⟩,
  ⟨"GoalEngine", "count", "(I)I"⟩,
  ⟨"GoalEngine", "words", "()I"⟩,
  ⟨"GoalEngine", "word", "(I)I"⟩,
  ⟨"GoalEngine", "takeTyped", "()I"⟩,
  ⟨"GoalEngine", "isWord", "(I)Z"⟩,
  ⟨"GoalEngine", "isRule", "([II)Z"⟩,
  ⟨"GoalEngine", "isQuestion", "([II)Z"⟩,
  ⟨"GoalEngine", "argumentsOf", "(I)I"⟩,
  ⟨"GoalEngine$RuleBook", "<init>", "()V"⟩,
  ⟨"GoalEngine$RuleBook", "add", "([II)V"⟩,
  ⟨"GoalEngine$RuleBook", "firstFor", "(II)I"⟩,
  ⟨"GoalEngine$Clause", "<init>", "()V"⟩,
  ⟨"GoalEngine$Clause", "read", "([II)V"⟩,
  ⟨"GoalEngine$Search", "<init>", "(LGoalEngine$RuleBook;)V"⟩,
  ⟨"GoalEngine$Search", "begin", "([II)V"⟩,
  ⟨"GoalEngine$Search", "canStep", "()Z"⟩,
  ⟨"GoalEngine$Search", "settle", "(I)V"⟩,
  ⟨"GoalEngine$Search", "step", "()I"⟩,
  ⟨"GoalEngine$Search", "meet", "(III)I"⟩,
  ⟨"GoalEngine$Search", "compare", "(IJJ)I"⟩,
  ⟨"GoalEngine$Search", "tryRule", "(III)I"⟩,
  ⟨"GoalEngine$Search", "hasRoomFor", "(LGoalEngine$Clause;)Z"⟩,
  ⟨"GoalEngine$Search", "bringGoals", "(II)V"⟩,
  ⟨"GoalEngine$Search", "tryOtherWay", "()V"⟩,
  ⟨"GoalEngine$Search", "freeCells", "()I"⟩,
  ⟨"GoalEngine$Search", "cellsInUse", "()I"⟩,
  ⟨"GoalEngine$Search", "choicesLeft", "()I"⟩,
  ⟨"GoalEngine$Search", "goalsAtHand", "()I"⟩,
  ⟨"GoalEngine$Search", "collections", "()I"⟩,
  ⟨"GoalEngine$Search", "answerLength", "()I"⟩,
  ⟨"GoalEngine$Search", "answerWord", "(I)I"⟩,
  ⟨"GoalEngine$Cells", "<init>", "()V"⟩,
  ⟨"GoalEngine$Cells", "follow", "(I)I"⟩,
  ⟨"GoalEngine$Cells", "nameOf", "(I)I"⟩,
  ⟨"GoalEngine$Cells", "argument", "(II)I"⟩,
  ⟨"GoalEngine$Cells", "bind", "(II)V"⟩,
  ⟨"GoalEngine$Cells", "goBack", "(II)V"⟩,
  ⟨"GoalEngine$Cells", "clear", "()V"⟩,
  ⟨"GoalEngine$Cells", "copy", "(LGoalEngine$Clause;)V"⟩,
  ⟨"GoalEngine$Cells", "takeVariables", "(I)V"⟩,
  ⟨"GoalEngine$Cells", "termOf", "(I)I"⟩,
  ⟨"GoalEngine$Cells", "place", "(I)V"⟩,
  ⟨"GoalEngine$Cells", "takeName", "(I)V"⟩,
  ⟨"GoalEngine$Tracer", "<init>", "(LGoalEngine$Cells;)V"⟩,
  ⟨"GoalEngine$Tracer", "forget", "()V"⟩,
  ⟨"GoalEngine$Tracer", "hasReached", "(I)Z"⟩,
  ⟨"GoalEngine$Tracer", "trace", "(I)V"⟩,
  ⟨"GoalEngine$Tracer", "reach", "(I)V"⟩,
  ⟨"GoalEngine$Unifier", "<init>", "(LGoalEngine$Cells;LGoalEngine$Tracer;)V"⟩,
  ⟨"GoalEngine$Unifier", "unify", "(II)I"⟩,
  ⟨"GoalEngine$Unifier", "lookAt", "(II)Z"⟩,
  ⟨"GoalEngine$Unifier", "bindLater", "(II)V"⟩,
  ⟨"GoalEngine$Unifier", "bindUnlessInside", "(II)Z"⟩,
  ⟨"GoalEngine$Unifier", "openArguments", "(II)Z"⟩,
  ⟨"GoalEngine$Calculator", "<init>", "(LGoalEngine$Cells;)V"⟩,
  ⟨"GoalEngine$Calculator", "calculate", "(I)J"⟩,
  ⟨"GoalEngine$Calculator", "resultOf", "(I)J"⟩,
  ⟨"GoalEngine$Calculator", "isOperation", "(I)Z"⟩,
  ⟨"GoalEngine$Calculator", "join", "(III)J"⟩,
  ⟨"GoalEngine$Calculator", "roundIntoRange", "(I)I"⟩,
  ⟨"GoalEngine$Goals", "<init>", "()V"⟩,
  ⟨"GoalEngine$Goals", "set", "(IIII)V"⟩,
  ⟨"GoalEngine$Goals", "grow", "()V"⟩,
  ⟨"GoalEngine$Goals", "lengthFrom", "(I)I"⟩,
  ⟨"GoalEngine$Choices", "<init>", "()V"⟩,
  ⟨"GoalEngine$Choices", "make", "(IILGoalEngine$Cells;)V"⟩,
  ⟨"GoalEngine$Choices", "goalsKept", "()I"⟩,
  ⟨"GoalEngine$Choices", "cutTo", "(I)V"⟩,
  ⟨"GoalEngine$Collector", "<init>", "(LGoalEngine$Cells;LGoalEngine$Goals;LGoalEngine$Choices;LGoalEngine$Tracer;)V"⟩,
  ⟨"GoalEngine$Collector", "run", "(II)I"⟩,
  ⟨"GoalEngine$Collector", "dropNeedlessTrail", "()V"⟩,
  ⟨"GoalEngine$Collector", "traceLive", "(II)V"⟩,
  ⟨"GoalEngine$Collector", "traceGoals", "(I)V"⟩,
  ⟨"GoalEngine$Collector", "findNewPlaces", "()V"⟩,
  ⟨"GoalEngine$Collector", "moveCells", "()V"⟩,
  ⟨"GoalEngine$Collector", "moveGoals", "(I)V"⟩,
  ⟨"GoalEngine$Collector", "moveMarks", "()V"⟩,
  ⟨"GoalEngine$Collector", "moved", "(I)I"⟩,
  ⟨"GoalEngine$Answer", "<init>", "(LGoalEngine$Cells;)V"⟩,
  ⟨"GoalEngine$Answer", "write", "(I)I"⟩,
  ⟨"GoalEngine$Answer", "at", "(I)I"⟩,
  ⟨"GoalEngine$Answer", "writeTerm", "(I)V"⟩,
  ⟨"GoalEngine$Answer", "wordOf", "(I)I"⟩,
  ⟨"GoalEngine$Answer", "openArguments", "(I)V"⟩,
  ⟨"GoalEngineModel", "<init>", "()V"⟩,
  ⟨"GoalEngineModel", "thrown", "()I"⟩,
  ⟨"GoalEngineModel", "arity", "(I)I"⟩,
  ⟨"GoalEngineModel", "put", "(I)I"⟩,
  ⟨"GoalEngineModel", "behind", "(I)I"⟩,
  ⟨"GoalEngineModel", "areGoals", "(I)Z"⟩,
  ⟨"GoalEngineModel", "rule", "()I"⟩,
  ⟨"GoalEngineModel", "inUse", "()I"⟩,
  ⟨"GoalEngineModel", "take", "(I)I"⟩,
  ⟨"GoalEngineModel", "hasVariable", "([IIII)Z"⟩,
  ⟨"GoalEngineModel", "needs", "([III)I"⟩,
  ⟨"GoalEngineModel", "place", "()V"⟩,
  ⟨"GoalEngineModel", "copyWord", "(I)V"⟩,
  ⟨"GoalEngineModel", "copy", "([III)V"⟩,
  ⟨"GoalEngineModel", "mean", "(II)V"⟩,
  ⟨"GoalEngineModel", "push", "(II)V"⟩,
  ⟨"GoalEngineModel", "pushArguments", "(I)V"⟩,
  ⟨"GoalEngineModel", "occurs", "(III)Z"⟩,
  ⟨"GoalEngineModel", "bind", "(III)V"⟩,
  ⟨"GoalEngineModel", "unify", "(IIII)V"⟩,
  ⟨"GoalEngineModel", "meet", "(IIII)V"⟩,
  ⟨"GoalEngineModel", "pushPairs", "(II)V"⟩,
  ⟨"GoalEngineModel", "round", "(J)I"⟩,
  ⟨"GoalEngineModel", "apply", "(I)V"⟩,
  ⟨"GoalEngineModel", "calculate", "(II)I"⟩,
  ⟨"GoalEngineModel", "mark", "(II)V"⟩,
  ⟨"GoalEngineModel", "kindOf", "(I)I"⟩,
  ⟨"GoalEngineModel", "valueOf", "(I)I"⟩,
  ⟨"GoalEngineModel", "markGoals", "(I)V"⟩,
  ⟨"GoalEngineModel", "free", "(II)I"⟩,
  ⟨"GoalEngineModel", "end", "()V"⟩,
  ⟨"GoalEngineModel", "link", "(IIII)I"⟩,
  ⟨"GoalEngineModel", "ask", "()I"⟩,
  ⟨"GoalEngineModel", "fail", "()V"⟩,
  ⟨"GoalEngineModel", "wordOf", "(II)I"⟩,
  ⟨"GoalEngineModel", "ruleFor", "(II)I"⟩,
  ⟨"GoalEngineModel", "attempt", "(II)V"⟩,
  ⟨"GoalEngineModel", "argumentKind", "(II)I"⟩,
  ⟨"GoalEngineModel", "argumentValue", "(II)I"⟩,
  ⟨"GoalEngineModel", "known", "(II)V"⟩,
  ⟨"GoalEngineModel", "step", "()V"⟩,
  ⟨"GoalEngineModel", "solve", "(I)I"⟩,
  ⟨"GoalEngineModel", "next", "()Z"⟩,
  ⟨"GoalEngineModel", "stop", "()V"⟩,
  ⟨"GoalEngineModel", "collect", "()I"⟩,
  ⟨"GoalEngineModel", "count", "(I)I"⟩,
  ⟨"GoalEngineModel", "sayTerm", "()V"⟩,
  ⟨"GoalEngineModel", "findAnswer", "()V"⟩,
  ⟨"GoalEngineModel", "words", "()I"⟩,
  ⟨"GoalEngineModel", "word", "(I)I"⟩,
  ⟨"GoalEngineLaw", "put", "(LGoalEngine;I[J)I"⟩,
  ⟨"GoalEngineLaw", "rule", "(LGoalEngine;[J)I"⟩,
  ⟨"GoalEngineLaw", "ask", "(LGoalEngine;[J)I"⟩,
  ⟨"GoalEngineLaw", "solve", "(LGoalEngine;I[J)I"⟩,
  ⟨"GoalEngineLaw", "next", "(LGoalEngine;[J)I"⟩,
  ⟨"GoalEngineLaw", "count", "(LGoalEngine;I[J)I"⟩,
  ⟨"GoalEngineLaw", "word", "(LGoalEngine;I[J)I"⟩,
  ⟨"GoalEngineLaw", "law", "([I)Z"⟩]
def gv_mn (i : Nat) : MethodName := gv_mns.getD i ⟨"", "", ""⟩
end
section
/-! gv: a picture of all cells that the law makes (place k lies at the address z k; place 0 is the script), and the machine's walk over it -/
section GVA
abbrev gv_V : Type := Int32 ⊕ (Int64 ⊕ Option Nat)
abbrev gI (x : Int32) : gv_V := Sum.inl x
abbrev gL (x : Int64) : gv_V := Sum.inr (Sum.inl x)
abbrev gR (k : Nat) : gv_V := Sum.inr (Sum.inr (some k))
abbrev gN : gv_V := Sum.inr (Sum.inr none)
def gv_v (z : Nat → Nat) : gv_V → Value
  | Sum.inl x => .int x
  | Sum.inr (Sum.inl x) => .long x
  | Sum.inr (Sum.inr none) => .null
  | Sum.inr (Sum.inr (some k)) => .ref (z k)
/-- an array's contents: numbers, or references -/
abbrev gv_A : Type := (Nat → Int32) ⊕ (Nat → Option Nat)
/-- a cell: an array (kind, length, contents) or an object (class, fields) -/
abbrev gv_C : Type := (Nat × Nat × gv_A) ⊕ (Nat × List gv_V)
/-- the places taken, the cells and slots that are counted, what the places hold -/
abbrev gv_H : Type := Nat × (Nat × Nat) × (Nat → Option gv_C)
/-- launch, addresses, classes, array classes, the heap at the start, its size, the script -/
abbrev gv_G : Type := Launch × (Nat → Nat) × va_G × (Nat → ClassId) × Heap × Nat × Nat × (Nat → Int32)
def gv_arr (z : Nat → Nat) (t n : Nat) (c : gv_A) : vp_A := match c with
  | .inl f => if t = 1 then (n, .inr (.inl (fun j => (f j).toInt64))) else (n, .inl f)
  | .inr f => (n, .inr (.inr (.inr (.inr (fun j => (f j).map z)))))
def gv_e (G : gv_G) (c : gv_C) : va_E := match c with
  | .inl x => .inl (G.2.2.2.1 x.1, gv_arr G.2.1 x.1 x.2.1 x.2.2)
  | .inr x => .inr (x.1, x.2.map (gv_v G.2.1))
/-- the script's cell is old, the others come one behind the other -/
def gv_Ga (G : gv_G) : Prop := G.2.1 0 < G.2.2.2.2.2.1 ∧ ∀ k : Nat, G.2.1 (k + 1) = G.2.2.2.2.2.1 + k
theorem gv_Ga.ge {G : gv_G} (h : gv_Ga G) {k : Nat} (hk : k ≠ 0) : G.2.2.2.2.2.1 ≤ G.2.1 k := by
  cases k with
  | zero => exact absurd rfl hk
  | succ k => rw [h.2 k]; exact Nat.le_add_right _ _
theorem gv_Ga.ne {G : gv_G} (h : gv_Ga G) {j k : Nat} (hk : j ≠ k) : G.2.1 j ≠ G.2.1 k := by
  have h0 := h.1
  cases j with
  | zero =>
    cases k with
    | zero => exact absurd rfl hk
    | succ k => rw [h.2 k]; omega
  | succ j =>
    cases k with
    | zero => rw [h.2 j]; omega
    | succ k => rw [h.2 j, h.2 k]; omega
def gv_w (G : gv_G) (h : gv_H) (H : Heap) : Prop :=
  (gv_Ga G ∧ 1 ≤ h.1) ∧ H.size = G.2.1 h.1 ∧ (∀ q : Nat, q < G.2.2.2.2.2.1 → H[q]? = G.2.2.2.2.1[q]?) ∧ ∀ (k : Nat) (c : gv_C), h.2.2 k = some c → k < h.1 ∧ va_at G.2.2.1 gv_cl (G.2.1 k, gv_e G c) H
def gv_set (h : gv_H) (k : Nat) (c : gv_C) : gv_H := (h.1, h.2.1, fun j => if j = k then some c else h.2.2 j)
def gv_push (h : gv_H) (n : Nat) (c : gv_C) : gv_H := (h.1 + 1, (h.2.1.1 + 1, h.2.1.2 + n), fun j => if j = h.1 then some c else h.2.2 j)
theorem gv_one {G : gv_G} {h : gv_H} {H : Heap} {k : Nat} {c : gv_C} (hw : gv_w G h H) (hk : h.2.2 k = some c) : va_P G.2.2.1 gv_cl [(G.2.1 k, gv_e G c)] H := by
  intro i q hq
  cases i with
  | zero => cases hq; exact (hw.2.2.2 k c hk).2
  | succ i => simp at hq
theorem gv_w.set {G : gv_G} {h : gv_H} {H H1 : Heap} {k : Nat} {c0 c : gv_C} (hw : gv_w G h H) (h0 : k ≠ 0) (hk : h.2.2 k = some c0) (he : va_at G.2.2.1 gv_cl (G.2.1 k, gv_e G c) H1) (hz : H1.size = H.size) (oq : ∀ q : Nat, q ≠ G.2.1 k → H1[q]? = H[q]?) : gv_w G (gv_set h k c) H1 := by
  obtain ⟨hg, h1, h2, h3⟩ := hw
  refine ⟨hg, hz.trans h1, fun q hq => (oq q (fun e => ?_)).trans (h2 q hq), fun j x hj => ?_⟩
  · have := hg.1.ge h0
    omega
  simp only [gv_set] at hj
  by_cases e : j = k
  · rw [if_pos e] at hj
    cases hj
    rw [e]
    exact ⟨(h3 k c0 hk).1, he⟩
  · rw [if_neg e] at hj
    exact ⟨(h3 j x hj).1, (h3 j x hj).2.kept (oq _ (hg.1.ne e))⟩
theorem gv_w.push {G : gv_G} {h : gv_H} {H H1 : Heap} {n : Nat} {c : gv_C} (hw : gv_w G h H) (he : va_at G.2.2.1 gv_cl (G.2.1 h.1, gv_e G c) H1) (hz : H1.size = H.size + 1) (oq : ∀ q : Nat, q < H.size → H1[q]? = H[q]?) : gv_w G (gv_push h n c) H1 := by
  obtain ⟨hg, h1, h2, h3⟩ := hw
  have hsz : ∀ j, j < h.1 → G.2.1 j < H.size := by
    intro j hj
    rw [h1]
    have g1 := hg.1.1
    obtain ⟨k, hk⟩ : ∃ k, h.1 = k + 1 := ⟨h.1 - 1, by have := hg.2; omega⟩
    rw [hk, hg.1.2 k]
    cases j with
    | zero => omega
    | succ j => rw [hg.1.2 j]; omega
  have hsz2 : G.2.2.2.2.2.1 ≤ H.size := by rw [h1]; exact hg.1.ge (by have := hg.2; omega)
  refine ⟨⟨hg.1, Nat.le_succ_of_le hg.2⟩, ?_, fun q hq => (oq q (by omega)).trans (h2 q hq), fun j x hj => ?_⟩
  · obtain ⟨k, hk⟩ : ∃ k, h.1 = k + 1 := ⟨h.1 - 1, by have := hg.2; omega⟩
    show H1.size = G.2.1 (h.1 + 1)
    rw [hz, h1, hk, hg.1.2 k, hg.1.2 (k + 1)]
    omega
  simp only [gv_push] at hj ⊢
  by_cases e : j = h.1
  · rw [if_pos e] at hj
    cases hj
    rw [e]
    exact ⟨by omega, he⟩
  · rw [if_neg e] at hj
    obtain ⟨q1, q2⟩ := h3 j x hj
    exact ⟨by omega, q2.kept (oq _ (hsz j q1))⟩
/-- the locals that are known -/
abbrev gv_L : Type := List (Option gv_V)
def gv_ls (z : Nat → Nat) (nL : Nat) (A : Array Slot) (ls : gv_L) : Prop := A.size = nL ∧ lv_wf A ∧ ∀ (i : Nat) (v : gv_V), ls[i]? = some (some v) → A[i]? = some (.val (gv_v z v))
def gv_get (ls : gv_L) (i : Nat) : Option gv_V := match ls[i]? with
  | some (some v) => some v
  | _ => none
theorem gv_get_some {ls : gv_L} {i : Nat} {v : gv_V} (hg : gv_get ls i = some v) : ls[i]? = some (some v) := by
  unfold gv_get at hg
  split at hg
  next w hw => cases hg; exact hw
  next => cases hg
theorem gv_get_at {z : Nat → Nat} {nL : Nat} {A : Array Slot} {ls : gv_L} {i : Nat} {v : gv_V} (h : gv_ls z nL A ls) (hg : gv_get ls i = some v) : A[i]? = some (.val (gv_v z v)) := by
  refine h.2.2 i v ?_
  unfold gv_get at hg
  split at hg
  next w hw => cases hg; exact hw
  next => cases hg
def gv_isL (x : Option (Option gv_V)) : Bool := match x with
  | some (some (Sum.inr (Sum.inl _))) => true
  | _ => false
def gv_kill (ls : gv_L) (i : Nat) : gv_L := match i with
  | 0 => ls
  | j + 1 => if gv_isL ls[j]? then ls.set j none else ls
def gv_sto (ls : gv_L) (i : Nat) (v : gv_V) : gv_L := (gv_kill ls i).set i (some v)
def gv_stl (ls : gv_L) (i : Nat) (v : gv_V) : gv_L := ((gv_kill ls i).set (i + 1) none).set i (some v)
theorem gv_kill_at {ls : gv_L} {i j : Nat} {v : gv_V} (h : (gv_kill ls i)[j]? = some (some v)) : ls[j]? = some (some v) ∧ ¬ (j + 1 = i ∧ gv_isL (some (some v)) = true) := by
  unfold gv_kill at h
  split at h
  next => exact ⟨h, fun q => by omega⟩
  next k =>
    split at h
    next hl =>
      by_cases e : k = j
      · subst e
        rw [List.getElem?_set_self' ] at h
        revert h
        cases ls[k]? <;> simp
      · rw [List.getElem?_set_ne e] at h
        exact ⟨h, fun q => e (by omega)⟩
    next hl =>
      refine ⟨h, fun q => ?_⟩
      have e : j = k := by omega
      subst e
      rw [h] at hl
      exact hl q.2
theorem gv_cat {z : Nat → Nat} {v : gv_V} : (gv_v z v).category = 2 ↔ gv_isL (some (some v)) = true := by
  rcases v with x | x | x | x <;> simp [gv_v, gv_isL, Value.category]
/-- the known locals as the kit lists them -/
def gv_ll (z : Nat → Nat) (ls : gv_L) : List (Nat × Value) := (List.range ls.length).filterMap (fun i => (gv_get ls i).map (fun v => (i, gv_v z v)))
theorem gv_ll_mem {z : Nat → Nat} {ls : gv_L} {i : Nat} {v : gv_V} (h : ls[i]? = some (some v)) : (i, gv_v z v) ∈ gv_ll z ls := by
  refine List.mem_filterMap.mpr ⟨i, List.mem_range.mpr (List.getElem?_eq_some_iff.mp h).1, ?_⟩
  simp [gv_get, h]
theorem gv_ll_has {z : Nat → Nat} {nL : Nat} {A : Array Slot} {ls : gv_L} (h : gv_ls z nL A ls) : lv_has A nL (gv_ll z ls) := by
  refine ⟨h.1, h.2.1, fun q hq => ?_⟩
  obtain ⟨i, -, hi⟩ := List.mem_filterMap.mp hq
  cases hg : gv_get ls i with
  | none => rw [hg] at hi; cases hi
  | some v =>
    rw [hg] at hi
    cases hi
    exact gv_get_at h hg
theorem gv_sto_has {z : Nat → Nat} {nL : Nat} {A : Array Slot} {ls : gv_L} {i : Nat} {v : gv_V} (h : lv_has A nL ((i, gv_v z v) :: (gv_ll z ls).filter (fun q => !(q.1 == i) && !(q.1 + 1 == i && q.2.category == 2)))) : gv_ls z nL A (gv_sto ls i v) := by
  refine ⟨h.1, h.2.1, fun j u hj => ?_⟩
  unfold gv_sto at hj
  by_cases e : i = j
  · subst e
    rw [List.getElem?_set_self'] at hj
    have hv : u = v := by
      revert hj
      cases (gv_kill ls i)[i]? <;> simp
      exact fun q => q.symm
    rw [hv]
    exact h.2.2 (i, gv_v z v) List.mem_cons_self
  · rw [List.getElem?_set_ne e] at hj
    obtain ⟨h1, h2⟩ := gv_kill_at hj
    refine h.2.2 (j, gv_v z u) (List.mem_cons_of_mem _ (List.mem_filter.mpr ⟨gv_ll_mem h1, ?_⟩))
    by_cases e2 : j + 1 = i
    · have h3 : ¬ (gv_v z u).category = 2 := fun q => h2 ⟨e2, gv_cat.mp q⟩
      simp [Ne.symm e, e2, h3]
    · simp [Ne.symm e, e2]
theorem gv_stl_has {z : Nat → Nat} {nL : Nat} {A : Array Slot} {ls : gv_L} {i : Nat} {v : gv_V} (h : lv_has A nL ((i, gv_v z v) :: (gv_ll z ls).filter (fun q => !(q.1 == i) && (!(q.1 == i + 1) && !(q.1 + 1 == i && q.2.category == 2))))) : gv_ls z nL A (gv_stl ls i v) := by
  refine ⟨h.1, h.2.1, fun j u hj => ?_⟩
  unfold gv_stl at hj
  by_cases e : i = j
  · subst e
    rw [List.getElem?_set_self'] at hj
    have hv : u = v := by
      revert hj
      cases ((gv_kill ls i).set (i + 1) none)[i]? <;> simp
      exact fun q => q.symm
    rw [hv]
    exact h.2.2 (i, gv_v z v) List.mem_cons_self
  · rw [List.getElem?_set_ne e] at hj
    by_cases e1 : i + 1 = j
    · subst e1
      rw [List.getElem?_set_self'] at hj
      revert hj
      cases (gv_kill ls i)[i + 1]? <;> simp
    · rw [List.getElem?_set_ne e1] at hj
      obtain ⟨h1, h2⟩ := gv_kill_at hj
      refine h.2.2 (j, gv_v z u) (List.mem_cons_of_mem _ (List.mem_filter.mpr ⟨gv_ll_mem h1, ?_⟩))
      by_cases e2 : j + 1 = i
      · have h3 : ¬ (gv_v z u).category = 2 := fun q => h2 ⟨e2, gv_cat.mp q⟩
        simp [Ne.symm e, Ne.symm e1, e2, h3]
      · simp [Ne.symm e, Ne.symm e1, e2]
/-- the locals with which a method begins -/
def gv_ent (args : List gv_V) : gv_L := args.flatMap (fun v => if gv_isL (some (some v)) then [some v, none] else [some v])
theorem gv_ent_args {z : Nat → Nat} : ∀ (args : List gv_V) (o i : Nat) (v : gv_V), (gv_ent args)[i]? = some (some v) → (o + i, gv_v z v) ∈ lv_args o (args.map (gv_v z))
  | [], o, i, v, h => by simp [gv_ent] at h
  | a :: as, o, i, v, h => by
    have hc : gv_ent (a :: as) = (if gv_isL (some (some a)) then [some a, none] else [some a]) ++ gv_ent as := rfl
    rw [hc] at h
    have ih := gv_ent_args (z := z) as
    simp only [List.map_cons, lv_args]
    by_cases e : gv_isL (some (some a)) = true
    · rw [if_pos e] at h
      have e2 : (gv_v z a).category = 2 := gv_cat.mpr e
      rw [if_pos e2]
      match i, h with
      | 0, h => simp at h; subst h; exact List.mem_cons_self
      | 1, h => simp at h
      | i + 2, h =>
        have h' : (gv_ent as)[i]? = some (some v) := by simpa using h
        refine List.mem_cons_of_mem _ ?_
        have := ih (o + 2) i v h'
        rwa [show o + 2 + i = o + (i + 2) by omega] at this
    · rw [if_neg e] at h
      have e2 : ¬ (gv_v z a).category = 2 := fun q => e (gv_cat.mp q)
      rw [if_neg e2]
      match i, h with
      | 0, h => simp at h; subst h; exact List.mem_cons_self
      | i + 1, h =>
        have h' : (gv_ent as)[i]? = some (some v) := by simpa using h
        refine List.mem_cons_of_mem _ ?_
        have := ih (o + 1) i v h'
        rwa [show o + 1 + i = o + (i + 1) by omega] at this
end GVA
end
section
/-! gx: one step of the machine over the picture, as a function -/
section GXA
/-- a place of the code: what it does, an int, a long, two numbers, the place of its word in the tables, the next place, a switch's roads -/
abbrev gv_J : Type := Nat × Int32 × Int64 × Nat × Nat × Nat × Nat × List (Int32 × Nat)
/-- a method: name, bytes, locals, answer, code; the places of its words (code, initialized, instance or static, selects), its parameters, its exception table -/
abbrev gv_M : Type := MethodName × ByteArray × Nat × Option FieldType × List (Nat × gv_J) × (Nat × Nat × Nat × Nat × Nat × List (Nat × Nat × Nat × Nat))
abbrev gv_S : Type := Nat × gv_L × List gv_V × gv_H
def gv_lk : List (Nat × gv_J) → Nat → Option gv_J
  | [], _ => none
  | (a, j) :: l, pc => match Nat.beq a pc with
    | true => some j
    | false => gv_lk l pc
theorem gv_lk_mem {pc : Nat} {j : gv_J} : ∀ {l : List (Nat × gv_J)}, gv_lk l pc = some j → (pc, j) ∈ l
  | [], h => by cases h
  | (a, k) :: l, h => by
    unfold gv_lk at h
    split at h
    next e =>
      cases h
      rw [Nat.eq_of_beq_eq_true e]
      exact List.mem_cons_self
    next => exact List.mem_cons_of_mem _ (gv_lk_mem h)
/-- constants, locals, jumps -/
def gv_x1 (J : gv_J) (ls : gv_L) (st : List gv_V) (h : gv_H) : Option gv_S := match J with
  | (1, v, _, _, _, _, nx, _) => some (nx, ls, gI v :: st, h)
  | (2, _, w, _, _, _, nx, _) => some (nx, ls, gL w :: st, h)
  | (3, _, _, a, _, _, nx, _) => match gv_get ls a with
    | some (Sum.inl x) => some (nx, ls, gI x :: st, h)
    | _ => none
  | (4, _, _, a, _, _, nx, _) => match gv_get ls a with
    | some (Sum.inr (Sum.inl x)) => some (nx, ls, gL x :: st, h)
    | _ => none
  | (5, _, _, a, _, _, nx, _) => match gv_get ls a with
    | some (Sum.inr (Sum.inr (some x))) => some (nx, ls, gR x :: st, h)
    | _ => none
  | (6, _, _, a, _, _, nx, _) => match st with
    | Sum.inl x :: st => some (nx, gv_sto ls a (gI x), st, h)
    | _ => none
  | (7, _, _, a, _, _, nx, _) => match st with
    | Sum.inr (Sum.inl x) :: st => some (nx, gv_stl ls a (gL x), st, h)
    | _ => none
  | (8, _, _, a, _, _, nx, _) => match st with
    | Sum.inr (Sum.inr (some x)) :: st => some (nx, gv_sto ls a (gR x), st, h)
    | _ => none
  | (9, v, _, a, _, _, nx, _) => match gv_get ls a with
    | some (Sum.inl x) => some (nx, gv_sto ls a (gI (x + v)), st, h)
    | _ => none
  | (10, _, _, a, _, _, _, _) => some (a, ls, st, h)
  | _ => none
/-- arithmetic -/
def gv_x2 (J : gv_J) (ls : gv_L) (st : List gv_V) (h : gv_H) : Option gv_S := match J with
  | (20, _, _, _, _, _, nx, _) => match st with
    | Sum.inl y :: Sum.inl x :: st => some (nx, ls, gI (x + y) :: st, h)
    | _ => none
  | (21, _, _, _, _, _, nx, _) => match st with
    | Sum.inl y :: Sum.inl x :: st => some (nx, ls, gI (x - y) :: st, h)
    | _ => none
  | (22, _, _, _, _, _, nx, _) => match st with
    | Sum.inl y :: Sum.inl x :: st => some (nx, ls, gI (x * y) :: st, h)
    | _ => none
  | (23, _, _, _, _, _, nx, _) => match st with
    | Sum.inl y :: Sum.inl x :: st => some (nx, ls, gI (x &&& y) :: st, h)
    | _ => none
  | (24, _, _, _, _, _, nx, _) => match st with
    | Sum.inl y :: Sum.inl x :: st => some (nx, ls, gI (x ||| y) :: st, h)
    | _ => none
  | (25, _, _, _, _, _, nx, _) => match st with
    | Sum.inl y :: Sum.inl x :: st => some (nx, ls, gI (x <<< (y &&& 31)) :: st, h)
    | _ => none
  | (26, _, _, _, _, _, nx, _) => match st with
    | Sum.inl y :: Sum.inl x :: st => some (nx, ls, gI (x >>> (y &&& 31)) :: st, h)
    | _ => none
  | (27, _, _, _, _, _, nx, _) => match st with
    | Sum.inl y :: Sum.inl x :: st => if y = 0 then none else some (nx, ls, gI (x / y) :: st, h)
    | _ => none
  | (28, _, _, _, _, _, nx, _) => match st with
    | Sum.inl y :: Sum.inl x :: st => some (nx, ls, gI (x.toUInt32 >>> (y.toUInt32 &&& Int32.toUInt32 31)).toInt32 :: st, h)
    | _ => none
  | (30, _, _, _, _, _, nx, _) => match st with
    | Sum.inl x :: st => some (nx, ls, gL x.toInt64 :: st, h)
    | _ => none
  | (31, _, _, _, _, _, nx, _) => match st with
    | Sum.inr (Sum.inl x) :: st => some (nx, ls, gI x.toInt32 :: st, h)
    | _ => none
  | (32, _, _, _, _, _, nx, _) => match st with
    | Sum.inr (Sum.inl y) :: Sum.inr (Sum.inl x) :: st => some (nx, ls, gL (x + y) :: st, h)
    | _ => none
  | (33, _, _, _, _, _, nx, _) => match st with
    | Sum.inr (Sum.inl y) :: Sum.inr (Sum.inl x) :: st => some (nx, ls, gL (x - y) :: st, h)
    | _ => none
  | (34, _, _, _, _, _, nx, _) => match st with
    | Sum.inr (Sum.inl y) :: Sum.inr (Sum.inl x) :: st => some (nx, ls, gL (x * y) :: st, h)
    | _ => none
  | (35, _, _, _, _, _, nx, _) => match st with
    | Sum.inr (Sum.inl y) :: Sum.inr (Sum.inl x) :: st => if y = 0 then none else some (nx, ls, gL (x / y) :: st, h)
    | _ => none
  | (36, _, _, _, _, _, nx, _) => match st with
    | Sum.inr (Sum.inl y) :: Sum.inr (Sum.inl x) :: st => some (nx, ls, gI (lg_cmp x y) :: st, h)
    | _ => none
  | (37, _, _, _, _, _, nx, _) => match st with
    | Sum.inl y :: Sum.inr (Sum.inl x) :: st => some (nx, ls, gL (x <<< (y.toInt64 &&& 63)) :: st, h)
    | _ => none
  | (38, _, _, _, _, _, nx, _) => match st with
    | Sum.inl y :: Sum.inr (Sum.inl x) :: st => some (nx, ls, gL (x >>> (y.toInt64 &&& 63)) :: st, h)
    | _ => none
  | _ => none
/-- the stack -/
def gv_x3 (J : gv_J) (ls : gv_L) (st : List gv_V) (h : gv_H) : Option gv_S := match J with
  | (40, _, _, _, _, _, nx, _) => match st with
    | v :: st => if gv_isL (some (some v)) then none else some (nx, ls, v :: v :: st, h)
    | _ => none
  | (41, _, _, _, _, _, nx, _) => match st with
    | v :: w :: st => if gv_isL (some (some v)) || gv_isL (some (some w)) then none else some (nx, ls, v :: w :: v :: w :: st, h)
    | _ => none
  | (42, _, _, _, _, _, nx, _) => match st with
    | v :: w :: st => if gv_isL (some (some v)) || gv_isL (some (some w)) then none else some (nx, ls, v :: w :: v :: st, h)
    | _ => none
  | (43, _, _, _, _, _, nx, _) => match st with
    | v :: w :: u :: st => if gv_isL (some (some v)) || gv_isL (some (some w)) || gv_isL (some (some u)) then none else some (nx, ls, v :: w :: u :: v :: st, h)
    | _ => none
  | (44, _, _, _, _, _, nx, _) => match st with
    | v :: st => if gv_isL (some (some v)) then none else some (nx, ls, st, h)
    | _ => none
  | _ => none
/-- switches: the first road whose number it is, else the other one -/
def gv_sw (x : Int32) (a : Nat) : List (Int32 × Nat) → Nat
  | [] => a
  | (k, t) :: l => if x = k then t else gv_sw x a l
/-- branches -/
def gv_x4 (J : gv_J) (ls : gv_L) (st : List gv_V) (h : gv_H) : Option gv_S := match J with
  | (50, _, _, a, _, _, nx, _) => match st with
    | Sum.inl x :: st => some (if x = 0 then a else nx, ls, st, h)
    | _ => none
  | (51, _, _, a, _, _, nx, _) => match st with
    | Sum.inl x :: st => some (if ¬ x = 0 then a else nx, ls, st, h)
    | _ => none
  | (52, _, _, a, _, _, nx, _) => match st with
    | Sum.inl x :: st => some (if x < 0 then a else nx, ls, st, h)
    | _ => none
  | (53, _, _, a, _, _, nx, _) => match st with
    | Sum.inl x :: st => some (if 0 ≤ x then a else nx, ls, st, h)
    | _ => none
  | (54, _, _, a, _, _, nx, _) => match st with
    | Sum.inl x :: st => some (if 0 < x then a else nx, ls, st, h)
    | _ => none
  | (55, _, _, a, _, _, nx, _) => match st with
    | Sum.inl x :: st => some (if x ≤ 0 then a else nx, ls, st, h)
    | _ => none
  | (56, _, _, a, _, _, nx, _) => match st with
    | Sum.inl y :: Sum.inl x :: st => some (if x = y then a else nx, ls, st, h)
    | _ => none
  | (57, _, _, a, _, _, nx, _) => match st with
    | Sum.inl y :: Sum.inl x :: st => some (if ¬ x = y then a else nx, ls, st, h)
    | _ => none
  | (58, _, _, a, _, _, nx, _) => match st with
    | Sum.inl y :: Sum.inl x :: st => some (if x < y then a else nx, ls, st, h)
    | _ => none
  | (59, _, _, a, _, _, nx, _) => match st with
    | Sum.inl y :: Sum.inl x :: st => some (if y ≤ x then a else nx, ls, st, h)
    | _ => none
  | (60, _, _, a, _, _, nx, _) => match st with
    | Sum.inl y :: Sum.inl x :: st => some (if y < x then a else nx, ls, st, h)
    | _ => none
  | (61, _, _, a, _, _, nx, _) => match st with
    | Sum.inl y :: Sum.inl x :: st => some (if x ≤ y then a else nx, ls, st, h)
    | _ => none
  | (62, _, _, a, _, _, _, tb) => match st with
    | Sum.inl x :: st => some (gv_sw x a tb, ls, st, h)
    | _ => none
  | _ => none
end GXA
end
section
/-! gy: the walk of a method over the picture -/
section GYA
def gv_nest (w : Jvm.Cond) : Bool := match w with
  | .fieldLinkNest _ _ _ _ _ _ => true
  | .methodLinkNest _ _ _ _ => true
  | .arrayOver (.object _) => true
  | .castable _ _ => true
  | .declares _ => true
  | _ => false
def gv_gd (w : Jvm.Cond) : Bool := goodWord w || gv_nest w
def gv_ty (G : gv_G) : List (ClassId × FieldType) := [(G.2.2.2.1 0, .int), (G.2.2.2.1 1, .long), (G.2.2.2.1 2, .boolean), (G.2.2.2.1 3, .object gv_qc)]
/-- a static of Throwable: where it lies, that it is a reference -/
def gx_st (n d : String) (U : State) (H : Heap) (zz : Nat) : Prop := ∃ (c : ClassId) (k : Class) (i : Nat) (f : Field) (a : Nat) (cell : Cell) (v : Value), U.vm.findClass "java/lang/Throwable" = some c ∧ U.fieldFound? "java/lang/Throwable" n d = some (c, k, i, f) ∧ f.isStatic = true ∧ k.statics = some a ∧ H[a]? = some cell ∧ cell.vm.isStatics = true ∧ cell.cls = c ∧ f.slot < cell.slots.size ∧ k.staticTypes[f.slot]? = some f.type ∧ a < zz ∧ cell.slots[f.slot]? = some v ∧ v.isRef = true
theorem gx_st.moved {n d : String} {u U : State} {H H1 : Heap} {zz : Nat} (hvm : u.vm.Alike U.vm) (hH : ∀ q : Nat, q < zz → H1[q]? = H[q]?) (h : gx_st n d u H zz) : gx_st n d U H1 zz := by
  obtain ⟨c, k, i, f, a, cell, v, h1, h2, h3, h4, h5, h6, h7, h8, h9, h10, h11, h12⟩ := h
  obtain ⟨k', hi', he⟩ := State.fieldFound?_setVm hvm h2
  exact ⟨c, k', i, f, a, cell, v, by rw [hvm.findClass]; exact h1, hi', h3, by rw [he]; exact h4, by rw [hH a h10]; exact h5, h6, h7, h8, by rw [he]; exact h9, h10, h11, h12⟩
theorem gx_st.lays {n d : String} {s : State} {zz : Nat} {args : Array Value} (h : gx_st n d s s.heap zz) : (Jvm.Cond.laysStatic "java/lang/Throwable" n d).before args s = true := by
  obtain ⟨c, k, i, f, a, cell, v, h1, h2, h3, h4, h5, h6, h7, h8, h9, h10, h11, h12⟩ := h
  exact Cond.laysStatic_of h1 h2 h3 h4 h5 h6 h7 h8 h9
theorem gx_st.isRef {n d : String} {s : State} {zz : Nat} {args : Array Value} (h : gx_st n d s s.heap zz) : (Jvm.Cond.isRef (.static "java/lang/Throwable" n d)).before args s = true := by
  obtain ⟨c, k, i, f, a, cell, v, h1, h2, h3, h4, h5, h6, h7, h8, h9, h10, h11, h12⟩ := h
  have he : (Term.static "java/lang/Throwable" n d).eval args s none [] s = some v := by
    simp [Term.eval, State.fieldNamed?, h2, h3, h4, h5, h6, h11]
  simp only [Jvm.Cond.before, Jvm.Cond.holds, Jvm.Cond.value, he]
  cases v <;> simp_all [Value.isRef]
/-- pairs of exceptions of which the first can't be cast to the second -/
def gx_nc : List (String × String) := [("java/lang/IllegalStateException", "java/lang/IllegalArgumentException"), ("java/lang/IllegalArgumentException", "java/lang/IllegalStateException"), ("java/lang/ArithmeticException", "java/lang/IllegalArgumentException"), ("java/lang/ArithmeticException", "java/lang/IllegalStateException"), ("java/lang/UnsupportedOperationException", "java/lang/IllegalArgumentException"), ("java/lang/UnsupportedOperationException", "java/lang/IllegalStateException"), ("java/lang/UnsupportedOperationException", "java/lang/ArithmeticException")]
def gx_K (G : gv_G) (s : State) : Prop := G.1.stackTraces = false ∧ (∀ q ∈ gx_nc, va_Nc q.1 q.2 s) ∧ gx_st "UNASSIGNED_STACK" "[Ljava/lang/StackTraceElement;" s G.2.2.2.2.1 G.2.2.2.2.2.1 ∧ gx_st "SUPPRESSED_SENTINEL" "Ljava/util/List;" s G.2.2.2.2.1 G.2.2.2.2.2.1
/-- what the tables say, at a state -/
def gv_K (G : gv_G) (s : State) : Prop := (∀ w ∈ gv_T, gv_gd w = true → va_Nw w s) ∧ va_K G.2.2.1 gv_cl (gv_ty G) s ∧ va_X (G.2.1 0) G.2.2.2.2.2.2.1 G.2.2.2.2.2.2.2 s G.2.2.2.2.1 ∧ gx_K G s
theorem gv_Nw_moved {w : Jvm.Cond} (hg : gv_gd w = true) {s U : State} (hW : s.WarmedH U.vm) (h : va_Nw w s) : va_Nw w U := by
  unfold gv_gd at hg
  rw [Bool.or_eq_true] at hg
  rcases hg with hg | hg
  · exact word_at hW (good_of_word hg) h
  · unfold gv_nest at hg
    split at hg
    next => exact va_Nw.warmF hW h
    next => exact va_Nw.warmM hW h
    next => exact va_AO.moved hW.alike h
    next => exact va_Nw.warmC hW h
    next => exact va_Nw.warmD hW h
    next => cases hg
theorem gv_K.moved {G : gv_G} {s U : State} (hW : s.WarmedH U.vm) (h : gv_K G s) : gv_K G U :=
  ⟨fun w hw hg => gv_Nw_moved hg hW (h.1 w hw hg), va_K.moved hW.alike h.2.1, va_X.moved hW.alike h.2.2.1, h.2.2.2.1, fun q hq => (h.2.2.2.2.1 q hq).moved hW.alike, gx_st.moved hW.alike (fun _ _ => rfl) h.2.2.2.2.2.1, gx_st.moved hW.alike (fun _ _ => rfl) h.2.2.2.2.2.2⟩
theorem gv_K.same {G : gv_G} {s U : State} (hv : s.vm = U.vm) (h : gv_K G s) : gv_K G U := by
  have hW : s.WarmedH U.vm := by rw [← hv]; exact State.WarmedH.refl s
  exact gv_K.moved hW h
theorem gv_K.use {G : gv_G} {s : State} (h : gv_K G s) {w : Jvm.Cond} (i : Nat) (hi : gv_T[i]? = some w) (hg : gv_gd w = true) (args : Array Value) : w.before args s = true := by
  have h1 := h.1 w (List.mem_of_getElem? hi) hg
  unfold gv_gd at hg
  rw [Bool.or_eq_true] at hg
  rcases hg with hg | hg
  · exact word_at (State.WarmedH.refl s) (good_of_word hg) h1
  · unfold gv_nest at hg
    split at hg
    next => exact va_Nw.use rfl h1
    next => exact va_Nw.use rfl h1
    next => exact va_AO.use h1
    next => exact va_Nw.use rfl h1
    next => exact va_Nw.use rfl h1
    next => cases hg
def gv_room (d mc ms : Nat) : Room := { frames := d + 8, cells := mc, slots := ms, locals := 64 * d + 200 }
/-- what a method's activation is -/
def gv_X (G : gv_G) (y : gv_M) (p : Program) (s : State) (m : MethodId) (meth : Method) (c : Code) : Prop :=
  p.tables.exec = Jvm.exec ∧ c.code = y.2.1 ∧ c.maxLocals = y.2.2.1 ∧ s.vm.findClass y.1.cls = some m.cls ∧ gv_K G s ∧ meth.sig.returnType = y.2.2.2.1 ∧ meth.locks = false ∧ meth.name = y.1.name ∧ c.exceptionTable.toList.map (fun h => (h.startPc, h.endPc, h.handlerPc, h.catchType)) = y.2.2.2.2.2.2.2.2.2.2
/-- how a method ends: an answer; an exception's class; the law's own end; an answer behind which more places may be taken -/
abbrev gv_O : Type := Option gv_V ⊕ (String ⊕ Option (Option gv_V))
def gv_Qv (G : gv_G) (v : Option gv_V) (hf : gv_H) : Array Value → State → Outcome → State → Prop := fun _ _ o t => o = .returned (v.map (gv_v G.2.1)) ∧ gv_w G hf t.heap
def gv_Ql (G : gv_G) (v : Option gv_V) (hf : gv_H) : Array Value → State → Outcome → State → Prop := fun _ _ o t => o = .returned (v.map (gv_v G.2.1)) ∧ ∃ δ : Nat, gv_w G (hf.1 + δ, hf.2) t.heap
def gv_fr (G : gv_G) : Addr → Prop := fun q => G.2.2.2.2.2.1 ≤ q
/-- a method has thrown q, of class E, and made that one cell -/
def gx_T (G : gv_G) (E : String) (hf : gv_H) (s : State) (q : Addr) (t : State) (mc ms : Nat) : Prop :=
  ∃ (ce : Cell) (L : List Loc) (δ : Nat), t.heap[q]? = some ce ∧ ce.vm = .none ∧ s.vm.findClass E = some ce.cls ∧ s.WarmedH t.vm ∧ s.sameButNew ({ t with vm := s.vm } : State) L mc ms ∧ (∀ z ∈ L, gv_fr G z.base) ∧ gv_w G (hf.1 + δ, hf.2) t.heap
def gv_fin (G : gv_G) (r : gv_O) (hf : gv_H) (below : List Frame) (args : Array Value) (s : State) (mc ms : Nat) : State → Prop := match r with
  | .inl v => MQ below (gv_Qv G v hf) args s mc ms (gv_fr G)
  | .inr (.inl E) => fun t => ∃ q, t.status = .running ∧ Ended t below (.threw q) ∧ gx_T G E hf s q t mc ms
  | .inr (.inr none) => fun t => s.heap.size = G.2.2.2.2.2.1 → lw_Z below args s t
  | .inr (.inr (some v)) => MQ below (gv_Ql G v hf) args s mc ms (gv_fr G)
/-- the method goes on from here to its end: answer r, picture hf -/
def gv_go (G : gv_G) (y : gv_M) (d : Nat) (r : gv_O) (hf : gv_H) (pc : Nat) (ls : gv_L) (st : List gv_V) (h : gv_H) : Prop :=
  (h.2.1.1 ≤ hf.2.1.1 ∧ h.2.1.2 ≤ hf.2.1.2) ∧
  ∀ (h0 : gv_H) (p : Program) (e : Env) (s : State) (m : MethodId) (args : Array Value) (below : List Frame) (meth : Method) (c : Code) (H : Heap) (locs : List Loc) (A : Array Slot),
    h0.2.1.1 ≤ h.2.1.1 → h0.2.1.2 ≤ h.2.1.2 → gv_X G y p s m meth c → gv_w G h H → (∀ q ∈ locs, gv_fr G q.base) → gv_ls G.2.1 y.2.2.1 A ls →
    W p G.1 e (gv_room d (hf.2.1.1 - h0.2.1.1) (hf.2.1.2 - h0.2.1.2)) s m args below meth c H locs (h.2.1.1 - h0.2.1.1) (h.2.1.2 - h0.2.1.2) (gv_fin G r hf below args s (hf.2.1.1 - h0.2.1.1) (hf.2.1.2 - h0.2.1.2)) (F0 m pc A (st.map (gv_v G.2.1)))
variable {G : gv_G} {y : gv_M} {d : Nat} {r : gv_O} {hf : gv_H} {pc pc' : Nat} {ls ls' : gv_L} {st st' : List gv_V} {h h' : gv_H}
/-- a step that leaves the cells as they are -/
theorem gv_pure (hs : ∀ (p : Program) (e : Env) (R : Room) (s : State) (m : MethodId) (args : Array Value) (below : List Frame) (meth : Method) (c : Code) (H : Heap) (locs : List Loc) (cells slots : Nat) (Q : State → Prop) (A : Array Slot),
      gv_X G y p s m meth c → gv_w G h H → gv_ls G.2.1 y.2.2.1 A ls → (∀ A' : Array Slot, gv_ls G.2.1 y.2.2.1 A' ls' → W p G.1 e R s m args below meth c H locs cells slots Q (F0 m pc' A' (st'.map (gv_v G.2.1)))) →
      W p G.1 e R s m args below meth c H locs cells slots Q (F0 m pc A (st.map (gv_v G.2.1))))
    (k : gv_go G y d r hf pc' ls' st' h) : gv_go G y d r hf pc ls st h :=
  ⟨k.1, fun h0 p e s m args below meth c H locs A q1 q2 X hw hl hA => hs p e _ s m args below meth c H locs _ _ _ A X hw hA (fun A' hA' => k.2 h0 p e s m args below meth c H locs A' q1 q2 X hw hl hA')⟩
/-- a step that writes a cell -/
theorem gv_wr {kk : Nat} {cc : gv_C} (h0 : kk ≠ 0) (hs : ∀ (p : Program) (e : Env) (R : Room) (s : State) (m : MethodId) (args : Array Value) (below : List Frame) (meth : Method) (c : Code) (H : Heap) (locs : List Loc) (cells slots : Nat) (Q : State → Prop) (A : Array Slot),
      gv_X G y p s m meth c → gv_w G h H → gv_ls G.2.1 y.2.2.1 A ls → (∀ (H1 : Heap) (i : Nat), gv_w G (gv_set h kk cc) H1 → W p G.1 e R s m args below meth c H1 (locs ++ [⟨G.2.1 kk, i⟩]) cells slots Q (F0 m pc' A (st'.map (gv_v G.2.1)))) →
      W p G.1 e R s m args below meth c H locs cells slots Q (F0 m pc A (st.map (gv_v G.2.1))))
    (k : gv_go G y d r hf pc' ls st' (gv_set h kk cc)) : gv_go G y d r hf pc ls st h :=
  ⟨k.1, fun h9 p e s m args below meth c H locs A q1 q2 X hw hl hA => hs p e _ s m args below meth c H locs _ _ _ A X hw hA (fun H1 i hw1 => k.2 h9 p e s m args below meth c H1 _ A q1 q2 X hw1 (fun q hq => by
    rcases List.mem_append.mp hq with hq | hq
    · exact hl q hq
    · rw [List.mem_singleton.mp hq]
      exact hw.1.1.ge h0) hA)⟩
/-- a step that makes a cell -/
theorem gv_mk {n : Nat} {cc : gv_C} (hs : ∀ (p : Program) (e : Env) (R : Room) (s : State) (m : MethodId) (args : Array Value) (below : List Frame) (meth : Method) (c : Code) (H : Heap) (locs : List Loc) (cells slots : Nat) (Q : State → Prop) (A : Array Slot),
      gv_X G y p s m meth c → gv_w G h H → gv_ls G.2.1 y.2.2.1 A ls → cells + 1 ≤ R.cells → slots + n ≤ R.slots → (∀ H1 : Heap, gv_w G (gv_push h n cc) H1 → W p G.1 e R s m args below meth c H1 locs (cells + 1) (slots + n) Q (F0 m pc' A (st'.map (gv_v G.2.1)))) →
      W p G.1 e R s m args below meth c H locs cells slots Q (F0 m pc A (st.map (gv_v G.2.1))))
    (k : gv_go G y d r hf pc' ls st' (gv_push h n cc)) : gv_go G y d r hf pc ls st h := by
  have k1 : h.2.1.1 + 1 ≤ hf.2.1.1 ∧ h.2.1.2 + n ≤ hf.2.1.2 := k.1
  refine ⟨⟨by omega, by omega⟩, fun h0 p e s m args below meth c H locs A q1 q2 X hw hl hA => hs p e _ s m args below meth c H locs _ _ _ A X hw hA (by show _ ≤ hf.2.1.1 - h0.2.1.1; omega) (by show _ ≤ hf.2.1.2 - h0.2.1.2; omega) (fun H1 hw1 => ?_)⟩
  have k2 := k.2 h0 p e s m args below meth c H1 locs A (Nat.le_succ_of_le q1) (Nat.le_trans q2 (Nat.le_add_right _ _)) X hw1 hl hA
  have e1 : h.2.1.1 - h0.2.1.1 + 1 = (gv_push h n cc).2.1.1 - h0.2.1.1 := by show _ = h.2.1.1 + 1 - h0.2.1.1; omega
  have e2 : h.2.1.2 - h0.2.1.2 + n = (gv_push h n cc).2.1.2 - h0.2.1.2 := by show _ = h.2.1.2 + n - h0.2.1.2; omega
  rw [e1, e2]
  exact k2
end GYA
end
section
/-! gz: the steps are the machine's -/
section GZA
def gv_tw (i : Nat) (w : Jvm.Cond) : Bool := decide (gv_T[i]? = some w) && gv_gd w
theorem gv_tw_use {G : gv_G} {s : State} (h : gv_K G s) {i : Nat} {w : Jvm.Cond} (hi : gv_tw i w = true) (args : Array Value) : w.before args s = true := by
  unfold gv_tw at hi
  rw [Bool.and_eq_true, decide_eq_true_eq] at hi
  exact h.use i hi.1 hi.2 args
def gv_ck1 (own : String) (nL pc : Nat) (J : gv_J) (i : Instr) (n : Nat) : Bool := match J, i with
  | (1, v, _, _, _, _, nx, _), .iconst c => decide (n = 1 ∧ nx = pc + 1 ∧ Int32.ofInt c = v)
  | (1, v, _, _, _, _, nx, _), .bipush c => decide (n = 2 ∧ nx = pc + 2 ∧ (Int8.ofInt c).toInt32 = v)
  | (1, v, _, _, _, _, nx, _), .sipush c => decide (n = 3 ∧ nx = pc + 3 ∧ (Int16.ofInt c).toInt32 = v)
  | (1, v, _, _, _, wp, nx, _), .ldc x => decide (n = 2 ∧ nx = pc + 2 ∧ gv_tw wp (.constant own x v) = true)
  | (2, _, w, _, _, _, nx, _), .lconst c => decide (n = 1 ∧ nx = pc + 1 ∧ Int64.ofNat (c : Nat) = w)
  | (2, _, w, _, _, wp, nx, _), .ldc2_w x => decide (n = 3 ∧ nx = pc + 3 ∧ gv_tw wp (.constantLong own x w) = true)
  | (3, _, _, a, _, _, nx, _), .iload_n k => decide (n = 1 ∧ nx = pc + 1 ∧ (k : Nat) = a)
  | (3, _, _, a, _, _, nx, _), .iload k => decide (n = 2 ∧ nx = pc + 2 ∧ k = a)
  | (4, _, _, a, _, _, nx, _), .lload_n k => decide (n = 1 ∧ nx = pc + 1 ∧ (k : Nat) = a)
  | (4, _, _, a, _, _, nx, _), .lload k => decide (n = 2 ∧ nx = pc + 2 ∧ k = a)
  | (5, _, _, a, _, _, nx, _), .aload_n k => decide (n = 1 ∧ nx = pc + 1 ∧ (k : Nat) = a)
  | (5, _, _, a, _, _, nx, _), .aload k => decide (n = 2 ∧ nx = pc + 2 ∧ k = a)
  | (6, _, _, a, _, _, nx, _), .istore_n k => decide (n = 1 ∧ nx = pc + 1 ∧ (k : Nat) = a ∧ a < nL)
  | (6, _, _, a, _, _, nx, _), .istore k => decide (n = 2 ∧ nx = pc + 2 ∧ k = a ∧ a < nL)
  | (7, _, _, a, _, _, nx, _), .lstore_n k => decide (n = 1 ∧ nx = pc + 1 ∧ (k : Nat) = a ∧ a + 1 < nL)
  | (7, _, _, a, _, _, nx, _), .lstore k => decide (n = 2 ∧ nx = pc + 2 ∧ k = a ∧ a + 1 < nL)
  | (8, _, _, a, _, _, nx, _), .astore_n k => decide (n = 1 ∧ nx = pc + 1 ∧ (k : Nat) = a ∧ a < nL)
  | (8, _, _, a, _, _, nx, _), .astore k => decide (n = 2 ∧ nx = pc + 2 ∧ k = a ∧ a < nL)
  | (9, v, _, a, _, _, nx, _), .iinc k c => decide (n = 3 ∧ nx = pc + 3 ∧ k = a ∧ Int32.ofInt c = v ∧ a < nL)
  | (10, _, _, a, _, _, _, _), .goto o => decide (n = 3 ∧ (pc : Int) + o = (a : Int))
  | _, _ => false
variable {G : gv_G} {y : gv_M} {d : Nat} {r : gv_O} {hf : gv_H} {pc : Nat} {J : gv_J} {ls : gv_L} {st : List gv_V} {h : gv_H} {S : gv_S} {i : Instr} {n : Nat}
theorem gv_s1 (hd : decode y.2.1 pc = .ok (i, n)) (hc : gv_ck1 y.1.cls y.2.2.1 pc J i n = true) (hx : gv_x1 J ls st h = some S) (k : gv_go G y d r hf S.1 S.2.1 S.2.2.1 S.2.2.2) : gv_go G y d r hf pc ls st h := by
  unfold gv_ck1 at hc
  split at hc
  · -- iconst
    rw [decide_eq_true_eq] at hc
    obtain ⟨rfl, rfl, hv⟩ := hc
    cases hx
    exact gv_pure (fun p e R s m args below meth c H locs cells slots Q A X hw hA kk => lv_iconst X.1 X.2.1 hd hv (kk A hA)) k
  · -- bipush
    rw [decide_eq_true_eq] at hc
    obtain ⟨rfl, rfl, hv⟩ := hc
    cases hx
    exact gv_pure (fun p e R s m args below meth c H locs cells slots Q A X hw hA kk => lv_bipush X.1 X.2.1 hd hv (kk A hA)) k
  · -- sipush
    rw [decide_eq_true_eq] at hc
    obtain ⟨rfl, rfl, hv⟩ := hc
    cases hx
    exact gv_pure (fun p e R s m args below meth c H locs cells slots Q A X hw hA kk => lv_sipush X.1 X.2.1 hd hv (kk A hA)) k
  · -- ldc
    rw [decide_eq_true_eq] at hc
    obtain ⟨rfl, rfl, hv⟩ := hc
    cases hx
    exact gv_pure (fun p e R s m args below meth c H locs cells slots Q A X hw hA kk => lv_ldc X.1 X.2.1 X.2.2.2.1 (gv_tw_use X.2.2.2.2.1 hv args) hd (kk A hA)) k
  · -- lconst
    rw [decide_eq_true_eq] at hc
    obtain ⟨rfl, rfl, hv⟩ := hc
    cases hx
    exact gv_pure (fun p e R s m args below meth c H locs cells slots Q A X hw hA kk => lv_lconst X.1 X.2.1 hd hv (kk A hA)) k
  · -- ldc2
    rw [decide_eq_true_eq] at hc
    obtain ⟨rfl, rfl, hv⟩ := hc
    cases hx
    exact gv_pure (fun p e R s m args below meth c H locs cells slots Q A X hw hA kk => lv_ldc2 X.1 X.2.1 X.2.2.2.1 (gv_tw_use X.2.2.2.2.1 hv args) hd (kk A hA)) k
  · -- iload_n
    rw [decide_eq_true_eq] at hc
    obtain ⟨rfl, rfl, hk⟩ := hc
    simp only [gv_x1] at hx
    split at hx
    next x hg => cases hx; exact gv_pure (fun p e R s m args below meth c H locs cells slots Q A X hw hA kk => lv_iload_n X.1 X.2.1 hd hk (gv_get_at hA hg) (kk A hA)) k
    next => cases hx
  · -- iload
    rw [decide_eq_true_eq] at hc
    obtain ⟨rfl, rfl, rfl⟩ := hc
    simp only [gv_x1] at hx
    split at hx
    next x hg => cases hx; exact gv_pure (fun p e R s m args below meth c H locs cells slots Q A X hw hA kk => lv_iload X.1 X.2.1 hd (gv_get_at hA hg) (kk A hA)) k
    next => cases hx
  · -- lload_n
    rw [decide_eq_true_eq] at hc
    obtain ⟨rfl, rfl, hk⟩ := hc
    simp only [gv_x1] at hx
    split at hx
    next x hg => cases hx; exact gv_pure (fun p e R s m args below meth c H locs cells slots Q A X hw hA kk => lv_lload_n X.1 X.2.1 hd hk (gv_get_at hA hg) (kk A hA)) k
    next => cases hx
  · -- lload
    rw [decide_eq_true_eq] at hc
    obtain ⟨rfl, rfl, rfl⟩ := hc
    simp only [gv_x1] at hx
    split at hx
    next x hg => cases hx; exact gv_pure (fun p e R s m args below meth c H locs cells slots Q A X hw hA kk => lv_lload X.1 X.2.1 hd (gv_get_at hA hg) (kk A hA)) k
    next => cases hx
  · -- aload_n
    rw [decide_eq_true_eq] at hc
    obtain ⟨rfl, rfl, hk⟩ := hc
    simp only [gv_x1] at hx
    split at hx
    next x hg => cases hx; exact gv_pure (fun p e R s m args below meth c H locs cells slots Q A X hw hA kk => lv_aload_n X.1 X.2.1 hd hk (gv_get_at hA hg) (kk A hA)) k
    next => cases hx
  · -- aload
    rw [decide_eq_true_eq] at hc
    obtain ⟨rfl, rfl, rfl⟩ := hc
    simp only [gv_x1] at hx
    split at hx
    next x hg => cases hx; exact gv_pure (fun p e R s m args below meth c H locs cells slots Q A X hw hA kk => lv_aload X.1 X.2.1 hd (gv_get_at hA hg) (kk A hA)) k
    next => cases hx
  · -- istore_n
    rw [decide_eq_true_eq] at hc
    obtain ⟨rfl, rfl, hk, hn⟩ := hc
    simp only [gv_x1] at hx
    split at hx
    next x st => cases hx; exact gv_pure (fun p e R s m args below meth c H locs cells slots Q A X hw hA kk => lv_istore_n X.1 X.2.1 hd hk (gv_ll_has hA) hn rfl (fun A1 h1 => kk A1 (gv_sto_has (v := gI x) h1))) k
    next => cases hx
  · -- istore
    rw [decide_eq_true_eq] at hc
    obtain ⟨rfl, rfl, rfl, hn⟩ := hc
    simp only [gv_x1] at hx
    split at hx
    next x st => cases hx; exact gv_pure (fun p e R s m args below meth c H locs cells slots Q A X hw hA kk => lv_istore X.1 X.2.1 hd (gv_ll_has hA) hn rfl (fun A1 h1 => kk A1 (gv_sto_has (v := gI x) h1))) k
    next => cases hx
  · -- lstore_n
    rw [decide_eq_true_eq] at hc
    obtain ⟨rfl, rfl, hk, hn⟩ := hc
    simp only [gv_x1] at hx
    split at hx
    next x st => cases hx; exact gv_pure (fun p e R s m args below meth c H locs cells slots Q A X hw hA kk => lv_lstore_n X.1 X.2.1 hd hk (gv_ll_has hA) hn rfl (fun A1 h1 => kk A1 (gv_stl_has (v := gL x) h1))) k
    next => cases hx
  · -- lstore
    rw [decide_eq_true_eq] at hc
    obtain ⟨rfl, rfl, rfl, hn⟩ := hc
    simp only [gv_x1] at hx
    split at hx
    next x st => cases hx; exact gv_pure (fun p e R s m args below meth c H locs cells slots Q A X hw hA kk => lv_lstore X.1 X.2.1 hd (gv_ll_has hA) hn rfl (fun A1 h1 => kk A1 (gv_stl_has (v := gL x) h1))) k
    next => cases hx
  · -- astore_n
    rw [decide_eq_true_eq] at hc
    obtain ⟨rfl, rfl, hk, hn⟩ := hc
    simp only [gv_x1] at hx
    split at hx
    next x st => cases hx; exact gv_pure (fun p e R s m args below meth c H locs cells slots Q A X hw hA kk => lv_astore_n X.1 X.2.1 hd hk (gv_ll_has hA) hn rfl (fun A1 h1 => kk A1 (gv_sto_has (v := gR x) h1))) k
    next => cases hx
  · -- astore
    rw [decide_eq_true_eq] at hc
    obtain ⟨rfl, rfl, rfl, hn⟩ := hc
    simp only [gv_x1] at hx
    split at hx
    next x st => cases hx; exact gv_pure (fun p e R s m args below meth c H locs cells slots Q A X hw hA kk => lv_astore X.1 X.2.1 hd (gv_ll_has hA) hn rfl (fun A1 h1 => kk A1 (gv_sto_has (v := gR x) h1))) k
    next => cases hx
  · -- iinc
    rw [decide_eq_true_eq] at hc
    obtain ⟨rfl, rfl, rfl, hv, hn⟩ := hc
    simp only [gv_x1] at hx
    split at hx
    next x hg =>
      cases hx
      refine gv_pure (fun p e R s m args below meth c H locs cells slots Q A X hw hA kk => ?_) k
      obtain ⟨q, hq⟩ := List.getElem?_of_mem (gv_ll_mem (z := G.2.1) (gv_get_some hg))
      exact lv_iinc X.1 X.2.1 hd (gv_ll_has hA) hq (by rw [hv]) hn rfl (fun A1 h1 => kk A1 (gv_sto_has h1))
    next => cases hx
  · -- goto
    rw [decide_eq_true_eq] at hc
    obtain ⟨rfl, ht⟩ := hc
    cases hx
    exact gv_pure (fun p e R s m args below meth c H locs cells slots Q A X hw hA kk => lv_goto X.1 X.2.1 hd ht (kk A hA)) k
  · cases hc
end GZA
end
section
section GZB
theorem gv_c1 {z : Nat → Nat} {v : gv_V} (h : ¬ gv_isL (some (some v)) = true) : (gv_v z v).category = 1 := (lv_cat _).resolve_right (fun q => h (gv_cat.mp q))
def gv_ck2 (pc : Nat) (J : gv_J) (i : Instr) (n : Nat) : Bool := match J, i with
  | (20, _, _, _, _, _, nx, _), .iadd => decide (n = 1 ∧ nx = pc + 1)
  | (21, _, _, _, _, _, nx, _), .isub => decide (n = 1 ∧ nx = pc + 1)
  | (22, _, _, _, _, _, nx, _), .imul => decide (n = 1 ∧ nx = pc + 1)
  | (23, _, _, _, _, _, nx, _), .iand => decide (n = 1 ∧ nx = pc + 1)
  | (24, _, _, _, _, _, nx, _), .ior => decide (n = 1 ∧ nx = pc + 1)
  | (25, _, _, _, _, _, nx, _), .ishl => decide (n = 1 ∧ nx = pc + 1)
  | (26, _, _, _, _, _, nx, _), .ishr => decide (n = 1 ∧ nx = pc + 1)
  | (27, _, _, _, _, _, nx, _), .idiv => decide (n = 1 ∧ nx = pc + 1)
  | (28, _, _, _, _, _, nx, _), .iushr => decide (n = 1 ∧ nx = pc + 1)
  | (30, _, _, _, _, _, nx, _), .i2l => decide (n = 1 ∧ nx = pc + 1)
  | (31, _, _, _, _, _, nx, _), .l2i => decide (n = 1 ∧ nx = pc + 1)
  | (32, _, _, _, _, _, nx, _), .ladd => decide (n = 1 ∧ nx = pc + 1)
  | (33, _, _, _, _, _, nx, _), .lsub => decide (n = 1 ∧ nx = pc + 1)
  | (34, _, _, _, _, _, nx, _), .lmul => decide (n = 1 ∧ nx = pc + 1)
  | (35, _, _, _, _, _, nx, _), .ldiv => decide (n = 1 ∧ nx = pc + 1)
  | (36, _, _, _, _, _, nx, _), .lcmp => decide (n = 1 ∧ nx = pc + 1)
  | (37, _, _, _, _, _, nx, _), .lshl => decide (n = 1 ∧ nx = pc + 1)
  | (38, _, _, _, _, _, nx, _), .lshr => decide (n = 1 ∧ nx = pc + 1)
  | _, _ => false
def gv_ck3 (pc : Nat) (J : gv_J) (i : Instr) (n : Nat) : Bool := match J, i with
  | (40, _, _, _, _, _, nx, _), .dup => decide (n = 1 ∧ nx = pc + 1)
  | (41, _, _, _, _, _, nx, _), .dup2 => decide (n = 1 ∧ nx = pc + 1)
  | (42, _, _, _, _, _, nx, _), .dup_x1 => decide (n = 1 ∧ nx = pc + 1)
  | (43, _, _, _, _, _, nx, _), .dup_x2 => decide (n = 1 ∧ nx = pc + 1)
  | (44, _, _, _, _, _, nx, _), .pop => decide (n = 1 ∧ nx = pc + 1)
  | _, _ => false
def gv_ck4 (pc : Nat) (J : gv_J) (i : Instr) (n : Nat) : Bool := match J, i with
  | (50, _, _, a, _, _, nx, _), .ifCond .eq o => decide (n = 3 ∧ nx = pc + 3 ∧ (pc : Int) + o = (a : Int))
  | (51, _, _, a, _, _, nx, _), .ifCond .ne o => decide (n = 3 ∧ nx = pc + 3 ∧ (pc : Int) + o = (a : Int))
  | (52, _, _, a, _, _, nx, _), .ifCond .lt o => decide (n = 3 ∧ nx = pc + 3 ∧ (pc : Int) + o = (a : Int))
  | (53, _, _, a, _, _, nx, _), .ifCond .ge o => decide (n = 3 ∧ nx = pc + 3 ∧ (pc : Int) + o = (a : Int))
  | (54, _, _, a, _, _, nx, _), .ifCond .gt o => decide (n = 3 ∧ nx = pc + 3 ∧ (pc : Int) + o = (a : Int))
  | (55, _, _, a, _, _, nx, _), .ifCond .le o => decide (n = 3 ∧ nx = pc + 3 ∧ (pc : Int) + o = (a : Int))
  | (56, _, _, a, _, _, nx, _), .if_icmp .eq o => decide (n = 3 ∧ nx = pc + 3 ∧ (pc : Int) + o = (a : Int))
  | (57, _, _, a, _, _, nx, _), .if_icmp .ne o => decide (n = 3 ∧ nx = pc + 3 ∧ (pc : Int) + o = (a : Int))
  | (58, _, _, a, _, _, nx, _), .if_icmp .lt o => decide (n = 3 ∧ nx = pc + 3 ∧ (pc : Int) + o = (a : Int))
  | (59, _, _, a, _, _, nx, _), .if_icmp .ge o => decide (n = 3 ∧ nx = pc + 3 ∧ (pc : Int) + o = (a : Int))
  | (60, _, _, a, _, _, nx, _), .if_icmp .gt o => decide (n = 3 ∧ nx = pc + 3 ∧ (pc : Int) + o = (a : Int))
  | (61, _, _, a, _, _, nx, _), .if_icmp .le o => decide (n = 3 ∧ nx = pc + 3 ∧ (pc : Int) + o = (a : Int))
  | (62, _, _, a, _, _, _, tb), .tableswitch df lo hi os => decide ((pc : Int) + df = (a : Int) ∧ hi = lo + os.size - 1 ∧ tb.length = os.size) && (List.range os.size).all (fun j => match tb[j]?, os[j]? with
    | some q, some o => decide (q.1.toInt = lo + (j : Int) ∧ (pc : Int) + o = (q.2 : Int))
    | _, _ => false)
  | _, _ => false
theorem gv_sw_none {x : Int32} {a : Nat} : ∀ {tb : List (Int32 × Nat)}, (∀ q ∈ tb, q.1 ≠ x) → gv_sw x a tb = a
  | [], _ => rfl
  | (k, t) :: l, h => by
    unfold gv_sw
    rw [if_neg (fun e => h (k, t) List.mem_cons_self e.symm)]
    exact gv_sw_none (fun q hq => h q (List.mem_cons_of_mem _ hq))
theorem gv_sw_some {x : Int32} {a t : Nat} : ∀ {tb : List (Int32 × Nat)} {i : Nat}, tb[i]? = some (x, t) → (∀ j q, j < i → tb[j]? = some q → q.1 ≠ x) → gv_sw x a tb = t
  | [], i, h, _ => by simp at h
  | (k, t9) :: l, 0, h, _ => by
    simp at h
    unfold gv_sw
    rw [if_pos h.1.symm, h.2]
  | (k, t9) :: l, i + 1, h, hn => by
    unfold gv_sw
    rw [if_neg (fun e => hn 0 (k, t9) (Nat.succ_pos _) rfl e.symm)]
    exact gv_sw_some (i := i) (by simpa using h) (fun j q hj hq => hn (j + 1) q (by omega) (by simpa using hq))
variable {G : gv_G} {y : gv_M} {d : Nat} {r : gv_O} {hf : gv_H} {pc : Nat} {J : gv_J} {ls : gv_L} {st : List gv_V} {h : gv_H} {S : gv_S} {i : Instr} {n : Nat}
theorem gv_tsw {a : Nat} {tb : List (Int32 × Nat)} {df lo hi : Int} {os : Array Int} {x : Int32} (hd : decode y.2.1 pc = .ok (.tableswitch df lo hi os, n)) (hdf : (pc : Int) + df = (a : Int)) (hhi : hi = lo + os.size - 1) (hln : tb.length = os.size)
    (hall : (List.range os.size).all (fun j => match tb[j]?, os[j]? with
    | some q, some o => decide (q.1.toInt = lo + (j : Int) ∧ (pc : Int) + o = (q.2 : Int))
    | _, _ => false) = true) (k : gv_go G y d r hf (gv_sw x a tb) ls st h) : gv_go G y d r hf pc ls (gI x :: st) h := by
  have key : ∀ j, j < os.size → ∃ k t o, tb[j]? = some (k, t) ∧ os[j]? = some o ∧ k.toInt = lo + (j : Int) ∧ (pc : Int) + o = (t : Int) := by
    intro j hj
    have h1 := List.all_eq_true.mp hall j (List.mem_range.mpr hj)
    split at h1
    next q o e1 e2 =>
      rw [decide_eq_true_eq] at h1
      exact ⟨q.1, q.2, o, e1, e2, h1.1, h1.2⟩
    next => cases h1
  refine gv_pure (fun p e R s m args below meth c H locs cells slots Q A X hw hA kk => ?_) k
  have k9 := kk A hA
  by_cases hout : x.toInt < lo ∨ hi < x.toInt
  · refine lv_tableOut X.1 X.2.1 hd hout hdf ?_
    rw [gv_sw_none (fun q hq e => ?_)] at k9
    · exact k9
    · obtain ⟨j, hj⟩ := List.getElem?_of_mem hq
      have hjl : j < os.size := by rw [← hln]; exact (List.getElem?_eq_some_iff.mp hj).1
      obtain ⟨k, t, o, e1, -, e3, -⟩ := key j hjl
      rw [hj] at e1
      cases e1
      have e : k = x := e
      rw [e] at e3
      omega
  · have h1 : ¬ x.toInt < lo := fun q => hout (Or.inl q)
    have h2 : ¬ hi < x.toInt := fun q => hout (Or.inr q)
    have hj : (x.toInt - lo).toNat < os.size := by omega
    obtain ⟨k, t, o, e1, e2, e3, e4⟩ := key _ hj
    have hk : k = x := Int32.toInt_inj.mp (by omega)
    subst hk
    refine lv_tableIn X.1 X.2.1 hd h1 h2 e2 e4 ?_
    rw [gv_sw_some e1 (fun j q hj9 hq e => ?_)] at k9
    · exact k9
    · obtain ⟨k, t, o, a1, -, a3, -⟩ := key j (by omega)
      rw [hq] at a1
      cases a1
      dsimp only at e
      rw [e] at a3
      omega
theorem gv_s2 (hd : decode y.2.1 pc = .ok (i, n)) (hc : gv_ck2 pc J i n = true) (hx : gv_x2 J ls st h = some S) (k : gv_go G y d r hf S.1 S.2.1 S.2.2.1 S.2.2.2) : gv_go G y d r hf pc ls st h := by
  unfold gv_ck2 at hc
  split at hc
  · rw [decide_eq_true_eq] at hc
    obtain ⟨rfl, rfl⟩ := hc
    simp only [gv_x2] at hx
    split at hx
    next => cases hx; exact gv_pure (fun p e R s m args below meth c H locs cells slots Q A X hw hA kk => lv_iadd X.1 X.2.1 hd (kk A hA)) k
    next => cases hx
  · rw [decide_eq_true_eq] at hc
    obtain ⟨rfl, rfl⟩ := hc
    simp only [gv_x2] at hx
    split at hx
    next => cases hx; exact gv_pure (fun p e R s m args below meth c H locs cells slots Q A X hw hA kk => lv_isub X.1 X.2.1 hd (kk A hA)) k
    next => cases hx
  · rw [decide_eq_true_eq] at hc
    obtain ⟨rfl, rfl⟩ := hc
    simp only [gv_x2] at hx
    split at hx
    next => cases hx; exact gv_pure (fun p e R s m args below meth c H locs cells slots Q A X hw hA kk => lv_imul X.1 X.2.1 hd (kk A hA)) k
    next => cases hx
  · rw [decide_eq_true_eq] at hc
    obtain ⟨rfl, rfl⟩ := hc
    simp only [gv_x2] at hx
    split at hx
    next => cases hx; exact gv_pure (fun p e R s m args below meth c H locs cells slots Q A X hw hA kk => lv_iand X.1 X.2.1 hd (kk A hA)) k
    next => cases hx
  · rw [decide_eq_true_eq] at hc
    obtain ⟨rfl, rfl⟩ := hc
    simp only [gv_x2] at hx
    split at hx
    next => cases hx; exact gv_pure (fun p e R s m args below meth c H locs cells slots Q A X hw hA kk => lv_ior X.1 X.2.1 hd (kk A hA)) k
    next => cases hx
  · rw [decide_eq_true_eq] at hc
    obtain ⟨rfl, rfl⟩ := hc
    simp only [gv_x2] at hx
    split at hx
    next => cases hx; exact gv_pure (fun p e R s m args below meth c H locs cells slots Q A X hw hA kk => lv_ishl X.1 X.2.1 hd (kk A hA)) k
    next => cases hx
  · rw [decide_eq_true_eq] at hc
    obtain ⟨rfl, rfl⟩ := hc
    simp only [gv_x2] at hx
    split at hx
    next => cases hx; exact gv_pure (fun p e R s m args below meth c H locs cells slots Q A X hw hA kk => lv_ishr X.1 X.2.1 hd (kk A hA)) k
    next => cases hx
  · rw [decide_eq_true_eq] at hc
    obtain ⟨rfl, rfl⟩ := hc
    simp only [gv_x2] at hx
    split at hx
    next =>
      split at hx
      next => cases hx
      next hne => cases hx; exact gv_pure (fun p e R s m args below meth c H locs cells slots Q A X hw hA kk => lv_idiv X.1 X.2.1 hd hne (kk A hA)) k
    next => cases hx
  · rw [decide_eq_true_eq] at hc
    obtain ⟨rfl, rfl⟩ := hc
    simp only [gv_x2] at hx
    split at hx
    next => cases hx; exact gv_pure (fun p e R s m args below meth c H locs cells slots Q A X hw hA kk => lv_iushr X.1 X.2.1 hd rfl (kk A hA)) k
    next => cases hx
  · rw [decide_eq_true_eq] at hc
    obtain ⟨rfl, rfl⟩ := hc
    simp only [gv_x2] at hx
    split at hx
    next => cases hx; exact gv_pure (fun p e R s m args below meth c H locs cells slots Q A X hw hA kk => lv_i2l X.1 X.2.1 hd rfl (kk A hA)) k
    next => cases hx
  · rw [decide_eq_true_eq] at hc
    obtain ⟨rfl, rfl⟩ := hc
    simp only [gv_x2] at hx
    split at hx
    next => cases hx; exact gv_pure (fun p e R s m args below meth c H locs cells slots Q A X hw hA kk => lv_l2i X.1 X.2.1 hd rfl (kk A hA)) k
    next => cases hx
  · rw [decide_eq_true_eq] at hc
    obtain ⟨rfl, rfl⟩ := hc
    simp only [gv_x2] at hx
    split at hx
    next => cases hx; exact gv_pure (fun p e R s m args below meth c H locs cells slots Q A X hw hA kk => lv_ladd X.1 X.2.1 hd (kk A hA)) k
    next => cases hx
  · rw [decide_eq_true_eq] at hc
    obtain ⟨rfl, rfl⟩ := hc
    simp only [gv_x2] at hx
    split at hx
    next => cases hx; exact gv_pure (fun p e R s m args below meth c H locs cells slots Q A X hw hA kk => lv_lsub X.1 X.2.1 hd (kk A hA)) k
    next => cases hx
  · rw [decide_eq_true_eq] at hc
    obtain ⟨rfl, rfl⟩ := hc
    simp only [gv_x2] at hx
    split at hx
    next => cases hx; exact gv_pure (fun p e R s m args below meth c H locs cells slots Q A X hw hA kk => lv_lmul X.1 X.2.1 hd (kk A hA)) k
    next => cases hx
  · rw [decide_eq_true_eq] at hc
    obtain ⟨rfl, rfl⟩ := hc
    simp only [gv_x2] at hx
    split at hx
    next =>
      split at hx
      next => cases hx
      next hne => cases hx; exact gv_pure (fun p e R s m args below meth c H locs cells slots Q A X hw hA kk => lv_ldiv X.1 X.2.1 hd hne (kk A hA)) k
    next => cases hx
  · rw [decide_eq_true_eq] at hc
    obtain ⟨rfl, rfl⟩ := hc
    simp only [gv_x2] at hx
    split at hx
    next => cases hx; exact gv_pure (fun p e R s m args below meth c H locs cells slots Q A X hw hA kk => W.lcmp X.1 X.2.1 hd (kk A hA)) k
    next => cases hx
  · rw [decide_eq_true_eq] at hc
    obtain ⟨rfl, rfl⟩ := hc
    simp only [gv_x2] at hx
    split at hx
    next => cases hx; exact gv_pure (fun p e R s m args below meth c H locs cells slots Q A X hw hA kk => lv_lshl X.1 X.2.1 hd rfl (kk A hA)) k
    next => cases hx
  · rw [decide_eq_true_eq] at hc
    obtain ⟨rfl, rfl⟩ := hc
    simp only [gv_x2] at hx
    split at hx
    next => cases hx; exact gv_pure (fun p e R s m args below meth c H locs cells slots Q A X hw hA kk => lv_lshr X.1 X.2.1 hd rfl (kk A hA)) k
    next => cases hx
  · cases hc
theorem gv_s3 (hd : decode y.2.1 pc = .ok (i, n)) (hc : gv_ck3 pc J i n = true) (hx : gv_x3 J ls st h = some S) (k : gv_go G y d r hf S.1 S.2.1 S.2.2.1 S.2.2.2) : gv_go G y d r hf pc ls st h := by
  unfold gv_ck3 at hc
  split at hc
  · rw [decide_eq_true_eq] at hc
    obtain ⟨rfl, rfl⟩ := hc
    simp only [gv_x3] at hx
    split at hx
    next =>
      split at hx
      next => cases hx
      next hq =>
        cases hx
        have h0 := hq
        exact gv_pure (fun p e R s m args below meth c H locs cells slots Q A X hw hA kk => lv_dup X.1 X.2.1 hd (gv_c1 h0) (kk A hA)) k
    next => cases hx
  · rw [decide_eq_true_eq] at hc
    obtain ⟨rfl, rfl⟩ := hc
    simp only [gv_x3] at hx
    split at hx
    next =>
      split at hx
      next => cases hx
      next hq =>
        cases hx
        rw [Bool.or_eq_true] at hq
        have h0 := fun q => hq (Or.inl q)
        have h1 := fun q => hq (Or.inr q)
        exact gv_pure (fun p e R s m args below meth c H locs cells slots Q A X hw hA kk => lv_dup2_11 X.1 X.2.1 hd (gv_c1 h0) (gv_c1 h1) (kk A hA)) k
    next => cases hx
  · rw [decide_eq_true_eq] at hc
    obtain ⟨rfl, rfl⟩ := hc
    simp only [gv_x3] at hx
    split at hx
    next =>
      split at hx
      next => cases hx
      next hq =>
        cases hx
        rw [Bool.or_eq_true] at hq
        have h0 := fun q => hq (Or.inl q)
        have h1 := fun q => hq (Or.inr q)
        exact gv_pure (fun p e R s m args below meth c H locs cells slots Q A X hw hA kk => lv_dup_x1 X.1 X.2.1 hd (gv_c1 h0) (gv_c1 h1) (kk A hA)) k
    next => cases hx
  · rw [decide_eq_true_eq] at hc
    obtain ⟨rfl, rfl⟩ := hc
    simp only [gv_x3] at hx
    split at hx
    next =>
      split at hx
      next => cases hx
      next hq =>
        cases hx
        rw [Bool.or_eq_true, Bool.or_eq_true] at hq
        have h0 := fun q => hq (Or.inl (Or.inl q))
        have h1 := fun q => hq (Or.inl (Or.inr q))
        have h2 := fun q => hq (Or.inr q)
        exact gv_pure (fun p e R s m args below meth c H locs cells slots Q A X hw hA kk => lv_dup_x2 X.1 X.2.1 hd (gv_c1 h0) (gv_c1 h1) (gv_c1 h2) (kk A hA)) k
    next => cases hx
  · rw [decide_eq_true_eq] at hc
    obtain ⟨rfl, rfl⟩ := hc
    simp only [gv_x3] at hx
    split at hx
    next =>
      split at hx
      next => cases hx
      next hq =>
        cases hx
        have h0 := hq
        exact gv_pure (fun p e R s m args below meth c H locs cells slots Q A X hw hA kk => lv_pop X.1 X.2.1 hd (gv_c1 h0) (kk A hA)) k
    next => cases hx
  · cases hc
theorem gv_s4 (hd : decode y.2.1 pc = .ok (i, n)) (hc : gv_ck4 pc J i n = true) (hx : gv_x4 J ls st h = some S) (k : gv_go G y d r hf S.1 S.2.1 S.2.2.1 S.2.2.2) : gv_go G y d r hf pc ls st h := by
  unfold gv_ck4 at hc
  split at hc
  · rw [decide_eq_true_eq] at hc
    obtain ⟨rfl, rfl, ht⟩ := hc
    simp only [gv_x4] at hx
    split at hx
    next => cases hx; exact gv_pure (fun p e R s m args below meth c H locs cells slots Q A X hw hA kk => lv_if_eq X.1 X.2.1 hd ht (fun q => by have k9 := kk A hA; rw [if_pos q] at k9; exact k9) (fun q => by have k9 := kk A hA; rw [if_neg q] at k9; exact k9)) k
    next => cases hx
  · rw [decide_eq_true_eq] at hc
    obtain ⟨rfl, rfl, ht⟩ := hc
    simp only [gv_x4] at hx
    split at hx
    next => cases hx; exact gv_pure (fun p e R s m args below meth c H locs cells slots Q A X hw hA kk => lv_if_ne X.1 X.2.1 hd ht (fun q => by have k9 := kk A hA; rw [if_pos q] at k9; exact k9) (fun q => by have k9 := kk A hA; rw [if_neg (not_not_intro q)] at k9; exact k9)) k
    next => cases hx
  · rw [decide_eq_true_eq] at hc
    obtain ⟨rfl, rfl, ht⟩ := hc
    simp only [gv_x4] at hx
    split at hx
    next => cases hx; exact gv_pure (fun p e R s m args below meth c H locs cells slots Q A X hw hA kk => lv_if_lt X.1 X.2.1 hd ht (fun q => by have k9 := kk A hA; rw [if_pos q] at k9; exact k9) (fun q => by have k9 := kk A hA; rw [if_neg q] at k9; exact k9)) k
    next => cases hx
  · rw [decide_eq_true_eq] at hc
    obtain ⟨rfl, rfl, ht⟩ := hc
    simp only [gv_x4] at hx
    split at hx
    next => cases hx; exact gv_pure (fun p e R s m args below meth c H locs cells slots Q A X hw hA kk => lv_if_ge X.1 X.2.1 hd ht (fun q => by have k9 := kk A hA; rw [if_pos q] at k9; exact k9) (fun q => by have k9 := kk A hA; rw [if_neg q] at k9; exact k9)) k
    next => cases hx
  · rw [decide_eq_true_eq] at hc
    obtain ⟨rfl, rfl, ht⟩ := hc
    simp only [gv_x4] at hx
    split at hx
    next => cases hx; exact gv_pure (fun p e R s m args below meth c H locs cells slots Q A X hw hA kk => lv_if_gt X.1 X.2.1 hd ht (fun q => by have k9 := kk A hA; rw [if_pos q] at k9; exact k9) (fun q => by have k9 := kk A hA; rw [if_neg q] at k9; exact k9)) k
    next => cases hx
  · rw [decide_eq_true_eq] at hc
    obtain ⟨rfl, rfl, ht⟩ := hc
    simp only [gv_x4] at hx
    split at hx
    next => cases hx; exact gv_pure (fun p e R s m args below meth c H locs cells slots Q A X hw hA kk => lv_if_le X.1 X.2.1 hd ht (fun q => by have k9 := kk A hA; rw [if_pos q] at k9; exact k9) (fun q => by have k9 := kk A hA; rw [if_neg q] at k9; exact k9)) k
    next => cases hx
  · rw [decide_eq_true_eq] at hc
    obtain ⟨rfl, rfl, ht⟩ := hc
    simp only [gv_x4] at hx
    split at hx
    next => cases hx; exact gv_pure (fun p e R s m args below meth c H locs cells slots Q A X hw hA kk => lv_icmp_eq X.1 X.2.1 hd ht (fun q => by have k9 := kk A hA; rw [if_pos q] at k9; exact k9) (fun q => by have k9 := kk A hA; rw [if_neg q] at k9; exact k9)) k
    next => cases hx
  · rw [decide_eq_true_eq] at hc
    obtain ⟨rfl, rfl, ht⟩ := hc
    simp only [gv_x4] at hx
    split at hx
    next => cases hx; exact gv_pure (fun p e R s m args below meth c H locs cells slots Q A X hw hA kk => lv_icmp_ne X.1 X.2.1 hd ht (fun q => by have k9 := kk A hA; rw [if_pos q] at k9; exact k9) (fun q => by have k9 := kk A hA; rw [if_neg (not_not_intro q)] at k9; exact k9)) k
    next => cases hx
  · rw [decide_eq_true_eq] at hc
    obtain ⟨rfl, rfl, ht⟩ := hc
    simp only [gv_x4] at hx
    split at hx
    next => cases hx; exact gv_pure (fun p e R s m args below meth c H locs cells slots Q A X hw hA kk => lv_icmp_lt X.1 X.2.1 hd ht (fun q => by have k9 := kk A hA; rw [if_pos q] at k9; exact k9) (fun q => by have k9 := kk A hA; rw [if_neg q] at k9; exact k9)) k
    next => cases hx
  · rw [decide_eq_true_eq] at hc
    obtain ⟨rfl, rfl, ht⟩ := hc
    simp only [gv_x4] at hx
    split at hx
    next => cases hx; exact gv_pure (fun p e R s m args below meth c H locs cells slots Q A X hw hA kk => lv_icmp_ge X.1 X.2.1 hd ht (fun q => by have k9 := kk A hA; rw [if_pos q] at k9; exact k9) (fun q => by have k9 := kk A hA; rw [if_neg q] at k9; exact k9)) k
    next => cases hx
  · rw [decide_eq_true_eq] at hc
    obtain ⟨rfl, rfl, ht⟩ := hc
    simp only [gv_x4] at hx
    split at hx
    next => cases hx; exact gv_pure (fun p e R s m args below meth c H locs cells slots Q A X hw hA kk => lv_icmp_gt X.1 X.2.1 hd ht (fun q => by have k9 := kk A hA; rw [if_pos q] at k9; exact k9) (fun q => by have k9 := kk A hA; rw [if_neg q] at k9; exact k9)) k
    next => cases hx
  · rw [decide_eq_true_eq] at hc
    obtain ⟨rfl, rfl, ht⟩ := hc
    simp only [gv_x4] at hx
    split at hx
    next => cases hx; exact gv_pure (fun p e R s m args below meth c H locs cells slots Q A X hw hA kk => lv_icmp_le X.1 X.2.1 hd ht (fun q => by have k9 := kk A hA; rw [if_pos q] at k9; exact k9) (fun q => by have k9 := kk A hA; rw [if_neg q] at k9; exact k9)) k
    next => cases hx
  · rw [Bool.and_eq_true, decide_eq_true_eq] at hc
    obtain ⟨⟨hdf, hhi, hln⟩, hall⟩ := hc
    simp only [gv_x4] at hx
    split at hx
    next => cases hx; exact gv_tsw hd hdf hhi hln hall k
    next => cases hx
  · cases hc
end GZB
end
section
/-! gh: steps that read, write and make cells -/
section GHA
def gv_ft (r : vw_C) (k : Nat) : FieldType := (parseFieldDescriptor (r.2.1 k).2.2.1).getD .int
def gv_df (t : FieldType) : gv_V := match t with
  | .object _ => gN
  | .array _ => gN
  | .long => gL 0
  | _ => gI 0
/-- a new object's fields -/
def gv_nf (c : Nat) : List gv_V := match c with
  | 0 => [gN, gI 0, gN, gN]
  | 1 => [gN, gI 0]
  | 2 => [gN, gI 0, gI 0, gI 0]
  | 3 => [gN, gN, gN, gN, gN, gN, gN, gN, gN, gI 0, gI 0, gI 0, gI 0]
  | 4 => [gN, gI 0, gN, gI 0, gN, gN, gI 0, gN, gI 0]
  | 5 => [gN, gN, gN, gI 0]
  | 6 => [gN, gN, gN, gN, gI 0]
  | 7 => [gN, gI 0]
  | 8 => [gN, gN, gN, gN]
  | 9 => [gN, gN, gN, gN, gN, gI 0]
  | 10 => [gN, gN, gN, gN, gN, gI 0]
  | 11 => [gN, gN, gI 0, gN, gI 0, gN, gI 0]
  | 12 => [gI 0, gI 0, gN, gI 0, gN, gN, gN, gN, gN, gN, gN, gN, gI 0, gI 0, gN, gN, gI 0, gI 0, gI 0, gN, gN, gN, gN, gI 0, gN, gI 0, gI 0, gI 0, gI 0, gN, gI 0, gN, gN, gN, gI 0, gI 0, gI 0, gN, gI 0, gN, gI 0, gI 0, gN, gI 0, gN, gN, gI 0, gN, gN, gI 0]
  | _ => []
def gv_okt (t : FieldType) : Bool := match t with
  | .float => false
  | .double => false
  | _ => true
def gv_clok (ci : Nat) (r : vw_C) : Prop := gv_cl[ci]? = some r ∧ (∀ w ∈ u_ws r.1 r.2.1 r.2.2, w ∈ gv_T ∧ gv_gd w = true) ∧ (∀ k, k < r.2.2 → parseFieldDescriptor (r.2.1 k).2.2.1 = some (gv_ft r k)) ∧ (∀ a, a < r.2.2 → ∀ b, b < r.2.2 → a ≠ b → (r.2.1 a).2.1 ≠ (r.2.1 b).2.1) ∧ (∀ k, k < r.2.2 → gv_okt (gv_ft r k) = true) ∧ gv_nf ci = (List.range r.2.2).map (fun k => gv_df (gv_ft r k))
theorem gv_ws {G : gv_G} {s : State} (h : gv_K G s) {L : List Jvm.Cond} (hL : ∀ w ∈ L, w ∈ gv_T ∧ gv_gd w = true) (args : Array Value) : ∀ w ∈ L, w.before args s = true := by
  intro w hw
  obtain ⟨h1, h2⟩ := hL w hw
  obtain ⟨i, hi⟩ := List.getElem?_of_mem h1
  exact h.use i hi h2 args
/-- what a field of that type may get -/
def gv_fit (t : FieldType) (v : gv_V) : Bool := match t, v with
  | .int, Sum.inl _ => true
  | .boolean, Sum.inl x => decide (x = 0 ∨ x = 1)
  | .object _, Sum.inr (Sum.inr _) => true
  | .array _, Sum.inr (Sum.inr _) => true
  | _, _ => false
theorem gv_fit_ok {t : FieldType} {v : gv_V} (z : Nat → Nat) (h : gv_fit t v = true) : narrow t (gv_v z v) = gv_v z v ∧ fits t (gv_v z v) = true := by
  unfold gv_fit at h
  split at h
  next x => exact ⟨rfl, rfl⟩
  next x =>
    rw [decide_eq_true_eq] at h
    rcases h with h | h <;> subst h <;> exact ⟨rfl, rfl⟩
  next n x => cases x <;> exact ⟨rfl, rfl⟩
  next n x => cases x <;> exact ⟨rfl, rfl⟩
  next => cases h
/-- reading -/
def gv_x5 (J : gv_J) (ls : gv_L) (st : List gv_V) (h : gv_H) : Option gv_S := match J with
  | (70, _, _, ci, j, _, nx, _) => match st with
    | Sum.inr (Sum.inr (some a)) :: st => match h.2.2 a with
      | some (Sum.inr (cj, fs)) => if cj = ci then match fs[j]? with
          | some v => some (nx, ls, v :: st, h)
          | none => none
        else none
      | _ => none
    | _ => none
  | (71, _, _, _, _, _, nx, _) => match st with
    | Sum.inr (Sum.inr (some a)) :: st => match h.2.2 a with
      | some (Sum.inl (t, n, _)) => if t < 4 then some (nx, ls, gI (Int32.ofNat n) :: st, h) else none
      | _ => none
    | _ => none
  | (72, _, _, _, _, _, nx, _) => match st with
    | Sum.inl i :: Sum.inr (Sum.inr (some a)) :: st => match h.2.2 a with
      | some (Sum.inl (0, n, Sum.inl f)) => if i < 0 ∨ n ≤ i.toNatClampNeg then none else some (nx, ls, gI (f i.toNatClampNeg) :: st, h)
      | _ => none
    | _ => none
  | (73, _, _, _, _, _, nx, _) => match st with
    | Sum.inl i :: Sum.inr (Sum.inr (some a)) :: st => match h.2.2 a with
      | some (Sum.inl (2, n, Sum.inl f)) => if i < 0 ∨ n ≤ i.toNatClampNeg then none else some (nx, ls, gI (f i.toNatClampNeg) :: st, h)
      | _ => none
    | _ => none
  | (74, _, _, _, _, _, nx, _) => match st with
    | Sum.inl i :: Sum.inr (Sum.inr (some a)) :: st => match h.2.2 a with
      | some (Sum.inl (1, n, Sum.inl f)) => if i < 0 ∨ n ≤ i.toNatClampNeg then none else some (nx, ls, gL (f i.toNatClampNeg).toInt64 :: st, h)
      | _ => none
    | _ => none
  | (75, _, _, _, _, _, nx, _) => match st with
    | Sum.inl i :: Sum.inr (Sum.inr (some a)) :: st => match h.2.2 a with
      | some (Sum.inl (3, n, Sum.inr f)) => if i < 0 ∨ n ≤ i.toNatClampNeg then none else some (nx, ls, Sum.inr (Sum.inr (f i.toNatClampNeg)) :: st, h)
      | _ => none
    | _ => none
  | _ => none
def gv_ck5 (own : String) (pc : Nat) (J : gv_J) (i : Instr) (n : Nat) : Bool := match J, i with
  | (70, _, _, ci, j, wp, nx, _), .getfield x => match gv_cl[ci]? with
    | some r => decide (n = 3 ∧ nx = pc + 3 ∧ j < r.2.2) && gv_tw wp (.fieldLink own x (r.2.1 j).1 (r.2.1 j).2.1 (r.2.1 j).2.2.1)
    | none => false
  | (71, _, _, _, _, _, nx, _), .arraylength => decide (n = 1 ∧ nx = pc + 1)
  | (72, _, _, _, _, _, nx, _), .iaload => decide (n = 1 ∧ nx = pc + 1)
  | (73, _, _, _, _, _, nx, _), .baload => decide (n = 1 ∧ nx = pc + 1)
  | (74, _, _, _, _, _, nx, _), .laload => decide (n = 1 ∧ nx = pc + 1)
  | (75, _, _, _, _, _, nx, _), .aaload => decide (n = 1 ∧ nx = pc + 1)
  | _, _ => false
variable {G : gv_G} {y : gv_M} {d : Nat} {r : gv_O} {hf : gv_H} {pc : Nat} {J : gv_J} {ls : gv_L} {st : List gv_V} {h : gv_H} {S : gv_S} {i : Instr} {n : Nat}
theorem gv_s5 (hok : ∀ ci r, gv_cl[ci]? = some r → gv_clok ci r) (hd : decode y.2.1 pc = .ok (i, n)) (hc : gv_ck5 y.1.cls pc J i n = true) (hx : gv_x5 J ls st h = some S) (k : gv_go G y d r hf S.1 S.2.1 S.2.2.1 S.2.2.2) : gv_go G y d r hf pc ls st h := by
  unfold gv_ck5 at hc
  split at hc
  · split at hc
    next rr hr =>
      rw [Bool.and_eq_true, decide_eq_true_eq] at hc
      obtain ⟨⟨rfl, rfl, hj⟩, hw9⟩ := hc
      simp only [gv_x5] at hx
      split at hx
      next a st =>
        split at hx
        next cj fs ha =>
          split at hx
          next e =>
            subst e
            split at hx
            next v hv =>
              cases hx
              obtain ⟨-, o1, o2, o3, -, -⟩ := hok _ _ hr
              refine gv_pure (fun p e R s m args below meth c H locs cells slots Q A X hw hA kk => ?_) k
              exact va_get X.1 X.2.1 (gv_ws X.2.2.2.2.1 o1 args) (fun _ q => q) X.2.2.2.1 X.2.2.2.2.1.2.1 (gv_one hw ha) 0 rfl hr _ hj (gv_tw_use X.2.2.2.2.1 hw9 args) (fun _ q => q) (by rw [List.getElem?_map, hv]; rfl) hd (kk A hA)
            next => cases hx
          next => cases hx
        next => cases hx
      next => cases hx
    next => cases hc
  · rw [decide_eq_true_eq] at hc
    obtain ⟨rfl, rfl⟩ := hc
    simp only [gv_x5] at hx
    split at hx
    next a st =>
      split at hx
      next t n9 x9 ha =>
        split at hx
        next ht =>
          cases hx
          refine gv_pure (fun p e R s m args below meth c H locs cells slots Q A X hw hA kk => ?_) k
          have hty : ∃ ty, (gv_ty G)[t]? = some (G.2.2.2.1 t, ty) := by
            unfold gv_ty
            match t, ht with
            | 0, _ => exact ⟨_, rfl⟩
            | 1, _ => exact ⟨_, rfl⟩
            | 2, _ => exact ⟨_, rfl⟩
            | 3, _ => exact ⟨_, rfl⟩
          obtain ⟨ty, hty⟩ := hty
          refine va_alen X.1 X.2.1 X.2.2.2.2.1.2.1 (gv_one hw ha) 0 t rfl hty ?_ hd (kk A hA)
          unfold gv_arr
          rcases x9 with f | f
          · dsimp only
            split <;> rfl
          · rfl
        next => cases hx
      next => cases hx
    next => cases hx
  · rw [decide_eq_true_eq] at hc
    obtain ⟨rfl, rfl⟩ := hc
    simp only [gv_x5] at hx
    split at hx
    next ix a st =>
      split at hx
      next n9 f ha =>
        split at hx
        next => cases hx
        next hin =>
          cases hx
          exact gv_pure (fun p e R s m args below meth c H locs cells slots Q A X hw hA kk => va_iald X.1 X.2.1 X.2.2.2.2.1.2.1 (gv_one hw ha) 0 0 rfl rfl hin hd (kk A hA)) k
      next => cases hx
    next => cases hx
  · rw [decide_eq_true_eq] at hc
    obtain ⟨rfl, rfl⟩ := hc
    simp only [gv_x5] at hx
    split at hx
    next ix a st =>
      split at hx
      next n9 f ha =>
        split at hx
        next => cases hx
        next hin =>
          cases hx
          exact gv_pure (fun p e R s m args below meth c H locs cells slots Q A X hw hA kk => va_zald X.1 X.2.1 X.2.2.2.2.1.2.1 (gv_one hw ha) 0 2 rfl rfl hin hd (kk A hA)) k
      next => cases hx
    next => cases hx
  · rw [decide_eq_true_eq] at hc
    obtain ⟨rfl, rfl⟩ := hc
    simp only [gv_x5] at hx
    split at hx
    next ix a st =>
      split at hx
      next n9 f ha =>
        split at hx
        next => cases hx
        next hin =>
          cases hx
          exact gv_pure (fun p e R s m args below meth c H locs cells slots Q A X hw hA kk => va_lald X.1 X.2.1 X.2.2.2.2.1.2.1 (gv_one hw ha) 0 1 rfl rfl hin hd (kk A hA)) k
      next => cases hx
    next => cases hx
  · rw [decide_eq_true_eq] at hc
    obtain ⟨rfl, rfl⟩ := hc
    simp only [gv_x5] at hx
    split at hx
    next ix a st =>
      split at hx
      next n9 f ha =>
        split at hx
        next => cases hx
        next hin =>
          cases hx
          refine gv_pure (fun p e R s m args below meth c H locs cells slots Q A X hw hA kk => va_aldq X.1 X.2.1 X.2.2.2.2.1.2.1 (gv_one hw ha) 0 3 rfl rfl hin hd ?_) k
          have k9 := kk A hA
          have e9 : gv_v G.2.1 (Sum.inr (Sum.inr (f ix.toNatClampNeg))) = va_rf ((f ix.toNatClampNeg).map G.2.1) := by
            cases f ix.toNatClampNeg <;> rfl
          rw [List.map_cons, e9] at k9
          exact k9
      next => cases hx
    next => cases hx
  · cases hc
end GHA
end
section
section GIA
/-- writing -/
def gv_x6 (J : gv_J) (ls : gv_L) (st : List gv_V) (h : gv_H) : Option gv_S := match J with
  | (76, _, _, _, _, _, nx, _) => match st with
    | Sum.inl x :: Sum.inl i :: Sum.inr (Sum.inr (some a)) :: st => match Nat.beq a 0 with
      | true => none
      | false => match h.2.2 a with
        | some (Sum.inl (0, n, Sum.inl f)) => if i < 0 ∨ n ≤ i.toNatClampNeg then none else some (nx, ls, st, gv_set h a (Sum.inl (0, n, Sum.inl (upd f i.toNatClampNeg x))))
        | _ => none
    | _ => none
  | (77, _, _, _, _, _, nx, _) => match st with
    | Sum.inl x :: Sum.inl i :: Sum.inr (Sum.inr (some a)) :: st => match Nat.beq a 0 with
      | true => none
      | false => match h.2.2 a with
        | some (Sum.inl (2, n, Sum.inl f)) => if i < 0 ∨ n ≤ i.toNatClampNeg then none else if x = 0 ∨ x = 1 then some (nx, ls, st, gv_set h a (Sum.inl (2, n, Sum.inl (upd f i.toNatClampNeg x)))) else none
        | _ => none
    | _ => none
  | (78, _, _, _, _, _, nx, _) => match st with
    | Sum.inr (Sum.inl x) :: Sum.inl i :: Sum.inr (Sum.inr (some a)) :: st => match Nat.beq a 0 with
      | true => none
      | false => match h.2.2 a with
        | some (Sum.inl (1, n, Sum.inl f)) => if i < 0 ∨ n ≤ i.toNatClampNeg then none else if x.toInt32.toInt64 = x then some (nx, ls, st, gv_set h a (Sum.inl (1, n, Sum.inl (upd f i.toNatClampNeg x.toInt32)))) else none
        | _ => none
    | _ => none
  | (79, _, _, _, _, _, nx, _) => match st with
    | Sum.inr (Sum.inr (some v)) :: Sum.inl i :: Sum.inr (Sum.inr (some a)) :: st => match Nat.beq a 0 with
      | true => none
      | false => match h.2.2 a, h.2.2 v with
        | some (Sum.inl (3, n, Sum.inr f)), some (Sum.inr (cj, _)) => if i < 0 ∨ n ≤ i.toNatClampNeg ∨ cj ≠ gv_qi then none else some (nx, ls, st, gv_set h a (Sum.inl (3, n, Sum.inr (va_up f i.toNatClampNeg (some v)))))
        | _, _ => none
    | _ => none
  | (80, _, _, ci, j, _, nx, _) => match st with
    | v :: Sum.inr (Sum.inr (some a)) :: st => match Nat.beq a 0 with
      | true => none
      | false => match h.2.2 a, gv_cl[ci]? with
        | some (Sum.inr (cj, fs)), some r => if cj = ci ∧ j < fs.length ∧ gv_fit (gv_ft r j) v = true then some (nx, ls, st, gv_set h a (Sum.inr (ci, fs.set j v))) else none
        | _, _ => none
    | _ => none
  | _ => none
def gv_ck6 (y : MethodName) (pc : Nat) (J : gv_J) (i : Instr) (n : Nat) : Bool := match J, i with
  | (76, _, _, _, _, _, nx, _), .iastore => decide (n = 1 ∧ nx = pc + 1)
  | (77, _, _, _, _, _, nx, _), .bastore => decide (n = 1 ∧ nx = pc + 1)
  | (78, _, _, _, _, _, nx, _), .lastore => decide (n = 1 ∧ nx = pc + 1)
  | (79, _, _, _, _, _, nx, _), .aastore => decide (n = 1 ∧ nx = pc + 1)
  | (80, _, _, ci, j, wp, nx, _), .putfield x => match gv_cl[ci]? with
    | some r => decide (n = 3 ∧ nx = pc + 3 ∧ j < r.2.2 ∧ ((r.2.1 j).2.2.2 = true → y.name = "<init>" ∧ (r.2.1 j).1 = y.cls)) && gv_tw wp (.fieldLink y.cls x (r.2.1 j).1 (r.2.1 j).2.1 (r.2.1 j).2.2.1)
    | none => false
  | _, _ => false
theorem gv_nz {a : Nat} (h : Nat.beq a 0 = false) : a ≠ 0 := fun e => by rw [e] at h; cases h
theorem gv_arr_set {G : gv_G} {t n : Nat} {f : Nat → Int32} {i x : Int32} (ht : t ≠ 1) : (vp_cell (G.2.2.2.1 t) (gv_arr G.2.1 t n (Sum.inl f))).setSlot i.toNatClampNeg (.int x) = vp_cell (G.2.2.2.1 t) (gv_arr G.2.1 t n (Sum.inl (upd f i.toNatClampNeg x))) := by
  unfold gv_arr
  dsimp only
  rw [if_neg ht, if_neg ht, vp_cell_i, vp_cell_i, arrV_store]
  congr 1
  funext q
  by_cases hq : q = i.toNatClampNeg
  · subst hq
    simp [updV, upd]
  · simp [updV, upd, hq]
variable {G : gv_G} {y : gv_M} {d : Nat} {r : gv_O} {hf : gv_H} {pc : Nat} {J : gv_J} {ls : gv_L} {st : List gv_V} {h : gv_H} {S : gv_S} {i : Instr} {n : Nat}
theorem gv_ain {G : gv_G} {t n : Nat} {x : gv_A} {i : Int32} (hin : ¬ (i < 0 ∨ n ≤ i.toNatClampNeg)) : ¬ (i < 0 ∨ (vp_cell (G.2.2.2.1 t) (gv_arr G.2.1 t n x)).slots.size ≤ i.toNatClampNeg) := by
  have e : (vp_cell (G.2.2.2.1 t) (gv_arr G.2.1 t n x)).slots.size = n := by
    unfold gv_arr
    rcases x with f | f
    · dsimp only
      split
      · rw [vp_cell_l, arrV_size]
      · rw [vp_cell_i, arrV_size]
    · rw [vp_cell_q, arrV_size]
  rw [e]
  exact hin
theorem gv_avm {G : gv_G} {t n : Nat} {x : gv_A} : (vp_cell (G.2.2.2.1 t) (gv_arr G.2.1 t n x)).vm = .none := by
  unfold gv_arr
  rcases x with f | f
  · dsimp only
    split
    · rw [vp_cell_l]; rfl
    · rw [vp_cell_i]; rfl
  · rw [vp_cell_q]; rfl
theorem gv_aof {G : gv_G} {s : State} {t n : Nat} {x : gv_A} {ty : FieldType} (h : ArrOfT s (G.2.2.2.1 t) ty) : s.isArrayOf (vp_cell (G.2.2.2.1 t) (gv_arr G.2.1 t n x)) ty := by
  unfold gv_arr
  rcases x with f | f
  · dsimp only
    split
    · rw [vp_cell_l]; exact h _ _
    · rw [vp_cell_i]; exact h _ _
  · rw [vp_cell_q]; exact h _ _
theorem gv_putf {ci j wp x a : Nat} {rr : vw_C} {fs : List gv_V} {v : gv_V} (hok : ∀ ci r, gv_cl[ci]? = some r → gv_clok ci r) (h0 : a ≠ 0) (hr : gv_cl[ci]? = some rr) (hj : j < rr.2.2) (hfin : (rr.2.1 j).2.2.2 = true → y.1.name = "<init>" ∧ (rr.2.1 j).1 = y.1.cls)
    (hw9 : gv_tw wp (.fieldLink y.1.cls x (rr.2.1 j).1 (rr.2.1 j).2.1 (rr.2.1 j).2.2.1) = true) (hd : decode y.2.1 pc = .ok (.putfield x, 3)) (ha : h.2.2 a = some (Sum.inr (ci, fs))) (hl : j < fs.length) (hfit : gv_fit (gv_ft rr j) v = true)
    (k : gv_go G y d r hf (pc + 3) ls st (gv_set h a (Sum.inr (ci, fs.set j v)))) : gv_go G y d r hf pc ls (v :: gR a :: st) h := by
  obtain ⟨-, o1, o2, o3, -, -⟩ := hok _ _ hr
  refine gv_wr h0 (fun p e R s m args below meth c H locs cells slots Q A X hw hA kk => ?_) k
  have hK := X.2.2.2.2.1.2.1
  have hts := gv_ws X.2.2.2.2.1 o1 args
  have hap := va_apart (own := "") hts (fun _ q => q) (gv_ft rr) o2 o3 hK hr
  obtain ⟨r8, h1, cell, q1, q2, q3, q4⟩ := (hw.2.2.2 a _ ha).2
  have hrr : r8 = rr := Option.some.inj (h1.symm.trans hr)
  subst hrr
  obtain ⟨hS, hfc, kC, hkC, hkind⟩ := hK.1 _ _ hr
  obtain ⟨cf, kf, fi, f, hi, hsl⟩ := hS j hj
  have hlay := hts _ (u_in_lay hj)
  have hst := (u_facts hfc hkC (u_lays hts (fun _ q => q) hj) hi).1
  obtain ⟨hn1, hn2⟩ := gv_fit_ok G.2.1 hfit
  have hend : ∀ H1 : Heap, H1[G.2.1 a]? = some (cell.setSlot (G.2.2.1.2 ci j) (gv_v G.2.1 v)) → H1.size = H.size → (∀ q : Nat, q ≠ G.2.1 a → H1[q]? = H[q]?) → gv_w G (gv_set h a (Sum.inr (ci, fs.set j v))) H1 := by
    intro H1 e1 z1 oq
    refine hw.set h0 ha ⟨_, hr, t_OB.to (V := updV (vp_V (fs.map (gv_v G.2.1))) j (gv_v G.2.1 v)) ⟨_, e1, q2, q3, t_set q4 hap hj _⟩ (fun b _ => ?_)⟩ z1 oq
    rw [vp_updV_set (by rw [List.length_map]; exact hl)]
    show _ = vp_V ((fs.set j v).map (gv_v G.2.1)) b
    rw [List.map_set]
  unfold u_lay at hlay
  by_cases hF : (r8.2.1 j).2.2.2 = true
  · rw [if_pos hF] at hlay
    obtain ⟨hin2, hdecl⟩ := hfin hF
    have hcf : m.cls = cf := by
      obtain ⟨_, _, c', _, _, _, -, -, hf', -, -, -, hown2, -⟩ := Cond.laysFinal_spec hlay
      have e1 : c' = cf := by have := hi.symm.trans hf'; simp at this; exact this.1.symm
      rw [hdecl] at hown2
      rw [← e1]; exact Option.some.inj (X.2.2.2.1.symm.trans hown2)
    have h6 := u_fits hfc hkC hkind (Or.inr hlay) hi (o2 j hj) hn1 hn2
    refine W.putFinK X.1 X.2.1 X.2.2.2.1 (gv_tw_use X.2.2.2.2.1 hw9 args) hi hst hcf (X.2.2.2.2.2.2.2.1.trans hin2) (by rw [q2]; exact h6) q1 q3 (by rw [hsl]; exact k2_hasslot (q4 j hj)) rfl rfl hd fun H1 e1 z1 oq => ?_
    rw [hsl] at e1 ⊢
    exact kk H1 _ (hend H1 e1 z1 oq)
  · rw [if_neg hF] at hlay
    have h6 := u_store hfc hkC hkind hlay hi (o2 j hj) hn1 hn2
    refine W.putK X.1 X.2.1 (f := f) ⟨X.2.2.2.1, gv_tw_use X.2.2.2.2.1 hw9 args, ⟨_, _, _, hi⟩, hst⟩ (by rw [q2]; exact h6) q1 q3 (by rw [hsl]; exact k2_hasslot (q4 j hj)) rfl rfl hd fun H1 e1 z1 oq => ?_
    rw [hsl] at e1 ⊢
    exact kk H1 _ (hend H1 e1 z1 oq)
theorem gv_s6 (hok : ∀ ci r, gv_cl[ci]? = some r → gv_clok ci r) (hqi : ∃ r, gv_cl[gv_qi]? = some r ∧ r.1 = gv_qc) (hd : decode y.2.1 pc = .ok (i, n)) (hc : gv_ck6 y.1 pc J i n = true) (hx : gv_x6 J ls st h = some S) (k : gv_go G y d r hf S.1 S.2.1 S.2.2.1 S.2.2.2) : gv_go G y d r hf pc ls st h := by
  unfold gv_ck6 at hc
  split at hc
  · rw [decide_eq_true_eq] at hc
    obtain ⟨rfl, rfl⟩ := hc
    simp only [gv_x6] at hx
    split at hx
    next x ix a st =>
      split at hx
      next => cases hx
      next h0 =>
       have h0 := gv_nz h0
       split at hx
       next n9 f ha =>
        split at hx
        next => cases hx
        next hin =>
          cases hx
          refine gv_wr h0 (fun p e R s m args below meth c H locs cells slots Q A X hw hA kk => ?_) k
          have hcell : H[G.2.1 a]? = some (vp_cell (G.2.2.2.1 0) (gv_arr G.2.1 0 n9 (Sum.inl f))) := (hw.2.2.2 a _ ha).2
          refine W.iast X.1 X.2.1 hcell (gv_aof (X.2.2.2.2.1.2.1.2 0 _ rfl).1) (by rw [gv_avm]; exact fun q => by cases q) (gv_ain hin) rfl rfl hd fun H1 e1 z1 oq => kk H1 _ (hw.set h0 ha ?_ z1 oq)
          show H1[G.2.1 a]? = some (vp_cell (G.2.2.2.1 0) (gv_arr G.2.1 0 n9 (Sum.inl (upd f ix.toNatClampNeg x))))
          rw [e1, gv_arr_set (by decide)]
       next => cases hx
    next => cases hx
  · rw [decide_eq_true_eq] at hc
    obtain ⟨rfl, rfl⟩ := hc
    simp only [gv_x6] at hx
    split at hx
    next x ix a st =>
      split at hx
      next => cases hx
      next h0 =>
       have h0 := gv_nz h0
       split at hx
       next n9 f ha =>
        split at hx
        next => cases hx
        next hin =>
          split at hx
          next h01 =>
            cases hx
            refine gv_wr h0 (fun p e R s m args below meth c H locs cells slots Q A X hw hA kk => ?_) k
            have hcell : H[G.2.1 a]? = some (vp_cell (G.2.2.2.1 2) (gv_arr G.2.1 2 n9 (Sum.inl f))) := (hw.2.2.2 a _ ha).2
            refine W.zast X.1 X.2.1 hcell (gv_aof (X.2.2.2.2.1.2.1.2 2 _ rfl).1) (by rw [gv_avm]; exact fun q => by cases q) (gv_ain hin) rfl rfl hd fun H1 e1 z1 oq => kk H1 _ (hw.set h0 ha ?_ z1 oq)
            show H1[G.2.1 a]? = some (vp_cell (G.2.2.2.1 2) (gv_arr G.2.1 2 n9 (Sum.inl (upd f ix.toNatClampNeg x))))
            have hnar : narrow .boolean (.int x) = .int x := by
              rcases h01 with q | q <;> subst q <;> rfl
            rw [e1, hnar, gv_arr_set (by decide)]
          next => cases hx
       next => cases hx
    next => cases hx
  · rw [decide_eq_true_eq] at hc
    obtain ⟨rfl, rfl⟩ := hc
    simp only [gv_x6] at hx
    split at hx
    next x ix a st =>
      split at hx
      next => cases hx
      next h0 =>
       have h0 := gv_nz h0
       split at hx
       next n9 f ha =>
        split at hx
        next => cases hx
        next hin =>
          split at hx
          next h01 =>
            cases hx
            refine gv_wr h0 (fun p e R s m args below meth c H locs cells slots Q A X hw hA kk => ?_) k
            have hcell : H[G.2.1 a]? = some (vp_cell (G.2.2.2.1 1) (gv_arr G.2.1 1 n9 (Sum.inl f))) := (hw.2.2.2 a _ ha).2
            refine W.last X.1 X.2.1 hcell (gv_aof (X.2.2.2.2.1.2.1.2 1 _ rfl).1) (by rw [gv_avm]; exact fun q => by cases q) (gv_ain hin) rfl rfl hd fun H1 e1 z1 oq => kk H1 _ (hw.set h0 ha ?_ z1 oq)
            show H1[G.2.1 a]? = some (vp_cell (G.2.2.2.1 1) (gv_arr G.2.1 1 n9 (Sum.inl (upd f ix.toNatClampNeg x.toInt32))))
            rw [e1]
            unfold gv_arr
            dsimp only
            rw [if_pos rfl, if_pos rfl, vp_cell_l, vp_cell_l, arrV_store]
            congr 2
            funext q
            by_cases hq : q = ix.toNatClampNeg
            · subst hq
              simp [updV, upd, h01]
            · simp [updV, upd, hq]
          next => cases hx
       next => cases hx
    next => cases hx
  · rw [decide_eq_true_eq] at hc
    obtain ⟨rfl, rfl⟩ := hc
    simp only [gv_x6] at hx
    split at hx
    next v ix a st =>
      split at hx
      next => cases hx
      next h0 =>
       have h0 := gv_nz h0
       split at hx
       next n9 f cj fs ha hv =>
        split at hx
        next => cases hx
        next hin =>
          cases hx
          have hin1 : ¬ (ix < 0 ∨ n9 ≤ ix.toNatClampNeg) := fun q => hin (q.elim Or.inl (fun q => Or.inr (Or.inl q)))
          have hcj : cj = gv_qi := Classical.byContradiction (fun q => hin (Or.inr (Or.inr q)))
          subst hcj
          refine gv_wr h0 (fun p e R s m args below meth c H locs cells slots Q A X hw hA kk => ?_) k
          have hcell : H[G.2.1 a]? = some (vp_cell (G.2.2.2.1 3) (gv_arr G.2.1 3 n9 (Sum.inr f))) := (hw.2.2.2 a _ ha).2
          obtain ⟨r', hr', cellV, g1, g2, g3, -⟩ := (hw.2.2.2 v _ hv).2
          obtain ⟨rq, hq1, hq2⟩ := hqi
          have hcls := (X.2.2.2.2.1.2.1.1 gv_qi rq hq1).2
          rw [hq2] at hcls
          obtain ⟨kA, comp, k1, k2, k3, -⟩ := (X.2.2.2.2.1.2.1.2 3 _ rfl).2
          have hcomp : comp = G.2.2.1.1 gv_qi := Option.some.inj (k3.symm.trans hcls.1)
          subst hcomp
          obtain ⟨kC, hkC, -⟩ := hcls.2
          refine W.aast X.1 X.2.1 hcell (fun q hh => by rw [gv_avm] at hh; cases hh) (fun hh => by rw [gv_avm] at hh; cases hh) k1 k2 rfl hkC ⟨fun q => hin1 (Or.inl q), Nat.not_le.mp (fun q => gv_ain (G := G) (t := 3) (x := Sum.inr f) hin1 (Or.inr q))⟩ g1 (fun q hh => by rw [g3] at hh; cases hh) (by rw [g2]; exact hkC) (by rw [g2]; exact va_assign hcls) rfl rfl hd fun H1 e1 z1 oq => kk H1 _ (hw.set h0 ha ?_ z1 oq)
          show H1[G.2.1 a]? = some (vp_cell (G.2.2.2.1 3) (gv_arr G.2.1 3 n9 (Sum.inr (va_up f ix.toNatClampNeg (some v)))))
          rw [e1]
          unfold gv_arr
          dsimp only
          rw [vp_cell_q, vp_cell_q, arrV_store]
          congr 2
          funext q
          by_cases hq : q = ix.toNatClampNeg
          · subst hq
            simp [updV, va_up, va_rf]
          · simp [updV, va_up, hq]
       next => cases hx
    next => cases hx
  · split at hc
    next rr hr =>
      rw [Bool.and_eq_true, decide_eq_true_eq] at hc
      obtain ⟨⟨rfl, rfl, hj, hfin⟩, hw9⟩ := hc
      simp only [gv_x6] at hx
      split at hx
      next v a st =>
        split at hx
        next => cases hx
        next h0 =>
         have h0 := gv_nz h0
         rw [hr] at hx
         split at hx
         next cj fs r2 ha hr2 =>
          cases hr2
          split at hx
          next hq9 =>
            obtain ⟨rfl, hl, hfit⟩ := hq9
            cases hx
            exact gv_putf hok h0 hr hj hfin hw9 hd ha hl hfit k
          next => cases hx
         next => cases hx
      next => cases hx
    next => cases hc
  · cases hc
end GIA
end
section
section GJA
def gv_at (t : Nat) : ArrayType := match t with
  | 0 => .int
  | 1 => .long
  | _ => .boolean
/-- making -/
def gv_x7 (J : gv_J) (ls : gv_L) (st : List gv_V) (h : gv_H) : Option gv_S := match J with
  | (81, _, _, ci, _, _, nx, _) => match gv_cl[ci]? with
    | some r => some (nx, ls, gR h.1 :: st, gv_push h r.2.2 (Sum.inr (ci, gv_nf ci)))
    | none => none
  | (82, _, _, t, _, _, nx, _) => match st with
    | Sum.inl n :: st => if n < 0 ∨ 100000 < n.toNatClampNeg ∨ 2 < t then none else some (nx, ls, gR h.1 :: st, gv_push h n.toNatClampNeg (Sum.inl (t, n.toNatClampNeg, Sum.inl (fun _ => 0))))
    | _ => none
  | (83, _, _, _, _, _, nx, _) => match st with
    | Sum.inl n :: st => if n < 0 ∨ 100000 < n.toNatClampNeg then none else some (nx, ls, gR h.1 :: st, gv_push h n.toNatClampNeg (Sum.inl (3, n.toNatClampNeg, Sum.inr (fun _ => none))))
    | _ => none
  | _ => none
def gv_ck7 (own : String) (pc : Nat) (J : gv_J) (i : Instr) (n : Nat) : Bool := match J, i with
  | (81, _, _, ci, _, wp, nx, _), .new x => match gv_cl[ci]? with
    | some r => decide (n = 3 ∧ nx = pc + 3) && gv_tw wp (.classLink own x r.1) && gv_tw (gv_cw ci).1 (.instantiable r.1 r.2.2) && gv_tw (gv_cw ci).2 (.initialized r.1)
    | none => false
  | (82, _, _, t, _, wp, nx, _), .newarray aty => decide (n = 2 ∧ nx = pc + 2 ∧ aty = gv_at t) && gv_tw wp (.arrayClass (newarray.typeOf aty))
  | (83, _, _, _, b, wp, nx, _), .anewarray x => decide (n = 3 ∧ nx = pc + 3) && gv_tw wp (.classLink own x gv_qc) && gv_tw b (.arrayOver (.object gv_qc))
  | _, _ => false
variable {G : gv_G} {y : gv_M} {d : Nat} {r : gv_O} {hf : gv_H} {pc : Nat} {J : gv_J} {ls : gv_L} {st : List gv_V} {h : gv_H} {S : gv_S} {i : Instr} {n : Nat}
theorem gv_new {ci x wp w1 w2 : Nat} {rr : vw_C} (hok : ∀ ci r, gv_cl[ci]? = some r → gv_clok ci r) (hr : gv_cl[ci]? = some rr) (h1 : gv_tw wp (.classLink y.1.cls x rr.1) = true) (h2 : gv_tw w1 (.instantiable rr.1 rr.2.2) = true) (h3 : gv_tw w2 (.initialized rr.1) = true)
    (hd : decode y.2.1 pc = .ok (.new x, 3)) (k : gv_go G y d r hf (pc + 3) ls (gR h.1 :: st) (gv_push h rr.2.2 (Sum.inr (ci, gv_nf ci)))) : gv_go G y d r hf pc ls st h := by
  obtain ⟨-, o1, o2, o3, o4, o5⟩ := hok _ _ hr
  rw [o5] at k
  refine gv_mk (fun p e R s m args below meth c H locs cells slots Q A X hw hA hcells hslots kk => ?_) k
  have hK := X.2.2.2.2.1
  have hKn := hK.2.1.1 ci _ hr
  refine W.newcK X.1 X.2.1 X.2.2.2.1 (gv_tw_use hK h1 args) (gv_tw_use hK h2 args) (gv_tw_use hK h3 args) rfl hd hcells hslots hKn.2.1 hw.2.1 fun H1 kC hkC e1 z1 oq => kk H1 (hw.push ?_ (by rw [z1, hw.2.1]) (fun q hq => oq q (by rw [← hw.2.1]; exact hq)))
  refine ⟨_, hr, (u_born (gv_ft rr) (gv_ws hK o1 args) (fun _ q => q) hKn hkC e1 o2).to (fun j hj => ?_)⟩
  show defaultValue (gv_ft rr j) = vp_V (((List.range rr.2.2).map (fun k => gv_df (gv_ft rr k))).map (gv_v G.2.1)) j
  have e9 : ((((List.range rr.2.2).map (fun k => gv_df (gv_ft rr k))).map (gv_v G.2.1))[j]?) = some (gv_v G.2.1 (gv_df (gv_ft rr j))) := by
    rw [List.getElem?_map, List.getElem?_map, List.getElem?_range hj]
    rfl
  unfold vp_V
  rw [List.getD_eq_getElem?_getD, e9]
  show defaultValue (gv_ft rr j) = gv_v G.2.1 (gv_df (gv_ft rr j))
  have h9 := o4 j hj
  revert h9
  generalize gv_ft rr j = t9
  intro h9
  cases t9 <;> first | rfl | cases h9
theorem gv_newa {t wp : Nat} {n : Int32} (h1 : gv_tw wp (.arrayClass (newarray.typeOf (gv_at t))) = true) (hn : ¬ (n < 0 ∨ 100000 < n.toNatClampNeg ∨ 2 < t))
    (hd : decode y.2.1 pc = .ok (.newarray (gv_at t), 2)) (k : gv_go G y d r hf (pc + 2) ls (gR h.1 :: st) (gv_push h n.toNatClampNeg (Sum.inl (t, n.toNatClampNeg, Sum.inl (fun _ => 0))))) : gv_go G y d r hf pc ls (gI n :: st) h := by
  refine gv_mk (fun p e R s m args below meth c H locs cells slots Q A X hw hA hcells hslots kk => ?_) k
  have hK := X.2.2.2.2.1
  have hn0 : ¬ n < 0 := fun q => hn (Or.inl q)
  have hn1 : ¬ 100000 < n.toNatClampNeg := fun q => hn (Or.inr (Or.inl q))
  have ht : ¬ 2 < t := fun q => hn (Or.inr (Or.inr q))
  have hby : n.toNatClampNeg * componentBytes (newarray.typeOf (gv_at t)) ≤ 536870912 := by
    have : componentBytes (newarray.typeOf (gv_at t)) ≤ 8 := by
      rcases (show t = 0 ∨ t = 1 ∨ t = 2 by omega) with q | q | q <;> subst q <;> decide
    have h9 := Nat.mul_le_mul (Nat.not_lt.mp hn1) this
    omega
  refine va_newaK X.1 X.2.1 (gv_tw_use hK h1 args) rfl hd rfl hn0 rfl hby hcells hslots hw.2.1 fun H1 cA e1 z1 oq hAr hNm => kk H1 (hw.push ?_ (by rw [z1, hw.2.1]) (fun q hq => oq q (by rw [← hw.2.1]; exact hq)))
  show H1[G.2.1 h.1]? = some (vp_cell (G.2.2.2.1 t) (gv_arr G.2.1 t n.toNatClampNeg (Sum.inl (fun _ => 0))))
  have hcA : cA = G.2.2.2.1 t := by
    rcases (show t = 0 ∨ t = 1 ∨ t = 2 by omega) with q | q | q <;> subst q
    · exact Option.some.inj (hNm.symm.trans (hK.2.1.2 0 _ rfl).2)
    · exact Option.some.inj (hNm.symm.trans (hK.2.1.2 1 _ rfl).2)
    · exact Option.some.inj (hNm.symm.trans (hK.2.1.2 2 _ rfl).2)
  rw [e1, hcA]
  rcases (show t = 0 ∨ t = 1 ∨ t = 2 by omega) with q | q | q <;> subst q <;> rfl
theorem gv_anew {wp w1 x : Nat} {n : Int32} (h1 : gv_tw wp (.classLink y.1.cls x gv_qc) = true) (h2 : gv_tw w1 (.arrayOver (.object gv_qc)) = true) (hn : ¬ (n < 0 ∨ 100000 < n.toNatClampNeg))
    (hd : decode y.2.1 pc = .ok (.anewarray x, 3)) (k : gv_go G y d r hf (pc + 3) ls (gR h.1 :: st) (gv_push h n.toNatClampNeg (Sum.inl (3, n.toNatClampNeg, Sum.inr (fun _ => none))))) : gv_go G y d r hf pc ls (gI n :: st) h := by
  refine gv_mk (fun p e R s m args below meth c H locs cells slots Q A X hw hA hcells hslots kk => ?_) k
  have hK := X.2.2.2.2.1
  have hn0 : ¬ n < 0 := fun q => hn (Or.inl q)
  have hn1 : ¬ 100000 < n.toNatClampNeg := fun q => hn (Or.inr q)
  refine W.anew X.1 X.2.1 X.2.2.2.1 (gv_tw_use hK h1 args) (gv_tw_use hK h2 args) rfl hd rfl hn0 (by omega) hcells hslots fun cA kA comp f1 f2 f3 f4 => ?_
  generalize hH1 : H.push ({ cls := cA, slots := Array.replicate n.toNatClampNeg .null, vm := .none } : Cell) = H1
  have z1 : H1.size = H.size + 1 := by rw [← hH1, Array.size_push]
  have e1 : H1[H.size]? = some (arrV cA n.toNatClampNeg (fun _ => .null)) := by rw [← hH1, Array.getElem?_push_size, ← arrV_new]
  have o1 : ∀ q : Nat, q < H.size → H1[q]? = H[q]? := fun q hq => by rw [← hH1, Array.getElem?_push, if_neg (Nat.ne_of_lt hq)]
  have k9 := kk H1 (hw.push (by
    show H1[G.2.1 h.1]? = some (vp_cell (G.2.2.2.1 3) _)
    obtain ⟨kA2, comp2, -, -, -, b4⟩ := (hK.2.1.2 3 _ rfl).2
    have hcA : cA = G.2.2.2.1 3 := Option.some.inj (f1.symm.trans b4)
    rw [← hw.2.1, e1, hcA]
    rfl) z1 o1)
  rw [hw.2.1]
  exact k9
theorem gv_s7 (hok : ∀ ci r, gv_cl[ci]? = some r → gv_clok ci r) (hd : decode y.2.1 pc = .ok (i, n)) (hc : gv_ck7 y.1.cls pc J i n = true) (hx : gv_x7 J ls st h = some S) (k : gv_go G y d r hf S.1 S.2.1 S.2.2.1 S.2.2.2) : gv_go G y d r hf pc ls st h := by
  unfold gv_ck7 at hc
  split at hc
  · split at hc
    next rr hr =>
      rw [Bool.and_eq_true, Bool.and_eq_true, Bool.and_eq_true, decide_eq_true_eq] at hc
      obtain ⟨⟨⟨⟨rfl, rfl⟩, h1⟩, h2⟩, h3⟩ := hc
      simp only [gv_x7] at hx
      rw [hr] at hx
      cases hx
      exact gv_new hok hr h1 h2 h3 hd k
    next => cases hc
  · rw [Bool.and_eq_true, decide_eq_true_eq] at hc
    obtain ⟨⟨rfl, rfl, rfl⟩, h1⟩ := hc
    simp only [gv_x7] at hx
    split at hx
    next =>
      split at hx
      next => cases hx
      next hn => cases hx; exact gv_newa h1 hn hd k
    next => cases hx
  · rw [Bool.and_eq_true, Bool.and_eq_true, decide_eq_true_eq] at hc
    obtain ⟨⟨⟨rfl, rfl⟩, h1⟩, h2⟩ := hc
    simp only [gv_x7] at hx
    split at hx
    next =>
      split at hx
      next => cases hx
      next hn => cases hx; exact gv_anew h1 h2 hn hd k
    next => cases hx
  · cases hc
end GJA
end
section
/-! gk: calls, returns, and whole runs of steps -/
section GKA
def gv_cs (st : List gv_V) : Nat := match st with
  | [] => 0
  | v :: l => (if gv_isL (some (some v)) then 2 else 1) + gv_cs l
theorem gv_cs_sum (z : Nat → Nat) : ∀ st : List gv_V, ((st.map (gv_v z)).map fun v => v.category).sum = gv_cs st
  | [] => rfl
  | v :: l => by
    have ih := gv_cs_sum z l
    simp only [List.map_cons, List.sum_cons, gv_cs]
    rw [ih]
    congr 1
    by_cases e : gv_isL (some (some v)) = true
    · rw [if_pos e]; exact gv_cat.mpr e
    · rw [if_neg e]; exact gv_c1 e
theorem gv_cs_len (z : Nat → Nat) : ∀ st : List gv_V, (lg_sl (st.map (gv_v z))).length = gv_cs st
  | [] => rfl
  | v :: l => by
    have ih := gv_cs_len z l
    have e0 : lg_sl ((v :: l).map (gv_v z)) = (if (gv_v z v).category = 2 then [.val (gv_v z v), .second] else [.val (gv_v z v)]) ++ lg_sl (l.map (gv_v z)) := rfl
    rw [e0, List.length_append, ih]
    simp only [gv_cs]
    congr 1
    by_cases e : gv_isL (some (some v)) = true
    · rw [if_pos e, if_pos (gv_cat.mpr e)]; rfl
    · rw [if_neg e, if_neg (fun q => e (gv_cat.mp q))]; rfl
def gv_Pc (G : gv_G) (args : List gv_V) (h : gv_H) : Array Value → State → Prop := fun v U => v = (args.map (gv_v G.2.1)).toArray ∧ gv_K G U ∧ gv_w G h U.heap
theorem gv_blind {G : gv_G} {args : List gv_V} {h : gv_H} : FrameBlind (gv_Pc G args h) := fun _ U g mk q => ⟨q.1, gv_K.same (s := U) rfl q.2.1, q.2.2⟩
/-- the word of a method's code -/
def gv_cwd (M : gv_M) : Jvm.Cond := match M.2.2.2.2.2.2.2.2.2.2 with
  | [] => .code M.1 M.2.1 M.2.2.1 M.2.2.2.1
  | q :: l => .codeWith M.1 M.2.1 M.2.2.1 M.2.2.2.1 (q :: l)
theorem gv_cwd_spec {M : gv_M} {args : Array Value} {s : State} (h : (gv_cwd M).before args s = true) :
    ∃ m meth c, s.methodNamed? M.1 = some m ∧ s.vm.method? m = some meth ∧ meth.code = some c ∧ c.code = M.2.1 ∧ c.maxLocals = M.2.2.1 ∧ c.exceptionTable.toList.map (fun h => (h.startPc, h.endPc, h.handlerPc, h.catchType)) = M.2.2.2.2.2.2.2.2.2.2 ∧ meth.sig.returnType = M.2.2.2.1 ∧ meth.locks = false ∧ parseMethodDescriptor M.1.desc = some meth.sig := by
  unfold gv_cwd at h
  split at h
  next e =>
    obtain ⟨m, hn⟩ := Cond.code_named h
    obtain ⟨meth, c, h1, h2, h3, h4, h5, h6, h7, h8⟩ := Cond.code_spec hn h
    refine ⟨m, meth, c, hn, h1, h2, h3, h4, ?_, h5, h6, h8⟩
    rw [e, Array.isEmpty_iff.mp h7]
    rfl
  next q l e =>
    obtain ⟨m, meth, c, hn, h1, h2, h3, h4, h5, h6, h7, h8⟩ := Cond.codeWith_spec h
    exact ⟨m, meth, c, hn, h1, h2, h3, h4, by rw [e]; exact h5, h6, h7, h8⟩
/-- a call of the method: it answers r, the picture is hf then -/
def gv_ev (G : gv_G) (d : Nat) (M : gv_M) (args : List gv_V) (h : gv_H) (r : gv_O) (hf : gv_H) : Prop :=
  (h.2.1.1 ≤ hf.2.1.1 ∧ h.2.1.2 ≤ hf.2.1.2) ∧ match r with
  | .inl v => Met G.1 M.1 [gv_cwd M] (gv_room d (hf.2.1.1 - h.2.1.1) (hf.2.1.2 - h.2.1.2)) (gv_Pc G args h) (gv_Qv G v hf) (hf.2.1.1 - h.2.1.1) (hf.2.1.2 - h.2.1.2) (gv_fr G)
  | .inr (.inl E) => MetFree G.1 M.1 (headSpec [gv_cwd M] (gv_room d (hf.2.1.1 - h.2.1.1) (hf.2.1.2 - h.2.1.2))) (gv_Pc G args h) (fun _ _ _ _ _ => True) (fun _ st o t => ∃ q, o = .threw q ∧ gx_T G E hf st q t (hf.2.1.1 - h.2.1.1) (hf.2.1.2 - h.2.1.2))
  | .inr (.inr none) => False
  | .inr (.inr (some v)) => Met G.1 M.1 [gv_cwd M] (gv_room d (hf.2.1.1 - h.2.1.1) (hf.2.1.2 - h.2.1.2)) (gv_Pc G args h) (gv_Ql G v hf) (hf.2.1.1 - h.2.1.1) (hf.2.1.2 - h.2.1.2) (gv_fr G)
variable {G : gv_G} {y M : gv_M} {d : Nat} {r : gv_O} {hf h h1 : gv_H} {pc : Nat} {ls : gv_L} {st args : List gv_V}
theorem gv_enter (hp : plainName M.1.cls = true) (hcs : gv_cs args ≤ M.2.2.1) (hls : ∀ (i : Nat) (v : gv_V), ls[i]? = some (some v) → (gv_ent args)[i]? = some (some v)) (hr : r ≠ .inr (.inr none)) (k : gv_go G M d r hf 0 ls [] h) : gv_ev G d M args h r hf := by
  have his : ∀ (rm : Room) (args9 : Array Value) (s : State) (m : MethodId), (headSpec [gv_cwd M] rm).pre.before args9 s = true → s.methodNamed? M.1 = some m → ∃ meth c, s.vm.method? m = some meth ∧ meth.code = some c ∧ c.code = M.2.1 ∧ c.maxLocals = M.2.2.1 ∧ meth.sig.returnType = M.2.2.2.1 ∧ meth.locks = false := by
    intro rm args9 s m hw hn
    obtain ⟨m', meth, c, h1, h2, h3, h4, h5, h6, h7, h8, h9⟩ := gv_cwd_spec (atoms_spec (ws := [gv_cwd M]) hw _ List.mem_cons_self)
    cases hn.symm.trans h1
    exact ⟨meth, c, h2, h3, h4, h5, h7, h8⟩
  have body : ∀ (p : Program) (e : Env) (s : State) (m : MethodId) (args9 : Array Value) (below : List Frame) (meth : Method) (c : Code) (s₁ : State), BodyLoose p G.1 M.1 (headSpec [gv_cwd M] (gv_room d (hf.2.1.1 - h.2.1.1) (hf.2.1.2 - h.2.1.2))) M.2.1 M.2.2.1 M.2.2.2.1 e s m args9 below meth c s₁ → c.maxLocals = M.2.2.1 → gv_Pc G args h args9 s →
      ∃ t, Steps p.tables e below (s₁.setTop (entryFrame m args9 M.2.2.1)) t ∧ gv_fin G r hf below args9 s (hf.2.1.1 - h.2.1.1) (hf.2.1.2 - h.2.1.2) t := by
    intro p e s m args9 below meth c s₁ B hml hv
    obtain ⟨rfl, hK, hw⟩ := hv
    have hl := lv_entry (args.map (gv_v G.2.1)) (n := M.2.2.1) (by rw [gv_cs_len]; exact hcs)
    obtain ⟨m', meth', c', h1, h2, h3, h4, h5, h6, h7, h8, h9⟩ := gv_cwd_spec (atoms_spec (ws := [gv_cwd M]) B.pre _ List.mem_cons_self)
    cases B.named.symm.trans h1
    cases B.method.symm.trans h2
    have X₀ := Stand.of_body B
    cases X₀.code.symm.trans h3
    have hh0 : s₁.heap = s.heap := by rw [B.state]; rfl
    rw [lg_entry_eq]
    generalize (lg_sl (args.map (gv_v G.2.1)) ++ List.replicate (M.2.2.1 - (lg_sl (args.map (gv_v G.2.1))).length) Slot.unset).toArray = A at hl ⊢
    have k2 := k.2 h p e s m (args.map (gv_v G.2.1)).toArray below meth c s.heap [] A (Nat.le_refl _) (Nat.le_refl _) ⟨B.exec, B.bytes, hml, findClass_of_methodNamed B.named, hK, B.returns, B.notSynchronized, (name_of_methodNamed B.named B.method).1, h6⟩ hw (fun q hq => nomatch hq) ⟨hl.1, hl.2.1, fun i v hi => by
      have h9 := hl.2.2 _ (gv_ent_args (z := G.2.1) args 0 i v (hls i v hi))
      rwa [Nat.zero_add] at h9⟩
    rw [Nat.sub_self, Nat.sub_self] at k2
    exact k2 s₁ hh0 X₀
  refine ⟨k.1, ?_⟩
  match r, hr, body with
  | .inl v, _, body =>
    refine MetFree.of_bodyS (code := M.2.1) (maxLocals := M.2.2.1) (ret := M.2.2.2.1) hp (his _) ?_
    intro p e s m args9 below meth c s₁ B hml hv _
    obtain ⟨t, a1, o, b1, b2, b3⟩ := body p e s m args9 below meth c s₁ B hml hv
    exact ⟨t, o, a1, b1, b2, b3.1, b3.2⟩
  | .inr (.inl E), _, body =>
    refine MetFree.of_bodyS (code := M.2.1) (maxLocals := M.2.2.1) (ret := M.2.2.2.1) hp (his _) ?_
    intro p e s m args9 below meth c s₁ B hml hv _
    obtain ⟨t, a1, q, b1, b2, b3⟩ := body p e s m args9 below meth c s₁ B hml hv
    exact ⟨t, .threw q, a1, b1, b2, q, rfl, b3⟩
  | .inr (.inr (some v)), _, body =>
    refine MetFree.of_bodyS (code := M.2.1) (maxLocals := M.2.2.1) (ret := M.2.2.2.1) hp (his _) ?_
    intro p e s m args9 below meth c s₁ B hml hv _
    obtain ⟨t, a1, o, b1, b2, b3⟩ := body p e s m args9 below meth c s₁ B hml hv
    exact ⟨t, o, a1, b1, b2, b3.1, b3.2⟩
  | .inr (.inr none), hr, _ => exact absurd rfl hr
/-- a method's words -/
def gv_mok (M : gv_M) : Bool := gv_tw M.2.2.2.2.2.1 (gv_cwd M) && gv_tw M.2.2.2.2.2.2.1 (.initialized M.1.cls) && decide (M.1.cls ≠ "java/lang/invoke/MethodHandle" ∧ M.1.cls ≠ "java/lang/invoke/VarHandle" ∧ (parseMethodDescriptor M.1.desc).map (fun d => d.parameters.length) = some M.2.2.2.2.2.2.2.2.2.1 ∧ M.2.2.1 ≤ 40)
def gv_msI (M : gv_M) : Bool := gv_mok M && gv_tw M.2.2.2.2.2.2.2.1 (.instanceMethod M.1) && decide (M.2.2.2.1 = none ∧ M.1.name = "<init>" ∧ M.2.2.2.2.2.2.2.2.2.2 = [])
def gv_msV (M : gv_M) : Bool := gv_mok M && gv_tw M.2.2.2.2.2.2.2.1 (.instanceMethod M.1) && gv_tw M.2.2.2.2.2.2.2.2.1 (.selects M.1.cls M.1 M.1) && decide (M.2.2.2.2.2.2.2.2.2.2 = [])
def gv_msS (M : gv_M) : Bool := gv_mok M && gv_tw M.2.2.2.2.2.2.2.1 (.static M.1)
theorem gv_cwd0 {M : gv_M} (h : M.2.2.2.2.2.2.2.2.2.2 = []) : gv_cwd M = .code M.1 M.2.1 M.2.2.1 M.2.2.2.1 := by
  unfold gv_cwd
  rw [h]
def gv_lnk (own : String) (x : Nat) (a wp : Nat) (y : MethodName) : Bool := match a with
  | 0 => gv_tw wp (.methodLink own x y)
  | _ => gv_tw wp (.methodLinkNest own x y gv_host)
theorem gv_backQ {p : Program} {e : Env} {below : List Frame} {s : State} {args9 : Array Value} {Qc : Array Value → State → Outcome → State → Prop} {mc ms : Nat} (hM : gv_mok M = true) (hK : gv_K G s) (hE : Met G.1 M.1 [gv_cwd M] (gv_room d (h1.2.1.1 - h.2.1.1) (h1.2.1.2 - h.2.1.2)) (gv_Pc G args h) Qc (h1.2.1.1 - h.2.1.1) (h1.2.1.2 - h.2.1.2) (gv_fr G)) :
    Back G.1 (gv_room (d + 1) mc ms) p e below s args9 M.1 3 8 (PreOf (gv_room (d + 1) mc ms) (h1.2.1.1 - h.2.1.1) (h1.2.1.2 - h.2.1.2) (gv_Pc G args h)) (PostOf Qc (h1.2.1.1 - h.2.1.1) (h1.2.1.2 - h.2.1.2) (gv_fr G)) := by
  unfold gv_mok at hM
  rw [Bool.and_eq_true, Bool.and_eq_true, decide_eq_true_eq] at hM
  obtain ⟨⟨m1, m2⟩, m3, m4, m5, m6⟩ := hM
  have hfr : d + 8 + 1 ≤ d + 1 + 8 := by omega
  have hlo : 8 + (M.2.2.1 + 11) + (64 * d + 200) ≤ 64 * (d + 1) + 200 := by omega
  have hws : ∀ w ∈ [gv_cwd M], ∀ (a' : Array Value) (U : State), s.WarmedH U.vm → w.before a' U = true := by
    intro w hw a' U hW
    rw [List.mem_singleton.mp hw]
    exact gv_tw_use (hK.moved hW) m1 a'
  have hin : ∀ (a' : Array Value) (U : State), s.WarmedH U.vm → (Jvm.Cond.initialized M.1.cls).before a' U = true := fun a' U hW => gv_tw_use (hK.moved hW) m2 a'
  match e9 : M.2.2.2.2.2.2.2.2.2.2 with
  | [] => exact back_of (bytes := M.2.1) (maxL := M.2.2.1) (ret := M.2.2.2.1) hE gv_blind rfl rfl hfr hlo hws (by rw [gv_cwd0 e9]; exact List.mem_cons_self) hin
  | q :: l => exact va_backW (hh := q :: l) (bytes := M.2.1) (maxL := M.2.2.1) (ret := M.2.2.2.1) hE gv_blind rfl rfl hfr hlo hws (by unfold gv_cwd; rw [e9]; exact List.mem_cons_self) hin
theorem gv_back {p : Program} {e : Env} {below : List Frame} {s : State} {args9 : Array Value} {v : Option gv_V} {mc ms : Nat} (hM : gv_mok M = true) (hK : gv_K G s) (hE : gv_ev G d M args h (.inl v) h1) :
    Back G.1 (gv_room (d + 1) mc ms) p e below s args9 M.1 3 8 (PreOf (gv_room (d + 1) mc ms) (h1.2.1.1 - h.2.1.1) (h1.2.1.2 - h.2.1.2) (gv_Pc G args h)) (PostOf (gv_Qv G v h1) (h1.2.1.1 - h.2.1.1) (h1.2.1.2 - h.2.1.2) (gv_fr G)) := gv_backQ hM hK hE.2
/-- behind the call -/
theorem gv_afterQ {p : Program} {e : Env} {s : State} {m : MethodId} {args9 : Array Value} {below : List Frame} {meth : Method} {c : Code} {T : State} {locs : List Loc} {cells slots mc ms : Nat} {R : Room} {Q : State → Prop} {v : Option gv_V} {Qc : Array Value → State → Outcome → State → Prop} {A : Array Slot} {aa : Array Value} {st0 : List Value}
    (XX : Stand p G.1 e R s m args9 below meth c T locs cells slots) (hr : ∃ (w : Option Value) (vm₁ : Vm) (B : Pt), s.WarmedH vm₁ ∧ Stand p G.1 e R s m args9 below meth c B.U B.locs B.cells B.slots ∧ PostOf Qc mc ms (gv_fr G) ⟨T.setVm vm₁, locs, cells, slots⟩ aa w B ∧
      ∀ target, Steps p.tables e below (B.U.setTop { (F0 m pc A st0) with pc := (F0 m pc A st0).pc + 3, stack := w.toList ++ st.map (gv_v G.2.1) }) target → Steps p.tables e below (T.setTop (F0 m pc A st0)) target)
    (hl : ∀ q ∈ locs, gv_fr G q.base) {Ok : Heap → Prop} (hQ : ∀ (a : Array Value) (st t : State) (w : Option Value), Qc a st (.returned w) t → w = v.map (gv_v G.2.1) ∧ Ok t.heap)
    (kk : ∀ (H1 : Heap) (locs1 : List Loc), Ok H1 → (∀ q ∈ locs1, gv_fr G q.base) → W p G.1 e R s m args9 below meth c H1 locs1 (cells + mc) (slots + ms) Q (F0 m (pc + 3) A ((v.toList ++ st).map (gv_v G.2.1)))) :
    ∃ t, Steps p.tables e below (T.setTop (F0 m pc A st0)) t ∧ Q t := by
  obtain ⟨w, vm₁, ⟨U', l2, c2, s2⟩, hW₁, X', ⟨g', mk, t, L, e1, e2, hq, h1', hL, h2, h3⟩, st9⟩ := hr
  dsimp only [Pt.U, Pt.locs, Pt.cells, Pt.slots] at X' e1 e2 h1' h2 h3 st9
  subst h1'; subst h2; subst h3
  obtain ⟨hv2, hw⟩ := hQ _ _ _ _ hq
  obtain ⟨t2, a1, b1⟩ := kk U'.heap (locs ++ L) (by rw [e1]; exact hw) (fun q hq => (List.mem_append.mp hq).elim (hl q) (hL q)) U' rfl X'
  refine ⟨t2, st9 t2 ?_, b1⟩
  have e9 : w.toList ++ st.map (gv_v G.2.1) = (v.toList ++ st).map (gv_v G.2.1) := by
    rw [hv2]; cases v <;> rfl
  rw [e9]
  exact a1
theorem gv_after {p : Program} {e : Env} {s : State} {m : MethodId} {args9 : Array Value} {below : List Frame} {meth : Method} {c : Code} {T : State} {locs : List Loc} {cells slots mc ms : Nat} {R : Room} {Q : State → Prop} {v : Option gv_V} {A : Array Slot} {aa : Array Value} {st0 : List Value}
    (XX : Stand p G.1 e R s m args9 below meth c T locs cells slots) (hr : ∃ (w : Option Value) (vm₁ : Vm) (B : Pt), s.WarmedH vm₁ ∧ Stand p G.1 e R s m args9 below meth c B.U B.locs B.cells B.slots ∧ PostOf (gv_Qv G v h1) mc ms (gv_fr G) ⟨T.setVm vm₁, locs, cells, slots⟩ aa w B ∧
      ∀ target, Steps p.tables e below (B.U.setTop { (F0 m pc A st0) with pc := (F0 m pc A st0).pc + 3, stack := w.toList ++ st.map (gv_v G.2.1) }) target → Steps p.tables e below (T.setTop (F0 m pc A st0)) target)
    (hl : ∀ q ∈ locs, gv_fr G q.base)
    (kk : ∀ (H1 : Heap) (locs1 : List Loc), gv_w G h1 H1 → (∀ q ∈ locs1, gv_fr G q.base) → W p G.1 e R s m args9 below meth c H1 locs1 (cells + mc) (slots + ms) Q (F0 m (pc + 3) A ((v.toList ++ st).map (gv_v G.2.1)))) :
    ∃ t, Steps p.tables e below (T.setTop (F0 m pc A st0)) t ∧ Q t :=
  gv_afterQ XX hr hl (Ok := gv_w G h1) (fun _ _ _ w hq => ⟨by have h9 := hq.1; cases h9; rfl, hq.2⟩) kk
theorem gv_callS {v : Option gv_V} {x a wp : Nat} (hM : gv_mok M = true) (hs : gv_tw M.2.2.2.2.2.2.2.1 (.static M.1) = true) (hlk : gv_lnk y.1.cls x a wp M.1 = true) (hd : decode y.2.1 pc = .ok (.invokestatic x, 3)) (hn : args.length = M.2.2.2.2.2.2.2.2.2.1) (hcat : gv_cs st ≤ 8)
    (hE : gv_ev G d M args h (.inl v) h1) (k : gv_go G y (d + 1) r hf (pc + 3) ls (v.toList ++ st) h1) : gv_go G y (d + 1) r hf pc ls (args.reverse ++ st) h := by
  have hE1 := hE.1
  have hk1 := k.1
  refine ⟨⟨by omega, by omega⟩, fun h0 p e s m args9 below meth c H locs A q1 q2 X hw hl hA => ?_⟩
  have hK := X.2.2.2.2.1
  have hB := gv_back (p := p) (e := e) (below := below) (args9 := args9) (mc := hf.2.1.1 - h0.2.1.1) (ms := hf.2.1.2 - h0.2.1.2) hM hK hE
  have hM9 := hM
  unfold gv_mok at hM9
  rw [Bool.and_eq_true, Bool.and_eq_true, decide_eq_true_eq] at hM9
  obtain ⟨⟨m1, m2⟩, m3, m4, m5, m6⟩ := hM9
  intro T hT XX
  refine gv_after (mc := h1.2.1.1 - h.2.1.1) (ms := h1.2.1.2 - h.2.1.2) (aa := (args.map (gv_v G.2.1)).toArray) (h1 := h1) (v := v) (st := st) XX ?_ hl (fun H1 locs1 hw1 hl1 => ?_)
  · have hlen : ∀ sig, parseMethodDescriptor M.1.desc = some sig → (args.map (gv_v G.2.1)).length = sig.parameters.length := by
      intro sig hsig
      rw [hsig] at m5
      rw [List.length_map, hn]
      exact (Option.some.inj m5).symm
    have hstack : (F0 m pc A ((args.reverse ++ st).map (gv_v G.2.1))).stack = (args.map (gv_v G.2.1)).reverse ++ st.map (gv_v G.2.1) := by
      show (args.reverse ++ st).map (gv_v G.2.1) = _
      rw [List.map_append, List.map_reverse]
    have hW9 : 2 * (F0 m pc A ((args.reverse ++ st).map (gv_v G.2.1))).monitorRoom + ((st.map (gv_v G.2.1)).map fun v => v.category).sum ≤ 8 := lv_room (by rw [gv_cs_sum]; exact hcat)
    have hpre : ∀ vm₁, s.WarmedH vm₁ → PreOf (gv_room (d + 1) (hf.2.1.1 - h0.2.1.1) (hf.2.1.2 - h0.2.1.2)) (h1.2.1.1 - h.2.1.1) (h1.2.1.2 - h.2.1.2) (gv_Pc G args h) ⟨T.setVm vm₁, locs, h.2.1.1 - h0.2.1.1, h.2.1.2 - h0.2.1.2⟩ (args.map (gv_v G.2.1)).toArray :=
      fun vm₁ hW => ⟨by show h.2.1.1 - h0.2.1.1 + (h1.2.1.1 - h.2.1.1) ≤ hf.2.1.1 - h0.2.1.1; omega, by show h.2.1.2 - h0.2.1.2 + (h1.2.1.2 - h.2.1.2) ≤ hf.2.1.2 - h0.2.1.2; omega, rfl, hK.moved (U := T.setVm vm₁) hW, by show gv_w G h T.heap; rw [hT]; exact hw⟩
    obtain ⟨mk, methM, cM, hnamed, hmethM, -, -, -, -, -, -, hsigM⟩ := gv_cwd_spec (gv_tw_use hK m1 args9)
    have hstatic : methM.isStatic = true := Cond.static_spec hnamed hmethM (gv_tw_use hK hs args9)
    obtain ⟨kP, hkP, -⟩ := className_of_methodNamed hnamed
    have hinitP : kP.init = .initialized := Cond.initialized_spec (findClass_of_methodNamed hnamed) hkP (gv_tw_use hK m2 args9)
    have hdg : decode c.code (F0 m pc A ((args.reverse ++ st).map (gv_v G.2.1))).pc = .ok (.invokestatic x, 3) := by rw [X.2.1]; exact hd
    have hsz : (F0 m pc A ((args.reverse ++ st).map (gv_v G.2.1))).locals.size = c.maxLocals := hA.1.trans X.2.2.1.symm
    match a, hlk with
    | 0, hlk =>
      obtain ⟨vm₁, X₁, hstep₁⟩ := XX.invokestatic X.1 X.2.2.2.1 (gv_tw_use hK hlk args9) hnamed hmethM hstatic hkP hinitP ⟨m3, m4⟩ (g := F0 m pc A ((args.reverse ++ st).map (gv_v G.2.1))) rfl (hlen _ hsigM) hstack hdg
      obtain ⟨v, B, X', hpost, hsteps⟩ := hB m meth c ⟨T.setVm vm₁, locs, _, _⟩ { (F0 m pc A ((args.reverse ++ st).map (gv_v G.2.1))) with stack := st.map (gv_v G.2.1) } (.invokestatic x) mk (args.map (gv_v G.2.1)).toArray X₁ rfl hsz hdg hW9 (X₁.named hnamed) (hpre vm₁ X₁.warmed)
      exact ⟨v, vm₁, B, X₁.warmed, X', hpost, fun target h => hstep₁ _ fun acts => by rw [doInvoke_state]; exact hsteps.trans h⟩
    | a + 1, hlk =>
      obtain ⟨vm₁, X₁, hstep₁⟩ := XX.invokestaticNest X.1 X.2.2.2.1 (gv_tw_use hK hlk args9) hnamed hmethM hstatic hkP hinitP ⟨m3, m4⟩ (g := F0 m pc A ((args.reverse ++ st).map (gv_v G.2.1))) rfl (hlen _ hsigM) hstack hdg
      obtain ⟨v, B, X', hpost, hsteps⟩ := hB m meth c ⟨T.setVm vm₁, locs, _, _⟩ { (F0 m pc A ((args.reverse ++ st).map (gv_v G.2.1))) with stack := st.map (gv_v G.2.1) } (.invokestatic x) mk (args.map (gv_v G.2.1)).toArray X₁ rfl hsz hdg hW9 (X₁.named hnamed) (hpre vm₁ X₁.warmed)
      exact ⟨v, vm₁, B, X₁.warmed, X', hpost, fun target h => hstep₁ _ fun acts => by rw [doInvoke_state]; exact hsteps.trans h⟩
  · have k2 := k.2 h0 p e s m args9 below meth c H1 locs1 A (by omega) (by omega) X hw1 hl1 hA
    rw [show h.2.1.1 - h0.2.1.1 + (h1.2.1.1 - h.2.1.1) = h1.2.1.1 - h0.2.1.1 by omega, show h.2.1.2 - h0.2.1.2 + (h1.2.1.2 - h.2.1.2) = h1.2.1.2 - h0.2.1.2 by omega]
    exact k2
theorem gv_callSL {v : Option gv_V} {x a wp : Nat} (hM : gv_mok M = true) (hs : gv_tw M.2.2.2.2.2.2.2.1 (.static M.1) = true) (hlk : gv_lnk y.1.cls x a wp M.1 = true) (hd : decode y.2.1 pc = .ok (.invokestatic x, 3)) (hn : args.length = M.2.2.2.2.2.2.2.2.2.1) (hcat : gv_cs st ≤ 8)
    (hE : gv_ev G d M args h (.inr (.inr (some v))) h1) (k : ∀ δ : Nat, gv_go G y (d + 1) r hf (pc + 3) ls (v.toList ++ st) (h1.1 + δ, h1.2)) : gv_go G y (d + 1) r hf pc ls (args.reverse ++ st) h := by
  have hE1 := hE.1
  have hk1 : h1.2.1.1 ≤ hf.2.1.1 ∧ h1.2.1.2 ≤ hf.2.1.2 := (k 0).1
  refine ⟨⟨by omega, by omega⟩, fun h0 p e s m args9 below meth c H locs A q1 q2 X hw hl hA => ?_⟩
  have hK := X.2.2.2.2.1
  have hB := gv_backQ (p := p) (e := e) (below := below) (args9 := args9) (mc := hf.2.1.1 - h0.2.1.1) (ms := hf.2.1.2 - h0.2.1.2) hM hK hE.2
  have hM9 := hM
  unfold gv_mok at hM9
  rw [Bool.and_eq_true, Bool.and_eq_true, decide_eq_true_eq] at hM9
  obtain ⟨⟨m1, m2⟩, m3, m4, m5, m6⟩ := hM9
  intro T hT XX
  refine gv_afterQ (mc := h1.2.1.1 - h.2.1.1) (ms := h1.2.1.2 - h.2.1.2) (aa := (args.map (gv_v G.2.1)).toArray) (Qc := gv_Ql G v h1) (v := v) (st := st) XX ?_ hl (Ok := fun H1 => ∃ δ : Nat, gv_w G (h1.1 + δ, h1.2) H1) (fun _ _ _ w hq => ⟨by have h9 := hq.1; cases h9; rfl, hq.2⟩) (fun H1 locs1 hw1 hl1 => ?_)
  · have hlen : ∀ sig, parseMethodDescriptor M.1.desc = some sig → (args.map (gv_v G.2.1)).length = sig.parameters.length := by
      intro sig hsig
      rw [hsig] at m5
      rw [List.length_map, hn]
      exact (Option.some.inj m5).symm
    have hstack : (F0 m pc A ((args.reverse ++ st).map (gv_v G.2.1))).stack = (args.map (gv_v G.2.1)).reverse ++ st.map (gv_v G.2.1) := by
      show (args.reverse ++ st).map (gv_v G.2.1) = _
      rw [List.map_append, List.map_reverse]
    have hW9 : 2 * (F0 m pc A ((args.reverse ++ st).map (gv_v G.2.1))).monitorRoom + ((st.map (gv_v G.2.1)).map fun v => v.category).sum ≤ 8 := lv_room (by rw [gv_cs_sum]; exact hcat)
    have hpre : ∀ vm₁, s.WarmedH vm₁ → PreOf (gv_room (d + 1) (hf.2.1.1 - h0.2.1.1) (hf.2.1.2 - h0.2.1.2)) (h1.2.1.1 - h.2.1.1) (h1.2.1.2 - h.2.1.2) (gv_Pc G args h) ⟨T.setVm vm₁, locs, h.2.1.1 - h0.2.1.1, h.2.1.2 - h0.2.1.2⟩ (args.map (gv_v G.2.1)).toArray :=
      fun vm₁ hW => ⟨by show h.2.1.1 - h0.2.1.1 + (h1.2.1.1 - h.2.1.1) ≤ hf.2.1.1 - h0.2.1.1; omega, by show h.2.1.2 - h0.2.1.2 + (h1.2.1.2 - h.2.1.2) ≤ hf.2.1.2 - h0.2.1.2; omega, rfl, hK.moved (U := T.setVm vm₁) hW, by show gv_w G h T.heap; rw [hT]; exact hw⟩
    obtain ⟨mk, methM, cM, hnamed, hmethM, -, -, -, -, -, -, hsigM⟩ := gv_cwd_spec (gv_tw_use hK m1 args9)
    have hstatic : methM.isStatic = true := Cond.static_spec hnamed hmethM (gv_tw_use hK hs args9)
    obtain ⟨kP, hkP, -⟩ := className_of_methodNamed hnamed
    have hinitP : kP.init = .initialized := Cond.initialized_spec (findClass_of_methodNamed hnamed) hkP (gv_tw_use hK m2 args9)
    have hdg : decode c.code (F0 m pc A ((args.reverse ++ st).map (gv_v G.2.1))).pc = .ok (.invokestatic x, 3) := by rw [X.2.1]; exact hd
    have hsz : (F0 m pc A ((args.reverse ++ st).map (gv_v G.2.1))).locals.size = c.maxLocals := hA.1.trans X.2.2.1.symm
    match a, hlk with
    | 0, hlk =>
      obtain ⟨vm₁, X₁, hstep₁⟩ := XX.invokestatic X.1 X.2.2.2.1 (gv_tw_use hK hlk args9) hnamed hmethM hstatic hkP hinitP ⟨m3, m4⟩ (g := F0 m pc A ((args.reverse ++ st).map (gv_v G.2.1))) rfl (hlen _ hsigM) hstack hdg
      obtain ⟨v, B, X', hpost, hsteps⟩ := hB m meth c ⟨T.setVm vm₁, locs, _, _⟩ { (F0 m pc A ((args.reverse ++ st).map (gv_v G.2.1))) with stack := st.map (gv_v G.2.1) } (.invokestatic x) mk (args.map (gv_v G.2.1)).toArray X₁ rfl hsz hdg hW9 (X₁.named hnamed) (hpre vm₁ X₁.warmed)
      exact ⟨v, vm₁, B, X₁.warmed, X', hpost, fun target h => hstep₁ _ fun acts => by rw [doInvoke_state]; exact hsteps.trans h⟩
    | a + 1, hlk =>
      obtain ⟨vm₁, X₁, hstep₁⟩ := XX.invokestaticNest X.1 X.2.2.2.1 (gv_tw_use hK hlk args9) hnamed hmethM hstatic hkP hinitP ⟨m3, m4⟩ (g := F0 m pc A ((args.reverse ++ st).map (gv_v G.2.1))) rfl (hlen _ hsigM) hstack hdg
      obtain ⟨v, B, X', hpost, hsteps⟩ := hB m meth c ⟨T.setVm vm₁, locs, _, _⟩ { (F0 m pc A ((args.reverse ++ st).map (gv_v G.2.1))) with stack := st.map (gv_v G.2.1) } (.invokestatic x) mk (args.map (gv_v G.2.1)).toArray X₁ rfl hsz hdg hW9 (X₁.named hnamed) (hpre vm₁ X₁.warmed)
      exact ⟨v, vm₁, B, X₁.warmed, X', hpost, fun target h => hstep₁ _ fun acts => by rw [doInvoke_state]; exact hsteps.trans h⟩
  · obtain ⟨δ, hw1⟩ := hw1
    have k2 := (k δ).2 h0 p e s m args9 below meth c H1 locs1 A (by show h0.2.1.1 ≤ h1.2.1.1; omega) (by show h0.2.1.2 ≤ h1.2.1.2; omega) X hw1 hl1 hA
    rw [show h.2.1.1 - h0.2.1.1 + (h1.2.1.1 - h.2.1.1) = h1.2.1.1 - h0.2.1.1 by omega, show h.2.1.2 - h0.2.1.2 + (h1.2.1.2 - h.2.1.2) = h1.2.1.2 - h0.2.1.2 by omega]
    exact k2
theorem gv_callI {x a wp b : Nat} (hM : gv_mok M = true) (hh0 : M.2.2.2.2.2.2.2.2.2.2 = []) (hret : M.2.2.2.1 = none) (hnm : M.1.name = "<init>") (hs : gv_tw M.2.2.2.2.2.2.2.1 (.instanceMethod M.1) = true) (hlk : gv_lnk y.1.cls x a wp M.1 = true) (hd : decode y.2.1 pc = .ok (.invokespecial x, 3)) (hn : args.length = M.2.2.2.2.2.2.2.2.2.1) (hcat : gv_cs st ≤ 8)
    (hE : gv_ev G d M (gR b :: args) h (.inl none) h1) (k : gv_go G y (d + 1) r hf (pc + 3) ls st h1) : gv_go G y (d + 1) r hf pc ls (args.reverse ++ gR b :: st) h := by
  have hE1 := hE.1
  have hk1 := k.1
  refine ⟨⟨by omega, by omega⟩, fun h0 p e s m args9 below meth c H locs A q1 q2 X hw hl hA => ?_⟩
  have hK := X.2.2.2.2.1
  have hB := gv_back (p := p) (e := e) (below := below) (args9 := args9) (mc := hf.2.1.1 - h0.2.1.1) (ms := hf.2.1.2 - h0.2.1.2) hM hK hE
  have hM9 := hM
  unfold gv_mok at hM9
  rw [Bool.and_eq_true, Bool.and_eq_true, decide_eq_true_eq] at hM9
  obtain ⟨⟨m1, m2⟩, m3, m4, m5, m6⟩ := hM9
  intro T hT XX
  refine gv_after (mc := h1.2.1.1 - h.2.1.1) (ms := h1.2.1.2 - h.2.1.2) (aa := (Value.ref (G.2.1 b) :: args.map (gv_v G.2.1)).toArray) (h1 := h1) (v := none) (st := st) XX ?_ hl (fun H1 locs1 hw1 hl1 => ?_)
  · have hlen : ∀ sig, parseMethodDescriptor M.1.desc = some sig → (args.map (gv_v G.2.1)).length = sig.parameters.length := by
      intro sig hsig
      rw [hsig] at m5
      rw [List.length_map, hn]
      exact (Option.some.inj m5).symm
    have hstack : (F0 m pc A ((args.reverse ++ gR b :: st).map (gv_v G.2.1))).stack = (args.map (gv_v G.2.1)).reverse ++ .ref (G.2.1 b) :: st.map (gv_v G.2.1) := by
      show (args.reverse ++ gR b :: st).map (gv_v G.2.1) = _
      rw [List.map_append, List.map_reverse]
      rfl
    have hW9 : 2 * (F0 m pc A ((args.reverse ++ gR b :: st).map (gv_v G.2.1))).monitorRoom + ((st.map (gv_v G.2.1)).map fun v => v.category).sum ≤ 8 := lv_room (by rw [gv_cs_sum]; exact hcat)
    have hpre : ∀ vm₁, s.WarmedH vm₁ → PreOf (gv_room (d + 1) (hf.2.1.1 - h0.2.1.1) (hf.2.1.2 - h0.2.1.2)) (h1.2.1.1 - h.2.1.1) (h1.2.1.2 - h.2.1.2) (gv_Pc G (gR b :: args) h) ⟨T.setVm vm₁, locs, h.2.1.1 - h0.2.1.1, h.2.1.2 - h0.2.1.2⟩ (Value.ref (G.2.1 b) :: args.map (gv_v G.2.1)).toArray :=
      fun vm₁ hW => ⟨by show h.2.1.1 - h0.2.1.1 + (h1.2.1.1 - h.2.1.1) ≤ hf.2.1.1 - h0.2.1.1; omega, by show h.2.1.2 - h0.2.1.2 + (h1.2.1.2 - h.2.1.2) ≤ hf.2.1.2 - h0.2.1.2; omega, rfl, hK.moved (U := T.setVm vm₁) hW, by show gv_w G h T.heap; rw [hT]; exact hw⟩
    rw [gv_cwd0 hh0, hret] at m1
    match a, hlk with
    | 0, hlk => exact callI XX X.1 (own := y.1.cls) (index := x) (y := M.1) (bytes := M.2.1) (maxL := M.2.2.1) X.2.2.2.1 hnm (gv_tw_use hK hlk args9) (gv_tw_use hK hs args9) (gv_tw_use hK m1 args9) ⟨m3, m4⟩ hB rfl (hA.1.trans X.2.2.1.symm) hlen hstack hW9 (by rw [X.2.1]; exact hd) hpre
    | a + 1, hlk => exact va_callIN XX X.1 (own := y.1.cls) (index := x) (host := gv_host) (y := M.1) (bytes := M.2.1) (maxL := M.2.2.1) X.2.2.2.1 hnm (gv_tw_use hK hlk args9) (gv_tw_use hK hs args9) (gv_tw_use hK m1 args9) ⟨m3, m4⟩ hB rfl (hA.1.trans X.2.2.1.symm) hlen hstack hW9 (by rw [X.2.1]; exact hd) hpre
  · have k2 := k.2 h0 p e s m args9 below meth c H1 locs1 A (by omega) (by omega) X hw1 hl1 hA
    rw [show h.2.1.1 - h0.2.1.1 + (h1.2.1.1 - h.2.1.1) = h1.2.1.1 - h0.2.1.1 by omega, show h.2.1.2 - h0.2.1.2 + (h1.2.1.2 - h.2.1.2) = h1.2.1.2 - h0.2.1.2 by omega]
    exact k2
theorem gv_callV {v : Option gv_V} {x a wp b ci : Nat} {rr : vw_C} {fs : List gv_V} (hM : gv_mok M = true) (hh0 : M.2.2.2.2.2.2.2.2.2.2 = []) (hs : gv_tw M.2.2.2.2.2.2.2.1 (.instanceMethod M.1) = true) (hse : gv_tw M.2.2.2.2.2.2.2.2.1 (.selects M.1.cls M.1 M.1) = true) (hlk : gv_lnk y.1.cls x a wp M.1 = true) (hd : decode y.2.1 pc = .ok (.invokevirtual x, 3)) (hn : args.length = M.2.2.2.2.2.2.2.2.2.1) (hcat : gv_cs st ≤ 8)
    (hb : h.2.2 b = some (Sum.inr (ci, fs))) (hci : gv_cl[ci]? = some rr) (hrr : rr.1 = M.1.cls)
    (hE : gv_ev G d M (gR b :: args) h (.inl v) h1) (k : gv_go G y (d + 1) r hf (pc + 3) ls (v.toList ++ st) h1) : gv_go G y (d + 1) r hf pc ls (args.reverse ++ gR b :: st) h := by
  have hE1 := hE.1
  have hk1 := k.1
  refine ⟨⟨by omega, by omega⟩, fun h0 p e s m args9 below meth c H locs A q1 q2 X hw hl hA => ?_⟩
  have hK := X.2.2.2.2.1
  have hB := gv_back (p := p) (e := e) (below := below) (args9 := args9) (mc := hf.2.1.1 - h0.2.1.1) (ms := hf.2.1.2 - h0.2.1.2) hM hK hE
  have hM9 := hM
  unfold gv_mok at hM9
  rw [Bool.and_eq_true, Bool.and_eq_true, decide_eq_true_eq] at hM9
  obtain ⟨⟨m1, m2⟩, m3, m4, m5, m6⟩ := hM9
  obtain ⟨cellB, c1, c2, c3⟩ := va_recv hK.2.1 (gv_one hw hb) hci (q0 := 0) rfl
  rw [hrr] at c3
  intro T hT XX
  refine gv_after (mc := h1.2.1.1 - h.2.1.1) (ms := h1.2.1.2 - h.2.1.2) (aa := (Value.ref (G.2.1 b) :: args.map (gv_v G.2.1)).toArray) (h1 := h1) (v := v) (st := st) XX ?_ hl (fun H1 locs1 hw1 hl1 => ?_)
  · have hlen : ∀ sig, parseMethodDescriptor M.1.desc = some sig → (args.map (gv_v G.2.1)).length = sig.parameters.length := by
      intro sig hsig
      rw [hsig] at m5
      rw [List.length_map, hn]
      exact (Option.some.inj m5).symm
    have hstack : (F0 m pc A ((args.reverse ++ gR b :: st).map (gv_v G.2.1))).stack = (args.map (gv_v G.2.1)).reverse ++ .ref (G.2.1 b) :: st.map (gv_v G.2.1) := by
      show (args.reverse ++ gR b :: st).map (gv_v G.2.1) = _
      rw [List.map_append, List.map_reverse]
      rfl
    have hW9 : 2 * (F0 m pc A ((args.reverse ++ gR b :: st).map (gv_v G.2.1))).monitorRoom + ((st.map (gv_v G.2.1)).map fun v => v.category).sum ≤ 8 := lv_room (by rw [gv_cs_sum]; exact hcat)
    have hpre : ∀ vm₁, s.WarmedH vm₁ → PreOf (gv_room (d + 1) (hf.2.1.1 - h0.2.1.1) (hf.2.1.2 - h0.2.1.2)) (h1.2.1.1 - h.2.1.1) (h1.2.1.2 - h.2.1.2) (gv_Pc G (gR b :: args) h) ⟨T.setVm vm₁, locs, h.2.1.1 - h0.2.1.1, h.2.1.2 - h0.2.1.2⟩ (Value.ref (G.2.1 b) :: args.map (gv_v G.2.1)).toArray :=
      fun vm₁ hW => ⟨by show h.2.1.1 - h0.2.1.1 + (h1.2.1.1 - h.2.1.1) ≤ hf.2.1.1 - h0.2.1.1; omega, by show h.2.1.2 - h0.2.1.2 + (h1.2.1.2 - h.2.1.2) ≤ hf.2.1.2 - h0.2.1.2; omega, rfl, hK.moved (U := T.setVm vm₁) hW, by show gv_w G h T.heap; rw [hT]; exact hw⟩
    rw [gv_cwd0 hh0] at m1
    have hcB : T.heap[G.2.1 b]? = some cellB := by rw [hT]; exact c1
    match a, hlk with
    | 0, hlk => exact callV XX X.1 (own := y.1.cls) (C := M.1.cls) (index := x) (y := M.1) (bytes := M.2.1) (maxL := M.2.2.1) (ret := M.2.2.2.1) X.2.2.2.1 (gv_tw_use hK hlk args9) (gv_tw_use hK hs args9) (gv_tw_use hK hse args9) (gv_tw_use hK m1 args9) ⟨m3, m4⟩ hB hcB c2 c3 rfl (hA.1.trans X.2.2.1.symm) hlen hstack hW9 (by rw [X.2.1]; exact hd) hpre
    | a + 1, hlk => exact va_callVN XX X.1 (own := y.1.cls) (C := M.1.cls) (index := x) (host := gv_host) (y := M.1) (bytes := M.2.1) (maxL := M.2.2.1) (ret := M.2.2.2.1) X.2.2.2.1 (gv_tw_use hK hlk args9) (gv_tw_use hK hs args9) (gv_tw_use hK hse args9) (gv_tw_use hK m1 args9) ⟨m3, m4⟩ hB hcB c2 c3 rfl (hA.1.trans X.2.2.1.symm) hlen hstack hW9 (by rw [X.2.1]; exact hd) hpre
  · have k2 := k.2 h0 p e s m args9 below meth c H1 locs1 A (by omega) (by omega) X hw1 hl1 hA
    rw [show h.2.1.1 - h0.2.1.1 + (h1.2.1.1 - h.2.1.1) = h1.2.1.1 - h0.2.1.1 by omega, show h.2.1.2 - h0.2.1.2 + (h1.2.1.2 - h.2.1.2) = h1.2.1.2 - h0.2.1.2 by omega]
    exact k2
/-- Object.<init> -/
theorem gv_oi {x a wp w1 w2 : Nat} (h1 : gv_tw wp (.methodLink y.1.cls x objectInit) = true) (h2 : gv_tw w1 (.instanceMethod objectInit) = true) (h3 : gv_tw w2 (.code objectInit ⟨#[0xb1]⟩ 1 none) = true) (hd : decode y.2.1 pc = .ok (.invokespecial x, 3)) (hcat : gv_cs st ≤ 100)
    (k : gv_go G y d r hf (pc + 3) ls st h) : gv_go G y d r hf pc ls (gR a :: st) h := by
  refine ⟨k.1, fun h0 p e s m args9 below meth c H locs A q1 q2 X hw hl hA => ?_⟩
  have hK := X.2.2.2.2.1
  refine W.objInit X.1 X.2.1 X.2.2.2.1 (gv_tw_use hK h1 args9) (gv_tw_use hK h2 args9) (gv_tw_use hK h3 args9) rfl (hA.1.trans X.2.2.1.symm) rfl hd (by show 1 ≤ d + 8; omega) ?_ (k.2 h0 p e s m args9 below meth c H locs A q1 q2 X hw hl hA)
  show 2 * 0 + ((st.map (gv_v G.2.1)).map fun v => v.category).sum + 12 ≤ 64 * d + 200
  rw [gv_cs_sum]
  omega
theorem gv_iret {x : Int32} (hr : y.2.2.2.1 = some .int) (hd : decode y.2.1 pc = .ok (.ireturn, 1)) : gv_go G y d (.inl (some (gI x))) h pc ls [gI x] h :=
  ⟨⟨Nat.le_refl _, Nat.le_refl _⟩, fun h0 p e s m args9 below meth c H locs A q1 q2 X hw hl hA => W.iret X.1 X.2.1 (X.2.2.2.2.2.1.trans hr) (fun t ht hW => ⟨rfl, by rw [ht]; exact hw⟩) hl hd X.2.2.2.2.2.2.1⟩
theorem gv_zret {x : Int32} (hr : y.2.2.2.1 = some .boolean) (hx : x = 0 ∨ x = 1) (hd : decode y.2.1 pc = .ok (.ireturn, 1)) : gv_go G y d (.inl (some (gI x))) h pc ls [gI x] h :=
  ⟨⟨Nat.le_refl _, Nat.le_refl _⟩, fun h0 p e s m args9 below meth c H locs A q1 q2 X hw hl hA => W.zret X.1 X.2.1 (X.2.2.2.2.2.1.trans hr) (by rcases hx with q | q <;> subst q <;> rfl) (fun t ht hW => ⟨rfl, by rw [ht]; exact hw⟩) hl hd X.2.2.2.2.2.2.1⟩
/-- an answer behind which more places may be taken -/
theorem gv_loose {r9 : Option gv_V} {n : Nat} (hn : n ≤ hf.1) (k : gv_go G y d (.inl r9) hf pc ls st h) : gv_go G y d (.inr (.inr (some r9))) (n, hf.2) pc ls st h := by
  refine ⟨k.1, fun h0 p e s m args9 below meth c H locs A q1 q2 X hw hl hA => ?_⟩
  intro T hT XX
  obtain ⟨t, a1, o, b1, b2, b3, b4⟩ := k.2 h0 p e s m args9 below meth c H locs A q1 q2 X hw hl hA T hT XX
  refine ⟨t, a1, o, b1, b2, ⟨b3.1, hf.1 - n, ?_⟩, b4⟩
  have e9 : ((n, hf.2).1 + (hf.1 - n), (n, hf.2).2) = hf := by
    show (n + (hf.1 - n), hf.2) = hf
    rw [Nat.add_sub_cancel' hn]
  rw [e9]
  exact b3.2
theorem gv_lret {x : Int64} (hr : y.2.2.2.1 = some .long) (hd : decode y.2.1 pc = .ok (.lreturn, 1)) : gv_go G y d (.inl (some (gL x))) h pc ls [gL x] h :=
  ⟨⟨Nat.le_refl _, Nat.le_refl _⟩, fun h0 p e s m args9 below meth c H locs A q1 q2 X hw hl hA => W.lret X.1 X.2.1 (X.2.2.2.2.2.1.trans hr) (fun t ht hW => ⟨rfl, by rw [ht]; exact hw⟩) hl hd X.2.2.2.2.2.2.1⟩
theorem gv_vret (hr : y.2.2.2.1 = none) (hd : decode y.2.1 pc = .ok (.return_, 1)) : gv_go G y d (.inl none) h pc ls [] h :=
  ⟨⟨Nat.le_refl _, Nat.le_refl _⟩, fun h0 p e s m args9 below meth c H locs A q1 q2 X hw hl hA => W.vret X.1 X.2.1 (X.2.2.2.2.2.1.trans hr) (fun t ht hW => ⟨rfl, by rw [ht]; exact hw⟩) hl hd X.2.2.2.2.2.2.1⟩
end GKA
end
section
/-! gl: all steps together -/
section GLA
def gv_ex (J : gv_J) (ls : gv_L) (st : List gv_V) (h : gv_H) : Option gv_S :=
  match Nat.blt J.1 20 with
  | true => gv_x1 J ls st h
  | false => match Nat.blt J.1 40 with
    | true => gv_x2 J ls st h
    | false => match Nat.blt J.1 50 with
      | true => gv_x3 J ls st h
      | false => match Nat.blt J.1 70 with
        | true => gv_x4 J ls st h
        | false => match Nat.blt J.1 76 with
          | true => gv_x5 J ls st h
          | false => match Nat.blt J.1 81 with
            | true => gv_x6 J ls st h
            | false => gv_x7 J ls st h
def gv_ck8 (own : String) (pc : Nat) (J : gv_J) (i : Instr) (n : Nat) : Bool := match J, i with
  | (84, _, _, w1, w2, wp, nx, _), .invokespecial x => decide (n = 3 ∧ nx = pc + 3) && gv_tw wp (.methodLink own x objectInit) && gv_tw w1 (.instanceMethod objectInit) && gv_tw w2 (.code objectInit ⟨#[0xb1]⟩ 1 none)
  | (85, _, _, a, b, wp, nx, _), .invokespecial x => decide (n = 3 ∧ nx = pc + 3) && gv_lnk own x a wp (gv_mn b)
  | (86, _, _, a, b, wp, nx, _), .invokevirtual x => decide (n = 3 ∧ nx = pc + 3) && gv_lnk own x a wp (gv_mn b)
  | (87, _, _, a, b, wp, nx, _), .invokestatic x => decide (n = 3 ∧ nx = pc + 3) && gv_lnk own x a wp (gv_mn b)
  | (90, _, _, _, _, _, _, _), .ireturn => decide (n = 1)
  | (91, _, _, _, _, _, _, _), .return_ => decide (n = 1)
  | (92, _, _, _, _, _, _, _), .lreturn => decide (n = 1)
  | (93, _, _, _, _, _, _, _), .areturn => decide (n = 1)
  | (94, _, _, _, _, _, _, _), .tableswitch _ _ _ _ => true
  | (94, _, _, _, _, _, _, _), .lookupswitch _ _ => true
  | (95, _, _, _, _, _, _, _), .new _ => true
  | _, _ => false
def gv_ck (y : gv_M) (pc : Nat) (J : gv_J) (i : Instr) (n : Nat) : Bool :=
  match Nat.blt J.1 20 with
  | true => gv_ck1 y.1.cls y.2.2.1 pc J i n
  | false => match Nat.blt J.1 40 with
    | true => gv_ck2 pc J i n
    | false => match Nat.blt J.1 50 with
      | true => gv_ck3 pc J i n
      | false => match Nat.blt J.1 70 with
        | true => gv_ck4 pc J i n
        | false => match Nat.blt J.1 76 with
          | true => gv_ck5 y.1.cls pc J i n
          | false => match Nat.blt J.1 81 with
            | true => gv_ck6 y.1 pc J i n
            | false => match Nat.blt J.1 84 with
              | true => gv_ck7 y.1.cls pc J i n
              | false => gv_ck8 y.1.cls pc J i n
def gv_okq (y : gv_M) (q : Nat × gv_J) : Bool := match decode y.2.1 q.1 with
  | .ok (i, n) => gv_ck y q.1 q.2 i n
  | .error _ => false
def gv_ok (y : gv_M) : Prop := ∀ q ∈ y.2.2.2.2.1, gv_okq y q = true
variable {G : gv_G} {y M : gv_M} {d : Nat} {r : gv_O} {hf h h1 : gv_H} {pc : Nat} {J : gv_J} {ls : gv_L} {st args : List gv_V} {S : gv_S}
theorem gv_dec (hy : gv_ok y) (hj : gv_lk y.2.2.2.2.1 pc = some J) : ∃ (i : Instr) (n : Nat), decode y.2.1 pc = .ok (i, n) ∧ gv_ck y pc J i n = true := by
  have h1 := hy _ (gv_lk_mem hj)
  unfold gv_okq at h1
  split at h1
  next i n e => exact ⟨i, n, e, h1⟩
  next => cases h1
theorem gv_step (hok : ∀ ci r, gv_cl[ci]? = some r → gv_clok ci r) (hqi : ∃ r, gv_cl[gv_qi]? = some r ∧ r.1 = gv_qc) (hy : gv_ok y) (hj : gv_lk y.2.2.2.2.1 pc = some J) (hx : gv_ex J ls st h = some S) (k : gv_go G y d r hf S.1 S.2.1 S.2.2.1 S.2.2.2) : gv_go G y d r hf pc ls st h := by
  obtain ⟨i, n, hd, hc⟩ := gv_dec hy hj
  unfold gv_ex at hx
  unfold gv_ck at hc
  split at hx
  next e => rw [e] at hc; exact gv_s1 hd hc hx k
  next e =>
    rw [e] at hc
    dsimp only at hc
    split at hx
    next e => rw [e] at hc; exact gv_s2 hd hc hx k
    next e =>
      rw [e] at hc
      dsimp only at hc
      split at hx
      next e => rw [e] at hc; exact gv_s3 hd hc hx k
      next e =>
        rw [e] at hc
        dsimp only at hc
        split at hx
        next e => rw [e] at hc; exact gv_s4 hd hc hx k
        next e =>
          rw [e] at hc
          dsimp only at hc
          split at hx
          next e => rw [e] at hc; exact gv_s5 hok hd hc hx k
          next e =>
            rw [e] at hc
            dsimp only at hc
            split at hx
            next e => rw [e] at hc; exact gv_s6 hok hqi hd hc hx k
            next e =>
              rw [e] at hc
              dsimp only at hc
              split at hc
              next e => exact gv_s7 hok hd hc hx k
              next e =>
                exfalso
                unfold gv_x7 at hx
                split at hx
                next => exact Bool.noConfusion (show true = false from e)
                next => exact Bool.noConfusion (show true = false from e)
                next => exact Bool.noConfusion (show true = false from e)
                next => cases hx
/-- several steps -/
def gv_run (L : List (Nat × gv_J)) : Nat → gv_S → Option gv_S
  | 0, S => some S
  | n + 1, S => match gv_lk L S.1 with
    | some J => match gv_ex J S.2.1 S.2.2.1 S.2.2.2 with
      | some S' => gv_run L n S'
      | none => none
    | none => none
theorem gv_steps (hok : ∀ ci r, gv_cl[ci]? = some r → gv_clok ci r) (hqi : ∃ r, gv_cl[gv_qi]? = some r ∧ r.1 = gv_qc) (hy : gv_ok y) : ∀ (n : Nat) (S0 : gv_S), gv_run y.2.2.2.2.1 n S0 = some S → gv_go G y d r hf S.1 S.2.1 S.2.2.1 S.2.2.2 → gv_go G y d r hf S0.1 S0.2.1 S0.2.2.1 S0.2.2.2
  | 0, S0, hx, k => by cases hx; exact k
  | n + 1, S0, hx, k => by
    unfold gv_run at hx
    split at hx
    next J hj =>
      split at hx
      next S' hs => exact gv_step hok hqi hy hj hs (gv_steps hok hqi hy n S' hx k)
      next => cases hx
    next => cases hx
end GLA
end
section
/-! the classes' facts -/
section GCA
theorem gc_in {L : List Jvm.Cond} (ps : List Nat) (h1 : L = ps.filterMap (fun i => gv_T[i]?)) (h2 : L.all gv_gd = true) : ∀ w ∈ L, w ∈ gv_T ∧ gv_gd w = true := by
  intro w hw
  have h3 := List.all_eq_true.mp h2 w hw
  rw [h1] at hw
  obtain ⟨i, -, hi⟩ := List.mem_filterMap.mp hw
  exact ⟨List.mem_of_getElem? hi, h3⟩
theorem gc_GE : gv_clok 0 ("GoalEngine", gF_GE, 4) := ⟨rfl, gc_in [410, 412, 414, 416] (by decide +kernel) (by decide +kernel), by decide +kernel, by decide +kernel, by decide +kernel, by decide +kernel⟩
theorem gc_RB : gv_clok 1 ("GoalEngine$RuleBook", gF_RB, 2) := ⟨rfl, gc_in [138, 140] (by decide +kernel) (by decide +kernel), by decide +kernel, by decide +kernel, by decide +kernel, by decide +kernel⟩
theorem gc_CL : gv_clok 2 ("GoalEngine$Clause", gF_CL, 4) := ⟨rfl, gc_in [124, 126, 128, 130] (by decide +kernel) (by decide +kernel), by decide +kernel, by decide +kernel, by decide +kernel, by decide +kernel⟩
theorem gc_SE : gv_clok 3 ("GoalEngine$Search", gF_SE, 13) := ⟨rfl, gc_in [379, 381, 383, 385, 387, 389, 391, 393, 395, 397, 399, 401, 403] (by decide +kernel) (by decide +kernel), by decide +kernel, by decide +kernel, by decide +kernel, by decide +kernel⟩
theorem gc_CE : gv_clok 4 ("GoalEngine$Cells", gF_CE, 9) := ⟨rfl, gc_in [177, 179, 181, 183, 185, 187, 189, 191, 193] (by decide +kernel) (by decide +kernel), by decide +kernel, by decide +kernel, by decide +kernel, by decide +kernel⟩
theorem gc_TR : gv_clok 5 ("GoalEngine$Tracer", gF_TR, 4) := ⟨rfl, gc_in [206, 208, 210, 212] (by decide +kernel) (by decide +kernel), by decide +kernel, by decide +kernel, by decide +kernel, by decide +kernel⟩
theorem gc_UN : gv_clok 6 ("GoalEngine$Unifier", gF_UN, 5) := ⟨rfl, gc_in [227, 229, 231, 233, 235] (by decide +kernel) (by decide +kernel), by decide +kernel, by decide +kernel, by decide +kernel, by decide +kernel⟩
theorem gc_CA : gv_clok 7 ("GoalEngine$Calculator", gF_CA, 2) := ⟨rfl, gc_in [246, 248] (by decide +kernel) (by decide +kernel), by decide +kernel, by decide +kernel, by decide +kernel, by decide +kernel⟩
theorem gc_GO : gv_clok 8 ("GoalEngine$Goals", gF_GO, 4) := ⟨rfl, gc_in [267, 269, 271, 273] (by decide +kernel) (by decide +kernel), by decide +kernel, by decide +kernel, by decide +kernel, by decide +kernel⟩
theorem gc_CH : gv_clok 9 ("GoalEngine$Choices", gF_CH, 6) := ⟨rfl, gc_in [297, 299, 301, 303, 305, 307] (by decide +kernel) (by decide +kernel), by decide +kernel, by decide +kernel, by decide +kernel, by decide +kernel⟩
theorem gc_CO : gv_clok 10 ("GoalEngine$Collector", gF_CO, 6) := ⟨rfl, gc_in [323, 325, 327, 329, 331, 333] (by decide +kernel) (by decide +kernel), by decide +kernel, by decide +kernel, by decide +kernel, by decide +kernel⟩
theorem gc_AN : gv_clok 11 ("GoalEngine$Answer", gF_AN, 7) := ⟨rfl, gc_in [349, 351, 353, 355, 357, 359, 361] (by decide +kernel) (by decide +kernel), by decide +kernel, by decide +kernel, by decide +kernel, by decide +kernel⟩
theorem gc_MO : gv_clok 12 ("GoalEngineModel", gF_MO, 50) := ⟨rfl, gc_in [994, 996, 998, 1000, 1002, 1004, 1006, 1008, 1010, 1012, 1014, 1016, 1018, 1020, 1022, 1024, 1026, 1028, 1030, 1032, 1034, 1036, 1038, 1040, 1042, 1044, 1046, 1048, 1050, 1052, 1054, 1056, 1058, 1060, 1062, 1064, 1066, 1068, 1070, 1072, 1074, 1076, 1078, 1080, 1082, 1084, 1086, 1088, 1090, 1092] (by decide +kernel) (by decide +kernel), by decide +kernel, by decide +kernel, by decide +kernel, by decide +kernel⟩
theorem gc_ok : ∀ ci r, gv_cl[ci]? = some r → gv_clok ci r := by
  intro ci r h
  match ci, h with
  | 0, h => cases h; exact gc_GE
  | 1, h => cases h; exact gc_RB
  | 2, h => cases h; exact gc_CL
  | 3, h => cases h; exact gc_SE
  | 4, h => cases h; exact gc_CE
  | 5, h => cases h; exact gc_TR
  | 6, h => cases h; exact gc_UN
  | 7, h => cases h; exact gc_CA
  | 8, h => cases h; exact gc_GO
  | 9, h => cases h; exact gc_CH
  | 10, h => cases h; exact gc_CO
  | 11, h => cases h; exact gc_AN
  | 12, h => cases h; exact gc_MO
  | n + 13, h => simp [gv_cl] at h
theorem gc_qi : ∃ r, gv_cl[gv_qi]? = some r ∧ r.1 = gv_qc := ⟨_, rfl, rfl⟩
end GCA
end
section
/-! gw: exceptions: one that a method throws, one that a caller catches -/
section GWA
theorem gv_Ga.add {G : gv_G} (h : gv_Ga G) {k : Nat} (hk : 1 ≤ k) (n : Nat) : G.2.1 (k + n) = G.2.1 k + n := by
  obtain ⟨j, rfl⟩ : ∃ j, k = j + 1 := ⟨k - 1, by omega⟩
  rw [h.2 j, show j + 1 + n = (j + n) + 1 by omega, h.2 (j + n)]
  omega
/-- more cells behind, the old ones as they were -/
theorem gv_w.more {G : gv_G} {h : gv_H} {H H1 : Heap} {acc : Nat × Nat} (hw : gv_w G h H) (hz : H.size ≤ H1.size) (oq : ∀ q : Nat, q < H.size → H1[q]? = H[q]?) : gv_w G (h.1 + (H1.size - H.size), acc, h.2.2) H1 := by
  obtain ⟨hg, h1, h2, h3⟩ := hw
  have hsz2 : G.2.2.2.2.2.1 ≤ H.size := by rw [h1]; exact hg.1.ge (by have := hg.2; omega)
  refine ⟨⟨hg.1, by show 1 ≤ h.1 + (H1.size - H.size); have := hg.2; omega⟩, ?_, fun q hq => (oq q (by omega)).trans (h2 q hq), fun j x hj => ?_⟩
  · show H1.size = G.2.1 (h.1 + (H1.size - H.size))
    rw [hg.1.add hg.2, ← h1]
    omega
  · obtain ⟨q1, q2⟩ := h3 j x hj
    have hlt : G.2.1 j < H.size := by
      have := hg.1.add (n := h.1 - 1 - (j - 1)) (k := 1) (Nat.le_refl _)
      rw [h1]
      have g0 := hg.1.1
      have g2 := hg.2
      cases j with
      | zero =>
        have := hg.1.ge (k := h.1) (by omega)
        omega
      | succ j =>
        rw [hg.1.2 j]
        obtain ⟨k, hk⟩ : ∃ k, h.1 = k + 1 := ⟨h.1 - 1, by omega⟩
        rw [hk, hg.1.2 k]
        omega
    exact ⟨by show j < h.1 + (H1.size - H.size); omega, q2.kept (oq _ hlt)⟩
variable {p : Program} {l : Launch} {e : Env} {R : Room} {s : State} {m : MethodId} {args9 : Array Value} {below : List Frame} {meth : Method} {c : Code} {T : State} {locs : List Loc} {cells slots : Nat}
/-- the frame as it stands, taken as a method's beginning -/
theorem gx_anew (X : Stand p l e R s m args9 below meth c T locs cells slots) {k n : Nat} (hc : cells + k ≤ R.cells) (hs : slots + n ≤ R.slots) :
    Stand p l e { frames := R.frames, locals := R.locals, cells := k, slots := n } ((T.setVm s.vm).setFrames (.invoking m args9 :: below)) m args9 below meth c T [] 0 0 := by
  have htop : (T.setVm s.vm).topJava?.isSome := X.here.top
  have hF : ((T.setVm s.vm).setFrames (.invoking m args9 :: below)).frames = .invoking m args9 :: below := State.frames_setFrames _ (State.cur_lt_of_top htop)
  obtain ⟨g₀, hg0⟩ := Option.isSome_iff_exists.mp htop
  obtain ⟨r, hr⟩ := State.topJava?_eq_some.mp hg0
  have hl9 : e.platform.stackLimits (T.setVm s.vm).me = e.platform.stackLimits s.me := X.limits
  have hb9 : (T.setVm s.vm).me.stackBytes = s.me.stackBytes := X.bytes
  have hU : ((T.setVm s.vm).setFrames (.invoking m args9 :: below)).localsInUse = s.localsInUse := by
    rw [State.localsInUse_invoking hF (meth := meth) (c := c) X.method X.code, State.localsInUse_invoking X.frames X.method X.code]
  have hroom : ((T.setVm s.vm).setFrames (.invoking m args9 :: below)).hasRoom e.platform { frames := R.frames, locals := R.locals, cells := k, slots := n } = true := by
    have h := X.room
    have q1 := X.heapSize
    have q2 := X.used
    simp only [State.hasRoom, Bool.and_eq_true, decide_eq_true_eq] at h ⊢
    obtain ⟨⟨⟨⟨h1, h2, h3, h4, h5, h6⟩, h7⟩, h8⟩, h9⟩ := h
    rw [X.frames, List.length_cons] at h2 h3
    simp only [hF, hU, List.length_cons, State.stackLimits_setFrames, State.stackBytes_setFrames, hl9, hb9]
    have g7 : T.heap.size + k ≤ e.platform.maxCells := by omega
    have g8 : T.slotsUsed + n ≤ e.platform.maxSlots := by omega
    exact ⟨⟨⟨⟨by omega, by omega, by omega, by omega, by omega, h6⟩, g7⟩, g8⟩, X.book⟩
  have hlast : ((T.heap.toList.drop T.heap.size).map (·.slots.size)).sum = 0 := by
    rw [List.drop_eq_nil_of_le (Nat.le_of_eq Array.length_toList)]
    rfl
  refine ⟨X.admits, X.cas, X.clock, hF, hroom, X.hears, X.method, X.code, X.here, X.tail, X.warmed, by rw [State.stackLimits_setFrames]; rfl, by rw [State.stackBytes_setFrames]; rfl,
    ?_, Nat.le_refl _, Nat.le_refl _, ?_, Nat.le_of_eq hlast, fun a c9 h9 => ⟨c9, h9, rfl, rfl, fun _ _ => rfl⟩⟩
  · obtain ⟨t, ht, -⟩ := State.frames_cons hr
    show T.setVm s.vm = { ((T.setVm s.vm).setFrames (.invoking m args9 :: below)).setFrames (T.setVm s.vm).frames with heap := T.heap, slotsUsed := T.slotsUsed }
    rw [State.setFrames_setFrames, State.setFrames_self ht]
    rfl
  · show T.slotsUsed = T.slotsUsed + ((T.heap.toList.drop T.heap.size).map (·.slots.size)).sum
    rw [hlast]
    rfl
theorem gx_old {U : State} {k n : Nat} (h : s.sameButNew ({ U with vm := s.vm } : State) [] k n) : s.heap.size ≤ U.heap.size ∧ ∀ q : Nat, q < s.heap.size → U.heap[q]? = s.heap[q]? := by
  obtain ⟨-, h2, -, -, -, h6⟩ := h
  refine ⟨h2, fun q hq => ?_⟩
  obtain ⟨c9, e1, e2, e3, e4⟩ := h6 q _ (Array.getElem?_eq_getElem hq)
  have hs : c9.slots = (s.heap[q]).slots := Array.ext_getElem? fun i => e4 i (fun hm => nomatch hm)
  have h9 : c9 = s.heap[q] := by
    rw [hs] at e2
    exact e2
  have e5 : U.heap[q]? = some c9 := e1
  rw [e5, h9, Array.getElem?_eq_getElem hq]
/-- a word of a throw: one of the four that speak of the heap, or a good one of the tables -/
def gx_hw (w : Jvm.Cond) : Bool := decide (w = .isRef (.static "java/lang/Throwable" "UNASSIGNED_STACK" "[Ljava/lang/StackTraceElement;")) || decide (w = .isRef (.static "java/lang/Throwable" "SUPPRESSED_SENTINEL" "Ljava/util/List;")) || decide (w = .laysStatic "java/lang/Throwable" "UNASSIGNED_STACK" "[Ljava/lang/StackTraceElement;") || decide (w = .laysStatic "java/lang/Throwable" "SUPPRESSED_SENTINEL" "Ljava/util/List;")
def gx_ok (w : Jvm.Cond) : Bool := gx_hw w || (decide (w ∈ gv_T) && gv_gd w)
theorem gx_words {G : gv_G} {s : State} (hK : gv_K G s) (h1 : gx_st "UNASSIGNED_STACK" "[Ljava/lang/StackTraceElement;" s s.heap G.2.2.2.2.2.1) (h2 : gx_st "SUPPRESSED_SENTINEL" "Ljava/util/List;" s s.heap G.2.2.2.2.2.1) {L : List Jvm.Cond} (hL : L.all gx_ok = true) (args : Array Value) : ∀ w ∈ L, w.before args s = true := by
  intro w hw
  have h := List.all_eq_true.mp hL w hw
  unfold gx_ok at h
  rw [Bool.or_eq_true] at h
  rcases h with h | h
  · unfold gx_hw at h
    rw [Bool.or_eq_true, Bool.or_eq_true, Bool.or_eq_true, decide_eq_true_eq, decide_eq_true_eq, decide_eq_true_eq, decide_eq_true_eq] at h
    rcases h with ((h | h) | h) | h <;> rw [h]
    · exact h1.isRef
    · exact h2.isRef
    · exact h1.lays
    · exact h2.lays
  · rw [Bool.and_eq_true, decide_eq_true_eq] at h
    obtain ⟨i, hi⟩ := List.getElem?_of_mem h.1
    exact hK.use i hi h.2 args
variable {G : gv_G} {y M : gv_M} {d : Nat} {r : gv_O} {hf h h1 : gv_H} {pc : Nat} {ls : gv_L} {st args : List gv_V}
/-- throw new E() -/
theorem gv_throw {cls : String} {names : List String} {ik ic w1 w2 : Nat} (hcls : Bundle.fit cls = true) (hnames : ∀ n ∈ names, Bundle.fit n = true) (hnl : names.length ≤ 4) (hk : gv_tw w1 (.classLink y.1.cls ik cls) = true) (hi : gv_tw w2 (.initialized cls) = true) (hat : (Bundle.ownAtoms0 y.1.cls ic cls names).all gx_ok = true)
    (hhh : y.2.2.2.2.2.2.2.2.2.2 = []) (hcat : gv_cs st ≤ 8) (d0 : decode y.2.1 pc = .ok (.new ik, 3)) (d3 : decode y.2.1 (pc + 3) = .ok (.dup, 1)) (d4 : decode y.2.1 (pc + 4) = .ok (.invokespecial ic, 3)) (d7 : decode y.2.1 (pc + 7) = .ok (.athrow, 1)) :
    gv_go G y d (.inr (.inl cls)) (h.1, (h.2.1.1 + 1, h.2.1.2 + 6), h.2.2) pc ls st h := by
  refine ⟨⟨Nat.le_succ _, Nat.le_add_right _ _⟩, fun h0 p e s m args9 below meth c H locs A q1 q2 X hw hl hA => ?_⟩
  intro T hT XX
  have hK := X.2.2.2.2.1
  have htr : e.platform.stackTraces = false := (show e.platform.stackTraces = G.1.stackTraces by rw [XX.admits.platform]).trans hK.2.2.2.1
  have hcc : h.2.1.1 - h0.2.1.1 + 1 ≤ h.2.1.1 + 1 - h0.2.1.1 := by omega
  have hss : h.2.1.2 - h0.2.1.2 + 6 ≤ h.2.1.2 + 6 - h0.2.1.2 := by omega
  have Y := gx_anew XX (k := 1) (n := 6) hcc hss
  obtain ⟨s', hs'⟩ : ∃ z, z = (T.setVm s.vm).setFrames (.invoking m args9 :: below) := ⟨_, rfl⟩
  rw [← hs'] at Y
  have hvm : s'.vm = s.vm := by rw [hs']; rfl
  have hhp : s'.heap = H := by rw [hs']; exact hT
  have hK' : gv_K G s' := hK.same hvm.symm
  have hU' : gx_st "UNASSIGNED_STACK" "[Ljava/lang/StackTraceElement;" s' s'.heap G.2.2.2.2.2.1 := gx_st.moved (Vm.Alike.refl _) (fun q hq => by rw [hhp]; exact hw.2.2.1 q hq) hK'.2.2.2.2.2.1
  have hN' : gx_st "SUPPRESSED_SENTINEL" "Ljava/util/List;" s' s'.heap G.2.2.2.2.2.1 := gx_st.moved (Vm.Alike.refl _) (fun q hq => by rw [hhp]; exact hw.2.2.1 q hq) hK'.2.2.2.2.2.2
  have hwd := gx_words hK' hU' hN' hat args9
  have hown' : s'.vm.findClass y.1.cls = some m.cls := by rw [hvm]; exact X.2.2.2.1
  have hins : (Jvm.Cond.instantiable cls 6).before args9 s' = true := hwd _ (by simp [Bundle.ownAtoms0])
  have hout : ∀ x ∈ c.exceptionTable.toList, covers x (pc + 7) = false := by
    intro x hx
    have h9 := X.2.2.2.2.2.2.2.2
    rw [hhh] at h9
    rw [List.map_eq_nil_iff.mp h9] at hx
    cases hx
  obtain ⟨vm₁, cX, kX, hfX, hkX, -, -, X₁, st1⟩ := Y.newCold X.1 (own := y.1.cls) (C := cls) (index := ik) (n := 6) hown' (gv_tw_use hK' hk args9) hins (gv_tw_use hK' hi args9)
    (g := F0 m pc A (st.map (gv_v G.2.1))) rfl (by rw [X.2.1]; exact d0) (Nat.le_refl _) (Nat.le_refl _)
  generalize hT1 : (T.setVm vm₁).pushCell { cls := cX, slots := kX.instanceTypes.map defaultValue, vm := .none } = T1 at X₁ st1
  have hcat9 : (Value.ref T.heap.size).category = 1 := rfl
  have hcellA : T1.heap[T.heap.size]? = some (freshCell cX kX) := by rw [← hT1]; exact State.heap_pushCell_size _ _
  have d3' : decode c.code (pc + 3) = .ok (.dup, 1) := by rw [X.2.1]; exact d3
  have hexec := X.1
  obtain ⟨U, hsteps, hrun, hend, hW, hsame, ce, hce, hO⟩ := X₁.ctorThrow0 X.1 htr (own := y.1.cls) (cls := cls) (names := names) (ic := ic) hown' hcls hnames hwd (fun x hx => nomatch hx) hfX hkX hcellA (by rw [hhp, hT]; exact Nat.le_refl _)
    (g := { method := m, pc := pc + 4, locals := A, stack := .ref T.heap.size :: .ref T.heap.size :: st.map (gv_v G.2.1), locked := none }) rfl (hA.1.trans X.2.2.1.symm) rfl rfl (rest := st.map (gv_v G.2.1)) rfl
    (by rw [X.2.1]; exact d4) (by rw [X.2.1]; exact d7) hout (by show names.length + 3 < d + 8; omega) (by
      show 2 * 0 + ((Value.ref T.heap.size :: st.map (gv_v G.2.1)).map fun v => v.category).sum + (13 * (names.length + 1) + 41) ≤ 64 * d + 200
      simp only [List.map_cons, List.sum_cons, hcat9]
      rw [gv_cs_sum]
      omega) X.2.2.2.2.2.2.1
  obtain ⟨f1, f2⟩ := gx_old hsame
  rw [hhp] at f1 f2
  have hWs : s.WarmedH U.vm := by
    have hW0 : s.WarmedH s'.vm := by rw [hvm]; exact State.WarmedH.refl s
    exact State.WarmedH.trans hW0 hW
  have hcl : s.vm.findClass cls = some ce.cls := by
    have h9 := hO.cls
    rw [hvm] at h9
    exact h9
  have hall : s.sameButNew ({ U with vm := s.vm } : State) locs (h.2.1.1 + 1 - h0.2.1.1) (h.2.1.2 + 6 - h0.2.1.2) := by
    subst hs'
    obtain ⟨e1, e2⟩ := hsame
    rw [State.setFrames_setFrames] at e1
    have h2 : (T.setVm s.vm).sameButNew ({ U with vm := s.vm } : State) [] (0 + 1) (0 + 6) := ⟨e1, e2⟩
    have h3 := XX.same.trans h2
    rw [List.append_nil] at h3
    exact h3.mono hcc hss
  refine ⟨U, ?_, T.heap.size, hrun, hend, ce, locs, U.heap.size - H.size, hce, hO.vm, hcl, hWs, hall, hl, hw.more f1 f2⟩
  refine st1 _ ?_
  show Steps p.tables e below (T1.setTop { method := m, pc := pc + 3, locals := A, stack := .ref T.heap.size :: st.map (gv_v G.2.1), locked := none }) _
  jvm_step X₁.here [X₁.here.top, hexec, d3', Value.category]
  exact hsteps
theorem gv_stn_has {z : Nat → Nat} {nL : Nat} {A : Array Slot} {ls : gv_L} {i : Nat} {v : Value} (h : lv_has A nL ((i, v) :: (gv_ll z ls).filter (fun q => !(q.1 == i) && !(q.1 + 1 == i && q.2.category == 2)))) : gv_ls z nL A ((gv_kill ls i).set i none) := by
  refine ⟨h.1, h.2.1, fun j u hj => ?_⟩
  by_cases e : i = j
  · subst e
    rw [List.getElem?_set_self'] at hj
    revert hj
    cases (gv_kill ls i)[i]? <;> simp
  · rw [List.getElem?_set_ne e] at hj
    obtain ⟨h1, h2⟩ := gv_kill_at hj
    refine h.2.2 (j, gv_v z u) (List.mem_cons_of_mem _ (List.mem_filter.mpr ⟨gv_ll_mem h1, ?_⟩))
    by_cases e2 : j + 1 = i
    · have h3 : ¬ (gv_v z u).category = 2 := fun q => h2 ⟨e2, gv_cat.mp q⟩
      simp [Ne.symm e, e2, h3]
    · simp [Ne.symm e, e2]
/-- a call that throws, caught by a row of this method's table; the handler puts the exception away -/
theorem gv_callVX {x wp b ci hpc k9 sp ep ct wl wc : Nat} {rr : vw_C} {fs : List gv_V} {E nm : String} {q9 : Fin 4} (pre suf : List (Nat × Nat × Nat × Nat)) (hM : gv_mok M = true) (hh0 : M.2.2.2.2.2.2.2.2.2.2 = []) (hs : gv_tw M.2.2.2.2.2.2.2.1 (.instanceMethod M.1) = true) (hse : gv_tw M.2.2.2.2.2.2.2.2.1 (.selects M.1.cls M.1 M.1) = true) (hlk : gv_tw wp (.methodLink y.1.cls x M.1) = true) (hd : decode y.2.1 pc = .ok (.invokevirtual x, 3)) (hn : args.length = M.2.2.2.2.2.2.2.2.2.1) (hcat : gv_cs st ≤ 8)
    (hb : h.2.2 b = some (Sum.inr (ci, fs))) (hci : gv_cl[ci]? = some rr) (hrr : rr.1 = M.1.cls)
    (hE : gv_ev G d M (gR b :: args) h (.inr (.inl E)) h1)
    (hsplit : y.2.2.2.2.2.2.2.2.2.2 = pre ++ (sp, ep, hpc, ct) :: suf) (hpass : ∀ z ∈ pre, z.2.2.2 ≠ 0 ∧ ∃ (w : Nat) (n : String), gv_tw w (.classLink y.1.cls z.2.2.2 n) = true ∧ (E, n) ∈ gx_nc) (hcov : sp ≤ pc ∧ pc < ep) (hct : ct ≠ 0)
    (hlink : gv_tw wl (.classLink y.1.cls ct nm) = true) (hcast : gv_tw wc (.castable E nm) = true) (dh : decode y.2.1 hpc = .ok (.astore_n q9, 1)) (hq9 : (q9 : Nat) = k9) (hk9 : k9 < y.2.2.1)
    (k : ∀ δ : Nat, gv_go G y (d + 1) r hf (hpc + 1) ((gv_kill ls k9).set k9 none) [] (h1.1 + δ, h1.2)) : gv_go G y (d + 1) r hf pc ls (args.reverse ++ gR b :: st) h := by
  have hE1 := hE.1
  have hk1 : h1.2.1.1 ≤ hf.2.1.1 ∧ h1.2.1.2 ≤ hf.2.1.2 := (k 0).1
  refine ⟨⟨by omega, by omega⟩, fun h0 p e s m args9 below meth c H locs A q1 q2 X hw hl hA => ?_⟩
  have hK := X.2.2.2.2.1
  have hM9 := hM
  unfold gv_mok at hM9
  rw [Bool.and_eq_true, Bool.and_eq_true, decide_eq_true_eq] at hM9
  obtain ⟨⟨m1, m2⟩, m3, m4, m5, m6⟩ := hM9
  obtain ⟨cellB, c1, c2, c3⟩ := va_recv hK.2.1 (gv_one hw hb) hci (q0 := 0) rfl
  rw [hrr] at c3
  intro T hT XX
  have hpl : e.platform.magicAccessors = ({} : Platform).magicAccessors := by rw [XX.admits.platform]
  obtain ⟨mk, methM, hnamed, hmethM, hstM, habM⟩ := Cond.instanceMethod_spec (gv_tw_use hK hs args9)
  obtain ⟨mk2, methM2, cM, hnamed2, hmethM2, hcodeM, -, hlocM, -, -, -, hsigM⟩ := gv_cwd_spec (gv_tw_use hK m1 args9)
  cases hnamed.symm.trans hnamed2
  cases hmethM.symm.trans hmethM2
  obtain ⟨cc2, r2, mm2, s1, s2, s3, s4, kP, hkP, hkPi⟩ := Cond.selects_spec (gv_tw_use hK hse args9)
  cases c3.symm.trans s1
  cases (State.methodFound?_of_named hnamed ⟨m3, m4⟩).symm.trans s2
  cases hnamed.symm.trans s3
  have hselP : selectMethod e.platform s.vm cellB.cls mk = .method mk := by rw [Launch.admits_selectMethod XX.admits]; exact s4
  have hlen : ∀ sig, parseMethodDescriptor M.1.desc = some sig → (args.map (gv_v G.2.1)).length = sig.parameters.length := by
    intro sig hsig
    rw [hsig] at m5
    rw [List.length_map, hn]
    exact (Option.some.inj m5).symm
  have hstack : (F0 m pc A ((args.reverse ++ gR b :: st).map (gv_v G.2.1))).stack = (args.map (gv_v G.2.1)).reverse ++ .ref (G.2.1 b) :: st.map (gv_v G.2.1) := by
    show (args.reverse ++ gR b :: st).map (gv_v G.2.1) = _
    rw [List.map_append, List.map_reverse]
    rfl
  have hdg : decode c.code (F0 m pc A ((args.reverse ++ gR b :: st).map (gv_v G.2.1))).pc = .ok (.invokevirtual x, 3) := by rw [X.2.1]; exact hd
  obtain ⟨vm₁, X₁, hstep₁⟩ := XX.invokevirtual X.1 X.2.2.2.1 (gv_tw_use hK hlk args9) hnamed hmethM hstM hkP hkPi ⟨m3, m4⟩ (a := G.2.1 b) (cell := cellB) (by rw [hT]; exact c1)
    (fun z hz => by rw [hz] at c2; cases c2) hselP hmethM habM hkP hkPi (g := F0 m pc A ((args.reverse ++ gR b :: st).map (gv_v G.2.1))) rfl (argsL := args.map (gv_v G.2.1)) (rest := st.map (gv_v G.2.1)) (hlen _ hsigM) hstack hdg
  generalize hg9 : ({ (F0 m pc A ((args.reverse ++ gR b :: st).map (gv_v G.2.1))) with stack := st.map (gv_v G.2.1) } : JFrame) = g at hstep₁
  have hgm : g.method = m := by rw [← hg9]
  have hgs : g.locals.size = c.maxLocals := by rw [← hg9]; exact hA.1.trans X.2.2.1.symm
  have hgd : decode c.code g.pc = .ok (.invokevirtual x, 3) := by rw [← hg9]; exact hdg
  have hgw : 2 * g.monitorRoom + (g.stack.map fun v => v.category).sum ≤ 8 := by
    rw [← hg9]
    show 2 * 0 + ((st.map (gv_v G.2.1)).map fun v => v.category).sum ≤ 8
    rw [gv_cs_sum]
    omega
  have hX1 := X₁.here
  have hnm1 : (T.setVm vm₁).methodNamed? M.1 = some mk := X₁.named hnamed
  obtain ⟨kY, hkY, -⟩ := className_of_methodNamed hnm1
  have hK1 : gv_K G (T.setVm vm₁) := hK.moved (U := T.setVm vm₁) X₁.warmed
  have hiniY : kY.init = .initialized := Cond.initialized_spec (findClass_of_methodNamed hnm1) hkY (gv_tw_use hK1 m2 (Value.ref (G.2.1 b) :: args.map (gv_v G.2.1)).toArray)
  obtain ⟨mk3, methM3, cM3, n3, mm3, cc3, -, ll3, -⟩ := gv_cwd_spec (gv_tw_use hK1 m1 (Value.ref (G.2.1 b) :: args.map (gv_v G.2.1)).toArray)
  cases hnm1.symm.trans n3
  have happ : (headSpec [gv_cwd M] (gv_room d (h1.2.1.1 - h.2.1.1) (h1.2.1.2 - h.2.1.2))).appliesLoose M.1 e.platform ((T.setVm vm₁).calling g mk (Value.ref (G.2.1 b) :: args.map (gv_v G.2.1)).toArray) = true := by
    refine Spec.appliesLoose_calling (g := g) (by rw [hgm]; exact hX1) hgd hnm1 hkY hiniY
      (X₁.room_calling (g := g) (R' := gv_room d (h1.2.1.1 - h.2.1.1) (h1.2.1.2 - h.2.1.2)) hgs mm3 cc3 (by show d + 8 + 1 ≤ d + 1 + 8; omega) (by rw [ll3]; show 2 * g.monitorRoom + (g.stack.map fun v => v.category).sum + (M.2.2.1 + 11) + (64 * d + 200) ≤ 64 * (d + 1) + 200; omega)
        (by show h.2.1.1 - h0.2.1.1 + (h1.2.1.1 - h.2.1.1) ≤ hf.2.1.1 - h0.2.1.1; omega) (by show h.2.1.2 - h0.2.1.2 + (h1.2.1.2 - h.2.1.2) ≤ hf.2.1.2 - h0.2.1.2; omega))
      (atoms_intro fun w hw9 => by rw [List.mem_singleton.mp hw9]; exact gv_tw_use hK1 m1 _)
  have hAt : At (T.setVm vm₁) g.method c below := by rw [hgm]; exact hX1
  obtain ⟨mid, hmid⟩ := hAt.above
  have hfr : ((T.setVm vm₁).setTop g).frames = (.java g :: mid) ++ below := by rw [State.frames_setTop' g hAt.top, hmid]; rfl
  obtain ⟨o, s₂, hsteps, -, hend, hq⟩ := Steps.callFree hE.2 p X₁.admits X₁.cas X₁.clock (acts := []) hfr happ (gv_blind _ _ _ _ ⟨rfl, hK1, by show gv_w G h T.heap; rw [hT]; exact hw⟩) trivial
  obtain ⟨q, rfl, ce, L, δ, hce, hcv, hcl, hW₂, hsm, hL, hwq⟩ := hq
  rw [State.frames_setTop' g hAt.top] at hend
  obtain ⟨g₀, hg0⟩ := Option.isSome_iff_exists.mp hAt.top
  obtain ⟨rr9, hr9⟩ := State.topJava?_eq_some.mp hg0
  generalize hU9 : T.setVm vm₁ = U at *
  have hr' : (({ U with heap := s₂.heap, slotsUsed := s₂.slotsUsed } : State).setVm s₂.vm).frames = .java g₀ :: rr9 := hr9
  obtain ⟨e2, z2, z3, z4, z5, z6⟩ := id hsm
  have e3 : s₂ = ({ (U.calling g mk (Value.ref (G.2.1 b) :: args.map (gv_v G.2.1)).toArray).setFrames s₂.frames with heap := s₂.heap, slotsUsed := s₂.slotsUsed } : State).setVm s₂.vm := by
    have : s₂ = ({ s₂ with vm := ((U.setTop g).pushFrame (.invoking mk (Value.ref (G.2.1 b) :: args.map (gv_v G.2.1)).toArray)).vm } : State).setVm s₂.vm := rfl
    rw [e2] at this
    exact this
  have hf₂ : s₂.frames = .throwing q :: .java g :: U.frames.tail := hend
  have hW' : U.WarmedH s₂.vm := hW₂
  have hs₂ : s₂ = ((({ U with heap := s₂.heap, slotsUsed := s₂.slotsUsed } : State).setVm s₂.vm).setTop g).pushFrame (.throwing q) := by
    refine e3.trans ?_
    rw [hf₂, State.calling_eq hAt.top, State.setFrames_setFrames, State.pushFrame, State.frames_setTop _ hr', State.setTop_of_frames _ hr', State.setFrames_setFrames, hr9]
    rfl
  have hsame : U.sameButNew ({ U with heap := s₂.heap, slotsUsed := s₂.slotsUsed } : State) L (h1.2.1.1 - h.2.1.1) (h1.2.1.2 - h.2.1.2) := by
    refine ⟨?_, z2, z3, z4, z5, z6⟩
    obtain ⟨t, ht, -⟩ := State.frames_cons hr9
    show ({ U with heap := s₂.heap, slotsUsed := s₂.slotsUsed } : State) = { U.setFrames U.frames with heap := s₂.heap, slotsUsed := s₂.slotsUsed }
    rw [State.setFrames_self ht]
  have X' : Stand p G.1 e (gv_room (d + 1) (hf.2.1.1 - h0.2.1.1) (hf.2.1.2 - h0.2.1.2)) s m args9 below meth c (({ U with heap := s₂.heap, slotsUsed := s₂.slotsUsed } : State).setVm s₂.vm) (locs ++ L) (h.2.1.1 - h0.2.1.1 + (h1.2.1.1 - h.2.1.1)) (h.2.1.2 - h0.2.1.2 + (h1.2.1.2 - h.2.1.2)) :=
    ⟨X₁.admits, X₁.cas, X₁.clock, X₁.frames, X₁.room, X₁.hears, X₁.method, X₁.code, (X₁.here.setHeapUsed s₂.heap s₂.slotsUsed).setVm hW'.alike, X₁.tail, State.WarmedH.trans X₁.warmed hW', X₁.limits, X₁.bytes, X₁.same.trans (hsame.setVm s.vm)⟩
  have hclS : s.vm.findClass E = some ce.cls := by
    have h9 : U.vm.findClass E = some ce.cls := hcl
    rw [X₁.warmed.alike.findClass] at h9
    exact h9
  have htab := X.2.2.2.2.2.2.2.2
  rw [hsplit] at htab
  obtain ⟨t1, t2, ht0, ht1, ht2⟩ := List.map_eq_append_iff.mp htab
  obtain ⟨xr, t3, rfl, hxr, ht3⟩ := List.map_eq_cons_iff.mp ht2
  cases hxr
  obtain ⟨c3', c4, hc3, hc4, hasg⟩ := Cond.castable_spec (gv_tw_use hK hcast args9)
  cases Option.some.inj (hc3.symm.trans hclS)
  obtain ⟨c5, hc5, hcl5⟩ := Cond.classLink_spec X.2.2.2.1 (gv_tw_use hK hlink args9) e.platform hpl
  cases Option.some.inj (hc4.symm.trans hc5)
  have hcovx : covers xr g.pc = true := by
    rw [← hg9]
    simp only [covers]
    simp [hcov.1, hcov.2]
  obtain ⟨vm', XV, stV⟩ := X'.thenCaughtThrough q (g := g) hgm (Steps.refl _) hce (by rw [hcv]; rfl) (by obtain ⟨k8, h8, -⟩ := Vm.findClass_spec hclS; exact ⟨k8, h8⟩) t1 xr t3 ht0
    (fun z hz => by
      have hz2 : (z.startPc, z.endPc, z.handlerPc, z.catchType) ∈ pre := by rw [← ht1]; exact List.mem_map.mpr ⟨z, hz, rfl⟩
      obtain ⟨hz0, w8, n8, hl8, hn8⟩ := hpass _ hz2
      obtain ⟨c6, hc6, hcl6⟩ := Cond.classLink_spec X.2.2.2.1 (gv_tw_use hK hl8 args9) e.platform hpl
      obtain ⟨a8, b8, g1, g2, g3⟩ := hK.2.2.2.2.1 _ hn8
      cases Option.some.inj (g1.symm.trans hclS)
      cases Option.some.inj (g2.symm.trans hc6)
      exact Or.inr ⟨hz0, _, hcl6, g3⟩) hcovx (Or.inr ⟨hct, c4, hcl5, hasg⟩)
  have hW9 := lv_astore_n (p := p) (l := G.1) (e := e) (R := gv_room (d + 1) (hf.2.1.1 - h0.2.1.1) (hf.2.1.2 - h0.2.1.2)) (s := s) (m := m) (args := args9) (below := below) (meth := meth) (c := c) (H := s₂.heap) (locs := locs ++ L) (cells := h1.2.1.1 - h0.2.1.1) (slots := h1.2.1.2 - h0.2.1.2) (Q := gv_fin G r hf below args9 s (hf.2.1.1 - h0.2.1.1) (hf.2.1.2 - h0.2.1.2)) (x := q) (rest := []) X.1 X.2.1 dh hq9 (gv_ll_has hA) hk9 rfl
    (fun A1 hA1 => (k δ).2 h0 p e s m args9 below meth c s₂.heap (locs ++ L) A1 (by show h0.2.1.1 ≤ h1.2.1.1; omega) (by show h0.2.1.2 ≤ h1.2.1.2; omega) X hwq (fun z hz => (List.mem_append.mp hz).elim (hl z) (hL z)) (gv_stn_has hA1))
  rw [show h.2.1.1 - h0.2.1.1 + (h1.2.1.1 - h.2.1.1) = h1.2.1.1 - h0.2.1.1 by omega, show h.2.1.2 - h0.2.1.2 + (h1.2.1.2 - h.2.1.2) = h1.2.1.2 - h0.2.1.2 by omega] at XV
  obtain ⟨t, a1, b1⟩ := hW9 ((({ U with heap := s₂.heap, slotsUsed := s₂.slotsUsed } : State).setVm s₂.vm).setVm vm') rfl XV
  refine ⟨t, hstep₁ _ (fun acts => ?_), b1⟩
  rw [doInvoke_state]
  refine Steps.trans hsteps ?_
  rw [hs₂]
  refine Steps.trans stV ?_
  have e9 : ({ g with pc := xr.handlerPc, stack := [.ref q] } : JFrame) = F0 m xr.handlerPc A [.ref q] := by rw [← hg9]
  rw [e9]
  exact a1
end GWA
end
section
/-! code tables (written by wip/tools) -/
theorem gv_ok_of {y : gv_M} (h : y.2.2.2.2.1.all (gv_okq y) = true) : gv_ok y := List.all_eq_true.mp h
def M_GE_init : gv_M := (⟨"GoalEngine", "<init>", "()V"⟩, prog_1_method_1_code, 1, none, [(0, (5, 0, 0, 0, 0, 0, 1, [])),
  (1, (84, 0, 0, 99, 100, 98, 4, [])),
  (4, (5, 0, 0, 0, 0, 0, 5, [])),
  (5, (1, 30, 0, 0, 0, 0, 7, [])),
  (7, (82, 0, 0, 0, 0, 133, 9, [])),
  (9, (80, 0, 0, 0, 0, 406, 12, [])),
  (12, (5, 0, 0, 0, 0, 0, 13, [])),
  (13, (1, 0, 0, 0, 0, 0, 14, [])),
  (14, (80, 0, 0, 0, 1, 407, 17, [])),
  (17, (5, 0, 0, 0, 0, 0, 18, [])),
  (18, (81, 0, 0, 1, 0, 101, 21, [])),
  (21, (40, 0, 0, 0, 0, 0, 22, [])),
  (22, (85, 0, 0, 0, 16, 103, 25, [])),
  (25, (80, 0, 0, 0, 2, 408, 28, [])),
  (28, (5, 0, 0, 0, 0, 0, 29, [])),
  (29, (81, 0, 0, 3, 0, 143, 32, [])),
  (32, (40, 0, 0, 0, 0, 0, 33, [])),
  (33, (5, 0, 0, 0, 0, 0, 34, [])),
  (34, (70, 0, 0, 0, 2, 408, 37, [])),
  (37, (85, 0, 0, 0, 21, 145, 40, [])),
  (40, (80, 0, 0, 0, 3, 409, 43, [])),
  (43, (91, 0, 0, 0, 0, 0, 0, []))], (97, 68, 96, 0, 0, []))
theorem ok_GE_init : gv_ok M_GE_init := gv_ok_of (by decide +kernel)
theorem mk_GE_init : gv_msI M_GE_init = true := by decide +kernel

def M_GE_put : gv_M := (⟨"GoalEngine", "put", "(I)I"⟩, prog_1_method_2_code, 2, some .int, [(0, (3, 0, 0, 1, 0, 0, 1, [])),
  (1, (87, 0, 0, 0, 12, 546, 4, [])),
  (4, (51, 0, 0, 15, 0, 0, 7, [])),
  (7, (95, 0, 0, 0, 0, 549, 10, [])),
  (10, (40, 0, 0, 0, 0, 0, 11, [])),
  (15, (5, 0, 0, 0, 0, 0, 16, [])),
  (16, (70, 0, 0, 0, 1, 407, 19, [])),
  (19, (1, 30, 0, 0, 0, 0, 21, [])),
  (21, (58, 0, 0, 32, 0, 0, 24, [])),
  (24, (95, 0, 0, 0, 0, 614, 27, [])),
  (27, (40, 0, 0, 0, 0, 0, 28, [])),
  (32, (5, 0, 0, 0, 0, 0, 33, [])),
  (33, (70, 0, 0, 0, 0, 406, 36, [])),
  (36, (5, 0, 0, 0, 0, 0, 37, [])),
  (37, (70, 0, 0, 0, 1, 407, 40, [])),
  (40, (3, 0, 0, 1, 0, 0, 41, [])),
  (41, (76, 0, 0, 0, 0, 0, 42, [])),
  (42, (5, 0, 0, 0, 0, 0, 43, [])),
  (43, (40, 0, 0, 0, 0, 0, 44, [])),
  (44, (70, 0, 0, 0, 1, 407, 47, [])),
  (47, (1, 1, 0, 0, 0, 0, 48, [])),
  (48, (20, 0, 0, 0, 0, 0, 49, [])),
  (49, (80, 0, 0, 0, 1, 407, 52, [])),
  (52, (5, 0, 0, 0, 0, 0, 53, [])),
  (53, (70, 0, 0, 0, 1, 407, 56, [])),
  (56, (90, 0, 0, 0, 0, 0, 0, []))], (545, 68, 543, 544, 1, []))
theorem ok_GE_put : gv_ok M_GE_put := gv_ok_of (by decide +kernel)
theorem mk_GE_put : gv_msV M_GE_put = true := by decide +kernel

def M_GE_rule : gv_M := (⟨"GoalEngine", "rule", "()I"⟩, prog_1_method_3_code, 2, some .int, [(0, (5, 0, 0, 0, 0, 0, 1, [])),
  (1, (70, 0, 0, 0, 2, 408, 4, [])),
  (4, (70, 0, 0, 1, 1, 137, 7, [])),
  (7, (1, 16, 0, 0, 0, 0, 9, [])),
  (9, (59, 0, 0, 22, 0, 0, 12, [])),
  (12, (5, 0, 0, 0, 0, 0, 13, [])),
  (13, (70, 0, 0, 0, 3, 409, 16, [])),
  (16, (70, 0, 0, 3, 11, 376, 19, [])),
  (19, (50, 0, 0, 30, 0, 0, 22, [])),
  (22, (95, 0, 0, 0, 0, 614, 25, [])),
  (25, (40, 0, 0, 0, 0, 0, 26, [])),
  (30, (5, 0, 0, 0, 0, 0, 31, [])),
  (31, (86, 0, 0, 0, 11, 636, 34, [])),
  (34, (6, 0, 0, 1, 0, 0, 35, [])),
  (35, (5, 0, 0, 0, 0, 0, 36, [])),
  (36, (70, 0, 0, 0, 0, 406, 39, [])),
  (39, (3, 0, 0, 1, 0, 0, 40, [])),
  (40, (87, 0, 0, 0, 13, 640, 43, [])),
  (43, (51, 0, 0, 54, 0, 0, 46, [])),
  (46, (95, 0, 0, 0, 0, 549, 49, [])),
  (49, (40, 0, 0, 0, 0, 0, 50, [])),
  (54, (5, 0, 0, 0, 0, 0, 55, [])),
  (55, (70, 0, 0, 0, 2, 408, 58, [])),
  (58, (5, 0, 0, 0, 0, 0, 59, [])),
  (59, (70, 0, 0, 0, 0, 406, 62, [])),
  (62, (3, 0, 0, 1, 0, 0, 63, [])),
  (63, (86, 0, 0, 0, 17, 648, 66, [])),
  (66, (5, 0, 0, 0, 0, 0, 67, [])),
  (67, (70, 0, 0, 0, 2, 408, 70, [])),
  (70, (70, 0, 0, 1, 1, 137, 73, [])),
  (73, (90, 0, 0, 0, 0, 0, 0, []))], (635, 68, 633, 634, 0, []))
theorem ok_GE_rule : gv_ok M_GE_rule := gv_ok_of (by decide +kernel)
theorem mk_GE_rule : gv_msV M_GE_rule = true := by decide +kernel

def M_GE_ask : gv_M := (⟨"GoalEngine", "ask", "()I"⟩, prog_1_method_4_code, 2, some .int, [(0, (5, 0, 0, 0, 0, 0, 1, [])),
  (1, (86, 0, 0, 0, 11, 636, 4, [])),
  (4, (6, 0, 0, 1, 0, 0, 5, [])),
  (5, (5, 0, 0, 0, 0, 0, 6, [])),
  (6, (70, 0, 0, 0, 0, 406, 9, [])),
  (9, (3, 0, 0, 1, 0, 0, 10, [])),
  (10, (87, 0, 0, 0, 14, 643, 13, [])),
  (13, (51, 0, 0, 24, 0, 0, 16, [])),
  (16, (95, 0, 0, 0, 0, 549, 19, [])),
  (19, (40, 0, 0, 0, 0, 0, 20, [])),
  (24, (5, 0, 0, 0, 0, 0, 25, [])),
  (25, (70, 0, 0, 0, 3, 409, 28, [])),
  (28, (5, 0, 0, 0, 0, 0, 29, [])),
  (29, (70, 0, 0, 0, 0, 406, 32, [])),
  (32, (3, 0, 0, 1, 0, 0, 33, [])),
  (33, (86, 0, 0, 0, 22, 665, 36, [])),
  (36, (5, 0, 0, 0, 0, 0, 37, [])),
  (37, (70, 0, 0, 0, 3, 409, 40, [])),
  (40, (86, 0, 0, 0, 33, 730, 43, [])),
  (43, (90, 0, 0, 0, 0, 0, 0, []))], (664, 68, 662, 663, 0, []))
theorem ok_GE_ask : gv_ok M_GE_ask := gv_ok_of (by decide +kernel)
theorem mk_GE_ask : gv_msV M_GE_ask = true := by decide +kernel

def M_GE_solve : gv_M := (⟨"GoalEngine", "solve", "(I)I"⟩, prog_1_method_5_code, 4, some .int, [(0, (3, 0, 0, 1, 0, 0, 1, [])),
  (1, (1, 1, 0, 0, 0, 0, 2, [])),
  (2, (58, 0, 0, 11, 0, 0, 5, [])),
  (5, (3, 0, 0, 1, 0, 0, 6, [])),
  (6, (1, 20, 0, 0, 0, 0, 8, [])),
  (8, (61, 0, 0, 19, 0, 0, 11, [])),
  (11, (95, 0, 0, 0, 0, 549, 14, [])),
  (14, (40, 0, 0, 0, 0, 0, 15, [])),
  (19, (5, 0, 0, 0, 0, 0, 20, [])),
  (20, (70, 0, 0, 0, 3, 409, 23, [])),
  (23, (70, 0, 0, 3, 11, 376, 26, [])),
  (26, (1, 1, 0, 0, 0, 0, 27, [])),
  (27, (56, 0, 0, 38, 0, 0, 30, [])),
  (30, (95, 0, 0, 0, 0, 614, 33, [])),
  (33, (40, 0, 0, 0, 0, 0, 34, [])),
  (38, (1, 0, 0, 0, 0, 0, 39, [])),
  (39, (6, 0, 0, 2, 0, 0, 40, [])),
  (40, (1, 0, 0, 0, 0, 0, 41, [])),
  (41, (6, 0, 0, 3, 0, 0, 42, [])),
  (42, (3, 0, 0, 3, 0, 0, 43, [])),
  (43, (3, 0, 0, 1, 0, 0, 44, [])),
  (44, (59, 0, 0, 79, 0, 0, 47, [])),
  (47, (5, 0, 0, 0, 0, 0, 48, [])),
  (48, (70, 0, 0, 0, 3, 409, 51, [])),
  (51, (86, 0, 0, 0, 23, 743, 54, [])),
  (54, (50, 0, 0, 79, 0, 0, 57, [])),
  (57, (5, 0, 0, 0, 0, 0, 58, [])),
  (58, (70, 0, 0, 0, 3, 409, 61, [])),
  (61, (86, 0, 0, 0, 25, 747, 64, [])),
  (64, (6, 0, 0, 2, 0, 0, 65, [])),
  (65, (5, 0, 0, 0, 0, 0, 66, [])),
  (66, (70, 0, 0, 0, 3, 409, 69, [])),
  (69, (3, 0, 0, 2, 0, 0, 70, [])),
  (70, (86, 0, 0, 0, 24, 834, 73, [])),
  (73, (9, 1, 0, 3, 0, 0, 76, [])),
  (76, (10, 0, 0, 42, 0, 0, 79, [])),
  (79, (3, 0, 0, 2, 0, 0, 80, [])),
  (80, (1, 2, 0, 0, 0, 0, 81, [])),
  (81, (57, 0, 0, 92, 0, 0, 84, [])),
  (84, (95, 0, 0, 0, 0, 846, 87, [])),
  (87, (40, 0, 0, 0, 0, 0, 88, [])),
  (92, (3, 0, 0, 2, 0, 0, 93, [])),
  (93, (1, 3, 0, 0, 0, 0, 94, [])),
  (94, (57, 0, 0, 105, 0, 0, 97, [])),
  (97, (95, 0, 0, 0, 0, 861, 100, [])),
  (100, (40, 0, 0, 0, 0, 0, 101, [])),
  (105, (5, 0, 0, 0, 0, 0, 106, [])),
  (106, (70, 0, 0, 0, 3, 409, 109, [])),
  (109, (70, 0, 0, 3, 11, 376, 112, [])),
  (112, (1, 2, 0, 0, 0, 0, 113, [])),
  (113, (57, 0, 0, 118, 0, 0, 116, [])),
  (116, (1, 1, 0, 0, 0, 0, 117, [])),
  (117, (90, 0, 0, 0, 0, 0, 0, [])),
  (118, (5, 0, 0, 0, 0, 0, 119, [])),
  (119, (70, 0, 0, 0, 3, 409, 122, [])),
  (122, (70, 0, 0, 3, 11, 376, 125, [])),
  (125, (51, 0, 0, 132, 0, 0, 128, [])),
  (128, (1, 0, 0, 0, 0, 0, 129, [])),
  (129, (10, 0, 0, 133, 0, 0, 132, [])),
  (132, (1, 2, 0, 0, 0, 0, 133, [])),
  (133, (90, 0, 0, 0, 0, 0, 0, []))], (742, 68, 740, 741, 1, []))
theorem ok_GE_solve : gv_ok M_GE_solve := gv_ok_of (by decide +kernel)
theorem mk_GE_solve : gv_msV M_GE_solve = true := by decide +kernel

def M_GE_next : gv_M := (⟨"GoalEngine", "next", "()Z"⟩, prog_1_method_6_code, 1, some .boolean, [(0, (5, 0, 0, 0, 0, 0, 1, [])),
  (1, (70, 0, 0, 0, 3, 409, 4, [])),
  (4, (70, 0, 0, 3, 11, 376, 7, [])),
  (7, (1, 2, 0, 0, 0, 0, 8, [])),
  (8, (56, 0, 0, 19, 0, 0, 11, [])),
  (11, (95, 0, 0, 0, 0, 614, 14, [])),
  (14, (40, 0, 0, 0, 0, 0, 15, [])),
  (19, (5, 0, 0, 0, 0, 0, 20, [])),
  (20, (70, 0, 0, 0, 3, 409, 23, [])),
  (23, (86, 0, 0, 0, 31, 883, 26, [])),
  (26, (5, 0, 0, 0, 0, 0, 27, [])),
  (27, (70, 0, 0, 0, 3, 409, 30, [])),
  (30, (70, 0, 0, 3, 11, 376, 33, [])),
  (33, (50, 0, 0, 40, 0, 0, 36, [])),
  (36, (1, 1, 0, 0, 0, 0, 37, [])),
  (37, (10, 0, 0, 41, 0, 0, 40, [])),
  (40, (1, 0, 0, 0, 0, 0, 41, [])),
  (41, (90, 0, 0, 0, 0, 0, 0, []))], (882, 68, 880, 881, 0, []))
theorem ok_GE_next : gv_ok M_GE_next := gv_ok_of (by decide +kernel)
theorem mk_GE_next : gv_msV M_GE_next = true := by decide +kernel

def M_GE_stop : gv_M := (⟨"GoalEngine", "stop", "()V"⟩, prog_1_method_7_code, 1, none, [(0, (5, 0, 0, 0, 0, 0, 1, [])),
  (1, (70, 0, 0, 0, 3, 409, 4, [])),
  (4, (1, 0, 0, 0, 0, 0, 5, [])),
  (5, (80, 0, 0, 3, 11, 376, 8, [])),
  (8, (91, 0, 0, 0, 0, 0, 0, []))], (422, 68, 420, 421, 0, []))
theorem ok_GE_stop : gv_ok M_GE_stop := gv_ok_of (by decide +kernel)
theorem mk_GE_stop : gv_msV M_GE_stop = true := by decide +kernel

def M_GE_collect : gv_M := (⟨"GoalEngine", "collect", "()I"⟩, prog_1_method_8_code, 1, some .int, [(0, (5, 0, 0, 0, 0, 0, 1, [])),
  (1, (70, 0, 0, 0, 3, 409, 4, [])),
  (4, (70, 0, 0, 3, 11, 376, 7, [])),
  (7, (51, 0, 0, 14, 0, 0, 10, [])),
  (10, (1, 0, 0, 0, 0, 0, 11, [])),
  (11, (10, 0, 0, 21, 0, 0, 14, [])),
  (14, (5, 0, 0, 0, 0, 0, 15, [])),
  (15, (70, 0, 0, 0, 3, 409, 18, [])),
  (18, (86, 0, 0, 0, 32, 427, 21, [])),
  (21, (90, 0, 0, 0, 0, 0, 0, []))], (426, 68, 424, 425, 0, []))
theorem ok_GE_collect : gv_ok M_GE_collect := gv_ok_of (by decide +kernel)
theorem mk_GE_collect : gv_msV M_GE_collect = true := by decide +kernel

def M_GE_count : gv_M := (⟨"GoalEngine", "count", "(I)I"⟩, prog_1_method_9_code, 2, some .int, [(0, (3, 0, 0, 1, 0, 0, 1, [])),
  (1, (62, 0, 0, 97, 0, 0, 44, [(0, 44), (1, 52), (2, 60), (3, 68), (4, 76), (5, 84), (6, 89)])),
  (44, (5, 0, 0, 0, 0, 0, 45, [])),
  (45, (70, 0, 0, 0, 3, 409, 48, [])),
  (48, (86, 0, 0, 0, 33, 730, 51, [])),
  (51, (90, 0, 0, 0, 0, 0, 0, [])),
  (52, (5, 0, 0, 0, 0, 0, 53, [])),
  (53, (70, 0, 0, 0, 3, 409, 56, [])),
  (56, (86, 0, 0, 0, 34, 891, 59, [])),
  (59, (90, 0, 0, 0, 0, 0, 0, [])),
  (60, (5, 0, 0, 0, 0, 0, 61, [])),
  (61, (70, 0, 0, 0, 3, 409, 64, [])),
  (64, (86, 0, 0, 0, 35, 895, 67, [])),
  (67, (90, 0, 0, 0, 0, 0, 0, [])),
  (68, (5, 0, 0, 0, 0, 0, 69, [])),
  (69, (70, 0, 0, 0, 3, 409, 72, [])),
  (72, (70, 0, 0, 3, 12, 378, 75, [])),
  (75, (90, 0, 0, 0, 0, 0, 0, [])),
  (76, (5, 0, 0, 0, 0, 0, 77, [])),
  (77, (70, 0, 0, 0, 2, 408, 80, [])),
  (80, (70, 0, 0, 1, 1, 137, 83, [])),
  (83, (90, 0, 0, 0, 0, 0, 0, [])),
  (84, (5, 0, 0, 0, 0, 0, 85, [])),
  (85, (70, 0, 0, 0, 1, 407, 88, [])),
  (88, (90, 0, 0, 0, 0, 0, 0, [])),
  (89, (5, 0, 0, 0, 0, 0, 90, [])),
  (90, (70, 0, 0, 0, 3, 409, 93, [])),
  (93, (86, 0, 0, 0, 36, 903, 96, [])),
  (96, (90, 0, 0, 0, 0, 0, 0, [])),
  (97, (95, 0, 0, 0, 0, 549, 100, [])),
  (100, (40, 0, 0, 0, 0, 0, 101, []))], (890, 68, 888, 889, 1, []))
theorem ok_GE_count : gv_ok M_GE_count := gv_ok_of (by decide +kernel)
theorem mk_GE_count : gv_msV M_GE_count = true := by decide +kernel

def M_GE_words : gv_M := (⟨"GoalEngine", "words", "()I"⟩, prog_1_method_10_code, 1, some .int, [(0, (5, 0, 0, 0, 0, 0, 1, [])),
  (1, (70, 0, 0, 0, 3, 409, 4, [])),
  (4, (86, 0, 0, 0, 37, 504, 7, [])),
  (7, (90, 0, 0, 0, 0, 0, 0, []))], (503, 68, 501, 502, 0, []))
theorem ok_GE_words : gv_ok M_GE_words := gv_ok_of (by decide +kernel)
theorem mk_GE_words : gv_msV M_GE_words = true := by decide +kernel

def M_GE_word : gv_M := (⟨"GoalEngine", "word", "(I)I"⟩, prog_1_method_11_code, 2, some .int, [(0, (3, 0, 0, 1, 0, 0, 1, [])),
  (1, (52, 0, 0, 15, 0, 0, 4, [])),
  (4, (3, 0, 0, 1, 0, 0, 5, [])),
  (5, (5, 0, 0, 0, 0, 0, 6, [])),
  (6, (70, 0, 0, 0, 3, 409, 9, [])),
  (9, (86, 0, 0, 0, 37, 504, 12, [])),
  (12, (58, 0, 0, 23, 0, 0, 15, [])),
  (15, (95, 0, 0, 0, 0, 915, 18, [])),
  (18, (40, 0, 0, 0, 0, 0, 19, [])),
  (23, (5, 0, 0, 0, 0, 0, 24, [])),
  (24, (70, 0, 0, 0, 3, 409, 27, [])),
  (27, (3, 0, 0, 1, 0, 0, 28, [])),
  (28, (86, 0, 0, 0, 38, 930, 31, [])),
  (31, (90, 0, 0, 0, 0, 0, 0, []))], (914, 68, 912, 913, 1, []))
theorem ok_GE_word : gv_ok M_GE_word := gv_ok_of (by decide +kernel)
theorem mk_GE_word : gv_msV M_GE_word = true := by decide +kernel

def M_GE_takeTyped : gv_M := (⟨"GoalEngine", "takeTyped", "()I"⟩, prog_1_method_12_code, 2, some .int, [(0, (5, 0, 0, 0, 0, 0, 1, [])),
  (1, (70, 0, 0, 0, 1, 407, 4, [])),
  (4, (6, 0, 0, 1, 0, 0, 5, [])),
  (5, (5, 0, 0, 0, 0, 0, 6, [])),
  (6, (1, 0, 0, 0, 0, 0, 7, [])),
  (7, (80, 0, 0, 0, 1, 407, 10, [])),
  (10, (3, 0, 0, 1, 0, 0, 11, [])),
  (11, (90, 0, 0, 0, 0, 0, 0, []))], (639, 68, 638, 13, 0, []))
theorem ok_GE_takeTyped : gv_ok M_GE_takeTyped := gv_ok_of (by decide +kernel)
theorem mk_GE_takeTyped : gv_msV M_GE_takeTyped = true := by decide +kernel

def M_GE_isWord : gv_M := (⟨"GoalEngine", "isWord", "(I)Z"⟩, prog_1_method_13_code, 2, some .boolean, [(0, (3, 0, 0, 0, 0, 0, 1, [])),
  (1, (1, 3, 0, 0, 0, 0, 2, [])),
  (2, (26, 0, 0, 0, 0, 0, 3, [])),
  (3, (6, 0, 0, 1, 0, 0, 4, [])),
  (4, (3, 0, 0, 0, 0, 0, 5, [])),
  (5, (1, 7, 0, 0, 0, 0, 7, [])),
  (7, (23, 0, 0, 0, 0, 0, 8, [])),
  (8, (62, 0, 0, 86, 0, 0, 56, [(0, 56), (1, 72), (2, 86), (3, 86), (4, 86), (5, 86), (6, 74), (7, 84)])),
  (56, (3, 0, 0, 1, 0, 0, 57, [])),
  (57, (52, 0, 0, 70, 0, 0, 60, [])),
  (60, (3, 0, 0, 1, 0, 0, 61, [])),
  (61, (1, 8, 0, 0, 0, 0, 63, [])),
  (63, (59, 0, 0, 70, 0, 0, 66, [])),
  (66, (1, 1, 0, 0, 0, 0, 67, [])),
  (67, (10, 0, 0, 71, 0, 0, 70, [])),
  (70, (1, 0, 0, 0, 0, 0, 71, [])),
  (71, (90, 0, 0, 0, 0, 0, 0, [])),
  (72, (1, 1, 0, 0, 0, 0, 73, [])),
  (73, (90, 0, 0, 0, 0, 0, 0, [])),
  (74, (3, 0, 0, 1, 0, 0, 75, [])),
  (75, (51, 0, 0, 82, 0, 0, 78, [])),
  (78, (1, 1, 0, 0, 0, 0, 79, [])),
  (79, (10, 0, 0, 83, 0, 0, 82, [])),
  (82, (1, 0, 0, 0, 0, 0, 83, [])),
  (83, (90, 0, 0, 0, 0, 0, 0, [])),
  (84, (1, 0, 0, 0, 0, 0, 85, [])),
  (85, (90, 0, 0, 0, 0, 0, 0, [])),
  (86, (3, 0, 0, 1, 0, 0, 87, [])),
  (87, (52, 0, 0, 100, 0, 0, 90, [])),
  (90, (3, 0, 0, 1, 0, 0, 91, [])),
  (91, (1, 32, 0, 0, 0, 0, 93, [])),
  (93, (59, 0, 0, 100, 0, 0, 96, [])),
  (96, (1, 1, 0, 0, 0, 0, 97, [])),
  (97, (10, 0, 0, 101, 0, 0, 100, [])),
  (100, (1, 0, 0, 0, 0, 0, 101, [])),
  (101, (90, 0, 0, 0, 0, 0, 0, []))], (548, 68, 547, 0, 1, []))
theorem ok_GE_isWord : gv_ok M_GE_isWord := gv_ok_of (by decide +kernel)
theorem mk_GE_isWord : gv_msS M_GE_isWord = true := by decide +kernel

def M_GE_isRule : gv_M := (⟨"GoalEngine", "isRule", "([II)Z"⟩, prog_1_method_14_code, 2, some .boolean, [(0, (5, 0, 0, 0, 0, 0, 1, [])),
  (1, (3, 0, 0, 1, 0, 0, 2, [])),
  (2, (87, 0, 0, 0, 14, 643, 5, [])),
  (5, (50, 0, 0, 33, 0, 0, 8, [])),
  (8, (5, 0, 0, 0, 0, 0, 9, [])),
  (9, (1, 0, 0, 0, 0, 0, 10, [])),
  (10, (72, 0, 0, 0, 0, 0, 11, [])),
  (11, (1, 7, 0, 0, 0, 0, 13, [])),
  (13, (23, 0, 0, 0, 0, 0, 14, [])),
  (14, (1, 6, 0, 0, 0, 0, 16, [])),
  (16, (56, 0, 0, 33, 0, 0, 19, [])),
  (19, (5, 0, 0, 0, 0, 0, 20, [])),
  (20, (1, 0, 0, 0, 0, 0, 21, [])),
  (21, (72, 0, 0, 0, 0, 0, 22, [])),
  (22, (1, 3, 0, 0, 0, 0, 23, [])),
  (23, (26, 0, 0, 0, 0, 0, 24, [])),
  (24, (1, 24, 0, 0, 0, 0, 26, [])),
  (26, (59, 0, 0, 33, 0, 0, 29, [])),
  (29, (1, 1, 0, 0, 0, 0, 30, [])),
  (30, (10, 0, 0, 34, 0, 0, 33, [])),
  (33, (1, 0, 0, 0, 0, 0, 34, [])),
  (34, (90, 0, 0, 0, 0, 0, 0, []))], (642, 68, 641, 0, 2, []))
theorem ok_GE_isRule : gv_ok M_GE_isRule := gv_ok_of (by decide +kernel)
theorem mk_GE_isRule : gv_msS M_GE_isRule = true := by decide +kernel

def M_GE_isQuestion : gv_M := (⟨"GoalEngine", "isQuestion", "([II)Z"⟩, prog_1_method_15_code, 6, some .boolean, [(0, (1, 0, 0, 0, 0, 0, 1, [])),
  (1, (6, 0, 0, 2, 0, 0, 2, [])),
  (2, (1, 0, 0, 0, 0, 0, 3, [])),
  (3, (6, 0, 0, 3, 0, 0, 4, [])),
  (4, (3, 0, 0, 3, 0, 0, 5, [])),
  (5, (3, 0, 0, 1, 0, 0, 6, [])),
  (6, (59, 0, 0, 77, 0, 0, 9, [])),
  (9, (5, 0, 0, 0, 0, 0, 10, [])),
  (10, (3, 0, 0, 3, 0, 0, 11, [])),
  (11, (72, 0, 0, 0, 0, 0, 12, [])),
  (12, (1, 7, 0, 0, 0, 0, 14, [])),
  (14, (23, 0, 0, 0, 0, 0, 15, [])),
  (15, (6, 0, 0, 4, 0, 0, 17, [])),
  (17, (3, 0, 0, 2, 0, 0, 18, [])),
  (18, (51, 0, 0, 35, 0, 0, 21, [])),
  (21, (3, 0, 0, 4, 0, 0, 23, [])),
  (23, (1, 2, 0, 0, 0, 0, 24, [])),
  (24, (58, 0, 0, 31, 0, 0, 27, [])),
  (27, (1, 1, 0, 0, 0, 0, 28, [])),
  (28, (10, 0, 0, 47, 0, 0, 31, [])),
  (31, (1, 0, 0, 0, 0, 0, 32, [])),
  (32, (10, 0, 0, 47, 0, 0, 35, [])),
  (35, (3, 0, 0, 4, 0, 0, 37, [])),
  (37, (1, 6, 0, 0, 0, 0, 39, [])),
  (39, (56, 0, 0, 46, 0, 0, 42, [])),
  (42, (1, 1, 0, 0, 0, 0, 43, [])),
  (43, (10, 0, 0, 47, 0, 0, 46, [])),
  (46, (1, 0, 0, 0, 0, 0, 47, [])),
  (47, (6, 0, 0, 5, 0, 0, 49, [])),
  (49, (3, 0, 0, 5, 0, 0, 51, [])),
  (51, (51, 0, 0, 56, 0, 0, 54, [])),
  (54, (1, 0, 0, 0, 0, 0, 55, [])),
  (55, (90, 0, 0, 0, 0, 0, 0, [])),
  (56, (1, 0, 0, 0, 0, 0, 57, [])),
  (57, (3, 0, 0, 2, 0, 0, 58, [])),
  (58, (1, 1, 0, 0, 0, 0, 59, [])),
  (59, (21, 0, 0, 0, 0, 0, 60, [])),
  (63, (5, 0, 0, 0, 0, 0, 64, [])),
  (64, (3, 0, 0, 3, 0, 0, 65, [])),
  (65, (72, 0, 0, 0, 0, 0, 66, [])),
  (66, (87, 0, 0, 0, 15, 647, 69, [])),
  (69, (20, 0, 0, 0, 0, 0, 70, [])),
  (70, (6, 0, 0, 2, 0, 0, 71, [])),
  (71, (9, 1, 0, 3, 0, 0, 74, [])),
  (74, (10, 0, 0, 4, 0, 0, 77, [])),
  (77, (3, 0, 0, 1, 0, 0, 78, [])),
  (78, (55, 0, 0, 89, 0, 0, 81, [])),
  (81, (3, 0, 0, 2, 0, 0, 82, [])),
  (82, (51, 0, 0, 89, 0, 0, 85, [])),
  (85, (1, 1, 0, 0, 0, 0, 86, [])),
  (86, (10, 0, 0, 90, 0, 0, 89, [])),
  (89, (1, 0, 0, 0, 0, 0, 90, [])),
  (90, (90, 0, 0, 0, 0, 0, 0, []))], (645, 68, 644, 0, 2, []))
theorem ok_GE_isQuestion : gv_ok M_GE_isQuestion := gv_ok_of (by decide +kernel)
theorem mk_GE_isQuestion : gv_msS M_GE_isQuestion = true := by decide +kernel

def M_GE_argumentsOf : gv_M := (⟨"GoalEngine", "argumentsOf", "(I)I"⟩, prog_1_method_16_code, 2, some .int, [(0, (3, 0, 0, 0, 0, 0, 1, [])),
  (1, (1, 7, 0, 0, 0, 0, 3, [])),
  (3, (23, 0, 0, 0, 0, 0, 4, [])),
  (4, (1, 2, 0, 0, 0, 0, 5, [])),
  (5, (21, 0, 0, 0, 0, 0, 6, [])),
  (6, (6, 0, 0, 1, 0, 0, 7, [])),
  (7, (3, 0, 0, 1, 0, 0, 8, [])),
  (8, (52, 0, 0, 20, 0, 0, 11, [])),
  (11, (3, 0, 0, 1, 0, 0, 12, [])),
  (12, (1, 3, 0, 0, 0, 0, 13, [])),
  (13, (60, 0, 0, 20, 0, 0, 16, [])),
  (16, (3, 0, 0, 1, 0, 0, 17, [])),
  (17, (10, 0, 0, 21, 0, 0, 20, [])),
  (20, (1, 0, 0, 0, 0, 0, 21, [])),
  (21, (90, 0, 0, 0, 0, 0, 0, []))], (463, 68, 462, 0, 1, []))
theorem ok_GE_argumentsOf : gv_ok M_GE_argumentsOf := gv_ok_of (by decide +kernel)
theorem mk_GE_argumentsOf : gv_msS M_GE_argumentsOf = true := by decide +kernel

def M_RB_init : gv_M := (⟨"GoalEngine$RuleBook", "<init>", "()V"⟩, prog_9_method_1_code, 2, none, [(0, (5, 0, 0, 0, 0, 0, 1, [])),
  (1, (84, 0, 0, 99, 100, 106, 4, [])),
  (4, (5, 0, 0, 0, 0, 0, 5, [])),
  (5, (1, 16, 0, 0, 0, 0, 7, [])),
  (7, (83, 0, 0, 0, 108, 107, 10, [])),
  (10, (80, 0, 0, 1, 0, 134, 13, [])),
  (13, (1, 0, 0, 0, 0, 0, 14, [])),
  (14, (6, 0, 0, 1, 0, 0, 15, [])),
  (15, (3, 0, 0, 1, 0, 0, 16, [])),
  (16, (1, 16, 0, 0, 0, 0, 18, [])),
  (18, (59, 0, 0, 40, 0, 0, 21, [])),
  (21, (5, 0, 0, 0, 0, 0, 22, [])),
  (22, (70, 0, 0, 1, 0, 134, 25, [])),
  (25, (3, 0, 0, 1, 0, 0, 26, [])),
  (26, (81, 0, 0, 2, 0, 107, 29, [])),
  (29, (40, 0, 0, 0, 0, 0, 30, [])),
  (30, (85, 0, 0, 1, 19, 110, 33, [])),
  (33, (79, 0, 0, 0, 0, 0, 34, [])),
  (34, (9, 1, 0, 1, 0, 0, 37, [])),
  (37, (10, 0, 0, 15, 0, 0, 40, [])),
  (40, (91, 0, 0, 0, 0, 0, 0, []))], (105, 69, 104, 0, 0, []))
theorem ok_RB_init : gv_ok M_RB_init := gv_ok_of (by decide +kernel)
theorem mk_RB_init : gv_msI M_RB_init = true := by decide +kernel

def M_RB_add : gv_M := (⟨"GoalEngine$RuleBook", "add", "([II)V"⟩, prog_9_method_2_code, 3, none, [(0, (5, 0, 0, 0, 0, 0, 1, [])),
  (1, (70, 0, 0, 1, 0, 134, 4, [])),
  (4, (5, 0, 0, 0, 0, 0, 5, [])),
  (5, (70, 0, 0, 1, 1, 136, 8, [])),
  (8, (75, 0, 0, 0, 0, 0, 9, [])),
  (9, (5, 0, 0, 1, 0, 0, 10, [])),
  (10, (3, 0, 0, 2, 0, 0, 11, [])),
  (11, (86, 0, 0, 0, 20, 652, 14, [])),
  (14, (5, 0, 0, 0, 0, 0, 15, [])),
  (15, (40, 0, 0, 0, 0, 0, 16, [])),
  (16, (70, 0, 0, 1, 1, 136, 19, [])),
  (19, (1, 1, 0, 0, 0, 0, 20, [])),
  (20, (20, 0, 0, 0, 0, 0, 21, [])),
  (21, (80, 0, 0, 1, 1, 136, 24, [])),
  (24, (91, 0, 0, 0, 0, 0, 0, []))], (651, 69, 649, 650, 2, []))
theorem ok_RB_add : gv_ok M_RB_add := gv_ok_of (by decide +kernel)
theorem mk_RB_add : gv_msV M_RB_add = true := by decide +kernel

def M_RB_firstFor : gv_M := (⟨"GoalEngine$RuleBook", "firstFor", "(II)I"⟩, prog_9_method_3_code, 4, some .int, [(0, (3, 0, 0, 2, 0, 0, 1, [])),
  (1, (6, 0, 0, 3, 0, 0, 2, [])),
  (2, (3, 0, 0, 3, 0, 0, 3, [])),
  (3, (5, 0, 0, 0, 0, 0, 4, [])),
  (4, (70, 0, 0, 1, 1, 136, 7, [])),
  (7, (59, 0, 0, 33, 0, 0, 10, [])),
  (10, (5, 0, 0, 0, 0, 0, 11, [])),
  (11, (70, 0, 0, 1, 0, 134, 14, [])),
  (14, (3, 0, 0, 3, 0, 0, 15, [])),
  (15, (75, 0, 0, 0, 0, 0, 16, [])),
  (16, (70, 0, 0, 2, 0, 115, 19, [])),
  (19, (1, 0, 0, 0, 0, 0, 20, [])),
  (20, (72, 0, 0, 0, 0, 0, 21, [])),
  (21, (3, 0, 0, 1, 0, 0, 22, [])),
  (22, (57, 0, 0, 27, 0, 0, 25, [])),
  (25, (3, 0, 0, 3, 0, 0, 26, [])),
  (26, (90, 0, 0, 0, 0, 0, 0, [])),
  (27, (9, 1, 0, 3, 0, 0, 30, [])),
  (30, (10, 0, 0, 2, 0, 0, 33, [])),
  (33, (1, (-1), 0, 0, 0, 0, 34, [])),
  (34, (90, 0, 0, 0, 0, 0, 0, []))], (819, 69, 817, 818, 2, []))
theorem ok_RB_firstFor : gv_ok M_RB_firstFor := gv_ok_of (by decide +kernel)
theorem mk_RB_firstFor : gv_msV M_RB_firstFor = true := by decide +kernel

def M_CL_init : gv_M := (⟨"GoalEngine$Clause", "<init>", "()V"⟩, prog_6_method_1_code, 1, none, [(0, (5, 0, 0, 0, 0, 0, 1, [])),
  (1, (84, 0, 0, 99, 100, 113, 4, [])),
  (4, (5, 0, 0, 0, 0, 0, 5, [])),
  (5, (1, 30, 0, 0, 0, 0, 7, [])),
  (7, (82, 0, 0, 0, 0, 133, 9, [])),
  (9, (80, 0, 0, 2, 0, 114, 12, [])),
  (12, (91, 0, 0, 0, 0, 0, 0, []))], (112, 70, 111, 0, 0, []))
theorem ok_CL_init : gv_ok M_CL_init := gv_ok_of (by decide +kernel)
theorem mk_CL_init : gv_msI M_CL_init = true := by decide +kernel

def M_CL_read : gv_M := (⟨"GoalEngine$Clause", "read", "([II)V"⟩, prog_6_method_2_code, 5, none, [(0, (5, 0, 0, 0, 0, 0, 1, [])),
  (1, (3, 0, 0, 2, 0, 0, 2, [])),
  (2, (80, 0, 0, 2, 1, 117, 5, [])),
  (5, (5, 0, 0, 0, 0, 0, 6, [])),
  (6, (1, 0, 0, 0, 0, 0, 7, [])),
  (7, (80, 0, 0, 2, 2, 119, 10, [])),
  (10, (5, 0, 0, 0, 0, 0, 11, [])),
  (11, (1, 0, 0, 0, 0, 0, 12, [])),
  (12, (80, 0, 0, 2, 3, 122, 15, [])),
  (15, (1, 0, 0, 0, 0, 0, 16, [])),
  (16, (6, 0, 0, 3, 0, 0, 17, [])),
  (17, (3, 0, 0, 3, 0, 0, 18, [])),
  (18, (3, 0, 0, 2, 0, 0, 19, [])),
  (19, (59, 0, 0, 88, 0, 0, 22, [])),
  (22, (5, 0, 0, 0, 0, 0, 23, [])),
  (23, (70, 0, 0, 2, 0, 114, 26, [])),
  (26, (3, 0, 0, 3, 0, 0, 27, [])),
  (27, (5, 0, 0, 1, 0, 0, 28, [])),
  (28, (3, 0, 0, 3, 0, 0, 29, [])),
  (29, (72, 0, 0, 0, 0, 0, 30, [])),
  (30, (76, 0, 0, 0, 0, 0, 31, [])),
  (31, (5, 0, 0, 1, 0, 0, 32, [])),
  (32, (3, 0, 0, 3, 0, 0, 33, [])),
  (33, (72, 0, 0, 0, 0, 0, 34, [])),
  (34, (87, 0, 0, 1, 15, 656, 37, [])),
  (37, (6, 0, 0, 4, 0, 0, 39, [])),
  (39, (3, 0, 0, 4, 0, 0, 41, [])),
  (41, (55, 0, 0, 57, 0, 0, 44, [])),
  (44, (5, 0, 0, 0, 0, 0, 45, [])),
  (45, (40, 0, 0, 0, 0, 0, 46, [])),
  (46, (70, 0, 0, 2, 3, 122, 49, [])),
  (49, (1, 1, 0, 0, 0, 0, 50, [])),
  (50, (3, 0, 0, 4, 0, 0, 52, [])),
  (52, (20, 0, 0, 0, 0, 0, 53, [])),
  (53, (20, 0, 0, 0, 0, 0, 54, [])),
  (54, (80, 0, 0, 2, 3, 122, 57, [])),
  (57, (5, 0, 0, 1, 0, 0, 58, [])),
  (58, (3, 0, 0, 3, 0, 0, 59, [])),
  (59, (72, 0, 0, 0, 0, 0, 60, [])),
  (60, (1, 7, 0, 0, 0, 0, 62, [])),
  (62, (23, 0, 0, 0, 0, 0, 63, [])),
  (63, (51, 0, 0, 82, 0, 0, 66, [])),
  (66, (5, 0, 0, 0, 0, 0, 67, [])),
  (67, (40, 0, 0, 0, 0, 0, 68, [])),
  (68, (70, 0, 0, 2, 2, 119, 71, [])),
  (71, (1, 1, 0, 0, 0, 0, 72, [])),
  (72, (5, 0, 0, 1, 0, 0, 73, [])),
  (73, (3, 0, 0, 3, 0, 0, 74, [])),
  (74, (72, 0, 0, 0, 0, 0, 75, [])),
  (75, (1, 3, 0, 0, 0, 0, 76, [])),
  (76, (26, 0, 0, 0, 0, 0, 77, [])),
  (77, (25, 0, 0, 0, 0, 0, 78, [])),
  (78, (24, 0, 0, 0, 0, 0, 79, [])),
  (79, (80, 0, 0, 2, 2, 119, 82, [])),
  (82, (9, 1, 0, 3, 0, 0, 85, [])),
  (85, (10, 0, 0, 17, 0, 0, 88, [])),
  (88, (5, 0, 0, 0, 0, 0, 89, [])),
  (89, (40, 0, 0, 0, 0, 0, 90, [])),
  (90, (70, 0, 0, 2, 3, 122, 93, [])),
  (93, (5, 0, 0, 0, 0, 0, 94, [])),
  (94, (70, 0, 0, 2, 2, 119, 97, [])),
  (100, (20, 0, 0, 0, 0, 0, 101, [])),
  (101, (80, 0, 0, 2, 3, 122, 104, [])),
  (104, (91, 0, 0, 0, 0, 0, 0, []))], (655, 70, 653, 654, 2, []))
theorem ok_CL_read : gv_ok M_CL_read := gv_ok_of (by decide +kernel)
theorem mk_CL_read : gv_msV M_CL_read = true := by decide +kernel
end
section
/-! code tables (written by wip/tools) -/
def M_SE_init : gv_M := (⟨"GoalEngine$Search", "<init>", "(LGoalEngine$RuleBook;)V"⟩, prog_10_method_1_code, 3, none, [(0, (5, 0, 0, 0, 0, 0, 1, [])),
  (1, (84, 0, 0, 99, 100, 148, 4, [])),
  (4, (5, 0, 0, 0, 0, 0, 5, [])),
  (5, (81, 0, 0, 2, 0, 149, 8, [])),
  (8, (40, 0, 0, 0, 0, 0, 9, [])),
  (9, (85, 0, 0, 1, 19, 150, 12, [])),
  (12, (80, 0, 0, 3, 1, 365, 15, [])),
  (15, (5, 0, 0, 0, 0, 0, 16, [])),
  (16, (5, 0, 0, 1, 0, 0, 17, [])),
  (17, (80, 0, 0, 3, 0, 364, 20, [])),
  (20, (5, 0, 0, 0, 0, 0, 21, [])),
  (21, (81, 0, 0, 4, 0, 151, 24, [])),
  (24, (40, 0, 0, 0, 0, 0, 25, [])),
  (25, (85, 0, 0, 1, 39, 153, 28, [])),
  (28, (80, 0, 0, 3, 2, 366, 31, [])),
  (31, (81, 0, 0, 5, 0, 196, 34, [])),
  (34, (40, 0, 0, 0, 0, 0, 35, [])),
  (35, (5, 0, 0, 0, 0, 0, 36, [])),
  (36, (70, 0, 0, 3, 2, 366, 39, [])),
  (39, (85, 0, 0, 0, 51, 198, 42, [])),
  (42, (8, 0, 0, 2, 0, 0, 43, [])),
  (43, (5, 0, 0, 0, 0, 0, 44, [])),
  (44, (81, 0, 0, 6, 0, 216, 47, [])),
  (47, (40, 0, 0, 0, 0, 0, 48, [])),
  (48, (5, 0, 0, 0, 0, 0, 49, [])),
  (49, (70, 0, 0, 3, 2, 366, 52, [])),
  (52, (5, 0, 0, 2, 0, 0, 53, [])),
  (53, (85, 0, 0, 0, 56, 218, 56, [])),
  (56, (80, 0, 0, 3, 3, 367, 59, [])),
  (59, (5, 0, 0, 0, 0, 0, 60, [])),
  (60, (81, 0, 0, 7, 0, 238, 63, [])),
  (63, (40, 0, 0, 0, 0, 0, 64, [])),
  (64, (5, 0, 0, 0, 0, 0, 65, [])),
  (65, (70, 0, 0, 3, 2, 366, 68, [])),
  (68, (85, 0, 0, 0, 62, 240, 71, [])),
  (71, (80, 0, 0, 3, 4, 368, 74, [])),
  (74, (5, 0, 0, 0, 0, 0, 75, [])),
  (75, (81, 0, 0, 8, 0, 251, 78, [])),
  (78, (40, 0, 0, 0, 0, 0, 79, [])),
  (79, (85, 0, 0, 1, 68, 253, 82, [])),
  (82, (80, 0, 0, 3, 5, 369, 85, [])),
  (85, (5, 0, 0, 0, 0, 0, 86, [])),
  (86, (81, 0, 0, 9, 0, 276, 89, [])),
  (89, (40, 0, 0, 0, 0, 0, 90, [])),
  (90, (85, 0, 0, 1, 72, 278, 93, [])),
  (93, (80, 0, 0, 3, 6, 370, 96, [])),
  (96, (5, 0, 0, 0, 0, 0, 97, [])),
  (97, (81, 0, 0, 10, 0, 310, 100, [])),
  (100, (40, 0, 0, 0, 0, 0, 101, [])),
  (101, (5, 0, 0, 0, 0, 0, 102, [])),
  (102, (70, 0, 0, 3, 2, 366, 105, [])),
  (105, (5, 0, 0, 0, 0, 0, 106, [])),
  (106, (70, 0, 0, 3, 5, 369, 109, [])),
  (109, (5, 0, 0, 0, 0, 0, 110, [])),
  (110, (70, 0, 0, 3, 6, 370, 113, [])),
  (113, (5, 0, 0, 2, 0, 0, 114, [])),
  (114, (85, 0, 0, 0, 76, 312, 117, [])),
  (117, (80, 0, 0, 3, 7, 371, 120, [])),
  (120, (5, 0, 0, 0, 0, 0, 121, [])),
  (121, (81, 0, 0, 11, 0, 336, 124, [])),
  (124, (40, 0, 0, 0, 0, 0, 125, [])),
  (125, (5, 0, 0, 0, 0, 0, 126, [])),
  (126, (70, 0, 0, 3, 2, 366, 129, [])),
  (129, (85, 0, 0, 0, 86, 338, 132, [])),
  (132, (80, 0, 0, 3, 8, 372, 135, [])),
  (135, (5, 0, 0, 0, 0, 0, 136, [])),
  (136, (1, (-1), 0, 0, 0, 0, 137, [])),
  (137, (80, 0, 0, 3, 9, 373, 140, [])),
  (140, (5, 0, 0, 0, 0, 0, 141, [])),
  (141, (1, (-1), 0, 0, 0, 0, 142, [])),
  (142, (80, 0, 0, 3, 10, 374, 145, [])),
  (145, (5, 0, 0, 0, 0, 0, 146, [])),
  (146, (1, 0, 0, 0, 0, 0, 147, [])),
  (147, (80, 0, 0, 3, 11, 375, 150, [])),
  (150, (5, 0, 0, 0, 0, 0, 151, [])),
  (151, (1, 300, 0, 0, 0, 0, 154, [])),
  (154, (80, 0, 0, 3, 12, 377, 157, [])),
  (157, (91, 0, 0, 0, 0, 0, 0, []))], (147, 71, 146, 0, 1, []))
theorem ok_SE_init : gv_ok M_SE_init := gv_ok_of (by decide +kernel)
theorem mk_SE_init : gv_msI M_SE_init = true := by decide +kernel

def M_SE_begin : gv_M := (⟨"GoalEngine$Search", "begin", "([II)V"⟩, prog_10_method_2_code, 3, none, [(0, (5, 0, 0, 0, 0, 0, 1, [])),
  (1, (70, 0, 0, 3, 1, 365, 4, [])),
  (4, (5, 0, 0, 1, 0, 0, 5, [])),
  (5, (3, 0, 0, 2, 0, 0, 6, [])),
  (6, (86, 0, 0, 0, 20, 669, 9, [])),
  (9, (5, 0, 0, 0, 0, 0, 10, [])),
  (10, (70, 0, 0, 3, 2, 366, 13, [])),
  (13, (86, 0, 0, 0, 45, 670, 16, [])),
  (16, (5, 0, 0, 0, 0, 0, 17, [])),
  (17, (70, 0, 0, 3, 6, 370, 20, [])),
  (20, (1, 0, 0, 0, 0, 0, 21, [])),
  (21, (86, 0, 0, 0, 75, 674, 24, [])),
  (24, (5, 0, 0, 0, 0, 0, 25, [])),
  (25, (70, 0, 0, 3, 2, 366, 28, [])),
  (28, (5, 0, 0, 0, 0, 0, 29, [])),
  (29, (70, 0, 0, 3, 1, 365, 32, [])),
  (32, (86, 0, 0, 0, 46, 681, 35, [])),
  (35, (5, 0, 0, 0, 0, 0, 36, [])),
  (36, (1, (-1), 0, 0, 0, 0, 37, [])),
  (37, (80, 0, 0, 3, 9, 373, 40, [])),
  (40, (5, 0, 0, 0, 0, 0, 41, [])),
  (41, (1, (-1), 0, 0, 0, 0, 42, [])),
  (42, (80, 0, 0, 3, 10, 374, 45, [])),
  (45, (5, 0, 0, 0, 0, 0, 46, [])),
  (46, (1, 0, 0, 0, 0, 0, 47, [])),
  (47, (1, 0, 0, 0, 0, 0, 48, [])),
  (48, (86, 0, 0, 0, 30, 702, 51, [])),
  (51, (5, 0, 0, 0, 0, 0, 52, [])),
  (52, (1, 1, 0, 0, 0, 0, 53, [])),
  (53, (80, 0, 0, 3, 11, 375, 56, [])),
  (56, (91, 0, 0, 0, 0, 0, 0, []))], (668, 71, 666, 667, 2, []))
theorem ok_SE_begin : gv_ok M_SE_begin := gv_ok_of (by decide +kernel)
theorem mk_SE_begin : gv_msV M_SE_begin = true := by decide +kernel

def M_SE_canStep : gv_M := (⟨"GoalEngine$Search", "canStep", "()Z"⟩, prog_10_method_3_code, 1, some .boolean, [(0, (5, 0, 0, 0, 0, 0, 1, [])),
  (1, (70, 0, 0, 3, 11, 375, 4, [])),
  (4, (1, 1, 0, 0, 0, 0, 5, [])),
  (5, (57, 0, 0, 19, 0, 0, 8, [])),
  (8, (5, 0, 0, 0, 0, 0, 9, [])),
  (9, (70, 0, 0, 3, 12, 377, 12, [])),
  (12, (55, 0, 0, 19, 0, 0, 15, [])),
  (15, (1, 1, 0, 0, 0, 0, 16, [])),
  (16, (10, 0, 0, 20, 0, 0, 19, [])),
  (19, (1, 0, 0, 0, 0, 0, 20, [])),
  (20, (90, 0, 0, 0, 0, 0, 0, []))], (746, 71, 744, 745, 0, []))
theorem ok_SE_canStep : gv_ok M_SE_canStep := gv_ok_of (by decide +kernel)
theorem mk_SE_canStep : gv_msV M_SE_canStep = true := by decide +kernel

def M_SE_settle : gv_M := (⟨"GoalEngine$Search", "settle", "(I)V"⟩, prog_10_method_4_code, 2, none, [(0, (3, 0, 0, 1, 0, 0, 1, [])),
  (1, (1, 1, 0, 0, 0, 0, 2, [])),
  (2, (57, 0, 0, 12, 0, 0, 5, [])),
  (5, (5, 0, 0, 0, 0, 0, 6, [])),
  (6, (86, 0, 0, 0, 31, 838, 9, [])),
  (9, (10, 0, 0, 37, 0, 0, 12, [])),
  (12, (3, 0, 0, 1, 0, 0, 13, [])),
  (13, (50, 0, 0, 24, 0, 0, 16, [])),
  (16, (5, 0, 0, 0, 0, 0, 17, [])),
  (17, (1, 0, 0, 0, 0, 0, 18, [])),
  (18, (80, 0, 0, 3, 11, 375, 21, [])),
  (21, (10, 0, 0, 37, 0, 0, 24, [])),
  (24, (5, 0, 0, 0, 0, 0, 25, [])),
  (25, (70, 0, 0, 3, 9, 373, 28, [])),
  (28, (1, (-1), 0, 0, 0, 0, 29, [])),
  (29, (57, 0, 0, 37, 0, 0, 32, [])),
  (32, (5, 0, 0, 0, 0, 0, 33, [])),
  (33, (1, 2, 0, 0, 0, 0, 34, [])),
  (34, (80, 0, 0, 3, 11, 375, 37, [])),
  (37, (91, 0, 0, 0, 0, 0, 0, []))], (837, 71, 835, 836, 1, []))
theorem ok_SE_settle : gv_ok M_SE_settle := gv_ok_of (by decide +kernel)
theorem mk_SE_settle : gv_msV M_SE_settle = true := by decide +kernel

def M_SE_step : gv_M := (⟨"GoalEngine$Search", "step", "()I"⟩, prog_10_method_5_code, 5, some .int, [(0, (5, 0, 0, 0, 0, 0, 1, [])),
  (1, (40, 0, 0, 0, 0, 0, 2, [])),
  (2, (70, 0, 0, 3, 12, 377, 5, [])),
  (5, (1, 1, 0, 0, 0, 0, 6, [])),
  (6, (21, 0, 0, 0, 0, 0, 7, [])),
  (7, (80, 0, 0, 3, 12, 377, 10, [])),
  (10, (5, 0, 0, 0, 0, 0, 11, [])),
  (11, (70, 0, 0, 3, 9, 373, 14, [])),
  (14, (6, 0, 0, 1, 0, 0, 15, [])),
  (15, (5, 0, 0, 0, 0, 0, 16, [])),
  (16, (70, 0, 0, 3, 10, 374, 19, [])),
  (19, (6, 0, 0, 2, 0, 0, 20, [])),
  (20, (5, 0, 0, 0, 0, 0, 21, [])),
  (21, (5, 0, 0, 0, 0, 0, 22, [])),
  (22, (70, 0, 0, 3, 5, 369, 25, [])),
  (25, (70, 0, 0, 8, 2, 263, 28, [])),
  (28, (3, 0, 0, 1, 0, 0, 29, [])),
  (29, (72, 0, 0, 0, 0, 0, 30, [])),
  (30, (80, 0, 0, 3, 9, 373, 33, [])),
  (33, (5, 0, 0, 0, 0, 0, 34, [])),
  (34, (1, (-1), 0, 0, 0, 0, 35, [])),
  (35, (80, 0, 0, 3, 10, 374, 38, [])),
  (38, (5, 0, 0, 0, 0, 0, 39, [])),
  (39, (70, 0, 0, 3, 5, 369, 42, [])),
  (42, (70, 0, 0, 8, 0, 259, 45, [])),
  (45, (3, 0, 0, 1, 0, 0, 46, [])),
  (46, (72, 0, 0, 0, 0, 0, 47, [])),
  (47, (6, 0, 0, 3, 0, 0, 48, [])),
  (48, (3, 0, 0, 3, 0, 0, 49, [])),
  (49, (1, 7, 0, 0, 0, 0, 51, [])),
  (51, (23, 0, 0, 0, 0, 0, 52, [])),
  (52, (1, 6, 0, 0, 0, 0, 54, [])),
  (54, (57, 0, 0, 75, 0, 0, 57, [])),
  (57, (5, 0, 0, 0, 0, 0, 58, [])),
  (58, (70, 0, 0, 3, 6, 370, 61, [])),
  (61, (5, 0, 0, 0, 0, 0, 62, [])),
  (62, (70, 0, 0, 3, 5, 369, 65, [])),
  (65, (70, 0, 0, 8, 1, 261, 68, [])),
  (68, (3, 0, 0, 1, 0, 0, 69, [])),
  (69, (72, 0, 0, 0, 0, 0, 70, [])),
  (70, (86, 0, 0, 0, 75, 674, 73, [])),
  (73, (1, 0, 0, 0, 0, 0, 74, [])),
  (74, (90, 0, 0, 0, 0, 0, 0, [])),
  (75, (5, 0, 0, 0, 0, 0, 76, [])),
  (76, (70, 0, 0, 3, 2, 366, 79, [])),
  (79, (3, 0, 0, 3, 0, 0, 80, [])),
  (80, (86, 0, 0, 0, 41, 751, 83, [])),
  (83, (6, 0, 0, 4, 0, 0, 85, [])),
  (85, (3, 0, 0, 4, 0, 0, 87, [])),
  (87, (1, 7, 0, 0, 0, 0, 89, [])),
  (89, (23, 0, 0, 0, 0, 0, 90, [])),
  (90, (1, 4, 0, 0, 0, 0, 91, [])),
  (91, (57, 0, 0, 130, 0, 0, 94, [])),
  (94, (3, 0, 0, 4, 0, 0, 96, [])),
  (96, (1, 3, 0, 0, 0, 0, 97, [])),
  (97, (26, 0, 0, 0, 0, 0, 98, [])),
  (98, (1, 24, 0, 0, 0, 0, 100, [])),
  (100, (58, 0, 0, 130, 0, 0, 103, [])),
  (103, (5, 0, 0, 0, 0, 0, 104, [])),
  (104, (3, 0, 0, 4, 0, 0, 106, [])),
  (106, (1, 3, 0, 0, 0, 0, 107, [])),
  (107, (26, 0, 0, 0, 0, 0, 108, [])),
  (108, (5, 0, 0, 0, 0, 0, 109, [])),
  (109, (70, 0, 0, 3, 2, 366, 112, [])),
  (112, (3, 0, 0, 3, 0, 0, 113, [])),
  (113, (1, 1, 0, 0, 0, 0, 114, [])),
  (114, (86, 0, 0, 0, 42, 752, 117, [])),
  (117, (5, 0, 0, 0, 0, 0, 118, [])),
  (118, (70, 0, 0, 3, 2, 366, 121, [])),
  (121, (3, 0, 0, 3, 0, 0, 122, [])),
  (122, (1, 2, 0, 0, 0, 0, 123, [])),
  (123, (86, 0, 0, 0, 42, 752, 126, [])),
  (126, (86, 0, 0, 0, 26, 753, 129, [])),
  (129, (90, 0, 0, 0, 0, 0, 0, [])),
  (130, (3, 0, 0, 2, 0, 0, 131, [])),
  (131, (1, (-1), 0, 0, 0, 0, 132, [])),
  (132, (57, 0, 0, 146, 0, 0, 135, [])),
  (135, (5, 0, 0, 0, 0, 0, 136, [])),
  (136, (70, 0, 0, 3, 0, 364, 139, [])),
  (139, (3, 0, 0, 4, 0, 0, 141, [])),
  (141, (1, 0, 0, 0, 0, 0, 142, [])),
  (142, (86, 0, 0, 0, 18, 816, 145, [])),
  (145, (6, 0, 0, 2, 0, 0, 146, [])),
  (146, (3, 0, 0, 2, 0, 0, 147, [])),
  (147, (1, (-1), 0, 0, 0, 0, 148, [])),
  (148, (57, 0, 0, 155, 0, 0, 151, [])),
  (151, (1, 1, 0, 0, 0, 0, 152, [])),
  (152, (10, 0, 0, 163, 0, 0, 155, [])),
  (155, (5, 0, 0, 0, 0, 0, 156, [])),
  (156, (3, 0, 0, 1, 0, 0, 157, [])),
  (157, (3, 0, 0, 2, 0, 0, 158, [])),
  (158, (3, 0, 0, 4, 0, 0, 160, [])),
  (160, (86, 0, 0, 0, 28, 820, 163, [])),
  (163, (90, 0, 0, 0, 0, 0, 0, []))], (750, 71, 748, 749, 0, []))
theorem ok_SE_step : gv_ok M_SE_step := gv_ok_of (by decide +kernel)
theorem mk_SE_step : gv_msV M_SE_step = true := by decide +kernel

def M_SE_meet : gv_M := (⟨"GoalEngine$Search", "meet", "(III)I"⟩, prog_10_method_6_code, 6, some .int, [(0, (3, 0, 0, 1, 0, 0, 1, [])),
  (1, (62, 0, 0, 102, 0, 0, 32, [(24, 32), (25, 42), (26, 81), (27, 81)])),
  (32, (5, 0, 0, 0, 0, 0, 33, [])),
  (33, (70, 0, 0, 3, 3, 367, 36, [])),
  (36, (3, 0, 0, 2, 0, 0, 37, [])),
  (37, (3, 0, 0, 3, 0, 0, 38, [])),
  (38, (86, 0, 0, 0, 57, 757, 41, [])),
  (41, (90, 0, 0, 0, 0, 0, 0, [])),
  (42, (5, 0, 0, 0, 0, 0, 43, [])),
  (43, (70, 0, 0, 3, 4, 368, 46, [])),
  (46, (3, 0, 0, 3, 0, 0, 47, [])),
  (47, (86, 0, 0, 0, 63, 790, 50, [])),
  (50, (7, 0, 0, 4, 0, 0, 52, [])),
  (52, (4, 0, 0, 4, 0, 0, 54, [])),
  (54, (2, 0, 4294967296, 0, 0, 812, 57, [])),
  (57, (36, 0, 0, 0, 0, 0, 58, [])),
  (58, (51, 0, 0, 65, 0, 0, 61, [])),
  (61, (1, 2, 0, 0, 0, 0, 62, [])),
  (62, (10, 0, 0, 80, 0, 0, 65, [])),
  (65, (5, 0, 0, 0, 0, 0, 66, [])),
  (66, (70, 0, 0, 3, 3, 367, 69, [])),
  (69, (3, 0, 0, 2, 0, 0, 70, [])),
  (70, (4, 0, 0, 4, 0, 0, 72, [])),
  (72, (31, 0, 0, 0, 0, 0, 73, [])),
  (73, (1, 3, 0, 0, 0, 0, 74, [])),
  (74, (25, 0, 0, 0, 0, 0, 75, [])),
  (75, (1, 1, 0, 0, 0, 0, 76, [])),
  (76, (24, 0, 0, 0, 0, 0, 77, [])),
  (77, (86, 0, 0, 0, 57, 757, 80, [])),
  (80, (90, 0, 0, 0, 0, 0, 0, [])),
  (81, (3, 0, 0, 1, 0, 0, 82, [])),
  (82, (5, 0, 0, 0, 0, 0, 83, [])),
  (83, (70, 0, 0, 3, 4, 368, 86, [])),
  (86, (3, 0, 0, 2, 0, 0, 87, [])),
  (87, (86, 0, 0, 0, 63, 790, 90, [])),
  (90, (5, 0, 0, 0, 0, 0, 91, [])),
  (91, (70, 0, 0, 3, 4, 368, 94, [])),
  (94, (3, 0, 0, 3, 0, 0, 95, [])),
  (95, (86, 0, 0, 0, 63, 790, 98, [])),
  (98, (87, 0, 0, 0, 27, 813, 101, [])),
  (101, (90, 0, 0, 0, 0, 0, 0, [])),
  (102, (1, 1, 0, 0, 0, 0, 103, [])),
  (103, (90, 0, 0, 0, 0, 0, 0, []))], (756, 71, 755, 20, 3, []))
theorem ok_SE_meet : gv_ok M_SE_meet := gv_ok_of (by decide +kernel)
theorem mk_SE_meet : gv_msV M_SE_meet = true := by decide +kernel

def M_SE_compare : gv_M := (⟨"GoalEngine$Search", "compare", "(IJJ)I"⟩, prog_10_method_7_code, 6, some .int, [(0, (4, 0, 0, 1, 0, 0, 1, [])),
  (1, (2, 0, 4294967296, 0, 0, 812, 4, [])),
  (4, (36, 0, 0, 0, 0, 0, 5, [])),
  (5, (50, 0, 0, 16, 0, 0, 8, [])),
  (8, (4, 0, 0, 3, 0, 0, 9, [])),
  (9, (2, 0, 4294967296, 0, 0, 812, 12, [])),
  (12, (36, 0, 0, 0, 0, 0, 13, [])),
  (13, (51, 0, 0, 18, 0, 0, 16, [])),
  (16, (1, 2, 0, 0, 0, 0, 17, [])),
  (17, (90, 0, 0, 0, 0, 0, 0, [])),
  (18, (3, 0, 0, 0, 0, 0, 19, [])),
  (19, (1, 26, 0, 0, 0, 0, 21, [])),
  (21, (57, 0, 0, 38, 0, 0, 24, [])),
  (24, (4, 0, 0, 1, 0, 0, 25, [])),
  (25, (4, 0, 0, 3, 0, 0, 26, [])),
  (26, (36, 0, 0, 0, 0, 0, 27, [])),
  (27, (53, 0, 0, 34, 0, 0, 30, [])),
  (30, (1, 1, 0, 0, 0, 0, 31, [])),
  (31, (10, 0, 0, 49, 0, 0, 34, [])),
  (34, (1, 0, 0, 0, 0, 0, 35, [])),
  (35, (10, 0, 0, 49, 0, 0, 38, [])),
  (38, (4, 0, 0, 1, 0, 0, 39, [])),
  (39, (4, 0, 0, 3, 0, 0, 40, [])),
  (40, (36, 0, 0, 0, 0, 0, 41, [])),
  (41, (51, 0, 0, 48, 0, 0, 44, [])),
  (44, (1, 1, 0, 0, 0, 0, 45, [])),
  (45, (10, 0, 0, 49, 0, 0, 48, [])),
  (48, (1, 0, 0, 0, 0, 0, 49, [])),
  (49, (6, 0, 0, 5, 0, 0, 51, [])),
  (51, (3, 0, 0, 5, 0, 0, 53, [])),
  (53, (50, 0, 0, 60, 0, 0, 56, [])),
  (56, (1, 0, 0, 0, 0, 0, 57, [])),
  (57, (10, 0, 0, 61, 0, 0, 60, [])),
  (60, (1, 1, 0, 0, 0, 0, 61, [])),
  (61, (90, 0, 0, 0, 0, 0, 0, []))], (815, 71, 814, 0, 3, []))
theorem ok_SE_compare : gv_ok M_SE_compare := gv_ok_of (by decide +kernel)
theorem mk_SE_compare : gv_msS M_SE_compare = true := by decide +kernel

def M_SE_tryRule : gv_M := (⟨"GoalEngine$Search", "tryRule", "(III)I"⟩, prog_10_method_8_code, 8, some .int, [(0, (5, 0, 0, 0, 0, 0, 1, [])),
  (1, (70, 0, 0, 3, 6, 370, 4, [])),
  (4, (70, 0, 0, 9, 5, 296, 7, [])),
  (7, (6, 0, 0, 4, 0, 0, 9, [])),
  (9, (5, 0, 0, 0, 0, 0, 10, [])),
  (10, (70, 0, 0, 3, 0, 364, 13, [])),
  (13, (3, 0, 0, 3, 0, 0, 14, [])),
  (14, (3, 0, 0, 2, 0, 0, 15, [])),
  (15, (1, 1, 0, 0, 0, 0, 16, [])),
  (16, (20, 0, 0, 0, 0, 0, 17, [])),
  (17, (86, 0, 0, 0, 18, 816, 20, [])),
  (20, (6, 0, 0, 5, 0, 0, 22, [])),
  (22, (3, 0, 0, 5, 0, 0, 24, [])),
  (24, (1, (-1), 0, 0, 0, 0, 25, [])),
  (25, (56, 0, 0, 42, 0, 0, 28, [])),
  (28, (5, 0, 0, 0, 0, 0, 29, [])),
  (29, (70, 0, 0, 3, 6, 370, 32, [])),
  (32, (3, 0, 0, 1, 0, 0, 33, [])),
  (33, (3, 0, 0, 5, 0, 0, 35, [])),
  (35, (5, 0, 0, 0, 0, 0, 36, [])),
  (36, (70, 0, 0, 3, 2, 366, 39, [])),
  (39, (86, 0, 0, 0, 73, 824, 42, [])),
  (42, (5, 0, 0, 0, 0, 0, 43, [])),
  (43, (70, 0, 0, 3, 0, 364, 46, [])),
  (46, (70, 0, 0, 1, 0, 135, 49, [])),
  (49, (3, 0, 0, 2, 0, 0, 50, [])),
  (50, (75, 0, 0, 0, 0, 0, 51, [])),
  (51, (8, 0, 0, 6, 0, 0, 53, [])),
  (53, (5, 0, 0, 0, 0, 0, 54, [])),
  (54, (5, 0, 0, 6, 0, 0, 56, [])),
  (56, (86, 0, 0, 0, 29, 830, 59, [])),
  (59, (51, 0, 0, 92, 0, 0, 62, [])),
  (62, (5, 0, 0, 0, 0, 0, 63, [])),
  (63, (70, 0, 0, 3, 7, 371, 66, [])),
  (66, (3, 0, 0, 1, 0, 0, 67, [])),
  (67, (5, 0, 0, 0, 0, 0, 68, [])),
  (68, (70, 0, 0, 3, 1, 365, 71, [])),
  (71, (70, 0, 0, 2, 2, 121, 74, [])),
  (77, (86, 0, 0, 0, 77, 437, 80, [])),
  (80, (44, 0, 0, 0, 0, 0, 81, [])),
  (81, (5, 0, 0, 0, 0, 0, 82, [])),
  (82, (5, 0, 0, 6, 0, 0, 84, [])),
  (84, (86, 0, 0, 0, 29, 830, 87, [])),
  (87, (51, 0, 0, 92, 0, 0, 90, [])),
  (90, (1, 3, 0, 0, 0, 0, 91, [])),
  (91, (90, 0, 0, 0, 0, 0, 0, [])),
  (92, (5, 0, 0, 0, 0, 0, 93, [])),
  (93, (70, 0, 0, 3, 2, 366, 96, [])),
  (96, (5, 0, 0, 6, 0, 0, 98, [])),
  (98, (86, 0, 0, 0, 46, 681, 101, [])),
  (101, (5, 0, 0, 0, 0, 0, 102, [])),
  (102, (70, 0, 0, 3, 3, 367, 105, [])),
  (105, (5, 0, 0, 0, 0, 0, 106, [])),
  (106, (70, 0, 0, 3, 2, 366, 109, [])),
  (109, (70, 0, 0, 4, 7, 174, 112, [])),
  (112, (1, 0, 0, 0, 0, 0, 113, [])),
  (113, (72, 0, 0, 0, 0, 0, 114, [])),
  (114, (5, 0, 0, 0, 0, 0, 115, [])),
  (115, (70, 0, 0, 3, 5, 369, 118, [])),
  (118, (70, 0, 0, 8, 0, 259, 121, [])),
  (121, (3, 0, 0, 1, 0, 0, 122, [])),
  (122, (72, 0, 0, 0, 0, 0, 123, [])),
  (123, (86, 0, 0, 0, 57, 757, 126, [])),
  (126, (6, 0, 0, 7, 0, 0, 128, [])),
  (128, (3, 0, 0, 7, 0, 0, 130, [])),
  (130, (51, 0, 0, 140, 0, 0, 133, [])),
  (133, (5, 0, 0, 0, 0, 0, 134, [])),
  (134, (1, 1, 0, 0, 0, 0, 135, [])),
  (135, (3, 0, 0, 4, 0, 0, 137, [])),
  (137, (86, 0, 0, 0, 30, 702, 140, [])),
  (140, (3, 0, 0, 7, 0, 0, 142, [])),
  (142, (90, 0, 0, 0, 0, 0, 0, []))], (823, 71, 822, 27, 3, []))
theorem ok_SE_tryRule : gv_ok M_SE_tryRule := gv_ok_of (by decide +kernel)
theorem mk_SE_tryRule : gv_msV M_SE_tryRule = true := by decide +kernel

def M_SE_hasRoomFor : gv_M := (⟨"GoalEngine$Search", "hasRoomFor", "(LGoalEngine$Clause;)Z"⟩, prog_10_method_9_code, 2, some .boolean, [(0, (5, 0, 0, 0, 0, 0, 1, [])),
  (1, (70, 0, 0, 3, 2, 366, 4, [])),
  (4, (70, 0, 0, 4, 1, 164, 7, [])),
  (7, (5, 0, 0, 1, 0, 0, 8, [])),
  (8, (70, 0, 0, 2, 3, 123, 11, [])),
  (11, (20, 0, 0, 0, 0, 0, 12, [])),
  (12, (1, 240, 0, 0, 0, 0, 15, [])),
  (15, (60, 0, 0, 22, 0, 0, 18, [])),
  (18, (1, 1, 0, 0, 0, 0, 19, [])),
  (19, (10, 0, 0, 23, 0, 0, 22, [])),
  (22, (1, 0, 0, 0, 0, 0, 23, [])),
  (23, (90, 0, 0, 0, 0, 0, 0, []))], (833, 71, 832, 28, 1, []))
theorem ok_SE_hasRoomFor : gv_ok M_SE_hasRoomFor := gv_ok_of (by decide +kernel)
theorem mk_SE_hasRoomFor : gv_msV M_SE_hasRoomFor = true := by decide +kernel

def M_SE_bringGoals : gv_M := (⟨"GoalEngine$Search", "bringGoals", "(II)V"⟩, prog_10_method_10_code, 5, none, [(0, (5, 0, 0, 0, 0, 0, 1, [])),
  (1, (70, 0, 0, 3, 9, 373, 4, [])),
  (4, (1, 1, 0, 0, 0, 0, 5, [])),
  (5, (20, 0, 0, 0, 0, 0, 6, [])),
  (6, (5, 0, 0, 0, 0, 0, 7, [])),
  (7, (70, 0, 0, 3, 6, 370, 10, [])),
  (10, (86, 0, 0, 0, 74, 706, 13, [])),
  (16, (6, 0, 0, 3, 0, 0, 17, [])),
  (17, (5, 0, 0, 0, 0, 0, 18, [])),
  (18, (70, 0, 0, 3, 2, 366, 21, [])),
  (21, (70, 0, 0, 4, 8, 176, 24, [])),
  (24, (1, 1, 0, 0, 0, 0, 25, [])),
  (25, (21, 0, 0, 0, 0, 0, 26, [])),
  (26, (6, 0, 0, 4, 0, 0, 28, [])),
  (28, (3, 0, 0, 4, 0, 0, 30, [])),
  (30, (3, 0, 0, 1, 0, 0, 31, [])),
  (31, (58, 0, 0, 71, 0, 0, 34, [])),
  (34, (5, 0, 0, 0, 0, 0, 35, [])),
  (35, (70, 0, 0, 3, 5, 369, 38, [])),
  (38, (3, 0, 0, 3, 0, 0, 39, [])),
  (39, (5, 0, 0, 0, 0, 0, 40, [])),
  (40, (70, 0, 0, 3, 2, 366, 43, [])),
  (43, (70, 0, 0, 4, 7, 174, 46, [])),
  (46, (3, 0, 0, 4, 0, 0, 48, [])),
  (48, (72, 0, 0, 0, 0, 0, 49, [])),
  (49, (3, 0, 0, 2, 0, 0, 50, [])),
  (50, (5, 0, 0, 0, 0, 0, 51, [])),
  (51, (70, 0, 0, 3, 9, 373, 54, [])),
  (54, (86, 0, 0, 0, 69, 708, 57, [])),
  (57, (5, 0, 0, 0, 0, 0, 58, [])),
  (58, (3, 0, 0, 3, 0, 0, 59, [])),
  (59, (80, 0, 0, 3, 9, 373, 62, [])),
  (62, (9, 1, 0, 3, 0, 0, 65, [])),
  (65, (9, (-1), 0, 4, 0, 0, 68, [])),
  (68, (10, 0, 0, 28, 0, 0, 71, [])),
  (71, (91, 0, 0, 0, 0, 0, 0, []))], (705, 71, 704, 18, 2, []))
theorem ok_SE_bringGoals : gv_ok M_SE_bringGoals := gv_ok_of (by decide +kernel)
theorem mk_SE_bringGoals : gv_msV M_SE_bringGoals = true := by decide +kernel

def M_SE_tryOtherWay : gv_M := (⟨"GoalEngine$Search", "tryOtherWay", "()V"⟩, prog_10_method_11_code, 2, none, [(0, (5, 0, 0, 0, 0, 0, 1, [])),
  (1, (70, 0, 0, 3, 6, 370, 4, [])),
  (4, (70, 0, 0, 9, 5, 296, 7, [])),
  (7, (51, 0, 0, 16, 0, 0, 10, [])),
  (10, (5, 0, 0, 0, 0, 0, 11, [])),
  (11, (1, 0, 0, 0, 0, 0, 12, [])),
  (12, (80, 0, 0, 3, 11, 375, 15, [])),
  (15, (91, 0, 0, 0, 0, 0, 0, [])),
  (16, (5, 0, 0, 0, 0, 0, 17, [])),
  (17, (70, 0, 0, 3, 6, 370, 20, [])),
  (20, (70, 0, 0, 9, 5, 296, 23, [])),
  (23, (1, 1, 0, 0, 0, 0, 24, [])),
  (24, (21, 0, 0, 0, 0, 0, 25, [])),
  (25, (6, 0, 0, 1, 0, 0, 26, [])),
  (26, (5, 0, 0, 0, 0, 0, 27, [])),
  (27, (70, 0, 0, 3, 6, 370, 30, [])),
  (30, (3, 0, 0, 1, 0, 0, 31, [])),
  (31, (86, 0, 0, 0, 75, 674, 34, [])),
  (34, (5, 0, 0, 0, 0, 0, 35, [])),
  (35, (70, 0, 0, 3, 2, 366, 38, [])),
  (38, (5, 0, 0, 0, 0, 0, 39, [])),
  (39, (70, 0, 0, 3, 6, 370, 42, [])),
  (42, (70, 0, 0, 9, 2, 289, 45, [])),
  (45, (3, 0, 0, 1, 0, 0, 46, [])),
  (46, (72, 0, 0, 0, 0, 0, 47, [])),
  (47, (5, 0, 0, 0, 0, 0, 48, [])),
  (48, (70, 0, 0, 3, 6, 370, 51, [])),
  (51, (70, 0, 0, 9, 3, 292, 54, [])),
  (54, (3, 0, 0, 1, 0, 0, 55, [])),
  (55, (72, 0, 0, 0, 0, 0, 56, [])),
  (56, (86, 0, 0, 0, 44, 842, 59, [])),
  (59, (5, 0, 0, 0, 0, 0, 60, [])),
  (60, (5, 0, 0, 0, 0, 0, 61, [])),
  (61, (70, 0, 0, 3, 6, 370, 64, [])),
  (64, (70, 0, 0, 9, 0, 284, 67, [])),
  (67, (3, 0, 0, 1, 0, 0, 68, [])),
  (68, (72, 0, 0, 0, 0, 0, 69, [])),
  (69, (80, 0, 0, 3, 9, 373, 72, [])),
  (72, (5, 0, 0, 0, 0, 0, 73, [])),
  (73, (5, 0, 0, 0, 0, 0, 74, [])),
  (74, (70, 0, 0, 3, 6, 370, 77, [])),
  (77, (70, 0, 0, 9, 1, 286, 80, [])),
  (80, (3, 0, 0, 1, 0, 0, 81, [])),
  (81, (72, 0, 0, 0, 0, 0, 82, [])),
  (82, (80, 0, 0, 3, 10, 374, 85, [])),
  (85, (5, 0, 0, 0, 0, 0, 86, [])),
  (86, (1, 1, 0, 0, 0, 0, 87, [])),
  (87, (80, 0, 0, 3, 11, 375, 90, [])),
  (90, (91, 0, 0, 0, 0, 0, 0, []))], (841, 71, 839, 840, 0, []))
theorem ok_SE_tryOtherWay : gv_ok M_SE_tryOtherWay := gv_ok_of (by decide +kernel)
theorem mk_SE_tryOtherWay : gv_msV M_SE_tryOtherWay = true := by decide +kernel

def M_SE_freeCells : gv_M := (⟨"GoalEngine$Search", "freeCells", "()I"⟩, prog_10_method_12_code, 1, some .int, [(0, (5, 0, 0, 0, 0, 0, 1, [])),
  (1, (70, 0, 0, 3, 7, 371, 4, [])),
  (4, (5, 0, 0, 0, 0, 0, 5, [])),
  (5, (70, 0, 0, 3, 9, 373, 8, [])),
  (8, (5, 0, 0, 0, 0, 0, 9, [])),
  (9, (70, 0, 0, 3, 1, 365, 12, [])),
  (12, (70, 0, 0, 2, 2, 121, 15, [])),
  (18, (86, 0, 0, 0, 77, 437, 21, [])),
  (21, (90, 0, 0, 0, 0, 0, 0, []))], (430, 71, 428, 429, 0, []))
theorem ok_SE_freeCells : gv_ok M_SE_freeCells := gv_ok_of (by decide +kernel)
theorem mk_SE_freeCells : gv_msV M_SE_freeCells = true := by decide +kernel

def M_SE_cellsInUse : gv_M := (⟨"GoalEngine$Search", "cellsInUse", "()I"⟩, prog_10_method_13_code, 1, some .int, [(0, (5, 0, 0, 0, 0, 0, 1, [])),
  (1, (70, 0, 0, 3, 11, 375, 4, [])),
  (4, (51, 0, 0, 11, 0, 0, 7, [])),
  (7, (1, 0, 0, 0, 0, 0, 8, [])),
  (8, (10, 0, 0, 18, 0, 0, 11, [])),
  (11, (5, 0, 0, 0, 0, 0, 12, [])),
  (12, (70, 0, 0, 3, 2, 366, 15, [])),
  (15, (70, 0, 0, 4, 1, 164, 18, [])),
  (18, (90, 0, 0, 0, 0, 0, 0, []))], (733, 71, 731, 732, 0, []))
theorem ok_SE_cellsInUse : gv_ok M_SE_cellsInUse := gv_ok_of (by decide +kernel)
theorem mk_SE_cellsInUse : gv_msV M_SE_cellsInUse = true := by decide +kernel

def M_SE_choicesLeft : gv_M := (⟨"GoalEngine$Search", "choicesLeft", "()I"⟩, prog_10_method_14_code, 1, some .int, [(0, (5, 0, 0, 0, 0, 0, 1, [])),
  (1, (70, 0, 0, 3, 11, 375, 4, [])),
  (4, (51, 0, 0, 11, 0, 0, 7, [])),
  (7, (1, 0, 0, 0, 0, 0, 8, [])),
  (8, (10, 0, 0, 18, 0, 0, 11, [])),
  (11, (5, 0, 0, 0, 0, 0, 12, [])),
  (12, (70, 0, 0, 3, 6, 370, 15, [])),
  (15, (70, 0, 0, 9, 5, 296, 18, [])),
  (18, (90, 0, 0, 0, 0, 0, 0, []))], (894, 71, 892, 893, 0, []))
theorem ok_SE_choicesLeft : gv_ok M_SE_choicesLeft := gv_ok_of (by decide +kernel)
theorem mk_SE_choicesLeft : gv_msV M_SE_choicesLeft = true := by decide +kernel

def M_SE_goalsAtHand : gv_M := (⟨"GoalEngine$Search", "goalsAtHand", "()I"⟩, prog_10_method_15_code, 1, some .int, [(0, (5, 0, 0, 0, 0, 0, 1, [])),
  (1, (70, 0, 0, 3, 11, 375, 4, [])),
  (4, (51, 0, 0, 11, 0, 0, 7, [])),
  (7, (1, 0, 0, 0, 0, 0, 8, [])),
  (8, (10, 0, 0, 22, 0, 0, 11, [])),
  (11, (5, 0, 0, 0, 0, 0, 12, [])),
  (12, (70, 0, 0, 3, 5, 369, 15, [])),
  (15, (5, 0, 0, 0, 0, 0, 16, [])),
  (16, (70, 0, 0, 3, 9, 373, 19, [])),
  (19, (86, 0, 0, 0, 71, 899, 22, [])),
  (22, (90, 0, 0, 0, 0, 0, 0, []))], (898, 71, 896, 897, 0, []))
theorem ok_SE_goalsAtHand : gv_ok M_SE_goalsAtHand := gv_ok_of (by decide +kernel)
theorem mk_SE_goalsAtHand : gv_msV M_SE_goalsAtHand = true := by decide +kernel

def M_SE_collections : gv_M := (⟨"GoalEngine$Search", "collections", "()I"⟩, prog_10_method_16_code, 1, some .int, [(0, (5, 0, 0, 0, 0, 0, 1, [])),
  (1, (70, 0, 0, 3, 7, 371, 4, [])),
  (4, (70, 0, 0, 10, 5, 322, 7, [])),
  (7, (90, 0, 0, 0, 0, 0, 0, []))], (906, 71, 904, 905, 0, []))
theorem ok_SE_collections : gv_ok M_SE_collections := gv_ok_of (by decide +kernel)
theorem mk_SE_collections : gv_msV M_SE_collections = true := by decide +kernel

def M_SE_answerLength : gv_M := (⟨"GoalEngine$Search", "answerLength", "()I"⟩, prog_10_method_17_code, 1, some .int, [(0, (5, 0, 0, 0, 0, 0, 1, [])),
  (1, (70, 0, 0, 3, 11, 375, 4, [])),
  (4, (1, 2, 0, 0, 0, 0, 5, [])),
  (5, (57, 0, 0, 28, 0, 0, 8, [])),
  (8, (5, 0, 0, 0, 0, 0, 9, [])),
  (9, (70, 0, 0, 3, 8, 372, 12, [])),
  (12, (5, 0, 0, 0, 0, 0, 13, [])),
  (13, (70, 0, 0, 3, 1, 365, 16, [])),
  (16, (70, 0, 0, 2, 2, 121, 19, [])),
  (22, (86, 0, 0, 0, 87, 508, 25, [])),
  (25, (10, 0, 0, 29, 0, 0, 28, [])),
  (28, (1, 0, 0, 0, 0, 0, 29, [])),
  (29, (90, 0, 0, 0, 0, 0, 0, []))], (507, 71, 505, 506, 0, []))
theorem ok_SE_answerLength : gv_ok M_SE_answerLength := gv_ok_of (by decide +kernel)
theorem mk_SE_answerLength : gv_msV M_SE_answerLength = true := by decide +kernel

def M_SE_answerWord : gv_M := (⟨"GoalEngine$Search", "answerWord", "(I)I"⟩, prog_10_method_18_code, 2, some .int, [(0, (5, 0, 0, 0, 0, 0, 1, [])),
  (1, (70, 0, 0, 3, 8, 372, 4, [])),
  (4, (3, 0, 0, 1, 0, 0, 5, [])),
  (5, (86, 0, 0, 0, 88, 934, 8, [])),
  (8, (90, 0, 0, 0, 0, 0, 0, []))], (933, 71, 931, 932, 1, []))
theorem ok_SE_answerWord : gv_ok M_SE_answerWord := gv_ok_of (by decide +kernel)
theorem mk_SE_answerWord : gv_msV M_SE_answerWord = true := by decide +kernel

def M_CE_init : gv_M := (⟨"GoalEngine$Cells", "<init>", "()V"⟩, prog_4_method_1_code, 1, none, [(0, (5, 0, 0, 0, 0, 0, 1, [])),
  (1, (84, 0, 0, 99, 100, 156, 4, [])),
  (4, (5, 0, 0, 0, 0, 0, 5, [])),
  (5, (1, 240, 0, 0, 0, 0, 8, [])),
  (8, (82, 0, 0, 0, 0, 133, 10, [])),
  (10, (80, 0, 0, 4, 0, 157, 13, [])),
  (13, (5, 0, 0, 0, 0, 0, 14, [])),
  (14, (1, 240, 0, 0, 0, 0, 17, [])),
  (17, (82, 0, 0, 0, 0, 133, 19, [])),
  (19, (80, 0, 0, 4, 2, 165, 22, [])),
  (22, (5, 0, 0, 0, 0, 0, 23, [])),
  (23, (1, 8, 0, 0, 0, 0, 25, [])),
  (25, (82, 0, 0, 0, 0, 133, 27, [])),
  (27, (80, 0, 0, 4, 4, 170, 30, [])),
  (30, (5, 0, 0, 0, 0, 0, 31, [])),
  (31, (1, 30, 0, 0, 0, 0, 33, [])),
  (33, (82, 0, 0, 0, 0, 133, 35, [])),
  (35, (80, 0, 0, 4, 5, 171, 38, [])),
  (38, (5, 0, 0, 0, 0, 0, 39, [])),
  (39, (1, 30, 0, 0, 0, 0, 41, [])),
  (41, (82, 0, 0, 0, 0, 133, 43, [])),
  (43, (80, 0, 0, 4, 7, 173, 46, [])),
  (46, (91, 0, 0, 0, 0, 0, 0, []))], (155, 72, 154, 0, 0, []))
theorem ok_CE_init : gv_ok M_CE_init := gv_ok_of (by decide +kernel)
theorem mk_CE_init : gv_msI M_CE_init = true := by decide +kernel

def M_CE_follow : gv_M := (⟨"GoalEngine$Cells", "follow", "(I)I"⟩, prog_4_method_2_code, 5, some .int, [(0, (3, 0, 0, 1, 0, 0, 1, [])),
  (1, (6, 0, 0, 2, 0, 0, 2, [])),
  (2, (1, 0, 0, 0, 0, 0, 3, [])),
  (3, (6, 0, 0, 3, 0, 0, 4, [])),
  (4, (3, 0, 0, 3, 0, 0, 5, [])),
  (5, (1, 240, 0, 0, 0, 0, 8, [])),
  (8, (59, 0, 0, 45, 0, 0, 11, [])),
  (11, (3, 0, 0, 2, 0, 0, 12, [])),
  (12, (1, 7, 0, 0, 0, 0, 14, [])),
  (14, (23, 0, 0, 0, 0, 0, 15, [])),
  (15, (51, 0, 0, 45, 0, 0, 18, [])),
  (18, (5, 0, 0, 0, 0, 0, 19, [])),
  (19, (70, 0, 0, 4, 0, 157, 22, [])),
  (22, (3, 0, 0, 2, 0, 0, 23, [])),
  (23, (1, 3, 0, 0, 0, 0, 24, [])),
  (24, (26, 0, 0, 0, 0, 0, 25, [])),
  (25, (72, 0, 0, 0, 0, 0, 26, [])),
  (26, (6, 0, 0, 4, 0, 0, 28, [])),
  (28, (3, 0, 0, 4, 0, 0, 30, [])),
  (30, (3, 0, 0, 2, 0, 0, 31, [])),
  (31, (57, 0, 0, 36, 0, 0, 34, [])),
  (34, (3, 0, 0, 2, 0, 0, 35, [])),
  (35, (90, 0, 0, 0, 0, 0, 0, [])),
  (36, (3, 0, 0, 4, 0, 0, 38, [])),
  (38, (6, 0, 0, 2, 0, 0, 39, [])),
  (39, (9, 1, 0, 3, 0, 0, 42, [])),
  (42, (10, 0, 0, 4, 0, 0, 45, [])),
  (45, (3, 0, 0, 2, 0, 0, 46, [])),
  (46, (90, 0, 0, 0, 0, 0, 0, []))], (519, 72, 517, 518, 1, []))
theorem ok_CE_follow : gv_ok M_CE_follow := gv_ok_of (by decide +kernel)
theorem mk_CE_follow : gv_msV M_CE_follow = true := by decide +kernel

def M_CE_nameOf : gv_M := (⟨"GoalEngine$Cells", "nameOf", "(I)I"⟩, prog_4_method_3_code, 2, some .int, [(0, (3, 0, 0, 1, 0, 0, 1, [])),
  (1, (1, 7, 0, 0, 0, 0, 3, [])),
  (3, (23, 0, 0, 0, 0, 0, 4, [])),
  (4, (1, 7, 0, 0, 0, 0, 6, [])),
  (6, (57, 0, 0, 20, 0, 0, 9, [])),
  (9, (5, 0, 0, 0, 0, 0, 10, [])),
  (10, (70, 0, 0, 4, 0, 157, 13, [])),
  (13, (3, 0, 0, 1, 0, 0, 14, [])),
  (14, (1, 3, 0, 0, 0, 0, 15, [])),
  (15, (26, 0, 0, 0, 0, 0, 16, [])),
  (16, (72, 0, 0, 0, 0, 0, 17, [])),
  (17, (10, 0, 0, 21, 0, 0, 20, [])),
  (20, (3, 0, 0, 1, 0, 0, 21, [])),
  (21, (90, 0, 0, 0, 0, 0, 0, []))], (527, 72, 525, 526, 1, []))
theorem ok_CE_nameOf : gv_ok M_CE_nameOf := gv_ok_of (by decide +kernel)
theorem mk_CE_nameOf : gv_msV M_CE_nameOf = true := by decide +kernel

def M_CE_argument : gv_M := (⟨"GoalEngine$Cells", "argument", "(II)I"⟩, prog_4_method_4_code, 3, some .int, [(0, (5, 0, 0, 0, 0, 0, 1, [])),
  (1, (70, 0, 0, 4, 0, 157, 4, [])),
  (4, (3, 0, 0, 1, 0, 0, 5, [])),
  (5, (1, 3, 0, 0, 0, 0, 6, [])),
  (6, (26, 0, 0, 0, 0, 0, 7, [])),
  (7, (3, 0, 0, 2, 0, 0, 8, [])),
  (8, (20, 0, 0, 0, 0, 0, 9, [])),
  (9, (72, 0, 0, 0, 0, 0, 10, [])),
  (10, (90, 0, 0, 0, 0, 0, 0, []))], (536, 72, 534, 535, 2, []))
theorem ok_CE_argument : gv_ok M_CE_argument := gv_ok_of (by decide +kernel)
theorem mk_CE_argument : gv_msV M_CE_argument = true := by decide +kernel

def M_CE_bind : gv_M := (⟨"GoalEngine$Cells", "bind", "(II)V"⟩, prog_4_method_5_code, 3, none, [(0, (5, 0, 0, 0, 0, 0, 1, [])),
  (1, (70, 0, 0, 4, 0, 157, 4, [])),
  (4, (3, 0, 0, 1, 0, 0, 5, [])),
  (5, (1, 3, 0, 0, 0, 0, 6, [])),
  (6, (26, 0, 0, 0, 0, 0, 7, [])),
  (7, (3, 0, 0, 2, 0, 0, 8, [])),
  (8, (76, 0, 0, 0, 0, 0, 9, [])),
  (9, (5, 0, 0, 0, 0, 0, 10, [])),
  (10, (70, 0, 0, 4, 2, 165, 13, [])),
  (13, (5, 0, 0, 0, 0, 0, 14, [])),
  (14, (70, 0, 0, 4, 3, 169, 17, [])),
  (17, (3, 0, 0, 1, 0, 0, 18, [])),
  (18, (76, 0, 0, 0, 0, 0, 19, [])),
  (19, (5, 0, 0, 0, 0, 0, 20, [])),
  (20, (40, 0, 0, 0, 0, 0, 21, [])),
  (21, (70, 0, 0, 4, 3, 169, 24, [])),
  (24, (1, 1, 0, 0, 0, 0, 25, [])),
  (25, (20, 0, 0, 0, 0, 0, 26, [])),
  (26, (80, 0, 0, 4, 3, 169, 29, [])),
  (29, (91, 0, 0, 0, 0, 0, 0, []))], (775, 72, 773, 774, 2, []))
theorem ok_CE_bind : gv_ok M_CE_bind := gv_ok_of (by decide +kernel)
theorem mk_CE_bind : gv_msV M_CE_bind = true := by decide +kernel

def M_CE_goBack : gv_M := (⟨"GoalEngine$Cells", "goBack", "(II)V"⟩, prog_4_method_6_code, 4, none, [(0, (5, 0, 0, 0, 0, 0, 1, [])),
  (1, (70, 0, 0, 4, 3, 169, 4, [])),
  (4, (1, 1, 0, 0, 0, 0, 5, [])),
  (5, (21, 0, 0, 0, 0, 0, 6, [])),
  (6, (6, 0, 0, 3, 0, 0, 7, [])),
  (7, (3, 0, 0, 3, 0, 0, 8, [])),
  (8, (3, 0, 0, 2, 0, 0, 9, [])),
  (9, (58, 0, 0, 37, 0, 0, 12, [])),
  (12, (5, 0, 0, 0, 0, 0, 13, [])),
  (13, (70, 0, 0, 4, 0, 157, 16, [])),
  (16, (5, 0, 0, 0, 0, 0, 17, [])),
  (17, (70, 0, 0, 4, 2, 165, 20, [])),
  (20, (3, 0, 0, 3, 0, 0, 21, [])),
  (21, (72, 0, 0, 0, 0, 0, 22, [])),
  (22, (1, 3, 0, 0, 0, 0, 23, [])),
  (23, (26, 0, 0, 0, 0, 0, 24, [])),
  (24, (5, 0, 0, 0, 0, 0, 25, [])),
  (25, (70, 0, 0, 4, 2, 165, 28, [])),
  (28, (3, 0, 0, 3, 0, 0, 29, [])),
  (29, (72, 0, 0, 0, 0, 0, 30, [])),
  (30, (76, 0, 0, 0, 0, 0, 31, [])),
  (31, (9, (-1), 0, 3, 0, 0, 34, [])),
  (34, (10, 0, 0, 7, 0, 0, 37, [])),
  (37, (5, 0, 0, 0, 0, 0, 38, [])),
  (38, (3, 0, 0, 2, 0, 0, 39, [])),
  (39, (80, 0, 0, 4, 3, 169, 42, [])),
  (42, (5, 0, 0, 0, 0, 0, 43, [])),
  (43, (3, 0, 0, 1, 0, 0, 44, [])),
  (44, (80, 0, 0, 4, 1, 163, 47, [])),
  (47, (91, 0, 0, 0, 0, 0, 0, []))], (845, 72, 843, 844, 2, []))
theorem ok_CE_goBack : gv_ok M_CE_goBack := gv_ok_of (by decide +kernel)
theorem mk_CE_goBack : gv_msV M_CE_goBack = true := by decide +kernel

def M_CE_clear : gv_M := (⟨"GoalEngine$Cells", "clear", "()V"⟩, prog_4_method_7_code, 1, none, [(0, (5, 0, 0, 0, 0, 0, 1, [])),
  (1, (1, 0, 0, 0, 0, 0, 2, [])),
  (2, (80, 0, 0, 4, 1, 163, 5, [])),
  (5, (5, 0, 0, 0, 0, 0, 6, [])),
  (6, (1, 0, 0, 0, 0, 0, 7, [])),
  (7, (80, 0, 0, 4, 3, 169, 10, [])),
  (10, (91, 0, 0, 0, 0, 0, 0, []))], (673, 72, 671, 672, 0, []))
theorem ok_CE_clear : gv_ok M_CE_clear := gv_ok_of (by decide +kernel)
theorem mk_CE_clear : gv_msV M_CE_clear = true := by decide +kernel

def M_CE_copy : gv_M := (⟨"GoalEngine$Cells", "copy", "(LGoalEngine$Clause;)V"⟩, prog_4_method_8_code, 3, none, [(0, (5, 0, 0, 0, 0, 0, 1, [])),
  (1, (1, 0, 0, 0, 0, 0, 2, [])),
  (2, (80, 0, 0, 4, 6, 172, 5, [])),
  (5, (5, 0, 0, 0, 0, 0, 6, [])),
  (6, (1, 0, 0, 0, 0, 0, 7, [])),
  (7, (80, 0, 0, 4, 8, 175, 10, [])),
  (10, (5, 0, 0, 0, 0, 0, 11, [])),
  (11, (5, 0, 0, 1, 0, 0, 12, [])),
  (12, (70, 0, 0, 2, 2, 120, 15, [])),
  (15, (86, 0, 0, 0, 47, 685, 18, [])),
  (18, (1, 0, 0, 0, 0, 0, 19, [])),
  (19, (6, 0, 0, 2, 0, 0, 20, [])),
  (20, (3, 0, 0, 2, 0, 0, 21, [])),
  (21, (5, 0, 0, 1, 0, 0, 22, [])),
  (22, (70, 0, 0, 2, 1, 118, 25, [])),
  (25, (59, 0, 0, 58, 0, 0, 28, [])),
  (28, (5, 0, 0, 0, 0, 0, 29, [])),
  (29, (5, 0, 0, 0, 0, 0, 30, [])),
  (30, (5, 0, 0, 1, 0, 0, 31, [])),
  (31, (70, 0, 0, 2, 0, 116, 34, [])),
  (34, (3, 0, 0, 2, 0, 0, 35, [])),
  (35, (72, 0, 0, 0, 0, 0, 36, [])),
  (36, (86, 0, 0, 0, 48, 689, 39, [])),
  (39, (86, 0, 0, 0, 49, 694, 42, [])),
  (42, (5, 0, 0, 0, 0, 0, 43, [])),
  (43, (5, 0, 0, 1, 0, 0, 44, [])),
  (44, (70, 0, 0, 2, 0, 116, 47, [])),
  (47, (3, 0, 0, 2, 0, 0, 48, [])),
  (48, (72, 0, 0, 0, 0, 0, 49, [])),
  (49, (86, 0, 0, 0, 50, 698, 52, [])),
  (52, (9, 1, 0, 2, 0, 0, 55, [])),
  (55, (10, 0, 0, 20, 0, 0, 58, [])),
  (58, (91, 0, 0, 0, 0, 0, 0, []))], (684, 72, 682, 683, 1, []))
theorem ok_CE_copy : gv_ok M_CE_copy := gv_ok_of (by decide +kernel)
theorem mk_CE_copy : gv_msV M_CE_copy = true := by decide +kernel

def M_CE_takeVariables : gv_M := (⟨"GoalEngine$Cells", "takeVariables", "(I)V"⟩, prog_4_method_9_code, 3, none, [(0, (1, 0, 0, 0, 0, 0, 1, [])),
  (1, (6, 0, 0, 2, 0, 0, 2, [])),
  (2, (3, 0, 0, 2, 0, 0, 3, [])),
  (3, (1, 8, 0, 0, 0, 0, 5, [])),
  (5, (59, 0, 0, 58, 0, 0, 8, [])),
  (8, (3, 0, 0, 1, 0, 0, 9, [])),
  (9, (3, 0, 0, 2, 0, 0, 10, [])),
  (10, (26, 0, 0, 0, 0, 0, 11, [])),
  (11, (1, 1, 0, 0, 0, 0, 12, [])),
  (12, (23, 0, 0, 0, 0, 0, 13, [])),
  (13, (1, 1, 0, 0, 0, 0, 14, [])),
  (14, (57, 0, 0, 52, 0, 0, 17, [])),
  (17, (5, 0, 0, 0, 0, 0, 18, [])),
  (18, (70, 0, 0, 4, 4, 170, 21, [])),
  (21, (3, 0, 0, 2, 0, 0, 22, [])),
  (22, (5, 0, 0, 0, 0, 0, 23, [])),
  (23, (70, 0, 0, 4, 1, 163, 26, [])),
  (26, (76, 0, 0, 0, 0, 0, 27, [])),
  (27, (5, 0, 0, 0, 0, 0, 28, [])),
  (28, (70, 0, 0, 4, 0, 157, 31, [])),
  (31, (5, 0, 0, 0, 0, 0, 32, [])),
  (32, (70, 0, 0, 4, 1, 163, 35, [])),
  (35, (5, 0, 0, 0, 0, 0, 36, [])),
  (36, (70, 0, 0, 4, 1, 163, 39, [])),
  (39, (1, 3, 0, 0, 0, 0, 40, [])),
  (40, (25, 0, 0, 0, 0, 0, 41, [])),
  (41, (76, 0, 0, 0, 0, 0, 42, [])),
  (42, (5, 0, 0, 0, 0, 0, 43, [])),
  (43, (40, 0, 0, 0, 0, 0, 44, [])),
  (44, (70, 0, 0, 4, 1, 163, 47, [])),
  (47, (1, 1, 0, 0, 0, 0, 48, [])),
  (48, (20, 0, 0, 0, 0, 0, 49, [])),
  (49, (80, 0, 0, 4, 1, 163, 52, [])),
  (52, (9, 1, 0, 2, 0, 0, 55, [])),
  (55, (10, 0, 0, 2, 0, 0, 58, [])),
  (58, (91, 0, 0, 0, 0, 0, 0, []))], (688, 72, 687, 14, 1, []))
theorem ok_CE_takeVariables : gv_ok M_CE_takeVariables := gv_ok_of (by decide +kernel)
theorem mk_CE_takeVariables : gv_msV M_CE_takeVariables = true := by decide +kernel

def M_CE_termOf : gv_M := (⟨"GoalEngine$Cells", "termOf", "(I)I"⟩, prog_4_method_10_code, 2, some .int, [(0, (3, 0, 0, 1, 0, 0, 1, [])),
  (1, (1, 7, 0, 0, 0, 0, 3, [])),
  (3, (23, 0, 0, 0, 0, 0, 4, [])),
  (4, (51, 0, 0, 18, 0, 0, 7, [])),
  (7, (5, 0, 0, 0, 0, 0, 8, [])),
  (8, (70, 0, 0, 4, 4, 170, 11, [])),
  (11, (3, 0, 0, 1, 0, 0, 12, [])),
  (12, (1, 3, 0, 0, 0, 0, 13, [])),
  (13, (26, 0, 0, 0, 0, 0, 14, [])),
  (14, (72, 0, 0, 0, 0, 0, 15, [])),
  (15, (1, 3, 0, 0, 0, 0, 16, [])),
  (16, (25, 0, 0, 0, 0, 0, 17, [])),
  (17, (90, 0, 0, 0, 0, 0, 0, [])),
  (18, (3, 0, 0, 1, 0, 0, 19, [])),
  (19, (87, 0, 0, 1, 15, 693, 22, [])),
  (22, (55, 0, 0, 37, 0, 0, 25, [])),
  (25, (5, 0, 0, 0, 0, 0, 26, [])),
  (26, (70, 0, 0, 4, 1, 163, 29, [])),
  (29, (1, 3, 0, 0, 0, 0, 30, [])),
  (30, (25, 0, 0, 0, 0, 0, 31, [])),
  (31, (1, 7, 0, 0, 0, 0, 33, [])),
  (33, (24, 0, 0, 0, 0, 0, 34, [])),
  (34, (10, 0, 0, 38, 0, 0, 37, [])),
  (37, (3, 0, 0, 1, 0, 0, 38, [])),
  (38, (90, 0, 0, 0, 0, 0, 0, []))], (692, 72, 691, 15, 1, []))
theorem ok_CE_termOf : gv_ok M_CE_termOf := gv_ok_of (by decide +kernel)
theorem mk_CE_termOf : gv_msV M_CE_termOf = true := by decide +kernel

def M_CE_place : gv_M := (⟨"GoalEngine$Cells", "place", "(I)V"⟩, prog_4_method_11_code, 2, none, [(0, (5, 0, 0, 0, 0, 0, 1, [])),
  (1, (70, 0, 0, 4, 6, 172, 4, [])),
  (4, (55, 0, 0, 35, 0, 0, 7, [])),
  (7, (5, 0, 0, 0, 0, 0, 8, [])),
  (8, (40, 0, 0, 0, 0, 0, 9, [])),
  (9, (70, 0, 0, 4, 6, 172, 12, [])),
  (12, (1, 1, 0, 0, 0, 0, 13, [])),
  (13, (21, 0, 0, 0, 0, 0, 14, [])),
  (14, (80, 0, 0, 4, 6, 172, 17, [])),
  (17, (5, 0, 0, 0, 0, 0, 18, [])),
  (18, (70, 0, 0, 4, 0, 157, 21, [])),
  (21, (5, 0, 0, 0, 0, 0, 22, [])),
  (22, (70, 0, 0, 4, 5, 171, 25, [])),
  (25, (5, 0, 0, 0, 0, 0, 26, [])),
  (26, (70, 0, 0, 4, 6, 172, 29, [])),
  (29, (72, 0, 0, 0, 0, 0, 30, [])),
  (30, (3, 0, 0, 1, 0, 0, 31, [])),
  (31, (76, 0, 0, 0, 0, 0, 32, [])),
  (32, (10, 0, 0, 55, 0, 0, 35, [])),
  (35, (5, 0, 0, 0, 0, 0, 36, [])),
  (36, (70, 0, 0, 4, 7, 173, 39, [])),
  (39, (5, 0, 0, 0, 0, 0, 40, [])),
  (40, (70, 0, 0, 4, 8, 175, 43, [])),
  (43, (3, 0, 0, 1, 0, 0, 44, [])),
  (44, (76, 0, 0, 0, 0, 0, 45, [])),
  (45, (5, 0, 0, 0, 0, 0, 46, [])),
  (46, (40, 0, 0, 0, 0, 0, 47, [])),
  (47, (70, 0, 0, 4, 8, 175, 50, [])),
  (50, (1, 1, 0, 0, 0, 0, 51, [])),
  (51, (20, 0, 0, 0, 0, 0, 52, [])),
  (52, (80, 0, 0, 4, 8, 175, 55, [])),
  (55, (91, 0, 0, 0, 0, 0, 0, []))], (697, 72, 696, 16, 1, []))
theorem ok_CE_place : gv_ok M_CE_place := gv_ok_of (by decide +kernel)
theorem mk_CE_place : gv_msV M_CE_place = true := by decide +kernel

def M_CE_takeName : gv_M := (⟨"GoalEngine$Cells", "takeName", "(I)V"⟩, prog_4_method_12_code, 4, none, [(0, (3, 0, 0, 1, 0, 0, 1, [])),
  (1, (87, 0, 0, 1, 15, 693, 4, [])),
  (4, (6, 0, 0, 2, 0, 0, 5, [])),
  (5, (3, 0, 0, 2, 0, 0, 6, [])),
  (6, (51, 0, 0, 10, 0, 0, 9, [])),
  (9, (91, 0, 0, 0, 0, 0, 0, [])),
  (10, (5, 0, 0, 0, 0, 0, 11, [])),
  (11, (70, 0, 0, 4, 0, 157, 14, [])),
  (14, (5, 0, 0, 0, 0, 0, 15, [])),
  (15, (70, 0, 0, 4, 1, 163, 18, [])),
  (18, (3, 0, 0, 1, 0, 0, 19, [])),
  (19, (76, 0, 0, 0, 0, 0, 20, [])),
  (20, (3, 0, 0, 2, 0, 0, 21, [])),
  (21, (6, 0, 0, 3, 0, 0, 22, [])),
  (22, (3, 0, 0, 3, 0, 0, 23, [])),
  (23, (1, 1, 0, 0, 0, 0, 24, [])),
  (24, (58, 0, 0, 58, 0, 0, 27, [])),
  (27, (5, 0, 0, 0, 0, 0, 28, [])),
  (28, (70, 0, 0, 4, 5, 171, 31, [])),
  (31, (5, 0, 0, 0, 0, 0, 32, [])),
  (32, (70, 0, 0, 4, 6, 172, 35, [])),
  (35, (5, 0, 0, 0, 0, 0, 36, [])),
  (36, (70, 0, 0, 4, 1, 163, 39, [])),
  (39, (3, 0, 0, 3, 0, 0, 40, [])),
  (40, (20, 0, 0, 0, 0, 0, 41, [])),
  (41, (76, 0, 0, 0, 0, 0, 42, [])),
  (42, (5, 0, 0, 0, 0, 0, 43, [])),
  (43, (40, 0, 0, 0, 0, 0, 44, [])),
  (44, (70, 0, 0, 4, 6, 172, 47, [])),
  (47, (1, 1, 0, 0, 0, 0, 48, [])),
  (48, (20, 0, 0, 0, 0, 0, 49, [])),
  (49, (80, 0, 0, 4, 6, 172, 52, [])),
  (52, (9, (-1), 0, 3, 0, 0, 55, [])),
  (55, (10, 0, 0, 22, 0, 0, 58, [])),
  (58, (5, 0, 0, 0, 0, 0, 59, [])),
  (59, (40, 0, 0, 0, 0, 0, 60, [])),
  (60, (70, 0, 0, 4, 1, 163, 63, [])),
  (63, (1, 1, 0, 0, 0, 0, 64, [])),
  (64, (3, 0, 0, 2, 0, 0, 65, [])),
  (65, (20, 0, 0, 0, 0, 0, 66, [])),
  (66, (20, 0, 0, 0, 0, 0, 67, [])),
  (67, (80, 0, 0, 4, 1, 163, 70, [])),
  (70, (91, 0, 0, 0, 0, 0, 0, []))], (701, 72, 700, 17, 1, []))
theorem ok_CE_takeName : gv_ok M_CE_takeName := gv_ok_of (by decide +kernel)
theorem mk_CE_takeName : gv_msV M_CE_takeName = true := by decide +kernel
end
section
/-! code tables (written by wip/tools) -/
def M_TR_init : gv_M := (⟨"GoalEngine$Tracer", "<init>", "(LGoalEngine$Cells;)V"⟩, prog_11_method_1_code, 2, none, [(0, (5, 0, 0, 0, 0, 0, 1, [])),
  (1, (84, 0, 0, 99, 100, 201, 4, [])),
  (4, (5, 0, 0, 0, 0, 0, 5, [])),
  (5, (1, 240, 0, 0, 0, 0, 8, [])),
  (8, (82, 0, 0, 2, 0, 215, 10, [])),
  (10, (80, 0, 0, 5, 1, 203, 13, [])),
  (13, (5, 0, 0, 0, 0, 0, 14, [])),
  (14, (1, 240, 0, 0, 0, 0, 17, [])),
  (17, (82, 0, 0, 0, 0, 133, 19, [])),
  (19, (80, 0, 0, 5, 2, 204, 22, [])),
  (22, (5, 0, 0, 0, 0, 0, 23, [])),
  (23, (5, 0, 0, 1, 0, 0, 24, [])),
  (24, (80, 0, 0, 5, 0, 202, 27, [])),
  (27, (91, 0, 0, 0, 0, 0, 0, []))], (200, 73, 199, 0, 1, []))
theorem ok_TR_init : gv_ok M_TR_init := gv_ok_of (by decide +kernel)
theorem mk_TR_init : gv_msI M_TR_init = true := by decide +kernel

def M_TR_forget : gv_M := (⟨"GoalEngine$Tracer", "forget", "()V"⟩, prog_11_method_2_code, 2, none, [(0, (1, 0, 0, 0, 0, 0, 1, [])),
  (1, (6, 0, 0, 1, 0, 0, 2, [])),
  (2, (3, 0, 0, 1, 0, 0, 3, [])),
  (3, (5, 0, 0, 0, 0, 0, 4, [])),
  (4, (70, 0, 0, 5, 0, 202, 7, [])),
  (7, (70, 0, 0, 4, 1, 161, 10, [])),
  (10, (59, 0, 0, 26, 0, 0, 13, [])),
  (13, (5, 0, 0, 0, 0, 0, 14, [])),
  (14, (70, 0, 0, 5, 1, 203, 17, [])),
  (17, (3, 0, 0, 1, 0, 0, 18, [])),
  (18, (1, 0, 0, 0, 0, 0, 19, [])),
  (19, (77, 0, 0, 0, 0, 0, 20, [])),
  (20, (9, 1, 0, 1, 0, 0, 23, [])),
  (23, (10, 0, 0, 2, 0, 0, 26, [])),
  (26, (5, 0, 0, 0, 0, 0, 27, [])),
  (27, (1, 0, 0, 0, 0, 0, 28, [])),
  (28, (80, 0, 0, 5, 3, 205, 31, [])),
  (31, (91, 0, 0, 0, 0, 0, 0, []))], (452, 73, 450, 451, 0, []))
theorem ok_TR_forget : gv_ok M_TR_forget := gv_ok_of (by decide +kernel)
theorem mk_TR_forget : gv_msV M_TR_forget = true := by decide +kernel

def M_TR_hasReached : gv_M := (⟨"GoalEngine$Tracer", "hasReached", "(I)Z"⟩, prog_11_method_3_code, 2, some .boolean, [(0, (5, 0, 0, 0, 0, 0, 1, [])),
  (1, (70, 0, 0, 5, 1, 203, 4, [])),
  (4, (3, 0, 0, 1, 0, 0, 5, [])),
  (5, (73, 0, 0, 0, 0, 0, 6, [])),
  (6, (90, 0, 0, 0, 0, 0, 0, []))], (476, 73, 474, 475, 1, []))
theorem ok_TR_hasReached : gv_ok M_TR_hasReached := gv_ok_of (by decide +kernel)
theorem mk_TR_hasReached : gv_msV M_TR_hasReached = true := by decide +kernel

def M_TR_trace : gv_M := (⟨"GoalEngine$Tracer", "trace", "(I)V"⟩, prog_11_method_4_code, 6, none, [(0, (5, 0, 0, 0, 0, 0, 1, [])),
  (1, (3, 0, 0, 1, 0, 0, 2, [])),
  (2, (86, 0, 0, 0, 55, 457, 5, [])),
  (5, (1, 0, 0, 0, 0, 0, 6, [])),
  (6, (6, 0, 0, 2, 0, 0, 7, [])),
  (7, (3, 0, 0, 2, 0, 0, 8, [])),
  (8, (1, 240, 0, 0, 0, 0, 11, [])),
  (11, (59, 0, 0, 111, 0, 0, 14, [])),
  (14, (5, 0, 0, 0, 0, 0, 15, [])),
  (15, (70, 0, 0, 5, 3, 205, 18, [])),
  (18, (55, 0, 0, 111, 0, 0, 21, [])),
  (21, (5, 0, 0, 0, 0, 0, 22, [])),
  (22, (40, 0, 0, 0, 0, 0, 23, [])),
  (23, (70, 0, 0, 5, 3, 205, 26, [])),
  (26, (1, 1, 0, 0, 0, 0, 27, [])),
  (27, (21, 0, 0, 0, 0, 0, 28, [])),
  (28, (80, 0, 0, 5, 3, 205, 31, [])),
  (31, (5, 0, 0, 0, 0, 0, 32, [])),
  (32, (70, 0, 0, 5, 2, 204, 35, [])),
  (35, (5, 0, 0, 0, 0, 0, 36, [])),
  (36, (70, 0, 0, 5, 3, 205, 39, [])),
  (39, (72, 0, 0, 0, 0, 0, 40, [])),
  (40, (6, 0, 0, 3, 0, 0, 41, [])),
  (41, (5, 0, 0, 0, 0, 0, 42, [])),
  (42, (70, 0, 0, 5, 0, 202, 45, [])),
  (45, (70, 0, 0, 4, 0, 158, 48, [])),
  (48, (3, 0, 0, 3, 0, 0, 49, [])),
  (49, (72, 0, 0, 0, 0, 0, 50, [])),
  (50, (87, 0, 0, 1, 15, 461, 53, [])),
  (53, (6, 0, 0, 4, 0, 0, 55, [])),
  (55, (3, 0, 0, 4, 0, 0, 57, [])),
  (57, (51, 0, 0, 73, 0, 0, 60, [])),
  (60, (5, 0, 0, 0, 0, 0, 61, [])),
  (61, (5, 0, 0, 0, 0, 0, 62, [])),
  (62, (70, 0, 0, 5, 0, 202, 65, [])),
  (65, (70, 0, 0, 4, 0, 158, 68, [])),
  (68, (3, 0, 0, 3, 0, 0, 69, [])),
  (69, (72, 0, 0, 0, 0, 0, 70, [])),
  (70, (86, 0, 0, 0, 55, 457, 73, [])),
  (73, (1, 1, 0, 0, 0, 0, 74, [])),
  (74, (6, 0, 0, 5, 0, 0, 76, [])),
  (76, (3, 0, 0, 5, 0, 0, 78, [])),
  (78, (3, 0, 0, 4, 0, 0, 80, [])),
  (80, (60, 0, 0, 105, 0, 0, 83, [])),
  (83, (5, 0, 0, 0, 0, 0, 84, [])),
  (84, (5, 0, 0, 0, 0, 0, 85, [])),
  (85, (70, 0, 0, 5, 0, 202, 88, [])),
  (88, (70, 0, 0, 4, 0, 158, 91, [])),
  (91, (3, 0, 0, 3, 0, 0, 92, [])),
  (92, (3, 0, 0, 5, 0, 0, 94, [])),
  (94, (20, 0, 0, 0, 0, 0, 95, [])),
  (95, (72, 0, 0, 0, 0, 0, 96, [])),
  (96, (86, 0, 0, 0, 55, 457, 99, [])),
  (99, (9, 1, 0, 5, 0, 0, 102, [])),
  (102, (10, 0, 0, 76, 0, 0, 105, [])),
  (105, (9, 1, 0, 2, 0, 0, 108, [])),
  (108, (10, 0, 0, 7, 0, 0, 111, [])),
  (111, (91, 0, 0, 0, 0, 0, 0, []))], (456, 73, 454, 455, 1, []))
theorem ok_TR_trace : gv_ok M_TR_trace := gv_ok_of (by decide +kernel)
theorem mk_TR_trace : gv_msV M_TR_trace = true := by decide +kernel

def M_TR_reach : gv_M := (⟨"GoalEngine$Tracer", "reach", "(I)V"⟩, prog_11_method_5_code, 4, none, [(0, (3, 0, 0, 1, 0, 0, 1, [])),
  (1, (1, 7, 0, 0, 0, 0, 3, [])),
  (3, (23, 0, 0, 0, 0, 0, 4, [])),
  (4, (6, 0, 0, 2, 0, 0, 5, [])),
  (5, (3, 0, 0, 2, 0, 0, 6, [])),
  (6, (50, 0, 0, 16, 0, 0, 9, [])),
  (9, (3, 0, 0, 2, 0, 0, 10, [])),
  (10, (1, 7, 0, 0, 0, 0, 12, [])),
  (12, (56, 0, 0, 16, 0, 0, 15, [])),
  (15, (91, 0, 0, 0, 0, 0, 0, [])),
  (16, (3, 0, 0, 1, 0, 0, 17, [])),
  (17, (1, 3, 0, 0, 0, 0, 18, [])),
  (18, (26, 0, 0, 0, 0, 0, 19, [])),
  (19, (6, 0, 0, 3, 0, 0, 20, [])),
  (20, (5, 0, 0, 0, 0, 0, 21, [])),
  (21, (70, 0, 0, 5, 1, 203, 24, [])),
  (24, (3, 0, 0, 3, 0, 0, 25, [])),
  (25, (73, 0, 0, 0, 0, 0, 26, [])),
  (26, (51, 0, 0, 56, 0, 0, 29, [])),
  (29, (5, 0, 0, 0, 0, 0, 30, [])),
  (30, (70, 0, 0, 5, 1, 203, 33, [])),
  (33, (3, 0, 0, 3, 0, 0, 34, [])),
  (34, (1, 1, 0, 0, 0, 0, 35, [])),
  (35, (77, 0, 0, 0, 0, 0, 36, [])),
  (36, (5, 0, 0, 0, 0, 0, 37, [])),
  (37, (70, 0, 0, 5, 2, 204, 40, [])),
  (40, (5, 0, 0, 0, 0, 0, 41, [])),
  (41, (70, 0, 0, 5, 3, 205, 44, [])),
  (44, (3, 0, 0, 3, 0, 0, 45, [])),
  (45, (76, 0, 0, 0, 0, 0, 46, [])),
  (46, (5, 0, 0, 0, 0, 0, 47, [])),
  (47, (40, 0, 0, 0, 0, 0, 48, [])),
  (48, (70, 0, 0, 5, 3, 205, 51, [])),
  (51, (1, 1, 0, 0, 0, 0, 52, [])),
  (52, (20, 0, 0, 0, 0, 0, 53, [])),
  (53, (80, 0, 0, 5, 3, 205, 56, [])),
  (56, (91, 0, 0, 0, 0, 0, 0, []))], (460, 73, 459, 2, 1, []))
theorem ok_TR_reach : gv_ok M_TR_reach := gv_ok_of (by decide +kernel)
theorem mk_TR_reach : gv_msV M_TR_reach = true := by decide +kernel

def M_UN_init : gv_M := (⟨"GoalEngine$Unifier", "<init>", "(LGoalEngine$Cells;LGoalEngine$Tracer;)V"⟩, prog_12_method_1_code, 3, none, [(0, (5, 0, 0, 0, 0, 0, 1, [])),
  (1, (84, 0, 0, 99, 100, 221, 4, [])),
  (4, (5, 0, 0, 0, 0, 0, 5, [])),
  (5, (1, 601, 0, 0, 0, 0, 8, [])),
  (8, (82, 0, 0, 0, 0, 133, 10, [])),
  (10, (80, 0, 0, 6, 2, 224, 13, [])),
  (13, (5, 0, 0, 0, 0, 0, 14, [])),
  (14, (1, 601, 0, 0, 0, 0, 17, [])),
  (17, (82, 0, 0, 0, 0, 133, 19, [])),
  (19, (80, 0, 0, 6, 3, 225, 22, [])),
  (22, (5, 0, 0, 0, 0, 0, 23, [])),
  (23, (5, 0, 0, 1, 0, 0, 24, [])),
  (24, (80, 0, 0, 6, 0, 222, 27, [])),
  (27, (5, 0, 0, 0, 0, 0, 28, [])),
  (28, (5, 0, 0, 2, 0, 0, 29, [])),
  (29, (80, 0, 0, 6, 1, 223, 32, [])),
  (32, (91, 0, 0, 0, 0, 0, 0, []))], (220, 74, 219, 0, 2, []))
theorem ok_UN_init : gv_ok M_UN_init := gv_ok_of (by decide +kernel)
theorem mk_UN_init : gv_msI M_UN_init = true := by decide +kernel

def M_UN_unify : gv_M := (⟨"GoalEngine$Unifier", "unify", "(II)I"⟩, prog_12_method_2_code, 4, some .int, [(0, (5, 0, 0, 0, 0, 0, 1, [])),
  (1, (70, 0, 0, 6, 2, 224, 4, [])),
  (4, (1, 0, 0, 0, 0, 0, 5, [])),
  (5, (3, 0, 0, 1, 0, 0, 6, [])),
  (6, (76, 0, 0, 0, 0, 0, 7, [])),
  (7, (5, 0, 0, 0, 0, 0, 8, [])),
  (8, (70, 0, 0, 6, 3, 225, 11, [])),
  (11, (1, 0, 0, 0, 0, 0, 12, [])),
  (12, (3, 0, 0, 2, 0, 0, 13, [])),
  (13, (76, 0, 0, 0, 0, 0, 14, [])),
  (14, (5, 0, 0, 0, 0, 0, 15, [])),
  (15, (1, 1, 0, 0, 0, 0, 16, [])),
  (16, (80, 0, 0, 6, 4, 226, 19, [])),
  (19, (1, 0, 0, 0, 0, 0, 20, [])),
  (20, (6, 0, 0, 3, 0, 0, 21, [])),
  (21, (3, 0, 0, 3, 0, 0, 22, [])),
  (22, (1, 300, 0, 0, 0, 0, 25, [])),
  (25, (59, 0, 0, 92, 0, 0, 28, [])),
  (28, (5, 0, 0, 0, 0, 0, 29, [])),
  (29, (70, 0, 0, 6, 4, 226, 32, [])),
  (32, (55, 0, 0, 92, 0, 0, 35, [])),
  (35, (5, 0, 0, 0, 0, 0, 36, [])),
  (36, (40, 0, 0, 0, 0, 0, 37, [])),
  (37, (70, 0, 0, 6, 4, 226, 40, [])),
  (40, (1, 1, 0, 0, 0, 0, 41, [])),
  (41, (21, 0, 0, 0, 0, 0, 42, [])),
  (42, (80, 0, 0, 6, 4, 226, 45, [])),
  (45, (5, 0, 0, 0, 0, 0, 46, [])),
  (46, (5, 0, 0, 0, 0, 0, 47, [])),
  (47, (70, 0, 0, 6, 0, 222, 50, [])),
  (50, (5, 0, 0, 0, 0, 0, 51, [])),
  (51, (70, 0, 0, 6, 2, 224, 54, [])),
  (54, (5, 0, 0, 0, 0, 0, 55, [])),
  (55, (70, 0, 0, 6, 4, 226, 58, [])),
  (58, (72, 0, 0, 0, 0, 0, 59, [])),
  (59, (86, 0, 0, 0, 40, 761, 62, [])),
  (62, (5, 0, 0, 0, 0, 0, 63, [])),
  (63, (70, 0, 0, 6, 0, 222, 66, [])),
  (66, (5, 0, 0, 0, 0, 0, 67, [])),
  (67, (70, 0, 0, 6, 3, 225, 70, [])),
  (70, (5, 0, 0, 0, 0, 0, 71, [])),
  (71, (70, 0, 0, 6, 4, 226, 74, [])),
  (74, (72, 0, 0, 0, 0, 0, 75, [])),
  (75, (86, 0, 0, 0, 40, 761, 78, [])),
  (78, (86, 0, 0, 0, 58, 762, 81, [])),
  (81, (51, 0, 0, 86, 0, 0, 84, [])),
  (84, (1, 1, 0, 0, 0, 0, 85, [])),
  (85, (90, 0, 0, 0, 0, 0, 0, [])),
  (86, (9, 1, 0, 3, 0, 0, 89, [])),
  (89, (10, 0, 0, 21, 0, 0, 92, [])),
  (92, (5, 0, 0, 0, 0, 0, 93, [])),
  (93, (70, 0, 0, 6, 4, 226, 96, [])),
  (96, (51, 0, 0, 103, 0, 0, 99, [])),
  (99, (1, 0, 0, 0, 0, 0, 100, [])),
  (100, (10, 0, 0, 104, 0, 0, 103, [])),
  (103, (1, 3, 0, 0, 0, 0, 104, [])),
  (104, (90, 0, 0, 0, 0, 0, 0, []))], (760, 74, 758, 759, 2, []))
theorem ok_UN_unify : gv_ok M_UN_unify := gv_ok_of (by decide +kernel)
theorem mk_UN_unify : gv_msV M_UN_unify = true := by decide +kernel

def M_UN_lookAt : gv_M := (⟨"GoalEngine$Unifier", "lookAt", "(II)Z"⟩, prog_12_method_3_code, 5, some .boolean, [(0, (3, 0, 0, 1, 0, 0, 1, [])),
  (1, (1, 7, 0, 0, 0, 0, 3, [])),
  (3, (23, 0, 0, 0, 0, 0, 4, [])),
  (4, (51, 0, 0, 11, 0, 0, 7, [])),
  (7, (1, 1, 0, 0, 0, 0, 8, [])),
  (8, (10, 0, 0, 12, 0, 0, 11, [])),
  (11, (1, 0, 0, 0, 0, 0, 12, [])),
  (12, (6, 0, 0, 3, 0, 0, 13, [])),
  (13, (3, 0, 0, 2, 0, 0, 14, [])),
  (14, (1, 7, 0, 0, 0, 0, 16, [])),
  (16, (23, 0, 0, 0, 0, 0, 17, [])),
  (17, (51, 0, 0, 24, 0, 0, 20, [])),
  (20, (1, 1, 0, 0, 0, 0, 21, [])),
  (21, (10, 0, 0, 25, 0, 0, 24, [])),
  (24, (1, 0, 0, 0, 0, 0, 25, [])),
  (25, (6, 0, 0, 4, 0, 0, 27, [])),
  (27, (3, 0, 0, 3, 0, 0, 28, [])),
  (28, (50, 0, 0, 44, 0, 0, 31, [])),
  (31, (3, 0, 0, 4, 0, 0, 33, [])),
  (33, (50, 0, 0, 44, 0, 0, 36, [])),
  (36, (5, 0, 0, 0, 0, 0, 37, [])),
  (37, (3, 0, 0, 1, 0, 0, 38, [])),
  (38, (3, 0, 0, 2, 0, 0, 39, [])),
  (39, (86, 0, 0, 0, 59, 766, 42, [])),
  (42, (1, 1, 0, 0, 0, 0, 43, [])),
  (43, (90, 0, 0, 0, 0, 0, 0, [])),
  (44, (3, 0, 0, 3, 0, 0, 45, [])),
  (45, (50, 0, 0, 55, 0, 0, 48, [])),
  (48, (5, 0, 0, 0, 0, 0, 49, [])),
  (49, (3, 0, 0, 1, 0, 0, 50, [])),
  (50, (3, 0, 0, 2, 0, 0, 51, [])),
  (51, (86, 0, 0, 0, 60, 776, 54, [])),
  (54, (90, 0, 0, 0, 0, 0, 0, [])),
  (55, (3, 0, 0, 4, 0, 0, 57, [])),
  (57, (50, 0, 0, 67, 0, 0, 60, [])),
  (60, (5, 0, 0, 0, 0, 0, 61, [])),
  (61, (3, 0, 0, 2, 0, 0, 62, [])),
  (62, (3, 0, 0, 1, 0, 0, 63, [])),
  (63, (86, 0, 0, 0, 60, 776, 66, [])),
  (66, (90, 0, 0, 0, 0, 0, 0, [])),
  (67, (3, 0, 0, 1, 0, 0, 68, [])),
  (68, (1, 7, 0, 0, 0, 0, 70, [])),
  (70, (23, 0, 0, 0, 0, 0, 71, [])),
  (71, (1, 7, 0, 0, 0, 0, 73, [])),
  (73, (57, 0, 0, 92, 0, 0, 76, [])),
  (76, (3, 0, 0, 2, 0, 0, 77, [])),
  (77, (1, 7, 0, 0, 0, 0, 79, [])),
  (79, (23, 0, 0, 0, 0, 0, 80, [])),
  (80, (1, 7, 0, 0, 0, 0, 82, [])),
  (82, (57, 0, 0, 92, 0, 0, 85, [])),
  (85, (5, 0, 0, 0, 0, 0, 86, [])),
  (86, (3, 0, 0, 1, 0, 0, 87, [])),
  (87, (3, 0, 0, 2, 0, 0, 88, [])),
  (88, (86, 0, 0, 0, 61, 783, 91, [])),
  (91, (90, 0, 0, 0, 0, 0, 0, [])),
  (92, (3, 0, 0, 1, 0, 0, 93, [])),
  (93, (3, 0, 0, 2, 0, 0, 94, [])),
  (94, (57, 0, 0, 101, 0, 0, 97, [])),
  (97, (1, 1, 0, 0, 0, 0, 98, [])),
  (98, (10, 0, 0, 102, 0, 0, 101, [])),
  (101, (1, 0, 0, 0, 0, 0, 102, [])),
  (102, (90, 0, 0, 0, 0, 0, 0, []))], (765, 74, 764, 21, 2, []))
theorem ok_UN_lookAt : gv_ok M_UN_lookAt := gv_ok_of (by decide +kernel)
theorem mk_UN_lookAt : gv_msV M_UN_lookAt = true := by decide +kernel

def M_UN_bindLater : gv_M := (⟨"GoalEngine$Unifier", "bindLater", "(II)V"⟩, prog_12_method_4_code, 3, none, [(0, (3, 0, 0, 1, 0, 0, 1, [])),
  (1, (3, 0, 0, 2, 0, 0, 2, [])),
  (2, (56, 0, 0, 22, 0, 0, 5, [])),
  (5, (5, 0, 0, 0, 0, 0, 6, [])),
  (6, (70, 0, 0, 6, 0, 222, 9, [])),
  (9, (3, 0, 0, 1, 0, 0, 10, [])),
  (10, (3, 0, 0, 2, 0, 0, 11, [])),
  (14, (3, 0, 0, 1, 0, 0, 15, [])),
  (15, (3, 0, 0, 2, 0, 0, 16, [])),
  (19, (86, 0, 0, 0, 43, 772, 22, [])),
  (22, (91, 0, 0, 0, 0, 0, 0, []))], (769, 74, 768, 22, 2, []))
theorem ok_UN_bindLater : gv_ok M_UN_bindLater := gv_ok_of (by decide +kernel)
theorem mk_UN_bindLater : gv_msV M_UN_bindLater = true := by decide +kernel

def M_UN_bindUnlessInside : gv_M := (⟨"GoalEngine$Unifier", "bindUnlessInside", "(II)Z"⟩, prog_12_method_5_code, 3, some .boolean, [(0, (3, 0, 0, 2, 0, 0, 1, [])),
  (1, (1, 7, 0, 0, 0, 0, 3, [])),
  (3, (23, 0, 0, 0, 0, 0, 4, [])),
  (4, (1, 7, 0, 0, 0, 0, 6, [])),
  (6, (57, 0, 0, 39, 0, 0, 9, [])),
  (9, (5, 0, 0, 0, 0, 0, 10, [])),
  (10, (70, 0, 0, 6, 1, 223, 13, [])),
  (13, (86, 0, 0, 0, 52, 780, 16, [])),
  (16, (5, 0, 0, 0, 0, 0, 17, [])),
  (17, (70, 0, 0, 6, 1, 223, 20, [])),
  (20, (3, 0, 0, 2, 0, 0, 21, [])),
  (21, (86, 0, 0, 0, 54, 781, 24, [])),
  (24, (5, 0, 0, 0, 0, 0, 25, [])),
  (25, (70, 0, 0, 6, 1, 223, 28, [])),
  (28, (3, 0, 0, 1, 0, 0, 29, [])),
  (29, (1, 3, 0, 0, 0, 0, 30, [])),
  (30, (26, 0, 0, 0, 0, 0, 31, [])),
  (31, (86, 0, 0, 0, 53, 782, 34, [])),
  (34, (50, 0, 0, 39, 0, 0, 37, [])),
  (37, (1, 0, 0, 0, 0, 0, 38, [])),
  (38, (90, 0, 0, 0, 0, 0, 0, [])),
  (39, (5, 0, 0, 0, 0, 0, 40, [])),
  (40, (70, 0, 0, 6, 0, 222, 43, [])),
  (43, (3, 0, 0, 1, 0, 0, 44, [])),
  (44, (3, 0, 0, 2, 0, 0, 45, [])),
  (45, (86, 0, 0, 0, 43, 772, 48, [])),
  (48, (1, 1, 0, 0, 0, 0, 49, [])),
  (49, (90, 0, 0, 0, 0, 0, 0, []))], (779, 74, 778, 23, 2, []))
theorem ok_UN_bindUnlessInside : gv_ok M_UN_bindUnlessInside := gv_ok_of (by decide +kernel)
theorem mk_UN_bindUnlessInside : gv_msV M_UN_bindUnlessInside = true := by decide +kernel

def M_UN_openArguments : gv_M := (⟨"GoalEngine$Unifier", "openArguments", "(II)Z"⟩, prog_12_method_6_code, 5, some .boolean, [(0, (5, 0, 0, 0, 0, 0, 1, [])),
  (1, (70, 0, 0, 6, 0, 222, 4, [])),
  (4, (3, 0, 0, 1, 0, 0, 5, [])),
  (5, (86, 0, 0, 0, 41, 787, 8, [])),
  (8, (6, 0, 0, 3, 0, 0, 9, [])),
  (9, (3, 0, 0, 3, 0, 0, 10, [])),
  (10, (5, 0, 0, 0, 0, 0, 11, [])),
  (11, (70, 0, 0, 6, 0, 222, 14, [])),
  (14, (3, 0, 0, 2, 0, 0, 15, [])),
  (15, (86, 0, 0, 0, 41, 787, 18, [])),
  (18, (56, 0, 0, 23, 0, 0, 21, [])),
  (21, (1, 0, 0, 0, 0, 0, 22, [])),
  (22, (90, 0, 0, 0, 0, 0, 0, [])),
  (23, (3, 0, 0, 3, 0, 0, 24, [])),
  (24, (87, 0, 0, 1, 15, 788, 27, [])),
  (27, (6, 0, 0, 4, 0, 0, 29, [])),
  (29, (3, 0, 0, 4, 0, 0, 31, [])),
  (31, (1, 1, 0, 0, 0, 0, 32, [])),
  (32, (58, 0, 0, 89, 0, 0, 35, [])),
  (35, (5, 0, 0, 0, 0, 0, 36, [])),
  (36, (70, 0, 0, 6, 2, 224, 39, [])),
  (39, (5, 0, 0, 0, 0, 0, 40, [])),
  (40, (70, 0, 0, 6, 4, 226, 43, [])),
  (43, (5, 0, 0, 0, 0, 0, 44, [])),
  (44, (70, 0, 0, 6, 0, 222, 47, [])),
  (47, (3, 0, 0, 1, 0, 0, 48, [])),
  (48, (3, 0, 0, 4, 0, 0, 50, [])),
  (50, (86, 0, 0, 0, 42, 789, 53, [])),
  (53, (76, 0, 0, 0, 0, 0, 54, [])),
  (54, (5, 0, 0, 0, 0, 0, 55, [])),
  (55, (70, 0, 0, 6, 3, 225, 58, [])),
  (58, (5, 0, 0, 0, 0, 0, 59, [])),
  (59, (70, 0, 0, 6, 4, 226, 62, [])),
  (62, (5, 0, 0, 0, 0, 0, 63, [])),
  (63, (70, 0, 0, 6, 0, 222, 66, [])),
  (66, (3, 0, 0, 2, 0, 0, 67, [])),
  (67, (3, 0, 0, 4, 0, 0, 69, [])),
  (69, (86, 0, 0, 0, 42, 789, 72, [])),
  (72, (76, 0, 0, 0, 0, 0, 73, [])),
  (73, (5, 0, 0, 0, 0, 0, 74, [])),
  (74, (40, 0, 0, 0, 0, 0, 75, [])),
  (75, (70, 0, 0, 6, 4, 226, 78, [])),
  (78, (1, 1, 0, 0, 0, 0, 79, [])),
  (79, (20, 0, 0, 0, 0, 0, 80, [])),
  (80, (80, 0, 0, 6, 4, 226, 83, [])),
  (83, (9, (-1), 0, 4, 0, 0, 86, [])),
  (86, (10, 0, 0, 29, 0, 0, 89, [])),
  (89, (1, 1, 0, 0, 0, 0, 90, [])),
  (90, (90, 0, 0, 0, 0, 0, 0, []))], (786, 74, 785, 24, 2, []))
theorem ok_UN_openArguments : gv_ok M_UN_openArguments := gv_ok_of (by decide +kernel)
theorem mk_UN_openArguments : gv_msV M_UN_openArguments = true := by decide +kernel

def M_CA_init : gv_M := (⟨"GoalEngine$Calculator", "<init>", "(LGoalEngine$Cells;)V"⟩, prog_3_method_1_code, 2, none, [(0, (5, 0, 0, 0, 0, 0, 1, [])),
  (1, (84, 0, 0, 99, 100, 243, 4, [])),
  (4, (5, 0, 0, 0, 0, 0, 5, [])),
  (5, (5, 0, 0, 1, 0, 0, 6, [])),
  (6, (80, 0, 0, 7, 0, 244, 9, [])),
  (9, (91, 0, 0, 0, 0, 0, 0, []))], (242, 75, 241, 0, 1, []))
theorem ok_CA_init : gv_ok M_CA_init := gv_ok_of (by decide +kernel)
theorem mk_CA_init : gv_msI M_CA_init = true := by decide +kernel

def M_CA_calculate : gv_M := (⟨"GoalEngine$Calculator", "calculate", "(I)J"⟩, prog_3_method_2_code, 2, some .long, [(0, (5, 0, 0, 0, 0, 0, 1, [])),
  (1, (1, 0, 0, 0, 0, 0, 2, [])),
  (2, (80, 0, 0, 7, 1, 245, 5, [])),
  (5, (5, 0, 0, 0, 0, 0, 6, [])),
  (6, (3, 0, 0, 1, 0, 0, 7, [])),
  (7, (86, 0, 0, 0, 64, 794, 10, [])),
  (10, (92, 0, 0, 0, 0, 0, 0, []))], (793, 75, 791, 792, 1, []))
theorem ok_CA_calculate : gv_ok M_CA_calculate := gv_ok_of (by decide +kernel)
theorem mk_CA_calculate : gv_msV M_CA_calculate = true := by decide +kernel

def M_CA_resultOf : gv_M := (⟨"GoalEngine$Calculator", "resultOf", "(I)J"⟩, prog_3_method_3_code, 7, some .long, [(0, (5, 0, 0, 0, 0, 0, 1, [])),
  (1, (70, 0, 0, 7, 0, 244, 4, [])),
  (4, (3, 0, 0, 1, 0, 0, 5, [])),
  (5, (86, 0, 0, 0, 40, 798, 8, [])),
  (8, (6, 0, 0, 2, 0, 0, 9, [])),
  (9, (3, 0, 0, 2, 0, 0, 10, [])),
  (10, (1, 7, 0, 0, 0, 0, 12, [])),
  (12, (23, 0, 0, 0, 0, 0, 13, [])),
  (13, (1, 1, 0, 0, 0, 0, 14, [])),
  (14, (57, 0, 0, 22, 0, 0, 17, [])),
  (17, (3, 0, 0, 2, 0, 0, 18, [])),
  (18, (1, 3, 0, 0, 0, 0, 19, [])),
  (19, (26, 0, 0, 0, 0, 0, 20, [])),
  (20, (30, 0, 0, 0, 0, 0, 21, [])),
  (21, (92, 0, 0, 0, 0, 0, 0, [])),
  (22, (5, 0, 0, 0, 0, 0, 23, [])),
  (23, (3, 0, 0, 2, 0, 0, 24, [])),
  (24, (86, 0, 0, 0, 65, 799, 27, [])),
  (27, (50, 0, 0, 39, 0, 0, 30, [])),
  (30, (5, 0, 0, 0, 0, 0, 31, [])),
  (31, (70, 0, 0, 7, 1, 245, 34, [])),
  (34, (1, 30, 0, 0, 0, 0, 36, [])),
  (36, (58, 0, 0, 43, 0, 0, 39, [])),
  (39, (2, 0, 4294967296, 0, 0, 804, 42, [])),
  (42, (92, 0, 0, 0, 0, 0, 0, [])),
  (43, (5, 0, 0, 0, 0, 0, 44, [])),
  (44, (40, 0, 0, 0, 0, 0, 45, [])),
  (45, (70, 0, 0, 7, 1, 245, 48, [])),
  (48, (1, 1, 0, 0, 0, 0, 49, [])),
  (49, (20, 0, 0, 0, 0, 0, 50, [])),
  (50, (80, 0, 0, 7, 1, 245, 53, [])),
  (53, (5, 0, 0, 0, 0, 0, 54, [])),
  (54, (5, 0, 0, 0, 0, 0, 55, [])),
  (55, (70, 0, 0, 7, 0, 244, 58, [])),
  (58, (3, 0, 0, 2, 0, 0, 59, [])),
  (59, (1, 1, 0, 0, 0, 0, 60, [])),
  (60, (86, 0, 0, 0, 42, 805, 63, [])),
  (63, (86, 0, 0, 0, 64, 794, 66, [])),
  (66, (7, 0, 0, 3, 0, 0, 67, [])),
  (67, (4, 0, 0, 3, 0, 0, 68, [])),
  (68, (2, 0, 4294967296, 0, 0, 804, 71, [])),
  (71, (36, 0, 0, 0, 0, 0, 72, [])),
  (72, (51, 0, 0, 79, 0, 0, 75, [])),
  (75, (2, 0, 4294967296, 0, 0, 804, 78, [])),
  (78, (92, 0, 0, 0, 0, 0, 0, [])),
  (79, (5, 0, 0, 0, 0, 0, 80, [])),
  (80, (5, 0, 0, 0, 0, 0, 81, [])),
  (81, (70, 0, 0, 7, 0, 244, 84, [])),
  (84, (3, 0, 0, 2, 0, 0, 85, [])),
  (85, (1, 2, 0, 0, 0, 0, 86, [])),
  (86, (86, 0, 0, 0, 42, 805, 89, [])),
  (89, (86, 0, 0, 0, 64, 794, 92, [])),
  (92, (7, 0, 0, 5, 0, 0, 94, [])),
  (94, (4, 0, 0, 5, 0, 0, 96, [])),
  (96, (2, 0, 4294967296, 0, 0, 804, 99, [])),
  (99, (36, 0, 0, 0, 0, 0, 100, [])),
  (100, (51, 0, 0, 107, 0, 0, 103, [])),
  (103, (2, 0, 4294967296, 0, 0, 804, 106, [])),
  (106, (92, 0, 0, 0, 0, 0, 0, [])),
  (107, (5, 0, 0, 0, 0, 0, 108, [])),
  (108, (70, 0, 0, 7, 0, 244, 111, [])),
  (111, (3, 0, 0, 2, 0, 0, 112, [])),
  (112, (86, 0, 0, 0, 41, 803, 115, [])),
  (115, (1, 3, 0, 0, 0, 0, 116, [])),
  (116, (26, 0, 0, 0, 0, 0, 117, [])),
  (117, (4, 0, 0, 3, 0, 0, 118, [])),
  (118, (31, 0, 0, 0, 0, 0, 119, [])),
  (119, (4, 0, 0, 5, 0, 0, 121, [])),
  (121, (31, 0, 0, 0, 0, 0, 122, [])),
  (122, (87, 0, 0, 0, 66, 806, 125, [])),
  (125, (92, 0, 0, 0, 0, 0, 0, []))], (797, 75, 796, 25, 1, []))
theorem ok_CA_resultOf : gv_ok M_CA_resultOf := gv_ok_of (by decide +kernel)
theorem mk_CA_resultOf : gv_msV M_CA_resultOf = true := by decide +kernel

def M_CA_isOperation : gv_M := (⟨"GoalEngine$Calculator", "isOperation", "(I)Z"⟩, prog_3_method_4_code, 3, some .boolean, [(0, (5, 0, 0, 0, 0, 0, 1, [])),
  (1, (70, 0, 0, 7, 0, 244, 4, [])),
  (4, (3, 0, 0, 1, 0, 0, 5, [])),
  (5, (86, 0, 0, 0, 41, 803, 8, [])),
  (8, (6, 0, 0, 2, 0, 0, 9, [])),
  (9, (3, 0, 0, 2, 0, 0, 10, [])),
  (10, (1, 7, 0, 0, 0, 0, 12, [])),
  (12, (23, 0, 0, 0, 0, 0, 13, [])),
  (13, (1, 4, 0, 0, 0, 0, 14, [])),
  (14, (57, 0, 0, 29, 0, 0, 17, [])),
  (17, (3, 0, 0, 2, 0, 0, 18, [])),
  (18, (1, 3, 0, 0, 0, 0, 19, [])),
  (19, (26, 0, 0, 0, 0, 0, 20, [])),
  (20, (1, 28, 0, 0, 0, 0, 22, [])),
  (22, (58, 0, 0, 29, 0, 0, 25, [])),
  (25, (1, 1, 0, 0, 0, 0, 26, [])),
  (26, (10, 0, 0, 30, 0, 0, 29, [])),
  (29, (1, 0, 0, 0, 0, 0, 30, [])),
  (30, (90, 0, 0, 0, 0, 0, 0, []))], (802, 75, 801, 26, 1, []))
theorem ok_CA_isOperation : gv_ok M_CA_isOperation := gv_ok_of (by decide +kernel)
theorem mk_CA_isOperation : gv_msV M_CA_isOperation = true := by decide +kernel

def M_CA_join : gv_M := (⟨"GoalEngine$Calculator", "join", "(III)J"⟩, prog_3_method_5_code, 3, some .long, [(0, (3, 0, 0, 0, 0, 0, 1, [])),
  (1, (62, 0, 0, 74, 0, 0, 32, [(28, 32), (29, 40), (30, 48), (31, 56)])),
  (32, (3, 0, 0, 1, 0, 0, 33, [])),
  (33, (3, 0, 0, 2, 0, 0, 34, [])),
  (34, (20, 0, 0, 0, 0, 0, 35, [])),
  (35, (87, 0, 0, 0, 67, 809, 38, [])),
  (38, (30, 0, 0, 0, 0, 0, 39, [])),
  (39, (92, 0, 0, 0, 0, 0, 0, [])),
  (40, (3, 0, 0, 1, 0, 0, 41, [])),
  (41, (3, 0, 0, 2, 0, 0, 42, [])),
  (42, (21, 0, 0, 0, 0, 0, 43, [])),
  (43, (87, 0, 0, 0, 67, 809, 46, [])),
  (46, (30, 0, 0, 0, 0, 0, 47, [])),
  (47, (92, 0, 0, 0, 0, 0, 0, [])),
  (48, (3, 0, 0, 1, 0, 0, 49, [])),
  (49, (3, 0, 0, 2, 0, 0, 50, [])),
  (50, (22, 0, 0, 0, 0, 0, 51, [])),
  (51, (87, 0, 0, 0, 67, 809, 54, [])),
  (54, (30, 0, 0, 0, 0, 0, 55, [])),
  (55, (92, 0, 0, 0, 0, 0, 0, [])),
  (56, (3, 0, 0, 2, 0, 0, 57, [])),
  (57, (51, 0, 0, 66, 0, 0, 60, [])),
  (60, (2, 0, 4294967296, 0, 0, 804, 63, [])),
  (63, (10, 0, 0, 73, 0, 0, 66, [])),
  (66, (3, 0, 0, 1, 0, 0, 67, [])),
  (67, (3, 0, 0, 2, 0, 0, 68, [])),
  (68, (27, 0, 0, 0, 0, 0, 69, [])),
  (69, (87, 0, 0, 0, 67, 809, 72, [])),
  (72, (30, 0, 0, 0, 0, 0, 73, [])),
  (73, (92, 0, 0, 0, 0, 0, 0, [])),
  (74, (2, 0, 4294967296, 0, 0, 804, 77, [])),
  (77, (92, 0, 0, 0, 0, 0, 0, []))], (808, 75, 807, 0, 3, []))
theorem ok_CA_join : gv_ok M_CA_join := gv_ok_of (by decide +kernel)
theorem mk_CA_join : gv_msS M_CA_join = true := by decide +kernel

def M_CA_roundIntoRange : gv_M := (⟨"GoalEngine$Calculator", "roundIntoRange", "(I)I"⟩, prog_3_method_6_code, 1, some .int, [(0, (3, 0, 0, 0, 0, 0, 1, [])),
  (1, (1, 3, 0, 0, 0, 0, 2, [])),
  (2, (25, 0, 0, 0, 0, 0, 3, [])),
  (3, (1, 3, 0, 0, 0, 0, 4, [])),
  (4, (26, 0, 0, 0, 0, 0, 5, [])),
  (5, (90, 0, 0, 0, 0, 0, 0, []))], (811, 75, 810, 0, 1, []))
theorem ok_CA_roundIntoRange : gv_ok M_CA_roundIntoRange := gv_ok_of (by decide +kernel)
theorem mk_CA_roundIntoRange : gv_msS M_CA_roundIntoRange = true := by decide +kernel

def M_GO_init : gv_M := (⟨"GoalEngine$Goals", "<init>", "()V"⟩, prog_8_method_1_code, 1, none, [(0, (5, 0, 0, 0, 0, 0, 1, [])),
  (1, (84, 0, 0, 99, 100, 256, 4, [])),
  (4, (5, 0, 0, 0, 0, 0, 5, [])),
  (5, (1, 60, 0, 0, 0, 0, 7, [])),
  (7, (82, 0, 0, 0, 0, 133, 9, [])),
  (9, (80, 0, 0, 8, 0, 257, 12, [])),
  (12, (5, 0, 0, 0, 0, 0, 13, [])),
  (13, (1, 60, 0, 0, 0, 0, 15, [])),
  (15, (82, 0, 0, 0, 0, 133, 17, [])),
  (17, (80, 0, 0, 8, 1, 260, 20, [])),
  (20, (5, 0, 0, 0, 0, 0, 21, [])),
  (21, (1, 60, 0, 0, 0, 0, 23, [])),
  (23, (82, 0, 0, 0, 0, 133, 25, [])),
  (25, (80, 0, 0, 8, 2, 262, 28, [])),
  (28, (5, 0, 0, 0, 0, 0, 29, [])),
  (29, (1, 60, 0, 0, 0, 0, 31, [])),
  (31, (82, 0, 0, 2, 0, 215, 33, [])),
  (33, (80, 0, 0, 8, 3, 265, 36, [])),
  (36, (91, 0, 0, 0, 0, 0, 0, []))], (255, 76, 254, 0, 0, []))
theorem ok_GO_init : gv_ok M_GO_init := gv_ok_of (by decide +kernel)
theorem mk_GO_init : gv_msI M_GO_init = true := by decide +kernel

def M_GO_set : gv_M := (⟨"GoalEngine$Goals", "set", "(IIII)V"⟩, prog_8_method_2_code, 5, none, [(0, (3, 0, 0, 1, 0, 0, 1, [])),
  (1, (5, 0, 0, 0, 0, 0, 2, [])),
  (2, (70, 0, 0, 8, 0, 257, 5, [])),
  (5, (71, 0, 0, 0, 0, 0, 6, [])),
  (6, (58, 0, 0, 13, 0, 0, 9, [])),
  (9, (5, 0, 0, 0, 0, 0, 10, [])),
  (10, (86, 0, 0, 0, 70, 712, 13, [])),
  (13, (5, 0, 0, 0, 0, 0, 14, [])),
  (14, (70, 0, 0, 8, 0, 257, 17, [])),
  (17, (3, 0, 0, 1, 0, 0, 18, [])),
  (18, (3, 0, 0, 2, 0, 0, 19, [])),
  (19, (76, 0, 0, 0, 0, 0, 20, [])),
  (20, (5, 0, 0, 0, 0, 0, 21, [])),
  (21, (70, 0, 0, 8, 1, 260, 24, [])),
  (24, (3, 0, 0, 1, 0, 0, 25, [])),
  (25, (3, 0, 0, 3, 0, 0, 26, [])),
  (26, (76, 0, 0, 0, 0, 0, 27, [])),
  (27, (5, 0, 0, 0, 0, 0, 28, [])),
  (28, (70, 0, 0, 8, 2, 262, 31, [])),
  (31, (3, 0, 0, 1, 0, 0, 32, [])),
  (32, (3, 0, 0, 4, 0, 0, 34, [])),
  (34, (76, 0, 0, 0, 0, 0, 35, [])),
  (35, (91, 0, 0, 0, 0, 0, 0, []))], (711, 76, 709, 710, 4, []))
theorem ok_GO_set : gv_ok M_GO_set := gv_ok_of (by decide +kernel)
theorem mk_GO_set : gv_msV M_GO_set = true := by decide +kernel

def M_GO_grow : gv_M := (⟨"GoalEngine$Goals", "grow", "()V"⟩, prog_8_method_3_code, 2, none, [(0, (1, 2, 0, 0, 0, 0, 1, [])),
  (1, (5, 0, 0, 0, 0, 0, 2, [])),
  (2, (70, 0, 0, 8, 0, 257, 5, [])),
  (5, (71, 0, 0, 0, 0, 0, 6, [])),
  (6, (22, 0, 0, 0, 0, 0, 7, [])),
  (7, (6, 0, 0, 1, 0, 0, 8, [])),
  (8, (5, 0, 0, 0, 0, 0, 9, [])),
  (9, (5, 0, 0, 0, 0, 0, 10, [])),
  (10, (70, 0, 0, 8, 0, 257, 13, [])),
  (13, (3, 0, 0, 1, 0, 0, 14, [])),
  (17, (80, 0, 0, 8, 0, 257, 20, [])),
  (20, (5, 0, 0, 0, 0, 0, 21, [])),
  (21, (5, 0, 0, 0, 0, 0, 22, [])),
  (22, (70, 0, 0, 8, 1, 260, 25, [])),
  (25, (3, 0, 0, 1, 0, 0, 26, [])),
  (29, (80, 0, 0, 8, 1, 260, 32, [])),
  (32, (5, 0, 0, 0, 0, 0, 33, [])),
  (33, (5, 0, 0, 0, 0, 0, 34, [])),
  (34, (70, 0, 0, 8, 2, 262, 37, [])),
  (37, (3, 0, 0, 1, 0, 0, 38, [])),
  (41, (80, 0, 0, 8, 2, 262, 44, [])),
  (44, (5, 0, 0, 0, 0, 0, 45, [])),
  (45, (3, 0, 0, 1, 0, 0, 46, [])),
  (46, (82, 0, 0, 2, 0, 215, 48, [])),
  (48, (80, 0, 0, 8, 3, 265, 51, [])),
  (51, (91, 0, 0, 0, 0, 0, 0, []))], (715, 76, 714, 19, 0, []))
theorem ok_GO_grow : gv_ok M_GO_grow := gv_ok_of (by decide +kernel)
theorem mk_GO_grow : gv_msV M_GO_grow = true := by decide +kernel

def M_GO_lengthFrom : gv_M := (⟨"GoalEngine$Goals", "lengthFrom", "(I)I"⟩, prog_8_method_4_code, 4, some .int, [(0, (1, 0, 0, 0, 0, 0, 1, [])),
  (1, (6, 0, 0, 2, 0, 0, 2, [])),
  (2, (3, 0, 0, 1, 0, 0, 3, [])),
  (3, (6, 0, 0, 3, 0, 0, 4, [])),
  (4, (3, 0, 0, 3, 0, 0, 5, [])),
  (5, (52, 0, 0, 28, 0, 0, 8, [])),
  (8, (3, 0, 0, 2, 0, 0, 9, [])),
  (9, (1, 9030, 0, 0, 0, 0, 12, [])),
  (12, (59, 0, 0, 28, 0, 0, 15, [])),
  (15, (9, 1, 0, 2, 0, 0, 18, [])),
  (18, (5, 0, 0, 0, 0, 0, 19, [])),
  (19, (70, 0, 0, 8, 2, 262, 22, [])),
  (22, (3, 0, 0, 3, 0, 0, 23, [])),
  (23, (72, 0, 0, 0, 0, 0, 24, [])),
  (24, (6, 0, 0, 3, 0, 0, 25, [])),
  (25, (10, 0, 0, 4, 0, 0, 28, [])),
  (28, (3, 0, 0, 2, 0, 0, 29, [])),
  (29, (90, 0, 0, 0, 0, 0, 0, []))], (902, 76, 900, 901, 1, []))
theorem ok_GO_lengthFrom : gv_ok M_GO_lengthFrom := gv_ok_of (by decide +kernel)
theorem mk_GO_lengthFrom : gv_msV M_GO_lengthFrom = true := by decide +kernel

def M_CH_init : gv_M := (⟨"GoalEngine$Choices", "<init>", "()V"⟩, prog_5_method_1_code, 1, none, [(0, (5, 0, 0, 0, 0, 0, 1, [])),
  (1, (84, 0, 0, 99, 100, 281, 4, [])),
  (4, (5, 0, 0, 0, 0, 0, 5, [])),
  (5, (1, 300, 0, 0, 0, 0, 8, [])),
  (8, (82, 0, 0, 0, 0, 133, 10, [])),
  (10, (80, 0, 0, 9, 0, 282, 13, [])),
  (13, (5, 0, 0, 0, 0, 0, 14, [])),
  (14, (1, 300, 0, 0, 0, 0, 17, [])),
  (17, (82, 0, 0, 0, 0, 133, 19, [])),
  (19, (80, 0, 0, 9, 1, 285, 22, [])),
  (22, (5, 0, 0, 0, 0, 0, 23, [])),
  (23, (1, 300, 0, 0, 0, 0, 26, [])),
  (26, (82, 0, 0, 0, 0, 133, 28, [])),
  (28, (80, 0, 0, 9, 2, 287, 31, [])),
  (31, (5, 0, 0, 0, 0, 0, 32, [])),
  (32, (1, 300, 0, 0, 0, 0, 35, [])),
  (35, (82, 0, 0, 0, 0, 133, 37, [])),
  (37, (80, 0, 0, 9, 3, 290, 40, [])),
  (40, (5, 0, 0, 0, 0, 0, 41, [])),
  (41, (1, 300, 0, 0, 0, 0, 44, [])),
  (44, (82, 0, 0, 0, 0, 133, 46, [])),
  (46, (80, 0, 0, 9, 4, 293, 49, [])),
  (49, (91, 0, 0, 0, 0, 0, 0, []))], (280, 77, 279, 0, 0, []))
theorem ok_CH_init : gv_ok M_CH_init := gv_ok_of (by decide +kernel)
theorem mk_CH_init : gv_msI M_CH_init = true := by decide +kernel

def M_CH_make : gv_M := (⟨"GoalEngine$Choices", "make", "(IILGoalEngine$Cells;)V"⟩, prog_5_method_2_code, 5, none, [(0, (5, 0, 0, 0, 0, 0, 1, [])),
  (1, (86, 0, 0, 0, 74, 828, 4, [])),
  (4, (3, 0, 0, 1, 0, 0, 5, [])),
  (5, (1, 1, 0, 0, 0, 0, 6, [])),
  (6, (20, 0, 0, 0, 0, 0, 7, [])),
  (10, (6, 0, 0, 4, 0, 0, 12, [])),
  (12, (5, 0, 0, 0, 0, 0, 13, [])),
  (13, (70, 0, 0, 9, 0, 282, 16, [])),
  (16, (5, 0, 0, 0, 0, 0, 17, [])),
  (17, (70, 0, 0, 9, 5, 294, 20, [])),
  (20, (3, 0, 0, 1, 0, 0, 21, [])),
  (21, (76, 0, 0, 0, 0, 0, 22, [])),
  (22, (5, 0, 0, 0, 0, 0, 23, [])),
  (23, (70, 0, 0, 9, 1, 285, 26, [])),
  (26, (5, 0, 0, 0, 0, 0, 27, [])),
  (27, (70, 0, 0, 9, 5, 294, 30, [])),
  (30, (3, 0, 0, 2, 0, 0, 31, [])),
  (31, (76, 0, 0, 0, 0, 0, 32, [])),
  (32, (5, 0, 0, 0, 0, 0, 33, [])),
  (33, (70, 0, 0, 9, 2, 287, 36, [])),
  (36, (5, 0, 0, 0, 0, 0, 37, [])),
  (37, (70, 0, 0, 9, 5, 294, 40, [])),
  (40, (5, 0, 0, 3, 0, 0, 41, [])),
  (41, (70, 0, 0, 4, 1, 162, 44, [])),
  (44, (76, 0, 0, 0, 0, 0, 45, [])),
  (45, (5, 0, 0, 0, 0, 0, 46, [])),
  (46, (70, 0, 0, 9, 3, 290, 49, [])),
  (49, (5, 0, 0, 0, 0, 0, 50, [])),
  (50, (70, 0, 0, 9, 5, 294, 53, [])),
  (53, (5, 0, 0, 3, 0, 0, 54, [])),
  (54, (70, 0, 0, 4, 3, 167, 57, [])),
  (57, (76, 0, 0, 0, 0, 0, 58, [])),
  (58, (5, 0, 0, 0, 0, 0, 59, [])),
  (59, (70, 0, 0, 9, 4, 293, 62, [])),
  (62, (5, 0, 0, 0, 0, 0, 63, [])),
  (63, (70, 0, 0, 9, 5, 294, 66, [])),
  (66, (3, 0, 0, 4, 0, 0, 68, [])),
  (68, (76, 0, 0, 0, 0, 0, 69, [])),
  (69, (5, 0, 0, 0, 0, 0, 70, [])),
  (70, (40, 0, 0, 0, 0, 0, 71, [])),
  (71, (70, 0, 0, 9, 5, 294, 74, [])),
  (74, (1, 1, 0, 0, 0, 0, 75, [])),
  (75, (20, 0, 0, 0, 0, 0, 76, [])),
  (76, (80, 0, 0, 9, 5, 294, 79, [])),
  (79, (91, 0, 0, 0, 0, 0, 0, []))], (827, 77, 825, 826, 3, []))
theorem ok_CH_make : gv_ok M_CH_make := gv_ok_of (by decide +kernel)
theorem mk_CH_make : gv_msV M_CH_make = true := by decide +kernel

def M_CH_goalsKept : gv_M := (⟨"GoalEngine$Choices", "goalsKept", "()I"⟩, prog_5_method_3_code, 1, some .int, [(0, (5, 0, 0, 0, 0, 0, 1, [])),
  (1, (70, 0, 0, 9, 5, 294, 4, [])),
  (4, (51, 0, 0, 11, 0, 0, 7, [])),
  (7, (1, 0, 0, 0, 0, 0, 8, [])),
  (8, (10, 0, 0, 22, 0, 0, 11, [])),
  (11, (5, 0, 0, 0, 0, 0, 12, [])),
  (12, (70, 0, 0, 9, 4, 293, 15, [])),
  (15, (5, 0, 0, 0, 0, 0, 16, [])),
  (16, (70, 0, 0, 9, 5, 294, 19, [])),
  (19, (1, 1, 0, 0, 0, 0, 20, [])),
  (20, (21, 0, 0, 0, 0, 0, 21, [])),
  (21, (72, 0, 0, 0, 0, 0, 22, [])),
  (22, (90, 0, 0, 0, 0, 0, 0, []))], (488, 77, 486, 487, 0, []))
theorem ok_CH_goalsKept : gv_ok M_CH_goalsKept := gv_ok_of (by decide +kernel)
theorem mk_CH_goalsKept : gv_msV M_CH_goalsKept = true := by decide +kernel

def M_CH_cutTo : gv_M := (⟨"GoalEngine$Choices", "cutTo", "(I)V"⟩, prog_5_method_4_code, 2, none, [(0, (5, 0, 0, 0, 0, 0, 1, [])),
  (1, (5, 0, 0, 0, 0, 0, 2, [])),
  (2, (70, 0, 0, 9, 5, 294, 5, [])),
  (5, (3, 0, 0, 1, 0, 0, 6, [])),
  (9, (80, 0, 0, 9, 5, 294, 12, [])),
  (12, (91, 0, 0, 0, 0, 0, 0, []))], (677, 77, 675, 676, 1, []))
theorem ok_CH_cutTo : gv_ok M_CH_cutTo := gv_ok_of (by decide +kernel)
theorem mk_CH_cutTo : gv_msV M_CH_cutTo = true := by decide +kernel
end
section
/-! code tables (written by wip/tools) -/
def M_CO_init : gv_M := (⟨"GoalEngine$Collector", "<init>", "(LGoalEngine$Cells;LGoalEngine$Goals;LGoalEngine$Choices;LGoalEngine$Tracer;)V"⟩, prog_7_method_1_code, 5, none, [(0, (5, 0, 0, 0, 0, 0, 1, [])),
  (1, (84, 0, 0, 99, 100, 315, 4, [])),
  (4, (5, 0, 0, 0, 0, 0, 5, [])),
  (5, (1, 241, 0, 0, 0, 0, 8, [])),
  (8, (82, 0, 0, 0, 0, 133, 10, [])),
  (10, (80, 0, 0, 10, 4, 320, 13, [])),
  (13, (5, 0, 0, 0, 0, 0, 14, [])),
  (14, (5, 0, 0, 1, 0, 0, 15, [])),
  (15, (80, 0, 0, 10, 0, 316, 18, [])),
  (18, (5, 0, 0, 0, 0, 0, 19, [])),
  (19, (5, 0, 0, 2, 0, 0, 20, [])),
  (20, (80, 0, 0, 10, 1, 317, 23, [])),
  (23, (5, 0, 0, 0, 0, 0, 24, [])),
  (24, (5, 0, 0, 3, 0, 0, 25, [])),
  (25, (80, 0, 0, 10, 2, 318, 28, [])),
  (28, (5, 0, 0, 0, 0, 0, 29, [])),
  (29, (5, 0, 0, 4, 0, 0, 31, [])),
  (31, (80, 0, 0, 10, 3, 319, 34, [])),
  (34, (91, 0, 0, 0, 0, 0, 0, []))], (314, 78, 313, 0, 4, []))
theorem ok_CO_init : gv_ok M_CO_init := gv_ok_of (by decide +kernel)
theorem mk_CO_init : gv_msI M_CO_init = true := by decide +kernel

def M_CO_run : gv_M := (⟨"GoalEngine$Collector", "run", "(II)I"⟩, prog_7_method_2_code, 4, some .int, [(0, (5, 0, 0, 0, 0, 0, 1, [])),
  (1, (70, 0, 0, 10, 0, 316, 4, [])),
  (4, (70, 0, 0, 4, 1, 160, 7, [])),
  (7, (6, 0, 0, 3, 0, 0, 8, [])),
  (8, (5, 0, 0, 0, 0, 0, 9, [])),
  (9, (40, 0, 0, 0, 0, 0, 10, [])),
  (10, (70, 0, 0, 10, 5, 321, 13, [])),
  (13, (1, 1, 0, 0, 0, 0, 14, [])),
  (14, (20, 0, 0, 0, 0, 0, 15, [])),
  (15, (80, 0, 0, 10, 5, 321, 18, [])),
  (18, (5, 0, 0, 0, 0, 0, 19, [])),
  (19, (86, 0, 0, 0, 78, 441, 22, [])),
  (22, (5, 0, 0, 0, 0, 0, 23, [])),
  (23, (3, 0, 0, 1, 0, 0, 24, [])),
  (24, (3, 0, 0, 2, 0, 0, 25, [])),
  (25, (86, 0, 0, 0, 79, 445, 28, [])),
  (28, (5, 0, 0, 0, 0, 0, 29, [])),
  (29, (86, 0, 0, 0, 81, 468, 32, [])),
  (32, (5, 0, 0, 0, 0, 0, 33, [])),
  (33, (86, 0, 0, 0, 82, 477, 36, [])),
  (36, (5, 0, 0, 0, 0, 0, 37, [])),
  (37, (3, 0, 0, 1, 0, 0, 38, [])),
  (38, (1, 1, 0, 0, 0, 0, 39, [])),
  (39, (20, 0, 0, 0, 0, 0, 40, [])),
  (40, (5, 0, 0, 0, 0, 0, 41, [])),
  (41, (70, 0, 0, 10, 2, 318, 44, [])),
  (44, (86, 0, 0, 0, 74, 485, 47, [])),
  (50, (86, 0, 0, 0, 83, 492, 53, [])),
  (53, (5, 0, 0, 0, 0, 0, 54, [])),
  (54, (86, 0, 0, 0, 84, 496, 57, [])),
  (57, (3, 0, 0, 3, 0, 0, 58, [])),
  (58, (5, 0, 0, 0, 0, 0, 59, [])),
  (59, (70, 0, 0, 10, 0, 316, 62, [])),
  (62, (70, 0, 0, 4, 1, 160, 65, [])),
  (65, (21, 0, 0, 0, 0, 0, 66, [])),
  (66, (90, 0, 0, 0, 0, 0, 0, []))], (440, 78, 438, 439, 2, []))
theorem ok_CO_run : gv_ok M_CO_run := gv_ok_of (by decide +kernel)
theorem mk_CO_run : gv_msV M_CO_run = true := by decide +kernel

def M_CO_dropNeedlessTrail : gv_M := (⟨"GoalEngine$Collector", "dropNeedlessTrail", "()V"⟩, prog_7_method_3_code, 4, none, [(0, (1, 0, 0, 0, 0, 0, 1, [])),
  (1, (6, 0, 0, 1, 0, 0, 2, [])),
  (2, (1, 0, 0, 0, 0, 0, 3, [])),
  (3, (6, 0, 0, 2, 0, 0, 4, [])),
  (4, (1, 0, 0, 0, 0, 0, 5, [])),
  (5, (6, 0, 0, 3, 0, 0, 6, [])),
  (6, (3, 0, 0, 3, 0, 0, 7, [])),
  (7, (5, 0, 0, 0, 0, 0, 8, [])),
  (8, (70, 0, 0, 10, 0, 316, 11, [])),
  (11, (70, 0, 0, 4, 3, 168, 14, [])),
  (14, (60, 0, 0, 124, 0, 0, 17, [])),
  (17, (3, 0, 0, 2, 0, 0, 18, [])),
  (18, (5, 0, 0, 0, 0, 0, 19, [])),
  (19, (70, 0, 0, 10, 2, 318, 22, [])),
  (22, (70, 0, 0, 9, 5, 295, 25, [])),
  (25, (59, 0, 0, 57, 0, 0, 28, [])),
  (28, (5, 0, 0, 0, 0, 0, 29, [])),
  (29, (70, 0, 0, 10, 2, 318, 32, [])),
  (32, (70, 0, 0, 9, 3, 291, 35, [])),
  (35, (3, 0, 0, 2, 0, 0, 36, [])),
  (36, (72, 0, 0, 0, 0, 0, 37, [])),
  (37, (3, 0, 0, 3, 0, 0, 38, [])),
  (38, (60, 0, 0, 57, 0, 0, 41, [])),
  (41, (5, 0, 0, 0, 0, 0, 42, [])),
  (42, (70, 0, 0, 10, 2, 318, 45, [])),
  (45, (70, 0, 0, 9, 3, 291, 48, [])),
  (48, (3, 0, 0, 2, 0, 0, 49, [])),
  (49, (3, 0, 0, 1, 0, 0, 50, [])),
  (50, (76, 0, 0, 0, 0, 0, 51, [])),
  (51, (9, 1, 0, 2, 0, 0, 54, [])),
  (54, (10, 0, 0, 17, 0, 0, 57, [])),
  (57, (3, 0, 0, 3, 0, 0, 58, [])),
  (58, (5, 0, 0, 0, 0, 0, 59, [])),
  (59, (70, 0, 0, 10, 0, 316, 62, [])),
  (62, (70, 0, 0, 4, 3, 168, 65, [])),
  (65, (59, 0, 0, 118, 0, 0, 68, [])),
  (68, (3, 0, 0, 2, 0, 0, 69, [])),
  (69, (55, 0, 0, 118, 0, 0, 72, [])),
  (72, (5, 0, 0, 0, 0, 0, 73, [])),
  (73, (70, 0, 0, 10, 0, 316, 76, [])),
  (76, (70, 0, 0, 4, 2, 166, 79, [])),
  (79, (3, 0, 0, 3, 0, 0, 80, [])),
  (80, (72, 0, 0, 0, 0, 0, 81, [])),
  (81, (1, 3, 0, 0, 0, 0, 82, [])),
  (82, (26, 0, 0, 0, 0, 0, 83, [])),
  (83, (5, 0, 0, 0, 0, 0, 84, [])),
  (84, (70, 0, 0, 10, 2, 318, 87, [])),
  (87, (70, 0, 0, 9, 2, 288, 90, [])),
  (90, (3, 0, 0, 2, 0, 0, 91, [])),
  (91, (1, 1, 0, 0, 0, 0, 92, [])),
  (92, (21, 0, 0, 0, 0, 0, 93, [])),
  (93, (72, 0, 0, 0, 0, 0, 94, [])),
  (94, (59, 0, 0, 118, 0, 0, 97, [])),
  (97, (5, 0, 0, 0, 0, 0, 98, [])),
  (98, (70, 0, 0, 10, 0, 316, 101, [])),
  (101, (70, 0, 0, 4, 2, 166, 104, [])),
  (104, (3, 0, 0, 1, 0, 0, 105, [])),
  (105, (5, 0, 0, 0, 0, 0, 106, [])),
  (106, (70, 0, 0, 10, 0, 316, 109, [])),
  (109, (70, 0, 0, 4, 2, 166, 112, [])),
  (112, (3, 0, 0, 3, 0, 0, 113, [])),
  (113, (72, 0, 0, 0, 0, 0, 114, [])),
  (114, (76, 0, 0, 0, 0, 0, 115, [])),
  (115, (9, 1, 0, 1, 0, 0, 118, [])),
  (118, (9, 1, 0, 3, 0, 0, 121, [])),
  (121, (10, 0, 0, 6, 0, 0, 124, [])),
  (124, (5, 0, 0, 0, 0, 0, 125, [])),
  (125, (70, 0, 0, 10, 0, 316, 128, [])),
  (128, (3, 0, 0, 1, 0, 0, 129, [])),
  (129, (80, 0, 0, 4, 3, 168, 132, [])),
  (132, (91, 0, 0, 0, 0, 0, 0, []))], (444, 78, 443, 0, 0, []))
theorem ok_CO_dropNeedlessTrail : gv_ok M_CO_dropNeedlessTrail := gv_ok_of (by decide +kernel)
theorem mk_CO_dropNeedlessTrail : gv_msV M_CO_dropNeedlessTrail = true := by decide +kernel

def M_CO_traceLive : gv_M := (⟨"GoalEngine$Collector", "traceLive", "(II)V"⟩, prog_7_method_4_code, 4, none, [(0, (5, 0, 0, 0, 0, 0, 1, [])),
  (1, (70, 0, 0, 10, 3, 319, 4, [])),
  (4, (86, 0, 0, 0, 52, 449, 7, [])),
  (7, (1, 0, 0, 0, 0, 0, 8, [])),
  (8, (6, 0, 0, 3, 0, 0, 9, [])),
  (9, (3, 0, 0, 3, 0, 0, 10, [])),
  (10, (3, 0, 0, 2, 0, 0, 11, [])),
  (11, (59, 0, 0, 30, 0, 0, 14, [])),
  (14, (5, 0, 0, 0, 0, 0, 15, [])),
  (15, (70, 0, 0, 10, 3, 319, 18, [])),
  (18, (3, 0, 0, 3, 0, 0, 19, [])),
  (19, (1, 3, 0, 0, 0, 0, 20, [])),
  (20, (25, 0, 0, 0, 0, 0, 21, [])),
  (21, (86, 0, 0, 0, 54, 453, 24, [])),
  (24, (9, 1, 0, 3, 0, 0, 27, [])),
  (27, (10, 0, 0, 9, 0, 0, 30, [])),
  (30, (1, 0, 0, 0, 0, 0, 31, [])),
  (31, (6, 0, 0, 3, 0, 0, 32, [])),
  (32, (3, 0, 0, 3, 0, 0, 33, [])),
  (33, (5, 0, 0, 0, 0, 0, 34, [])),
  (34, (70, 0, 0, 10, 0, 316, 37, [])),
  (37, (70, 0, 0, 4, 3, 168, 40, [])),
  (40, (59, 0, 0, 65, 0, 0, 43, [])),
  (43, (5, 0, 0, 0, 0, 0, 44, [])),
  (44, (70, 0, 0, 10, 3, 319, 47, [])),
  (47, (5, 0, 0, 0, 0, 0, 48, [])),
  (48, (70, 0, 0, 10, 0, 316, 51, [])),
  (51, (70, 0, 0, 4, 2, 166, 54, [])),
  (54, (3, 0, 0, 3, 0, 0, 55, [])),
  (55, (72, 0, 0, 0, 0, 0, 56, [])),
  (56, (86, 0, 0, 0, 54, 453, 59, [])),
  (59, (9, 1, 0, 3, 0, 0, 62, [])),
  (62, (10, 0, 0, 32, 0, 0, 65, [])),
  (65, (1, 0, 0, 0, 0, 0, 66, [])),
  (66, (6, 0, 0, 3, 0, 0, 67, [])),
  (67, (3, 0, 0, 3, 0, 0, 68, [])),
  (68, (5, 0, 0, 0, 0, 0, 69, [])),
  (69, (70, 0, 0, 10, 2, 318, 72, [])),
  (72, (70, 0, 0, 9, 5, 295, 75, [])),
  (75, (59, 0, 0, 97, 0, 0, 78, [])),
  (78, (5, 0, 0, 0, 0, 0, 79, [])),
  (79, (5, 0, 0, 0, 0, 0, 80, [])),
  (80, (70, 0, 0, 10, 2, 318, 83, [])),
  (83, (70, 0, 0, 9, 0, 283, 86, [])),
  (86, (3, 0, 0, 3, 0, 0, 87, [])),
  (87, (72, 0, 0, 0, 0, 0, 88, [])),
  (88, (86, 0, 0, 0, 80, 464, 91, [])),
  (91, (9, 1, 0, 3, 0, 0, 94, [])),
  (94, (10, 0, 0, 67, 0, 0, 97, [])),
  (97, (5, 0, 0, 0, 0, 0, 98, [])),
  (98, (3, 0, 0, 1, 0, 0, 99, [])),
  (99, (86, 0, 0, 0, 80, 464, 102, [])),
  (102, (91, 0, 0, 0, 0, 0, 0, []))], (448, 78, 447, 1, 2, []))
theorem ok_CO_traceLive : gv_ok M_CO_traceLive := gv_ok_of (by decide +kernel)
theorem mk_CO_traceLive : gv_msV M_CO_traceLive = true := by decide +kernel

def M_CO_traceGoals : gv_M := (⟨"GoalEngine$Collector", "traceGoals", "(I)V"⟩, prog_7_method_5_code, 5, none, [(0, (3, 0, 0, 1, 0, 0, 1, [])),
  (1, (6, 0, 0, 2, 0, 0, 2, [])),
  (2, (1, 0, 0, 0, 0, 0, 3, [])),
  (3, (6, 0, 0, 3, 0, 0, 4, [])),
  (4, (3, 0, 0, 3, 0, 0, 5, [])),
  (5, (1, 9030, 0, 0, 0, 0, 8, [])),
  (8, (59, 0, 0, 83, 0, 0, 11, [])),
  (11, (3, 0, 0, 2, 0, 0, 12, [])),
  (12, (52, 0, 0, 83, 0, 0, 15, [])),
  (15, (5, 0, 0, 0, 0, 0, 16, [])),
  (16, (70, 0, 0, 10, 1, 317, 19, [])),
  (19, (70, 0, 0, 8, 3, 266, 22, [])),
  (22, (3, 0, 0, 2, 0, 0, 23, [])),
  (23, (73, 0, 0, 0, 0, 0, 24, [])),
  (24, (51, 0, 0, 83, 0, 0, 27, [])),
  (27, (5, 0, 0, 0, 0, 0, 28, [])),
  (28, (70, 0, 0, 10, 1, 317, 31, [])),
  (31, (70, 0, 0, 8, 3, 266, 34, [])),
  (34, (3, 0, 0, 2, 0, 0, 35, [])),
  (35, (1, 1, 0, 0, 0, 0, 36, [])),
  (36, (77, 0, 0, 0, 0, 0, 37, [])),
  (37, (5, 0, 0, 0, 0, 0, 38, [])),
  (38, (70, 0, 0, 10, 1, 317, 41, [])),
  (41, (70, 0, 0, 8, 0, 258, 44, [])),
  (44, (3, 0, 0, 2, 0, 0, 45, [])),
  (45, (72, 0, 0, 0, 0, 0, 46, [])),
  (46, (6, 0, 0, 4, 0, 0, 48, [])),
  (48, (3, 0, 0, 4, 0, 0, 50, [])),
  (50, (1, 7, 0, 0, 0, 0, 52, [])),
  (52, (23, 0, 0, 0, 0, 0, 53, [])),
  (53, (1, 7, 0, 0, 0, 0, 55, [])),
  (55, (57, 0, 0, 67, 0, 0, 58, [])),
  (58, (5, 0, 0, 0, 0, 0, 59, [])),
  (59, (70, 0, 0, 10, 3, 319, 62, [])),
  (62, (3, 0, 0, 4, 0, 0, 64, [])),
  (64, (86, 0, 0, 0, 54, 453, 67, [])),
  (67, (5, 0, 0, 0, 0, 0, 68, [])),
  (68, (70, 0, 0, 10, 1, 317, 71, [])),
  (71, (70, 0, 0, 8, 2, 264, 74, [])),
  (74, (3, 0, 0, 2, 0, 0, 75, [])),
  (75, (72, 0, 0, 0, 0, 0, 76, [])),
  (76, (6, 0, 0, 2, 0, 0, 77, [])),
  (77, (9, 1, 0, 3, 0, 0, 80, [])),
  (80, (10, 0, 0, 4, 0, 0, 83, [])),
  (83, (91, 0, 0, 0, 0, 0, 0, []))], (467, 78, 466, 3, 1, []))
theorem ok_CO_traceGoals : gv_ok M_CO_traceGoals := gv_ok_of (by decide +kernel)
theorem mk_CO_traceGoals : gv_msV M_CO_traceGoals = true := by decide +kernel

def M_CO_findNewPlaces : gv_M := (⟨"GoalEngine$Collector", "findNewPlaces", "()V"⟩, prog_7_method_6_code, 4, none, [(0, (1, 0, 0, 0, 0, 0, 1, [])),
  (1, (6, 0, 0, 1, 0, 0, 2, [])),
  (2, (1, 0, 0, 0, 0, 0, 3, [])),
  (3, (6, 0, 0, 3, 0, 0, 4, [])),
  (4, (3, 0, 0, 3, 0, 0, 5, [])),
  (5, (5, 0, 0, 0, 0, 0, 6, [])),
  (6, (70, 0, 0, 10, 0, 316, 9, [])),
  (9, (70, 0, 0, 4, 1, 160, 12, [])),
  (12, (59, 0, 0, 59, 0, 0, 15, [])),
  (15, (1, 1, 0, 0, 0, 0, 16, [])),
  (16, (5, 0, 0, 0, 0, 0, 17, [])),
  (17, (70, 0, 0, 10, 0, 316, 20, [])),
  (20, (70, 0, 0, 4, 0, 159, 23, [])),
  (23, (3, 0, 0, 3, 0, 0, 24, [])),
  (24, (72, 0, 0, 0, 0, 0, 25, [])),
  (25, (87, 0, 0, 1, 15, 472, 28, [])),
  (28, (20, 0, 0, 0, 0, 0, 29, [])),
  (29, (6, 0, 0, 2, 0, 0, 30, [])),
  (30, (5, 0, 0, 0, 0, 0, 31, [])),
  (31, (70, 0, 0, 10, 4, 320, 34, [])),
  (34, (3, 0, 0, 3, 0, 0, 35, [])),
  (35, (3, 0, 0, 1, 0, 0, 36, [])),
  (36, (76, 0, 0, 0, 0, 0, 37, [])),
  (37, (5, 0, 0, 0, 0, 0, 38, [])),
  (38, (70, 0, 0, 10, 3, 319, 41, [])),
  (41, (3, 0, 0, 3, 0, 0, 42, [])),
  (42, (86, 0, 0, 0, 53, 473, 45, [])),
  (45, (50, 0, 0, 52, 0, 0, 48, [])),
  (48, (3, 0, 0, 1, 0, 0, 49, [])),
  (49, (3, 0, 0, 2, 0, 0, 50, [])),
  (50, (20, 0, 0, 0, 0, 0, 51, [])),
  (51, (6, 0, 0, 1, 0, 0, 52, [])),
  (52, (3, 0, 0, 3, 0, 0, 53, [])),
  (53, (3, 0, 0, 2, 0, 0, 54, [])),
  (54, (20, 0, 0, 0, 0, 0, 55, [])),
  (55, (6, 0, 0, 3, 0, 0, 56, [])),
  (56, (10, 0, 0, 4, 0, 0, 59, [])),
  (59, (5, 0, 0, 0, 0, 0, 60, [])),
  (60, (70, 0, 0, 10, 4, 320, 63, [])),
  (63, (5, 0, 0, 0, 0, 0, 64, [])),
  (64, (70, 0, 0, 10, 0, 316, 67, [])),
  (67, (70, 0, 0, 4, 1, 160, 70, [])),
  (70, (3, 0, 0, 1, 0, 0, 71, [])),
  (71, (76, 0, 0, 0, 0, 0, 72, [])),
  (72, (91, 0, 0, 0, 0, 0, 0, []))], (471, 78, 470, 4, 0, []))
theorem ok_CO_findNewPlaces : gv_ok M_CO_findNewPlaces := gv_ok_of (by decide +kernel)
theorem mk_CO_findNewPlaces : gv_msV M_CO_findNewPlaces = true := by decide +kernel

def M_CO_moveCells : gv_M := (⟨"GoalEngine$Collector", "moveCells", "()V"⟩, prog_7_method_7_code, 5, none, [(0, (5, 0, 0, 0, 0, 0, 1, [])),
  (1, (70, 0, 0, 10, 4, 320, 4, [])),
  (4, (5, 0, 0, 0, 0, 0, 5, [])),
  (5, (70, 0, 0, 10, 0, 316, 8, [])),
  (8, (70, 0, 0, 4, 1, 160, 11, [])),
  (11, (72, 0, 0, 0, 0, 0, 12, [])),
  (12, (6, 0, 0, 1, 0, 0, 13, [])),
  (13, (1, 0, 0, 0, 0, 0, 14, [])),
  (14, (6, 0, 0, 3, 0, 0, 15, [])),
  (15, (3, 0, 0, 3, 0, 0, 16, [])),
  (16, (5, 0, 0, 0, 0, 0, 17, [])),
  (17, (70, 0, 0, 10, 0, 316, 20, [])),
  (20, (70, 0, 0, 4, 1, 160, 23, [])),
  (23, (59, 0, 0, 107, 0, 0, 26, [])),
  (26, (1, 1, 0, 0, 0, 0, 27, [])),
  (27, (5, 0, 0, 0, 0, 0, 28, [])),
  (28, (70, 0, 0, 10, 0, 316, 31, [])),
  (31, (70, 0, 0, 4, 0, 159, 34, [])),
  (34, (3, 0, 0, 3, 0, 0, 35, [])),
  (35, (72, 0, 0, 0, 0, 0, 36, [])),
  (36, (87, 0, 0, 1, 15, 472, 39, [])),
  (39, (20, 0, 0, 0, 0, 0, 40, [])),
  (40, (6, 0, 0, 2, 0, 0, 41, [])),
  (41, (1, 0, 0, 0, 0, 0, 42, [])),
  (42, (6, 0, 0, 4, 0, 0, 44, [])),
  (44, (3, 0, 0, 4, 0, 0, 46, [])),
  (46, (3, 0, 0, 2, 0, 0, 47, [])),
  (47, (59, 0, 0, 100, 0, 0, 50, [])),
  (50, (5, 0, 0, 0, 0, 0, 51, [])),
  (51, (70, 0, 0, 10, 3, 319, 54, [])),
  (54, (3, 0, 0, 3, 0, 0, 55, [])),
  (55, (86, 0, 0, 0, 53, 473, 58, [])),
  (58, (50, 0, 0, 100, 0, 0, 61, [])),
  (61, (5, 0, 0, 0, 0, 0, 62, [])),
  (62, (70, 0, 0, 10, 0, 316, 65, [])),
  (65, (70, 0, 0, 4, 0, 159, 68, [])),
  (68, (5, 0, 0, 0, 0, 0, 69, [])),
  (69, (70, 0, 0, 10, 4, 320, 72, [])),
  (72, (3, 0, 0, 3, 0, 0, 73, [])),
  (73, (72, 0, 0, 0, 0, 0, 74, [])),
  (74, (3, 0, 0, 4, 0, 0, 76, [])),
  (76, (20, 0, 0, 0, 0, 0, 77, [])),
  (77, (5, 0, 0, 0, 0, 0, 78, [])),
  (78, (5, 0, 0, 0, 0, 0, 79, [])),
  (79, (70, 0, 0, 10, 0, 316, 82, [])),
  (82, (70, 0, 0, 4, 0, 159, 85, [])),
  (85, (3, 0, 0, 3, 0, 0, 86, [])),
  (86, (3, 0, 0, 4, 0, 0, 88, [])),
  (88, (20, 0, 0, 0, 0, 0, 89, [])),
  (89, (72, 0, 0, 0, 0, 0, 90, [])),
  (90, (86, 0, 0, 0, 85, 481, 93, [])),
  (93, (76, 0, 0, 0, 0, 0, 94, [])),
  (94, (9, 1, 0, 4, 0, 0, 97, [])),
  (97, (10, 0, 0, 44, 0, 0, 100, [])),
  (100, (3, 0, 0, 3, 0, 0, 101, [])),
  (101, (3, 0, 0, 2, 0, 0, 102, [])),
  (102, (20, 0, 0, 0, 0, 0, 103, [])),
  (103, (6, 0, 0, 3, 0, 0, 104, [])),
  (104, (10, 0, 0, 15, 0, 0, 107, [])),
  (107, (5, 0, 0, 0, 0, 0, 108, [])),
  (108, (70, 0, 0, 10, 0, 316, 111, [])),
  (111, (3, 0, 0, 1, 0, 0, 112, [])),
  (112, (80, 0, 0, 4, 1, 160, 115, [])),
  (115, (91, 0, 0, 0, 0, 0, 0, []))], (480, 78, 479, 5, 0, []))
theorem ok_CO_moveCells : gv_ok M_CO_moveCells := gv_ok_of (by decide +kernel)
theorem mk_CO_moveCells : gv_msV M_CO_moveCells = true := by decide +kernel

def M_CO_moveGoals : gv_M := (⟨"GoalEngine$Collector", "moveGoals", "(I)V"⟩, prog_7_method_8_code, 3, none, [(0, (1, 0, 0, 0, 0, 0, 1, [])),
  (1, (6, 0, 0, 2, 0, 0, 2, [])),
  (2, (3, 0, 0, 2, 0, 0, 3, [])),
  (3, (3, 0, 0, 1, 0, 0, 4, [])),
  (4, (59, 0, 0, 57, 0, 0, 7, [])),
  (7, (5, 0, 0, 0, 0, 0, 8, [])),
  (8, (70, 0, 0, 10, 1, 317, 11, [])),
  (11, (70, 0, 0, 8, 3, 266, 14, [])),
  (14, (3, 0, 0, 2, 0, 0, 15, [])),
  (15, (73, 0, 0, 0, 0, 0, 16, [])),
  (16, (50, 0, 0, 51, 0, 0, 19, [])),
  (19, (5, 0, 0, 0, 0, 0, 20, [])),
  (20, (70, 0, 0, 10, 1, 317, 23, [])),
  (23, (70, 0, 0, 8, 0, 258, 26, [])),
  (26, (3, 0, 0, 2, 0, 0, 27, [])),
  (27, (5, 0, 0, 0, 0, 0, 28, [])),
  (28, (5, 0, 0, 0, 0, 0, 29, [])),
  (29, (70, 0, 0, 10, 1, 317, 32, [])),
  (32, (70, 0, 0, 8, 0, 258, 35, [])),
  (35, (3, 0, 0, 2, 0, 0, 36, [])),
  (36, (72, 0, 0, 0, 0, 0, 37, [])),
  (37, (86, 0, 0, 0, 85, 481, 40, [])),
  (40, (76, 0, 0, 0, 0, 0, 41, [])),
  (41, (5, 0, 0, 0, 0, 0, 42, [])),
  (42, (70, 0, 0, 10, 1, 317, 45, [])),
  (45, (70, 0, 0, 8, 3, 266, 48, [])),
  (48, (3, 0, 0, 2, 0, 0, 49, [])),
  (49, (1, 0, 0, 0, 0, 0, 50, [])),
  (50, (77, 0, 0, 0, 0, 0, 51, [])),
  (51, (9, 1, 0, 2, 0, 0, 54, [])),
  (54, (10, 0, 0, 2, 0, 0, 57, [])),
  (57, (91, 0, 0, 0, 0, 0, 0, []))], (495, 78, 494, 7, 1, []))
theorem ok_CO_moveGoals : gv_ok M_CO_moveGoals := gv_ok_of (by decide +kernel)
theorem mk_CO_moveGoals : gv_msV M_CO_moveGoals = true := by decide +kernel

def M_CO_moveMarks : gv_M := (⟨"GoalEngine$Collector", "moveMarks", "()V"⟩, prog_7_method_9_code, 2, none, [(0, (1, 0, 0, 0, 0, 0, 1, [])),
  (1, (6, 0, 0, 1, 0, 0, 2, [])),
  (2, (3, 0, 0, 1, 0, 0, 3, [])),
  (3, (5, 0, 0, 0, 0, 0, 4, [])),
  (4, (70, 0, 0, 10, 2, 318, 7, [])),
  (7, (70, 0, 0, 9, 5, 295, 10, [])),
  (10, (59, 0, 0, 42, 0, 0, 13, [])),
  (13, (5, 0, 0, 0, 0, 0, 14, [])),
  (14, (70, 0, 0, 10, 2, 318, 17, [])),
  (17, (70, 0, 0, 9, 2, 288, 20, [])),
  (20, (3, 0, 0, 1, 0, 0, 21, [])),
  (21, (5, 0, 0, 0, 0, 0, 22, [])),
  (22, (70, 0, 0, 10, 4, 320, 25, [])),
  (25, (5, 0, 0, 0, 0, 0, 26, [])),
  (26, (70, 0, 0, 10, 2, 318, 29, [])),
  (29, (70, 0, 0, 9, 2, 288, 32, [])),
  (32, (3, 0, 0, 1, 0, 0, 33, [])),
  (33, (72, 0, 0, 0, 0, 0, 34, [])),
  (34, (72, 0, 0, 0, 0, 0, 35, [])),
  (35, (76, 0, 0, 0, 0, 0, 36, [])),
  (36, (9, 1, 0, 1, 0, 0, 39, [])),
  (39, (10, 0, 0, 2, 0, 0, 42, [])),
  (42, (1, 0, 0, 0, 0, 0, 43, [])),
  (43, (6, 0, 0, 1, 0, 0, 44, [])),
  (44, (3, 0, 0, 1, 0, 0, 45, [])),
  (45, (5, 0, 0, 0, 0, 0, 46, [])),
  (46, (70, 0, 0, 10, 0, 316, 49, [])),
  (49, (70, 0, 0, 4, 3, 168, 52, [])),
  (52, (59, 0, 0, 83, 0, 0, 55, [])),
  (55, (5, 0, 0, 0, 0, 0, 56, [])),
  (56, (70, 0, 0, 10, 0, 316, 59, [])),
  (59, (70, 0, 0, 4, 2, 166, 62, [])),
  (62, (3, 0, 0, 1, 0, 0, 63, [])),
  (63, (5, 0, 0, 0, 0, 0, 64, [])),
  (64, (5, 0, 0, 0, 0, 0, 65, [])),
  (65, (70, 0, 0, 10, 0, 316, 68, [])),
  (68, (70, 0, 0, 4, 2, 166, 71, [])),
  (71, (3, 0, 0, 1, 0, 0, 72, [])),
  (72, (72, 0, 0, 0, 0, 0, 73, [])),
  (73, (86, 0, 0, 0, 85, 481, 76, [])),
  (76, (76, 0, 0, 0, 0, 0, 77, [])),
  (77, (9, 1, 0, 1, 0, 0, 80, [])),
  (80, (10, 0, 0, 44, 0, 0, 83, [])),
  (83, (91, 0, 0, 0, 0, 0, 0, []))], (499, 78, 498, 8, 0, []))
theorem ok_CO_moveMarks : gv_ok M_CO_moveMarks := gv_ok_of (by decide +kernel)
theorem mk_CO_moveMarks : gv_msV M_CO_moveMarks = true := by decide +kernel

def M_CO_moved : gv_M := (⟨"GoalEngine$Collector", "moved", "(I)I"⟩, prog_7_method_10_code, 3, some .int, [(0, (3, 0, 0, 1, 0, 0, 1, [])),
  (1, (1, 7, 0, 0, 0, 0, 3, [])),
  (3, (23, 0, 0, 0, 0, 0, 4, [])),
  (4, (6, 0, 0, 2, 0, 0, 5, [])),
  (5, (3, 0, 0, 2, 0, 0, 6, [])),
  (6, (50, 0, 0, 17, 0, 0, 9, [])),
  (9, (3, 0, 0, 2, 0, 0, 10, [])),
  (10, (1, 7, 0, 0, 0, 0, 12, [])),
  (12, (56, 0, 0, 17, 0, 0, 15, [])),
  (15, (3, 0, 0, 1, 0, 0, 16, [])),
  (16, (90, 0, 0, 0, 0, 0, 0, [])),
  (17, (5, 0, 0, 0, 0, 0, 18, [])),
  (18, (70, 0, 0, 10, 4, 320, 21, [])),
  (21, (3, 0, 0, 1, 0, 0, 22, [])),
  (22, (1, 3, 0, 0, 0, 0, 23, [])),
  (23, (26, 0, 0, 0, 0, 0, 24, [])),
  (24, (72, 0, 0, 0, 0, 0, 25, [])),
  (25, (1, 3, 0, 0, 0, 0, 26, [])),
  (26, (25, 0, 0, 0, 0, 0, 27, [])),
  (27, (3, 0, 0, 2, 0, 0, 28, [])),
  (28, (24, 0, 0, 0, 0, 0, 29, [])),
  (29, (90, 0, 0, 0, 0, 0, 0, []))], (484, 78, 483, 6, 1, []))
theorem ok_CO_moved : gv_ok M_CO_moved := gv_ok_of (by decide +kernel)
theorem mk_CO_moved : gv_msV M_CO_moved = true := by decide +kernel

def M_AN_init : gv_M := (⟨"GoalEngine$Answer", "<init>", "(LGoalEngine$Cells;)V"⟩, prog_2_method_1_code, 2, none, [(0, (5, 0, 0, 0, 0, 0, 1, [])),
  (1, (84, 0, 0, 99, 100, 341, 4, [])),
  (4, (5, 0, 0, 0, 0, 0, 5, [])),
  (5, (1, 90, 0, 0, 0, 0, 7, [])),
  (7, (82, 0, 0, 0, 0, 133, 9, [])),
  (9, (80, 0, 0, 11, 1, 343, 12, [])),
  (12, (5, 0, 0, 0, 0, 0, 13, [])),
  (13, (1, 90, 0, 0, 0, 0, 15, [])),
  (15, (82, 0, 0, 0, 0, 133, 17, [])),
  (17, (80, 0, 0, 11, 3, 345, 20, [])),
  (20, (5, 0, 0, 0, 0, 0, 21, [])),
  (21, (1, 181, 0, 0, 0, 0, 24, [])),
  (24, (82, 0, 0, 0, 0, 133, 26, [])),
  (26, (80, 0, 0, 11, 5, 347, 29, [])),
  (29, (5, 0, 0, 0, 0, 0, 30, [])),
  (30, (5, 0, 0, 1, 0, 0, 31, [])),
  (31, (80, 0, 0, 11, 0, 342, 34, [])),
  (34, (91, 0, 0, 0, 0, 0, 0, []))], (340, 79, 339, 0, 1, []))
theorem ok_AN_init : gv_ok M_AN_init := gv_ok_of (by decide +kernel)
theorem mk_AN_init : gv_msI M_AN_init = true := by decide +kernel

def M_AN_write : gv_M := (⟨"GoalEngine$Answer", "write", "(I)I"⟩, prog_2_method_2_code, 3, some .int, [(0, (5, 0, 0, 0, 0, 0, 1, [])),
  (1, (1, 0, 0, 0, 0, 0, 2, [])),
  (2, (80, 0, 0, 11, 2, 344, 5, [])),
  (5, (5, 0, 0, 0, 0, 0, 6, [])),
  (6, (1, 0, 0, 0, 0, 0, 7, [])),
  (7, (80, 0, 0, 11, 4, 346, 10, [])),
  (10, (1, 0, 0, 0, 0, 0, 11, [])),
  (11, (6, 0, 0, 2, 0, 0, 12, [])),
  (12, (3, 0, 0, 2, 0, 0, 13, [])),
  (13, (3, 0, 0, 1, 0, 0, 14, [])),
  (14, (59, 0, 0, 30, 0, 0, 17, [])),
  (17, (5, 0, 0, 0, 0, 0, 18, [])),
  (18, (3, 0, 0, 2, 0, 0, 19, [])),
  (19, (1, 3, 0, 0, 0, 0, 20, [])),
  (20, (25, 0, 0, 0, 0, 0, 21, [])),
  (21, (86, 0, 0, 0, 89, 512, 24, [])),
  (24, (9, 1, 0, 2, 0, 0, 27, [])),
  (27, (10, 0, 0, 12, 0, 0, 30, [])),
  (30, (5, 0, 0, 0, 0, 0, 31, [])),
  (31, (70, 0, 0, 11, 2, 344, 34, [])),
  (34, (90, 0, 0, 0, 0, 0, 0, []))], (511, 79, 509, 510, 1, []))
theorem ok_AN_write : gv_ok M_AN_write := gv_ok_of (by decide +kernel)
theorem mk_AN_write : gv_msV M_AN_write = true := by decide +kernel

def M_AN_at : gv_M := (⟨"GoalEngine$Answer", "at", "(I)I"⟩, prog_2_method_3_code, 2, some .int, [(0, (5, 0, 0, 0, 0, 0, 1, [])),
  (1, (70, 0, 0, 11, 1, 343, 4, [])),
  (4, (3, 0, 0, 1, 0, 0, 5, [])),
  (5, (72, 0, 0, 0, 0, 0, 6, [])),
  (6, (90, 0, 0, 0, 0, 0, 0, []))], (937, 79, 935, 936, 1, []))
theorem ok_AN_at : gv_ok M_AN_at := gv_ok_of (by decide +kernel)
theorem mk_AN_at : gv_msV M_AN_at = true := by decide +kernel

def M_AN_writeTerm : gv_M := (⟨"GoalEngine$Answer", "writeTerm", "(I)V"⟩, prog_2_method_4_code, 3, none, [(0, (5, 0, 0, 0, 0, 0, 1, [])),
  (1, (70, 0, 0, 11, 5, 347, 4, [])),
  (4, (1, 0, 0, 0, 0, 0, 5, [])),
  (5, (3, 0, 0, 1, 0, 0, 6, [])),
  (6, (76, 0, 0, 0, 0, 0, 7, [])),
  (7, (5, 0, 0, 0, 0, 0, 8, [])),
  (8, (1, 1, 0, 0, 0, 0, 9, [])),
  (9, (80, 0, 0, 11, 6, 348, 12, [])),
  (12, (5, 0, 0, 0, 0, 0, 13, [])),
  (13, (70, 0, 0, 11, 6, 348, 16, [])),
  (16, (55, 0, 0, 87, 0, 0, 19, [])),
  (19, (5, 0, 0, 0, 0, 0, 20, [])),
  (20, (70, 0, 0, 11, 2, 344, 23, [])),
  (23, (1, 90, 0, 0, 0, 0, 25, [])),
  (25, (59, 0, 0, 87, 0, 0, 28, [])),
  (28, (5, 0, 0, 0, 0, 0, 29, [])),
  (29, (40, 0, 0, 0, 0, 0, 30, [])),
  (30, (70, 0, 0, 11, 6, 348, 33, [])),
  (33, (1, 1, 0, 0, 0, 0, 34, [])),
  (34, (21, 0, 0, 0, 0, 0, 35, [])),
  (35, (80, 0, 0, 11, 6, 348, 38, [])),
  (38, (5, 0, 0, 0, 0, 0, 39, [])),
  (39, (70, 0, 0, 11, 0, 342, 42, [])),
  (42, (5, 0, 0, 0, 0, 0, 43, [])),
  (43, (70, 0, 0, 11, 5, 347, 46, [])),
  (46, (5, 0, 0, 0, 0, 0, 47, [])),
  (47, (70, 0, 0, 11, 6, 348, 50, [])),
  (50, (72, 0, 0, 0, 0, 0, 51, [])),
  (51, (86, 0, 0, 0, 40, 516, 54, [])),
  (54, (6, 0, 0, 2, 0, 0, 55, [])),
  (55, (5, 0, 0, 0, 0, 0, 56, [])),
  (56, (70, 0, 0, 11, 1, 343, 59, [])),
  (59, (5, 0, 0, 0, 0, 0, 60, [])),
  (60, (70, 0, 0, 11, 2, 344, 63, [])),
  (63, (5, 0, 0, 0, 0, 0, 64, [])),
  (64, (3, 0, 0, 2, 0, 0, 65, [])),
  (65, (86, 0, 0, 0, 90, 520, 68, [])),
  (68, (76, 0, 0, 0, 0, 0, 69, [])),
  (69, (5, 0, 0, 0, 0, 0, 70, [])),
  (70, (40, 0, 0, 0, 0, 0, 71, [])),
  (71, (70, 0, 0, 11, 2, 344, 74, [])),
  (74, (1, 1, 0, 0, 0, 0, 75, [])),
  (75, (20, 0, 0, 0, 0, 0, 76, [])),
  (76, (80, 0, 0, 11, 2, 344, 79, [])),
  (79, (5, 0, 0, 0, 0, 0, 80, [])),
  (80, (3, 0, 0, 2, 0, 0, 81, [])),
  (81, (86, 0, 0, 0, 91, 528, 84, [])),
  (84, (10, 0, 0, 12, 0, 0, 87, [])),
  (87, (91, 0, 0, 0, 0, 0, 0, []))], (515, 79, 514, 9, 1, []))
theorem ok_AN_writeTerm : gv_ok M_AN_writeTerm := gv_ok_of (by decide +kernel)
theorem mk_AN_writeTerm : gv_msV M_AN_writeTerm = true := by decide +kernel

def M_AN_wordOf : gv_M := (⟨"GoalEngine$Answer", "wordOf", "(I)I"⟩, prog_2_method_5_code, 3, some .int, [(0, (3, 0, 0, 1, 0, 0, 1, [])),
  (1, (1, 7, 0, 0, 0, 0, 3, [])),
  (3, (23, 0, 0, 0, 0, 0, 4, [])),
  (4, (50, 0, 0, 16, 0, 0, 7, [])),
  (7, (5, 0, 0, 0, 0, 0, 8, [])),
  (8, (70, 0, 0, 11, 0, 342, 11, [])),
  (11, (3, 0, 0, 1, 0, 0, 12, [])),
  (12, (86, 0, 0, 0, 41, 524, 15, [])),
  (15, (90, 0, 0, 0, 0, 0, 0, [])),
  (16, (1, 0, 0, 0, 0, 0, 17, [])),
  (17, (6, 0, 0, 2, 0, 0, 18, [])),
  (18, (3, 0, 0, 2, 0, 0, 19, [])),
  (19, (5, 0, 0, 0, 0, 0, 20, [])),
  (20, (70, 0, 0, 11, 4, 346, 23, [])),
  (23, (59, 0, 0, 46, 0, 0, 26, [])),
  (26, (5, 0, 0, 0, 0, 0, 27, [])),
  (27, (70, 0, 0, 11, 3, 345, 30, [])),
  (30, (3, 0, 0, 2, 0, 0, 31, [])),
  (31, (72, 0, 0, 0, 0, 0, 32, [])),
  (32, (3, 0, 0, 1, 0, 0, 33, [])),
  (33, (57, 0, 0, 40, 0, 0, 36, [])),
  (36, (3, 0, 0, 2, 0, 0, 37, [])),
  (37, (1, 3, 0, 0, 0, 0, 38, [])),
  (38, (25, 0, 0, 0, 0, 0, 39, [])),
  (39, (90, 0, 0, 0, 0, 0, 0, [])),
  (40, (9, 1, 0, 2, 0, 0, 43, [])),
  (43, (10, 0, 0, 18, 0, 0, 46, [])),
  (46, (5, 0, 0, 0, 0, 0, 47, [])),
  (47, (70, 0, 0, 11, 3, 345, 50, [])),
  (50, (5, 0, 0, 0, 0, 0, 51, [])),
  (51, (70, 0, 0, 11, 4, 346, 54, [])),
  (54, (3, 0, 0, 1, 0, 0, 55, [])),
  (55, (76, 0, 0, 0, 0, 0, 56, [])),
  (56, (5, 0, 0, 0, 0, 0, 57, [])),
  (57, (40, 0, 0, 0, 0, 0, 58, [])),
  (58, (70, 0, 0, 11, 4, 346, 61, [])),
  (61, (1, 1, 0, 0, 0, 0, 62, [])),
  (62, (20, 0, 0, 0, 0, 0, 63, [])),
  (63, (80, 0, 0, 11, 4, 346, 66, [])),
  (66, (5, 0, 0, 0, 0, 0, 67, [])),
  (67, (70, 0, 0, 11, 4, 346, 70, [])),
  (70, (1, 1, 0, 0, 0, 0, 71, [])),
  (71, (21, 0, 0, 0, 0, 0, 72, [])),
  (72, (1, 3, 0, 0, 0, 0, 73, [])),
  (73, (25, 0, 0, 0, 0, 0, 74, [])),
  (74, (90, 0, 0, 0, 0, 0, 0, []))], (523, 79, 522, 10, 1, []))
theorem ok_AN_wordOf : gv_ok M_AN_wordOf := gv_ok_of (by decide +kernel)
theorem mk_AN_wordOf : gv_msV M_AN_wordOf = true := by decide +kernel

def M_AN_openArguments : gv_M := (⟨"GoalEngine$Answer", "openArguments", "(I)V"⟩, prog_2_method_6_code, 3, none, [(0, (3, 0, 0, 1, 0, 0, 1, [])),
  (1, (1, 7, 0, 0, 0, 0, 3, [])),
  (3, (23, 0, 0, 0, 0, 0, 4, [])),
  (4, (1, 7, 0, 0, 0, 0, 6, [])),
  (6, (56, 0, 0, 10, 0, 0, 9, [])),
  (9, (91, 0, 0, 0, 0, 0, 0, [])),
  (10, (5, 0, 0, 0, 0, 0, 11, [])),
  (11, (70, 0, 0, 11, 0, 342, 14, [])),
  (14, (3, 0, 0, 1, 0, 0, 15, [])),
  (15, (86, 0, 0, 0, 41, 524, 18, [])),
  (18, (87, 0, 0, 1, 15, 532, 21, [])),
  (21, (6, 0, 0, 2, 0, 0, 22, [])),
  (22, (3, 0, 0, 2, 0, 0, 23, [])),
  (23, (1, 1, 0, 0, 0, 0, 24, [])),
  (24, (58, 0, 0, 61, 0, 0, 27, [])),
  (27, (5, 0, 0, 0, 0, 0, 28, [])),
  (28, (70, 0, 0, 11, 5, 347, 31, [])),
  (31, (5, 0, 0, 0, 0, 0, 32, [])),
  (32, (70, 0, 0, 11, 6, 348, 35, [])),
  (35, (5, 0, 0, 0, 0, 0, 36, [])),
  (36, (70, 0, 0, 11, 0, 342, 39, [])),
  (39, (3, 0, 0, 1, 0, 0, 40, [])),
  (40, (3, 0, 0, 2, 0, 0, 41, [])),
  (41, (86, 0, 0, 0, 42, 533, 44, [])),
  (44, (76, 0, 0, 0, 0, 0, 45, [])),
  (45, (5, 0, 0, 0, 0, 0, 46, [])),
  (46, (40, 0, 0, 0, 0, 0, 47, [])),
  (47, (70, 0, 0, 11, 6, 348, 50, [])),
  (50, (1, 1, 0, 0, 0, 0, 51, [])),
  (51, (20, 0, 0, 0, 0, 0, 52, [])),
  (52, (80, 0, 0, 11, 6, 348, 55, [])),
  (55, (9, (-1), 0, 2, 0, 0, 58, [])),
  (58, (10, 0, 0, 22, 0, 0, 61, [])),
  (61, (91, 0, 0, 0, 0, 0, 0, []))], (531, 79, 530, 11, 1, []))
theorem ok_AN_openArguments : gv_ok M_AN_openArguments := gv_ok_of (by decide +kernel)
theorem mk_AN_openArguments : gv_msV M_AN_openArguments = true := by decide +kernel
end
section
/-! code tables (written by wip/tools) -/
def M_MO_init : gv_M := (⟨"GoalEngineModel", "<init>", "()V"⟩, prog_14_method_1_code, 1, none, [(0, (5, 0, 0, 0, 0, 0, 1, [])),
  (1, (84, 0, 0, 99, 100, 943, 4, [])),
  (4, (5, 0, 0, 0, 0, 0, 5, [])),
  (5, (1, 30, 0, 0, 0, 0, 7, [])),
  (7, (82, 0, 0, 0, 0, 133, 9, [])),
  (9, (80, 0, 0, 12, 2, 946, 12, [])),
  (12, (5, 0, 0, 0, 0, 0, 13, [])),
  (13, (1, 480, 0, 0, 0, 0, 16, [])),
  (16, (82, 0, 0, 0, 0, 133, 18, [])),
  (18, (80, 0, 0, 12, 4, 948, 21, [])),
  (21, (5, 0, 0, 0, 0, 0, 22, [])),
  (22, (1, 16, 0, 0, 0, 0, 24, [])),
  (24, (82, 0, 0, 0, 0, 133, 26, [])),
  (26, (80, 0, 0, 12, 5, 949, 29, [])),
  (29, (5, 0, 0, 0, 0, 0, 30, [])),
  (30, (1, 240, 0, 0, 0, 0, 33, [])),
  (33, (82, 0, 0, 0, 0, 133, 35, [])),
  (35, (80, 0, 0, 12, 6, 950, 38, [])),
  (38, (5, 0, 0, 0, 0, 0, 39, [])),
  (39, (1, 240, 0, 0, 0, 0, 42, [])),
  (42, (82, 0, 0, 0, 0, 133, 44, [])),
  (44, (80, 0, 0, 12, 7, 951, 47, [])),
  (47, (5, 0, 0, 0, 0, 0, 48, [])),
  (48, (1, 240, 0, 0, 0, 0, 51, [])),
  (51, (82, 0, 0, 0, 0, 133, 53, [])),
  (53, (80, 0, 0, 12, 8, 952, 56, [])),
  (56, (5, 0, 0, 0, 0, 0, 57, [])),
  (57, (1, 240, 0, 0, 0, 0, 60, [])),
  (60, (82, 0, 0, 0, 0, 133, 62, [])),
  (62, (80, 0, 0, 12, 9, 953, 65, [])),
  (65, (5, 0, 0, 0, 0, 0, 66, [])),
  (66, (1, 240, 0, 0, 0, 0, 69, [])),
  (69, (82, 0, 0, 0, 0, 133, 71, [])),
  (71, (80, 0, 0, 12, 10, 954, 74, [])),
  (74, (5, 0, 0, 0, 0, 0, 75, [])),
  (75, (1, 720, 0, 0, 0, 0, 78, [])),
  (78, (82, 0, 0, 0, 0, 133, 80, [])),
  (80, (80, 0, 0, 12, 11, 955, 83, [])),
  (83, (5, 0, 0, 0, 0, 0, 84, [])),
  (84, (1, 8900, 0, 0, 0, 0, 87, [])),
  (87, (82, 0, 0, 0, 0, 133, 89, [])),
  (89, (80, 0, 0, 12, 14, 958, 92, [])),
  (92, (5, 0, 0, 0, 0, 0, 93, [])),
  (93, (1, 8900, 0, 0, 0, 0, 96, [])),
  (96, (82, 0, 0, 0, 0, 133, 98, [])),
  (98, (80, 0, 0, 12, 15, 959, 101, [])),
  (101, (5, 0, 0, 0, 0, 0, 102, [])),
  (102, (1, (-1), 0, 0, 0, 0, 103, [])),
  (103, (80, 0, 0, 12, 16, 960, 106, [])),
  (106, (5, 0, 0, 0, 0, 0, 107, [])),
  (107, (1, (-1), 0, 0, 0, 0, 108, [])),
  (108, (80, 0, 0, 12, 17, 961, 111, [])),
  (111, (5, 0, 0, 0, 0, 0, 112, [])),
  (112, (1, 320, 0, 0, 0, 0, 115, [])),
  (115, (82, 0, 0, 0, 0, 133, 117, [])),
  (117, (80, 0, 0, 12, 19, 963, 120, [])),
  (120, (5, 0, 0, 0, 0, 0, 121, [])),
  (121, (1, 320, 0, 0, 0, 0, 124, [])),
  (124, (82, 0, 0, 0, 0, 133, 126, [])),
  (126, (80, 0, 0, 12, 20, 964, 129, [])),
  (129, (5, 0, 0, 0, 0, 0, 130, [])),
  (130, (1, 320, 0, 0, 0, 0, 133, [])),
  (133, (82, 0, 0, 0, 0, 133, 135, [])),
  (135, (80, 0, 0, 12, 21, 965, 138, [])),
  (138, (5, 0, 0, 0, 0, 0, 139, [])),
  (139, (1, 320, 0, 0, 0, 0, 142, [])),
  (142, (82, 0, 0, 0, 0, 133, 144, [])),
  (144, (80, 0, 0, 12, 22, 966, 147, [])),
  (147, (5, 0, 0, 0, 0, 0, 148, [])),
  (148, (1, 2600, 0, 0, 0, 0, 151, [])),
  (151, (82, 0, 0, 0, 0, 133, 153, [])),
  (153, (80, 0, 0, 12, 24, 968, 156, [])),
  (156, (5, 0, 0, 0, 0, 0, 157, [])),
  (157, (1, 300, 0, 0, 0, 0, 160, [])),
  (160, (80, 0, 0, 12, 27, 971, 163, [])),
  (163, (5, 0, 0, 0, 0, 0, 164, [])),
  (164, (1, 8, 0, 0, 0, 0, 166, [])),
  (166, (82, 0, 0, 0, 0, 133, 168, [])),
  (168, (80, 0, 0, 12, 29, 973, 171, [])),
  (171, (5, 0, 0, 0, 0, 0, 172, [])),
  (172, (1, 1600, 0, 0, 0, 0, 175, [])),
  (175, (82, 0, 0, 0, 0, 133, 177, [])),
  (177, (80, 0, 0, 12, 31, 975, 180, [])),
  (180, (5, 0, 0, 0, 0, 0, 181, [])),
  (181, (1, 1600, 0, 0, 0, 0, 184, [])),
  (184, (82, 0, 0, 0, 0, 133, 186, [])),
  (186, (80, 0, 0, 12, 32, 976, 189, [])),
  (189, (5, 0, 0, 0, 0, 0, 190, [])),
  (190, (1, 240, 0, 0, 0, 0, 193, [])),
  (193, (82, 0, 0, 0, 0, 133, 195, [])),
  (195, (80, 0, 0, 12, 33, 977, 198, [])),
  (198, (5, 0, 0, 0, 0, 0, 199, [])),
  (199, (1, 100, 0, 0, 0, 0, 201, [])),
  (201, (82, 0, 0, 0, 0, 133, 203, [])),
  (203, (80, 0, 0, 12, 37, 981, 206, [])),
  (206, (5, 0, 0, 0, 0, 0, 207, [])),
  (207, (1, 90, 0, 0, 0, 0, 209, [])),
  (209, (82, 0, 0, 0, 0, 133, 211, [])),
  (211, (80, 0, 0, 12, 39, 983, 214, [])),
  (214, (5, 0, 0, 0, 0, 0, 215, [])),
  (215, (1, 8, 0, 0, 0, 0, 217, [])),
  (217, (82, 0, 0, 0, 0, 133, 219, [])),
  (219, (80, 0, 0, 12, 42, 986, 222, [])),
  (222, (5, 0, 0, 0, 0, 0, 223, [])),
  (223, (1, 40, 0, 0, 0, 0, 225, [])),
  (225, (82, 0, 0, 0, 0, 133, 227, [])),
  (227, (80, 0, 0, 12, 44, 988, 230, [])),
  (230, (5, 0, 0, 0, 0, 0, 231, [])),
  (231, (1, 40, 0, 0, 0, 0, 233, [])),
  (233, (82, 0, 0, 0, 0, 133, 235, [])),
  (235, (80, 0, 0, 12, 45, 989, 238, [])),
  (238, (5, 0, 0, 0, 0, 0, 239, [])),
  (239, (1, 30, 0, 0, 0, 0, 241, [])),
  (241, (82, 0, 0, 0, 0, 133, 243, [])),
  (243, (80, 0, 0, 12, 47, 991, 246, [])),
  (246, (5, 0, 0, 0, 0, 0, 247, [])),
  (247, (1, 30, 0, 0, 0, 0, 249, [])),
  (249, (82, 0, 0, 0, 0, 133, 251, [])),
  (251, (80, 0, 0, 12, 48, 992, 254, [])),
  (254, (91, 0, 0, 0, 0, 0, 0, []))], (942, 80, 941, 0, 0, []))
theorem ok_MO_init : gv_ok M_MO_init := gv_ok_of (by decide +kernel)
theorem mk_MO_init : gv_msI M_MO_init = true := by decide +kernel

def M_MO_thrown : gv_M := (⟨"GoalEngineModel", "thrown", "()I"⟩, prog_14_method_2_code, 1, some .int, [(0, (5, 0, 0, 0, 0, 0, 1, [])),
  (1, (70, 0, 0, 12, 0, 944, 4, [])),
  (4, (90, 0, 0, 0, 0, 0, 0, []))], (1098, 80, 1096, 1097, 0, []))
theorem ok_MO_thrown : gv_ok M_MO_thrown := gv_ok_of (by decide +kernel)
theorem mk_MO_thrown : gv_msV M_MO_thrown = true := by decide +kernel

def M_MO_arity : gv_M := (⟨"GoalEngineModel", "arity", "(I)I"⟩, prog_14_method_3_code, 3, some .int, [(0, (3, 0, 0, 1, 0, 0, 1, [])),
  (1, (1, 7, 0, 0, 0, 0, 3, [])),
  (3, (23, 0, 0, 0, 0, 0, 4, [])),
  (4, (6, 0, 0, 2, 0, 0, 5, [])),
  (5, (3, 0, 0, 2, 0, 0, 6, [])),
  (6, (1, 1, 0, 0, 0, 0, 7, [])),
  (7, (61, 0, 0, 22, 0, 0, 10, [])),
  (10, (3, 0, 0, 2, 0, 0, 11, [])),
  (11, (1, 6, 0, 0, 0, 0, 13, [])),
  (13, (59, 0, 0, 22, 0, 0, 16, [])),
  (16, (3, 0, 0, 2, 0, 0, 17, [])),
  (17, (1, 2, 0, 0, 0, 0, 18, [])),
  (18, (21, 0, 0, 0, 0, 0, 19, [])),
  (19, (10, 0, 0, 23, 0, 0, 22, [])),
  (22, (1, 0, 0, 0, 0, 0, 23, [])),
  (23, (90, 0, 0, 0, 0, 0, 0, []))], (1118, 80, 1117, 31, 1, []))
theorem ok_MO_arity : gv_ok M_MO_arity := gv_ok_of (by decide +kernel)
theorem mk_MO_arity : gv_msV M_MO_arity = true := by decide +kernel

def M_MO_put : gv_M := (⟨"GoalEngineModel", "put", "(I)I"⟩, prog_14_method_4_code, 5, some .int, [(0, (3, 0, 0, 1, 0, 0, 1, [])),
  (1, (1, 7, 0, 0, 0, 0, 3, [])),
  (3, (23, 0, 0, 0, 0, 0, 4, [])),
  (4, (6, 0, 0, 2, 0, 0, 5, [])),
  (5, (3, 0, 0, 1, 0, 0, 6, [])),
  (6, (1, 3, 0, 0, 0, 0, 7, [])),
  (7, (26, 0, 0, 0, 0, 0, 8, [])),
  (8, (6, 0, 0, 3, 0, 0, 9, [])),
  (9, (3, 0, 0, 2, 0, 0, 10, [])),
  (10, (51, 0, 0, 23, 0, 0, 13, [])),
  (13, (3, 0, 0, 3, 0, 0, 14, [])),
  (14, (52, 0, 0, 23, 0, 0, 17, [])),
  (17, (3, 0, 0, 3, 0, 0, 18, [])),
  (18, (1, 8, 0, 0, 0, 0, 20, [])),
  (20, (58, 0, 0, 59, 0, 0, 23, [])),
  (23, (3, 0, 0, 2, 0, 0, 24, [])),
  (24, (1, 1, 0, 0, 0, 0, 25, [])),
  (25, (56, 0, 0, 59, 0, 0, 28, [])),
  (28, (3, 0, 0, 2, 0, 0, 29, [])),
  (29, (1, 1, 0, 0, 0, 0, 30, [])),
  (30, (61, 0, 0, 49, 0, 0, 33, [])),
  (33, (3, 0, 0, 2, 0, 0, 34, [])),
  (34, (1, 6, 0, 0, 0, 0, 36, [])),
  (36, (59, 0, 0, 49, 0, 0, 39, [])),
  (39, (3, 0, 0, 3, 0, 0, 40, [])),
  (40, (52, 0, 0, 49, 0, 0, 43, [])),
  (43, (3, 0, 0, 3, 0, 0, 44, [])),
  (44, (1, 32, 0, 0, 0, 0, 46, [])),
  (46, (58, 0, 0, 59, 0, 0, 49, [])),
  (49, (3, 0, 0, 2, 0, 0, 50, [])),
  (50, (1, 6, 0, 0, 0, 0, 52, [])),
  (52, (57, 0, 0, 63, 0, 0, 55, [])),
  (55, (3, 0, 0, 3, 0, 0, 56, [])),
  (56, (51, 0, 0, 63, 0, 0, 59, [])),
  (59, (1, 1, 0, 0, 0, 0, 60, [])),
  (60, (10, 0, 0, 64, 0, 0, 63, [])),
  (63, (1, 0, 0, 0, 0, 0, 64, [])),
  (64, (6, 0, 0, 4, 0, 0, 66, [])),
  (66, (5, 0, 0, 0, 0, 0, 67, [])),
  (67, (3, 0, 0, 4, 0, 0, 69, [])),
  (69, (51, 0, 0, 76, 0, 0, 72, [])),
  (72, (1, 1, 0, 0, 0, 0, 73, [])),
  (73, (10, 0, 0, 90, 0, 0, 76, [])),
  (76, (5, 0, 0, 0, 0, 0, 77, [])),
  (77, (70, 0, 0, 12, 1, 945, 80, [])),
  (80, (1, 30, 0, 0, 0, 0, 82, [])),
  (82, (57, 0, 0, 89, 0, 0, 85, [])),
  (85, (1, 2, 0, 0, 0, 0, 86, [])),
  (86, (10, 0, 0, 90, 0, 0, 89, [])),
  (89, (1, 0, 0, 0, 0, 0, 90, [])),
  (90, (80, 0, 0, 12, 0, 944, 93, [])),
  (93, (5, 0, 0, 0, 0, 0, 94, [])),
  (94, (70, 0, 0, 12, 0, 944, 97, [])),
  (97, (50, 0, 0, 102, 0, 0, 100, [])),
  (100, (1, 0, 0, 0, 0, 0, 101, [])),
  (101, (90, 0, 0, 0, 0, 0, 0, [])),
  (102, (5, 0, 0, 0, 0, 0, 103, [])),
  (103, (70, 0, 0, 12, 2, 946, 106, [])),
  (106, (5, 0, 0, 0, 0, 0, 107, [])),
  (107, (70, 0, 0, 12, 1, 945, 110, [])),
  (110, (3, 0, 0, 1, 0, 0, 111, [])),
  (111, (76, 0, 0, 0, 0, 0, 112, [])),
  (112, (5, 0, 0, 0, 0, 0, 113, [])),
  (113, (40, 0, 0, 0, 0, 0, 114, [])),
  (114, (70, 0, 0, 12, 1, 945, 117, [])),
  (117, (1, 1, 0, 0, 0, 0, 118, [])),
  (118, (20, 0, 0, 0, 0, 0, 119, [])),
  (119, (80, 0, 0, 12, 1, 945, 122, [])),
  (122, (5, 0, 0, 0, 0, 0, 123, [])),
  (123, (70, 0, 0, 12, 1, 945, 126, [])),
  (126, (90, 0, 0, 0, 0, 0, 0, []))], (1102, 80, 1100, 1101, 1, []))
theorem ok_MO_put : gv_ok M_MO_put := gv_ok_of (by decide +kernel)
theorem mk_MO_put : gv_msV M_MO_put = true := by decide +kernel

def M_MO_behind : gv_M := (⟨"GoalEngineModel", "behind", "(I)I"⟩, prog_14_method_5_code, 4, some .int, [(0, (3, 0, 0, 1, 0, 0, 1, [])),
  (1, (6, 0, 0, 2, 0, 0, 2, [])),
  (2, (1, 1, 0, 0, 0, 0, 3, [])),
  (3, (6, 0, 0, 3, 0, 0, 4, [])),
  (4, (3, 0, 0, 3, 0, 0, 5, [])),
  (5, (55, 0, 0, 53, 0, 0, 8, [])),
  (8, (3, 0, 0, 2, 0, 0, 9, [])),
  (9, (5, 0, 0, 0, 0, 0, 10, [])),
  (10, (70, 0, 0, 12, 1, 945, 13, [])),
  (13, (59, 0, 0, 30, 0, 0, 16, [])),
  (16, (5, 0, 0, 0, 0, 0, 17, [])),
  (17, (70, 0, 0, 12, 2, 946, 20, [])),
  (20, (3, 0, 0, 2, 0, 0, 21, [])),
  (21, (72, 0, 0, 0, 0, 0, 22, [])),
  (22, (1, 7, 0, 0, 0, 0, 24, [])),
  (24, (23, 0, 0, 0, 0, 0, 25, [])),
  (25, (1, 6, 0, 0, 0, 0, 27, [])),
  (27, (57, 0, 0, 32, 0, 0, 30, [])),
  (30, (1, (-1), 0, 0, 0, 0, 31, [])),
  (31, (90, 0, 0, 0, 0, 0, 0, [])),
  (32, (3, 0, 0, 3, 0, 0, 33, [])),
  (33, (1, 1, 0, 0, 0, 0, 34, [])),
  (34, (21, 0, 0, 0, 0, 0, 35, [])),
  (35, (5, 0, 0, 0, 0, 0, 36, [])),
  (36, (5, 0, 0, 0, 0, 0, 37, [])),
  (37, (70, 0, 0, 12, 2, 946, 40, [])),
  (40, (3, 0, 0, 2, 0, 0, 41, [])),
  (41, (72, 0, 0, 0, 0, 0, 42, [])),
  (42, (86, 0, 0, 0, 94, 1115, 45, [])),
  (45, (20, 0, 0, 0, 0, 0, 46, [])),
  (46, (6, 0, 0, 3, 0, 0, 47, [])),
  (47, (9, 1, 0, 2, 0, 0, 50, [])),
  (50, (10, 0, 0, 4, 0, 0, 53, [])),
  (53, (3, 0, 0, 2, 0, 0, 54, [])),
  (54, (90, 0, 0, 0, 0, 0, 0, []))], (1114, 80, 1113, 30, 1, []))
theorem ok_MO_behind : gv_ok M_MO_behind := gv_ok_of (by decide +kernel)
theorem mk_MO_behind : gv_msV M_MO_behind = true := by decide +kernel

def M_MO_areGoals : gv_M := (⟨"GoalEngineModel", "areGoals", "(I)Z"⟩, prog_14_method_6_code, 4, some .boolean, [(0, (3, 0, 0, 1, 0, 0, 1, [])),
  (1, (6, 0, 0, 2, 0, 0, 2, [])),
  (2, (3, 0, 0, 2, 0, 0, 3, [])),
  (3, (52, 0, 0, 52, 0, 0, 6, [])),
  (6, (3, 0, 0, 2, 0, 0, 7, [])),
  (7, (5, 0, 0, 0, 0, 0, 8, [])),
  (8, (70, 0, 0, 12, 1, 945, 11, [])),
  (11, (59, 0, 0, 52, 0, 0, 14, [])),
  (14, (5, 0, 0, 0, 0, 0, 15, [])),
  (15, (70, 0, 0, 12, 2, 946, 18, [])),
  (18, (3, 0, 0, 2, 0, 0, 19, [])),
  (19, (72, 0, 0, 0, 0, 0, 20, [])),
  (20, (1, 7, 0, 0, 0, 0, 22, [])),
  (22, (23, 0, 0, 0, 0, 0, 23, [])),
  (23, (6, 0, 0, 3, 0, 0, 24, [])),
  (24, (3, 0, 0, 3, 0, 0, 25, [])),
  (25, (1, 2, 0, 0, 0, 0, 26, [])),
  (26, (59, 0, 0, 31, 0, 0, 29, [])),
  (29, (1, 0, 0, 0, 0, 0, 30, [])),
  (30, (90, 0, 0, 0, 0, 0, 0, [])),
  (31, (3, 0, 0, 3, 0, 0, 32, [])),
  (32, (1, 6, 0, 0, 0, 0, 34, [])),
  (34, (57, 0, 0, 43, 0, 0, 37, [])),
  (37, (3, 0, 0, 2, 0, 0, 38, [])),
  (38, (1, 1, 0, 0, 0, 0, 39, [])),
  (39, (20, 0, 0, 0, 0, 0, 40, [])),
  (40, (10, 0, 0, 48, 0, 0, 43, [])),
  (43, (5, 0, 0, 0, 0, 0, 44, [])),
  (44, (3, 0, 0, 2, 0, 0, 45, [])),
  (45, (86, 0, 0, 0, 96, 1111, 48, [])),
  (48, (6, 0, 0, 2, 0, 0, 49, [])),
  (49, (10, 0, 0, 2, 0, 0, 52, [])),
  (52, (3, 0, 0, 2, 0, 0, 53, [])),
  (53, (5, 0, 0, 0, 0, 0, 54, [])),
  (54, (70, 0, 0, 12, 1, 945, 57, [])),
  (57, (57, 0, 0, 64, 0, 0, 60, [])),
  (60, (1, 1, 0, 0, 0, 0, 61, [])),
  (61, (10, 0, 0, 65, 0, 0, 64, [])),
  (64, (1, 0, 0, 0, 0, 0, 65, [])),
  (65, (90, 0, 0, 0, 0, 0, 0, []))], (1110, 80, 1109, 29, 1, []))
theorem ok_MO_areGoals : gv_ok M_MO_areGoals := gv_ok_of (by decide +kernel)
theorem mk_MO_areGoals : gv_msV M_MO_areGoals = true := by decide +kernel

def M_MO_rule : gv_M := (⟨"GoalEngineModel", "rule", "()I"⟩, prog_14_method_7_code, 3, some .int, [(0, (5, 0, 0, 0, 0, 0, 1, [])),
  (1, (5, 0, 0, 0, 0, 0, 2, [])),
  (2, (70, 0, 0, 12, 3, 947, 5, [])),
  (5, (1, 16, 0, 0, 0, 0, 7, [])),
  (7, (56, 0, 0, 17, 0, 0, 10, [])),
  (10, (5, 0, 0, 0, 0, 0, 11, [])),
  (11, (70, 0, 0, 12, 25, 969, 14, [])),
  (14, (50, 0, 0, 21, 0, 0, 17, [])),
  (17, (1, 1, 0, 0, 0, 0, 18, [])),
  (18, (10, 0, 0, 22, 0, 0, 21, [])),
  (21, (1, 0, 0, 0, 0, 0, 22, [])),
  (22, (80, 0, 0, 12, 0, 944, 25, [])),
  (25, (5, 0, 0, 0, 0, 0, 26, [])),
  (26, (70, 0, 0, 12, 0, 944, 29, [])),
  (29, (50, 0, 0, 34, 0, 0, 32, [])),
  (32, (1, 0, 0, 0, 0, 0, 33, [])),
  (33, (90, 0, 0, 0, 0, 0, 0, [])),
  (34, (5, 0, 0, 0, 0, 0, 35, [])),
  (35, (70, 0, 0, 12, 1, 945, 38, [])),
  (38, (55, 0, 0, 80, 0, 0, 41, [])),
  (41, (5, 0, 0, 0, 0, 0, 42, [])),
  (42, (70, 0, 0, 12, 2, 946, 45, [])),
  (45, (1, 0, 0, 0, 0, 0, 46, [])),
  (46, (72, 0, 0, 0, 0, 0, 47, [])),
  (47, (1, 7, 0, 0, 0, 0, 49, [])),
  (49, (23, 0, 0, 0, 0, 0, 50, [])),
  (50, (1, 6, 0, 0, 0, 0, 52, [])),
  (52, (56, 0, 0, 80, 0, 0, 55, [])),
  (55, (5, 0, 0, 0, 0, 0, 56, [])),
  (56, (70, 0, 0, 12, 2, 946, 59, [])),
  (59, (1, 0, 0, 0, 0, 0, 60, [])),
  (60, (72, 0, 0, 0, 0, 0, 61, [])),
  (61, (1, 3, 0, 0, 0, 0, 62, [])),
  (62, (26, 0, 0, 0, 0, 0, 63, [])),
  (63, (1, 24, 0, 0, 0, 0, 65, [])),
  (65, (59, 0, 0, 80, 0, 0, 68, [])),
  (68, (5, 0, 0, 0, 0, 0, 69, [])),
  (69, (1, 0, 0, 0, 0, 0, 70, [])),
  (70, (86, 0, 0, 0, 97, 1107, 73, [])),
  (73, (50, 0, 0, 80, 0, 0, 76, [])),
  (76, (1, 1, 0, 0, 0, 0, 77, [])),
  (77, (10, 0, 0, 81, 0, 0, 80, [])),
  (80, (1, 0, 0, 0, 0, 0, 81, [])),
  (81, (6, 0, 0, 1, 0, 0, 82, [])),
  (82, (5, 0, 0, 0, 0, 0, 83, [])),
  (83, (3, 0, 0, 1, 0, 0, 84, [])),
  (84, (50, 0, 0, 91, 0, 0, 87, [])),
  (87, (1, 0, 0, 0, 0, 0, 88, [])),
  (88, (10, 0, 0, 92, 0, 0, 91, [])),
  (91, (1, 2, 0, 0, 0, 0, 92, [])),
  (92, (80, 0, 0, 12, 0, 944, 95, [])),
  (95, (3, 0, 0, 1, 0, 0, 96, [])),
  (96, (50, 0, 0, 158, 0, 0, 99, [])),
  (99, (1, 0, 0, 0, 0, 0, 100, [])),
  (100, (6, 0, 0, 2, 0, 0, 101, [])),
  (101, (3, 0, 0, 2, 0, 0, 102, [])),
  (102, (5, 0, 0, 0, 0, 0, 103, [])),
  (103, (70, 0, 0, 12, 1, 945, 106, [])),
  (106, (59, 0, 0, 135, 0, 0, 109, [])),
  (109, (5, 0, 0, 0, 0, 0, 110, [])),
  (110, (70, 0, 0, 12, 4, 948, 113, [])),
  (113, (1, 30, 0, 0, 0, 0, 115, [])),
  (115, (5, 0, 0, 0, 0, 0, 116, [])),
  (116, (70, 0, 0, 12, 3, 947, 119, [])),
  (119, (22, 0, 0, 0, 0, 0, 120, [])),
  (120, (3, 0, 0, 2, 0, 0, 121, [])),
  (121, (20, 0, 0, 0, 0, 0, 122, [])),
  (122, (5, 0, 0, 0, 0, 0, 123, [])),
  (123, (70, 0, 0, 12, 2, 946, 126, [])),
  (126, (3, 0, 0, 2, 0, 0, 127, [])),
  (127, (72, 0, 0, 0, 0, 0, 128, [])),
  (128, (76, 0, 0, 0, 0, 0, 129, [])),
  (129, (9, 1, 0, 2, 0, 0, 132, [])),
  (132, (10, 0, 0, 101, 0, 0, 135, [])),
  (135, (5, 0, 0, 0, 0, 0, 136, [])),
  (136, (70, 0, 0, 12, 5, 949, 139, [])),
  (139, (5, 0, 0, 0, 0, 0, 140, [])),
  (140, (70, 0, 0, 12, 3, 947, 143, [])),
  (143, (5, 0, 0, 0, 0, 0, 144, [])),
  (144, (70, 0, 0, 12, 1, 945, 147, [])),
  (147, (76, 0, 0, 0, 0, 0, 148, [])),
  (148, (5, 0, 0, 0, 0, 0, 149, [])),
  (149, (40, 0, 0, 0, 0, 0, 150, [])),
  (150, (70, 0, 0, 12, 3, 947, 153, [])),
  (153, (1, 1, 0, 0, 0, 0, 154, [])),
  (154, (20, 0, 0, 0, 0, 0, 155, [])),
  (155, (80, 0, 0, 12, 3, 947, 158, [])),
  (158, (5, 0, 0, 0, 0, 0, 159, [])),
  (159, (1, 0, 0, 0, 0, 0, 160, [])),
  (160, (80, 0, 0, 12, 1, 945, 163, [])),
  (163, (3, 0, 0, 1, 0, 0, 164, [])),
  (164, (50, 0, 0, 174, 0, 0, 167, [])),
  (167, (5, 0, 0, 0, 0, 0, 168, [])),
  (168, (70, 0, 0, 12, 3, 947, 171, [])),
  (171, (10, 0, 0, 175, 0, 0, 174, [])),
  (174, (1, 0, 0, 0, 0, 0, 175, [])),
  (175, (90, 0, 0, 0, 0, 0, 0, []))], (1106, 80, 1104, 1105, 0, []))
theorem ok_MO_rule : gv_ok M_MO_rule := gv_ok_of (by decide +kernel)
theorem mk_MO_rule : gv_msV M_MO_rule = true := by decide +kernel

def M_MO_inUse : gv_M := (⟨"GoalEngineModel", "inUse", "()I"⟩, prog_14_method_8_code, 3, some .int, [(0, (1, 0, 0, 0, 0, 0, 1, [])),
  (1, (6, 0, 0, 1, 0, 0, 2, [])),
  (2, (1, 0, 0, 0, 0, 0, 3, [])),
  (3, (6, 0, 0, 2, 0, 0, 4, [])),
  (4, (3, 0, 0, 2, 0, 0, 5, [])),
  (5, (1, 240, 0, 0, 0, 0, 8, [])),
  (8, (59, 0, 0, 34, 0, 0, 11, [])),
  (11, (3, 0, 0, 1, 0, 0, 12, [])),
  (12, (5, 0, 0, 0, 0, 0, 13, [])),
  (13, (70, 0, 0, 12, 6, 950, 16, [])),
  (16, (3, 0, 0, 2, 0, 0, 17, [])),
  (17, (72, 0, 0, 0, 0, 0, 18, [])),
  (18, (55, 0, 0, 25, 0, 0, 21, [])),
  (21, (1, 1, 0, 0, 0, 0, 22, [])),
  (22, (10, 0, 0, 26, 0, 0, 25, [])),
  (25, (1, 0, 0, 0, 0, 0, 26, [])),
  (26, (20, 0, 0, 0, 0, 0, 27, [])),
  (27, (6, 0, 0, 1, 0, 0, 28, [])),
  (28, (9, 1, 0, 2, 0, 0, 31, [])),
  (31, (10, 0, 0, 4, 0, 0, 34, [])),
  (34, (3, 0, 0, 1, 0, 0, 35, [])),
  (35, (90, 0, 0, 0, 0, 0, 0, []))], (1154, 80, 1153, 39, 0, []))
theorem ok_MO_inUse : gv_ok M_MO_inUse := gv_ok_of (by decide +kernel)
theorem mk_MO_inUse : gv_msV M_MO_inUse = true := by decide +kernel

def M_MO_take : gv_M := (⟨"GoalEngineModel", "take", "(I)I"⟩, prog_14_method_9_code, 3, some .int, [(0, (1, 0, 0, 0, 0, 0, 1, [])),
  (1, (6, 0, 0, 2, 0, 0, 2, [])),
  (2, (5, 0, 0, 0, 0, 0, 3, [])),
  (3, (70, 0, 0, 12, 6, 950, 6, [])),
  (6, (3, 0, 0, 2, 0, 0, 7, [])),
  (7, (72, 0, 0, 0, 0, 0, 8, [])),
  (8, (55, 0, 0, 17, 0, 0, 11, [])),
  (11, (9, 1, 0, 2, 0, 0, 14, [])),
  (14, (10, 0, 0, 2, 0, 0, 17, [])),
  (17, (5, 0, 0, 0, 0, 0, 18, [])),
  (18, (70, 0, 0, 12, 6, 950, 21, [])),
  (21, (3, 0, 0, 2, 0, 0, 22, [])),
  (22, (3, 0, 0, 1, 0, 0, 23, [])),
  (23, (76, 0, 0, 0, 0, 0, 24, [])),
  (24, (5, 0, 0, 0, 0, 0, 25, [])),
  (25, (70, 0, 0, 12, 7, 951, 28, [])),
  (28, (3, 0, 0, 2, 0, 0, 29, [])),
  (29, (5, 0, 0, 0, 0, 0, 30, [])),
  (30, (70, 0, 0, 12, 12, 956, 33, [])),
  (33, (76, 0, 0, 0, 0, 0, 34, [])),
  (34, (5, 0, 0, 0, 0, 0, 35, [])),
  (35, (40, 0, 0, 0, 0, 0, 36, [])),
  (36, (70, 0, 0, 12, 12, 956, 39, [])),
  (39, (1, 1, 0, 0, 0, 0, 40, [])),
  (40, (20, 0, 0, 0, 0, 0, 41, [])),
  (41, (80, 0, 0, 12, 12, 956, 44, [])),
  (44, (5, 0, 0, 0, 0, 0, 45, [])),
  (45, (70, 0, 0, 12, 8, 952, 48, [])),
  (48, (3, 0, 0, 2, 0, 0, 49, [])),
  (49, (1, (-1), 0, 0, 0, 0, 50, [])),
  (50, (76, 0, 0, 0, 0, 0, 51, [])),
  (51, (5, 0, 0, 0, 0, 0, 52, [])),
  (52, (70, 0, 0, 12, 9, 953, 55, [])),
  (55, (3, 0, 0, 2, 0, 0, 56, [])),
  (56, (1, 0, 0, 0, 0, 0, 57, [])),
  (57, (76, 0, 0, 0, 0, 0, 58, [])),
  (58, (3, 0, 0, 2, 0, 0, 59, [])),
  (59, (90, 0, 0, 0, 0, 0, 0, []))], (1138, 80, 1137, 35, 1, []))
theorem ok_MO_take : gv_ok M_MO_take := gv_ok_of (by decide +kernel)
theorem mk_MO_take : gv_msV M_MO_take = true := by decide +kernel

def M_MO_hasVariable : gv_M := (⟨"GoalEngineModel", "hasVariable", "([IIII)Z"⟩, prog_14_method_10_code, 7, some .boolean, [(0, (1, 0, 0, 0, 0, 0, 1, [])),
  (1, (6, 0, 0, 5, 0, 0, 3, [])),
  (3, (3, 0, 0, 2, 0, 0, 4, [])),
  (4, (6, 0, 0, 6, 0, 0, 6, [])),
  (6, (3, 0, 0, 6, 0, 0, 8, [])),
  (8, (3, 0, 0, 2, 0, 0, 9, [])),
  (9, (3, 0, 0, 3, 0, 0, 10, [])),
  (10, (20, 0, 0, 0, 0, 0, 11, [])),
  (11, (59, 0, 0, 44, 0, 0, 14, [])),
  (14, (3, 0, 0, 5, 0, 0, 16, [])),
  (16, (51, 0, 0, 31, 0, 0, 19, [])),
  (19, (5, 0, 0, 1, 0, 0, 20, [])),
  (20, (3, 0, 0, 6, 0, 0, 22, [])),
  (22, (72, 0, 0, 0, 0, 0, 23, [])),
  (23, (1, 8, 0, 0, 0, 0, 25, [])),
  (25, (3, 0, 0, 4, 0, 0, 27, [])),
  (27, (22, 0, 0, 0, 0, 0, 28, [])),
  (28, (57, 0, 0, 35, 0, 0, 31, [])),
  (31, (1, 1, 0, 0, 0, 0, 32, [])),
  (32, (10, 0, 0, 36, 0, 0, 35, [])),
  (35, (1, 0, 0, 0, 0, 0, 36, [])),
  (36, (6, 0, 0, 5, 0, 0, 38, [])),
  (38, (9, 1, 0, 6, 0, 0, 41, [])),
  (41, (10, 0, 0, 6, 0, 0, 44, [])),
  (44, (3, 0, 0, 5, 0, 0, 46, [])),
  (46, (90, 0, 0, 0, 0, 0, 0, []))], (1134, 80, 1133, 34, 4, []))
theorem ok_MO_hasVariable : gv_ok M_MO_hasVariable := gv_ok_of (by decide +kernel)
theorem mk_MO_hasVariable : gv_msV M_MO_hasVariable = true := by decide +kernel

def M_MO_needs : gv_M := (⟨"GoalEngineModel", "needs", "([III)I"⟩, prog_14_method_11_code, 6, some .int, [(0, (1, 0, 0, 0, 0, 0, 1, [])),
  (1, (6, 0, 0, 4, 0, 0, 3, [])),
  (3, (1, 0, 0, 0, 0, 0, 4, [])),
  (4, (6, 0, 0, 5, 0, 0, 6, [])),
  (6, (3, 0, 0, 5, 0, 0, 8, [])),
  (8, (1, 8, 0, 0, 0, 0, 10, [])),
  (10, (59, 0, 0, 41, 0, 0, 13, [])),
  (13, (3, 0, 0, 4, 0, 0, 15, [])),
  (15, (5, 0, 0, 0, 0, 0, 16, [])),
  (16, (5, 0, 0, 1, 0, 0, 17, [])),
  (17, (3, 0, 0, 2, 0, 0, 18, [])),
  (18, (3, 0, 0, 3, 0, 0, 19, [])),
  (19, (3, 0, 0, 5, 0, 0, 21, [])),
  (21, (86, 0, 0, 0, 101, 1131, 24, [])),
  (24, (50, 0, 0, 31, 0, 0, 27, [])),
  (27, (1, 1, 0, 0, 0, 0, 28, [])),
  (28, (10, 0, 0, 32, 0, 0, 31, [])),
  (31, (1, 0, 0, 0, 0, 0, 32, [])),
  (32, (20, 0, 0, 0, 0, 0, 33, [])),
  (33, (6, 0, 0, 4, 0, 0, 35, [])),
  (35, (9, 1, 0, 5, 0, 0, 38, [])),
  (38, (10, 0, 0, 6, 0, 0, 41, [])),
  (41, (3, 0, 0, 2, 0, 0, 42, [])),
  (42, (6, 0, 0, 5, 0, 0, 44, [])),
  (44, (3, 0, 0, 5, 0, 0, 46, [])),
  (46, (3, 0, 0, 2, 0, 0, 47, [])),
  (47, (3, 0, 0, 3, 0, 0, 48, [])),
  (48, (20, 0, 0, 0, 0, 0, 49, [])),
  (49, (59, 0, 0, 88, 0, 0, 52, [])),
  (52, (3, 0, 0, 4, 0, 0, 54, [])),
  (54, (5, 0, 0, 0, 0, 0, 55, [])),
  (55, (5, 0, 0, 1, 0, 0, 56, [])),
  (56, (3, 0, 0, 5, 0, 0, 58, [])),
  (58, (72, 0, 0, 0, 0, 0, 59, [])),
  (59, (86, 0, 0, 0, 94, 1115, 62, [])),
  (62, (55, 0, 0, 78, 0, 0, 65, [])),
  (65, (1, 1, 0, 0, 0, 0, 66, [])),
  (66, (5, 0, 0, 0, 0, 0, 67, [])),
  (67, (5, 0, 0, 1, 0, 0, 68, [])),
  (68, (3, 0, 0, 5, 0, 0, 70, [])),
  (70, (72, 0, 0, 0, 0, 0, 71, [])),
  (71, (86, 0, 0, 0, 94, 1115, 74, [])),
  (74, (20, 0, 0, 0, 0, 0, 75, [])),
  (75, (10, 0, 0, 79, 0, 0, 78, [])),
  (78, (1, 0, 0, 0, 0, 0, 79, [])),
  (79, (20, 0, 0, 0, 0, 0, 80, [])),
  (80, (6, 0, 0, 4, 0, 0, 82, [])),
  (82, (9, 1, 0, 5, 0, 0, 85, [])),
  (85, (10, 0, 0, 44, 0, 0, 88, [])),
  (88, (3, 0, 0, 4, 0, 0, 90, [])),
  (90, (90, 0, 0, 0, 0, 0, 0, []))], (1186, 80, 1185, 46, 3, []))
theorem ok_MO_needs : gv_ok M_MO_needs := gv_ok_of (by decide +kernel)
theorem mk_MO_needs : gv_msV M_MO_needs = true := by decide +kernel

def M_MO_place : gv_M := (⟨"GoalEngineModel", "place", "()V"⟩, prog_14_method_12_code, 3, none, [(0, (5, 0, 0, 0, 0, 0, 1, [])),
  (1, (70, 0, 0, 12, 43, 987, 4, [])),
  (4, (51, 0, 0, 44, 0, 0, 7, [])),
  (7, (5, 0, 0, 0, 0, 0, 8, [])),
  (8, (70, 0, 0, 12, 47, 991, 11, [])),
  (11, (5, 0, 0, 0, 0, 0, 12, [])),
  (12, (70, 0, 0, 12, 46, 990, 15, [])),
  (15, (5, 0, 0, 0, 0, 0, 16, [])),
  (16, (70, 0, 0, 12, 40, 984, 19, [])),
  (19, (76, 0, 0, 0, 0, 0, 20, [])),
  (20, (5, 0, 0, 0, 0, 0, 21, [])),
  (21, (70, 0, 0, 12, 48, 992, 24, [])),
  (24, (5, 0, 0, 0, 0, 0, 25, [])),
  (25, (70, 0, 0, 12, 46, 990, 28, [])),
  (28, (5, 0, 0, 0, 0, 0, 29, [])),
  (29, (70, 0, 0, 12, 41, 985, 32, [])),
  (32, (76, 0, 0, 0, 0, 0, 33, [])),
  (33, (5, 0, 0, 0, 0, 0, 34, [])),
  (34, (40, 0, 0, 0, 0, 0, 35, [])),
  (35, (70, 0, 0, 12, 46, 990, 38, [])),
  (38, (1, 1, 0, 0, 0, 0, 39, [])),
  (39, (20, 0, 0, 0, 0, 0, 40, [])),
  (40, (80, 0, 0, 12, 46, 990, 43, [])),
  (43, (91, 0, 0, 0, 0, 0, 0, [])),
  (44, (5, 0, 0, 0, 0, 0, 45, [])),
  (45, (70, 0, 0, 12, 44, 988, 48, [])),
  (48, (5, 0, 0, 0, 0, 0, 49, [])),
  (49, (70, 0, 0, 12, 43, 987, 52, [])),
  (52, (1, 1, 0, 0, 0, 0, 53, [])),
  (53, (21, 0, 0, 0, 0, 0, 54, [])),
  (54, (72, 0, 0, 0, 0, 0, 55, [])),
  (55, (6, 0, 0, 1, 0, 0, 56, [])),
  (56, (5, 0, 0, 0, 0, 0, 57, [])),
  (57, (70, 0, 0, 12, 11, 955, 60, [])),
  (60, (1, 3, 0, 0, 0, 0, 61, [])),
  (61, (3, 0, 0, 1, 0, 0, 62, [])),
  (62, (22, 0, 0, 0, 0, 0, 63, [])),
  (63, (5, 0, 0, 0, 0, 0, 64, [])),
  (64, (70, 0, 0, 12, 45, 989, 67, [])),
  (67, (5, 0, 0, 0, 0, 0, 68, [])),
  (68, (70, 0, 0, 12, 43, 987, 71, [])),
  (71, (1, 1, 0, 0, 0, 0, 72, [])),
  (72, (21, 0, 0, 0, 0, 0, 73, [])),
  (73, (72, 0, 0, 0, 0, 0, 74, [])),
  (74, (20, 0, 0, 0, 0, 0, 75, [])),
  (75, (72, 0, 0, 0, 0, 0, 76, [])),
  (76, (6, 0, 0, 2, 0, 0, 77, [])),
  (77, (5, 0, 0, 0, 0, 0, 78, [])),
  (78, (70, 0, 0, 12, 8, 952, 81, [])),
  (81, (3, 0, 0, 2, 0, 0, 82, [])),
  (82, (5, 0, 0, 0, 0, 0, 83, [])),
  (83, (70, 0, 0, 12, 40, 984, 86, [])),
  (86, (76, 0, 0, 0, 0, 0, 87, [])),
  (87, (5, 0, 0, 0, 0, 0, 88, [])),
  (88, (70, 0, 0, 12, 9, 953, 91, [])),
  (91, (3, 0, 0, 2, 0, 0, 92, [])),
  (92, (5, 0, 0, 0, 0, 0, 93, [])),
  (93, (70, 0, 0, 12, 41, 985, 96, [])),
  (96, (76, 0, 0, 0, 0, 0, 97, [])),
  (97, (5, 0, 0, 0, 0, 0, 98, [])),
  (98, (70, 0, 0, 12, 45, 989, 101, [])),
  (101, (5, 0, 0, 0, 0, 0, 102, [])),
  (102, (70, 0, 0, 12, 43, 987, 105, [])),
  (105, (1, 1, 0, 0, 0, 0, 106, [])),
  (106, (21, 0, 0, 0, 0, 0, 107, [])),
  (107, (41, 0, 0, 0, 0, 0, 108, [])),
  (108, (72, 0, 0, 0, 0, 0, 109, [])),
  (109, (1, 1, 0, 0, 0, 0, 110, [])),
  (110, (20, 0, 0, 0, 0, 0, 111, [])),
  (111, (76, 0, 0, 0, 0, 0, 112, [])),
  (112, (5, 0, 0, 0, 0, 0, 113, [])),
  (113, (70, 0, 0, 12, 43, 987, 116, [])),
  (116, (55, 0, 0, 166, 0, 0, 119, [])),
  (119, (5, 0, 0, 0, 0, 0, 120, [])),
  (120, (70, 0, 0, 12, 45, 989, 123, [])),
  (123, (5, 0, 0, 0, 0, 0, 124, [])),
  (124, (70, 0, 0, 12, 43, 987, 127, [])),
  (127, (1, 1, 0, 0, 0, 0, 128, [])),
  (128, (21, 0, 0, 0, 0, 0, 129, [])),
  (129, (72, 0, 0, 0, 0, 0, 130, [])),
  (130, (5, 0, 0, 0, 0, 0, 131, [])),
  (131, (5, 0, 0, 0, 0, 0, 132, [])),
  (132, (70, 0, 0, 12, 10, 954, 135, [])),
  (135, (5, 0, 0, 0, 0, 0, 136, [])),
  (136, (70, 0, 0, 12, 44, 988, 139, [])),
  (139, (5, 0, 0, 0, 0, 0, 140, [])),
  (140, (70, 0, 0, 12, 43, 987, 143, [])),
  (143, (1, 1, 0, 0, 0, 0, 144, [])),
  (144, (21, 0, 0, 0, 0, 0, 145, [])),
  (145, (72, 0, 0, 0, 0, 0, 146, [])),
  (146, (72, 0, 0, 0, 0, 0, 147, [])),
  (147, (86, 0, 0, 0, 94, 1115, 150, [])),
  (150, (57, 0, 0, 166, 0, 0, 153, [])),
  (153, (5, 0, 0, 0, 0, 0, 154, [])),
  (154, (40, 0, 0, 0, 0, 0, 155, [])),
  (155, (70, 0, 0, 12, 43, 987, 158, [])),
  (158, (1, 1, 0, 0, 0, 0, 159, [])),
  (159, (21, 0, 0, 0, 0, 0, 160, [])),
  (160, (80, 0, 0, 12, 43, 987, 163, [])),
  (163, (10, 0, 0, 112, 0, 0, 166, [])),
  (166, (91, 0, 0, 0, 0, 0, 0, []))], (1146, 80, 1145, 37, 0, []))
theorem ok_MO_place : gv_ok M_MO_place := gv_ok_of (by decide +kernel)
theorem mk_MO_place : gv_msV M_MO_place = true := by decide +kernel

def M_MO_copyWord : gv_M := (⟨"GoalEngineModel", "copyWord", "(I)V"⟩, prog_14_method_13_code, 7, none, [(0, (3, 0, 0, 1, 0, 0, 1, [])),
  (1, (1, 7, 0, 0, 0, 0, 3, [])),
  (3, (23, 0, 0, 0, 0, 0, 4, [])),
  (4, (6, 0, 0, 2, 0, 0, 5, [])),
  (5, (5, 0, 0, 0, 0, 0, 6, [])),
  (6, (3, 0, 0, 1, 0, 0, 7, [])),
  (7, (86, 0, 0, 0, 94, 1115, 10, [])),
  (10, (6, 0, 0, 3, 0, 0, 11, [])),
  (11, (3, 0, 0, 3, 0, 0, 12, [])),
  (12, (51, 0, 0, 75, 0, 0, 15, [])),
  (15, (5, 0, 0, 0, 0, 0, 16, [])),
  (16, (3, 0, 0, 2, 0, 0, 17, [])),
  (17, (51, 0, 0, 24, 0, 0, 20, [])),
  (20, (1, 0, 0, 0, 0, 0, 21, [])),
  (21, (10, 0, 0, 45, 0, 0, 24, [])),
  (24, (3, 0, 0, 2, 0, 0, 25, [])),
  (25, (1, 1, 0, 0, 0, 0, 26, [])),
  (26, (57, 0, 0, 33, 0, 0, 29, [])),
  (29, (1, 1, 0, 0, 0, 0, 30, [])),
  (30, (10, 0, 0, 45, 0, 0, 33, [])),
  (33, (3, 0, 0, 2, 0, 0, 34, [])),
  (34, (1, 6, 0, 0, 0, 0, 36, [])),
  (36, (57, 0, 0, 44, 0, 0, 39, [])),
  (39, (1, 6, 0, 0, 0, 0, 41, [])),
  (41, (10, 0, 0, 45, 0, 0, 44, [])),
  (44, (1, 2, 0, 0, 0, 0, 45, [])),
  (45, (80, 0, 0, 12, 40, 984, 48, [])),
  (48, (5, 0, 0, 0, 0, 0, 49, [])),
  (49, (3, 0, 0, 2, 0, 0, 50, [])),
  (50, (51, 0, 0, 64, 0, 0, 53, [])),
  (53, (5, 0, 0, 0, 0, 0, 54, [])),
  (54, (70, 0, 0, 12, 42, 986, 57, [])),
  (57, (3, 0, 0, 1, 0, 0, 58, [])),
  (58, (1, 3, 0, 0, 0, 0, 59, [])),
  (59, (26, 0, 0, 0, 0, 0, 60, [])),
  (60, (72, 0, 0, 0, 0, 0, 61, [])),
  (61, (10, 0, 0, 67, 0, 0, 64, [])),
  (64, (3, 0, 0, 1, 0, 0, 65, [])),
  (65, (1, 3, 0, 0, 0, 0, 66, [])),
  (66, (26, 0, 0, 0, 0, 0, 67, [])),
  (67, (80, 0, 0, 12, 41, 985, 70, [])),
  (70, (5, 0, 0, 0, 0, 0, 71, [])),
  (71, (86, 0, 0, 0, 103, 1143, 74, [])),
  (74, (91, 0, 0, 0, 0, 0, 0, [])),
  (75, (5, 0, 0, 0, 0, 0, 76, [])),
  (76, (1, 2, 0, 0, 0, 0, 77, [])),
  (77, (86, 0, 0, 0, 100, 1135, 80, [])),
  (80, (6, 0, 0, 4, 0, 0, 82, [])),
  (82, (5, 0, 0, 0, 0, 0, 83, [])),
  (83, (70, 0, 0, 12, 10, 954, 86, [])),
  (86, (3, 0, 0, 4, 0, 0, 88, [])),
  (88, (3, 0, 0, 1, 0, 0, 89, [])),
  (89, (76, 0, 0, 0, 0, 0, 90, [])),
  (90, (1, 0, 0, 0, 0, 0, 91, [])),
  (91, (6, 0, 0, 5, 0, 0, 93, [])),
  (93, (3, 0, 0, 5, 0, 0, 95, [])),
  (95, (3, 0, 0, 3, 0, 0, 96, [])),
  (96, (59, 0, 0, 122, 0, 0, 99, [])),
  (99, (5, 0, 0, 0, 0, 0, 100, [])),
  (100, (70, 0, 0, 12, 11, 955, 103, [])),
  (103, (1, 3, 0, 0, 0, 0, 104, [])),
  (104, (3, 0, 0, 4, 0, 0, 106, [])),
  (106, (22, 0, 0, 0, 0, 0, 107, [])),
  (107, (3, 0, 0, 5, 0, 0, 109, [])),
  (109, (20, 0, 0, 0, 0, 0, 110, [])),
  (110, (5, 0, 0, 0, 0, 0, 111, [])),
  (111, (1, 3, 0, 0, 0, 0, 112, [])),
  (112, (86, 0, 0, 0, 100, 1135, 115, [])),
  (115, (76, 0, 0, 0, 0, 0, 116, [])),
  (116, (9, 1, 0, 5, 0, 0, 119, [])),
  (119, (10, 0, 0, 93, 0, 0, 122, [])),
  (122, (5, 0, 0, 0, 0, 0, 123, [])),
  (123, (1, 3, 0, 0, 0, 0, 124, [])),
  (124, (80, 0, 0, 12, 40, 984, 127, [])),
  (127, (5, 0, 0, 0, 0, 0, 128, [])),
  (128, (3, 0, 0, 4, 0, 0, 130, [])),
  (130, (80, 0, 0, 12, 41, 985, 133, [])),
  (133, (5, 0, 0, 0, 0, 0, 134, [])),
  (134, (70, 0, 0, 12, 43, 987, 137, [])),
  (137, (51, 0, 0, 147, 0, 0, 140, [])),
  (140, (5, 0, 0, 0, 0, 0, 141, [])),
  (141, (86, 0, 0, 0, 103, 1143, 144, [])),
  (144, (10, 0, 0, 215, 0, 0, 147, [])),
  (147, (5, 0, 0, 0, 0, 0, 148, [])),
  (148, (70, 0, 0, 12, 44, 988, 151, [])),
  (151, (5, 0, 0, 0, 0, 0, 152, [])),
  (152, (70, 0, 0, 12, 43, 987, 155, [])),
  (155, (1, 1, 0, 0, 0, 0, 156, [])),
  (156, (21, 0, 0, 0, 0, 0, 157, [])),
  (157, (72, 0, 0, 0, 0, 0, 158, [])),
  (158, (6, 0, 0, 5, 0, 0, 160, [])),
  (160, (5, 0, 0, 0, 0, 0, 161, [])),
  (161, (70, 0, 0, 12, 11, 955, 164, [])),
  (164, (1, 3, 0, 0, 0, 0, 165, [])),
  (165, (3, 0, 0, 5, 0, 0, 167, [])),
  (167, (22, 0, 0, 0, 0, 0, 168, [])),
  (168, (5, 0, 0, 0, 0, 0, 169, [])),
  (169, (70, 0, 0, 12, 45, 989, 172, [])),
  (172, (5, 0, 0, 0, 0, 0, 173, [])),
  (173, (70, 0, 0, 12, 43, 987, 176, [])),
  (176, (1, 1, 0, 0, 0, 0, 177, [])),
  (177, (21, 0, 0, 0, 0, 0, 178, [])),
  (178, (72, 0, 0, 0, 0, 0, 179, [])),
  (179, (20, 0, 0, 0, 0, 0, 180, [])),
  (180, (72, 0, 0, 0, 0, 0, 181, [])),
  (181, (6, 0, 0, 6, 0, 0, 183, [])),
  (183, (5, 0, 0, 0, 0, 0, 184, [])),
  (184, (70, 0, 0, 12, 8, 952, 187, [])),
  (187, (3, 0, 0, 6, 0, 0, 189, [])),
  (189, (1, 3, 0, 0, 0, 0, 190, [])),
  (190, (76, 0, 0, 0, 0, 0, 191, [])),
  (191, (5, 0, 0, 0, 0, 0, 192, [])),
  (192, (70, 0, 0, 12, 9, 953, 195, [])),
  (195, (3, 0, 0, 6, 0, 0, 197, [])),
  (197, (3, 0, 0, 4, 0, 0, 199, [])),
  (199, (76, 0, 0, 0, 0, 0, 200, [])),
  (200, (5, 0, 0, 0, 0, 0, 201, [])),
  (201, (70, 0, 0, 12, 45, 989, 204, [])),
  (204, (5, 0, 0, 0, 0, 0, 205, [])),
  (205, (70, 0, 0, 12, 43, 987, 208, [])),
  (208, (1, 1, 0, 0, 0, 0, 209, [])),
  (209, (21, 0, 0, 0, 0, 0, 210, [])),
  (210, (41, 0, 0, 0, 0, 0, 211, [])),
  (211, (72, 0, 0, 0, 0, 0, 212, [])),
  (212, (1, 1, 0, 0, 0, 0, 213, [])),
  (213, (20, 0, 0, 0, 0, 0, 214, [])),
  (214, (76, 0, 0, 0, 0, 0, 215, [])),
  (215, (5, 0, 0, 0, 0, 0, 216, [])),
  (216, (70, 0, 0, 12, 44, 988, 219, [])),
  (219, (5, 0, 0, 0, 0, 0, 220, [])),
  (220, (70, 0, 0, 12, 43, 987, 223, [])),
  (223, (3, 0, 0, 4, 0, 0, 225, [])),
  (225, (76, 0, 0, 0, 0, 0, 226, [])),
  (226, (5, 0, 0, 0, 0, 0, 227, [])),
  (227, (70, 0, 0, 12, 45, 989, 230, [])),
  (230, (5, 0, 0, 0, 0, 0, 231, [])),
  (231, (70, 0, 0, 12, 43, 987, 234, [])),
  (234, (1, 0, 0, 0, 0, 0, 235, [])),
  (235, (76, 0, 0, 0, 0, 0, 236, [])),
  (236, (5, 0, 0, 0, 0, 0, 237, [])),
  (237, (40, 0, 0, 0, 0, 0, 238, [])),
  (238, (70, 0, 0, 12, 43, 987, 241, [])),
  (241, (1, 1, 0, 0, 0, 0, 242, [])),
  (242, (20, 0, 0, 0, 0, 0, 243, [])),
  (243, (80, 0, 0, 12, 43, 987, 246, [])),
  (246, (91, 0, 0, 0, 0, 0, 0, []))], (1142, 80, 1141, 36, 1, []))
theorem ok_MO_copyWord : gv_ok M_MO_copyWord := gv_ok_of (by decide +kernel)
theorem mk_MO_copyWord : gv_msV M_MO_copyWord = true := by decide +kernel

def M_MO_copy : gv_M := (⟨"GoalEngineModel", "copy", "([III)V"⟩, prog_14_method_14_code, 5, none, [(0, (5, 0, 0, 0, 0, 0, 1, [])),
  (1, (1, 0, 0, 0, 0, 0, 2, [])),
  (2, (80, 0, 0, 12, 46, 990, 5, [])),
  (5, (5, 0, 0, 0, 0, 0, 6, [])),
  (6, (1, 0, 0, 0, 0, 0, 7, [])),
  (7, (80, 0, 0, 12, 43, 987, 10, [])),
  (10, (1, 0, 0, 0, 0, 0, 11, [])),
  (11, (6, 0, 0, 4, 0, 0, 13, [])),
  (13, (3, 0, 0, 4, 0, 0, 15, [])),
  (15, (1, 8, 0, 0, 0, 0, 17, [])),
  (17, (59, 0, 0, 54, 0, 0, 20, [])),
  (20, (5, 0, 0, 0, 0, 0, 21, [])),
  (21, (70, 0, 0, 12, 42, 986, 24, [])),
  (24, (3, 0, 0, 4, 0, 0, 26, [])),
  (26, (5, 0, 0, 0, 0, 0, 27, [])),
  (27, (5, 0, 0, 1, 0, 0, 28, [])),
  (28, (3, 0, 0, 2, 0, 0, 29, [])),
  (29, (3, 0, 0, 3, 0, 0, 30, [])),
  (30, (3, 0, 0, 4, 0, 0, 32, [])),
  (32, (86, 0, 0, 0, 101, 1131, 35, [])),
  (35, (50, 0, 0, 46, 0, 0, 38, [])),
  (38, (5, 0, 0, 0, 0, 0, 39, [])),
  (39, (1, 1, 0, 0, 0, 0, 40, [])),
  (40, (86, 0, 0, 0, 100, 1135, 43, [])),
  (43, (10, 0, 0, 47, 0, 0, 46, [])),
  (46, (1, (-1), 0, 0, 0, 0, 47, [])),
  (47, (76, 0, 0, 0, 0, 0, 48, [])),
  (48, (9, 1, 0, 4, 0, 0, 51, [])),
  (51, (10, 0, 0, 13, 0, 0, 54, [])),
  (54, (3, 0, 0, 2, 0, 0, 55, [])),
  (55, (6, 0, 0, 4, 0, 0, 57, [])),
  (57, (3, 0, 0, 4, 0, 0, 59, [])),
  (59, (3, 0, 0, 2, 0, 0, 60, [])),
  (60, (3, 0, 0, 3, 0, 0, 61, [])),
  (61, (20, 0, 0, 0, 0, 0, 62, [])),
  (62, (59, 0, 0, 79, 0, 0, 65, [])),
  (65, (5, 0, 0, 0, 0, 0, 66, [])),
  (66, (5, 0, 0, 1, 0, 0, 67, [])),
  (67, (3, 0, 0, 4, 0, 0, 69, [])),
  (69, (72, 0, 0, 0, 0, 0, 70, [])),
  (70, (86, 0, 0, 0, 104, 1139, 73, [])),
  (73, (9, 1, 0, 4, 0, 0, 76, [])),
  (76, (10, 0, 0, 57, 0, 0, 79, [])),
  (79, (91, 0, 0, 0, 0, 0, 0, []))], (1130, 80, 1129, 33, 3, []))
theorem ok_MO_copy : gv_ok M_MO_copy := gv_ok_of (by decide +kernel)
theorem mk_MO_copy : gv_msV M_MO_copy = true := by decide +kernel

def M_MO_mean : gv_M := (⟨"GoalEngineModel", "mean", "(II)V"⟩, prog_14_method_15_code, 4, none, [(0, (5, 0, 0, 0, 0, 0, 1, [])),
  (1, (3, 0, 0, 1, 0, 0, 2, [])),
  (2, (80, 0, 0, 12, 40, 984, 5, [])),
  (5, (5, 0, 0, 0, 0, 0, 6, [])),
  (6, (3, 0, 0, 2, 0, 0, 7, [])),
  (7, (80, 0, 0, 12, 41, 985, 10, [])),
  (10, (5, 0, 0, 0, 0, 0, 11, [])),
  (11, (70, 0, 0, 12, 40, 984, 14, [])),
  (14, (51, 0, 0, 57, 0, 0, 17, [])),
  (17, (5, 0, 0, 0, 0, 0, 18, [])),
  (18, (70, 0, 0, 12, 8, 952, 21, [])),
  (21, (5, 0, 0, 0, 0, 0, 22, [])),
  (22, (70, 0, 0, 12, 41, 985, 25, [])),
  (25, (72, 0, 0, 0, 0, 0, 26, [])),
  (26, (52, 0, 0, 57, 0, 0, 29, [])),
  (29, (5, 0, 0, 0, 0, 0, 30, [])),
  (30, (70, 0, 0, 12, 41, 985, 33, [])),
  (33, (6, 0, 0, 3, 0, 0, 34, [])),
  (34, (5, 0, 0, 0, 0, 0, 35, [])),
  (35, (5, 0, 0, 0, 0, 0, 36, [])),
  (36, (70, 0, 0, 12, 8, 952, 39, [])),
  (39, (3, 0, 0, 3, 0, 0, 40, [])),
  (40, (72, 0, 0, 0, 0, 0, 41, [])),
  (41, (80, 0, 0, 12, 40, 984, 44, [])),
  (44, (5, 0, 0, 0, 0, 0, 45, [])),
  (45, (5, 0, 0, 0, 0, 0, 46, [])),
  (46, (70, 0, 0, 12, 9, 953, 49, [])),
  (49, (3, 0, 0, 3, 0, 0, 50, [])),
  (50, (72, 0, 0, 0, 0, 0, 51, [])),
  (51, (80, 0, 0, 12, 41, 985, 54, [])),
  (54, (10, 0, 0, 10, 0, 0, 57, [])),
  (57, (91, 0, 0, 0, 0, 0, 0, []))], (1214, 80, 1213, 53, 2, []))
theorem ok_MO_mean : gv_ok M_MO_mean := gv_ok_of (by decide +kernel)
theorem mk_MO_mean : gv_msV M_MO_mean = true := by decide +kernel

def M_MO_push : gv_M := (⟨"GoalEngineModel", "push", "(II)V"⟩, prog_14_method_16_code, 3, none, [(0, (5, 0, 0, 0, 0, 0, 1, [])),
  (1, (70, 0, 0, 12, 31, 975, 4, [])),
  (4, (5, 0, 0, 0, 0, 0, 5, [])),
  (5, (70, 0, 0, 12, 30, 974, 8, [])),
  (8, (3, 0, 0, 1, 0, 0, 9, [])),
  (9, (76, 0, 0, 0, 0, 0, 10, [])),
  (10, (5, 0, 0, 0, 0, 0, 11, [])),
  (11, (70, 0, 0, 12, 32, 976, 14, [])),
  (14, (5, 0, 0, 0, 0, 0, 15, [])),
  (15, (70, 0, 0, 12, 30, 974, 18, [])),
  (18, (3, 0, 0, 2, 0, 0, 19, [])),
  (19, (76, 0, 0, 0, 0, 0, 20, [])),
  (20, (5, 0, 0, 0, 0, 0, 21, [])),
  (21, (40, 0, 0, 0, 0, 0, 22, [])),
  (22, (70, 0, 0, 12, 30, 974, 25, [])),
  (25, (1, 1, 0, 0, 0, 0, 26, [])),
  (26, (20, 0, 0, 0, 0, 0, 27, [])),
  (27, (80, 0, 0, 12, 30, 974, 30, [])),
  (30, (91, 0, 0, 0, 0, 0, 0, []))], (1198, 80, 1197, 49, 2, []))
theorem ok_MO_push : gv_ok M_MO_push := gv_ok_of (by decide +kernel)
theorem mk_MO_push : gv_msV M_MO_push = true := by decide +kernel

def M_MO_pushArguments : gv_M := (⟨"GoalEngineModel", "pushArguments", "(I)V"⟩, prog_14_method_17_code, 4, none, [(0, (5, 0, 0, 0, 0, 0, 1, [])),
  (1, (5, 0, 0, 0, 0, 0, 2, [])),
  (2, (70, 0, 0, 12, 10, 954, 5, [])),
  (5, (3, 0, 0, 1, 0, 0, 6, [])),
  (6, (72, 0, 0, 0, 0, 0, 7, [])),
  (7, (86, 0, 0, 0, 94, 1115, 10, [])),
  (10, (1, 1, 0, 0, 0, 0, 11, [])),
  (11, (21, 0, 0, 0, 0, 0, 12, [])),
  (12, (6, 0, 0, 2, 0, 0, 13, [])),
  (13, (3, 0, 0, 2, 0, 0, 14, [])),
  (14, (52, 0, 0, 50, 0, 0, 17, [])),
  (17, (5, 0, 0, 0, 0, 0, 18, [])),
  (18, (70, 0, 0, 12, 11, 955, 21, [])),
  (21, (1, 3, 0, 0, 0, 0, 22, [])),
  (22, (3, 0, 0, 1, 0, 0, 23, [])),
  (23, (22, 0, 0, 0, 0, 0, 24, [])),
  (24, (3, 0, 0, 2, 0, 0, 25, [])),
  (25, (20, 0, 0, 0, 0, 0, 26, [])),
  (26, (72, 0, 0, 0, 0, 0, 27, [])),
  (27, (6, 0, 0, 3, 0, 0, 28, [])),
  (28, (5, 0, 0, 0, 0, 0, 29, [])),
  (29, (5, 0, 0, 0, 0, 0, 30, [])),
  (30, (70, 0, 0, 12, 8, 952, 33, [])),
  (33, (3, 0, 0, 3, 0, 0, 34, [])),
  (34, (72, 0, 0, 0, 0, 0, 35, [])),
  (35, (5, 0, 0, 0, 0, 0, 36, [])),
  (36, (70, 0, 0, 12, 9, 953, 39, [])),
  (39, (3, 0, 0, 3, 0, 0, 40, [])),
  (40, (72, 0, 0, 0, 0, 0, 41, [])),
  (41, (86, 0, 0, 0, 107, 1195, 44, [])),
  (44, (9, (-1), 0, 2, 0, 0, 47, [])),
  (47, (10, 0, 0, 13, 0, 0, 50, [])),
  (50, (91, 0, 0, 0, 0, 0, 0, []))], (1202, 80, 1201, 50, 1, []))
theorem ok_MO_pushArguments : gv_ok M_MO_pushArguments := gv_ok_of (by decide +kernel)
theorem mk_MO_pushArguments : gv_msV M_MO_pushArguments = true := by decide +kernel

def M_MO_occurs : gv_M := (⟨"GoalEngineModel", "occurs", "(III)Z"⟩, prog_14_method_18_code, 6, some .boolean, [(0, (5, 0, 0, 0, 0, 0, 1, [])),
  (1, (70, 0, 0, 12, 30, 974, 4, [])),
  (4, (6, 0, 0, 4, 0, 0, 6, [])),
  (6, (5, 0, 0, 0, 0, 0, 7, [])),
  (7, (40, 0, 0, 0, 0, 0, 8, [])),
  (8, (70, 0, 0, 12, 34, 978, 11, [])),
  (11, (1, 1, 0, 0, 0, 0, 12, [])),
  (12, (20, 0, 0, 0, 0, 0, 13, [])),
  (13, (80, 0, 0, 12, 34, 978, 16, [])),
  (16, (1, 0, 0, 0, 0, 0, 17, [])),
  (17, (6, 0, 0, 5, 0, 0, 19, [])),
  (19, (5, 0, 0, 0, 0, 0, 20, [])),
  (20, (3, 0, 0, 2, 0, 0, 21, [])),
  (21, (3, 0, 0, 3, 0, 0, 22, [])),
  (22, (86, 0, 0, 0, 107, 1195, 25, [])),
  (25, (5, 0, 0, 0, 0, 0, 26, [])),
  (26, (70, 0, 0, 12, 30, 974, 29, [])),
  (29, (3, 0, 0, 4, 0, 0, 31, [])),
  (31, (61, 0, 0, 144, 0, 0, 34, [])),
  (34, (5, 0, 0, 0, 0, 0, 35, [])),
  (35, (40, 0, 0, 0, 0, 0, 36, [])),
  (36, (70, 0, 0, 12, 30, 974, 39, [])),
  (39, (1, 1, 0, 0, 0, 0, 40, [])),
  (40, (21, 0, 0, 0, 0, 0, 41, [])),
  (41, (80, 0, 0, 12, 30, 974, 44, [])),
  (44, (5, 0, 0, 0, 0, 0, 45, [])),
  (45, (5, 0, 0, 0, 0, 0, 46, [])),
  (46, (70, 0, 0, 12, 31, 975, 49, [])),
  (49, (5, 0, 0, 0, 0, 0, 50, [])),
  (50, (70, 0, 0, 12, 30, 974, 53, [])),
  (53, (72, 0, 0, 0, 0, 0, 54, [])),
  (54, (5, 0, 0, 0, 0, 0, 55, [])),
  (55, (70, 0, 0, 12, 32, 976, 58, [])),
  (58, (5, 0, 0, 0, 0, 0, 59, [])),
  (59, (70, 0, 0, 12, 30, 974, 62, [])),
  (62, (72, 0, 0, 0, 0, 0, 63, [])),
  (63, (86, 0, 0, 0, 106, 1211, 66, [])),
  (66, (5, 0, 0, 0, 0, 0, 67, [])),
  (67, (70, 0, 0, 12, 40, 984, 70, [])),
  (70, (51, 0, 0, 96, 0, 0, 73, [])),
  (73, (3, 0, 0, 5, 0, 0, 75, [])),
  (75, (51, 0, 0, 86, 0, 0, 78, [])),
  (78, (5, 0, 0, 0, 0, 0, 79, [])),
  (79, (70, 0, 0, 12, 41, 985, 82, [])),
  (82, (3, 0, 0, 1, 0, 0, 83, [])),
  (83, (57, 0, 0, 90, 0, 0, 86, [])),
  (86, (1, 1, 0, 0, 0, 0, 87, [])),
  (87, (10, 0, 0, 91, 0, 0, 90, [])),
  (90, (1, 0, 0, 0, 0, 0, 91, [])),
  (91, (6, 0, 0, 5, 0, 0, 93, [])),
  (93, (10, 0, 0, 25, 0, 0, 96, [])),
  (96, (5, 0, 0, 0, 0, 0, 97, [])),
  (97, (70, 0, 0, 12, 40, 984, 100, [])),
  (100, (1, 3, 0, 0, 0, 0, 101, [])),
  (101, (57, 0, 0, 25, 0, 0, 104, [])),
  (104, (5, 0, 0, 0, 0, 0, 105, [])),
  (105, (70, 0, 0, 12, 33, 977, 108, [])),
  (108, (5, 0, 0, 0, 0, 0, 109, [])),
  (109, (70, 0, 0, 12, 41, 985, 112, [])),
  (112, (72, 0, 0, 0, 0, 0, 113, [])),
  (113, (5, 0, 0, 0, 0, 0, 114, [])),
  (114, (70, 0, 0, 12, 34, 978, 117, [])),
  (117, (56, 0, 0, 25, 0, 0, 120, [])),
  (120, (5, 0, 0, 0, 0, 0, 121, [])),
  (121, (70, 0, 0, 12, 33, 977, 124, [])),
  (124, (5, 0, 0, 0, 0, 0, 125, [])),
  (125, (70, 0, 0, 12, 41, 985, 128, [])),
  (128, (5, 0, 0, 0, 0, 0, 129, [])),
  (129, (70, 0, 0, 12, 34, 978, 132, [])),
  (132, (76, 0, 0, 0, 0, 0, 133, [])),
  (133, (5, 0, 0, 0, 0, 0, 134, [])),
  (134, (5, 0, 0, 0, 0, 0, 135, [])),
  (135, (70, 0, 0, 12, 41, 985, 138, [])),
  (138, (86, 0, 0, 0, 108, 1199, 141, [])),
  (141, (10, 0, 0, 25, 0, 0, 144, [])),
  (144, (3, 0, 0, 5, 0, 0, 146, [])),
  (146, (90, 0, 0, 0, 0, 0, 0, []))], (1226, 80, 1225, 56, 3, []))
theorem ok_MO_occurs : gv_ok M_MO_occurs := gv_ok_of (by decide +kernel)
theorem mk_MO_occurs : gv_msV M_MO_occurs = true := by decide +kernel

def M_MO_bind : gv_M := (⟨"GoalEngineModel", "bind", "(III)V"⟩, prog_14_method_19_code, 4, none, [(0, (5, 0, 0, 0, 0, 0, 1, [])),
  (1, (70, 0, 0, 12, 8, 952, 4, [])),
  (4, (3, 0, 0, 1, 0, 0, 5, [])),
  (5, (3, 0, 0, 2, 0, 0, 6, [])),
  (6, (76, 0, 0, 0, 0, 0, 7, [])),
  (7, (5, 0, 0, 0, 0, 0, 8, [])),
  (8, (70, 0, 0, 12, 9, 953, 11, [])),
  (11, (3, 0, 0, 1, 0, 0, 12, [])),
  (12, (3, 0, 0, 3, 0, 0, 13, [])),
  (13, (76, 0, 0, 0, 0, 0, 14, [])),
  (14, (5, 0, 0, 0, 0, 0, 15, [])),
  (15, (70, 0, 0, 12, 24, 968, 18, [])),
  (18, (5, 0, 0, 0, 0, 0, 19, [])),
  (19, (70, 0, 0, 12, 23, 967, 22, [])),
  (22, (3, 0, 0, 1, 0, 0, 23, [])),
  (23, (76, 0, 0, 0, 0, 0, 24, [])),
  (24, (5, 0, 0, 0, 0, 0, 25, [])),
  (25, (40, 0, 0, 0, 0, 0, 26, [])),
  (26, (70, 0, 0, 12, 23, 967, 29, [])),
  (29, (1, 1, 0, 0, 0, 0, 30, [])),
  (30, (20, 0, 0, 0, 0, 0, 31, [])),
  (31, (80, 0, 0, 12, 23, 967, 34, [])),
  (34, (91, 0, 0, 0, 0, 0, 0, []))], (1222, 80, 1221, 55, 3, []))
theorem ok_MO_bind : gv_ok M_MO_bind := gv_ok_of (by decide +kernel)
theorem mk_MO_bind : gv_msV M_MO_bind = true := by decide +kernel

def M_MO_unify : gv_M := (⟨"GoalEngineModel", "unify", "(IIII)V"⟩, prog_14_method_20_code, 7, none, [(0, (5, 0, 0, 0, 0, 0, 1, [])),
  (1, (1, 0, 0, 0, 0, 0, 2, [])),
  (2, (80, 0, 0, 12, 49, 993, 5, [])),
  (5, (5, 0, 0, 0, 0, 0, 6, [])),
  (6, (1, 0, 0, 0, 0, 0, 7, [])),
  (7, (80, 0, 0, 12, 35, 979, 10, [])),
  (10, (5, 0, 0, 0, 0, 0, 11, [])),
  (11, (1, 0, 0, 0, 0, 0, 12, [])),
  (12, (80, 0, 0, 12, 30, 974, 15, [])),
  (15, (5, 0, 0, 0, 0, 0, 16, [])),
  (16, (3, 0, 0, 3, 0, 0, 17, [])),
  (17, (3, 0, 0, 4, 0, 0, 19, [])),
  (19, (86, 0, 0, 0, 107, 1195, 22, [])),
  (22, (5, 0, 0, 0, 0, 0, 23, [])),
  (23, (3, 0, 0, 1, 0, 0, 24, [])),
  (24, (3, 0, 0, 2, 0, 0, 25, [])),
  (25, (86, 0, 0, 0, 107, 1195, 28, [])),
  (28, (5, 0, 0, 0, 0, 0, 29, [])),
  (29, (70, 0, 0, 12, 30, 974, 32, [])),
  (32, (55, 0, 0, 159, 0, 0, 35, [])),
  (35, (5, 0, 0, 0, 0, 0, 36, [])),
  (36, (70, 0, 0, 12, 49, 993, 39, [])),
  (39, (51, 0, 0, 159, 0, 0, 42, [])),
  (42, (5, 0, 0, 0, 0, 0, 43, [])),
  (43, (40, 0, 0, 0, 0, 0, 44, [])),
  (44, (70, 0, 0, 12, 30, 974, 47, [])),
  (47, (1, 2, 0, 0, 0, 0, 48, [])),
  (48, (21, 0, 0, 0, 0, 0, 49, [])),
  (49, (80, 0, 0, 12, 30, 974, 52, [])),
  (52, (5, 0, 0, 0, 0, 0, 53, [])),
  (53, (40, 0, 0, 0, 0, 0, 54, [])),
  (54, (70, 0, 0, 12, 35, 979, 57, [])),
  (57, (1, 1, 0, 0, 0, 0, 58, [])),
  (58, (20, 0, 0, 0, 0, 0, 59, [])),
  (59, (80, 0, 0, 12, 35, 979, 62, [])),
  (62, (5, 0, 0, 0, 0, 0, 63, [])),
  (63, (70, 0, 0, 12, 35, 979, 66, [])),
  (66, (1, 300, 0, 0, 0, 0, 69, [])),
  (69, (61, 0, 0, 80, 0, 0, 72, [])),
  (72, (5, 0, 0, 0, 0, 0, 73, [])),
  (73, (1, 3, 0, 0, 0, 0, 74, [])),
  (74, (80, 0, 0, 12, 49, 993, 77, [])),
  (77, (10, 0, 0, 28, 0, 0, 80, [])),
  (80, (5, 0, 0, 0, 0, 0, 81, [])),
  (81, (5, 0, 0, 0, 0, 0, 82, [])),
  (82, (70, 0, 0, 12, 31, 975, 85, [])),
  (85, (5, 0, 0, 0, 0, 0, 86, [])),
  (86, (70, 0, 0, 12, 30, 974, 89, [])),
  (89, (1, 1, 0, 0, 0, 0, 90, [])),
  (90, (20, 0, 0, 0, 0, 0, 91, [])),
  (91, (72, 0, 0, 0, 0, 0, 92, [])),
  (92, (5, 0, 0, 0, 0, 0, 93, [])),
  (93, (70, 0, 0, 12, 32, 976, 96, [])),
  (96, (5, 0, 0, 0, 0, 0, 97, [])),
  (97, (70, 0, 0, 12, 30, 974, 100, [])),
  (100, (1, 1, 0, 0, 0, 0, 101, [])),
  (101, (20, 0, 0, 0, 0, 0, 102, [])),
  (102, (72, 0, 0, 0, 0, 0, 103, [])),
  (103, (86, 0, 0, 0, 106, 1211, 106, [])),
  (106, (5, 0, 0, 0, 0, 0, 107, [])),
  (107, (70, 0, 0, 12, 40, 984, 110, [])),
  (110, (6, 0, 0, 5, 0, 0, 112, [])),
  (112, (5, 0, 0, 0, 0, 0, 113, [])),
  (113, (70, 0, 0, 12, 41, 985, 116, [])),
  (116, (6, 0, 0, 6, 0, 0, 118, [])),
  (118, (5, 0, 0, 0, 0, 0, 119, [])),
  (119, (5, 0, 0, 0, 0, 0, 120, [])),
  (120, (70, 0, 0, 12, 31, 975, 123, [])),
  (123, (5, 0, 0, 0, 0, 0, 124, [])),
  (124, (70, 0, 0, 12, 30, 974, 127, [])),
  (127, (72, 0, 0, 0, 0, 0, 128, [])),
  (128, (5, 0, 0, 0, 0, 0, 129, [])),
  (129, (70, 0, 0, 12, 32, 976, 132, [])),
  (132, (5, 0, 0, 0, 0, 0, 133, [])),
  (133, (70, 0, 0, 12, 30, 974, 136, [])),
  (136, (72, 0, 0, 0, 0, 0, 137, [])),
  (137, (86, 0, 0, 0, 106, 1211, 140, [])),
  (140, (5, 0, 0, 0, 0, 0, 141, [])),
  (141, (3, 0, 0, 5, 0, 0, 143, [])),
  (143, (3, 0, 0, 6, 0, 0, 145, [])),
  (145, (5, 0, 0, 0, 0, 0, 146, [])),
  (146, (70, 0, 0, 12, 40, 984, 149, [])),
  (149, (5, 0, 0, 0, 0, 0, 150, [])),
  (150, (70, 0, 0, 12, 41, 985, 153, [])),
  (153, (86, 0, 0, 0, 112, 1215, 156, [])),
  (156, (10, 0, 0, 28, 0, 0, 159, [])),
  (159, (91, 0, 0, 0, 0, 0, 0, []))], (1210, 80, 1209, 52, 4, []))
theorem ok_MO_unify : gv_ok M_MO_unify := gv_ok_of (by decide +kernel)
theorem mk_MO_unify : gv_msV M_MO_unify = true := by decide +kernel

def M_MO_meet : gv_M := (⟨"GoalEngineModel", "meet", "(IIII)V"⟩, prog_14_method_21_code, 8, none, [(0, (3, 0, 0, 1, 0, 0, 1, [])),
  (1, (51, 0, 0, 67, 0, 0, 4, [])),
  (4, (3, 0, 0, 3, 0, 0, 5, [])),
  (5, (51, 0, 0, 67, 0, 0, 8, [])),
  (8, (3, 0, 0, 2, 0, 0, 9, [])),
  (9, (3, 0, 0, 4, 0, 0, 11, [])),
  (11, (56, 0, 0, 201, 0, 0, 14, [])),
  (14, (5, 0, 0, 0, 0, 0, 15, [])),
  (15, (70, 0, 0, 12, 7, 951, 18, [])),
  (18, (3, 0, 0, 2, 0, 0, 19, [])),
  (19, (72, 0, 0, 0, 0, 0, 20, [])),
  (20, (5, 0, 0, 0, 0, 0, 21, [])),
  (21, (70, 0, 0, 12, 7, 951, 24, [])),
  (24, (3, 0, 0, 4, 0, 0, 26, [])),
  (26, (72, 0, 0, 0, 0, 0, 27, [])),
  (27, (61, 0, 0, 34, 0, 0, 30, [])),
  (30, (1, 1, 0, 0, 0, 0, 31, [])),
  (31, (10, 0, 0, 35, 0, 0, 34, [])),
  (34, (1, 0, 0, 0, 0, 0, 35, [])),
  (35, (6, 0, 0, 5, 0, 0, 37, [])),
  (37, (5, 0, 0, 0, 0, 0, 38, [])),
  (38, (3, 0, 0, 5, 0, 0, 40, [])),
  (40, (50, 0, 0, 47, 0, 0, 43, [])),
  (43, (3, 0, 0, 2, 0, 0, 44, [])),
  (44, (10, 0, 0, 49, 0, 0, 47, [])),
  (47, (3, 0, 0, 4, 0, 0, 49, [])),
  (49, (1, 0, 0, 0, 0, 0, 50, [])),
  (50, (3, 0, 0, 5, 0, 0, 52, [])),
  (52, (50, 0, 0, 60, 0, 0, 55, [])),
  (55, (3, 0, 0, 4, 0, 0, 57, [])),
  (57, (10, 0, 0, 61, 0, 0, 60, [])),
  (60, (3, 0, 0, 2, 0, 0, 61, [])),
  (61, (86, 0, 0, 0, 110, 1219, 64, [])),
  (64, (10, 0, 0, 201, 0, 0, 67, [])),
  (67, (3, 0, 0, 1, 0, 0, 68, [])),
  (68, (50, 0, 0, 75, 0, 0, 71, [])),
  (71, (3, 0, 0, 3, 0, 0, 72, [])),
  (72, (51, 0, 0, 144, 0, 0, 75, [])),
  (75, (3, 0, 0, 1, 0, 0, 76, [])),
  (76, (51, 0, 0, 83, 0, 0, 79, [])),
  (79, (3, 0, 0, 2, 0, 0, 80, [])),
  (80, (10, 0, 0, 85, 0, 0, 83, [])),
  (83, (3, 0, 0, 4, 0, 0, 85, [])),
  (85, (6, 0, 0, 5, 0, 0, 87, [])),
  (87, (3, 0, 0, 1, 0, 0, 88, [])),
  (88, (51, 0, 0, 95, 0, 0, 91, [])),
  (91, (3, 0, 0, 3, 0, 0, 92, [])),
  (92, (10, 0, 0, 96, 0, 0, 95, [])),
  (95, (3, 0, 0, 1, 0, 0, 96, [])),
  (96, (6, 0, 0, 6, 0, 0, 98, [])),
  (98, (3, 0, 0, 1, 0, 0, 99, [])),
  (99, (51, 0, 0, 107, 0, 0, 102, [])),
  (102, (3, 0, 0, 4, 0, 0, 104, [])),
  (104, (10, 0, 0, 108, 0, 0, 107, [])),
  (107, (3, 0, 0, 2, 0, 0, 108, [])),
  (108, (6, 0, 0, 7, 0, 0, 110, [])),
  (110, (5, 0, 0, 0, 0, 0, 111, [])),
  (111, (3, 0, 0, 5, 0, 0, 113, [])),
  (113, (3, 0, 0, 6, 0, 0, 115, [])),
  (115, (3, 0, 0, 7, 0, 0, 117, [])),
  (117, (86, 0, 0, 0, 109, 1223, 120, [])),
  (120, (50, 0, 0, 131, 0, 0, 123, [])),
  (123, (5, 0, 0, 0, 0, 0, 124, [])),
  (124, (1, 1, 0, 0, 0, 0, 125, [])),
  (125, (80, 0, 0, 12, 49, 993, 128, [])),
  (128, (10, 0, 0, 141, 0, 0, 131, [])),
  (131, (5, 0, 0, 0, 0, 0, 132, [])),
  (132, (3, 0, 0, 5, 0, 0, 134, [])),
  (134, (3, 0, 0, 6, 0, 0, 136, [])),
  (136, (3, 0, 0, 7, 0, 0, 138, [])),
  (138, (86, 0, 0, 0, 110, 1219, 141, [])),
  (141, (10, 0, 0, 201, 0, 0, 144, [])),
  (144, (3, 0, 0, 1, 0, 0, 145, [])),
  (145, (3, 0, 0, 3, 0, 0, 146, [])),
  (146, (57, 0, 0, 181, 0, 0, 149, [])),
  (149, (3, 0, 0, 1, 0, 0, 150, [])),
  (150, (1, 3, 0, 0, 0, 0, 151, [])),
  (151, (56, 0, 0, 160, 0, 0, 154, [])),
  (154, (3, 0, 0, 2, 0, 0, 155, [])),
  (155, (3, 0, 0, 4, 0, 0, 157, [])),
  (157, (57, 0, 0, 181, 0, 0, 160, [])),
  (160, (3, 0, 0, 1, 0, 0, 161, [])),
  (161, (1, 3, 0, 0, 0, 0, 162, [])),
  (162, (57, 0, 0, 189, 0, 0, 165, [])),
  (165, (5, 0, 0, 0, 0, 0, 166, [])),
  (166, (70, 0, 0, 12, 10, 954, 169, [])),
  (169, (3, 0, 0, 2, 0, 0, 170, [])),
  (170, (72, 0, 0, 0, 0, 0, 171, [])),
  (171, (5, 0, 0, 0, 0, 0, 172, [])),
  (172, (70, 0, 0, 12, 10, 954, 175, [])),
  (175, (3, 0, 0, 4, 0, 0, 177, [])),
  (177, (72, 0, 0, 0, 0, 0, 178, [])),
  (178, (56, 0, 0, 189, 0, 0, 181, [])),
  (181, (5, 0, 0, 0, 0, 0, 182, [])),
  (182, (1, 1, 0, 0, 0, 0, 183, [])),
  (183, (80, 0, 0, 12, 49, 993, 186, [])),
  (186, (10, 0, 0, 201, 0, 0, 189, [])),
  (189, (3, 0, 0, 1, 0, 0, 190, [])),
  (190, (1, 3, 0, 0, 0, 0, 191, [])),
  (191, (57, 0, 0, 201, 0, 0, 194, [])),
  (194, (5, 0, 0, 0, 0, 0, 195, [])),
  (195, (3, 0, 0, 2, 0, 0, 196, [])),
  (196, (3, 0, 0, 4, 0, 0, 198, [])),
  (198, (86, 0, 0, 0, 113, 1227, 201, [])),
  (201, (91, 0, 0, 0, 0, 0, 0, []))], (1218, 80, 1217, 54, 4, []))
theorem ok_MO_meet : gv_ok M_MO_meet := gv_ok_of (by decide +kernel)
theorem mk_MO_meet : gv_msV M_MO_meet = true := by decide +kernel

def M_MO_pushPairs : gv_M := (⟨"GoalEngineModel", "pushPairs", "(II)V"⟩, prog_14_method_22_code, 6, none, [(0, (5, 0, 0, 0, 0, 0, 1, [])),
  (1, (5, 0, 0, 0, 0, 0, 2, [])),
  (2, (70, 0, 0, 12, 10, 954, 5, [])),
  (5, (3, 0, 0, 1, 0, 0, 6, [])),
  (6, (72, 0, 0, 0, 0, 0, 7, [])),
  (7, (86, 0, 0, 0, 94, 1115, 10, [])),
  (10, (1, 1, 0, 0, 0, 0, 11, [])),
  (11, (21, 0, 0, 0, 0, 0, 12, [])),
  (12, (6, 0, 0, 3, 0, 0, 13, [])),
  (13, (3, 0, 0, 3, 0, 0, 14, [])),
  (14, (52, 0, 0, 83, 0, 0, 17, [])),
  (17, (5, 0, 0, 0, 0, 0, 18, [])),
  (18, (70, 0, 0, 12, 11, 955, 21, [])),
  (21, (1, 3, 0, 0, 0, 0, 22, [])),
  (22, (3, 0, 0, 1, 0, 0, 23, [])),
  (23, (22, 0, 0, 0, 0, 0, 24, [])),
  (24, (3, 0, 0, 3, 0, 0, 25, [])),
  (25, (20, 0, 0, 0, 0, 0, 26, [])),
  (26, (72, 0, 0, 0, 0, 0, 27, [])),
  (27, (6, 0, 0, 4, 0, 0, 29, [])),
  (29, (5, 0, 0, 0, 0, 0, 30, [])),
  (30, (70, 0, 0, 12, 11, 955, 33, [])),
  (33, (1, 3, 0, 0, 0, 0, 34, [])),
  (34, (3, 0, 0, 2, 0, 0, 35, [])),
  (35, (22, 0, 0, 0, 0, 0, 36, [])),
  (36, (3, 0, 0, 3, 0, 0, 37, [])),
  (37, (20, 0, 0, 0, 0, 0, 38, [])),
  (38, (72, 0, 0, 0, 0, 0, 39, [])),
  (39, (6, 0, 0, 5, 0, 0, 41, [])),
  (41, (5, 0, 0, 0, 0, 0, 42, [])),
  (42, (5, 0, 0, 0, 0, 0, 43, [])),
  (43, (70, 0, 0, 12, 8, 952, 46, [])),
  (46, (3, 0, 0, 5, 0, 0, 48, [])),
  (48, (72, 0, 0, 0, 0, 0, 49, [])),
  (49, (5, 0, 0, 0, 0, 0, 50, [])),
  (50, (70, 0, 0, 12, 9, 953, 53, [])),
  (53, (3, 0, 0, 5, 0, 0, 55, [])),
  (55, (72, 0, 0, 0, 0, 0, 56, [])),
  (56, (86, 0, 0, 0, 107, 1195, 59, [])),
  (59, (5, 0, 0, 0, 0, 0, 60, [])),
  (60, (5, 0, 0, 0, 0, 0, 61, [])),
  (61, (70, 0, 0, 12, 8, 952, 64, [])),
  (64, (3, 0, 0, 4, 0, 0, 66, [])),
  (66, (72, 0, 0, 0, 0, 0, 67, [])),
  (67, (5, 0, 0, 0, 0, 0, 68, [])),
  (68, (70, 0, 0, 12, 9, 953, 71, [])),
  (71, (3, 0, 0, 4, 0, 0, 73, [])),
  (73, (72, 0, 0, 0, 0, 0, 74, [])),
  (74, (86, 0, 0, 0, 107, 1195, 77, [])),
  (77, (9, (-1), 0, 3, 0, 0, 80, [])),
  (80, (10, 0, 0, 13, 0, 0, 83, [])),
  (83, (91, 0, 0, 0, 0, 0, 0, []))], (1230, 80, 1229, 57, 2, []))
theorem ok_MO_pushPairs : gv_ok M_MO_pushPairs := gv_ok_of (by decide +kernel)
theorem mk_MO_pushPairs : gv_msV M_MO_pushPairs = true := by decide +kernel

def M_MO_round : gv_M := (⟨"GoalEngineModel", "round", "(J)I"⟩, prog_14_method_23_code, 3, some .int, [(0, (4, 0, 0, 1, 0, 0, 1, [])),
  (1, (1, 35, 0, 0, 0, 0, 3, [])),
  (3, (37, 0, 0, 0, 0, 0, 4, [])),
  (4, (1, 35, 0, 0, 0, 0, 6, [])),
  (6, (38, 0, 0, 0, 0, 0, 7, [])),
  (7, (31, 0, 0, 0, 0, 0, 8, [])),
  (8, (90, 0, 0, 0, 0, 0, 0, []))], (1254, 80, 1253, 63, 1, []))
theorem ok_MO_round : gv_ok M_MO_round := gv_ok_of (by decide +kernel)
theorem mk_MO_round : gv_msV M_MO_round = true := by decide +kernel

def M_MO_apply : gv_M := (⟨"GoalEngineModel", "apply", "(I)V"⟩, prog_14_method_24_code, 6, none, [(0, (5, 0, 0, 0, 0, 0, 1, [])),
  (1, (40, 0, 0, 0, 0, 0, 2, [])),
  (2, (70, 0, 0, 12, 36, 980, 5, [])),
  (5, (1, 2, 0, 0, 0, 0, 6, [])),
  (6, (21, 0, 0, 0, 0, 0, 7, [])),
  (7, (80, 0, 0, 12, 36, 980, 10, [])),
  (10, (5, 0, 0, 0, 0, 0, 11, [])),
  (11, (70, 0, 0, 12, 37, 981, 14, [])),
  (14, (5, 0, 0, 0, 0, 0, 15, [])),
  (15, (70, 0, 0, 12, 36, 980, 18, [])),
  (18, (72, 0, 0, 0, 0, 0, 19, [])),
  (19, (6, 0, 0, 2, 0, 0, 20, [])),
  (20, (5, 0, 0, 0, 0, 0, 21, [])),
  (21, (70, 0, 0, 12, 37, 981, 24, [])),
  (24, (5, 0, 0, 0, 0, 0, 25, [])),
  (25, (70, 0, 0, 12, 36, 980, 28, [])),
  (28, (1, 1, 0, 0, 0, 0, 29, [])),
  (29, (20, 0, 0, 0, 0, 0, 30, [])),
  (30, (72, 0, 0, 0, 0, 0, 31, [])),
  (31, (6, 0, 0, 3, 0, 0, 32, [])),
  (32, (3, 0, 0, 1, 0, 0, 33, [])),
  (33, (1, 31, 0, 0, 0, 0, 35, [])),
  (35, (57, 0, 0, 48, 0, 0, 38, [])),
  (38, (3, 0, 0, 3, 0, 0, 39, [])),
  (39, (51, 0, 0, 48, 0, 0, 42, [])),
  (42, (5, 0, 0, 0, 0, 0, 43, [])),
  (43, (1, 2, 0, 0, 0, 0, 44, [])),
  (44, (80, 0, 0, 12, 49, 993, 47, [])),
  (47, (91, 0, 0, 0, 0, 0, 0, [])),
  (48, (3, 0, 0, 1, 0, 0, 49, [])),
  (49, (1, 28, 0, 0, 0, 0, 51, [])),
  (51, (57, 0, 0, 62, 0, 0, 54, [])),
  (54, (3, 0, 0, 2, 0, 0, 55, [])),
  (55, (30, 0, 0, 0, 0, 0, 56, [])),
  (56, (3, 0, 0, 3, 0, 0, 57, [])),
  (57, (30, 0, 0, 0, 0, 0, 58, [])),
  (58, (32, 0, 0, 0, 0, 0, 59, [])),
  (59, (10, 0, 0, 95, 0, 0, 62, [])),
  (62, (3, 0, 0, 1, 0, 0, 63, [])),
  (63, (1, 29, 0, 0, 0, 0, 65, [])),
  (65, (57, 0, 0, 76, 0, 0, 68, [])),
  (68, (3, 0, 0, 2, 0, 0, 69, [])),
  (69, (30, 0, 0, 0, 0, 0, 70, [])),
  (70, (3, 0, 0, 3, 0, 0, 71, [])),
  (71, (30, 0, 0, 0, 0, 0, 72, [])),
  (72, (33, 0, 0, 0, 0, 0, 73, [])),
  (73, (10, 0, 0, 95, 0, 0, 76, [])),
  (76, (3, 0, 0, 1, 0, 0, 77, [])),
  (77, (1, 30, 0, 0, 0, 0, 79, [])),
  (79, (57, 0, 0, 90, 0, 0, 82, [])),
  (82, (3, 0, 0, 2, 0, 0, 83, [])),
  (83, (30, 0, 0, 0, 0, 0, 84, [])),
  (84, (3, 0, 0, 3, 0, 0, 85, [])),
  (85, (30, 0, 0, 0, 0, 0, 86, [])),
  (86, (34, 0, 0, 0, 0, 0, 87, [])),
  (87, (10, 0, 0, 95, 0, 0, 90, [])),
  (90, (3, 0, 0, 2, 0, 0, 91, [])),
  (91, (30, 0, 0, 0, 0, 0, 92, [])),
  (92, (3, 0, 0, 3, 0, 0, 93, [])),
  (93, (30, 0, 0, 0, 0, 0, 94, [])),
  (94, (35, 0, 0, 0, 0, 0, 95, [])),
  (95, (7, 0, 0, 4, 0, 0, 97, [])),
  (97, (5, 0, 0, 0, 0, 0, 98, [])),
  (98, (70, 0, 0, 12, 37, 981, 101, [])),
  (101, (5, 0, 0, 0, 0, 0, 102, [])),
  (102, (70, 0, 0, 12, 36, 980, 105, [])),
  (105, (5, 0, 0, 0, 0, 0, 106, [])),
  (106, (4, 0, 0, 4, 0, 0, 108, [])),
  (108, (86, 0, 0, 0, 114, 1251, 111, [])),
  (111, (76, 0, 0, 0, 0, 0, 112, [])),
  (112, (5, 0, 0, 0, 0, 0, 113, [])),
  (113, (40, 0, 0, 0, 0, 0, 114, [])),
  (114, (70, 0, 0, 12, 36, 980, 117, [])),
  (117, (1, 1, 0, 0, 0, 0, 118, [])),
  (118, (20, 0, 0, 0, 0, 0, 119, [])),
  (119, (80, 0, 0, 12, 36, 980, 122, [])),
  (122, (91, 0, 0, 0, 0, 0, 0, []))], (1250, 80, 1249, 62, 1, []))
theorem ok_MO_apply : gv_ok M_MO_apply := gv_ok_of (by decide +kernel)
theorem mk_MO_apply : gv_msV M_MO_apply = true := by decide +kernel

def M_MO_calculate : gv_M := (⟨"GoalEngineModel", "calculate", "(II)I"⟩, prog_14_method_25_code, 5, some .int, [(0, (5, 0, 0, 0, 0, 0, 1, [])),
  (1, (1, 0, 0, 0, 0, 0, 2, [])),
  (2, (80, 0, 0, 12, 49, 993, 5, [])),
  (5, (5, 0, 0, 0, 0, 0, 6, [])),
  (6, (1, 0, 0, 0, 0, 0, 7, [])),
  (7, (80, 0, 0, 12, 30, 974, 10, [])),
  (10, (5, 0, 0, 0, 0, 0, 11, [])),
  (11, (1, 0, 0, 0, 0, 0, 12, [])),
  (12, (80, 0, 0, 12, 36, 980, 15, [])),
  (15, (1, 0, 0, 0, 0, 0, 16, [])),
  (16, (6, 0, 0, 3, 0, 0, 17, [])),
  (17, (5, 0, 0, 0, 0, 0, 18, [])),
  (18, (3, 0, 0, 1, 0, 0, 19, [])),
  (19, (3, 0, 0, 2, 0, 0, 20, [])),
  (20, (86, 0, 0, 0, 107, 1195, 23, [])),
  (23, (5, 0, 0, 0, 0, 0, 24, [])),
  (24, (70, 0, 0, 12, 30, 974, 27, [])),
  (27, (55, 0, 0, 231, 0, 0, 30, [])),
  (30, (5, 0, 0, 0, 0, 0, 31, [])),
  (31, (70, 0, 0, 12, 49, 993, 34, [])),
  (34, (51, 0, 0, 231, 0, 0, 37, [])),
  (37, (5, 0, 0, 0, 0, 0, 38, [])),
  (38, (40, 0, 0, 0, 0, 0, 39, [])),
  (39, (70, 0, 0, 12, 30, 974, 42, [])),
  (42, (1, 1, 0, 0, 0, 0, 43, [])),
  (43, (21, 0, 0, 0, 0, 0, 44, [])),
  (44, (80, 0, 0, 12, 30, 974, 47, [])),
  (47, (5, 0, 0, 0, 0, 0, 48, [])),
  (48, (70, 0, 0, 12, 31, 975, 51, [])),
  (51, (5, 0, 0, 0, 0, 0, 52, [])),
  (52, (70, 0, 0, 12, 30, 974, 55, [])),
  (55, (72, 0, 0, 0, 0, 0, 56, [])),
  (56, (1, 9, 0, 0, 0, 0, 58, [])),
  (58, (57, 0, 0, 77, 0, 0, 61, [])),
  (61, (5, 0, 0, 0, 0, 0, 62, [])),
  (62, (5, 0, 0, 0, 0, 0, 63, [])),
  (63, (70, 0, 0, 12, 32, 976, 66, [])),
  (66, (5, 0, 0, 0, 0, 0, 67, [])),
  (67, (70, 0, 0, 12, 30, 974, 70, [])),
  (70, (72, 0, 0, 0, 0, 0, 71, [])),
  (71, (86, 0, 0, 0, 115, 1247, 74, [])),
  (74, (10, 0, 0, 23, 0, 0, 77, [])),
  (77, (5, 0, 0, 0, 0, 0, 78, [])),
  (78, (5, 0, 0, 0, 0, 0, 79, [])),
  (79, (70, 0, 0, 12, 31, 975, 82, [])),
  (82, (5, 0, 0, 0, 0, 0, 83, [])),
  (83, (70, 0, 0, 12, 30, 974, 86, [])),
  (86, (72, 0, 0, 0, 0, 0, 87, [])),
  (87, (5, 0, 0, 0, 0, 0, 88, [])),
  (88, (70, 0, 0, 12, 32, 976, 91, [])),
  (91, (5, 0, 0, 0, 0, 0, 92, [])),
  (92, (70, 0, 0, 12, 30, 974, 95, [])),
  (95, (72, 0, 0, 0, 0, 0, 96, [])),
  (96, (86, 0, 0, 0, 106, 1211, 99, [])),
  (99, (5, 0, 0, 0, 0, 0, 100, [])),
  (100, (70, 0, 0, 12, 40, 984, 103, [])),
  (103, (1, 3, 0, 0, 0, 0, 104, [])),
  (104, (57, 0, 0, 144, 0, 0, 107, [])),
  (107, (5, 0, 0, 0, 0, 0, 108, [])),
  (108, (5, 0, 0, 0, 0, 0, 109, [])),
  (109, (70, 0, 0, 12, 10, 954, 112, [])),
  (112, (5, 0, 0, 0, 0, 0, 113, [])),
  (113, (70, 0, 0, 12, 41, 985, 116, [])),
  (116, (72, 0, 0, 0, 0, 0, 117, [])),
  (117, (86, 0, 0, 0, 94, 1115, 120, [])),
  (120, (1, 2, 0, 0, 0, 0, 121, [])),
  (121, (57, 0, 0, 144, 0, 0, 124, [])),
  (124, (5, 0, 0, 0, 0, 0, 125, [])),
  (125, (70, 0, 0, 12, 10, 954, 128, [])),
  (128, (5, 0, 0, 0, 0, 0, 129, [])),
  (129, (70, 0, 0, 12, 41, 985, 132, [])),
  (132, (72, 0, 0, 0, 0, 0, 133, [])),
  (133, (1, 3, 0, 0, 0, 0, 134, [])),
  (134, (26, 0, 0, 0, 0, 0, 135, [])),
  (135, (1, 27, 0, 0, 0, 0, 137, [])),
  (137, (61, 0, 0, 144, 0, 0, 140, [])),
  (140, (1, 1, 0, 0, 0, 0, 141, [])),
  (141, (10, 0, 0, 145, 0, 0, 144, [])),
  (144, (1, 0, 0, 0, 0, 0, 145, [])),
  (145, (6, 0, 0, 4, 0, 0, 147, [])),
  (147, (5, 0, 0, 0, 0, 0, 148, [])),
  (148, (70, 0, 0, 12, 40, 984, 151, [])),
  (151, (1, 1, 0, 0, 0, 0, 152, [])),
  (152, (57, 0, 0, 181, 0, 0, 155, [])),
  (155, (5, 0, 0, 0, 0, 0, 156, [])),
  (156, (70, 0, 0, 12, 37, 981, 159, [])),
  (159, (5, 0, 0, 0, 0, 0, 160, [])),
  (160, (70, 0, 0, 12, 36, 980, 163, [])),
  (163, (5, 0, 0, 0, 0, 0, 164, [])),
  (164, (70, 0, 0, 12, 41, 985, 167, [])),
  (167, (76, 0, 0, 0, 0, 0, 168, [])),
  (168, (5, 0, 0, 0, 0, 0, 169, [])),
  (169, (40, 0, 0, 0, 0, 0, 170, [])),
  (170, (70, 0, 0, 12, 36, 980, 173, [])),
  (173, (1, 1, 0, 0, 0, 0, 174, [])),
  (174, (20, 0, 0, 0, 0, 0, 175, [])),
  (175, (80, 0, 0, 12, 36, 980, 178, [])),
  (178, (10, 0, 0, 228, 0, 0, 181, [])),
  (181, (3, 0, 0, 4, 0, 0, 183, [])),
  (183, (50, 0, 0, 223, 0, 0, 186, [])),
  (186, (3, 0, 0, 3, 0, 0, 187, [])),
  (187, (1, 30, 0, 0, 0, 0, 189, [])),
  (189, (59, 0, 0, 223, 0, 0, 192, [])),
  (192, (9, 1, 0, 3, 0, 0, 195, [])),
  (195, (5, 0, 0, 0, 0, 0, 196, [])),
  (196, (1, 9, 0, 0, 0, 0, 198, [])),
  (198, (5, 0, 0, 0, 0, 0, 199, [])),
  (199, (70, 0, 0, 12, 10, 954, 202, [])),
  (202, (5, 0, 0, 0, 0, 0, 203, [])),
  (203, (70, 0, 0, 12, 41, 985, 206, [])),
  (206, (72, 0, 0, 0, 0, 0, 207, [])),
  (207, (1, 3, 0, 0, 0, 0, 208, [])),
  (208, (26, 0, 0, 0, 0, 0, 209, [])),
  (209, (86, 0, 0, 0, 107, 1195, 212, [])),
  (212, (5, 0, 0, 0, 0, 0, 213, [])),
  (213, (5, 0, 0, 0, 0, 0, 214, [])),
  (214, (70, 0, 0, 12, 41, 985, 217, [])),
  (217, (86, 0, 0, 0, 108, 1199, 220, [])),
  (220, (10, 0, 0, 228, 0, 0, 223, [])),
  (223, (5, 0, 0, 0, 0, 0, 224, [])),
  (224, (1, 2, 0, 0, 0, 0, 225, [])),
  (225, (80, 0, 0, 12, 49, 993, 228, [])),
  (228, (10, 0, 0, 23, 0, 0, 231, [])),
  (231, (5, 0, 0, 0, 0, 0, 232, [])),
  (232, (70, 0, 0, 12, 49, 993, 235, [])),
  (235, (51, 0, 0, 247, 0, 0, 238, [])),
  (238, (5, 0, 0, 0, 0, 0, 239, [])),
  (239, (70, 0, 0, 12, 37, 981, 242, [])),
  (242, (1, 0, 0, 0, 0, 0, 243, [])),
  (243, (72, 0, 0, 0, 0, 0, 244, [])),
  (244, (10, 0, 0, 248, 0, 0, 247, [])),
  (247, (1, 0, 0, 0, 0, 0, 248, [])),
  (248, (90, 0, 0, 0, 0, 0, 0, []))], (1246, 80, 1245, 61, 2, []))
theorem ok_MO_calculate : gv_ok M_MO_calculate := gv_ok_of (by decide +kernel)
theorem mk_MO_calculate : gv_msV M_MO_calculate = true := by decide +kernel

def M_MO_mark : gv_M := (⟨"GoalEngineModel", "mark", "(II)V"⟩, prog_14_method_26_code, 5, none, [(0, (5, 0, 0, 0, 0, 0, 1, [])),
  (1, (3, 0, 0, 1, 0, 0, 2, [])),
  (2, (3, 0, 0, 2, 0, 0, 3, [])),
  (3, (86, 0, 0, 0, 107, 1195, 6, [])),
  (6, (5, 0, 0, 0, 0, 0, 7, [])),
  (7, (70, 0, 0, 12, 30, 974, 10, [])),
  (10, (55, 0, 0, 184, 0, 0, 13, [])),
  (13, (5, 0, 0, 0, 0, 0, 14, [])),
  (14, (40, 0, 0, 0, 0, 0, 15, [])),
  (15, (70, 0, 0, 12, 30, 974, 18, [])),
  (18, (1, 1, 0, 0, 0, 0, 19, [])),
  (19, (21, 0, 0, 0, 0, 0, 20, [])),
  (20, (80, 0, 0, 12, 30, 974, 23, [])),
  (23, (5, 0, 0, 0, 0, 0, 24, [])),
  (24, (70, 0, 0, 12, 32, 976, 27, [])),
  (27, (5, 0, 0, 0, 0, 0, 28, [])),
  (28, (70, 0, 0, 12, 30, 974, 31, [])),
  (31, (72, 0, 0, 0, 0, 0, 32, [])),
  (32, (6, 0, 0, 3, 0, 0, 33, [])),
  (33, (5, 0, 0, 0, 0, 0, 34, [])),
  (34, (70, 0, 0, 12, 31, 975, 37, [])),
  (37, (5, 0, 0, 0, 0, 0, 38, [])),
  (38, (70, 0, 0, 12, 30, 974, 41, [])),
  (41, (72, 0, 0, 0, 0, 0, 42, [])),
  (42, (51, 0, 0, 96, 0, 0, 45, [])),
  (45, (5, 0, 0, 0, 0, 0, 46, [])),
  (46, (70, 0, 0, 12, 33, 977, 49, [])),
  (49, (3, 0, 0, 3, 0, 0, 50, [])),
  (50, (72, 0, 0, 0, 0, 0, 51, [])),
  (51, (5, 0, 0, 0, 0, 0, 52, [])),
  (52, (70, 0, 0, 12, 34, 978, 55, [])),
  (55, (56, 0, 0, 96, 0, 0, 58, [])),
  (58, (5, 0, 0, 0, 0, 0, 59, [])),
  (59, (70, 0, 0, 12, 33, 977, 62, [])),
  (62, (3, 0, 0, 3, 0, 0, 63, [])),
  (63, (5, 0, 0, 0, 0, 0, 64, [])),
  (64, (70, 0, 0, 12, 34, 978, 67, [])),
  (67, (76, 0, 0, 0, 0, 0, 68, [])),
  (68, (5, 0, 0, 0, 0, 0, 69, [])),
  (69, (70, 0, 0, 12, 8, 952, 72, [])),
  (72, (3, 0, 0, 3, 0, 0, 73, [])),
  (73, (72, 0, 0, 0, 0, 0, 74, [])),
  (74, (52, 0, 0, 181, 0, 0, 77, [])),
  (77, (5, 0, 0, 0, 0, 0, 78, [])),
  (78, (5, 0, 0, 0, 0, 0, 79, [])),
  (79, (70, 0, 0, 12, 8, 952, 82, [])),
  (82, (3, 0, 0, 3, 0, 0, 83, [])),
  (83, (72, 0, 0, 0, 0, 0, 84, [])),
  (84, (5, 0, 0, 0, 0, 0, 85, [])),
  (85, (70, 0, 0, 12, 9, 953, 88, [])),
  (88, (3, 0, 0, 3, 0, 0, 89, [])),
  (89, (72, 0, 0, 0, 0, 0, 90, [])),
  (90, (86, 0, 0, 0, 107, 1195, 93, [])),
  (93, (10, 0, 0, 181, 0, 0, 96, [])),
  (96, (5, 0, 0, 0, 0, 0, 97, [])),
  (97, (70, 0, 0, 12, 31, 975, 100, [])),
  (100, (5, 0, 0, 0, 0, 0, 101, [])),
  (101, (70, 0, 0, 12, 30, 974, 104, [])),
  (104, (72, 0, 0, 0, 0, 0, 105, [])),
  (105, (1, 3, 0, 0, 0, 0, 106, [])),
  (106, (57, 0, 0, 181, 0, 0, 109, [])),
  (109, (5, 0, 0, 0, 0, 0, 110, [])),
  (110, (70, 0, 0, 12, 33, 977, 113, [])),
  (113, (3, 0, 0, 3, 0, 0, 114, [])),
  (114, (72, 0, 0, 0, 0, 0, 115, [])),
  (115, (5, 0, 0, 0, 0, 0, 116, [])),
  (116, (70, 0, 0, 12, 34, 978, 119, [])),
  (119, (56, 0, 0, 181, 0, 0, 122, [])),
  (122, (5, 0, 0, 0, 0, 0, 123, [])),
  (123, (70, 0, 0, 12, 33, 977, 126, [])),
  (126, (3, 0, 0, 3, 0, 0, 127, [])),
  (127, (5, 0, 0, 0, 0, 0, 128, [])),
  (128, (70, 0, 0, 12, 34, 978, 131, [])),
  (131, (76, 0, 0, 0, 0, 0, 132, [])),
  (132, (1, 0, 0, 0, 0, 0, 133, [])),
  (133, (6, 0, 0, 4, 0, 0, 135, [])),
  (135, (3, 0, 0, 4, 0, 0, 137, [])),
  (137, (5, 0, 0, 0, 0, 0, 138, [])),
  (138, (5, 0, 0, 0, 0, 0, 139, [])),
  (139, (70, 0, 0, 12, 10, 954, 142, [])),
  (142, (3, 0, 0, 3, 0, 0, 143, [])),
  (143, (72, 0, 0, 0, 0, 0, 144, [])),
  (144, (86, 0, 0, 0, 94, 1115, 147, [])),
  (147, (59, 0, 0, 176, 0, 0, 150, [])),
  (150, (5, 0, 0, 0, 0, 0, 151, [])),
  (151, (70, 0, 0, 12, 33, 977, 154, [])),
  (154, (5, 0, 0, 0, 0, 0, 155, [])),
  (155, (70, 0, 0, 12, 11, 955, 158, [])),
  (158, (1, 3, 0, 0, 0, 0, 159, [])),
  (159, (3, 0, 0, 3, 0, 0, 160, [])),
  (160, (22, 0, 0, 0, 0, 0, 161, [])),
  (161, (3, 0, 0, 4, 0, 0, 163, [])),
  (163, (20, 0, 0, 0, 0, 0, 164, [])),
  (164, (72, 0, 0, 0, 0, 0, 165, [])),
  (165, (5, 0, 0, 0, 0, 0, 166, [])),
  (166, (70, 0, 0, 12, 34, 978, 169, [])),
  (169, (76, 0, 0, 0, 0, 0, 170, [])),
  (170, (9, 1, 0, 4, 0, 0, 173, [])),
  (173, (10, 0, 0, 135, 0, 0, 176, [])),
  (176, (5, 0, 0, 0, 0, 0, 177, [])),
  (177, (3, 0, 0, 3, 0, 0, 178, [])),
  (178, (86, 0, 0, 0, 108, 1199, 181, [])),
  (181, (10, 0, 0, 6, 0, 0, 184, [])),
  (184, (91, 0, 0, 0, 0, 0, 0, []))], (1194, 80, 1193, 48, 2, []))
theorem ok_MO_mark : gv_ok M_MO_mark := gv_ok_of (by decide +kernel)
theorem mk_MO_mark : gv_msV M_MO_mark = true := by decide +kernel

def M_MO_kindOf : gv_M := (⟨"GoalEngineModel", "kindOf", "(I)I"⟩, prog_14_method_27_code, 2, some .int, [(0, (5, 0, 0, 0, 0, 0, 1, [])),
  (1, (70, 0, 0, 12, 14, 958, 4, [])),
  (4, (3, 0, 0, 1, 0, 0, 5, [])),
  (5, (72, 0, 0, 0, 0, 0, 6, [])),
  (6, (1, 7, 0, 0, 0, 0, 8, [])),
  (8, (23, 0, 0, 0, 0, 0, 9, [])),
  (9, (90, 0, 0, 0, 0, 0, 0, []))], (1166, 80, 1165, 41, 1, []))
theorem ok_MO_kindOf : gv_ok M_MO_kindOf := gv_ok_of (by decide +kernel)
theorem mk_MO_kindOf : gv_msV M_MO_kindOf = true := by decide +kernel

def M_MO_valueOf : gv_M := (⟨"GoalEngineModel", "valueOf", "(I)I"⟩, prog_14_method_28_code, 2, some .int, [(0, (5, 0, 0, 0, 0, 0, 1, [])),
  (1, (70, 0, 0, 12, 14, 958, 4, [])),
  (4, (3, 0, 0, 1, 0, 0, 5, [])),
  (5, (72, 0, 0, 0, 0, 0, 6, [])),
  (6, (1, 3, 0, 0, 0, 0, 7, [])),
  (7, (26, 0, 0, 0, 0, 0, 8, [])),
  (8, (1, 255, 0, 0, 0, 0, 11, [])),
  (11, (23, 0, 0, 0, 0, 0, 12, [])),
  (12, (90, 0, 0, 0, 0, 0, 0, []))], (1170, 80, 1169, 42, 1, []))
theorem ok_MO_valueOf : gv_ok M_MO_valueOf := gv_ok_of (by decide +kernel)
theorem mk_MO_valueOf : gv_msV M_MO_valueOf = true := by decide +kernel

def M_MO_markGoals : gv_M := (⟨"GoalEngineModel", "markGoals", "(I)V"⟩, prog_14_method_29_code, 3, none, [(0, (3, 0, 0, 1, 0, 0, 1, [])),
  (1, (6, 0, 0, 2, 0, 0, 2, [])),
  (2, (3, 0, 0, 2, 0, 0, 3, [])),
  (3, (52, 0, 0, 30, 0, 0, 6, [])),
  (6, (5, 0, 0, 0, 0, 0, 7, [])),
  (7, (5, 0, 0, 0, 0, 0, 8, [])),
  (8, (3, 0, 0, 2, 0, 0, 9, [])),
  (9, (86, 0, 0, 0, 118, 1163, 12, [])),
  (12, (5, 0, 0, 0, 0, 0, 13, [])),
  (13, (3, 0, 0, 2, 0, 0, 14, [])),
  (14, (86, 0, 0, 0, 119, 1167, 17, [])),
  (17, (86, 0, 0, 0, 117, 1191, 20, [])),
  (20, (5, 0, 0, 0, 0, 0, 21, [])),
  (21, (70, 0, 0, 12, 15, 959, 24, [])),
  (24, (3, 0, 0, 2, 0, 0, 25, [])),
  (25, (72, 0, 0, 0, 0, 0, 26, [])),
  (26, (6, 0, 0, 2, 0, 0, 27, [])),
  (27, (10, 0, 0, 2, 0, 0, 30, [])),
  (30, (91, 0, 0, 0, 0, 0, 0, []))], (1206, 80, 1205, 51, 1, []))
theorem ok_MO_markGoals : gv_ok M_MO_markGoals := gv_ok_of (by decide +kernel)
theorem mk_MO_markGoals : gv_msV M_MO_markGoals = true := by decide +kernel

def M_MO_free : gv_M := (⟨"GoalEngineModel", "free", "(II)I"⟩, prog_14_method_30_code, 6, some .int, [(0, (5, 0, 0, 0, 0, 0, 1, [])),
  (1, (40, 0, 0, 0, 0, 0, 2, [])),
  (2, (70, 0, 0, 12, 34, 978, 5, [])),
  (5, (1, 1, 0, 0, 0, 0, 6, [])),
  (6, (20, 0, 0, 0, 0, 0, 7, [])),
  (7, (80, 0, 0, 12, 34, 978, 10, [])),
  (10, (5, 0, 0, 0, 0, 0, 11, [])),
  (11, (1, 0, 0, 0, 0, 0, 12, [])),
  (12, (80, 0, 0, 12, 30, 974, 15, [])),
  (15, (5, 0, 0, 0, 0, 0, 16, [])),
  (16, (40, 0, 0, 0, 0, 0, 17, [])),
  (17, (70, 0, 0, 12, 28, 972, 20, [])),
  (20, (1, 1, 0, 0, 0, 0, 21, [])),
  (21, (20, 0, 0, 0, 0, 0, 22, [])),
  (22, (80, 0, 0, 12, 28, 972, 25, [])),
  (25, (3, 0, 0, 1, 0, 0, 26, [])),
  (26, (52, 0, 0, 35, 0, 0, 29, [])),
  (29, (5, 0, 0, 0, 0, 0, 30, [])),
  (30, (3, 0, 0, 1, 0, 0, 31, [])),
  (31, (3, 0, 0, 2, 0, 0, 32, [])),
  (32, (86, 0, 0, 0, 117, 1191, 35, [])),
  (35, (5, 0, 0, 0, 0, 0, 36, [])),
  (36, (5, 0, 0, 0, 0, 0, 37, [])),
  (37, (70, 0, 0, 12, 16, 960, 40, [])),
  (40, (86, 0, 0, 0, 120, 1203, 43, [])),
  (43, (1, 0, 0, 0, 0, 0, 44, [])),
  (44, (6, 0, 0, 3, 0, 0, 45, [])),
  (45, (3, 0, 0, 3, 0, 0, 46, [])),
  (46, (1, 8, 0, 0, 0, 0, 48, [])),
  (48, (59, 0, 0, 77, 0, 0, 51, [])),
  (51, (5, 0, 0, 0, 0, 0, 52, [])),
  (52, (70, 0, 0, 12, 29, 973, 55, [])),
  (55, (3, 0, 0, 3, 0, 0, 56, [])),
  (56, (72, 0, 0, 0, 0, 0, 57, [])),
  (57, (52, 0, 0, 71, 0, 0, 60, [])),
  (60, (5, 0, 0, 0, 0, 0, 61, [])),
  (61, (1, 0, 0, 0, 0, 0, 62, [])),
  (62, (5, 0, 0, 0, 0, 0, 63, [])),
  (63, (70, 0, 0, 12, 29, 973, 66, [])),
  (66, (3, 0, 0, 3, 0, 0, 67, [])),
  (67, (72, 0, 0, 0, 0, 0, 68, [])),
  (68, (86, 0, 0, 0, 117, 1191, 71, [])),
  (71, (9, 1, 0, 3, 0, 0, 74, [])),
  (74, (10, 0, 0, 45, 0, 0, 77, [])),
  (77, (1, 0, 0, 0, 0, 0, 78, [])),
  (78, (6, 0, 0, 3, 0, 0, 79, [])),
  (79, (3, 0, 0, 3, 0, 0, 80, [])),
  (80, (5, 0, 0, 0, 0, 0, 81, [])),
  (81, (70, 0, 0, 12, 18, 962, 84, [])),
  (84, (59, 0, 0, 179, 0, 0, 87, [])),
  (87, (5, 0, 0, 0, 0, 0, 88, [])),
  (88, (5, 0, 0, 0, 0, 0, 89, [])),
  (89, (70, 0, 0, 12, 19, 963, 92, [])),
  (92, (3, 0, 0, 3, 0, 0, 93, [])),
  (93, (72, 0, 0, 0, 0, 0, 94, [])),
  (94, (86, 0, 0, 0, 120, 1203, 97, [])),
  (97, (5, 0, 0, 0, 0, 0, 98, [])),
  (98, (70, 0, 0, 12, 22, 966, 101, [])),
  (101, (3, 0, 0, 3, 0, 0, 102, [])),
  (102, (72, 0, 0, 0, 0, 0, 103, [])),
  (103, (6, 0, 0, 4, 0, 0, 105, [])),
  (105, (3, 0, 0, 4, 0, 0, 107, [])),
  (107, (5, 0, 0, 0, 0, 0, 108, [])),
  (108, (70, 0, 0, 12, 23, 967, 111, [])),
  (111, (59, 0, 0, 173, 0, 0, 114, [])),
  (114, (5, 0, 0, 0, 0, 0, 115, [])),
  (115, (70, 0, 0, 12, 24, 968, 118, [])),
  (118, (3, 0, 0, 4, 0, 0, 120, [])),
  (120, (72, 0, 0, 0, 0, 0, 121, [])),
  (121, (6, 0, 0, 5, 0, 0, 123, [])),
  (123, (5, 0, 0, 0, 0, 0, 124, [])),
  (124, (70, 0, 0, 12, 6, 950, 127, [])),
  (127, (3, 0, 0, 5, 0, 0, 129, [])),
  (129, (72, 0, 0, 0, 0, 0, 130, [])),
  (130, (1, 1, 0, 0, 0, 0, 131, [])),
  (131, (57, 0, 0, 167, 0, 0, 134, [])),
  (134, (5, 0, 0, 0, 0, 0, 135, [])),
  (135, (70, 0, 0, 12, 8, 952, 138, [])),
  (138, (3, 0, 0, 5, 0, 0, 140, [])),
  (140, (72, 0, 0, 0, 0, 0, 141, [])),
  (141, (52, 0, 0, 167, 0, 0, 144, [])),
  (144, (5, 0, 0, 0, 0, 0, 145, [])),
  (145, (70, 0, 0, 12, 7, 951, 148, [])),
  (148, (3, 0, 0, 5, 0, 0, 150, [])),
  (150, (72, 0, 0, 0, 0, 0, 151, [])),
  (151, (5, 0, 0, 0, 0, 0, 152, [])),
  (152, (70, 0, 0, 12, 21, 965, 155, [])),
  (155, (3, 0, 0, 3, 0, 0, 156, [])),
  (156, (72, 0, 0, 0, 0, 0, 157, [])),
  (157, (59, 0, 0, 167, 0, 0, 160, [])),
  (160, (5, 0, 0, 0, 0, 0, 161, [])),
  (161, (1, 0, 0, 0, 0, 0, 162, [])),
  (162, (3, 0, 0, 5, 0, 0, 164, [])),
  (164, (86, 0, 0, 0, 117, 1191, 167, [])),
  (167, (9, 1, 0, 4, 0, 0, 170, [])),
  (170, (10, 0, 0, 105, 0, 0, 173, [])),
  (173, (9, 1, 0, 3, 0, 0, 176, [])),
  (176, (10, 0, 0, 79, 0, 0, 179, [])),
  (179, (1, 0, 0, 0, 0, 0, 180, [])),
  (180, (6, 0, 0, 3, 0, 0, 181, [])),
  (181, (1, 0, 0, 0, 0, 0, 182, [])),
  (182, (6, 0, 0, 4, 0, 0, 184, [])),
  (184, (3, 0, 0, 4, 0, 0, 186, [])),
  (186, (1, 240, 0, 0, 0, 0, 189, [])),
  (189, (59, 0, 0, 265, 0, 0, 192, [])),
  (192, (5, 0, 0, 0, 0, 0, 193, [])),
  (193, (70, 0, 0, 12, 6, 950, 196, [])),
  (196, (3, 0, 0, 4, 0, 0, 198, [])),
  (198, (72, 0, 0, 0, 0, 0, 199, [])),
  (199, (55, 0, 0, 220, 0, 0, 202, [])),
  (202, (5, 0, 0, 0, 0, 0, 203, [])),
  (203, (70, 0, 0, 12, 33, 977, 206, [])),
  (206, (3, 0, 0, 4, 0, 0, 208, [])),
  (208, (72, 0, 0, 0, 0, 0, 209, [])),
  (209, (5, 0, 0, 0, 0, 0, 210, [])),
  (210, (70, 0, 0, 12, 34, 978, 213, [])),
  (213, (56, 0, 0, 220, 0, 0, 216, [])),
  (216, (1, 1, 0, 0, 0, 0, 217, [])),
  (217, (10, 0, 0, 221, 0, 0, 220, [])),
  (220, (1, 0, 0, 0, 0, 0, 221, [])),
  (221, (6, 0, 0, 5, 0, 0, 223, [])),
  (223, (3, 0, 0, 3, 0, 0, 224, [])),
  (224, (3, 0, 0, 5, 0, 0, 226, [])),
  (226, (50, 0, 0, 233, 0, 0, 229, [])),
  (229, (1, 1, 0, 0, 0, 0, 230, [])),
  (230, (10, 0, 0, 234, 0, 0, 233, [])),
  (233, (1, 0, 0, 0, 0, 0, 234, [])),
  (234, (20, 0, 0, 0, 0, 0, 235, [])),
  (235, (6, 0, 0, 3, 0, 0, 236, [])),
  (236, (5, 0, 0, 0, 0, 0, 237, [])),
  (237, (70, 0, 0, 12, 6, 950, 240, [])),
  (240, (3, 0, 0, 4, 0, 0, 242, [])),
  (242, (3, 0, 0, 5, 0, 0, 244, [])),
  (244, (50, 0, 0, 251, 0, 0, 247, [])),
  (247, (1, 0, 0, 0, 0, 0, 248, [])),
  (248, (10, 0, 0, 258, 0, 0, 251, [])),
  (251, (5, 0, 0, 0, 0, 0, 252, [])),
  (252, (70, 0, 0, 12, 6, 950, 255, [])),
  (255, (3, 0, 0, 4, 0, 0, 257, [])),
  (257, (72, 0, 0, 0, 0, 0, 258, [])),
  (258, (76, 0, 0, 0, 0, 0, 259, [])),
  (259, (9, 1, 0, 4, 0, 0, 262, [])),
  (262, (10, 0, 0, 184, 0, 0, 265, [])),
  (265, (3, 0, 0, 3, 0, 0, 266, [])),
  (266, (90, 0, 0, 0, 0, 0, 0, []))], (1190, 80, 1189, 47, 2, []))
theorem ok_MO_free : gv_ok M_MO_free := gv_ok_of (by decide +kernel)
theorem mk_MO_free : gv_msV M_MO_free = true := by decide +kernel

def M_MO_end : gv_M := (⟨"GoalEngineModel", "end", "()V"⟩, prog_14_method_31_code, 2, none, [(0, (5, 0, 0, 0, 0, 0, 1, [])),
  (1, (1, 0, 0, 0, 0, 0, 2, [])),
  (2, (80, 0, 0, 12, 25, 969, 5, [])),
  (5, (5, 0, 0, 0, 0, 0, 6, [])),
  (6, (1, 0, 0, 0, 0, 0, 7, [])),
  (7, (80, 0, 0, 12, 26, 970, 10, [])),
  (10, (5, 0, 0, 0, 0, 0, 11, [])),
  (11, (1, 0, 0, 0, 0, 0, 12, [])),
  (12, (80, 0, 0, 12, 18, 962, 15, [])),
  (15, (5, 0, 0, 0, 0, 0, 16, [])),
  (16, (1, (-1), 0, 0, 0, 0, 17, [])),
  (17, (80, 0, 0, 12, 16, 960, 20, [])),
  (20, (5, 0, 0, 0, 0, 0, 21, [])),
  (21, (1, 0, 0, 0, 0, 0, 22, [])),
  (22, (80, 0, 0, 12, 23, 967, 25, [])),
  (25, (1, 0, 0, 0, 0, 0, 26, [])),
  (26, (6, 0, 0, 1, 0, 0, 27, [])),
  (27, (3, 0, 0, 1, 0, 0, 28, [])),
  (28, (1, 240, 0, 0, 0, 0, 31, [])),
  (31, (59, 0, 0, 47, 0, 0, 34, [])),
  (34, (5, 0, 0, 0, 0, 0, 35, [])),
  (35, (70, 0, 0, 12, 6, 950, 38, [])),
  (38, (3, 0, 0, 1, 0, 0, 39, [])),
  (39, (1, 0, 0, 0, 0, 0, 40, [])),
  (40, (76, 0, 0, 0, 0, 0, 41, [])),
  (41, (9, 1, 0, 1, 0, 0, 44, [])),
  (44, (10, 0, 0, 27, 0, 0, 47, [])),
  (47, (91, 0, 0, 0, 0, 0, 0, []))], (1126, 80, 1125, 32, 0, []))
theorem ok_MO_end : gv_ok M_MO_end := gv_ok_of (by decide +kernel)
theorem mk_MO_end : gv_msV M_MO_end = true := by decide +kernel

def M_MO_link : gv_M := (⟨"GoalEngineModel", "link", "(IIII)I"⟩, prog_14_method_32_code, 5, some .int, [(0, (5, 0, 0, 0, 0, 0, 1, [])),
  (1, (70, 0, 0, 12, 14, 958, 4, [])),
  (4, (5, 0, 0, 0, 0, 0, 5, [])),
  (5, (70, 0, 0, 12, 13, 957, 8, [])),
  (8, (3, 0, 0, 1, 0, 0, 9, [])),
  (9, (1, 8, 0, 0, 0, 0, 11, [])),
  (11, (3, 0, 0, 2, 0, 0, 12, [])),
  (12, (22, 0, 0, 0, 0, 0, 13, [])),
  (13, (20, 0, 0, 0, 0, 0, 14, [])),
  (14, (1, 2048, 0, 0, 0, 0, 17, [])),
  (17, (3, 0, 0, 3, 0, 0, 18, [])),
  (18, (22, 0, 0, 0, 0, 0, 19, [])),
  (19, (20, 0, 0, 0, 0, 0, 20, [])),
  (20, (76, 0, 0, 0, 0, 0, 21, [])),
  (21, (5, 0, 0, 0, 0, 0, 22, [])),
  (22, (70, 0, 0, 12, 15, 959, 25, [])),
  (25, (5, 0, 0, 0, 0, 0, 26, [])),
  (26, (70, 0, 0, 12, 13, 957, 29, [])),
  (29, (3, 0, 0, 4, 0, 0, 31, [])),
  (31, (76, 0, 0, 0, 0, 0, 32, [])),
  (32, (5, 0, 0, 0, 0, 0, 33, [])),
  (33, (40, 0, 0, 0, 0, 0, 34, [])),
  (34, (70, 0, 0, 12, 13, 957, 37, [])),
  (37, (1, 1, 0, 0, 0, 0, 38, [])),
  (38, (20, 0, 0, 0, 0, 0, 39, [])),
  (39, (80, 0, 0, 12, 13, 957, 42, [])),
  (42, (5, 0, 0, 0, 0, 0, 43, [])),
  (43, (70, 0, 0, 12, 13, 957, 46, [])),
  (46, (1, 1, 0, 0, 0, 0, 47, [])),
  (47, (21, 0, 0, 0, 0, 0, 48, [])),
  (48, (90, 0, 0, 0, 0, 0, 0, []))], (1150, 80, 1149, 38, 4, []))
theorem ok_MO_link : gv_ok M_MO_link := gv_ok_of (by decide +kernel)
theorem mk_MO_link : gv_msV M_MO_link = true := by decide +kernel

def M_MO_ask : gv_M := (⟨"GoalEngineModel", "ask", "()I"⟩, prog_14_method_33_code, 3, some .int, [(0, (5, 0, 0, 0, 0, 0, 1, [])),
  (1, (70, 0, 0, 12, 1, 945, 4, [])),
  (4, (55, 0, 0, 19, 0, 0, 7, [])),
  (7, (5, 0, 0, 0, 0, 0, 8, [])),
  (8, (1, 0, 0, 0, 0, 0, 9, [])),
  (9, (86, 0, 0, 0, 97, 1107, 12, [])),
  (12, (50, 0, 0, 19, 0, 0, 15, [])),
  (15, (1, 1, 0, 0, 0, 0, 16, [])),
  (16, (10, 0, 0, 20, 0, 0, 19, [])),
  (19, (1, 0, 0, 0, 0, 0, 20, [])),
  (20, (6, 0, 0, 1, 0, 0, 21, [])),
  (21, (5, 0, 0, 0, 0, 0, 22, [])),
  (22, (3, 0, 0, 1, 0, 0, 23, [])),
  (23, (50, 0, 0, 30, 0, 0, 26, [])),
  (26, (1, 0, 0, 0, 0, 0, 27, [])),
  (27, (10, 0, 0, 31, 0, 0, 30, [])),
  (30, (1, 1, 0, 0, 0, 0, 31, [])),
  (31, (80, 0, 0, 12, 0, 944, 34, [])),
  (34, (3, 0, 0, 1, 0, 0, 35, [])),
  (35, (50, 0, 0, 143, 0, 0, 38, [])),
  (38, (5, 0, 0, 0, 0, 0, 39, [])),
  (39, (86, 0, 0, 0, 122, 1123, 42, [])),
  (42, (5, 0, 0, 0, 0, 0, 43, [])),
  (43, (1, 1, 0, 0, 0, 0, 44, [])),
  (44, (80, 0, 0, 12, 25, 969, 47, [])),
  (47, (5, 0, 0, 0, 0, 0, 48, [])),
  (48, (1, 0, 0, 0, 0, 0, 49, [])),
  (49, (80, 0, 0, 12, 13, 957, 52, [])),
  (52, (5, 0, 0, 0, 0, 0, 53, [])),
  (53, (1, (-1), 0, 0, 0, 0, 54, [])),
  (54, (80, 0, 0, 12, 17, 961, 57, [])),
  (57, (5, 0, 0, 0, 0, 0, 58, [])),
  (58, (1, 0, 0, 0, 0, 0, 59, [])),
  (59, (80, 0, 0, 12, 12, 956, 62, [])),
  (62, (5, 0, 0, 0, 0, 0, 63, [])),
  (63, (5, 0, 0, 0, 0, 0, 64, [])),
  (64, (70, 0, 0, 12, 2, 946, 67, [])),
  (67, (1, 0, 0, 0, 0, 0, 68, [])),
  (68, (5, 0, 0, 0, 0, 0, 69, [])),
  (69, (70, 0, 0, 12, 1, 945, 72, [])),
  (72, (86, 0, 0, 0, 105, 1127, 75, [])),
  (75, (1, 0, 0, 0, 0, 0, 76, [])),
  (76, (6, 0, 0, 2, 0, 0, 77, [])),
  (77, (3, 0, 0, 2, 0, 0, 78, [])),
  (78, (1, 8, 0, 0, 0, 0, 80, [])),
  (80, (59, 0, 0, 101, 0, 0, 83, [])),
  (83, (5, 0, 0, 0, 0, 0, 84, [])),
  (84, (70, 0, 0, 12, 29, 973, 87, [])),
  (87, (3, 0, 0, 2, 0, 0, 88, [])),
  (88, (5, 0, 0, 0, 0, 0, 89, [])),
  (89, (70, 0, 0, 12, 42, 986, 92, [])),
  (92, (3, 0, 0, 2, 0, 0, 93, [])),
  (93, (72, 0, 0, 0, 0, 0, 94, [])),
  (94, (76, 0, 0, 0, 0, 0, 95, [])),
  (95, (9, 1, 0, 2, 0, 0, 98, [])),
  (98, (10, 0, 0, 77, 0, 0, 101, [])),
  (101, (5, 0, 0, 0, 0, 0, 102, [])),
  (102, (70, 0, 0, 12, 46, 990, 105, [])),
  (105, (1, 1, 0, 0, 0, 0, 106, [])),
  (106, (21, 0, 0, 0, 0, 0, 107, [])),
  (107, (6, 0, 0, 2, 0, 0, 108, [])),
  (108, (3, 0, 0, 2, 0, 0, 109, [])),
  (109, (52, 0, 0, 143, 0, 0, 112, [])),
  (112, (5, 0, 0, 0, 0, 0, 113, [])),
  (113, (5, 0, 0, 0, 0, 0, 114, [])),
  (114, (5, 0, 0, 0, 0, 0, 115, [])),
  (115, (70, 0, 0, 12, 47, 991, 118, [])),
  (118, (3, 0, 0, 2, 0, 0, 119, [])),
  (119, (72, 0, 0, 0, 0, 0, 120, [])),
  (120, (5, 0, 0, 0, 0, 0, 121, [])),
  (121, (70, 0, 0, 12, 48, 992, 124, [])),
  (124, (3, 0, 0, 2, 0, 0, 125, [])),
  (125, (72, 0, 0, 0, 0, 0, 126, [])),
  (126, (1, 0, 0, 0, 0, 0, 127, [])),
  (127, (5, 0, 0, 0, 0, 0, 128, [])),
  (128, (70, 0, 0, 12, 16, 960, 131, [])),
  (131, (86, 0, 0, 0, 123, 1147, 134, [])),
  (134, (80, 0, 0, 12, 16, 960, 137, [])),
  (137, (9, (-1), 0, 2, 0, 0, 140, [])),
  (140, (10, 0, 0, 108, 0, 0, 143, [])),
  (143, (5, 0, 0, 0, 0, 0, 144, [])),
  (144, (1, 0, 0, 0, 0, 0, 145, [])),
  (145, (80, 0, 0, 12, 1, 945, 148, [])),
  (148, (3, 0, 0, 1, 0, 0, 149, [])),
  (149, (50, 0, 0, 159, 0, 0, 152, [])),
  (152, (5, 0, 0, 0, 0, 0, 153, [])),
  (153, (86, 0, 0, 0, 99, 1151, 156, [])),
  (156, (10, 0, 0, 160, 0, 0, 159, [])),
  (159, (1, 0, 0, 0, 0, 0, 160, [])),
  (160, (90, 0, 0, 0, 0, 0, 0, []))], (1122, 80, 1120, 1121, 0, []))
theorem ok_MO_ask : gv_ok M_MO_ask := gv_ok_of (by decide +kernel)
theorem mk_MO_ask : gv_msV M_MO_ask = true := by decide +kernel

def M_MO_fail : gv_M := (⟨"GoalEngineModel", "fail", "()V"⟩, prog_14_method_34_code, 2, none, [(0, (5, 0, 0, 0, 0, 0, 1, [])),
  (1, (70, 0, 0, 12, 18, 962, 4, [])),
  (4, (51, 0, 0, 12, 0, 0, 7, [])),
  (7, (5, 0, 0, 0, 0, 0, 8, [])),
  (8, (86, 0, 0, 0, 122, 1123, 11, [])),
  (11, (91, 0, 0, 0, 0, 0, 0, [])),
  (12, (5, 0, 0, 0, 0, 0, 13, [])),
  (13, (40, 0, 0, 0, 0, 0, 14, [])),
  (14, (70, 0, 0, 12, 18, 962, 17, [])),
  (17, (1, 1, 0, 0, 0, 0, 18, [])),
  (18, (21, 0, 0, 0, 0, 0, 19, [])),
  (19, (80, 0, 0, 12, 18, 962, 22, [])),
  (22, (5, 0, 0, 0, 0, 0, 23, [])),
  (23, (70, 0, 0, 12, 23, 967, 26, [])),
  (26, (5, 0, 0, 0, 0, 0, 27, [])),
  (27, (70, 0, 0, 12, 22, 966, 30, [])),
  (30, (5, 0, 0, 0, 0, 0, 31, [])),
  (31, (70, 0, 0, 12, 18, 962, 34, [])),
  (34, (72, 0, 0, 0, 0, 0, 35, [])),
  (35, (61, 0, 0, 66, 0, 0, 38, [])),
  (38, (5, 0, 0, 0, 0, 0, 39, [])),
  (39, (40, 0, 0, 0, 0, 0, 40, [])),
  (40, (70, 0, 0, 12, 23, 967, 43, [])),
  (43, (1, 1, 0, 0, 0, 0, 44, [])),
  (44, (21, 0, 0, 0, 0, 0, 45, [])),
  (45, (80, 0, 0, 12, 23, 967, 48, [])),
  (48, (5, 0, 0, 0, 0, 0, 49, [])),
  (49, (70, 0, 0, 12, 8, 952, 52, [])),
  (52, (5, 0, 0, 0, 0, 0, 53, [])),
  (53, (70, 0, 0, 12, 24, 968, 56, [])),
  (56, (5, 0, 0, 0, 0, 0, 57, [])),
  (57, (70, 0, 0, 12, 23, 967, 60, [])),
  (60, (72, 0, 0, 0, 0, 0, 61, [])),
  (61, (1, (-1), 0, 0, 0, 0, 62, [])),
  (62, (76, 0, 0, 0, 0, 0, 63, [])),
  (63, (10, 0, 0, 22, 0, 0, 66, [])),
  (66, (1, 0, 0, 0, 0, 0, 67, [])),
  (67, (6, 0, 0, 1, 0, 0, 68, [])),
  (68, (3, 0, 0, 1, 0, 0, 69, [])),
  (69, (1, 240, 0, 0, 0, 0, 72, [])),
  (72, (59, 0, 0, 115, 0, 0, 75, [])),
  (75, (5, 0, 0, 0, 0, 0, 76, [])),
  (76, (70, 0, 0, 12, 6, 950, 79, [])),
  (79, (3, 0, 0, 1, 0, 0, 80, [])),
  (80, (5, 0, 0, 0, 0, 0, 81, [])),
  (81, (70, 0, 0, 12, 7, 951, 84, [])),
  (84, (3, 0, 0, 1, 0, 0, 85, [])),
  (85, (72, 0, 0, 0, 0, 0, 86, [])),
  (86, (5, 0, 0, 0, 0, 0, 87, [])),
  (87, (70, 0, 0, 12, 21, 965, 90, [])),
  (90, (5, 0, 0, 0, 0, 0, 91, [])),
  (91, (70, 0, 0, 12, 18, 962, 94, [])),
  (94, (72, 0, 0, 0, 0, 0, 95, [])),
  (95, (58, 0, 0, 102, 0, 0, 98, [])),
  (98, (1, 0, 0, 0, 0, 0, 99, [])),
  (99, (10, 0, 0, 108, 0, 0, 102, [])),
  (102, (5, 0, 0, 0, 0, 0, 103, [])),
  (103, (70, 0, 0, 12, 6, 950, 106, [])),
  (106, (3, 0, 0, 1, 0, 0, 107, [])),
  (107, (72, 0, 0, 0, 0, 0, 108, [])),
  (108, (76, 0, 0, 0, 0, 0, 109, [])),
  (109, (9, 1, 0, 1, 0, 0, 112, [])),
  (112, (10, 0, 0, 68, 0, 0, 115, [])),
  (115, (5, 0, 0, 0, 0, 0, 116, [])),
  (116, (5, 0, 0, 0, 0, 0, 117, [])),
  (117, (70, 0, 0, 12, 19, 963, 120, [])),
  (120, (5, 0, 0, 0, 0, 0, 121, [])),
  (121, (70, 0, 0, 12, 18, 962, 124, [])),
  (124, (72, 0, 0, 0, 0, 0, 125, [])),
  (125, (80, 0, 0, 12, 16, 960, 128, [])),
  (128, (5, 0, 0, 0, 0, 0, 129, [])),
  (129, (5, 0, 0, 0, 0, 0, 130, [])),
  (130, (70, 0, 0, 12, 20, 964, 133, [])),
  (133, (5, 0, 0, 0, 0, 0, 134, [])),
  (134, (70, 0, 0, 12, 18, 962, 137, [])),
  (137, (72, 0, 0, 0, 0, 0, 138, [])),
  (138, (80, 0, 0, 12, 17, 961, 141, [])),
  (141, (91, 0, 0, 0, 0, 0, 0, []))], (1258, 80, 1257, 64, 0, []))
theorem ok_MO_fail : gv_ok M_MO_fail := gv_ok_of (by decide +kernel)
theorem mk_MO_fail : gv_msV M_MO_fail = true := by decide +kernel

def M_MO_wordOf : gv_M := (⟨"GoalEngineModel", "wordOf", "(II)I"⟩, prog_14_method_35_code, 3, some .int, [(0, (3, 0, 0, 1, 0, 0, 1, [])),
  (1, (1, 3, 0, 0, 0, 0, 2, [])),
  (2, (57, 0, 0, 14, 0, 0, 5, [])),
  (5, (5, 0, 0, 0, 0, 0, 6, [])),
  (6, (70, 0, 0, 12, 10, 954, 9, [])),
  (9, (3, 0, 0, 2, 0, 0, 10, [])),
  (10, (72, 0, 0, 0, 0, 0, 11, [])),
  (11, (10, 0, 0, 20, 0, 0, 14, [])),
  (14, (1, 8, 0, 0, 0, 0, 16, [])),
  (16, (3, 0, 0, 2, 0, 0, 17, [])),
  (17, (22, 0, 0, 0, 0, 0, 18, [])),
  (18, (1, 2, 0, 0, 0, 0, 19, [])),
  (19, (20, 0, 0, 0, 0, 0, 20, [])),
  (20, (90, 0, 0, 0, 0, 0, 0, []))], (1178, 80, 1177, 44, 2, []))
theorem ok_MO_wordOf : gv_ok M_MO_wordOf := gv_ok_of (by decide +kernel)
theorem mk_MO_wordOf : gv_msV M_MO_wordOf = true := by decide +kernel

def M_MO_ruleFor : gv_M := (⟨"GoalEngineModel", "ruleFor", "(II)I"⟩, prog_14_method_36_code, 4, some .int, [(0, (3, 0, 0, 2, 0, 0, 1, [])),
  (1, (6, 0, 0, 3, 0, 0, 2, [])),
  (2, (3, 0, 0, 3, 0, 0, 3, [])),
  (3, (5, 0, 0, 0, 0, 0, 4, [])),
  (4, (70, 0, 0, 12, 3, 947, 7, [])),
  (7, (59, 0, 0, 31, 0, 0, 10, [])),
  (10, (5, 0, 0, 0, 0, 0, 11, [])),
  (11, (70, 0, 0, 12, 4, 948, 14, [])),
  (14, (1, 30, 0, 0, 0, 0, 16, [])),
  (16, (3, 0, 0, 3, 0, 0, 17, [])),
  (17, (22, 0, 0, 0, 0, 0, 18, [])),
  (18, (72, 0, 0, 0, 0, 0, 19, [])),
  (19, (3, 0, 0, 1, 0, 0, 20, [])),
  (20, (57, 0, 0, 25, 0, 0, 23, [])),
  (23, (3, 0, 0, 3, 0, 0, 24, [])),
  (24, (90, 0, 0, 0, 0, 0, 0, [])),
  (25, (9, 1, 0, 3, 0, 0, 28, [])),
  (28, (10, 0, 0, 2, 0, 0, 31, [])),
  (31, (1, (-1), 0, 0, 0, 0, 32, [])),
  (32, (90, 0, 0, 0, 0, 0, 0, []))], (1182, 80, 1181, 45, 2, []))
theorem ok_MO_ruleFor : gv_ok M_MO_ruleFor := gv_ok_of (by decide +kernel)
theorem mk_MO_ruleFor : gv_msV M_MO_ruleFor = true := by decide +kernel

def M_MO_attempt : gv_M := (⟨"GoalEngineModel", "attempt", "(II)V"⟩, prog_14_method_37_code, 9, none, [(0, (5, 0, 0, 0, 0, 0, 1, [])),
  (1, (3, 0, 0, 2, 0, 0, 2, [])),
  (2, (86, 0, 0, 0, 118, 1163, 5, [])),
  (5, (6, 0, 0, 3, 0, 0, 6, [])),
  (6, (5, 0, 0, 0, 0, 0, 7, [])),
  (7, (3, 0, 0, 2, 0, 0, 8, [])),
  (8, (86, 0, 0, 0, 119, 1167, 11, [])),
  (11, (6, 0, 0, 4, 0, 0, 13, [])),
  (13, (5, 0, 0, 0, 0, 0, 14, [])),
  (14, (70, 0, 0, 12, 18, 962, 17, [])),
  (17, (6, 0, 0, 5, 0, 0, 19, [])),
  (19, (5, 0, 0, 0, 0, 0, 20, [])),
  (20, (5, 0, 0, 0, 0, 0, 21, [])),
  (21, (3, 0, 0, 3, 0, 0, 22, [])),
  (22, (3, 0, 0, 4, 0, 0, 24, [])),
  (24, (86, 0, 0, 0, 126, 1175, 27, [])),
  (27, (3, 0, 0, 1, 0, 0, 28, [])),
  (28, (1, 1, 0, 0, 0, 0, 29, [])),
  (29, (20, 0, 0, 0, 0, 0, 30, [])),
  (30, (86, 0, 0, 0, 127, 1179, 33, [])),
  (33, (6, 0, 0, 6, 0, 0, 35, [])),
  (35, (3, 0, 0, 6, 0, 0, 37, [])),
  (37, (52, 0, 0, 97, 0, 0, 40, [])),
  (40, (5, 0, 0, 0, 0, 0, 41, [])),
  (41, (70, 0, 0, 12, 19, 963, 44, [])),
  (44, (5, 0, 0, 0, 0, 0, 45, [])),
  (45, (70, 0, 0, 12, 18, 962, 48, [])),
  (48, (3, 0, 0, 2, 0, 0, 49, [])),
  (49, (76, 0, 0, 0, 0, 0, 50, [])),
  (50, (5, 0, 0, 0, 0, 0, 51, [])),
  (51, (70, 0, 0, 12, 20, 964, 54, [])),
  (54, (5, 0, 0, 0, 0, 0, 55, [])),
  (55, (70, 0, 0, 12, 18, 962, 58, [])),
  (58, (3, 0, 0, 6, 0, 0, 60, [])),
  (60, (76, 0, 0, 0, 0, 0, 61, [])),
  (61, (5, 0, 0, 0, 0, 0, 62, [])),
  (62, (70, 0, 0, 12, 21, 965, 65, [])),
  (65, (5, 0, 0, 0, 0, 0, 66, [])),
  (66, (70, 0, 0, 12, 18, 962, 69, [])),
  (69, (5, 0, 0, 0, 0, 0, 70, [])),
  (70, (70, 0, 0, 12, 12, 956, 73, [])),
  (73, (76, 0, 0, 0, 0, 0, 74, [])),
  (74, (5, 0, 0, 0, 0, 0, 75, [])),
  (75, (70, 0, 0, 12, 22, 966, 78, [])),
  (78, (5, 0, 0, 0, 0, 0, 79, [])),
  (79, (70, 0, 0, 12, 18, 962, 82, [])),
  (82, (5, 0, 0, 0, 0, 0, 83, [])),
  (83, (70, 0, 0, 12, 23, 967, 86, [])),
  (86, (76, 0, 0, 0, 0, 0, 87, [])),
  (87, (5, 0, 0, 0, 0, 0, 88, [])),
  (88, (40, 0, 0, 0, 0, 0, 89, [])),
  (89, (70, 0, 0, 12, 18, 962, 92, [])),
  (92, (1, 1, 0, 0, 0, 0, 93, [])),
  (93, (20, 0, 0, 0, 0, 0, 94, [])),
  (94, (80, 0, 0, 12, 18, 962, 97, [])),
  (97, (5, 0, 0, 0, 0, 0, 98, [])),
  (98, (5, 0, 0, 0, 0, 0, 99, [])),
  (99, (70, 0, 0, 12, 4, 948, 102, [])),
  (102, (1, 30, 0, 0, 0, 0, 104, [])),
  (104, (3, 0, 0, 1, 0, 0, 105, [])),
  (105, (22, 0, 0, 0, 0, 0, 106, [])),
  (106, (5, 0, 0, 0, 0, 0, 107, [])),
  (107, (70, 0, 0, 12, 5, 949, 110, [])),
  (110, (3, 0, 0, 1, 0, 0, 111, [])),
  (111, (72, 0, 0, 0, 0, 0, 112, [])),
  (112, (86, 0, 0, 0, 102, 1183, 115, [])),
  (115, (6, 0, 0, 7, 0, 0, 117, [])),
  (117, (5, 0, 0, 0, 0, 0, 118, [])),
  (118, (86, 0, 0, 0, 99, 1151, 121, [])),
  (121, (3, 0, 0, 7, 0, 0, 123, [])),
  (123, (20, 0, 0, 0, 0, 0, 124, [])),
  (124, (1, 240, 0, 0, 0, 0, 127, [])),
  (127, (61, 0, 0, 139, 0, 0, 130, [])),
  (130, (5, 0, 0, 0, 0, 0, 131, [])),
  (131, (3, 0, 0, 3, 0, 0, 132, [])),
  (132, (3, 0, 0, 4, 0, 0, 134, [])),
  (134, (86, 0, 0, 0, 121, 1187, 137, [])),
  (137, (6, 0, 0, 8, 0, 0, 139, [])),
  (139, (5, 0, 0, 0, 0, 0, 140, [])),
  (140, (86, 0, 0, 0, 99, 1151, 143, [])),
  (143, (3, 0, 0, 7, 0, 0, 145, [])),
  (145, (20, 0, 0, 0, 0, 0, 146, [])),
  (146, (1, 240, 0, 0, 0, 0, 149, [])),
  (149, (61, 0, 0, 158, 0, 0, 152, [])),
  (152, (5, 0, 0, 0, 0, 0, 153, [])),
  (153, (1, 3, 0, 0, 0, 0, 154, [])),
  (154, (80, 0, 0, 12, 49, 993, 157, [])),
  (157, (91, 0, 0, 0, 0, 0, 0, [])),
  (158, (5, 0, 0, 0, 0, 0, 159, [])),
  (159, (5, 0, 0, 0, 0, 0, 160, [])),
  (160, (70, 0, 0, 12, 4, 948, 163, [])),
  (163, (1, 30, 0, 0, 0, 0, 165, [])),
  (165, (3, 0, 0, 1, 0, 0, 166, [])),
  (166, (22, 0, 0, 0, 0, 0, 167, [])),
  (167, (5, 0, 0, 0, 0, 0, 168, [])),
  (168, (70, 0, 0, 12, 5, 949, 171, [])),
  (171, (3, 0, 0, 1, 0, 0, 172, [])),
  (172, (72, 0, 0, 0, 0, 0, 173, [])),
  (173, (86, 0, 0, 0, 105, 1127, 176, [])),
  (176, (5, 0, 0, 0, 0, 0, 177, [])),
  (177, (5, 0, 0, 0, 0, 0, 178, [])),
  (178, (70, 0, 0, 12, 47, 991, 181, [])),
  (181, (1, 0, 0, 0, 0, 0, 182, [])),
  (182, (72, 0, 0, 0, 0, 0, 183, [])),
  (183, (5, 0, 0, 0, 0, 0, 184, [])),
  (184, (70, 0, 0, 12, 48, 992, 187, [])),
  (187, (1, 0, 0, 0, 0, 0, 188, [])),
  (188, (72, 0, 0, 0, 0, 0, 189, [])),
  (189, (3, 0, 0, 3, 0, 0, 190, [])),
  (190, (3, 0, 0, 4, 0, 0, 192, [])),
  (192, (86, 0, 0, 0, 111, 1207, 195, [])),
  (195, (5, 0, 0, 0, 0, 0, 196, [])),
  (196, (70, 0, 0, 12, 46, 990, 199, [])),
  (199, (1, 1, 0, 0, 0, 0, 200, [])),
  (200, (21, 0, 0, 0, 0, 0, 201, [])),
  (201, (6, 0, 0, 8, 0, 0, 203, [])),
  (203, (3, 0, 0, 8, 0, 0, 205, [])),
  (205, (55, 0, 0, 249, 0, 0, 208, [])),
  (208, (5, 0, 0, 0, 0, 0, 209, [])),
  (209, (70, 0, 0, 12, 49, 993, 212, [])),
  (212, (51, 0, 0, 249, 0, 0, 215, [])),
  (215, (5, 0, 0, 0, 0, 0, 216, [])),
  (216, (5, 0, 0, 0, 0, 0, 217, [])),
  (217, (5, 0, 0, 0, 0, 0, 218, [])),
  (218, (70, 0, 0, 12, 47, 991, 221, [])),
  (221, (3, 0, 0, 8, 0, 0, 223, [])),
  (223, (72, 0, 0, 0, 0, 0, 224, [])),
  (224, (5, 0, 0, 0, 0, 0, 225, [])),
  (225, (70, 0, 0, 12, 48, 992, 228, [])),
  (228, (3, 0, 0, 8, 0, 0, 230, [])),
  (230, (72, 0, 0, 0, 0, 0, 231, [])),
  (231, (3, 0, 0, 5, 0, 0, 233, [])),
  (233, (5, 0, 0, 0, 0, 0, 234, [])),
  (234, (70, 0, 0, 12, 16, 960, 237, [])),
  (237, (86, 0, 0, 0, 123, 1147, 240, [])),
  (240, (80, 0, 0, 12, 16, 960, 243, [])),
  (243, (9, (-1), 0, 8, 0, 0, 246, [])),
  (246, (10, 0, 0, 203, 0, 0, 249, [])),
  (249, (91, 0, 0, 0, 0, 0, 0, []))], (1174, 80, 1173, 43, 2, []))
theorem ok_MO_attempt : gv_ok M_MO_attempt := gv_ok_of (by decide +kernel)
theorem mk_MO_attempt : gv_msV M_MO_attempt = true := by decide +kernel

def M_MO_argumentKind : gv_M := (⟨"GoalEngineModel", "argumentKind", "(II)I"⟩, prog_14_method_38_code, 3, some .int, [(0, (5, 0, 0, 0, 0, 0, 1, [])),
  (1, (70, 0, 0, 12, 8, 952, 4, [])),
  (4, (5, 0, 0, 0, 0, 0, 5, [])),
  (5, (70, 0, 0, 12, 11, 955, 8, [])),
  (8, (1, 3, 0, 0, 0, 0, 9, [])),
  (9, (3, 0, 0, 1, 0, 0, 10, [])),
  (10, (22, 0, 0, 0, 0, 0, 11, [])),
  (11, (3, 0, 0, 2, 0, 0, 12, [])),
  (12, (20, 0, 0, 0, 0, 0, 13, [])),
  (13, (72, 0, 0, 0, 0, 0, 14, [])),
  (14, (72, 0, 0, 0, 0, 0, 15, [])),
  (15, (90, 0, 0, 0, 0, 0, 0, []))], (1238, 80, 1237, 59, 2, []))
theorem ok_MO_argumentKind : gv_ok M_MO_argumentKind := gv_ok_of (by decide +kernel)
theorem mk_MO_argumentKind : gv_msV M_MO_argumentKind = true := by decide +kernel

def M_MO_argumentValue : gv_M := (⟨"GoalEngineModel", "argumentValue", "(II)I"⟩, prog_14_method_39_code, 3, some .int, [(0, (5, 0, 0, 0, 0, 0, 1, [])),
  (1, (70, 0, 0, 12, 9, 953, 4, [])),
  (4, (5, 0, 0, 0, 0, 0, 5, [])),
  (5, (70, 0, 0, 12, 11, 955, 8, [])),
  (8, (1, 3, 0, 0, 0, 0, 9, [])),
  (9, (3, 0, 0, 1, 0, 0, 10, [])),
  (10, (22, 0, 0, 0, 0, 0, 11, [])),
  (11, (3, 0, 0, 2, 0, 0, 12, [])),
  (12, (20, 0, 0, 0, 0, 0, 13, [])),
  (13, (72, 0, 0, 0, 0, 0, 14, [])),
  (14, (72, 0, 0, 0, 0, 0, 15, [])),
  (15, (90, 0, 0, 0, 0, 0, 0, []))], (1242, 80, 1241, 60, 2, []))
theorem ok_MO_argumentValue : gv_ok M_MO_argumentValue := gv_ok_of (by decide +kernel)
theorem mk_MO_argumentValue : gv_msV M_MO_argumentValue = true := by decide +kernel

def M_MO_known : gv_M := (⟨"GoalEngineModel", "known", "(II)V"⟩, prog_14_method_40_code, 9, none, [(0, (5, 0, 0, 0, 0, 0, 1, [])),
  (1, (3, 0, 0, 2, 0, 0, 2, [])),
  (2, (1, 0, 0, 0, 0, 0, 3, [])),
  (3, (86, 0, 0, 0, 129, 1235, 6, [])),
  (6, (6, 0, 0, 3, 0, 0, 7, [])),
  (7, (5, 0, 0, 0, 0, 0, 8, [])),
  (8, (3, 0, 0, 2, 0, 0, 9, [])),
  (9, (1, 0, 0, 0, 0, 0, 10, [])),
  (10, (86, 0, 0, 0, 130, 1239, 13, [])),
  (13, (6, 0, 0, 4, 0, 0, 15, [])),
  (15, (5, 0, 0, 0, 0, 0, 16, [])),
  (16, (3, 0, 0, 2, 0, 0, 17, [])),
  (17, (1, 1, 0, 0, 0, 0, 18, [])),
  (18, (86, 0, 0, 0, 129, 1235, 21, [])),
  (21, (6, 0, 0, 5, 0, 0, 23, [])),
  (23, (5, 0, 0, 0, 0, 0, 24, [])),
  (24, (3, 0, 0, 2, 0, 0, 25, [])),
  (25, (1, 1, 0, 0, 0, 0, 26, [])),
  (26, (86, 0, 0, 0, 130, 1239, 29, [])),
  (29, (6, 0, 0, 6, 0, 0, 31, [])),
  (31, (3, 0, 0, 1, 0, 0, 32, [])),
  (32, (1, 24, 0, 0, 0, 0, 34, [])),
  (34, (57, 0, 0, 49, 0, 0, 37, [])),
  (37, (5, 0, 0, 0, 0, 0, 38, [])),
  (38, (3, 0, 0, 3, 0, 0, 39, [])),
  (39, (3, 0, 0, 4, 0, 0, 41, [])),
  (41, (3, 0, 0, 5, 0, 0, 43, [])),
  (43, (3, 0, 0, 6, 0, 0, 45, [])),
  (45, (86, 0, 0, 0, 111, 1207, 48, [])),
  (48, (91, 0, 0, 0, 0, 0, 0, [])),
  (49, (3, 0, 0, 1, 0, 0, 50, [])),
  (50, (1, 25, 0, 0, 0, 0, 52, [])),
  (52, (57, 0, 0, 59, 0, 0, 55, [])),
  (55, (1, 0, 0, 0, 0, 0, 56, [])),
  (56, (10, 0, 0, 66, 0, 0, 59, [])),
  (59, (5, 0, 0, 0, 0, 0, 60, [])),
  (60, (3, 0, 0, 3, 0, 0, 61, [])),
  (61, (3, 0, 0, 4, 0, 0, 63, [])),
  (63, (86, 0, 0, 0, 116, 1243, 66, [])),
  (66, (6, 0, 0, 7, 0, 0, 68, [])),
  (68, (3, 0, 0, 1, 0, 0, 69, [])),
  (69, (1, 25, 0, 0, 0, 0, 71, [])),
  (71, (56, 0, 0, 81, 0, 0, 74, [])),
  (74, (5, 0, 0, 0, 0, 0, 75, [])),
  (75, (70, 0, 0, 12, 49, 993, 78, [])),
  (78, (51, 0, 0, 92, 0, 0, 81, [])),
  (81, (5, 0, 0, 0, 0, 0, 82, [])),
  (82, (3, 0, 0, 5, 0, 0, 84, [])),
  (84, (3, 0, 0, 6, 0, 0, 86, [])),
  (86, (86, 0, 0, 0, 116, 1243, 89, [])),
  (89, (10, 0, 0, 93, 0, 0, 92, [])),
  (92, (1, 0, 0, 0, 0, 0, 93, [])),
  (93, (6, 0, 0, 8, 0, 0, 95, [])),
  (95, (5, 0, 0, 0, 0, 0, 96, [])),
  (96, (70, 0, 0, 12, 49, 993, 99, [])),
  (99, (50, 0, 0, 103, 0, 0, 102, [])),
  (102, (91, 0, 0, 0, 0, 0, 0, [])),
  (103, (3, 0, 0, 1, 0, 0, 104, [])),
  (104, (1, 25, 0, 0, 0, 0, 106, [])),
  (106, (57, 0, 0, 122, 0, 0, 109, [])),
  (109, (5, 0, 0, 0, 0, 0, 110, [])),
  (110, (3, 0, 0, 3, 0, 0, 111, [])),
  (111, (3, 0, 0, 4, 0, 0, 113, [])),
  (113, (1, 1, 0, 0, 0, 0, 114, [])),
  (114, (3, 0, 0, 8, 0, 0, 116, [])),
  (116, (86, 0, 0, 0, 111, 1207, 119, [])),
  (119, (10, 0, 0, 154, 0, 0, 122, [])),
  (122, (5, 0, 0, 0, 0, 0, 123, [])),
  (123, (3, 0, 0, 1, 0, 0, 124, [])),
  (124, (1, 26, 0, 0, 0, 0, 126, [])),
  (126, (57, 0, 0, 139, 0, 0, 129, [])),
  (129, (3, 0, 0, 7, 0, 0, 131, [])),
  (131, (3, 0, 0, 8, 0, 0, 133, [])),
  (133, (59, 0, 0, 150, 0, 0, 136, [])),
  (136, (10, 0, 0, 146, 0, 0, 139, [])),
  (139, (3, 0, 0, 7, 0, 0, 141, [])),
  (141, (3, 0, 0, 8, 0, 0, 143, [])),
  (143, (57, 0, 0, 150, 0, 0, 146, [])),
  (146, (1, 0, 0, 0, 0, 0, 147, [])),
  (147, (10, 0, 0, 151, 0, 0, 150, [])),
  (150, (1, 1, 0, 0, 0, 0, 151, [])),
  (151, (80, 0, 0, 12, 49, 993, 154, [])),
  (154, (91, 0, 0, 0, 0, 0, 0, []))], (1234, 80, 1233, 58, 2, []))
theorem ok_MO_known : gv_ok M_MO_known := gv_ok_of (by decide +kernel)
theorem mk_MO_known : gv_msV M_MO_known = true := by decide +kernel

def M_MO_step : gv_M := (⟨"GoalEngineModel", "step", "()V"⟩, prog_14_method_41_code, 7, none, [(0, (5, 0, 0, 0, 0, 0, 1, [])),
  (1, (40, 0, 0, 0, 0, 0, 2, [])),
  (2, (70, 0, 0, 12, 27, 971, 5, [])),
  (5, (1, 1, 0, 0, 0, 0, 6, [])),
  (6, (21, 0, 0, 0, 0, 0, 7, [])),
  (7, (80, 0, 0, 12, 27, 971, 10, [])),
  (10, (5, 0, 0, 0, 0, 0, 11, [])),
  (11, (1, 0, 0, 0, 0, 0, 12, [])),
  (12, (80, 0, 0, 12, 49, 993, 15, [])),
  (15, (5, 0, 0, 0, 0, 0, 16, [])),
  (16, (70, 0, 0, 12, 16, 960, 19, [])),
  (19, (6, 0, 0, 1, 0, 0, 20, [])),
  (20, (5, 0, 0, 0, 0, 0, 21, [])),
  (21, (70, 0, 0, 12, 17, 961, 24, [])),
  (24, (6, 0, 0, 2, 0, 0, 25, [])),
  (25, (5, 0, 0, 0, 0, 0, 26, [])),
  (26, (3, 0, 0, 1, 0, 0, 27, [])),
  (27, (86, 0, 0, 0, 118, 1163, 30, [])),
  (30, (6, 0, 0, 3, 0, 0, 31, [])),
  (31, (5, 0, 0, 0, 0, 0, 32, [])),
  (32, (3, 0, 0, 1, 0, 0, 33, [])),
  (33, (86, 0, 0, 0, 119, 1167, 36, [])),
  (36, (6, 0, 0, 4, 0, 0, 38, [])),
  (38, (5, 0, 0, 0, 0, 0, 39, [])),
  (39, (5, 0, 0, 0, 0, 0, 40, [])),
  (40, (70, 0, 0, 12, 15, 959, 43, [])),
  (43, (3, 0, 0, 1, 0, 0, 44, [])),
  (44, (72, 0, 0, 0, 0, 0, 45, [])),
  (45, (80, 0, 0, 12, 16, 960, 48, [])),
  (48, (5, 0, 0, 0, 0, 0, 49, [])),
  (49, (1, (-1), 0, 0, 0, 0, 50, [])),
  (50, (80, 0, 0, 12, 17, 961, 53, [])),
  (53, (3, 0, 0, 3, 0, 0, 54, [])),
  (54, (1, 3, 0, 0, 0, 0, 55, [])),
  (55, (57, 0, 0, 85, 0, 0, 58, [])),
  (58, (5, 0, 0, 0, 0, 0, 59, [])),
  (59, (5, 0, 0, 0, 0, 0, 60, [])),
  (60, (70, 0, 0, 12, 10, 954, 63, [])),
  (63, (3, 0, 0, 4, 0, 0, 65, [])),
  (65, (72, 0, 0, 0, 0, 0, 66, [])),
  (66, (86, 0, 0, 0, 94, 1115, 69, [])),
  (69, (1, 2, 0, 0, 0, 0, 70, [])),
  (70, (57, 0, 0, 85, 0, 0, 73, [])),
  (73, (5, 0, 0, 0, 0, 0, 74, [])),
  (74, (70, 0, 0, 12, 10, 954, 77, [])),
  (77, (3, 0, 0, 4, 0, 0, 79, [])),
  (79, (72, 0, 0, 0, 0, 0, 80, [])),
  (80, (1, 3, 0, 0, 0, 0, 81, [])),
  (81, (26, 0, 0, 0, 0, 0, 82, [])),
  (82, (10, 0, 0, 86, 0, 0, 85, [])),
  (85, (1, (-1), 0, 0, 0, 0, 86, [])),
  (86, (6, 0, 0, 5, 0, 0, 88, [])),
  (88, (3, 0, 0, 2, 0, 0, 89, [])),
  (89, (52, 0, 0, 101, 0, 0, 92, [])),
  (92, (5, 0, 0, 0, 0, 0, 93, [])),
  (93, (3, 0, 0, 2, 0, 0, 94, [])),
  (94, (3, 0, 0, 1, 0, 0, 95, [])),
  (95, (86, 0, 0, 0, 128, 1171, 98, [])),
  (98, (10, 0, 0, 204, 0, 0, 101, [])),
  (101, (3, 0, 0, 3, 0, 0, 102, [])),
  (102, (1, 6, 0, 0, 0, 0, 104, [])),
  (104, (57, 0, 0, 143, 0, 0, 107, [])),
  (107, (5, 0, 0, 0, 0, 0, 108, [])),
  (108, (70, 0, 0, 12, 14, 958, 111, [])),
  (111, (3, 0, 0, 1, 0, 0, 112, [])),
  (112, (72, 0, 0, 0, 0, 0, 113, [])),
  (113, (1, 11, 0, 0, 0, 0, 115, [])),
  (115, (26, 0, 0, 0, 0, 0, 116, [])),
  (116, (6, 0, 0, 6, 0, 0, 118, [])),
  (118, (5, 0, 0, 0, 0, 0, 119, [])),
  (119, (5, 0, 0, 0, 0, 0, 120, [])),
  (120, (70, 0, 0, 12, 18, 962, 123, [])),
  (123, (3, 0, 0, 6, 0, 0, 125, [])),
  (125, (61, 0, 0, 133, 0, 0, 128, [])),
  (128, (3, 0, 0, 6, 0, 0, 130, [])),
  (130, (10, 0, 0, 137, 0, 0, 133, [])),
  (133, (5, 0, 0, 0, 0, 0, 134, [])),
  (134, (70, 0, 0, 12, 18, 962, 137, [])),
  (137, (80, 0, 0, 12, 18, 962, 140, [])),
  (140, (10, 0, 0, 204, 0, 0, 143, [])),
  (143, (3, 0, 0, 5, 0, 0, 145, [])),
  (145, (1, 23, 0, 0, 0, 0, 147, [])),
  (147, (61, 0, 0, 168, 0, 0, 150, [])),
  (150, (3, 0, 0, 5, 0, 0, 152, [])),
  (152, (1, 28, 0, 0, 0, 0, 154, [])),
  (154, (59, 0, 0, 168, 0, 0, 157, [])),
  (157, (5, 0, 0, 0, 0, 0, 158, [])),
  (158, (3, 0, 0, 5, 0, 0, 160, [])),
  (160, (3, 0, 0, 4, 0, 0, 162, [])),
  (162, (86, 0, 0, 0, 131, 1231, 165, [])),
  (165, (10, 0, 0, 204, 0, 0, 168, [])),
  (168, (5, 0, 0, 0, 0, 0, 169, [])),
  (169, (5, 0, 0, 0, 0, 0, 170, [])),
  (170, (3, 0, 0, 3, 0, 0, 171, [])),
  (171, (3, 0, 0, 4, 0, 0, 173, [])),
  (173, (86, 0, 0, 0, 126, 1175, 176, [])),
  (176, (1, 0, 0, 0, 0, 0, 177, [])),
  (177, (86, 0, 0, 0, 127, 1179, 180, [])),
  (180, (6, 0, 0, 2, 0, 0, 181, [])),
  (181, (5, 0, 0, 0, 0, 0, 182, [])),
  (182, (3, 0, 0, 2, 0, 0, 183, [])),
  (183, (53, 0, 0, 190, 0, 0, 186, [])),
  (186, (1, 1, 0, 0, 0, 0, 187, [])),
  (187, (10, 0, 0, 191, 0, 0, 190, [])),
  (190, (1, 0, 0, 0, 0, 0, 191, [])),
  (191, (80, 0, 0, 12, 49, 993, 194, [])),
  (194, (3, 0, 0, 2, 0, 0, 195, [])),
  (195, (52, 0, 0, 204, 0, 0, 198, [])),
  (198, (5, 0, 0, 0, 0, 0, 199, [])),
  (199, (3, 0, 0, 2, 0, 0, 200, [])),
  (200, (3, 0, 0, 1, 0, 0, 201, [])),
  (201, (86, 0, 0, 0, 128, 1171, 204, [])),
  (204, (5, 0, 0, 0, 0, 0, 205, [])),
  (205, (70, 0, 0, 12, 49, 993, 208, [])),
  (208, (1, 1, 0, 0, 0, 0, 209, [])),
  (209, (57, 0, 0, 219, 0, 0, 212, [])),
  (212, (5, 0, 0, 0, 0, 0, 213, [])),
  (213, (86, 0, 0, 0, 125, 1255, 216, [])),
  (216, (10, 0, 0, 260, 0, 0, 219, [])),
  (219, (5, 0, 0, 0, 0, 0, 220, [])),
  (220, (70, 0, 0, 12, 49, 993, 223, [])),
  (223, (1, 1, 0, 0, 0, 0, 224, [])),
  (224, (61, 0, 0, 244, 0, 0, 227, [])),
  (227, (5, 0, 0, 0, 0, 0, 228, [])),
  (228, (5, 0, 0, 0, 0, 0, 229, [])),
  (229, (70, 0, 0, 12, 49, 993, 232, [])),
  (232, (1, 1, 0, 0, 0, 0, 233, [])),
  (233, (20, 0, 0, 0, 0, 0, 234, [])),
  (234, (80, 0, 0, 12, 0, 944, 237, [])),
  (237, (5, 0, 0, 0, 0, 0, 238, [])),
  (238, (86, 0, 0, 0, 122, 1123, 241, [])),
  (241, (10, 0, 0, 260, 0, 0, 244, [])),
  (244, (5, 0, 0, 0, 0, 0, 245, [])),
  (245, (5, 0, 0, 0, 0, 0, 246, [])),
  (246, (70, 0, 0, 12, 16, 960, 249, [])),
  (249, (53, 0, 0, 256, 0, 0, 252, [])),
  (252, (1, 1, 0, 0, 0, 0, 253, [])),
  (253, (10, 0, 0, 257, 0, 0, 256, [])),
  (256, (1, 0, 0, 0, 0, 0, 257, [])),
  (257, (80, 0, 0, 12, 26, 970, 260, [])),
  (260, (91, 0, 0, 0, 0, 0, 0, []))], (1162, 80, 1161, 40, 0, []))
theorem ok_MO_step : gv_ok M_MO_step := gv_ok_of (by decide +kernel)
theorem mk_MO_step : gv_msV M_MO_step = true := by decide +kernel

def M_MO_solve : gv_M := (⟨"GoalEngineModel", "solve", "(I)I"⟩, prog_14_method_42_code, 3, some .int, [(0, (5, 0, 0, 0, 0, 0, 1, [])),
  (1, (3, 0, 0, 1, 0, 0, 2, [])),
  (2, (1, 1, 0, 0, 0, 0, 3, [])),
  (3, (58, 0, 0, 12, 0, 0, 6, [])),
  (6, (3, 0, 0, 1, 0, 0, 7, [])),
  (7, (1, 20, 0, 0, 0, 0, 9, [])),
  (9, (61, 0, 0, 16, 0, 0, 12, [])),
  (12, (1, 1, 0, 0, 0, 0, 13, [])),
  (13, (10, 0, 0, 35, 0, 0, 16, [])),
  (16, (5, 0, 0, 0, 0, 0, 17, [])),
  (17, (70, 0, 0, 12, 25, 969, 20, [])),
  (20, (50, 0, 0, 30, 0, 0, 23, [])),
  (23, (5, 0, 0, 0, 0, 0, 24, [])),
  (24, (70, 0, 0, 12, 26, 970, 27, [])),
  (27, (50, 0, 0, 34, 0, 0, 30, [])),
  (30, (1, 2, 0, 0, 0, 0, 31, [])),
  (31, (10, 0, 0, 35, 0, 0, 34, [])),
  (34, (1, 0, 0, 0, 0, 0, 35, [])),
  (35, (80, 0, 0, 12, 0, 944, 38, [])),
  (38, (1, 0, 0, 0, 0, 0, 39, [])),
  (39, (6, 0, 0, 2, 0, 0, 40, [])),
  (40, (3, 0, 0, 2, 0, 0, 41, [])),
  (41, (3, 0, 0, 1, 0, 0, 42, [])),
  (42, (59, 0, 0, 83, 0, 0, 45, [])),
  (45, (5, 0, 0, 0, 0, 0, 46, [])),
  (46, (70, 0, 0, 12, 0, 944, 49, [])),
  (49, (51, 0, 0, 83, 0, 0, 52, [])),
  (52, (5, 0, 0, 0, 0, 0, 53, [])),
  (53, (70, 0, 0, 12, 25, 969, 56, [])),
  (56, (50, 0, 0, 83, 0, 0, 59, [])),
  (59, (5, 0, 0, 0, 0, 0, 60, [])),
  (60, (70, 0, 0, 12, 26, 970, 63, [])),
  (63, (51, 0, 0, 83, 0, 0, 66, [])),
  (66, (5, 0, 0, 0, 0, 0, 67, [])),
  (67, (70, 0, 0, 12, 27, 971, 70, [])),
  (70, (55, 0, 0, 83, 0, 0, 73, [])),
  (73, (5, 0, 0, 0, 0, 0, 74, [])),
  (74, (86, 0, 0, 0, 132, 1159, 77, [])),
  (77, (9, 1, 0, 2, 0, 0, 80, [])),
  (80, (10, 0, 0, 40, 0, 0, 83, [])),
  (83, (5, 0, 0, 0, 0, 0, 84, [])),
  (84, (70, 0, 0, 12, 0, 944, 87, [])),
  (87, (50, 0, 0, 94, 0, 0, 90, [])),
  (90, (1, 0, 0, 0, 0, 0, 91, [])),
  (91, (10, 0, 0, 117, 0, 0, 94, [])),
  (94, (5, 0, 0, 0, 0, 0, 95, [])),
  (95, (70, 0, 0, 12, 25, 969, 98, [])),
  (98, (51, 0, 0, 105, 0, 0, 101, [])),
  (101, (1, 0, 0, 0, 0, 0, 102, [])),
  (102, (10, 0, 0, 117, 0, 0, 105, [])),
  (105, (5, 0, 0, 0, 0, 0, 106, [])),
  (106, (70, 0, 0, 12, 26, 970, 109, [])),
  (109, (50, 0, 0, 116, 0, 0, 112, [])),
  (112, (1, 1, 0, 0, 0, 0, 113, [])),
  (113, (10, 0, 0, 117, 0, 0, 116, [])),
  (116, (1, 2, 0, 0, 0, 0, 117, [])),
  (117, (90, 0, 0, 0, 0, 0, 0, []))], (1158, 80, 1156, 1157, 1, []))
theorem ok_MO_solve : gv_ok M_MO_solve := gv_ok_of (by decide +kernel)
theorem mk_MO_solve : gv_msV M_MO_solve = true := by decide +kernel

def M_MO_next : gv_M := (⟨"GoalEngineModel", "next", "()Z"⟩, prog_14_method_43_code, 1, some .boolean, [(0, (5, 0, 0, 0, 0, 0, 1, [])),
  (1, (5, 0, 0, 0, 0, 0, 2, [])),
  (2, (70, 0, 0, 12, 26, 970, 5, [])),
  (5, (50, 0, 0, 12, 0, 0, 8, [])),
  (8, (1, 0, 0, 0, 0, 0, 9, [])),
  (9, (10, 0, 0, 13, 0, 0, 12, [])),
  (12, (1, 1, 0, 0, 0, 0, 13, [])),
  (13, (80, 0, 0, 12, 0, 944, 16, [])),
  (16, (5, 0, 0, 0, 0, 0, 17, [])),
  (17, (70, 0, 0, 12, 0, 944, 20, [])),
  (20, (50, 0, 0, 25, 0, 0, 23, [])),
  (23, (1, 0, 0, 0, 0, 0, 24, [])),
  (24, (90, 0, 0, 0, 0, 0, 0, [])),
  (25, (5, 0, 0, 0, 0, 0, 26, [])),
  (26, (1, 0, 0, 0, 0, 0, 27, [])),
  (27, (80, 0, 0, 12, 26, 970, 30, [])),
  (30, (5, 0, 0, 0, 0, 0, 31, [])),
  (31, (86, 0, 0, 0, 125, 1255, 34, [])),
  (34, (5, 0, 0, 0, 0, 0, 35, [])),
  (35, (70, 0, 0, 12, 25, 969, 38, [])),
  (38, (90, 0, 0, 0, 0, 0, 0, []))], (1262, 80, 1260, 1261, 0, []))
theorem ok_MO_next : gv_ok M_MO_next := gv_ok_of (by decide +kernel)
theorem mk_MO_next : gv_msV M_MO_next = true := by decide +kernel

def M_MO_stop : gv_M := (⟨"GoalEngineModel", "stop", "()V"⟩, prog_14_method_44_code, 1, none, [(0, (5, 0, 0, 0, 0, 0, 1, [])),
  (1, (1, 0, 0, 0, 0, 0, 2, [])),
  (2, (80, 0, 0, 12, 0, 944, 5, [])),
  (5, (5, 0, 0, 0, 0, 0, 6, [])),
  (6, (70, 0, 0, 12, 25, 969, 9, [])),
  (9, (50, 0, 0, 16, 0, 0, 12, [])),
  (12, (5, 0, 0, 0, 0, 0, 13, [])),
  (13, (86, 0, 0, 0, 122, 1123, 16, [])),
  (16, (91, 0, 0, 0, 0, 0, 0, []))], (1266, 80, 1264, 1265, 0, []))
theorem ok_MO_stop : gv_ok M_MO_stop := gv_ok_of (by decide +kernel)
theorem mk_MO_stop : gv_msV M_MO_stop = true := by decide +kernel

def M_MO_collect : gv_M := (⟨"GoalEngineModel", "collect", "()I"⟩, prog_14_method_45_code, 1, some .int, [(0, (5, 0, 0, 0, 0, 0, 1, [])),
  (1, (1, 0, 0, 0, 0, 0, 2, [])),
  (2, (80, 0, 0, 12, 0, 944, 5, [])),
  (5, (5, 0, 0, 0, 0, 0, 6, [])),
  (6, (70, 0, 0, 12, 25, 969, 9, [])),
  (9, (50, 0, 0, 21, 0, 0, 12, [])),
  (12, (5, 0, 0, 0, 0, 0, 13, [])),
  (13, (1, (-1), 0, 0, 0, 0, 14, [])),
  (14, (1, 0, 0, 0, 0, 0, 15, [])),
  (15, (86, 0, 0, 0, 121, 1187, 18, [])),
  (18, (10, 0, 0, 22, 0, 0, 21, [])),
  (21, (1, 0, 0, 0, 0, 0, 22, [])),
  (22, (90, 0, 0, 0, 0, 0, 0, []))], (1270, 80, 1268, 1269, 0, []))
theorem ok_MO_collect : gv_ok M_MO_collect := gv_ok_of (by decide +kernel)
theorem mk_MO_collect : gv_msV M_MO_collect = true := by decide +kernel

def M_MO_count : gv_M := (⟨"GoalEngineModel", "count", "(I)I"⟩, prog_14_method_46_code, 4, some .int, [(0, (5, 0, 0, 0, 0, 0, 1, [])),
  (1, (3, 0, 0, 1, 0, 0, 2, [])),
  (2, (52, 0, 0, 11, 0, 0, 5, [])),
  (5, (3, 0, 0, 1, 0, 0, 6, [])),
  (6, (1, 6, 0, 0, 0, 0, 8, [])),
  (8, (61, 0, 0, 15, 0, 0, 11, [])),
  (11, (1, 1, 0, 0, 0, 0, 12, [])),
  (12, (10, 0, 0, 16, 0, 0, 15, [])),
  (15, (1, 0, 0, 0, 0, 0, 16, [])),
  (16, (80, 0, 0, 12, 0, 944, 19, [])),
  (19, (1, 0, 0, 0, 0, 0, 20, [])),
  (20, (6, 0, 0, 2, 0, 0, 21, [])),
  (21, (5, 0, 0, 0, 0, 0, 22, [])),
  (22, (70, 0, 0, 12, 16, 960, 25, [])),
  (25, (6, 0, 0, 3, 0, 0, 26, [])),
  (26, (3, 0, 0, 3, 0, 0, 27, [])),
  (27, (52, 0, 0, 48, 0, 0, 30, [])),
  (30, (3, 0, 0, 1, 0, 0, 31, [])),
  (31, (1, 2, 0, 0, 0, 0, 32, [])),
  (32, (57, 0, 0, 48, 0, 0, 35, [])),
  (35, (9, 1, 0, 2, 0, 0, 38, [])),
  (38, (5, 0, 0, 0, 0, 0, 39, [])),
  (39, (70, 0, 0, 12, 15, 959, 42, [])),
  (42, (3, 0, 0, 3, 0, 0, 43, [])),
  (43, (72, 0, 0, 0, 0, 0, 44, [])),
  (44, (6, 0, 0, 3, 0, 0, 45, [])),
  (45, (10, 0, 0, 26, 0, 0, 48, [])),
  (48, (5, 0, 0, 0, 0, 0, 49, [])),
  (49, (70, 0, 0, 12, 0, 944, 52, [])),
  (52, (50, 0, 0, 59, 0, 0, 55, [])),
  (55, (1, 0, 0, 0, 0, 0, 56, [])),
  (56, (10, 0, 0, 131, 0, 0, 59, [])),
  (59, (3, 0, 0, 1, 0, 0, 60, [])),
  (60, (51, 0, 0, 70, 0, 0, 63, [])),
  (63, (5, 0, 0, 0, 0, 0, 64, [])),
  (64, (86, 0, 0, 0, 99, 1151, 67, [])),
  (67, (10, 0, 0, 131, 0, 0, 70, [])),
  (70, (3, 0, 0, 1, 0, 0, 71, [])),
  (71, (1, 1, 0, 0, 0, 0, 72, [])),
  (72, (57, 0, 0, 82, 0, 0, 75, [])),
  (75, (5, 0, 0, 0, 0, 0, 76, [])),
  (76, (70, 0, 0, 12, 18, 962, 79, [])),
  (79, (10, 0, 0, 131, 0, 0, 82, [])),
  (82, (3, 0, 0, 1, 0, 0, 83, [])),
  (83, (1, 2, 0, 0, 0, 0, 84, [])),
  (84, (57, 0, 0, 91, 0, 0, 87, [])),
  (87, (3, 0, 0, 2, 0, 0, 88, [])),
  (88, (10, 0, 0, 131, 0, 0, 91, [])),
  (91, (3, 0, 0, 1, 0, 0, 92, [])),
  (92, (1, 3, 0, 0, 0, 0, 93, [])),
  (93, (57, 0, 0, 103, 0, 0, 96, [])),
  (96, (5, 0, 0, 0, 0, 0, 97, [])),
  (97, (70, 0, 0, 12, 27, 971, 100, [])),
  (100, (10, 0, 0, 131, 0, 0, 103, [])),
  (103, (3, 0, 0, 1, 0, 0, 104, [])),
  (104, (1, 4, 0, 0, 0, 0, 105, [])),
  (105, (57, 0, 0, 115, 0, 0, 108, [])),
  (108, (5, 0, 0, 0, 0, 0, 109, [])),
  (109, (70, 0, 0, 12, 3, 947, 112, [])),
  (112, (10, 0, 0, 131, 0, 0, 115, [])),
  (115, (3, 0, 0, 1, 0, 0, 116, [])),
  (116, (1, 5, 0, 0, 0, 0, 117, [])),
  (117, (57, 0, 0, 127, 0, 0, 120, [])),
  (120, (5, 0, 0, 0, 0, 0, 121, [])),
  (121, (70, 0, 0, 12, 1, 945, 124, [])),
  (124, (10, 0, 0, 131, 0, 0, 127, [])),
  (127, (5, 0, 0, 0, 0, 0, 128, [])),
  (128, (70, 0, 0, 12, 28, 972, 131, [])),
  (131, (90, 0, 0, 0, 0, 0, 0, []))], (1274, 80, 1272, 1273, 1, []))
theorem ok_MO_count : gv_ok M_MO_count := gv_ok_of (by decide +kernel)
theorem mk_MO_count : gv_msV M_MO_count = true := by decide +kernel

def M_MO_sayTerm : gv_M := (⟨"GoalEngineModel", "sayTerm", "()V"⟩, prog_14_method_47_code, 1, none, [(0, (5, 0, 0, 0, 0, 0, 1, [])),
  (1, (70, 0, 0, 12, 30, 974, 4, [])),
  (4, (55, 0, 0, 203, 0, 0, 7, [])),
  (7, (5, 0, 0, 0, 0, 0, 8, [])),
  (8, (70, 0, 0, 12, 38, 982, 11, [])),
  (11, (1, 90, 0, 0, 0, 0, 13, [])),
  (13, (59, 0, 0, 203, 0, 0, 16, [])),
  (16, (5, 0, 0, 0, 0, 0, 17, [])),
  (17, (40, 0, 0, 0, 0, 0, 18, [])),
  (18, (70, 0, 0, 12, 30, 974, 21, [])),
  (21, (1, 1, 0, 0, 0, 0, 22, [])),
  (22, (21, 0, 0, 0, 0, 0, 23, [])),
  (23, (80, 0, 0, 12, 30, 974, 26, [])),
  (26, (5, 0, 0, 0, 0, 0, 27, [])),
  (27, (5, 0, 0, 0, 0, 0, 28, [])),
  (28, (70, 0, 0, 12, 31, 975, 31, [])),
  (31, (5, 0, 0, 0, 0, 0, 32, [])),
  (32, (70, 0, 0, 12, 30, 974, 35, [])),
  (35, (72, 0, 0, 0, 0, 0, 36, [])),
  (36, (5, 0, 0, 0, 0, 0, 37, [])),
  (37, (70, 0, 0, 12, 32, 976, 40, [])),
  (40, (5, 0, 0, 0, 0, 0, 41, [])),
  (41, (70, 0, 0, 12, 30, 974, 44, [])),
  (44, (72, 0, 0, 0, 0, 0, 45, [])),
  (45, (86, 0, 0, 0, 106, 1211, 48, [])),
  (48, (5, 0, 0, 0, 0, 0, 49, [])),
  (49, (70, 0, 0, 12, 40, 984, 52, [])),
  (52, (51, 0, 0, 116, 0, 0, 55, [])),
  (55, (5, 0, 0, 0, 0, 0, 56, [])),
  (56, (70, 0, 0, 12, 33, 977, 59, [])),
  (59, (5, 0, 0, 0, 0, 0, 60, [])),
  (60, (70, 0, 0, 12, 41, 985, 63, [])),
  (63, (72, 0, 0, 0, 0, 0, 64, [])),
  (64, (51, 0, 0, 90, 0, 0, 67, [])),
  (67, (5, 0, 0, 0, 0, 0, 68, [])),
  (68, (70, 0, 0, 12, 33, 977, 71, [])),
  (71, (5, 0, 0, 0, 0, 0, 72, [])),
  (72, (70, 0, 0, 12, 41, 985, 75, [])),
  (75, (5, 0, 0, 0, 0, 0, 76, [])),
  (76, (70, 0, 0, 12, 34, 978, 79, [])),
  (79, (76, 0, 0, 0, 0, 0, 80, [])),
  (80, (5, 0, 0, 0, 0, 0, 81, [])),
  (81, (40, 0, 0, 0, 0, 0, 82, [])),
  (82, (70, 0, 0, 12, 34, 978, 85, [])),
  (85, (1, 1, 0, 0, 0, 0, 86, [])),
  (86, (20, 0, 0, 0, 0, 0, 87, [])),
  (87, (80, 0, 0, 12, 34, 978, 90, [])),
  (90, (5, 0, 0, 0, 0, 0, 91, [])),
  (91, (70, 0, 0, 12, 39, 983, 94, [])),
  (94, (5, 0, 0, 0, 0, 0, 95, [])),
  (95, (70, 0, 0, 12, 38, 982, 98, [])),
  (98, (1, 8, 0, 0, 0, 0, 100, [])),
  (100, (5, 0, 0, 0, 0, 0, 101, [])),
  (101, (70, 0, 0, 12, 33, 977, 104, [])),
  (104, (5, 0, 0, 0, 0, 0, 105, [])),
  (105, (70, 0, 0, 12, 41, 985, 108, [])),
  (108, (72, 0, 0, 0, 0, 0, 109, [])),
  (109, (1, 1, 0, 0, 0, 0, 110, [])),
  (110, (21, 0, 0, 0, 0, 0, 111, [])),
  (111, (22, 0, 0, 0, 0, 0, 112, [])),
  (112, (76, 0, 0, 0, 0, 0, 113, [])),
  (113, (10, 0, 0, 190, 0, 0, 116, [])),
  (116, (5, 0, 0, 0, 0, 0, 117, [])),
  (117, (70, 0, 0, 12, 39, 983, 120, [])),
  (120, (5, 0, 0, 0, 0, 0, 121, [])),
  (121, (70, 0, 0, 12, 38, 982, 124, [])),
  (124, (5, 0, 0, 0, 0, 0, 125, [])),
  (125, (70, 0, 0, 12, 40, 984, 128, [])),
  (128, (1, 3, 0, 0, 0, 0, 129, [])),
  (129, (57, 0, 0, 144, 0, 0, 132, [])),
  (132, (5, 0, 0, 0, 0, 0, 133, [])),
  (133, (70, 0, 0, 12, 10, 954, 136, [])),
  (136, (5, 0, 0, 0, 0, 0, 137, [])),
  (137, (70, 0, 0, 12, 41, 985, 140, [])),
  (140, (72, 0, 0, 0, 0, 0, 141, [])),
  (141, (10, 0, 0, 173, 0, 0, 144, [])),
  (144, (5, 0, 0, 0, 0, 0, 145, [])),
  (145, (70, 0, 0, 12, 40, 984, 148, [])),
  (148, (1, 1, 0, 0, 0, 0, 149, [])),
  (149, (57, 0, 0, 164, 0, 0, 152, [])),
  (152, (1, 8, 0, 0, 0, 0, 154, [])),
  (154, (5, 0, 0, 0, 0, 0, 155, [])),
  (155, (70, 0, 0, 12, 41, 985, 158, [])),
  (158, (22, 0, 0, 0, 0, 0, 159, [])),
  (159, (1, 1, 0, 0, 0, 0, 160, [])),
  (160, (20, 0, 0, 0, 0, 0, 161, [])),
  (161, (10, 0, 0, 173, 0, 0, 164, [])),
  (164, (1, 8, 0, 0, 0, 0, 166, [])),
  (166, (5, 0, 0, 0, 0, 0, 167, [])),
  (167, (70, 0, 0, 12, 41, 985, 170, [])),
  (170, (22, 0, 0, 0, 0, 0, 171, [])),
  (171, (1, 2, 0, 0, 0, 0, 172, [])),
  (172, (20, 0, 0, 0, 0, 0, 173, [])),
  (173, (76, 0, 0, 0, 0, 0, 174, [])),
  (174, (5, 0, 0, 0, 0, 0, 175, [])),
  (175, (70, 0, 0, 12, 40, 984, 178, [])),
  (178, (1, 3, 0, 0, 0, 0, 179, [])),
  (179, (57, 0, 0, 190, 0, 0, 182, [])),
  (182, (5, 0, 0, 0, 0, 0, 183, [])),
  (183, (5, 0, 0, 0, 0, 0, 184, [])),
  (184, (70, 0, 0, 12, 41, 985, 187, [])),
  (187, (86, 0, 0, 0, 108, 1199, 190, [])),
  (190, (5, 0, 0, 0, 0, 0, 191, [])),
  (191, (40, 0, 0, 0, 0, 0, 192, [])),
  (192, (70, 0, 0, 12, 38, 982, 195, [])),
  (195, (1, 1, 0, 0, 0, 0, 196, [])),
  (196, (20, 0, 0, 0, 0, 0, 197, [])),
  (197, (80, 0, 0, 12, 38, 982, 200, [])),
  (200, (10, 0, 0, 0, 0, 0, 203, [])),
  (203, (91, 0, 0, 0, 0, 0, 0, []))], (1286, 80, 1285, 66, 0, []))
theorem ok_MO_sayTerm : gv_ok M_MO_sayTerm := gv_ok_of (by decide +kernel)
theorem mk_MO_sayTerm : gv_msV M_MO_sayTerm = true := by decide +kernel

def M_MO_findAnswer : gv_M := (⟨"GoalEngineModel", "findAnswer", "()V"⟩, prog_14_method_48_code, 3, none, [(0, (5, 0, 0, 0, 0, 0, 1, [])),
  (1, (1, 0, 0, 0, 0, 0, 2, [])),
  (2, (80, 0, 0, 12, 38, 982, 5, [])),
  (5, (5, 0, 0, 0, 0, 0, 6, [])),
  (6, (70, 0, 0, 12, 34, 978, 9, [])),
  (9, (6, 0, 0, 1, 0, 0, 10, [])),
  (10, (1, 0, 0, 0, 0, 0, 11, [])),
  (11, (6, 0, 0, 2, 0, 0, 12, [])),
  (12, (3, 0, 0, 2, 0, 0, 13, [])),
  (13, (1, 240, 0, 0, 0, 0, 16, [])),
  (16, (59, 0, 0, 32, 0, 0, 19, [])),
  (19, (5, 0, 0, 0, 0, 0, 20, [])),
  (20, (70, 0, 0, 12, 33, 977, 23, [])),
  (23, (3, 0, 0, 2, 0, 0, 24, [])),
  (24, (1, 0, 0, 0, 0, 0, 25, [])),
  (25, (76, 0, 0, 0, 0, 0, 26, [])),
  (26, (9, 1, 0, 2, 0, 0, 29, [])),
  (29, (10, 0, 0, 12, 0, 0, 32, [])),
  (32, (5, 0, 0, 0, 0, 0, 33, [])),
  (33, (1, 1, 0, 0, 0, 0, 34, [])),
  (34, (80, 0, 0, 12, 34, 978, 37, [])),
  (37, (1, 0, 0, 0, 0, 0, 38, [])),
  (38, (6, 0, 0, 2, 0, 0, 39, [])),
  (39, (3, 0, 0, 2, 0, 0, 40, [])),
  (40, (1, 8, 0, 0, 0, 0, 42, [])),
  (42, (59, 0, 0, 87, 0, 0, 45, [])),
  (45, (5, 0, 0, 0, 0, 0, 46, [])),
  (46, (70, 0, 0, 12, 26, 970, 49, [])),
  (49, (50, 0, 0, 87, 0, 0, 52, [])),
  (52, (5, 0, 0, 0, 0, 0, 53, [])),
  (53, (1, 0, 0, 0, 0, 0, 54, [])),
  (54, (80, 0, 0, 12, 30, 974, 57, [])),
  (57, (5, 0, 0, 0, 0, 0, 58, [])),
  (58, (70, 0, 0, 12, 29, 973, 61, [])),
  (61, (3, 0, 0, 2, 0, 0, 62, [])),
  (62, (72, 0, 0, 0, 0, 0, 63, [])),
  (63, (52, 0, 0, 81, 0, 0, 66, [])),
  (66, (5, 0, 0, 0, 0, 0, 67, [])),
  (67, (1, 0, 0, 0, 0, 0, 68, [])),
  (68, (5, 0, 0, 0, 0, 0, 69, [])),
  (69, (70, 0, 0, 12, 29, 973, 72, [])),
  (72, (3, 0, 0, 2, 0, 0, 73, [])),
  (73, (72, 0, 0, 0, 0, 0, 74, [])),
  (74, (86, 0, 0, 0, 107, 1195, 77, [])),
  (77, (5, 0, 0, 0, 0, 0, 78, [])),
  (78, (86, 0, 0, 0, 138, 1283, 81, [])),
  (81, (9, 1, 0, 2, 0, 0, 84, [])),
  (84, (10, 0, 0, 39, 0, 0, 87, [])),
  (87, (1, 0, 0, 0, 0, 0, 88, [])),
  (88, (6, 0, 0, 2, 0, 0, 89, [])),
  (89, (3, 0, 0, 2, 0, 0, 90, [])),
  (90, (1, 240, 0, 0, 0, 0, 93, [])),
  (93, (59, 0, 0, 109, 0, 0, 96, [])),
  (96, (5, 0, 0, 0, 0, 0, 97, [])),
  (97, (70, 0, 0, 12, 33, 977, 100, [])),
  (100, (3, 0, 0, 2, 0, 0, 101, [])),
  (101, (1, 0, 0, 0, 0, 0, 102, [])),
  (102, (76, 0, 0, 0, 0, 0, 103, [])),
  (103, (9, 1, 0, 2, 0, 0, 106, [])),
  (106, (10, 0, 0, 89, 0, 0, 109, [])),
  (109, (5, 0, 0, 0, 0, 0, 110, [])),
  (110, (3, 0, 0, 1, 0, 0, 111, [])),
  (111, (80, 0, 0, 12, 34, 978, 114, [])),
  (114, (91, 0, 0, 0, 0, 0, 0, []))], (1282, 80, 1281, 65, 0, []))
theorem ok_MO_findAnswer : gv_ok M_MO_findAnswer := gv_ok_of (by decide +kernel)
theorem mk_MO_findAnswer : gv_msV M_MO_findAnswer = true := by decide +kernel

def M_MO_words : gv_M := (⟨"GoalEngineModel", "words", "()I"⟩, prog_14_method_49_code, 1, some .int, [(0, (5, 0, 0, 0, 0, 0, 1, [])),
  (1, (1, 0, 0, 0, 0, 0, 2, [])),
  (2, (80, 0, 0, 12, 0, 944, 5, [])),
  (5, (5, 0, 0, 0, 0, 0, 6, [])),
  (6, (86, 0, 0, 0, 139, 1279, 9, [])),
  (9, (5, 0, 0, 0, 0, 0, 10, [])),
  (10, (70, 0, 0, 12, 38, 982, 13, [])),
  (13, (90, 0, 0, 0, 0, 0, 0, []))], (1278, 80, 1276, 1277, 0, []))
theorem ok_MO_words : gv_ok M_MO_words := gv_ok_of (by decide +kernel)
theorem mk_MO_words : gv_msV M_MO_words = true := by decide +kernel

def M_MO_word : gv_M := (⟨"GoalEngineModel", "word", "(I)I"⟩, prog_14_method_50_code, 2, some .int, [(0, (5, 0, 0, 0, 0, 0, 1, [])),
  (1, (86, 0, 0, 0, 139, 1279, 4, [])),
  (4, (5, 0, 0, 0, 0, 0, 5, [])),
  (5, (3, 0, 0, 1, 0, 0, 6, [])),
  (6, (52, 0, 0, 17, 0, 0, 9, [])),
  (9, (3, 0, 0, 1, 0, 0, 10, [])),
  (10, (5, 0, 0, 0, 0, 0, 11, [])),
  (11, (70, 0, 0, 12, 38, 982, 14, [])),
  (14, (58, 0, 0, 21, 0, 0, 17, [])),
  (17, (1, 1, 0, 0, 0, 0, 18, [])),
  (18, (10, 0, 0, 22, 0, 0, 21, [])),
  (21, (1, 0, 0, 0, 0, 0, 22, [])),
  (22, (80, 0, 0, 12, 0, 944, 25, [])),
  (25, (5, 0, 0, 0, 0, 0, 26, [])),
  (26, (70, 0, 0, 12, 0, 944, 29, [])),
  (29, (51, 0, 0, 41, 0, 0, 32, [])),
  (32, (5, 0, 0, 0, 0, 0, 33, [])),
  (33, (70, 0, 0, 12, 39, 983, 36, [])),
  (36, (3, 0, 0, 1, 0, 0, 37, [])),
  (37, (72, 0, 0, 0, 0, 0, 38, [])),
  (38, (10, 0, 0, 42, 0, 0, 41, [])),
  (41, (1, 0, 0, 0, 0, 0, 42, [])),
  (42, (90, 0, 0, 0, 0, 0, 0, []))], (1290, 80, 1288, 1289, 1, []))
theorem ok_MO_word : gv_ok M_MO_word := gv_ok_of (by decide +kernel)
theorem mk_MO_word : gv_msV M_MO_word = true := by decide +kernel
end
section
/-! code tables (written by wip/tools) -/
def M_LA_put : gv_M := (⟨"GoalEngineLaw", "put", "(LGoalEngine;I[J)I"⟩, method_3_code, 4, some .int, [(0, (5, 0, 0, 2, 0, 0, 1, [])),
  (1, (1, 0, 0, 0, 0, 0, 2, [])),
  (2, (5, 0, 0, 0, 0, 0, 3, [])),
  (3, (3, 0, 0, 1, 0, 0, 4, [])),
  (4, (86, 0, 0, 0, 1, 542, 7, [])),
  (7, (30, 0, 0, 0, 0, 0, 8, [])),
  (8, (78, 0, 0, 0, 0, 0, 9, [])),
  (9, (10, 0, 0, 18, 0, 0, 12, [])),
  (12, (8, 0, 0, 3, 0, 0, 13, [])),
  (13, (1, 1, 0, 0, 0, 0, 14, [])),
  (14, (90, 0, 0, 0, 0, 0, 0, [])),
  (15, (8, 0, 0, 3, 0, 0, 16, [])),
  (16, (1, 2, 0, 0, 0, 0, 17, [])),
  (17, (90, 0, 0, 0, 0, 0, 0, [])),
  (18, (1, 0, 0, 0, 0, 0, 19, [])),
  (19, (90, 0, 0, 0, 0, 0, 0, []))], (539, 67, 538, 0, 3, [(0, 9, 12, 13), (0, 9, 15, 15)]))
theorem ok_LA_put : gv_ok M_LA_put := gv_ok_of (by decide +kernel)
theorem mk_LA_put : gv_msS M_LA_put = true := by decide +kernel

def M_LA_rule : gv_M := (⟨"GoalEngineLaw", "rule", "(LGoalEngine;[J)I"⟩, method_4_code, 3, some .int, [(0, (5, 0, 0, 1, 0, 0, 1, [])),
  (1, (1, 0, 0, 0, 0, 0, 2, [])),
  (2, (5, 0, 0, 0, 0, 0, 3, [])),
  (3, (86, 0, 0, 0, 2, 632, 6, [])),
  (6, (30, 0, 0, 0, 0, 0, 7, [])),
  (7, (78, 0, 0, 0, 0, 0, 8, [])),
  (8, (10, 0, 0, 17, 0, 0, 11, [])),
  (11, (8, 0, 0, 2, 0, 0, 12, [])),
  (12, (1, 1, 0, 0, 0, 0, 13, [])),
  (13, (90, 0, 0, 0, 0, 0, 0, [])),
  (14, (8, 0, 0, 2, 0, 0, 15, [])),
  (15, (1, 2, 0, 0, 0, 0, 16, [])),
  (16, (90, 0, 0, 0, 0, 0, 0, [])),
  (17, (1, 0, 0, 0, 0, 0, 18, [])),
  (18, (90, 0, 0, 0, 0, 0, 0, []))], (631, 67, 630, 0, 2, [(0, 8, 11, 15), (0, 8, 14, 13)]))
theorem ok_LA_rule : gv_ok M_LA_rule := gv_ok_of (by decide +kernel)
theorem mk_LA_rule : gv_msS M_LA_rule = true := by decide +kernel

def M_LA_ask : gv_M := (⟨"GoalEngineLaw", "ask", "(LGoalEngine;[J)I"⟩, method_5_code, 3, some .int, [(0, (5, 0, 0, 1, 0, 0, 1, [])),
  (1, (1, 0, 0, 0, 0, 0, 2, [])),
  (2, (5, 0, 0, 0, 0, 0, 3, [])),
  (3, (86, 0, 0, 0, 3, 661, 6, [])),
  (6, (30, 0, 0, 0, 0, 0, 7, [])),
  (7, (78, 0, 0, 0, 0, 0, 8, [])),
  (8, (10, 0, 0, 14, 0, 0, 11, [])),
  (11, (8, 0, 0, 2, 0, 0, 12, [])),
  (12, (1, 1, 0, 0, 0, 0, 13, [])),
  (13, (90, 0, 0, 0, 0, 0, 0, [])),
  (14, (1, 0, 0, 0, 0, 0, 15, [])),
  (15, (90, 0, 0, 0, 0, 0, 0, []))], (660, 67, 659, 0, 2, [(0, 8, 11, 13)]))
theorem ok_LA_ask : gv_ok M_LA_ask := gv_ok_of (by decide +kernel)
theorem mk_LA_ask : gv_msS M_LA_ask = true := by decide +kernel

def M_LA_solve : gv_M := (⟨"GoalEngineLaw", "solve", "(LGoalEngine;I[J)I"⟩, method_6_code, 4, some .int, [(0, (5, 0, 0, 2, 0, 0, 1, [])),
  (1, (1, 0, 0, 0, 0, 0, 2, [])),
  (2, (5, 0, 0, 0, 0, 0, 3, [])),
  (3, (3, 0, 0, 1, 0, 0, 4, [])),
  (4, (86, 0, 0, 0, 4, 739, 7, [])),
  (7, (30, 0, 0, 0, 0, 0, 8, [])),
  (8, (78, 0, 0, 0, 0, 0, 9, [])),
  (9, (10, 0, 0, 24, 0, 0, 12, [])),
  (12, (8, 0, 0, 3, 0, 0, 13, [])),
  (13, (1, 1, 0, 0, 0, 0, 14, [])),
  (14, (90, 0, 0, 0, 0, 0, 0, [])),
  (15, (8, 0, 0, 3, 0, 0, 16, [])),
  (16, (1, 2, 0, 0, 0, 0, 17, [])),
  (17, (90, 0, 0, 0, 0, 0, 0, [])),
  (18, (8, 0, 0, 3, 0, 0, 19, [])),
  (19, (1, 3, 0, 0, 0, 0, 20, [])),
  (20, (90, 0, 0, 0, 0, 0, 0, [])),
  (21, (8, 0, 0, 3, 0, 0, 22, [])),
  (22, (1, 4, 0, 0, 0, 0, 23, [])),
  (23, (90, 0, 0, 0, 0, 0, 0, [])),
  (24, (1, 0, 0, 0, 0, 0, 25, [])),
  (25, (90, 0, 0, 0, 0, 0, 0, []))], (736, 67, 735, 0, 3, [(0, 9, 12, 13), (0, 9, 15, 15), (0, 9, 18, 27), (0, 9, 21, 29)]))
theorem ok_LA_solve : gv_ok M_LA_solve := gv_ok_of (by decide +kernel)
theorem mk_LA_solve : gv_msS M_LA_solve = true := by decide +kernel

def M_LA_next : gv_M := (⟨"GoalEngineLaw", "next", "(LGoalEngine;[J)I"⟩, method_7_code, 3, some .int, [(0, (5, 0, 0, 1, 0, 0, 1, [])),
  (1, (1, 0, 0, 0, 0, 0, 2, [])),
  (2, (5, 0, 0, 0, 0, 0, 3, [])),
  (3, (86, 0, 0, 0, 5, 879, 6, [])),
  (6, (50, 0, 0, 13, 0, 0, 9, [])),
  (9, (2, 0, 1, 0, 0, 0, 10, [])),
  (10, (10, 0, 0, 14, 0, 0, 13, [])),
  (13, (2, 0, 0, 0, 0, 0, 14, [])),
  (14, (78, 0, 0, 0, 0, 0, 15, [])),
  (15, (10, 0, 0, 21, 0, 0, 18, [])),
  (18, (8, 0, 0, 2, 0, 0, 19, [])),
  (19, (1, 1, 0, 0, 0, 0, 20, [])),
  (20, (90, 0, 0, 0, 0, 0, 0, [])),
  (21, (1, 0, 0, 0, 0, 0, 22, [])),
  (22, (90, 0, 0, 0, 0, 0, 0, []))], (878, 67, 877, 0, 2, [(0, 15, 18, 15)]))
theorem ok_LA_next : gv_ok M_LA_next := gv_ok_of (by decide +kernel)
theorem mk_LA_next : gv_msS M_LA_next = true := by decide +kernel

def M_LA_count : gv_M := (⟨"GoalEngineLaw", "count", "(LGoalEngine;I[J)I"⟩, method_8_code, 4, some .int, [(0, (5, 0, 0, 2, 0, 0, 1, [])),
  (1, (1, 0, 0, 0, 0, 0, 2, [])),
  (2, (5, 0, 0, 0, 0, 0, 3, [])),
  (3, (3, 0, 0, 1, 0, 0, 4, [])),
  (4, (86, 0, 0, 0, 8, 887, 7, [])),
  (7, (30, 0, 0, 0, 0, 0, 8, [])),
  (8, (78, 0, 0, 0, 0, 0, 9, [])),
  (9, (10, 0, 0, 15, 0, 0, 12, [])),
  (12, (8, 0, 0, 3, 0, 0, 13, [])),
  (13, (1, 1, 0, 0, 0, 0, 14, [])),
  (14, (90, 0, 0, 0, 0, 0, 0, [])),
  (15, (1, 0, 0, 0, 0, 0, 16, [])),
  (16, (90, 0, 0, 0, 0, 0, 0, []))], (886, 67, 885, 0, 3, [(0, 9, 12, 13)]))
theorem ok_LA_count : gv_ok M_LA_count := gv_ok_of (by decide +kernel)
theorem mk_LA_count : gv_msS M_LA_count = true := by decide +kernel

def M_LA_word : gv_M := (⟨"GoalEngineLaw", "word", "(LGoalEngine;I[J)I"⟩, method_9_code, 4, some .int, [(0, (5, 0, 0, 2, 0, 0, 1, [])),
  (1, (1, 0, 0, 0, 0, 0, 2, [])),
  (2, (5, 0, 0, 0, 0, 0, 3, [])),
  (3, (3, 0, 0, 1, 0, 0, 4, [])),
  (4, (86, 0, 0, 0, 10, 911, 7, [])),
  (7, (30, 0, 0, 0, 0, 0, 8, [])),
  (8, (78, 0, 0, 0, 0, 0, 9, [])),
  (9, (10, 0, 0, 15, 0, 0, 12, [])),
  (12, (8, 0, 0, 3, 0, 0, 13, [])),
  (13, (1, 1, 0, 0, 0, 0, 14, [])),
  (14, (90, 0, 0, 0, 0, 0, 0, [])),
  (15, (1, 0, 0, 0, 0, 0, 16, [])),
  (16, (90, 0, 0, 0, 0, 0, 0, []))], (909, 67, 908, 0, 3, [(0, 9, 12, 41)]))
theorem ok_LA_word : gv_ok M_LA_word := gv_ok_of (by decide +kernel)
theorem mk_LA_word : gv_msS M_LA_word = true := by decide +kernel

def M_LA_law : gv_M := (⟨"GoalEngineLaw", "law", "([I)Z"⟩, code, 7, some .boolean, [(0, (81, 0, 0, 0, 0, 93, 3, [])),
  (3, (40, 0, 0, 0, 0, 0, 4, [])),
  (4, (85, 0, 0, 0, 0, 95, 7, [])),
  (7, (8, 0, 0, 1, 0, 0, 8, [])),
  (8, (81, 0, 0, 12, 0, 938, 11, [])),
  (11, (40, 0, 0, 0, 0, 0, 12, [])),
  (12, (85, 0, 0, 0, 92, 940, 15, [])),
  (15, (8, 0, 0, 2, 0, 0, 16, [])),
  (16, (1, 1, 0, 0, 0, 0, 17, [])),
  (17, (82, 0, 0, 1, 0, 1291, 19, [])),
  (19, (8, 0, 0, 3, 0, 0, 20, [])),
  (20, (1, 0, 0, 0, 0, 0, 21, [])),
  (21, (6, 0, 0, 4, 0, 0, 23, [])),
  (23, (3, 0, 0, 4, 0, 0, 25, [])),
  (25, (5, 0, 0, 0, 0, 0, 26, [])),
  (26, (71, 0, 0, 0, 0, 0, 27, [])),
  (27, (1, 2, 0, 0, 0, 0, 28, [])),
  (28, (21, 0, 0, 0, 0, 0, 29, [])),
  (29, (60, 0, 0, 498, 0, 0, 32, [])),
  (32, (5, 0, 0, 0, 0, 0, 33, [])),
  (33, (3, 0, 0, 4, 0, 0, 35, [])),
  (35, (72, 0, 0, 0, 0, 0, 36, [])),
  (36, (1, 15, 0, 0, 0, 0, 38, [])),
  (38, (23, 0, 0, 0, 0, 0, 39, [])),
  (39, (62, 0, 0, 492, 0, 0, 92, [(0, 92), (1, 148), (2, 192), (3, 236), (4, 292), (5, 343), (6, 354), (7, 367), (8, 423), (9, 436)])),
  (92, (5, 0, 0, 1, 0, 0, 93, [])),
  (93, (5, 0, 0, 0, 0, 0, 94, [])),
  (94, (3, 0, 0, 4, 0, 0, 96, [])),
  (96, (1, 1, 0, 0, 0, 0, 97, [])),
  (97, (20, 0, 0, 0, 0, 0, 98, [])),
  (98, (72, 0, 0, 0, 0, 0, 99, [])),
  (99, (5, 0, 0, 3, 0, 0, 100, [])),
  (100, (87, 0, 0, 0, 142, 537, 103, [])),
  (103, (6, 0, 0, 5, 0, 0, 105, [])),
  (105, (5, 0, 0, 2, 0, 0, 106, [])),
  (106, (5, 0, 0, 0, 0, 0, 107, [])),
  (107, (3, 0, 0, 4, 0, 0, 109, [])),
  (109, (1, 1, 0, 0, 0, 0, 110, [])),
  (110, (20, 0, 0, 0, 0, 0, 111, [])),
  (111, (72, 0, 0, 0, 0, 0, 112, [])),
  (112, (86, 0, 0, 0, 95, 1099, 115, [])),
  (115, (6, 0, 0, 6, 0, 0, 117, [])),
  (117, (5, 0, 0, 2, 0, 0, 118, [])),
  (118, (86, 0, 0, 0, 93, 1095, 121, [])),
  (121, (3, 0, 0, 5, 0, 0, 123, [])),
  (123, (56, 0, 0, 128, 0, 0, 126, [])),
  (126, (1, 0, 0, 0, 0, 0, 127, [])),
  (127, (90, 0, 0, 0, 0, 0, 0, [])),
  (128, (3, 0, 0, 5, 0, 0, 130, [])),
  (130, (51, 0, 0, 145, 0, 0, 133, [])),
  (133, (5, 0, 0, 3, 0, 0, 134, [])),
  (134, (1, 0, 0, 0, 0, 0, 135, [])),
  (135, (74, 0, 0, 0, 0, 0, 136, [])),
  (136, (3, 0, 0, 6, 0, 0, 138, [])),
  (138, (30, 0, 0, 0, 0, 0, 139, [])),
  (139, (36, 0, 0, 0, 0, 0, 140, [])),
  (140, (50, 0, 0, 145, 0, 0, 143, [])),
  (143, (1, 0, 0, 0, 0, 0, 144, [])),
  (144, (90, 0, 0, 0, 0, 0, 0, [])),
  (145, (10, 0, 0, 492, 0, 0, 148, [])),
  (148, (5, 0, 0, 1, 0, 0, 149, [])),
  (149, (5, 0, 0, 3, 0, 0, 150, [])),
  (150, (87, 0, 0, 0, 143, 629, 153, [])),
  (153, (6, 0, 0, 5, 0, 0, 155, [])),
  (155, (5, 0, 0, 2, 0, 0, 156, [])),
  (156, (86, 0, 0, 0, 98, 1103, 159, [])),
  (159, (6, 0, 0, 6, 0, 0, 161, [])),
  (161, (5, 0, 0, 2, 0, 0, 162, [])),
  (162, (86, 0, 0, 0, 93, 1095, 165, [])),
  (165, (3, 0, 0, 5, 0, 0, 167, [])),
  (167, (56, 0, 0, 172, 0, 0, 170, [])),
  (170, (1, 0, 0, 0, 0, 0, 171, [])),
  (171, (90, 0, 0, 0, 0, 0, 0, [])),
  (172, (3, 0, 0, 5, 0, 0, 174, [])),
  (174, (51, 0, 0, 189, 0, 0, 177, [])),
  (177, (5, 0, 0, 3, 0, 0, 178, [])),
  (178, (1, 0, 0, 0, 0, 0, 179, [])),
  (179, (74, 0, 0, 0, 0, 0, 180, [])),
  (180, (3, 0, 0, 6, 0, 0, 182, [])),
  (182, (30, 0, 0, 0, 0, 0, 183, [])),
  (183, (36, 0, 0, 0, 0, 0, 184, [])),
  (184, (50, 0, 0, 189, 0, 0, 187, [])),
  (187, (1, 0, 0, 0, 0, 0, 188, [])),
  (188, (90, 0, 0, 0, 0, 0, 0, [])),
  (189, (10, 0, 0, 492, 0, 0, 192, [])),
  (192, (5, 0, 0, 1, 0, 0, 193, [])),
  (193, (5, 0, 0, 3, 0, 0, 194, [])),
  (194, (87, 0, 0, 0, 144, 658, 197, [])),
  (197, (6, 0, 0, 5, 0, 0, 199, [])),
  (199, (5, 0, 0, 2, 0, 0, 200, [])),
  (200, (86, 0, 0, 0, 124, 1119, 203, [])),
  (203, (6, 0, 0, 6, 0, 0, 205, [])),
  (205, (5, 0, 0, 2, 0, 0, 206, [])),
  (206, (86, 0, 0, 0, 93, 1095, 209, [])),
  (209, (3, 0, 0, 5, 0, 0, 211, [])),
  (211, (56, 0, 0, 216, 0, 0, 214, [])),
  (214, (1, 0, 0, 0, 0, 0, 215, [])),
  (215, (90, 0, 0, 0, 0, 0, 0, [])),
  (216, (3, 0, 0, 5, 0, 0, 218, [])),
  (218, (51, 0, 0, 233, 0, 0, 221, [])),
  (221, (5, 0, 0, 3, 0, 0, 222, [])),
  (222, (1, 0, 0, 0, 0, 0, 223, [])),
  (223, (74, 0, 0, 0, 0, 0, 224, [])),
  (224, (3, 0, 0, 6, 0, 0, 226, [])),
  (226, (30, 0, 0, 0, 0, 0, 227, [])),
  (227, (36, 0, 0, 0, 0, 0, 228, [])),
  (228, (50, 0, 0, 233, 0, 0, 231, [])),
  (231, (1, 0, 0, 0, 0, 0, 232, [])),
  (232, (90, 0, 0, 0, 0, 0, 0, [])),
  (233, (10, 0, 0, 492, 0, 0, 236, [])),
  (236, (5, 0, 0, 1, 0, 0, 237, [])),
  (237, (5, 0, 0, 0, 0, 0, 238, [])),
  (238, (3, 0, 0, 4, 0, 0, 240, [])),
  (240, (1, 1, 0, 0, 0, 0, 241, [])),
  (241, (20, 0, 0, 0, 0, 0, 242, [])),
  (242, (72, 0, 0, 0, 0, 0, 243, [])),
  (243, (5, 0, 0, 3, 0, 0, 244, [])),
  (244, (87, 0, 0, 0, 145, 734, 247, [])),
  (247, (6, 0, 0, 5, 0, 0, 249, [])),
  (249, (5, 0, 0, 2, 0, 0, 250, [])),
  (250, (5, 0, 0, 0, 0, 0, 251, [])),
  (251, (3, 0, 0, 4, 0, 0, 253, [])),
  (253, (1, 1, 0, 0, 0, 0, 254, [])),
  (254, (20, 0, 0, 0, 0, 0, 255, [])),
  (255, (72, 0, 0, 0, 0, 0, 256, [])),
  (256, (86, 0, 0, 0, 133, 1155, 259, [])),
  (259, (6, 0, 0, 6, 0, 0, 261, [])),
  (261, (5, 0, 0, 2, 0, 0, 262, [])),
  (262, (86, 0, 0, 0, 93, 1095, 265, [])),
  (265, (3, 0, 0, 5, 0, 0, 267, [])),
  (267, (56, 0, 0, 272, 0, 0, 270, [])),
  (270, (1, 0, 0, 0, 0, 0, 271, [])),
  (271, (90, 0, 0, 0, 0, 0, 0, [])),
  (272, (3, 0, 0, 5, 0, 0, 274, [])),
  (274, (51, 0, 0, 289, 0, 0, 277, [])),
  (277, (5, 0, 0, 3, 0, 0, 278, [])),
  (278, (1, 0, 0, 0, 0, 0, 279, [])),
  (279, (74, 0, 0, 0, 0, 0, 280, [])),
  (280, (3, 0, 0, 6, 0, 0, 282, [])),
  (282, (30, 0, 0, 0, 0, 0, 283, [])),
  (283, (36, 0, 0, 0, 0, 0, 284, [])),
  (284, (50, 0, 0, 289, 0, 0, 287, [])),
  (287, (1, 0, 0, 0, 0, 0, 288, [])),
  (288, (90, 0, 0, 0, 0, 0, 0, [])),
  (289, (10, 0, 0, 492, 0, 0, 292, [])),
  (292, (5, 0, 0, 1, 0, 0, 293, [])),
  (293, (5, 0, 0, 3, 0, 0, 294, [])),
  (294, (87, 0, 0, 0, 146, 876, 297, [])),
  (297, (6, 0, 0, 5, 0, 0, 299, [])),
  (299, (5, 0, 0, 2, 0, 0, 300, [])),
  (300, (86, 0, 0, 0, 134, 1259, 303, [])),
  (303, (6, 0, 0, 6, 0, 0, 305, [])),
  (305, (5, 0, 0, 2, 0, 0, 306, [])),
  (306, (86, 0, 0, 0, 93, 1095, 309, [])),
  (309, (3, 0, 0, 5, 0, 0, 311, [])),
  (311, (56, 0, 0, 316, 0, 0, 314, [])),
  (314, (1, 0, 0, 0, 0, 0, 315, [])),
  (315, (90, 0, 0, 0, 0, 0, 0, [])),
  (316, (3, 0, 0, 5, 0, 0, 318, [])),
  (318, (51, 0, 0, 340, 0, 0, 321, [])),
  (321, (5, 0, 0, 3, 0, 0, 322, [])),
  (322, (1, 0, 0, 0, 0, 0, 323, [])),
  (323, (74, 0, 0, 0, 0, 0, 324, [])),
  (324, (3, 0, 0, 6, 0, 0, 326, [])),
  (326, (50, 0, 0, 333, 0, 0, 329, [])),
  (329, (2, 0, 1, 0, 0, 0, 330, [])),
  (330, (10, 0, 0, 334, 0, 0, 333, [])),
  (333, (2, 0, 0, 0, 0, 0, 334, [])),
  (334, (36, 0, 0, 0, 0, 0, 335, [])),
  (335, (50, 0, 0, 340, 0, 0, 338, [])),
  (338, (1, 0, 0, 0, 0, 0, 339, [])),
  (339, (90, 0, 0, 0, 0, 0, 0, [])),
  (340, (10, 0, 0, 492, 0, 0, 343, [])),
  (343, (5, 0, 0, 1, 0, 0, 344, [])),
  (344, (86, 0, 0, 0, 6, 419, 347, [])),
  (347, (5, 0, 0, 2, 0, 0, 348, [])),
  (348, (86, 0, 0, 0, 135, 1263, 351, [])),
  (351, (10, 0, 0, 492, 0, 0, 354, [])),
  (354, (5, 0, 0, 1, 0, 0, 355, [])),
  (355, (86, 0, 0, 0, 7, 423, 358, [])),
  (358, (5, 0, 0, 2, 0, 0, 359, [])),
  (359, (86, 0, 0, 0, 136, 1267, 362, [])),
  (362, (56, 0, 0, 492, 0, 0, 365, [])),
  (365, (1, 0, 0, 0, 0, 0, 366, [])),
  (366, (90, 0, 0, 0, 0, 0, 0, [])),
  (367, (5, 0, 0, 1, 0, 0, 368, [])),
  (368, (5, 0, 0, 0, 0, 0, 369, [])),
  (369, (3, 0, 0, 4, 0, 0, 371, [])),
  (371, (1, 1, 0, 0, 0, 0, 372, [])),
  (372, (20, 0, 0, 0, 0, 0, 373, [])),
  (373, (72, 0, 0, 0, 0, 0, 374, [])),
  (374, (5, 0, 0, 3, 0, 0, 375, [])),
  (375, (87, 0, 0, 0, 147, 884, 378, [])),
  (378, (6, 0, 0, 5, 0, 0, 380, [])),
  (380, (5, 0, 0, 2, 0, 0, 381, [])),
  (381, (5, 0, 0, 0, 0, 0, 382, [])),
  (382, (3, 0, 0, 4, 0, 0, 384, [])),
  (384, (1, 1, 0, 0, 0, 0, 385, [])),
  (385, (20, 0, 0, 0, 0, 0, 386, [])),
  (386, (72, 0, 0, 0, 0, 0, 387, [])),
  (387, (86, 0, 0, 0, 137, 1271, 390, [])),
  (390, (6, 0, 0, 6, 0, 0, 392, [])),
  (392, (5, 0, 0, 2, 0, 0, 393, [])),
  (393, (86, 0, 0, 0, 93, 1095, 396, [])),
  (396, (3, 0, 0, 5, 0, 0, 398, [])),
  (398, (56, 0, 0, 403, 0, 0, 401, [])),
  (401, (1, 0, 0, 0, 0, 0, 402, [])),
  (402, (90, 0, 0, 0, 0, 0, 0, [])),
  (403, (3, 0, 0, 5, 0, 0, 405, [])),
  (405, (51, 0, 0, 420, 0, 0, 408, [])),
  (408, (5, 0, 0, 3, 0, 0, 409, [])),
  (409, (1, 0, 0, 0, 0, 0, 410, [])),
  (410, (74, 0, 0, 0, 0, 0, 411, [])),
  (411, (3, 0, 0, 6, 0, 0, 413, [])),
  (413, (30, 0, 0, 0, 0, 0, 414, [])),
  (414, (36, 0, 0, 0, 0, 0, 415, [])),
  (415, (50, 0, 0, 420, 0, 0, 418, [])),
  (418, (1, 0, 0, 0, 0, 0, 419, [])),
  (419, (90, 0, 0, 0, 0, 0, 0, [])),
  (420, (10, 0, 0, 492, 0, 0, 423, [])),
  (423, (5, 0, 0, 1, 0, 0, 424, [])),
  (424, (86, 0, 0, 0, 9, 500, 427, [])),
  (427, (5, 0, 0, 2, 0, 0, 428, [])),
  (428, (86, 0, 0, 0, 140, 1275, 431, [])),
  (431, (56, 0, 0, 492, 0, 0, 434, [])),
  (434, (1, 0, 0, 0, 0, 0, 435, [])),
  (435, (90, 0, 0, 0, 0, 0, 0, [])),
  (436, (5, 0, 0, 1, 0, 0, 437, [])),
  (437, (5, 0, 0, 0, 0, 0, 438, [])),
  (438, (3, 0, 0, 4, 0, 0, 440, [])),
  (440, (1, 1, 0, 0, 0, 0, 441, [])),
  (441, (20, 0, 0, 0, 0, 0, 442, [])),
  (442, (72, 0, 0, 0, 0, 0, 443, [])),
  (443, (5, 0, 0, 3, 0, 0, 444, [])),
  (444, (87, 0, 0, 0, 148, 907, 447, [])),
  (447, (6, 0, 0, 5, 0, 0, 449, [])),
  (449, (5, 0, 0, 2, 0, 0, 450, [])),
  (450, (5, 0, 0, 0, 0, 0, 451, [])),
  (451, (3, 0, 0, 4, 0, 0, 453, [])),
  (453, (1, 1, 0, 0, 0, 0, 454, [])),
  (454, (20, 0, 0, 0, 0, 0, 455, [])),
  (455, (72, 0, 0, 0, 0, 0, 456, [])),
  (456, (86, 0, 0, 0, 141, 1287, 459, [])),
  (459, (6, 0, 0, 6, 0, 0, 461, [])),
  (461, (5, 0, 0, 2, 0, 0, 462, [])),
  (462, (86, 0, 0, 0, 93, 1095, 465, [])),
  (465, (3, 0, 0, 5, 0, 0, 467, [])),
  (467, (56, 0, 0, 472, 0, 0, 470, [])),
  (470, (1, 0, 0, 0, 0, 0, 471, [])),
  (471, (90, 0, 0, 0, 0, 0, 0, [])),
  (472, (3, 0, 0, 5, 0, 0, 474, [])),
  (474, (51, 0, 0, 489, 0, 0, 477, [])),
  (477, (5, 0, 0, 3, 0, 0, 478, [])),
  (478, (1, 0, 0, 0, 0, 0, 479, [])),
  (479, (74, 0, 0, 0, 0, 0, 480, [])),
  (480, (3, 0, 0, 6, 0, 0, 482, [])),
  (482, (30, 0, 0, 0, 0, 0, 483, [])),
  (483, (36, 0, 0, 0, 0, 0, 484, [])),
  (484, (50, 0, 0, 489, 0, 0, 487, [])),
  (487, (1, 0, 0, 0, 0, 0, 488, [])),
  (488, (90, 0, 0, 0, 0, 0, 0, [])),
  (489, (10, 0, 0, 492, 0, 0, 492, [])),
  (492, (9, 2, 0, 4, 0, 0, 495, [])),
  (495, (10, 0, 0, 23, 0, 0, 498, [])),
  (498, (1, 1, 0, 0, 0, 0, 499, [])),
  (499, (90, 0, 0, 0, 0, 0, 0, []))], (0, 67, 0, 0, 1, []))
theorem ok_LA_law : gv_ok M_LA_law := gv_ok_of (by decide +kernel)
end
section
/-! gm: calls, returns and runs of steps, by the code tables -/
section GMA
theorem gv_c84 {own : String} {pc : Nat} {v : Int32} {w : Int64} {w1 w2 wp nx : Nat} {tb : List (Int32 × Nat)} {i : Instr} {n : Nat} (hc : gv_ck8 own pc (84, v, w, w1, w2, wp, nx, tb) i n = true) :
    ∃ x, i = .invokespecial x ∧ n = 3 ∧ nx = pc + 3 ∧ gv_tw wp (.methodLink own x objectInit) = true ∧ gv_tw w1 (.instanceMethod objectInit) = true ∧ gv_tw w2 (.code objectInit ⟨#[0xb1]⟩ 1 none) = true := by
  cases i with
  | invokespecial x =>
    have hc : (decide (n = 3 ∧ nx = pc + 3) && gv_tw wp (.methodLink own x objectInit) && gv_tw w1 (.instanceMethod objectInit) && gv_tw w2 (.code objectInit ⟨#[0xb1]⟩ 1 none)) = true := hc
    rw [Bool.and_eq_true, Bool.and_eq_true, Bool.and_eq_true, decide_eq_true_eq] at hc
    obtain ⟨⟨⟨⟨h1, h2⟩, h3⟩, h4⟩, h5⟩ := hc
    exact ⟨x, rfl, h1, h2, h3, h4, h5⟩
  | _ => exact absurd (show false = true from hc) Bool.false_ne_true
theorem gv_c85 {own : String} {pc : Nat} {v : Int32} {w : Int64} {a b wp nx : Nat} {tb : List (Int32 × Nat)} {i : Instr} {n : Nat} (hc : gv_ck8 own pc (85, v, w, a, b, wp, nx, tb) i n = true) :
    ∃ x, i = .invokespecial x ∧ n = 3 ∧ nx = pc + 3 ∧ gv_lnk own x a wp (gv_mn b) = true := by
  cases i with
  | invokespecial x =>
    have hc : (decide (n = 3 ∧ nx = pc + 3) && gv_lnk own x a wp (gv_mn b)) = true := hc
    rw [Bool.and_eq_true, decide_eq_true_eq] at hc
    exact ⟨x, rfl, hc.1.1, hc.1.2, hc.2⟩
  | _ => exact absurd (show false = true from hc) Bool.false_ne_true
theorem gv_c86 {own : String} {pc : Nat} {v : Int32} {w : Int64} {a b wp nx : Nat} {tb : List (Int32 × Nat)} {i : Instr} {n : Nat} (hc : gv_ck8 own pc (86, v, w, a, b, wp, nx, tb) i n = true) :
    ∃ x, i = .invokevirtual x ∧ n = 3 ∧ nx = pc + 3 ∧ gv_lnk own x a wp (gv_mn b) = true := by
  cases i with
  | invokevirtual x =>
    have hc : (decide (n = 3 ∧ nx = pc + 3) && gv_lnk own x a wp (gv_mn b)) = true := hc
    rw [Bool.and_eq_true, decide_eq_true_eq] at hc
    exact ⟨x, rfl, hc.1.1, hc.1.2, hc.2⟩
  | _ => exact absurd (show false = true from hc) Bool.false_ne_true
theorem gv_c87 {own : String} {pc : Nat} {v : Int32} {w : Int64} {a b wp nx : Nat} {tb : List (Int32 × Nat)} {i : Instr} {n : Nat} (hc : gv_ck8 own pc (87, v, w, a, b, wp, nx, tb) i n = true) :
    ∃ x, i = .invokestatic x ∧ n = 3 ∧ nx = pc + 3 ∧ gv_lnk own x a wp (gv_mn b) = true := by
  cases i with
  | invokestatic x =>
    have hc : (decide (n = 3 ∧ nx = pc + 3) && gv_lnk own x a wp (gv_mn b)) = true := hc
    rw [Bool.and_eq_true, decide_eq_true_eq] at hc
    exact ⟨x, rfl, hc.1.1, hc.1.2, hc.2⟩
  | _ => exact absurd (show false = true from hc) Bool.false_ne_true
theorem gv_c90 {own : String} {pc : Nat} {v : Int32} {w : Int64} {a b wp nx : Nat} {tb : List (Int32 × Nat)} {i : Instr} {n : Nat} (hc : gv_ck8 own pc (90, v, w, a, b, wp, nx, tb) i n = true) : i = .ireturn ∧ n = 1 := by
  cases i with
  | ireturn => exact ⟨rfl, of_decide_eq_true hc⟩
  | _ => exact absurd (show false = true from hc) Bool.false_ne_true
theorem gv_c91 {own : String} {pc : Nat} {v : Int32} {w : Int64} {a b wp nx : Nat} {tb : List (Int32 × Nat)} {i : Instr} {n : Nat} (hc : gv_ck8 own pc (91, v, w, a, b, wp, nx, tb) i n = true) : i = .return_ ∧ n = 1 := by
  cases i with
  | return_ => exact ⟨rfl, of_decide_eq_true hc⟩
  | _ => exact absurd (show false = true from hc) Bool.false_ne_true
theorem gv_c92 {own : String} {pc : Nat} {v : Int32} {w : Int64} {a b wp nx : Nat} {tb : List (Int32 × Nat)} {i : Instr} {n : Nat} (hc : gv_ck8 own pc (92, v, w, a, b, wp, nx, tb) i n = true) : i = .lreturn ∧ n = 1 := by
  cases i with
  | lreturn => exact ⟨rfl, of_decide_eq_true hc⟩
  | _ => exact absurd (show false = true from hc) Bool.false_ne_true
variable {G : gv_G} {y M : gv_M} {d : Nat} {r : gv_O} {hf h h1 : gv_H} {pc : Nat} {ls : gv_L} {st st0 args : List gv_V} {S : gv_S} {v9 : Int32} {w9 : Int64} {a b b9 wp nx : Nat} {tb : List (Int32 × Nat)}
theorem gv_oiJ (hy : gv_ok y) (hj : gv_lk y.2.2.2.2.1 pc = some (84, v9, w9, a, b, wp, nx, tb)) (hcat : gv_cs st ≤ 100) (k : gv_go G y d r hf nx ls st h) : gv_go G y d r hf pc ls (gR b9 :: st) h := by
  obtain ⟨i, n, hd, hc⟩ := gv_dec hy hj
  obtain ⟨x, rfl, rfl, rfl, h1, h2, h3⟩ := gv_c84 (show gv_ck8 y.1.cls pc (84, v9, w9, a, b, wp, nx, tb) i n = true from hc)
  exact gv_oi h1 h2 h3 hd hcat k
theorem gv_I (hy : gv_ok y) (hj : gv_lk y.2.2.2.2.1 pc = some (85, v9, w9, a, b9, wp, nx, tb)) (hM : gv_msI M = true) (hb : gv_mn b9 = M.1) (hE : gv_ev G d M (gR b :: args) h (.inl none) h1) (hst : st0 = args.reverse ++ gR b :: st) (hn : args.length = M.2.2.2.2.2.2.2.2.2.1) (hcat : gv_cs st ≤ 8)
    (k : gv_go G y (d + 1) r hf nx ls st h1) : gv_go G y (d + 1) r hf pc ls st0 h := by
  obtain ⟨i, n, hd, hc⟩ := gv_dec hy hj
  obtain ⟨x, rfl, rfl, rfl, hl⟩ := gv_c85 (show gv_ck8 y.1.cls pc (85, v9, w9, a, b9, wp, nx, tb) i n = true from hc)
  unfold gv_msI at hM
  rw [Bool.and_eq_true, Bool.and_eq_true, decide_eq_true_eq] at hM
  rw [hb] at hl
  rw [hst]
  exact gv_callI hM.1.1 hM.2.2.2 hM.2.1 hM.2.2.1 hM.1.2 hl hd hn hcat hE k
theorem gv_Sc {v : Option gv_V} (hy : gv_ok y) (hj : gv_lk y.2.2.2.2.1 pc = some (87, v9, w9, a, b9, wp, nx, tb)) (hM : gv_msS M = true) (hb : gv_mn b9 = M.1) (hE : gv_ev G d M args h (.inl v) h1) (hst : st0 = args.reverse ++ st) (hn : args.length = M.2.2.2.2.2.2.2.2.2.1) (hcat : gv_cs st ≤ 8)
    (k : gv_go G y (d + 1) r hf nx ls (v.toList ++ st) h1) : gv_go G y (d + 1) r hf pc ls st0 h := by
  obtain ⟨i, n, hd, hc⟩ := gv_dec hy hj
  obtain ⟨x, rfl, rfl, rfl, hl⟩ := gv_c87 (show gv_ck8 y.1.cls pc (87, v9, w9, a, b9, wp, nx, tb) i n = true from hc)
  unfold gv_msS at hM
  rw [Bool.and_eq_true] at hM
  rw [hb] at hl
  rw [hst]
  exact gv_callS hM.1 hM.2 hl hd hn hcat hE k
theorem gv_SL {v : Option gv_V} (hy : gv_ok y) (hj : gv_lk y.2.2.2.2.1 pc = some (87, v9, w9, a, b9, wp, nx, tb)) (hM : gv_msS M = true) (hb : gv_mn b9 = M.1) (hE : gv_ev G d M args h (.inr (.inr (some v))) h1) (hst : st0 = args.reverse ++ st) (hn : args.length = M.2.2.2.2.2.2.2.2.2.1) (hcat : gv_cs st ≤ 8)
    (k : ∀ δ : Nat, gv_go G y (d + 1) r hf nx ls (v.toList ++ st) (h1.1 + δ, h1.2)) : gv_go G y (d + 1) r hf pc ls st0 h := by
  obtain ⟨i, n, hd, hc⟩ := gv_dec hy hj
  obtain ⟨x, rfl, rfl, rfl, hl⟩ := gv_c87 (show gv_ck8 y.1.cls pc (87, v9, w9, a, b9, wp, nx, tb) i n = true from hc)
  unfold gv_msS at hM
  rw [Bool.and_eq_true] at hM
  rw [hb] at hl
  rw [hst]
  exact gv_callSL hM.1 hM.2 hl hd hn hcat hE k
theorem gv_Vc {v : Option gv_V} {ci : Nat} {fs : List gv_V} {rr : vw_C} (hy : gv_ok y) (hj : gv_lk y.2.2.2.2.1 pc = some (86, v9, w9, a, b9, wp, nx, tb)) (hM : gv_msV M = true) (hb : gv_mn b9 = M.1) (hE : gv_ev G d M (gR b :: args) h (.inl v) h1) (hst : st0 = args.reverse ++ gR b :: st) (hn : args.length = M.2.2.2.2.2.2.2.2.2.1) (hcat : gv_cs st ≤ 8)
    (ho : h.2.2 b = some (Sum.inr (ci, fs))) (hci : gv_cl[ci]? = some rr) (hrr : rr.1 = M.1.cls)
    (k : gv_go G y (d + 1) r hf nx ls (v.toList ++ st) h1) : gv_go G y (d + 1) r hf pc ls st0 h := by
  obtain ⟨i, n, hd, hc⟩ := gv_dec hy hj
  obtain ⟨x, rfl, rfl, rfl, hl⟩ := gv_c86 (show gv_ck8 y.1.cls pc (86, v9, w9, a, b9, wp, nx, tb) i n = true from hc)
  unfold gv_msV at hM
  rw [Bool.and_eq_true, Bool.and_eq_true, Bool.and_eq_true, decide_eq_true_eq] at hM
  rw [hb] at hl
  rw [hst]
  exact gv_callV hM.1.1.1 hM.2 hM.1.1.2 hM.1.2 hl hd hn hcat ho hci hrr hE k
theorem gv_Ri {x : Int32} (hy : gv_ok y) (hj : gv_lk y.2.2.2.2.1 pc = some (90, v9, w9, a, b, wp, nx, tb)) (hr : y.2.2.2.1 = some .int) : gv_go G y d (.inl (some (gI x))) h pc ls [gI x] h := by
  obtain ⟨i, n, hd, hc⟩ := gv_dec hy hj
  obtain ⟨rfl, rfl⟩ := gv_c90 (show gv_ck8 y.1.cls pc (90, v9, w9, a, b, wp, nx, tb) i n = true from hc)
  exact gv_iret hr hd
theorem gv_Rz {x : Int32} (hy : gv_ok y) (hj : gv_lk y.2.2.2.2.1 pc = some (90, v9, w9, a, b, wp, nx, tb)) (hr : y.2.2.2.1 = some .boolean) (hx : x = 0 ∨ x = 1) : gv_go G y d (.inl (some (gI x))) h pc ls [gI x] h := by
  obtain ⟨i, n, hd, hc⟩ := gv_dec hy hj
  obtain ⟨rfl, rfl⟩ := gv_c90 (show gv_ck8 y.1.cls pc (90, v9, w9, a, b, wp, nx, tb) i n = true from hc)
  exact gv_zret hr hx hd
theorem gv_Rv (hy : gv_ok y) (hj : gv_lk y.2.2.2.2.1 pc = some (91, v9, w9, a, b, wp, nx, tb)) (hr : y.2.2.2.1 = none) : gv_go G y d (.inl none) h pc ls [] h := by
  obtain ⟨i, n, hd, hc⟩ := gv_dec hy hj
  obtain ⟨rfl, rfl⟩ := gv_c91 (show gv_ck8 y.1.cls pc (91, v9, w9, a, b, wp, nx, tb) i n = true from hc)
  exact gv_vret hr hd
theorem gv_Rl {x : Int64} (hy : gv_ok y) (hj : gv_lk y.2.2.2.2.1 pc = some (92, v9, w9, a, b, wp, nx, tb)) (hr : y.2.2.2.1 = some .long) : gv_go G y d (.inl (some (gL x))) h pc ls [gL x] h := by
  obtain ⟨i, n, hd, hc⟩ := gv_dec hy hj
  obtain ⟨rfl, rfl⟩ := gv_c92 (show gv_ck8 y.1.cls pc (92, v9, w9, a, b, wp, nx, tb) i n = true from hc)
  exact gv_lret hr hd
/-- several steps -/
def gv_rn (L : List (Nat × gv_J)) : Nat → Nat → gv_L → List gv_V → gv_H → Option gv_S
  | 0, pc, ls, st, h => some (pc, ls, st, h)
  | n + 1, pc, ls, st, h => match gv_lk L pc with
    | some J => match gv_ex J ls st h with
      | some (pc', ls', st', h') => gv_rn L n pc' ls' st' h'
      | none => none
    | none => none
theorem gv_B {pc' : Nat} {ls' : gv_L} {st' : List gv_V} {h' : gv_H} (hy : gv_ok y) (n : Nat) (hx : gv_rn y.2.2.2.2.1 n pc ls st h = some (pc', ls', st', h')) (k : gv_go G y d r hf pc' ls' st' h') : gv_go G y d r hf pc ls st h := by
  induction n generalizing pc ls st h with
  | zero =>
    cases hx
    exact k
  | succ n ih =>
    unfold gv_rn at hx
    split at hx
    next J hj =>
      split at hx
      next p1 l1 s1 h1 hs => exact gv_step (S := (p1, l1, s1, h1)) gc_ok gc_qi hy hj hs (ih hx)
      next => cases hx
    next => cases hx
/-- a method from its entry -/
theorem gv_E (hp : plainName M.1.cls = true) (hr : r ≠ .inr (.inr none)) (hcs : gv_cs args ≤ M.2.2.1) (hls : gv_ent args ++ List.replicate (M.2.2.1 - gv_cs args) none = ls) (k : gv_go G M d r hf 0 ls [] h) : gv_ev G d M args h r hf := by
  refine gv_enter hp hcs (fun i v hi => ?_) hr k
  rw [← hls] at hi
  by_cases hlt : i < (gv_ent args).length
  · rwa [List.getElem?_append_left hlt] at hi
  · rw [List.getElem?_append_right (by omega), List.getElem?_replicate] at hi
    split at hi <;> cases hi
end GMA
end
section
/-! gn: single steps with premises of their own, by the code tables -/
section GNA
variable {G : gv_G} {y : gv_M} {d : Nat} {r : gv_O} {hf h : gv_H} {pc : Nat} {ls : gv_L} {st : List gv_V} {v9 : Int32} {w9 : Int64} {a a9 b ci j wp nx n : Nat} {tb : List (Int32 × Nat)} {fs : List gv_V} {rr : vw_C} {v : gv_V} {f : Nat → Int32} {q : Nat → Option Nat} {i x : Int32}
theorem gv_gf (hy : gv_ok y) (hj : gv_lk y.2.2.2.2.1 pc = some (70, v9, w9, ci, j, wp, nx, tb)) (ha : h.2.2 a = some (Sum.inr (ci, fs))) (hv : fs[j]? = some v) (k : gv_go G y d r hf nx ls (v :: st) h) : gv_go G y d r hf pc ls (gR a :: st) h := by
  refine gv_step (S := (nx, ls, v :: st, h)) gc_ok gc_qi hy hj ?_ k
  show gv_x5 (70, v9, w9, ci, j, wp, nx, tb) ls (gR a :: st) h = _
  simp only [gv_x5, ha, hv, if_true]
theorem gv_pf (hy : gv_ok y) (hj : gv_lk y.2.2.2.2.1 pc = some (80, v9, w9, ci, j, wp, nx, tb)) (h0 : Nat.beq a 0 = false) (ha : h.2.2 a = some (Sum.inr (ci, fs))) (hci : gv_cl[ci]? = some rr) (hl : j < fs.length) (hfit : gv_fit (gv_ft rr j) v = true) (k : gv_go G y d r hf nx ls st (gv_set h a (Sum.inr (ci, fs.set j v)))) : gv_go G y d r hf pc ls (v :: gR a :: st) h := by
  refine gv_step (S := (nx, ls, st, gv_set h a (Sum.inr (ci, fs.set j v)))) gc_ok gc_qi hy hj ?_ k
  show gv_x6 (80, v9, w9, ci, j, wp, nx, tb) ls (v :: gR a :: st) h = _
  simp only [gv_x6, ha, h0, hci]
  rw [if_pos ⟨trivial, hl, hfit⟩]
theorem gv_ial (hy : gv_ok y) (hj : gv_lk y.2.2.2.2.1 pc = some (72, v9, w9, a9, b, wp, nx, tb)) (ha : h.2.2 a = some (Sum.inl (0, n, Sum.inl f))) (hi : vp_in i n) (k : gv_go G y d r hf nx ls (gI (f i.toNatClampNeg) :: st) h) : gv_go G y d r hf pc ls (gI i :: gR a :: st) h := by
  refine gv_step (S := (nx, ls, gI (f i.toNatClampNeg) :: st, h)) gc_ok gc_qi hy hj ?_ k
  show gv_x5 (72, v9, w9, a9, b, wp, nx, tb) ls (gI i :: gR a :: st) h = _
  simp only [gv_x5, ha]
  rw [if_neg hi]
theorem gv_zal (hy : gv_ok y) (hj : gv_lk y.2.2.2.2.1 pc = some (73, v9, w9, a9, b, wp, nx, tb)) (ha : h.2.2 a = some (Sum.inl (2, n, Sum.inl f))) (hi : vp_in i n) (k : gv_go G y d r hf nx ls (gI (f i.toNatClampNeg) :: st) h) : gv_go G y d r hf pc ls (gI i :: gR a :: st) h := by
  refine gv_step (S := (nx, ls, gI (f i.toNatClampNeg) :: st, h)) gc_ok gc_qi hy hj ?_ k
  show gv_x5 (73, v9, w9, a9, b, wp, nx, tb) ls (gI i :: gR a :: st) h = _
  simp only [gv_x5, ha]
  rw [if_neg hi]
theorem gv_qal (hy : gv_ok y) (hj : gv_lk y.2.2.2.2.1 pc = some (75, v9, w9, a9, b, wp, nx, tb)) (ha : h.2.2 a = some (Sum.inl (3, n, Sum.inr q))) (hi : vp_in i n) (k : gv_go G y d r hf nx ls (Sum.inr (Sum.inr (q i.toNatClampNeg)) :: st) h) : gv_go G y d r hf pc ls (gI i :: gR a :: st) h := by
  refine gv_step (S := (nx, ls, Sum.inr (Sum.inr (q i.toNatClampNeg)) :: st, h)) gc_ok gc_qi hy hj ?_ k
  show gv_x5 (75, v9, w9, a9, b, wp, nx, tb) ls (gI i :: gR a :: st) h = _
  simp only [gv_x5, ha]
  rw [if_neg hi]
theorem gv_ias (hy : gv_ok y) (hj : gv_lk y.2.2.2.2.1 pc = some (76, v9, w9, a9, b, wp, nx, tb)) (h0 : Nat.beq a 0 = false) (ha : h.2.2 a = some (Sum.inl (0, n, Sum.inl f))) (hi : vp_in i n) (k : gv_go G y d r hf nx ls st (gv_set h a (Sum.inl (0, n, Sum.inl (upd f i.toNatClampNeg x))))) : gv_go G y d r hf pc ls (gI x :: gI i :: gR a :: st) h := by
  refine gv_step (S := (nx, ls, st, gv_set h a (Sum.inl (0, n, Sum.inl (upd f i.toNatClampNeg x))))) gc_ok gc_qi hy hj ?_ k
  show gv_x6 (76, v9, w9, a9, b, wp, nx, tb) ls (gI x :: gI i :: gR a :: st) h = _
  simp only [gv_x6, ha, h0]
  rw [if_neg hi]
theorem gv_zas (hy : gv_ok y) (hj : gv_lk y.2.2.2.2.1 pc = some (77, v9, w9, a9, b, wp, nx, tb)) (h0 : Nat.beq a 0 = false) (ha : h.2.2 a = some (Sum.inl (2, n, Sum.inl f))) (hi : vp_in i n) (hx : x = 0 ∨ x = 1) (k : gv_go G y d r hf nx ls st (gv_set h a (Sum.inl (2, n, Sum.inl (upd f i.toNatClampNeg x))))) : gv_go G y d r hf pc ls (gI x :: gI i :: gR a :: st) h := by
  refine gv_step (S := (nx, ls, st, gv_set h a (Sum.inl (2, n, Sum.inl (upd f i.toNatClampNeg x))))) gc_ok gc_qi hy hj ?_ k
  show gv_x6 (77, v9, w9, a9, b, wp, nx, tb) ls (gI x :: gI i :: gR a :: st) h = _
  simp only [gv_x6, ha, h0]
  rw [if_neg hi, if_pos hx]
/-- a branch's two roads -/
theorem gv_br {c : Prop} [Decidable c] {p1 p2 : Nat} (k1 : c → gv_go G y d r hf p1 ls st h) (k2 : ¬ c → gv_go G y d r hf p2 ls st h) : gv_go G y d r hf (if c then p1 else p2) ls st h := by
  by_cases e : c
  · rw [if_pos e]; exact k1 e
  · rw [if_neg e]; exact k2 e
theorem gv_brT {c : Prop} [Decidable c] {p1 p2 : Nat} (e : c) (k : gv_go G y d r hf p1 ls st h) : gv_go G y d r hf (if c then p1 else p2) ls st h := by rw [if_pos e]; exact k
theorem gv_brF {c : Prop} [Decidable c] {p1 p2 : Nat} (e : ¬ c) (k : gv_go G y d r hf p2 ls st h) : gv_go G y d r hf (if c then p1 else p2) ls st h := by rw [if_neg e]; exact k
theorem gv_cast {h' : gv_H} (e : h = h') (k : gv_go G y d r hf pc ls st h') : gv_go G y d r hf pc ls st h := e ▸ k
theorem gv_set_at {h : gv_H} {k : Nat} {c : gv_C} : (gv_set h k c).2.2 k = some c := if_pos rfl
theorem gv_set_ne {h : gv_H} {k j : Nat} {c : gv_C} (e : j ≠ k) : (gv_set h k c).2.2 j = h.2.2 j := if_neg e
theorem gv_push_at {h : gv_H} {n : Nat} {c : gv_C} : (gv_push h n c).2.2 h.1 = some c := if_pos rfl
theorem gv_push_ne {h : gv_H} {n j : Nat} {c : gv_C} (e : j ≠ h.1) : (gv_push h n c).2.2 j = h.2.2 j := if_neg e
end GNA
end
section
/-! the law's own steps: the script, its end -/
section GLW
theorem gv_c72 {y : gv_M} {pc : Nat} {v : Int32} {w : Int64} {a b wp nx : Nat} {tb : List (Int32 × Nat)} {i : Instr} {n : Nat} (hc : gv_ck y pc (72, v, w, a, b, wp, nx, tb) i n = true) : i = .iaload ∧ n = 1 ∧ nx = pc + 1 := by
  have hc : gv_ck5 y.1.cls pc (72, v, w, a, b, wp, nx, tb) i n = true := hc
  cases i with
  | iaload => exact ⟨rfl, of_decide_eq_true hc⟩
  | _ => exact absurd (show false = true from hc) Bool.false_ne_true
theorem gv_c71 {y : gv_M} {pc : Nat} {v : Int32} {w : Int64} {a b wp nx : Nat} {tb : List (Int32 × Nat)} {i : Instr} {n : Nat} (hc : gv_ck y pc (71, v, w, a, b, wp, nx, tb) i n = true) : i = .arraylength ∧ n = 1 ∧ nx = pc + 1 := by
  have hc : gv_ck5 y.1.cls pc (71, v, w, a, b, wp, nx, tb) i n = true := hc
  cases i with
  | arraylength => exact ⟨rfl, of_decide_eq_true hc⟩
  | _ => exact absurd (show false = true from hc) Bool.false_ne_true
variable {G : gv_G} {y : gv_M} {d : Nat} {r : gv_O} {hf h : gv_H} {pc : Nat} {ls : gv_L} {st : List gv_V} {v9 : Int32} {w9 : Int64} {a b wp nx : Nat} {tb : List (Int32 × Nat)} {i : Int32}
theorem gv_sld (hy : gv_ok y) (hj : gv_lk y.2.2.2.2.1 pc = some (72, v9, w9, a, b, wp, nx, tb)) (hi : vp_in i G.2.2.2.2.2.2.1) (k : gv_go G y d r hf nx ls (gI (G.2.2.2.2.2.2.2 i.toNatClampNeg) :: st) h) : gv_go G y d r hf pc ls (gI i :: gR 0 :: st) h := by
  obtain ⟨i9, n, hd, hc⟩ := gv_dec hy hj
  obtain ⟨rfl, rfl, rfl⟩ := gv_c72 hc
  refine gv_pure (fun p e R s m args below meth c H locs cells slots Q A X hw hA kk => ?_) k
  obtain ⟨scr, s1, s2, s3, s4, s5⟩ := X.2.2.2.2.1.2.2.1
  have hlt : i.toNatClampNeg < G.2.2.2.2.2.2.1 := Nat.not_le.mp fun q => hi (Or.inr q)
  exact W.iald (v := .int (G.2.2.2.2.2.2.2 i.toNatClampNeg)) X.1 X.2.1 (by rw [hw.2.2.1 _ hw.1.1.1]; exact s1) s2 s3 (by rw [s4]; exact hi) (s5 _ hlt) rfl rfl hd (kk A hA)
theorem gv_slen (hy : gv_ok y) (hj : gv_lk y.2.2.2.2.1 pc = some (71, v9, w9, a, b, wp, nx, tb)) (k : gv_go G y d r hf nx ls (gI (Int32.ofNat G.2.2.2.2.2.2.1) :: st) h) : gv_go G y d r hf pc ls (gR 0 :: st) h := by
  obtain ⟨i9, n, hd, hc⟩ := gv_dec hy hj
  obtain ⟨rfl, rfl, rfl⟩ := gv_c71 hc
  refine gv_pure (fun p e R s m args below meth c H locs cells slots Q A X hw hA kk => ?_) k
  obtain ⟨scr, s1, s2, s3, s4, s5⟩ := X.2.2.2.2.1.2.2.1
  exact W.alen (n := Int32.ofNat G.2.2.2.2.2.2.1) X.1 X.2.1 (by rw [hw.2.2.1 _ hw.1.1.1]; exact s1) s2 (by rw [s4] <;> rfl) rfl rfl hd (kk A hA)
/-- the law ends with 1 -/
theorem gv_lawret (hy : gv_ok M_LA_law) (hj : gv_lk M_LA_law.2.2.2.2.1 pc = some (90, v9, w9, a, b, wp, nx, tb)) (hC : hf.2.1 = (gv_Cn, gv_Sn)) (h1 : h.2.1.1 ≤ gv_Cn) (h2 : h.2.1.2 ≤ gv_Sn) : gv_go G M_LA_law d (.inr (.inr none)) hf pc ls [gI 1] h := by
  obtain ⟨i9, n, hd, hc⟩ := gv_dec hy hj
  obtain ⟨rfl, rfl⟩ := gv_c90 (show gv_ck8 M_LA_law.1.cls pc (90, v9, w9, a, b, wp, nx, tb) i9 n = true from hc)
  refine ⟨by rw [hC]; exact ⟨h1, h2⟩, fun h0 p e s m args9 below meth c H locs A q1 q2 X hw hl hA => ?_⟩
  intro T hT XX
  by_cases hz : s.heap.size = G.2.2.2.2.2.1
  · have XF : Stand p G.1 e _ s m args9 below meth c T [] _ _ := Stand.forget (locs := []) XX (fun q hq => by rw [hz]; exact hl q hq)
    have X2 := stand_widen (k := gv_Cn) (n := gv_Sn) XF (by omega) (by omega)
    obtain ⟨t, a1, b1⟩ := lw_ret (b := 0) X.1 X.2.1 X.2.2.2.2.2.1 X.2.2.2.2.2.2.1 hd T hT X2
    exact ⟨t, a1, fun _ => b1⟩
  · exact ⟨_, Steps.refl _, fun q => absurd q hz⟩
/-- less room -/
theorem gx_less {p : Program} {l : Launch} {e : Env} {R R' : Room} {s : State} {m : MethodId} {args : Array Value} {below : List Frame} {meth : Method} {c : Code} {T : State} {locs : List Loc} {cells slots : Nat}
    (X : Stand p l e R s m args below meth c T locs cells slots) (h1 : R'.frames ≤ R.frames) (h2 : R'.locals ≤ R.locals) (h3 : R'.cells ≤ R.cells) (h4 : R'.slots ≤ R.slots) : Stand p l e R' s m args below meth c T locs cells slots := by
  refine { X with room := ?_ }
  have h := X.room
  simp only [State.hasRoom, Bool.and_eq_true, decide_eq_true_eq] at h ⊢
  obtain ⟨⟨⟨⟨q1, q2, q3, q4, q5, q6⟩, q7⟩, q8⟩, q9⟩ := h
  exact ⟨⟨⟨⟨by omega, by omega, by omega, by omega, by omega, q6⟩, by omega⟩, by omega⟩, q9⟩
end GLW
end
section
/-! constructors, run (written by wip/tools/conc.py) -/
section CTA
def KA0 : gv_H := (1, (0, 0), fun _ => none)
def KA1 : gv_H := gv_push KA0 4 (Sum.inr (0, [gN, gI 0, gN, gN]))
def KA2 : gv_H := gv_push (gv_set (gv_set (gv_push KA1 30 (Sum.inl (0, 30, Sum.inl (fun _ => 0)))) 1 (Sum.inr (0, [gR 2, gI 0, gN, gN]))) 1 (Sum.inr (0, [gR 2, gI 0, gN, gN]))) 2 (Sum.inr (1, [gN, gI 0]))
def KA3 : gv_H := gv_push (gv_set (gv_push KA2 16 (Sum.inl (3, 16, Sum.inr (fun _ => none)))) 3 (Sum.inr (1, [gR 4, gI 0]))) 4 (Sum.inr (2, [gN, gI 0, gI 0, gI 0]))
def KA4 : gv_H := gv_set (gv_push KA3 30 (Sum.inl (0, 30, Sum.inl (fun _ => 0)))) 5 (Sum.inr (2, [gR 6, gI 0, gI 0, gI 0]))
set_option maxRecDepth 100000 in
theorem ct1_CL_init {G : gv_G} {d : Nat} : gv_ev G (d + 0) M_CL_init [gR 5] KA3 (.inl none) KA4 := by
  refine gv_E (ls := [some (gR 5)]) (by decide) (fun h => by cases h) (Nat.le_of_ble_eq_true rfl) rfl ?_
  refine gv_B ok_CL_init 1 rfl ?_
  refine gv_oiJ ok_CL_init rfl (Nat.le_of_ble_eq_true rfl) ?_
  refine gv_B ok_CL_init 4 rfl ?_
  refine gv_cast (h' := KA4) rfl ?_
  exact gv_Rv ok_CL_init rfl rfl
def KA5 : gv_H := gv_push (gv_set KA4 4 (Sum.inl (3, 16, Sum.inr (va_up (fun _ => none) 0 (some 5))))) 4 (Sum.inr (2, [gN, gI 0, gI 0, gI 0]))
def KA6 : gv_H := gv_set (gv_push KA5 30 (Sum.inl (0, 30, Sum.inl (fun _ => 0)))) 7 (Sum.inr (2, [gR 8, gI 0, gI 0, gI 0]))
set_option maxRecDepth 100000 in
theorem ct2_CL_init {G : gv_G} {d : Nat} : gv_ev G (d + 0) M_CL_init [gR 7] KA5 (.inl none) KA6 := by
  refine gv_E (ls := [some (gR 7)]) (by decide) (fun h => by cases h) (Nat.le_of_ble_eq_true rfl) rfl ?_
  refine gv_B ok_CL_init 1 rfl ?_
  refine gv_oiJ ok_CL_init rfl (Nat.le_of_ble_eq_true rfl) ?_
  refine gv_B ok_CL_init 4 rfl ?_
  refine gv_cast (h' := KA6) rfl ?_
  exact gv_Rv ok_CL_init rfl rfl
def KA7 : gv_H := gv_push (gv_set KA6 4 (Sum.inl (3, 16, Sum.inr (va_up (va_up (fun _ => none) 0 (some 5)) 1 (some 7))))) 4 (Sum.inr (2, [gN, gI 0, gI 0, gI 0]))
def KA8 : gv_H := gv_set (gv_push KA7 30 (Sum.inl (0, 30, Sum.inl (fun _ => 0)))) 9 (Sum.inr (2, [gR 10, gI 0, gI 0, gI 0]))
set_option maxRecDepth 100000 in
theorem ct3_CL_init {G : gv_G} {d : Nat} : gv_ev G (d + 0) M_CL_init [gR 9] KA7 (.inl none) KA8 := by
  refine gv_E (ls := [some (gR 9)]) (by decide) (fun h => by cases h) (Nat.le_of_ble_eq_true rfl) rfl ?_
  refine gv_B ok_CL_init 1 rfl ?_
  refine gv_oiJ ok_CL_init rfl (Nat.le_of_ble_eq_true rfl) ?_
  refine gv_B ok_CL_init 4 rfl ?_
  refine gv_cast (h' := KA8) rfl ?_
  exact gv_Rv ok_CL_init rfl rfl
def KA9 : gv_H := gv_push (gv_set KA8 4 (Sum.inl (3, 16, Sum.inr (va_up (va_up (va_up (fun _ => none) 0 (some 5)) 1 (some 7)) 2 (some 9))))) 4 (Sum.inr (2, [gN, gI 0, gI 0, gI 0]))
def KA10 : gv_H := gv_set (gv_push KA9 30 (Sum.inl (0, 30, Sum.inl (fun _ => 0)))) 11 (Sum.inr (2, [gR 12, gI 0, gI 0, gI 0]))
set_option maxRecDepth 100000 in
theorem ct4_CL_init {G : gv_G} {d : Nat} : gv_ev G (d + 0) M_CL_init [gR 11] KA9 (.inl none) KA10 := by
  refine gv_E (ls := [some (gR 11)]) (by decide) (fun h => by cases h) (Nat.le_of_ble_eq_true rfl) rfl ?_
  refine gv_B ok_CL_init 1 rfl ?_
  refine gv_oiJ ok_CL_init rfl (Nat.le_of_ble_eq_true rfl) ?_
  refine gv_B ok_CL_init 4 rfl ?_
  refine gv_cast (h' := KA10) rfl ?_
  exact gv_Rv ok_CL_init rfl rfl
def KA11 : gv_H := gv_push (gv_set KA10 4 (Sum.inl (3, 16, Sum.inr (va_up (va_up (va_up (va_up (fun _ => none) 0 (some 5)) 1 (some 7)) 2 (some 9)) 3 (some 11))))) 4 (Sum.inr (2, [gN, gI 0, gI 0, gI 0]))
def KA12 : gv_H := gv_set (gv_push KA11 30 (Sum.inl (0, 30, Sum.inl (fun _ => 0)))) 13 (Sum.inr (2, [gR 14, gI 0, gI 0, gI 0]))
set_option maxRecDepth 100000 in
theorem ct5_CL_init {G : gv_G} {d : Nat} : gv_ev G (d + 0) M_CL_init [gR 13] KA11 (.inl none) KA12 := by
  refine gv_E (ls := [some (gR 13)]) (by decide) (fun h => by cases h) (Nat.le_of_ble_eq_true rfl) rfl ?_
  refine gv_B ok_CL_init 1 rfl ?_
  refine gv_oiJ ok_CL_init rfl (Nat.le_of_ble_eq_true rfl) ?_
  refine gv_B ok_CL_init 4 rfl ?_
  refine gv_cast (h' := KA12) rfl ?_
  exact gv_Rv ok_CL_init rfl rfl
def KA13 : gv_H := gv_push (gv_set KA12 4 (Sum.inl (3, 16, Sum.inr (va_up (va_up (va_up (va_up (va_up (fun _ => none) 0 (some 5)) 1 (some 7)) 2 (some 9)) 3 (some 11)) 4 (some 13))))) 4 (Sum.inr (2, [gN, gI 0, gI 0, gI 0]))
def KA14 : gv_H := gv_set (gv_push KA13 30 (Sum.inl (0, 30, Sum.inl (fun _ => 0)))) 15 (Sum.inr (2, [gR 16, gI 0, gI 0, gI 0]))
set_option maxRecDepth 100000 in
theorem ct6_CL_init {G : gv_G} {d : Nat} : gv_ev G (d + 0) M_CL_init [gR 15] KA13 (.inl none) KA14 := by
  refine gv_E (ls := [some (gR 15)]) (by decide) (fun h => by cases h) (Nat.le_of_ble_eq_true rfl) rfl ?_
  refine gv_B ok_CL_init 1 rfl ?_
  refine gv_oiJ ok_CL_init rfl (Nat.le_of_ble_eq_true rfl) ?_
  refine gv_B ok_CL_init 4 rfl ?_
  refine gv_cast (h' := KA14) rfl ?_
  exact gv_Rv ok_CL_init rfl rfl
def KA15 : gv_H := gv_push (gv_set KA14 4 (Sum.inl (3, 16, Sum.inr (va_up (va_up (va_up (va_up (va_up (va_up (fun _ => none) 0 (some 5)) 1 (some 7)) 2 (some 9)) 3 (some 11)) 4 (some 13)) 5 (some 15))))) 4 (Sum.inr (2, [gN, gI 0, gI 0, gI 0]))
def KA16 : gv_H := gv_set (gv_push KA15 30 (Sum.inl (0, 30, Sum.inl (fun _ => 0)))) 17 (Sum.inr (2, [gR 18, gI 0, gI 0, gI 0]))
set_option maxRecDepth 100000 in
theorem ct7_CL_init {G : gv_G} {d : Nat} : gv_ev G (d + 0) M_CL_init [gR 17] KA15 (.inl none) KA16 := by
  refine gv_E (ls := [some (gR 17)]) (by decide) (fun h => by cases h) (Nat.le_of_ble_eq_true rfl) rfl ?_
  refine gv_B ok_CL_init 1 rfl ?_
  refine gv_oiJ ok_CL_init rfl (Nat.le_of_ble_eq_true rfl) ?_
  refine gv_B ok_CL_init 4 rfl ?_
  refine gv_cast (h' := KA16) rfl ?_
  exact gv_Rv ok_CL_init rfl rfl
def KA17 : gv_H := gv_push (gv_set KA16 4 (Sum.inl (3, 16, Sum.inr (va_up (va_up (va_up (va_up (va_up (va_up (va_up (fun _ => none) 0 (some 5)) 1 (some 7)) 2 (some 9)) 3 (some 11)) 4 (some 13)) 5 (some 15)) 6 (some 17))))) 4 (Sum.inr (2, [gN, gI 0, gI 0, gI 0]))
def KA18 : gv_H := gv_set (gv_push KA17 30 (Sum.inl (0, 30, Sum.inl (fun _ => 0)))) 19 (Sum.inr (2, [gR 20, gI 0, gI 0, gI 0]))
set_option maxRecDepth 100000 in
theorem ct8_CL_init {G : gv_G} {d : Nat} : gv_ev G (d + 0) M_CL_init [gR 19] KA17 (.inl none) KA18 := by
  refine gv_E (ls := [some (gR 19)]) (by decide) (fun h => by cases h) (Nat.le_of_ble_eq_true rfl) rfl ?_
  refine gv_B ok_CL_init 1 rfl ?_
  refine gv_oiJ ok_CL_init rfl (Nat.le_of_ble_eq_true rfl) ?_
  refine gv_B ok_CL_init 4 rfl ?_
  refine gv_cast (h' := KA18) rfl ?_
  exact gv_Rv ok_CL_init rfl rfl
def KA19 : gv_H := gv_push (gv_set KA18 4 (Sum.inl (3, 16, Sum.inr (va_up (va_up (va_up (va_up (va_up (va_up (va_up (va_up (fun _ => none) 0 (some 5)) 1 (some 7)) 2 (some 9)) 3 (some 11)) 4 (some 13)) 5 (some 15)) 6 (some 17)) 7 (some 19))))) 4 (Sum.inr (2, [gN, gI 0, gI 0, gI 0]))
def KA20 : gv_H := gv_set (gv_push KA19 30 (Sum.inl (0, 30, Sum.inl (fun _ => 0)))) 21 (Sum.inr (2, [gR 22, gI 0, gI 0, gI 0]))
set_option maxRecDepth 100000 in
theorem ct9_CL_init {G : gv_G} {d : Nat} : gv_ev G (d + 0) M_CL_init [gR 21] KA19 (.inl none) KA20 := by
  refine gv_E (ls := [some (gR 21)]) (by decide) (fun h => by cases h) (Nat.le_of_ble_eq_true rfl) rfl ?_
  refine gv_B ok_CL_init 1 rfl ?_
  refine gv_oiJ ok_CL_init rfl (Nat.le_of_ble_eq_true rfl) ?_
  refine gv_B ok_CL_init 4 rfl ?_
  refine gv_cast (h' := KA20) rfl ?_
  exact gv_Rv ok_CL_init rfl rfl
def KA21 : gv_H := gv_push (gv_set KA20 4 (Sum.inl (3, 16, Sum.inr (va_up (va_up (va_up (va_up (va_up (va_up (va_up (va_up (va_up (fun _ => none) 0 (some 5)) 1 (some 7)) 2 (some 9)) 3 (some 11)) 4 (some 13)) 5 (some 15)) 6 (some 17)) 7 (some 19)) 8 (some 21))))) 4 (Sum.inr (2, [gN, gI 0, gI 0, gI 0]))
def KA22 : gv_H := gv_set (gv_push KA21 30 (Sum.inl (0, 30, Sum.inl (fun _ => 0)))) 23 (Sum.inr (2, [gR 24, gI 0, gI 0, gI 0]))
set_option maxRecDepth 100000 in
theorem ct10_CL_init {G : gv_G} {d : Nat} : gv_ev G (d + 0) M_CL_init [gR 23] KA21 (.inl none) KA22 := by
  refine gv_E (ls := [some (gR 23)]) (by decide) (fun h => by cases h) (Nat.le_of_ble_eq_true rfl) rfl ?_
  refine gv_B ok_CL_init 1 rfl ?_
  refine gv_oiJ ok_CL_init rfl (Nat.le_of_ble_eq_true rfl) ?_
  refine gv_B ok_CL_init 4 rfl ?_
  refine gv_cast (h' := KA22) rfl ?_
  exact gv_Rv ok_CL_init rfl rfl
def KA23 : gv_H := gv_push (gv_set KA22 4 (Sum.inl (3, 16, Sum.inr (va_up (va_up (va_up (va_up (va_up (va_up (va_up (va_up (va_up (va_up (fun _ => none) 0 (some 5)) 1 (some 7)) 2 (some 9)) 3 (some 11)) 4 (some 13)) 5 (some 15)) 6 (some 17)) 7 (some 19)) 8 (some 21)) 9 (some 23))))) 4 (Sum.inr (2, [gN, gI 0, gI 0, gI 0]))
def KA24 : gv_H := gv_set (gv_push KA23 30 (Sum.inl (0, 30, Sum.inl (fun _ => 0)))) 25 (Sum.inr (2, [gR 26, gI 0, gI 0, gI 0]))
set_option maxRecDepth 100000 in
theorem ct11_CL_init {G : gv_G} {d : Nat} : gv_ev G (d + 0) M_CL_init [gR 25] KA23 (.inl none) KA24 := by
  refine gv_E (ls := [some (gR 25)]) (by decide) (fun h => by cases h) (Nat.le_of_ble_eq_true rfl) rfl ?_
  refine gv_B ok_CL_init 1 rfl ?_
  refine gv_oiJ ok_CL_init rfl (Nat.le_of_ble_eq_true rfl) ?_
  refine gv_B ok_CL_init 4 rfl ?_
  refine gv_cast (h' := KA24) rfl ?_
  exact gv_Rv ok_CL_init rfl rfl
def KA25 : gv_H := gv_push (gv_set KA24 4 (Sum.inl (3, 16, Sum.inr (va_up (va_up (va_up (va_up (va_up (va_up (va_up (va_up (va_up (va_up (va_up (fun _ => none) 0 (some 5)) 1 (some 7)) 2 (some 9)) 3 (some 11)) 4 (some 13)) 5 (some 15)) 6 (some 17)) 7 (some 19)) 8 (some 21)) 9 (some 23)) 10 (some 25))))) 4 (Sum.inr (2, [gN, gI 0, gI 0, gI 0]))
def KA26 : gv_H := gv_set (gv_push KA25 30 (Sum.inl (0, 30, Sum.inl (fun _ => 0)))) 27 (Sum.inr (2, [gR 28, gI 0, gI 0, gI 0]))
set_option maxRecDepth 100000 in
theorem ct12_CL_init {G : gv_G} {d : Nat} : gv_ev G (d + 0) M_CL_init [gR 27] KA25 (.inl none) KA26 := by
  refine gv_E (ls := [some (gR 27)]) (by decide) (fun h => by cases h) (Nat.le_of_ble_eq_true rfl) rfl ?_
  refine gv_B ok_CL_init 1 rfl ?_
  refine gv_oiJ ok_CL_init rfl (Nat.le_of_ble_eq_true rfl) ?_
  refine gv_B ok_CL_init 4 rfl ?_
  refine gv_cast (h' := KA26) rfl ?_
  exact gv_Rv ok_CL_init rfl rfl
def KA27 : gv_H := gv_push (gv_set KA26 4 (Sum.inl (3, 16, Sum.inr (va_up (va_up (va_up (va_up (va_up (va_up (va_up (va_up (va_up (va_up (va_up (va_up (fun _ => none) 0 (some 5)) 1 (some 7)) 2 (some 9)) 3 (some 11)) 4 (some 13)) 5 (some 15)) 6 (some 17)) 7 (some 19)) 8 (some 21)) 9 (some 23)) 10 (some 25)) 11 (some 27))))) 4 (Sum.inr (2, [gN, gI 0, gI 0, gI 0]))
def KA28 : gv_H := gv_set (gv_push KA27 30 (Sum.inl (0, 30, Sum.inl (fun _ => 0)))) 29 (Sum.inr (2, [gR 30, gI 0, gI 0, gI 0]))
set_option maxRecDepth 100000 in
theorem ct13_CL_init {G : gv_G} {d : Nat} : gv_ev G (d + 0) M_CL_init [gR 29] KA27 (.inl none) KA28 := by
  refine gv_E (ls := [some (gR 29)]) (by decide) (fun h => by cases h) (Nat.le_of_ble_eq_true rfl) rfl ?_
  refine gv_B ok_CL_init 1 rfl ?_
  refine gv_oiJ ok_CL_init rfl (Nat.le_of_ble_eq_true rfl) ?_
  refine gv_B ok_CL_init 4 rfl ?_
  refine gv_cast (h' := KA28) rfl ?_
  exact gv_Rv ok_CL_init rfl rfl
def KA29 : gv_H := gv_push (gv_set KA28 4 (Sum.inl (3, 16, Sum.inr (va_up (va_up (va_up (va_up (va_up (va_up (va_up (va_up (va_up (va_up (va_up (va_up (va_up (fun _ => none) 0 (some 5)) 1 (some 7)) 2 (some 9)) 3 (some 11)) 4 (some 13)) 5 (some 15)) 6 (some 17)) 7 (some 19)) 8 (some 21)) 9 (some 23)) 10 (some 25)) 11 (some 27)) 12 (some 29))))) 4 (Sum.inr (2, [gN, gI 0, gI 0, gI 0]))
def KA30 : gv_H := gv_set (gv_push KA29 30 (Sum.inl (0, 30, Sum.inl (fun _ => 0)))) 31 (Sum.inr (2, [gR 32, gI 0, gI 0, gI 0]))
set_option maxRecDepth 100000 in
theorem ct14_CL_init {G : gv_G} {d : Nat} : gv_ev G (d + 0) M_CL_init [gR 31] KA29 (.inl none) KA30 := by
  refine gv_E (ls := [some (gR 31)]) (by decide) (fun h => by cases h) (Nat.le_of_ble_eq_true rfl) rfl ?_
  refine gv_B ok_CL_init 1 rfl ?_
  refine gv_oiJ ok_CL_init rfl (Nat.le_of_ble_eq_true rfl) ?_
  refine gv_B ok_CL_init 4 rfl ?_
  refine gv_cast (h' := KA30) rfl ?_
  exact gv_Rv ok_CL_init rfl rfl
def KA31 : gv_H := gv_push (gv_set KA30 4 (Sum.inl (3, 16, Sum.inr (va_up (va_up (va_up (va_up (va_up (va_up (va_up (va_up (va_up (va_up (va_up (va_up (va_up (va_up (fun _ => none) 0 (some 5)) 1 (some 7)) 2 (some 9)) 3 (some 11)) 4 (some 13)) 5 (some 15)) 6 (some 17)) 7 (some 19)) 8 (some 21)) 9 (some 23)) 10 (some 25)) 11 (some 27)) 12 (some 29)) 13 (some 31))))) 4 (Sum.inr (2, [gN, gI 0, gI 0, gI 0]))
def KA32 : gv_H := gv_set (gv_push KA31 30 (Sum.inl (0, 30, Sum.inl (fun _ => 0)))) 33 (Sum.inr (2, [gR 34, gI 0, gI 0, gI 0]))
set_option maxRecDepth 100000 in
theorem ct15_CL_init {G : gv_G} {d : Nat} : gv_ev G (d + 0) M_CL_init [gR 33] KA31 (.inl none) KA32 := by
  refine gv_E (ls := [some (gR 33)]) (by decide) (fun h => by cases h) (Nat.le_of_ble_eq_true rfl) rfl ?_
  refine gv_B ok_CL_init 1 rfl ?_
  refine gv_oiJ ok_CL_init rfl (Nat.le_of_ble_eq_true rfl) ?_
  refine gv_B ok_CL_init 4 rfl ?_
  refine gv_cast (h' := KA32) rfl ?_
  exact gv_Rv ok_CL_init rfl rfl
def KA33 : gv_H := gv_push (gv_set KA32 4 (Sum.inl (3, 16, Sum.inr (va_up (va_up (va_up (va_up (va_up (va_up (va_up (va_up (va_up (va_up (va_up (va_up (va_up (va_up (va_up (fun _ => none) 0 (some 5)) 1 (some 7)) 2 (some 9)) 3 (some 11)) 4 (some 13)) 5 (some 15)) 6 (some 17)) 7 (some 19)) 8 (some 21)) 9 (some 23)) 10 (some 25)) 11 (some 27)) 12 (some 29)) 13 (some 31)) 14 (some 33))))) 4 (Sum.inr (2, [gN, gI 0, gI 0, gI 0]))
def KA34 : gv_H := gv_set (gv_push KA33 30 (Sum.inl (0, 30, Sum.inl (fun _ => 0)))) 35 (Sum.inr (2, [gR 36, gI 0, gI 0, gI 0]))
set_option maxRecDepth 100000 in
theorem ct16_CL_init {G : gv_G} {d : Nat} : gv_ev G (d + 0) M_CL_init [gR 35] KA33 (.inl none) KA34 := by
  refine gv_E (ls := [some (gR 35)]) (by decide) (fun h => by cases h) (Nat.le_of_ble_eq_true rfl) rfl ?_
  refine gv_B ok_CL_init 1 rfl ?_
  refine gv_oiJ ok_CL_init rfl (Nat.le_of_ble_eq_true rfl) ?_
  refine gv_B ok_CL_init 4 rfl ?_
  refine gv_cast (h' := KA34) rfl ?_
  exact gv_Rv ok_CL_init rfl rfl
def KA35 : gv_H := gv_set KA34 4 (Sum.inl (3, 16, Sum.inr (va_up (va_up (va_up (va_up (va_up (va_up (va_up (va_up (va_up (va_up (va_up (va_up (va_up (va_up (va_up (va_up (fun _ => none) 0 (some 5)) 1 (some 7)) 2 (some 9)) 3 (some 11)) 4 (some 13)) 5 (some 15)) 6 (some 17)) 7 (some 19)) 8 (some 21)) 9 (some 23)) 10 (some 25)) 11 (some 27)) 12 (some 29)) 13 (some 31)) 14 (some 33)) 15 (some 35))))
set_option maxRecDepth 100000 in
theorem ct17_RB_init {G : gv_G} {d : Nat} : gv_ev G (d + 1) M_RB_init [gR 3] KA2 (.inl none) KA35 := by
  refine gv_E (ls := [some (gR 3), none]) (by decide) (fun h => by cases h) (Nat.le_of_ble_eq_true rfl) rfl ?_
  refine gv_B ok_RB_init 1 rfl ?_
  refine gv_oiJ ok_RB_init rfl (Nat.le_of_ble_eq_true rfl) ?_
  refine gv_B ok_RB_init 14 rfl ?_
  refine gv_cast (h' := KA3) rfl ?_
  refine gv_I ok_RB_init rfl mk_CL_init rfl (ct1_CL_init (d := d + 0)) rfl rfl (Nat.le_of_ble_eq_true rfl) ?_
  refine gv_B ok_RB_init 11 rfl ?_
  refine gv_cast (h' := KA5) rfl ?_
  refine gv_I ok_RB_init rfl mk_CL_init rfl (ct2_CL_init (d := d + 0)) rfl rfl (Nat.le_of_ble_eq_true rfl) ?_
  refine gv_B ok_RB_init 11 rfl ?_
  refine gv_cast (h' := KA7) rfl ?_
  refine gv_I ok_RB_init rfl mk_CL_init rfl (ct3_CL_init (d := d + 0)) rfl rfl (Nat.le_of_ble_eq_true rfl) ?_
  refine gv_B ok_RB_init 11 rfl ?_
  refine gv_cast (h' := KA9) rfl ?_
  refine gv_I ok_RB_init rfl mk_CL_init rfl (ct4_CL_init (d := d + 0)) rfl rfl (Nat.le_of_ble_eq_true rfl) ?_
  refine gv_B ok_RB_init 11 rfl ?_
  refine gv_cast (h' := KA11) rfl ?_
  refine gv_I ok_RB_init rfl mk_CL_init rfl (ct5_CL_init (d := d + 0)) rfl rfl (Nat.le_of_ble_eq_true rfl) ?_
  refine gv_B ok_RB_init 11 rfl ?_
  refine gv_cast (h' := KA13) rfl ?_
  refine gv_I ok_RB_init rfl mk_CL_init rfl (ct6_CL_init (d := d + 0)) rfl rfl (Nat.le_of_ble_eq_true rfl) ?_
  refine gv_B ok_RB_init 11 rfl ?_
  refine gv_cast (h' := KA15) rfl ?_
  refine gv_I ok_RB_init rfl mk_CL_init rfl (ct7_CL_init (d := d + 0)) rfl rfl (Nat.le_of_ble_eq_true rfl) ?_
  refine gv_B ok_RB_init 11 rfl ?_
  refine gv_cast (h' := KA17) rfl ?_
  refine gv_I ok_RB_init rfl mk_CL_init rfl (ct8_CL_init (d := d + 0)) rfl rfl (Nat.le_of_ble_eq_true rfl) ?_
  refine gv_B ok_RB_init 11 rfl ?_
  refine gv_cast (h' := KA19) rfl ?_
  refine gv_I ok_RB_init rfl mk_CL_init rfl (ct9_CL_init (d := d + 0)) rfl rfl (Nat.le_of_ble_eq_true rfl) ?_
  refine gv_B ok_RB_init 11 rfl ?_
  refine gv_cast (h' := KA21) rfl ?_
  refine gv_I ok_RB_init rfl mk_CL_init rfl (ct10_CL_init (d := d + 0)) rfl rfl (Nat.le_of_ble_eq_true rfl) ?_
  refine gv_B ok_RB_init 11 rfl ?_
  refine gv_cast (h' := KA23) rfl ?_
  refine gv_I ok_RB_init rfl mk_CL_init rfl (ct11_CL_init (d := d + 0)) rfl rfl (Nat.le_of_ble_eq_true rfl) ?_
  refine gv_B ok_RB_init 11 rfl ?_
  refine gv_cast (h' := KA25) rfl ?_
  refine gv_I ok_RB_init rfl mk_CL_init rfl (ct12_CL_init (d := d + 0)) rfl rfl (Nat.le_of_ble_eq_true rfl) ?_
  refine gv_B ok_RB_init 11 rfl ?_
  refine gv_cast (h' := KA27) rfl ?_
  refine gv_I ok_RB_init rfl mk_CL_init rfl (ct13_CL_init (d := d + 0)) rfl rfl (Nat.le_of_ble_eq_true rfl) ?_
  refine gv_B ok_RB_init 11 rfl ?_
  refine gv_cast (h' := KA29) rfl ?_
  refine gv_I ok_RB_init rfl mk_CL_init rfl (ct14_CL_init (d := d + 0)) rfl rfl (Nat.le_of_ble_eq_true rfl) ?_
  refine gv_B ok_RB_init 11 rfl ?_
  refine gv_cast (h' := KA31) rfl ?_
  refine gv_I ok_RB_init rfl mk_CL_init rfl (ct15_CL_init (d := d + 0)) rfl rfl (Nat.le_of_ble_eq_true rfl) ?_
  refine gv_B ok_RB_init 11 rfl ?_
  refine gv_cast (h' := KA33) rfl ?_
  refine gv_I ok_RB_init rfl mk_CL_init rfl (ct16_CL_init (d := d + 0)) rfl rfl (Nat.le_of_ble_eq_true rfl) ?_
  refine gv_B ok_RB_init 6 rfl ?_
  exact gv_Rv ok_RB_init rfl rfl
def KA36 : gv_H := gv_push (gv_set KA35 1 (Sum.inr (0, [gR 2, gI 0, gR 3, gN]))) 13 (Sum.inr (3, [gN, gN, gN, gN, gN, gN, gN, gN, gN, gI 0, gI 0, gI 0, gI 0]))
def KA37 : gv_H := gv_push KA36 4 (Sum.inr (2, [gN, gI 0, gI 0, gI 0]))
def KA38 : gv_H := gv_set (gv_push KA37 30 (Sum.inl (0, 30, Sum.inl (fun _ => 0)))) 38 (Sum.inr (2, [gR 39, gI 0, gI 0, gI 0]))
set_option maxRecDepth 100000 in
theorem ct18_CL_init {G : gv_G} {d : Nat} : gv_ev G (d + 0) M_CL_init [gR 38] KA37 (.inl none) KA38 := by
  refine gv_E (ls := [some (gR 38)]) (by decide) (fun h => by cases h) (Nat.le_of_ble_eq_true rfl) rfl ?_
  refine gv_B ok_CL_init 1 rfl ?_
  refine gv_oiJ ok_CL_init rfl (Nat.le_of_ble_eq_true rfl) ?_
  refine gv_B ok_CL_init 4 rfl ?_
  refine gv_cast (h' := KA38) rfl ?_
  exact gv_Rv ok_CL_init rfl rfl
def KA39 : gv_H := gv_push (gv_set (gv_set KA38 37 (Sum.inr (3, [gN, gR 38, gN, gN, gN, gN, gN, gN, gN, gI 0, gI 0, gI 0, gI 0]))) 37 (Sum.inr (3, [gR 3, gR 38, gN, gN, gN, gN, gN, gN, gN, gI 0, gI 0, gI 0, gI 0]))) 9 (Sum.inr (4, [gN, gI 0, gN, gI 0, gN, gN, gI 0, gN, gI 0]))
def KA40 : gv_H := gv_set (gv_push (gv_set (gv_push KA39 240 (Sum.inl (0, 240, Sum.inl (fun _ => 0)))) 40 (Sum.inr (4, [gR 41, gI 0, gN, gI 0, gN, gN, gI 0, gN, gI 0]))) 240 (Sum.inl (0, 240, Sum.inl (fun _ => 0)))) 40 (Sum.inr (4, [gR 41, gI 0, gR 42, gI 0, gN, gN, gI 0, gN, gI 0]))
def KA41 : gv_H := gv_set (gv_push (gv_set (gv_push KA40 8 (Sum.inl (0, 8, Sum.inl (fun _ => 0)))) 40 (Sum.inr (4, [gR 41, gI 0, gR 42, gI 0, gR 43, gN, gI 0, gN, gI 0]))) 30 (Sum.inl (0, 30, Sum.inl (fun _ => 0)))) 40 (Sum.inr (4, [gR 41, gI 0, gR 42, gI 0, gR 43, gR 44, gI 0, gN, gI 0]))
def KA42 : gv_H := gv_set (gv_push KA41 30 (Sum.inl (0, 30, Sum.inl (fun _ => 0)))) 40 (Sum.inr (4, [gR 41, gI 0, gR 42, gI 0, gR 43, gR 44, gI 0, gR 45, gI 0]))
set_option maxRecDepth 100000 in
theorem ct19_CE_init {G : gv_G} {d : Nat} : gv_ev G (d + 0) M_CE_init [gR 40] KA39 (.inl none) KA42 := by
  refine gv_E (ls := [some (gR 40)]) (by decide) (fun h => by cases h) (Nat.le_of_ble_eq_true rfl) rfl ?_
  refine gv_B ok_CE_init 1 rfl ?_
  refine gv_oiJ ok_CE_init rfl (Nat.le_of_ble_eq_true rfl) ?_
  refine gv_B ok_CE_init 8 rfl ?_
  refine gv_cast (h' := KA40) rfl ?_
  refine gv_B ok_CE_init 8 rfl ?_
  refine gv_cast (h' := KA41) rfl ?_
  refine gv_B ok_CE_init 4 rfl ?_
  refine gv_cast (h' := KA42) rfl ?_
  exact gv_Rv ok_CE_init rfl rfl
def KA43 : gv_H := gv_push (gv_set KA42 37 (Sum.inr (3, [gR 3, gR 38, gR 40, gN, gN, gN, gN, gN, gN, gI 0, gI 0, gI 0, gI 0]))) 4 (Sum.inr (5, [gN, gN, gN, gI 0]))
def KA44 : gv_H := gv_set (gv_push (gv_set (gv_push KA43 240 (Sum.inl (2, 240, Sum.inl (fun _ => 0)))) 46 (Sum.inr (5, [gN, gR 47, gN, gI 0]))) 240 (Sum.inl (0, 240, Sum.inl (fun _ => 0)))) 46 (Sum.inr (5, [gN, gR 47, gR 48, gI 0]))
def KA45 : gv_H := gv_set KA44 46 (Sum.inr (5, [gR 40, gR 47, gR 48, gI 0]))
set_option maxRecDepth 100000 in
theorem ct20_TR_init {G : gv_G} {d : Nat} : gv_ev G (d + 0) M_TR_init [gR 46, gR 40] KA43 (.inl none) KA45 := by
  refine gv_E (ls := [some (gR 46), some (gR 40)]) (by decide) (fun h => by cases h) (Nat.le_of_ble_eq_true rfl) rfl ?_
  refine gv_B ok_TR_init 1 rfl ?_
  refine gv_oiJ ok_TR_init rfl (Nat.le_of_ble_eq_true rfl) ?_
  refine gv_B ok_TR_init 8 rfl ?_
  refine gv_cast (h' := KA44) rfl ?_
  refine gv_B ok_TR_init 3 rfl ?_
  exact gv_Rv ok_TR_init rfl rfl
def KA46 : gv_H := gv_push KA45 5 (Sum.inr (6, [gN, gN, gN, gN, gI 0]))
def KA47 : gv_H := gv_set (gv_push (gv_set (gv_push KA46 601 (Sum.inl (0, 601, Sum.inl (fun _ => 0)))) 49 (Sum.inr (6, [gN, gN, gR 50, gN, gI 0]))) 601 (Sum.inl (0, 601, Sum.inl (fun _ => 0)))) 49 (Sum.inr (6, [gN, gN, gR 50, gR 51, gI 0]))
def KA48 : gv_H := gv_set (gv_set KA47 49 (Sum.inr (6, [gR 40, gN, gR 50, gR 51, gI 0]))) 49 (Sum.inr (6, [gR 40, gR 46, gR 50, gR 51, gI 0]))
set_option maxRecDepth 100000 in
theorem ct21_UN_init {G : gv_G} {d : Nat} : gv_ev G (d + 0) M_UN_init [gR 49, gR 40, gR 46] KA46 (.inl none) KA48 := by
  refine gv_E (ls := [some (gR 49), some (gR 40), some (gR 46)]) (by decide) (fun h => by cases h) (Nat.le_of_ble_eq_true rfl) rfl ?_
  refine gv_B ok_UN_init 1 rfl ?_
  refine gv_oiJ ok_UN_init rfl (Nat.le_of_ble_eq_true rfl) ?_
  refine gv_B ok_UN_init 8 rfl ?_
  refine gv_cast (h' := KA47) rfl ?_
  refine gv_B ok_UN_init 6 rfl ?_
  refine gv_cast (h' := KA48) rfl ?_
  exact gv_Rv ok_UN_init rfl rfl
def KA49 : gv_H := gv_push (gv_set KA48 37 (Sum.inr (3, [gR 3, gR 38, gR 40, gR 49, gN, gN, gN, gN, gN, gI 0, gI 0, gI 0, gI 0]))) 2 (Sum.inr (7, [gN, gI 0]))
def KA50 : gv_H := gv_set KA49 52 (Sum.inr (7, [gR 40, gI 0]))
set_option maxRecDepth 100000 in
theorem ct22_CA_init {G : gv_G} {d : Nat} : gv_ev G (d + 0) M_CA_init [gR 52, gR 40] KA49 (.inl none) KA50 := by
  refine gv_E (ls := [some (gR 52), some (gR 40)]) (by decide) (fun h => by cases h) (Nat.le_of_ble_eq_true rfl) rfl ?_
  refine gv_B ok_CA_init 1 rfl ?_
  refine gv_oiJ ok_CA_init rfl (Nat.le_of_ble_eq_true rfl) ?_
  refine gv_B ok_CA_init 3 rfl ?_
  exact gv_Rv ok_CA_init rfl rfl
def KA51 : gv_H := gv_push (gv_set KA50 37 (Sum.inr (3, [gR 3, gR 38, gR 40, gR 49, gR 52, gN, gN, gN, gN, gI 0, gI 0, gI 0, gI 0]))) 4 (Sum.inr (8, [gN, gN, gN, gN]))
def KA52 : gv_H := gv_set (gv_push (gv_set (gv_push KA51 60 (Sum.inl (0, 60, Sum.inl (fun _ => 0)))) 53 (Sum.inr (8, [gR 54, gN, gN, gN]))) 60 (Sum.inl (0, 60, Sum.inl (fun _ => 0)))) 53 (Sum.inr (8, [gR 54, gR 55, gN, gN]))
def KA53 : gv_H := gv_set (gv_push (gv_set (gv_push KA52 60 (Sum.inl (0, 60, Sum.inl (fun _ => 0)))) 53 (Sum.inr (8, [gR 54, gR 55, gR 56, gN]))) 60 (Sum.inl (2, 60, Sum.inl (fun _ => 0)))) 53 (Sum.inr (8, [gR 54, gR 55, gR 56, gR 57]))
set_option maxRecDepth 100000 in
theorem ct23_GO_init {G : gv_G} {d : Nat} : gv_ev G (d + 0) M_GO_init [gR 53] KA51 (.inl none) KA53 := by
  refine gv_E (ls := [some (gR 53)]) (by decide) (fun h => by cases h) (Nat.le_of_ble_eq_true rfl) rfl ?_
  refine gv_B ok_GO_init 1 rfl ?_
  refine gv_oiJ ok_GO_init rfl (Nat.le_of_ble_eq_true rfl) ?_
  refine gv_B ok_GO_init 8 rfl ?_
  refine gv_cast (h' := KA52) rfl ?_
  refine gv_B ok_GO_init 8 rfl ?_
  refine gv_cast (h' := KA53) rfl ?_
  exact gv_Rv ok_GO_init rfl rfl
def KA54 : gv_H := gv_push (gv_set KA53 37 (Sum.inr (3, [gR 3, gR 38, gR 40, gR 49, gR 52, gR 53, gN, gN, gN, gI 0, gI 0, gI 0, gI 0]))) 6 (Sum.inr (9, [gN, gN, gN, gN, gN, gI 0]))
def KA55 : gv_H := gv_set (gv_push (gv_set (gv_push KA54 300 (Sum.inl (0, 300, Sum.inl (fun _ => 0)))) 58 (Sum.inr (9, [gR 59, gN, gN, gN, gN, gI 0]))) 300 (Sum.inl (0, 300, Sum.inl (fun _ => 0)))) 58 (Sum.inr (9, [gR 59, gR 60, gN, gN, gN, gI 0]))
def KA56 : gv_H := gv_set (gv_push (gv_set (gv_push KA55 300 (Sum.inl (0, 300, Sum.inl (fun _ => 0)))) 58 (Sum.inr (9, [gR 59, gR 60, gR 61, gN, gN, gI 0]))) 300 (Sum.inl (0, 300, Sum.inl (fun _ => 0)))) 58 (Sum.inr (9, [gR 59, gR 60, gR 61, gR 62, gN, gI 0]))
def KA57 : gv_H := gv_set (gv_push KA56 300 (Sum.inl (0, 300, Sum.inl (fun _ => 0)))) 58 (Sum.inr (9, [gR 59, gR 60, gR 61, gR 62, gR 63, gI 0]))
set_option maxRecDepth 100000 in
theorem ct24_CH_init {G : gv_G} {d : Nat} : gv_ev G (d + 0) M_CH_init [gR 58] KA54 (.inl none) KA57 := by
  refine gv_E (ls := [some (gR 58)]) (by decide) (fun h => by cases h) (Nat.le_of_ble_eq_true rfl) rfl ?_
  refine gv_B ok_CH_init 1 rfl ?_
  refine gv_oiJ ok_CH_init rfl (Nat.le_of_ble_eq_true rfl) ?_
  refine gv_B ok_CH_init 8 rfl ?_
  refine gv_cast (h' := KA55) rfl ?_
  refine gv_B ok_CH_init 8 rfl ?_
  refine gv_cast (h' := KA56) rfl ?_
  refine gv_B ok_CH_init 4 rfl ?_
  refine gv_cast (h' := KA57) rfl ?_
  exact gv_Rv ok_CH_init rfl rfl
def KA58 : gv_H := gv_push (gv_set KA57 37 (Sum.inr (3, [gR 3, gR 38, gR 40, gR 49, gR 52, gR 53, gR 58, gN, gN, gI 0, gI 0, gI 0, gI 0]))) 6 (Sum.inr (10, [gN, gN, gN, gN, gN, gI 0]))
def KA59 : gv_H := gv_set (gv_set (gv_set (gv_push KA58 241 (Sum.inl (0, 241, Sum.inl (fun _ => 0)))) 64 (Sum.inr (10, [gN, gN, gN, gN, gR 65, gI 0]))) 64 (Sum.inr (10, [gR 40, gN, gN, gN, gR 65, gI 0]))) 64 (Sum.inr (10, [gR 40, gR 53, gN, gN, gR 65, gI 0]))
def KA60 : gv_H := gv_set (gv_set KA59 64 (Sum.inr (10, [gR 40, gR 53, gR 58, gN, gR 65, gI 0]))) 64 (Sum.inr (10, [gR 40, gR 53, gR 58, gR 46, gR 65, gI 0]))
set_option maxRecDepth 100000 in
theorem ct25_CO_init {G : gv_G} {d : Nat} : gv_ev G (d + 0) M_CO_init [gR 64, gR 40, gR 53, gR 58, gR 46] KA58 (.inl none) KA60 := by
  refine gv_E (ls := [some (gR 64), some (gR 40), some (gR 53), some (gR 58), some (gR 46)]) (by decide) (fun h => by cases h) (Nat.le_of_ble_eq_true rfl) rfl ?_
  refine gv_B ok_CO_init 1 rfl ?_
  refine gv_oiJ ok_CO_init rfl (Nat.le_of_ble_eq_true rfl) ?_
  refine gv_B ok_CO_init 10 rfl ?_
  refine gv_cast (h' := KA59) rfl ?_
  refine gv_B ok_CO_init 6 rfl ?_
  refine gv_cast (h' := KA60) rfl ?_
  exact gv_Rv ok_CO_init rfl rfl
def KA61 : gv_H := gv_push (gv_set KA60 37 (Sum.inr (3, [gR 3, gR 38, gR 40, gR 49, gR 52, gR 53, gR 58, gR 64, gN, gI 0, gI 0, gI 0, gI 0]))) 7 (Sum.inr (11, [gN, gN, gI 0, gN, gI 0, gN, gI 0]))
def KA62 : gv_H := gv_set (gv_push (gv_set (gv_push KA61 90 (Sum.inl (0, 90, Sum.inl (fun _ => 0)))) 66 (Sum.inr (11, [gN, gR 67, gI 0, gN, gI 0, gN, gI 0]))) 90 (Sum.inl (0, 90, Sum.inl (fun _ => 0)))) 66 (Sum.inr (11, [gN, gR 67, gI 0, gR 68, gI 0, gN, gI 0]))
def KA63 : gv_H := gv_set (gv_set (gv_push KA62 181 (Sum.inl (0, 181, Sum.inl (fun _ => 0)))) 66 (Sum.inr (11, [gN, gR 67, gI 0, gR 68, gI 0, gR 69, gI 0]))) 66 (Sum.inr (11, [gR 40, gR 67, gI 0, gR 68, gI 0, gR 69, gI 0]))
set_option maxRecDepth 100000 in
theorem ct26_AN_init {G : gv_G} {d : Nat} : gv_ev G (d + 0) M_AN_init [gR 66, gR 40] KA61 (.inl none) KA63 := by
  refine gv_E (ls := [some (gR 66), some (gR 40)]) (by decide) (fun h => by cases h) (Nat.le_of_ble_eq_true rfl) rfl ?_
  refine gv_B ok_AN_init 1 rfl ?_
  refine gv_oiJ ok_AN_init rfl (Nat.le_of_ble_eq_true rfl) ?_
  refine gv_B ok_AN_init 8 rfl ?_
  refine gv_cast (h' := KA62) rfl ?_
  refine gv_B ok_AN_init 7 rfl ?_
  refine gv_cast (h' := KA63) rfl ?_
  exact gv_Rv ok_AN_init rfl rfl
def KA64 : gv_H := gv_set (gv_set (gv_set (gv_set KA63 37 (Sum.inr (3, [gR 3, gR 38, gR 40, gR 49, gR 52, gR 53, gR 58, gR 64, gR 66, gI 0, gI 0, gI 0, gI 0]))) 37 (Sum.inr (3, [gR 3, gR 38, gR 40, gR 49, gR 52, gR 53, gR 58, gR 64, gR 66, gI (-1), gI 0, gI 0, gI 0]))) 37 (Sum.inr (3, [gR 3, gR 38, gR 40, gR 49, gR 52, gR 53, gR 58, gR 64, gR 66, gI (-1), gI (-1), gI 0, gI 0]))) 37 (Sum.inr (3, [gR 3, gR 38, gR 40, gR 49, gR 52, gR 53, gR 58, gR 64, gR 66, gI (-1), gI (-1), gI 0, gI 0]))
def KA65 : gv_H := gv_set KA64 37 (Sum.inr (3, [gR 3, gR 38, gR 40, gR 49, gR 52, gR 53, gR 58, gR 64, gR 66, gI (-1), gI (-1), gI 0, gI 300]))
set_option maxRecDepth 100000 in
theorem ct27_SE_init {G : gv_G} {d : Nat} : gv_ev G (d + 1) M_SE_init [gR 37, gR 3] KA36 (.inl none) KA65 := by
  refine gv_E (ls := [some (gR 37), some (gR 3), none]) (by decide) (fun h => by cases h) (Nat.le_of_ble_eq_true rfl) rfl ?_
  refine gv_B ok_SE_init 1 rfl ?_
  refine gv_oiJ ok_SE_init rfl (Nat.le_of_ble_eq_true rfl) ?_
  refine gv_B ok_SE_init 3 rfl ?_
  refine gv_I ok_SE_init rfl mk_CL_init rfl (ct18_CL_init (d := d + 0)) rfl rfl (Nat.le_of_ble_eq_true rfl) ?_
  refine gv_B ok_SE_init 7 rfl ?_
  refine gv_cast (h' := KA39) rfl ?_
  refine gv_I ok_SE_init rfl mk_CE_init rfl (ct19_CE_init (d := d + 0)) rfl rfl (Nat.le_of_ble_eq_true rfl) ?_
  refine gv_B ok_SE_init 5 rfl ?_
  refine gv_cast (h' := KA43) rfl ?_
  refine gv_I ok_SE_init rfl mk_TR_init rfl (ct20_TR_init (d := d + 0)) rfl rfl (Nat.le_of_ble_eq_true rfl) ?_
  refine gv_B ok_SE_init 7 rfl ?_
  refine gv_I ok_SE_init rfl mk_UN_init rfl (ct21_UN_init (d := d + 0)) rfl rfl (Nat.le_of_ble_eq_true rfl) ?_
  refine gv_B ok_SE_init 6 rfl ?_
  refine gv_cast (h' := KA49) rfl ?_
  refine gv_I ok_SE_init rfl mk_CA_init rfl (ct22_CA_init (d := d + 0)) rfl rfl (Nat.le_of_ble_eq_true rfl) ?_
  refine gv_B ok_SE_init 4 rfl ?_
  refine gv_cast (h' := KA51) rfl ?_
  refine gv_I ok_SE_init rfl mk_GO_init rfl (ct23_GO_init (d := d + 0)) rfl rfl (Nat.le_of_ble_eq_true rfl) ?_
  refine gv_B ok_SE_init 4 rfl ?_
  refine gv_cast (h' := KA54) rfl ?_
  refine gv_I ok_SE_init rfl mk_CH_init rfl (ct24_CH_init (d := d + 0)) rfl rfl (Nat.le_of_ble_eq_true rfl) ?_
  refine gv_B ok_SE_init 11 rfl ?_
  refine gv_cast (h' := KA58) rfl ?_
  refine gv_I ok_SE_init rfl mk_CO_init rfl (ct25_CO_init (d := d + 0)) rfl rfl (Nat.le_of_ble_eq_true rfl) ?_
  refine gv_B ok_SE_init 6 rfl ?_
  refine gv_cast (h' := KA61) rfl ?_
  refine gv_I ok_SE_init rfl mk_AN_init rfl (ct26_AN_init (d := d + 0)) rfl rfl (Nat.le_of_ble_eq_true rfl) ?_
  refine gv_B ok_SE_init 10 rfl ?_
  refine gv_cast (h' := KA64) rfl ?_
  refine gv_B ok_SE_init 3 rfl ?_
  exact gv_Rv ok_SE_init rfl rfl
def KA66 : gv_H := gv_set KA65 1 (Sum.inr (0, [gR 2, gI 0, gR 3, gR 37]))
set_option maxRecDepth 100000 in
theorem ct28_GE_init {G : gv_G} {d : Nat} : gv_ev G (d + 2) M_GE_init [gR 1] KA1 (.inl none) KA66 := by
  refine gv_E (ls := [some (gR 1)]) (by decide) (fun h => by cases h) (Nat.le_of_ble_eq_true rfl) rfl ?_
  refine gv_B ok_GE_init 1 rfl ?_
  refine gv_oiJ ok_GE_init rfl (Nat.le_of_ble_eq_true rfl) ?_
  refine gv_B ok_GE_init 9 rfl ?_
  refine gv_cast (h' := KA2) rfl ?_
  refine gv_B ok_GE_init 1 rfl ?_
  refine gv_I ok_GE_init rfl mk_RB_init rfl (ct17_RB_init (d := d + 0)) rfl rfl (Nat.le_of_ble_eq_true rfl) ?_
  refine gv_B ok_GE_init 6 rfl ?_
  refine gv_cast (h' := KA36) rfl ?_
  refine gv_I ok_GE_init rfl mk_SE_init rfl (ct27_SE_init (d := d + 0)) rfl rfl (Nat.le_of_ble_eq_true rfl) ?_
  refine gv_B ok_GE_init 1 rfl ?_
  exact gv_Rv ok_GE_init rfl rfl
def KA67 : gv_H := gv_push KA66 50 (Sum.inr (12, [gI 0, gI 0, gN, gI 0, gN, gN, gN, gN, gN, gN, gN, gN, gI 0, gI 0, gN, gN, gI 0, gI 0, gI 0, gN, gN, gN, gN, gI 0, gN, gI 0, gI 0, gI 0, gI 0, gN, gI 0, gN, gN, gN, gI 0, gI 0, gI 0, gN, gI 0, gN, gI 0, gI 0, gN, gI 0, gN, gN, gI 0, gN, gN, gI 0]))
def KA68 : gv_H := gv_set (gv_push (gv_set (gv_push KA67 30 (Sum.inl (0, 30, Sum.inl (fun _ => 0)))) 70 (Sum.inr (12, [gI 0, gI 0, gR 71, gI 0, gN, gN, gN, gN, gN, gN, gN, gN, gI 0, gI 0, gN, gN, gI 0, gI 0, gI 0, gN, gN, gN, gN, gI 0, gN, gI 0, gI 0, gI 0, gI 0, gN, gI 0, gN, gN, gN, gI 0, gI 0, gI 0, gN, gI 0, gN, gI 0, gI 0, gN, gI 0, gN, gN, gI 0, gN, gN, gI 0]))) 480 (Sum.inl (0, 480, Sum.inl (fun _ => 0)))) 70 (Sum.inr (12, [gI 0, gI 0, gR 71, gI 0, gR 72, gN, gN, gN, gN, gN, gN, gN, gI 0, gI 0, gN, gN, gI 0, gI 0, gI 0, gN, gN, gN, gN, gI 0, gN, gI 0, gI 0, gI 0, gI 0, gN, gI 0, gN, gN, gN, gI 0, gI 0, gI 0, gN, gI 0, gN, gI 0, gI 0, gN, gI 0, gN, gN, gI 0, gN, gN, gI 0]))
def KA69 : gv_H := gv_set (gv_push (gv_set (gv_push KA68 16 (Sum.inl (0, 16, Sum.inl (fun _ => 0)))) 70 (Sum.inr (12, [gI 0, gI 0, gR 71, gI 0, gR 72, gR 73, gN, gN, gN, gN, gN, gN, gI 0, gI 0, gN, gN, gI 0, gI 0, gI 0, gN, gN, gN, gN, gI 0, gN, gI 0, gI 0, gI 0, gI 0, gN, gI 0, gN, gN, gN, gI 0, gI 0, gI 0, gN, gI 0, gN, gI 0, gI 0, gN, gI 0, gN, gN, gI 0, gN, gN, gI 0]))) 240 (Sum.inl (0, 240, Sum.inl (fun _ => 0)))) 70 (Sum.inr (12, [gI 0, gI 0, gR 71, gI 0, gR 72, gR 73, gR 74, gN, gN, gN, gN, gN, gI 0, gI 0, gN, gN, gI 0, gI 0, gI 0, gN, gN, gN, gN, gI 0, gN, gI 0, gI 0, gI 0, gI 0, gN, gI 0, gN, gN, gN, gI 0, gI 0, gI 0, gN, gI 0, gN, gI 0, gI 0, gN, gI 0, gN, gN, gI 0, gN, gN, gI 0]))
def KA70 : gv_H := gv_set (gv_push (gv_set (gv_push KA69 240 (Sum.inl (0, 240, Sum.inl (fun _ => 0)))) 70 (Sum.inr (12, [gI 0, gI 0, gR 71, gI 0, gR 72, gR 73, gR 74, gR 75, gN, gN, gN, gN, gI 0, gI 0, gN, gN, gI 0, gI 0, gI 0, gN, gN, gN, gN, gI 0, gN, gI 0, gI 0, gI 0, gI 0, gN, gI 0, gN, gN, gN, gI 0, gI 0, gI 0, gN, gI 0, gN, gI 0, gI 0, gN, gI 0, gN, gN, gI 0, gN, gN, gI 0]))) 240 (Sum.inl (0, 240, Sum.inl (fun _ => 0)))) 70 (Sum.inr (12, [gI 0, gI 0, gR 71, gI 0, gR 72, gR 73, gR 74, gR 75, gR 76, gN, gN, gN, gI 0, gI 0, gN, gN, gI 0, gI 0, gI 0, gN, gN, gN, gN, gI 0, gN, gI 0, gI 0, gI 0, gI 0, gN, gI 0, gN, gN, gN, gI 0, gI 0, gI 0, gN, gI 0, gN, gI 0, gI 0, gN, gI 0, gN, gN, gI 0, gN, gN, gI 0]))
def KA71 : gv_H := gv_set (gv_push (gv_set (gv_push KA70 240 (Sum.inl (0, 240, Sum.inl (fun _ => 0)))) 70 (Sum.inr (12, [gI 0, gI 0, gR 71, gI 0, gR 72, gR 73, gR 74, gR 75, gR 76, gR 77, gN, gN, gI 0, gI 0, gN, gN, gI 0, gI 0, gI 0, gN, gN, gN, gN, gI 0, gN, gI 0, gI 0, gI 0, gI 0, gN, gI 0, gN, gN, gN, gI 0, gI 0, gI 0, gN, gI 0, gN, gI 0, gI 0, gN, gI 0, gN, gN, gI 0, gN, gN, gI 0]))) 240 (Sum.inl (0, 240, Sum.inl (fun _ => 0)))) 70 (Sum.inr (12, [gI 0, gI 0, gR 71, gI 0, gR 72, gR 73, gR 74, gR 75, gR 76, gR 77, gR 78, gN, gI 0, gI 0, gN, gN, gI 0, gI 0, gI 0, gN, gN, gN, gN, gI 0, gN, gI 0, gI 0, gI 0, gI 0, gN, gI 0, gN, gN, gN, gI 0, gI 0, gI 0, gN, gI 0, gN, gI 0, gI 0, gN, gI 0, gN, gN, gI 0, gN, gN, gI 0]))
def KA72 : gv_H := gv_set (gv_push (gv_set (gv_push KA71 720 (Sum.inl (0, 720, Sum.inl (fun _ => 0)))) 70 (Sum.inr (12, [gI 0, gI 0, gR 71, gI 0, gR 72, gR 73, gR 74, gR 75, gR 76, gR 77, gR 78, gR 79, gI 0, gI 0, gN, gN, gI 0, gI 0, gI 0, gN, gN, gN, gN, gI 0, gN, gI 0, gI 0, gI 0, gI 0, gN, gI 0, gN, gN, gN, gI 0, gI 0, gI 0, gN, gI 0, gN, gI 0, gI 0, gN, gI 0, gN, gN, gI 0, gN, gN, gI 0]))) 8900 (Sum.inl (0, 8900, Sum.inl (fun _ => 0)))) 70 (Sum.inr (12, [gI 0, gI 0, gR 71, gI 0, gR 72, gR 73, gR 74, gR 75, gR 76, gR 77, gR 78, gR 79, gI 0, gI 0, gR 80, gN, gI 0, gI 0, gI 0, gN, gN, gN, gN, gI 0, gN, gI 0, gI 0, gI 0, gI 0, gN, gI 0, gN, gN, gN, gI 0, gI 0, gI 0, gN, gI 0, gN, gI 0, gI 0, gN, gI 0, gN, gN, gI 0, gN, gN, gI 0]))
def KA73 : gv_H := gv_set (gv_set (gv_set (gv_push KA72 8900 (Sum.inl (0, 8900, Sum.inl (fun _ => 0)))) 70 (Sum.inr (12, [gI 0, gI 0, gR 71, gI 0, gR 72, gR 73, gR 74, gR 75, gR 76, gR 77, gR 78, gR 79, gI 0, gI 0, gR 80, gR 81, gI 0, gI 0, gI 0, gN, gN, gN, gN, gI 0, gN, gI 0, gI 0, gI 0, gI 0, gN, gI 0, gN, gN, gN, gI 0, gI 0, gI 0, gN, gI 0, gN, gI 0, gI 0, gN, gI 0, gN, gN, gI 0, gN, gN, gI 0]))) 70 (Sum.inr (12, [gI 0, gI 0, gR 71, gI 0, gR 72, gR 73, gR 74, gR 75, gR 76, gR 77, gR 78, gR 79, gI 0, gI 0, gR 80, gR 81, gI (-1), gI 0, gI 0, gN, gN, gN, gN, gI 0, gN, gI 0, gI 0, gI 0, gI 0, gN, gI 0, gN, gN, gN, gI 0, gI 0, gI 0, gN, gI 0, gN, gI 0, gI 0, gN, gI 0, gN, gN, gI 0, gN, gN, gI 0]))) 70 (Sum.inr (12, [gI 0, gI 0, gR 71, gI 0, gR 72, gR 73, gR 74, gR 75, gR 76, gR 77, gR 78, gR 79, gI 0, gI 0, gR 80, gR 81, gI (-1), gI (-1), gI 0, gN, gN, gN, gN, gI 0, gN, gI 0, gI 0, gI 0, gI 0, gN, gI 0, gN, gN, gN, gI 0, gI 0, gI 0, gN, gI 0, gN, gI 0, gI 0, gN, gI 0, gN, gN, gI 0, gN, gN, gI 0]))
def KA74 : gv_H := gv_set (gv_push (gv_set (gv_push KA73 320 (Sum.inl (0, 320, Sum.inl (fun _ => 0)))) 70 (Sum.inr (12, [gI 0, gI 0, gR 71, gI 0, gR 72, gR 73, gR 74, gR 75, gR 76, gR 77, gR 78, gR 79, gI 0, gI 0, gR 80, gR 81, gI (-1), gI (-1), gI 0, gR 82, gN, gN, gN, gI 0, gN, gI 0, gI 0, gI 0, gI 0, gN, gI 0, gN, gN, gN, gI 0, gI 0, gI 0, gN, gI 0, gN, gI 0, gI 0, gN, gI 0, gN, gN, gI 0, gN, gN, gI 0]))) 320 (Sum.inl (0, 320, Sum.inl (fun _ => 0)))) 70 (Sum.inr (12, [gI 0, gI 0, gR 71, gI 0, gR 72, gR 73, gR 74, gR 75, gR 76, gR 77, gR 78, gR 79, gI 0, gI 0, gR 80, gR 81, gI (-1), gI (-1), gI 0, gR 82, gR 83, gN, gN, gI 0, gN, gI 0, gI 0, gI 0, gI 0, gN, gI 0, gN, gN, gN, gI 0, gI 0, gI 0, gN, gI 0, gN, gI 0, gI 0, gN, gI 0, gN, gN, gI 0, gN, gN, gI 0]))
def KA75 : gv_H := gv_set (gv_push (gv_set (gv_push KA74 320 (Sum.inl (0, 320, Sum.inl (fun _ => 0)))) 70 (Sum.inr (12, [gI 0, gI 0, gR 71, gI 0, gR 72, gR 73, gR 74, gR 75, gR 76, gR 77, gR 78, gR 79, gI 0, gI 0, gR 80, gR 81, gI (-1), gI (-1), gI 0, gR 82, gR 83, gR 84, gN, gI 0, gN, gI 0, gI 0, gI 0, gI 0, gN, gI 0, gN, gN, gN, gI 0, gI 0, gI 0, gN, gI 0, gN, gI 0, gI 0, gN, gI 0, gN, gN, gI 0, gN, gN, gI 0]))) 320 (Sum.inl (0, 320, Sum.inl (fun _ => 0)))) 70 (Sum.inr (12, [gI 0, gI 0, gR 71, gI 0, gR 72, gR 73, gR 74, gR 75, gR 76, gR 77, gR 78, gR 79, gI 0, gI 0, gR 80, gR 81, gI (-1), gI (-1), gI 0, gR 82, gR 83, gR 84, gR 85, gI 0, gN, gI 0, gI 0, gI 0, gI 0, gN, gI 0, gN, gN, gN, gI 0, gI 0, gI 0, gN, gI 0, gN, gI 0, gI 0, gN, gI 0, gN, gN, gI 0, gN, gN, gI 0]))
def KA76 : gv_H := gv_push (gv_set (gv_set (gv_push KA75 2600 (Sum.inl (0, 2600, Sum.inl (fun _ => 0)))) 70 (Sum.inr (12, [gI 0, gI 0, gR 71, gI 0, gR 72, gR 73, gR 74, gR 75, gR 76, gR 77, gR 78, gR 79, gI 0, gI 0, gR 80, gR 81, gI (-1), gI (-1), gI 0, gR 82, gR 83, gR 84, gR 85, gI 0, gR 86, gI 0, gI 0, gI 0, gI 0, gN, gI 0, gN, gN, gN, gI 0, gI 0, gI 0, gN, gI 0, gN, gI 0, gI 0, gN, gI 0, gN, gN, gI 0, gN, gN, gI 0]))) 70 (Sum.inr (12, [gI 0, gI 0, gR 71, gI 0, gR 72, gR 73, gR 74, gR 75, gR 76, gR 77, gR 78, gR 79, gI 0, gI 0, gR 80, gR 81, gI (-1), gI (-1), gI 0, gR 82, gR 83, gR 84, gR 85, gI 0, gR 86, gI 0, gI 0, gI 300, gI 0, gN, gI 0, gN, gN, gN, gI 0, gI 0, gI 0, gN, gI 0, gN, gI 0, gI 0, gN, gI 0, gN, gN, gI 0, gN, gN, gI 0]))) 8 (Sum.inl (0, 8, Sum.inl (fun _ => 0)))
def KA77 : gv_H := gv_push (gv_set (gv_push (gv_set KA76 70 (Sum.inr (12, [gI 0, gI 0, gR 71, gI 0, gR 72, gR 73, gR 74, gR 75, gR 76, gR 77, gR 78, gR 79, gI 0, gI 0, gR 80, gR 81, gI (-1), gI (-1), gI 0, gR 82, gR 83, gR 84, gR 85, gI 0, gR 86, gI 0, gI 0, gI 300, gI 0, gR 87, gI 0, gN, gN, gN, gI 0, gI 0, gI 0, gN, gI 0, gN, gI 0, gI 0, gN, gI 0, gN, gN, gI 0, gN, gN, gI 0]))) 1600 (Sum.inl (0, 1600, Sum.inl (fun _ => 0)))) 70 (Sum.inr (12, [gI 0, gI 0, gR 71, gI 0, gR 72, gR 73, gR 74, gR 75, gR 76, gR 77, gR 78, gR 79, gI 0, gI 0, gR 80, gR 81, gI (-1), gI (-1), gI 0, gR 82, gR 83, gR 84, gR 85, gI 0, gR 86, gI 0, gI 0, gI 300, gI 0, gR 87, gI 0, gR 88, gN, gN, gI 0, gI 0, gI 0, gN, gI 0, gN, gI 0, gI 0, gN, gI 0, gN, gN, gI 0, gN, gN, gI 0]))) 1600 (Sum.inl (0, 1600, Sum.inl (fun _ => 0)))
def KA78 : gv_H := gv_push (gv_set (gv_push (gv_set KA77 70 (Sum.inr (12, [gI 0, gI 0, gR 71, gI 0, gR 72, gR 73, gR 74, gR 75, gR 76, gR 77, gR 78, gR 79, gI 0, gI 0, gR 80, gR 81, gI (-1), gI (-1), gI 0, gR 82, gR 83, gR 84, gR 85, gI 0, gR 86, gI 0, gI 0, gI 300, gI 0, gR 87, gI 0, gR 88, gR 89, gN, gI 0, gI 0, gI 0, gN, gI 0, gN, gI 0, gI 0, gN, gI 0, gN, gN, gI 0, gN, gN, gI 0]))) 240 (Sum.inl (0, 240, Sum.inl (fun _ => 0)))) 70 (Sum.inr (12, [gI 0, gI 0, gR 71, gI 0, gR 72, gR 73, gR 74, gR 75, gR 76, gR 77, gR 78, gR 79, gI 0, gI 0, gR 80, gR 81, gI (-1), gI (-1), gI 0, gR 82, gR 83, gR 84, gR 85, gI 0, gR 86, gI 0, gI 0, gI 300, gI 0, gR 87, gI 0, gR 88, gR 89, gR 90, gI 0, gI 0, gI 0, gN, gI 0, gN, gI 0, gI 0, gN, gI 0, gN, gN, gI 0, gN, gN, gI 0]))) 100 (Sum.inl (0, 100, Sum.inl (fun _ => 0)))
def KA79 : gv_H := gv_push (gv_set (gv_push (gv_set KA78 70 (Sum.inr (12, [gI 0, gI 0, gR 71, gI 0, gR 72, gR 73, gR 74, gR 75, gR 76, gR 77, gR 78, gR 79, gI 0, gI 0, gR 80, gR 81, gI (-1), gI (-1), gI 0, gR 82, gR 83, gR 84, gR 85, gI 0, gR 86, gI 0, gI 0, gI 300, gI 0, gR 87, gI 0, gR 88, gR 89, gR 90, gI 0, gI 0, gI 0, gR 91, gI 0, gN, gI 0, gI 0, gN, gI 0, gN, gN, gI 0, gN, gN, gI 0]))) 90 (Sum.inl (0, 90, Sum.inl (fun _ => 0)))) 70 (Sum.inr (12, [gI 0, gI 0, gR 71, gI 0, gR 72, gR 73, gR 74, gR 75, gR 76, gR 77, gR 78, gR 79, gI 0, gI 0, gR 80, gR 81, gI (-1), gI (-1), gI 0, gR 82, gR 83, gR 84, gR 85, gI 0, gR 86, gI 0, gI 0, gI 300, gI 0, gR 87, gI 0, gR 88, gR 89, gR 90, gI 0, gI 0, gI 0, gR 91, gI 0, gR 92, gI 0, gI 0, gN, gI 0, gN, gN, gI 0, gN, gN, gI 0]))) 8 (Sum.inl (0, 8, Sum.inl (fun _ => 0)))
def KA80 : gv_H := gv_push (gv_set (gv_push (gv_set KA79 70 (Sum.inr (12, [gI 0, gI 0, gR 71, gI 0, gR 72, gR 73, gR 74, gR 75, gR 76, gR 77, gR 78, gR 79, gI 0, gI 0, gR 80, gR 81, gI (-1), gI (-1), gI 0, gR 82, gR 83, gR 84, gR 85, gI 0, gR 86, gI 0, gI 0, gI 300, gI 0, gR 87, gI 0, gR 88, gR 89, gR 90, gI 0, gI 0, gI 0, gR 91, gI 0, gR 92, gI 0, gI 0, gR 93, gI 0, gN, gN, gI 0, gN, gN, gI 0]))) 40 (Sum.inl (0, 40, Sum.inl (fun _ => 0)))) 70 (Sum.inr (12, [gI 0, gI 0, gR 71, gI 0, gR 72, gR 73, gR 74, gR 75, gR 76, gR 77, gR 78, gR 79, gI 0, gI 0, gR 80, gR 81, gI (-1), gI (-1), gI 0, gR 82, gR 83, gR 84, gR 85, gI 0, gR 86, gI 0, gI 0, gI 300, gI 0, gR 87, gI 0, gR 88, gR 89, gR 90, gI 0, gI 0, gI 0, gR 91, gI 0, gR 92, gI 0, gI 0, gR 93, gI 0, gR 94, gN, gI 0, gN, gN, gI 0]))) 40 (Sum.inl (0, 40, Sum.inl (fun _ => 0)))
def KA81 : gv_H := gv_push (gv_set (gv_push (gv_set KA80 70 (Sum.inr (12, [gI 0, gI 0, gR 71, gI 0, gR 72, gR 73, gR 74, gR 75, gR 76, gR 77, gR 78, gR 79, gI 0, gI 0, gR 80, gR 81, gI (-1), gI (-1), gI 0, gR 82, gR 83, gR 84, gR 85, gI 0, gR 86, gI 0, gI 0, gI 300, gI 0, gR 87, gI 0, gR 88, gR 89, gR 90, gI 0, gI 0, gI 0, gR 91, gI 0, gR 92, gI 0, gI 0, gR 93, gI 0, gR 94, gR 95, gI 0, gN, gN, gI 0]))) 30 (Sum.inl (0, 30, Sum.inl (fun _ => 0)))) 70 (Sum.inr (12, [gI 0, gI 0, gR 71, gI 0, gR 72, gR 73, gR 74, gR 75, gR 76, gR 77, gR 78, gR 79, gI 0, gI 0, gR 80, gR 81, gI (-1), gI (-1), gI 0, gR 82, gR 83, gR 84, gR 85, gI 0, gR 86, gI 0, gI 0, gI 300, gI 0, gR 87, gI 0, gR 88, gR 89, gR 90, gI 0, gI 0, gI 0, gR 91, gI 0, gR 92, gI 0, gI 0, gR 93, gI 0, gR 94, gR 95, gI 0, gR 96, gN, gI 0]))) 30 (Sum.inl (0, 30, Sum.inl (fun _ => 0)))
def KA82 : gv_H := gv_set KA81 70 (Sum.inr (12, [gI 0, gI 0, gR 71, gI 0, gR 72, gR 73, gR 74, gR 75, gR 76, gR 77, gR 78, gR 79, gI 0, gI 0, gR 80, gR 81, gI (-1), gI (-1), gI 0, gR 82, gR 83, gR 84, gR 85, gI 0, gR 86, gI 0, gI 0, gI 300, gI 0, gR 87, gI 0, gR 88, gR 89, gR 90, gI 0, gI 0, gI 0, gR 91, gI 0, gR 92, gI 0, gI 0, gR 93, gI 0, gR 94, gR 95, gI 0, gR 96, gR 97, gI 0]))
set_option maxRecDepth 100000 in
theorem ct29_MO_init {G : gv_G} {d : Nat} : gv_ev G (d + 0) M_MO_init [gR 70] KA67 (.inl none) KA82 := by
  refine gv_E (ls := [some (gR 70)]) (by decide) (fun h => by cases h) (Nat.le_of_ble_eq_true rfl) rfl ?_
  refine gv_B ok_MO_init 1 rfl ?_
  refine gv_oiJ ok_MO_init rfl (Nat.le_of_ble_eq_true rfl) ?_
  refine gv_B ok_MO_init 8 rfl ?_
  refine gv_cast (h' := KA68) rfl ?_
  refine gv_B ok_MO_init 8 rfl ?_
  refine gv_cast (h' := KA69) rfl ?_
  refine gv_B ok_MO_init 8 rfl ?_
  refine gv_cast (h' := KA70) rfl ?_
  refine gv_B ok_MO_init 8 rfl ?_
  refine gv_cast (h' := KA71) rfl ?_
  refine gv_B ok_MO_init 8 rfl ?_
  refine gv_cast (h' := KA72) rfl ?_
  refine gv_B ok_MO_init 10 rfl ?_
  refine gv_cast (h' := KA73) rfl ?_
  refine gv_B ok_MO_init 8 rfl ?_
  refine gv_cast (h' := KA74) rfl ?_
  refine gv_B ok_MO_init 8 rfl ?_
  refine gv_cast (h' := KA75) rfl ?_
  refine gv_B ok_MO_init 10 rfl ?_
  refine gv_cast (h' := KA76) rfl ?_
  refine gv_B ok_MO_init 8 rfl ?_
  refine gv_cast (h' := KA77) rfl ?_
  refine gv_B ok_MO_init 8 rfl ?_
  refine gv_cast (h' := KA78) rfl ?_
  refine gv_B ok_MO_init 8 rfl ?_
  refine gv_cast (h' := KA79) rfl ?_
  refine gv_B ok_MO_init 8 rfl ?_
  refine gv_cast (h' := KA80) rfl ?_
  refine gv_B ok_MO_init 8 rfl ?_
  refine gv_cast (h' := KA81) rfl ?_
  refine gv_B ok_MO_init 1 rfl ?_
  exact gv_Rv ok_MO_init rfl rfl
end CTA
end
section
/-! the heap behind the two constructors and the law's own array: a template; all that changes are numbers (written by wip/tools/gent.py) -/
section TPA
def tp_cl : Nat → Option Nat := va_up (va_up (va_up (va_up (va_up (va_up (va_up (va_up (va_up (va_up (va_up (va_up (va_up (va_up (va_up (va_up (fun _ => none) 0 (some 5)) 1 (some 7)) 2 (some 9)) 3 (some 11)) 4 (some 13)) 5 (some 15)) 6 (some 17)) 7 (some 19)) 8 (some 21)) 9 (some 23)) 10 (some 25)) 11 (some 27)) 12 (some 29)) 13 (some 31)) 14 (some 33)) 15 (some 35)
/-- place k of the class's, the reference's and the law's cells; m: its numbers -/
def tp_a (g k : Nat) (m : Nat → Int32) : Option gv_C := match k with
  | 1 => some (Sum.inr (0, [gR 2, gI (m 1), gR 3, gR 37]))
  | 2 => some (Sum.inl (0, 30, Sum.inl m))
  | 3 => some (Sum.inr (1, [gR 4, gI (m 1)]))
  | 4 => some (Sum.inl (3, 16, Sum.inr tp_cl))
  | 5 => some (Sum.inr (2, [gR 6, gI (m 1), gI (m 2), gI (m 3)]))
  | 6 => some (Sum.inl (0, 30, Sum.inl m))
  | 7 => some (Sum.inr (2, [gR 8, gI (m 1), gI (m 2), gI (m 3)]))
  | 8 => some (Sum.inl (0, 30, Sum.inl m))
  | 9 => some (Sum.inr (2, [gR 10, gI (m 1), gI (m 2), gI (m 3)]))
  | 10 => some (Sum.inl (0, 30, Sum.inl m))
  | 11 => some (Sum.inr (2, [gR 12, gI (m 1), gI (m 2), gI (m 3)]))
  | 12 => some (Sum.inl (0, 30, Sum.inl m))
  | 13 => some (Sum.inr (2, [gR 14, gI (m 1), gI (m 2), gI (m 3)]))
  | 14 => some (Sum.inl (0, 30, Sum.inl m))
  | 15 => some (Sum.inr (2, [gR 16, gI (m 1), gI (m 2), gI (m 3)]))
  | 16 => some (Sum.inl (0, 30, Sum.inl m))
  | 17 => some (Sum.inr (2, [gR 18, gI (m 1), gI (m 2), gI (m 3)]))
  | 18 => some (Sum.inl (0, 30, Sum.inl m))
  | 19 => some (Sum.inr (2, [gR 20, gI (m 1), gI (m 2), gI (m 3)]))
  | 20 => some (Sum.inl (0, 30, Sum.inl m))
  | 21 => some (Sum.inr (2, [gR 22, gI (m 1), gI (m 2), gI (m 3)]))
  | 22 => some (Sum.inl (0, 30, Sum.inl m))
  | 23 => some (Sum.inr (2, [gR 24, gI (m 1), gI (m 2), gI (m 3)]))
  | 24 => some (Sum.inl (0, 30, Sum.inl m))
  | 25 => some (Sum.inr (2, [gR 26, gI (m 1), gI (m 2), gI (m 3)]))
  | 26 => some (Sum.inl (0, 30, Sum.inl m))
  | 27 => some (Sum.inr (2, [gR 28, gI (m 1), gI (m 2), gI (m 3)]))
  | 28 => some (Sum.inl (0, 30, Sum.inl m))
  | 29 => some (Sum.inr (2, [gR 30, gI (m 1), gI (m 2), gI (m 3)]))
  | 30 => some (Sum.inl (0, 30, Sum.inl m))
  | 31 => some (Sum.inr (2, [gR 32, gI (m 1), gI (m 2), gI (m 3)]))
  | 32 => some (Sum.inl (0, 30, Sum.inl m))
  | 33 => some (Sum.inr (2, [gR 34, gI (m 1), gI (m 2), gI (m 3)]))
  | 34 => some (Sum.inl (0, 30, Sum.inl m))
  | 35 => some (Sum.inr (2, [gR 36, gI (m 1), gI (m 2), gI (m 3)]))
  | 36 => some (Sum.inl (0, 30, Sum.inl m))
  | 37 => some (Sum.inr (3, [gR 3, gR 38, gR 40, gR 49, gR 52, gR 53, gR 58, gR 64, gR 66, gI (m 9), gI (m 10), gI (m 11), gI (m 12)]))
  | 38 => some (Sum.inr (2, [gR 39, gI (m 1), gI (m 2), gI (m 3)]))
  | 39 => some (Sum.inl (0, 30, Sum.inl m))
  | 40 => some (Sum.inr (4, [gR 41, gI (m 1), gR 42, gI (m 3), gR 43, gR 44, gI (m 6), gR 45, gI (m 8)]))
  | 41 => some (Sum.inl (0, 240, Sum.inl m))
  | 42 => some (Sum.inl (0, 240, Sum.inl m))
  | 43 => some (Sum.inl (0, 8, Sum.inl m))
  | 44 => some (Sum.inl (0, 30, Sum.inl m))
  | 45 => some (Sum.inl (0, 30, Sum.inl m))
  | 46 => some (Sum.inr (5, [gR 40, gR 47, gR 48, gI (m 3)]))
  | 47 => some (Sum.inl (2, 240, Sum.inl m))
  | 48 => some (Sum.inl (0, 240, Sum.inl m))
  | 49 => some (Sum.inr (6, [gR 40, gR 46, gR 50, gR 51, gI (m 4)]))
  | 50 => some (Sum.inl (0, 601, Sum.inl m))
  | 51 => some (Sum.inl (0, 601, Sum.inl m))
  | 52 => some (Sum.inr (7, [gR 40, gI (m 1)]))
  | 53 => some (Sum.inr (8, [gR g, gR (g + 1), gR (g + 2), gR (g + 3)]))
  | 58 => some (Sum.inr (9, [gR 59, gR 60, gR 61, gR 62, gR 63, gI (m 5)]))
  | 59 => some (Sum.inl (0, 300, Sum.inl m))
  | 60 => some (Sum.inl (0, 300, Sum.inl m))
  | 61 => some (Sum.inl (0, 300, Sum.inl m))
  | 62 => some (Sum.inl (0, 300, Sum.inl m))
  | 63 => some (Sum.inl (0, 300, Sum.inl m))
  | 64 => some (Sum.inr (10, [gR 40, gR 53, gR 58, gR 46, gR 65, gI (m 5)]))
  | 65 => some (Sum.inl (0, 241, Sum.inl m))
  | 66 => some (Sum.inr (11, [gR 40, gR 67, gI (m 2), gR 68, gI (m 4), gR 69, gI (m 6)]))
  | 67 => some (Sum.inl (0, 90, Sum.inl m))
  | 68 => some (Sum.inl (0, 90, Sum.inl m))
  | 69 => some (Sum.inl (0, 181, Sum.inl m))
  | 70 => some (Sum.inr (12, [gI (m 0), gI (m 1), gR 71, gI (m 3), gR 72, gR 73, gR 74, gR 75, gR 76, gR 77, gR 78, gR 79, gI (m 12), gI (m 13), gR 80, gR 81, gI (m 16), gI (m 17), gI (m 18), gR 82, gR 83, gR 84, gR 85, gI (m 23), gR 86, gI (m 25), gI (m 26), gI (m 27), gI (m 28), gR 87, gI (m 30), gR 88, gR 89, gR 90, gI (m 34), gI (m 35), gI (m 36), gR 91, gI (m 38), gR 92, gI (m 40), gI (m 41), gR 93, gI (m 43), gR 94, gR 95, gI (m 46), gR 96, gR 97, gI (m 49)]))
  | 71 => some (Sum.inl (0, 30, Sum.inl m))
  | 72 => some (Sum.inl (0, 480, Sum.inl m))
  | 73 => some (Sum.inl (0, 16, Sum.inl m))
  | 74 => some (Sum.inl (0, 240, Sum.inl m))
  | 75 => some (Sum.inl (0, 240, Sum.inl m))
  | 76 => some (Sum.inl (0, 240, Sum.inl m))
  | 77 => some (Sum.inl (0, 240, Sum.inl m))
  | 78 => some (Sum.inl (0, 240, Sum.inl m))
  | 79 => some (Sum.inl (0, 720, Sum.inl m))
  | 80 => some (Sum.inl (0, 8900, Sum.inl m))
  | 81 => some (Sum.inl (0, 8900, Sum.inl m))
  | 82 => some (Sum.inl (0, 320, Sum.inl m))
  | 83 => some (Sum.inl (0, 320, Sum.inl m))
  | 84 => some (Sum.inl (0, 320, Sum.inl m))
  | 85 => some (Sum.inl (0, 320, Sum.inl m))
  | 86 => some (Sum.inl (0, 2600, Sum.inl m))
  | 87 => some (Sum.inl (0, 8, Sum.inl m))
  | 88 => some (Sum.inl (0, 1600, Sum.inl m))
  | 89 => some (Sum.inl (0, 1600, Sum.inl m))
  | 90 => some (Sum.inl (0, 240, Sum.inl m))
  | 91 => some (Sum.inl (0, 100, Sum.inl m))
  | 92 => some (Sum.inl (0, 90, Sum.inl m))
  | 93 => some (Sum.inl (0, 8, Sum.inl m))
  | 94 => some (Sum.inl (0, 40, Sum.inl m))
  | 95 => some (Sum.inl (0, 40, Sum.inl m))
  | 96 => some (Sum.inl (0, 30, Sum.inl m))
  | 97 => some (Sum.inl (0, 30, Sum.inl m))
  | 98 => some (Sum.inl (1, 1, Sum.inl m))
  | _ => none
/-- .. and the four rows of goals, at g and behind it, of cap places each -/
def tpl (g cap k : Nat) (m : Nat → Int32) : Option gv_C := match tp_a g k m with
  | some c => some c
  | none => if k = g then some (Sum.inl (0, cap, Sum.inl m)) else if k = g + 1 then some (Sum.inl (0, cap, Sum.inl m)) else if k = g + 2 then some (Sum.inl (0, cap, Sum.inl m)) else if k = g + 3 then some (Sum.inl (2, cap, Sum.inl m)) else none
/-- the picture with these numbers -/
def hp (n : Nat) (acc : Nat × Nat) (g cap : Nat) (μ : Nat → Nat → Int32) : gv_H := (n, acc, fun k => tpl g cap k (μ k))
def upM (μ : Nat → Nat → Int32) (k : Nat) (m : Nat → Int32) : Nat → Nat → Int32 := fun j => if j = k then m else μ j
theorem hp_set {n : Nat} {acc : Nat × Nat} {g cap k : Nat} {μ : Nat → Nat → Int32} {m : Nat → Int32} {c : gv_C} (h : tpl g cap k m = some c) : gv_set (hp n acc g cap μ) k c = hp n acc g cap (upM μ k m) := by
  unfold gv_set hp
  refine congrArg (fun f => (n, acc, f)) (funext fun j => ?_)
  show (if j = k then some c else tpl g cap j (μ j)) = tpl g cap j (upM μ k m j)
  unfold upM
  by_cases e : j = k
  · rw [if_pos e, if_pos e, e, h]
  · rw [if_neg e, if_neg e]
theorem upM_at {μ : Nat → Nat → Int32} {k : Nat} {m : Nat → Int32} : upM μ k m k = m := if_pos rfl
theorem upM_ne {μ : Nat → Nat → Int32} {k j : Nat} {m : Nat → Int32} (h : j ≠ k) : upM μ k m j = μ j := if_neg h
/-- less may be known -/
theorem gv_sub {G : gv_G} {y : gv_M} {d : Nat} {r : gv_O} {hf h h' : gv_H} {pc : Nat} {ls : gv_L} {st : List gv_V} (e1 : h'.1 = h.1) (e2 : h'.2.1 = h.2.1) (hs : ∀ k c, h'.2.2 k = some c → h.2.2 k = some c) (k : gv_go G y d r hf pc ls st h') : gv_go G y d r hf pc ls st h := by
  obtain ⟨k1, k2⟩ := k
  rw [e2] at k1
  refine ⟨k1, fun h0 p e s m args below meth c H locs A q1 q2 X hw hl hA => ?_⟩
  have k3 := k2 h0 p e s m args below meth c H locs A (by rw [e2]; exact q1) (by rw [e2]; exact q2) X ⟨by rw [e1]; exact hw.1, by rw [e1]; exact hw.2.1, hw.2.2.1, fun j x hj => by rw [e1]; exact hw.2.2.2 j x (hs j x hj)⟩ hl hA
  rw [e2] at k3
  exact k3
def tp_0 : Nat → Nat → Int32 := fun k j => match k, j with
  | 37, 9 => (-1)
  | 37, 10 => (-1)
  | 37, 12 => 300
  | 70, 16 => (-1)
  | 70, 17 => (-1)
  | 70, 27 => 300
  | _, _ => 0
end TPA
end
section
/-! steps over the template -/
section HPA
def sI (μ : Nat → Nat → Int32) (k j : Nat) (v : Int32) : Nat → Nat → Int32 := upM μ k (upd (μ k) j v)
theorem sI_at {μ : Nat → Nat → Int32} {k j : Nat} {v : Int32} : sI μ k j v k j = v := by
  unfold sI
  rw [upM_at]
  exact if_pos rfl
theorem sI_nk {μ : Nat → Nat → Int32} {k j a : Nat} {v : Int32} (h : a ≠ k) : sI μ k j v a = μ a := upM_ne h
theorem sI_nj {μ : Nat → Nat → Int32} {k j i : Nat} {v : Int32} (h : i ≠ j) : sI μ k j v k i = μ k i := by
  unfold sI
  rw [upM_at]
  exact if_neg h
variable {G : gv_G} {y : gv_M} {d : Nat} {r : gv_O} {hf : gv_H} {pc : Nat} {ls : gv_L} {st : List gv_V} {v9 : Int32} {w9 : Int64} {a a9 b ci j wp nx n n9 g cap t : Nat} {acc : Nat × Nat} {μ : Nat → Nat → Int32} {tb : List (Int32 × Nat)} {fs : List gv_V} {rr : vw_C} {i x : Int32}
theorem hp_pf (hy : gv_ok y) (hj : gv_lk y.2.2.2.2.1 pc = some (80, v9, w9, ci, j, wp, nx, tb)) (h0 : Nat.beq a 0 = false) (ha : tpl g cap a (μ a) = some (Sum.inr (ci, fs))) (hb : tpl g cap a (upd (μ a) j x) = some (Sum.inr (ci, fs.set j (gI x)))) (hci : gv_cl[ci]? = some rr) (hl : j < fs.length) (hfit : gv_fit (gv_ft rr j) (gI x) = true)
    (k : gv_go G y d r hf nx ls st (hp n acc g cap (sI μ a j x))) : gv_go G y d r hf pc ls (gI x :: gR a :: st) (hp n acc g cap μ) :=
  gv_pf hy hj h0 ha hci hl hfit (gv_cast (hp_set hb) k)
theorem hp_ias (hy : gv_ok y) (hj : gv_lk y.2.2.2.2.1 pc = some (76, v9, w9, a9, b, wp, nx, tb)) (h0 : Nat.beq a 0 = false) (ha : tpl g cap a (μ a) = some (Sum.inl (0, n9, Sum.inl (μ a)))) (hb : tpl g cap a (upd (μ a) t x) = some (Sum.inl (0, n9, Sum.inl (upd (μ a) t x)))) (hi : i = nI t) (ht : t < n9) (hn : n9 < 2 ^ 31)
    (k : gv_go G y d r hf nx ls st (hp n acc g cap (sI μ a t x))) : gv_go G y d r hf pc ls (gI x :: gI i :: gR a :: st) (hp n acc g cap μ) := by
  subst hi
  refine gv_ias hy hj h0 ha (vp_in_nI ht hn) (gv_cast ?_ k)
  rw [nI_clamp (by omega)]
  exact hp_set hb
theorem hp_zas (hy : gv_ok y) (hj : gv_lk y.2.2.2.2.1 pc = some (77, v9, w9, a9, b, wp, nx, tb)) (h0 : Nat.beq a 0 = false) (ha : tpl g cap a (μ a) = some (Sum.inl (2, n9, Sum.inl (μ a)))) (hb : tpl g cap a (upd (μ a) t x) = some (Sum.inl (2, n9, Sum.inl (upd (μ a) t x)))) (hi : i = nI t) (ht : t < n9) (hn : n9 < 2 ^ 31) (hx : x = 0 ∨ x = 1)
    (k : gv_go G y d r hf nx ls st (hp n acc g cap (sI μ a t x))) : gv_go G y d r hf pc ls (gI x :: gI i :: gR a :: st) (hp n acc g cap μ) := by
  subst hi
  refine gv_zas hy hj h0 ha (vp_in_nI ht hn) hx (gv_cast ?_ k)
  rw [nI_clamp (by omega)]
  exact hp_set hb
theorem hp_ial (hy : gv_ok y) (hj : gv_lk y.2.2.2.2.1 pc = some (72, v9, w9, a9, b, wp, nx, tb)) (ha : tpl g cap a (μ a) = some (Sum.inl (0, n9, Sum.inl (μ a)))) (hi : i = nI t) (ht : t < n9) (hn : n9 < 2 ^ 31)
    (k : gv_go G y d r hf nx ls (gI (μ a t) :: st) (hp n acc g cap μ)) : gv_go G y d r hf pc ls (gI i :: gR a :: st) (hp n acc g cap μ) := by
  subst hi
  refine gv_ial hy hj ha (vp_in_nI ht hn) ?_
  rw [nI_clamp (by omega)]
  exact k
theorem hp_zal (hy : gv_ok y) (hj : gv_lk y.2.2.2.2.1 pc = some (73, v9, w9, a9, b, wp, nx, tb)) (ha : tpl g cap a (μ a) = some (Sum.inl (2, n9, Sum.inl (μ a)))) (hi : i = nI t) (ht : t < n9) (hn : n9 < 2 ^ 31)
    (k : gv_go G y d r hf nx ls (gI (μ a t) :: st) (hp n acc g cap μ)) : gv_go G y d r hf pc ls (gI i :: gR a :: st) (hp n acc g cap μ) := by
  subst hi
  refine gv_zal hy hj ha (vp_in_nI ht hn) ?_
  rw [nI_clamp (by omega)]
  exact k
/-- an int, written otherwise -/
theorem gv_st1 {x' : Int32} {h : gv_H} (e : x = x') (k : gv_go G y d r hf pc ls (gI x' :: st) h) : gv_go G y d r hf pc ls (gI x :: st) h := e ▸ k
theorem gv_pce {p1 p2 : Nat} {h : gv_H} (e : p1 = p2) (k : gv_go G y d r hf p2 ls st h) : gv_go G y d r hf p1 ls st h := e ▸ k
end HPA
/-! words -/
section WDA
/-- a word, by its kind and value -/
def isWk (k v : Int32) : Prop := (k = 0 ∧ ¬ v < 0 ∧ v < 8) ∨ k = 1 ∨ (¬ k ≤ 1 ∧ ¬ 6 ≤ k ∧ ¬ v < 0 ∧ v < 32) ∨ (k = 6 ∧ v = 0)
abbrev w_k (w : Int32) : Int32 := w &&& 7
abbrev w_v (w : Int32) : Int32 := w >>> ((3 : Int32) &&& 31)
def isW (w : Int32) : Prop := isWk (w_k w) (w_v w)
theorem isWk_0 {v : Int32} : isWk (nI 0) v ↔ (¬ v < 0 ∧ v < 8) :=
  ⟨fun h => h.elim (fun h => h.2) (fun h => h.elim (fun h => absurd h (by decide)) (fun h => h.elim (fun h => absurd (by decide) h.1) (fun h => absurd h.1 (by decide)))), fun h => Or.inl ⟨by decide, h⟩⟩
theorem isWk_1 {v : Int32} : isWk (nI 1) v := Or.inr (Or.inl (by decide))
theorem isWk_2 {v : Int32} : isWk (nI 2) v ↔ (¬ v < 0 ∧ v < 32) :=
  ⟨fun h => h.elim (fun h => absurd h.1 (by decide)) (fun h => h.elim (fun h => absurd h (by decide)) (fun h => h.elim (fun h => h.2.2) (fun h => absurd h.1 (by decide)))), fun h => Or.inr (Or.inr (Or.inl ⟨by decide, by decide, h⟩))⟩
theorem isWk_3 {v : Int32} : isWk (nI 3) v ↔ (¬ v < 0 ∧ v < 32) :=
  ⟨fun h => h.elim (fun h => absurd h.1 (by decide)) (fun h => h.elim (fun h => absurd h (by decide)) (fun h => h.elim (fun h => h.2.2) (fun h => absurd h.1 (by decide)))), fun h => Or.inr (Or.inr (Or.inl ⟨by decide, by decide, h⟩))⟩
theorem isWk_4 {v : Int32} : isWk (nI 4) v ↔ (¬ v < 0 ∧ v < 32) :=
  ⟨fun h => h.elim (fun h => absurd h.1 (by decide)) (fun h => h.elim (fun h => absurd h (by decide)) (fun h => h.elim (fun h => h.2.2) (fun h => absurd h.1 (by decide)))), fun h => Or.inr (Or.inr (Or.inl ⟨by decide, by decide, h⟩))⟩
theorem isWk_5 {v : Int32} : isWk (nI 5) v ↔ (¬ v < 0 ∧ v < 32) :=
  ⟨fun h => h.elim (fun h => absurd h.1 (by decide)) (fun h => h.elim (fun h => absurd h (by decide)) (fun h => h.elim (fun h => h.2.2) (fun h => absurd h.1 (by decide)))), fun h => Or.inr (Or.inr (Or.inl ⟨by decide, by decide, h⟩))⟩
theorem isWk_6 {v : Int32} : isWk (nI 6) v ↔ v = 0 :=
  ⟨fun h => h.elim (fun h => absurd h.1 (by decide)) (fun h => h.elim (fun h => absurd h (by decide)) (fun h => h.elim (fun h => absurd (by decide) h.2.1) (fun h => h.2))), fun h => Or.inr (Or.inr (Or.inr ⟨by decide, h⟩))⟩
theorem isWk_7 {v : Int32} : ¬ isWk (nI 7) v := fun h => h.elim (fun h => absurd h.1 (by decide)) (fun h => h.elim (fun h => absurd h (by decide)) (fun h => h.elim (fun h => absurd (by decide) h.2.1) (fun h => absurd h.1 (by decide))))
theorem w_k8 (w : Int32) : ∃ j, j < 8 ∧ w_k w = nI j := pk_andE w (m := 7) 3 (by decide)
theorem e_isWord1 {G : gv_G} {d : Nat} {h : gv_H} {w : Int32} (hw : isW w) : gv_ev G d M_GE_isWord [gI w] h (.inl (some (gI 1))) h := by
  obtain ⟨j, hj, e⟩ := w_k8 w
  unfold isW at hw
  refine gv_E (ls := [some (gI w), none]) (by decide) (fun h => by cases h) (Nat.le_of_ble_eq_true rfl) rfl ?_
  refine gv_B ok_GE_isWord 8 rfl ?_
  show gv_go G M_GE_isWord d _ _ (gv_sw (w_k w) 86 [(0, 56), (1, 72), (2, 86), (3, 86), (4, 86), (5, 86), (6, 74), (7, 84)]) [some (gI w), some (gI (w_v w))] [] h
  rw [e] at hw ⊢
  generalize w_v w = v at hw ⊢
  rcases (show j = 0 ∨ j = 1 ∨ j = 2 ∨ j = 3 ∨ j = 4 ∨ j = 5 ∨ j = 6 ∨ j = 7 by omega) with q | q | q | q | q | q | q | q <;> subst q
  · refine gv_pce (p2 := 56) (by decide) ?_
    rw [isWk_0] at hw
    refine gv_B ok_GE_isWord 2 rfl ?_
    refine gv_brF hw.1 ?_
    refine gv_B ok_GE_isWord 3 rfl ?_
    refine gv_brF (Int32.not_le.mpr hw.2) ?_
    refine gv_B ok_GE_isWord 2 rfl ?_
    exact gv_Rz ok_GE_isWord rfl rfl (by decide)
  · refine gv_pce (p2 := 72) (by decide) ?_
    refine gv_B ok_GE_isWord 1 rfl ?_
    exact gv_Rz ok_GE_isWord rfl rfl (by decide)
  · refine gv_pce (p2 := 86) (by decide) ?_
    rw [isWk_2] at hw
    refine gv_B ok_GE_isWord 2 rfl ?_
    refine gv_brF hw.1 ?_
    refine gv_B ok_GE_isWord 3 rfl ?_
    refine gv_brF (Int32.not_le.mpr hw.2) ?_
    refine gv_B ok_GE_isWord 2 rfl ?_
    exact gv_Rz ok_GE_isWord rfl rfl (by decide)
  · refine gv_pce (p2 := 86) (by decide) ?_
    rw [isWk_3] at hw
    refine gv_B ok_GE_isWord 2 rfl ?_
    refine gv_brF hw.1 ?_
    refine gv_B ok_GE_isWord 3 rfl ?_
    refine gv_brF (Int32.not_le.mpr hw.2) ?_
    refine gv_B ok_GE_isWord 2 rfl ?_
    exact gv_Rz ok_GE_isWord rfl rfl (by decide)
  · refine gv_pce (p2 := 86) (by decide) ?_
    rw [isWk_4] at hw
    refine gv_B ok_GE_isWord 2 rfl ?_
    refine gv_brF hw.1 ?_
    refine gv_B ok_GE_isWord 3 rfl ?_
    refine gv_brF (Int32.not_le.mpr hw.2) ?_
    refine gv_B ok_GE_isWord 2 rfl ?_
    exact gv_Rz ok_GE_isWord rfl rfl (by decide)
  · refine gv_pce (p2 := 86) (by decide) ?_
    rw [isWk_5] at hw
    refine gv_B ok_GE_isWord 2 rfl ?_
    refine gv_brF hw.1 ?_
    refine gv_B ok_GE_isWord 3 rfl ?_
    refine gv_brF (Int32.not_le.mpr hw.2) ?_
    refine gv_B ok_GE_isWord 2 rfl ?_
    exact gv_Rz ok_GE_isWord rfl rfl (by decide)
  · refine gv_pce (p2 := 74) (by decide) ?_
    rw [isWk_6] at hw
    refine gv_B ok_GE_isWord 2 rfl ?_
    refine gv_brF (not_not_intro hw) ?_
    refine gv_B ok_GE_isWord 2 rfl ?_
    exact gv_Rz ok_GE_isWord rfl rfl (by decide)
  · refine gv_pce (p2 := 84) (by decide) ?_
    exact absurd hw isWk_7
theorem e_isWord0 {G : gv_G} {d : Nat} {h : gv_H} {w : Int32} (hw : ¬ isW w) : gv_ev G d M_GE_isWord [gI w] h (.inl (some (gI 0))) h := by
  obtain ⟨j, hj, e⟩ := w_k8 w
  unfold isW at hw
  refine gv_E (ls := [some (gI w), none]) (by decide) (fun h => by cases h) (Nat.le_of_ble_eq_true rfl) rfl ?_
  refine gv_B ok_GE_isWord 8 rfl ?_
  show gv_go G M_GE_isWord d _ _ (gv_sw (w_k w) 86 [(0, 56), (1, 72), (2, 86), (3, 86), (4, 86), (5, 86), (6, 74), (7, 84)]) [some (gI w), some (gI (w_v w))] [] h
  rw [e] at hw ⊢
  generalize w_v w = v at hw ⊢
  rcases (show j = 0 ∨ j = 1 ∨ j = 2 ∨ j = 3 ∨ j = 4 ∨ j = 5 ∨ j = 6 ∨ j = 7 by omega) with q | q | q | q | q | q | q | q <;> subst q
  · refine gv_pce (p2 := 56) (by decide) ?_
    rw [isWk_0] at hw
    refine gv_B ok_GE_isWord 2 rfl ?_
    refine gv_br (fun c1 => ?_) (fun c1 => ?_)
    · refine gv_B ok_GE_isWord 1 rfl ?_
      exact gv_Rz ok_GE_isWord rfl rfl (by decide)
    · refine gv_B ok_GE_isWord 3 rfl ?_
      refine gv_brT (Int32.not_lt.mp (fun c2 => hw ⟨c1, c2⟩)) ?_
      refine gv_B ok_GE_isWord 1 rfl ?_
      exact gv_Rz ok_GE_isWord rfl rfl (by decide)
  · refine gv_pce (p2 := 72) (by decide) ?_
    exact absurd isWk_1 hw
  · refine gv_pce (p2 := 86) (by decide) ?_
    rw [isWk_2] at hw
    refine gv_B ok_GE_isWord 2 rfl ?_
    refine gv_br (fun c1 => ?_) (fun c1 => ?_)
    · refine gv_B ok_GE_isWord 1 rfl ?_
      exact gv_Rz ok_GE_isWord rfl rfl (by decide)
    · refine gv_B ok_GE_isWord 3 rfl ?_
      refine gv_brT (Int32.not_lt.mp (fun c2 => hw ⟨c1, c2⟩)) ?_
      refine gv_B ok_GE_isWord 1 rfl ?_
      exact gv_Rz ok_GE_isWord rfl rfl (by decide)
  · refine gv_pce (p2 := 86) (by decide) ?_
    rw [isWk_3] at hw
    refine gv_B ok_GE_isWord 2 rfl ?_
    refine gv_br (fun c1 => ?_) (fun c1 => ?_)
    · refine gv_B ok_GE_isWord 1 rfl ?_
      exact gv_Rz ok_GE_isWord rfl rfl (by decide)
    · refine gv_B ok_GE_isWord 3 rfl ?_
      refine gv_brT (Int32.not_lt.mp (fun c2 => hw ⟨c1, c2⟩)) ?_
      refine gv_B ok_GE_isWord 1 rfl ?_
      exact gv_Rz ok_GE_isWord rfl rfl (by decide)
  · refine gv_pce (p2 := 86) (by decide) ?_
    rw [isWk_4] at hw
    refine gv_B ok_GE_isWord 2 rfl ?_
    refine gv_br (fun c1 => ?_) (fun c1 => ?_)
    · refine gv_B ok_GE_isWord 1 rfl ?_
      exact gv_Rz ok_GE_isWord rfl rfl (by decide)
    · refine gv_B ok_GE_isWord 3 rfl ?_
      refine gv_brT (Int32.not_lt.mp (fun c2 => hw ⟨c1, c2⟩)) ?_
      refine gv_B ok_GE_isWord 1 rfl ?_
      exact gv_Rz ok_GE_isWord rfl rfl (by decide)
  · refine gv_pce (p2 := 86) (by decide) ?_
    rw [isWk_5] at hw
    refine gv_B ok_GE_isWord 2 rfl ?_
    refine gv_br (fun c1 => ?_) (fun c1 => ?_)
    · refine gv_B ok_GE_isWord 1 rfl ?_
      exact gv_Rz ok_GE_isWord rfl rfl (by decide)
    · refine gv_B ok_GE_isWord 3 rfl ?_
      refine gv_brT (Int32.not_lt.mp (fun c2 => hw ⟨c1, c2⟩)) ?_
      refine gv_B ok_GE_isWord 1 rfl ?_
      exact gv_Rz ok_GE_isWord rfl rfl (by decide)
  · refine gv_pce (p2 := 74) (by decide) ?_
    rw [isWk_6] at hw
    refine gv_B ok_GE_isWord 2 rfl ?_
    refine gv_brT hw ?_
    refine gv_B ok_GE_isWord 1 rfl ?_
    exact gv_Rz ok_GE_isWord rfl rfl (by decide)
  · refine gv_pce (p2 := 84) (by decide) ?_
    refine gv_B ok_GE_isWord 1 rfl ?_
    exact gv_Rz ok_GE_isWord rfl rfl (by decide)
end WDA
end
section
/-! the five exceptions that the class throws -/
section THA
def th_nm : List String := ["java/lang/RuntimeException", "java/lang/Exception"]
def xIAE : String := "java/lang/IllegalArgumentException"
theorem tw_IAE : (Bundle.ownAtoms0 "GoalEngine" 39 "java/lang/IllegalArgumentException" ["java/lang/RuntimeException", "java/lang/Exception"]).all gx_ok = true := by decide +kernel
theorem th_IAE {G : gv_G} {y : gv_M} {d : Nat} {h : gv_H} {pc : Nat} {ls : gv_L} {st : List gv_V} (hc : y.1.cls = "GoalEngine") (hhh : y.2.2.2.2.2.2.2.2.2.2 = []) (hcat : gv_cs st ≤ 8) (d0 : decode y.2.1 pc = .ok (.new 37, 3)) (d3 : decode y.2.1 (pc + 3) = .ok (.dup, 1)) (d4 : decode y.2.1 (pc + 4) = .ok (.invokespecial 39, 3)) (d7 : decode y.2.1 (pc + 7) = .ok (.athrow, 1)) :
    gv_go G y d (.inr (.inl "java/lang/IllegalArgumentException")) (h.1, (h.2.1.1 + 1, h.2.1.2 + 6), h.2.2) pc ls st h :=
  gv_throw (names := ["java/lang/RuntimeException", "java/lang/Exception"]) (w1 := 549) (w2 := 84) (by decide +kernel) (by decide +kernel) (by decide) (by rw [hc]; decide +kernel) (by decide +kernel) (by rw [hc]; exact tw_IAE) hhh hcat d0 d3 d4 d7
def xISE : String := "java/lang/IllegalStateException"
theorem tw_ISE : (Bundle.ownAtoms0 "GoalEngine" 42 "java/lang/IllegalStateException" ["java/lang/RuntimeException", "java/lang/Exception"]).all gx_ok = true := by decide +kernel
theorem th_ISE {G : gv_G} {y : gv_M} {d : Nat} {h : gv_H} {pc : Nat} {ls : gv_L} {st : List gv_V} (hc : y.1.cls = "GoalEngine") (hhh : y.2.2.2.2.2.2.2.2.2.2 = []) (hcat : gv_cs st ≤ 8) (d0 : decode y.2.1 pc = .ok (.new 40, 3)) (d3 : decode y.2.1 (pc + 3) = .ok (.dup, 1)) (d4 : decode y.2.1 (pc + 4) = .ok (.invokespecial 42, 3)) (d7 : decode y.2.1 (pc + 7) = .ok (.athrow, 1)) :
    gv_go G y d (.inr (.inl "java/lang/IllegalStateException")) (h.1, (h.2.1.1 + 1, h.2.1.2 + 6), h.2.2) pc ls st h :=
  gv_throw (names := ["java/lang/RuntimeException", "java/lang/Exception"]) (w1 := 614) (w2 := 85) (by decide +kernel) (by decide +kernel) (by decide) (by rw [hc]; decide +kernel) (by decide +kernel) (by rw [hc]; exact tw_ISE) hhh hcat d0 d3 d4 d7
def xARE : String := "java/lang/ArithmeticException"
theorem tw_ARE : (Bundle.ownAtoms0 "GoalEngine" 83 "java/lang/ArithmeticException" ["java/lang/RuntimeException", "java/lang/Exception"]).all gx_ok = true := by decide +kernel
theorem th_ARE {G : gv_G} {y : gv_M} {d : Nat} {h : gv_H} {pc : Nat} {ls : gv_L} {st : List gv_V} (hc : y.1.cls = "GoalEngine") (hhh : y.2.2.2.2.2.2.2.2.2.2 = []) (hcat : gv_cs st ≤ 8) (d0 : decode y.2.1 pc = .ok (.new 81, 3)) (d3 : decode y.2.1 (pc + 3) = .ok (.dup, 1)) (d4 : decode y.2.1 (pc + 4) = .ok (.invokespecial 83, 3)) (d7 : decode y.2.1 (pc + 7) = .ok (.athrow, 1)) :
    gv_go G y d (.inr (.inl "java/lang/ArithmeticException")) (h.1, (h.2.1.1 + 1, h.2.1.2 + 6), h.2.2) pc ls st h :=
  gv_throw (names := ["java/lang/RuntimeException", "java/lang/Exception"]) (w1 := 846) (w2 := 90) (by decide +kernel) (by decide +kernel) (by decide) (by rw [hc]; decide +kernel) (by decide +kernel) (by rw [hc]; exact tw_ARE) hhh hcat d0 d3 d4 d7
def xUOE : String := "java/lang/UnsupportedOperationException"
theorem tw_UOE : (Bundle.ownAtoms0 "GoalEngine" 86 "java/lang/UnsupportedOperationException" ["java/lang/RuntimeException", "java/lang/Exception"]).all gx_ok = true := by decide +kernel
theorem th_UOE {G : gv_G} {y : gv_M} {d : Nat} {h : gv_H} {pc : Nat} {ls : gv_L} {st : List gv_V} (hc : y.1.cls = "GoalEngine") (hhh : y.2.2.2.2.2.2.2.2.2.2 = []) (hcat : gv_cs st ≤ 8) (d0 : decode y.2.1 pc = .ok (.new 84, 3)) (d3 : decode y.2.1 (pc + 3) = .ok (.dup, 1)) (d4 : decode y.2.1 (pc + 4) = .ok (.invokespecial 86, 3)) (d7 : decode y.2.1 (pc + 7) = .ok (.athrow, 1)) :
    gv_go G y d (.inr (.inl "java/lang/UnsupportedOperationException")) (h.1, (h.2.1.1 + 1, h.2.1.2 + 6), h.2.2) pc ls st h :=
  gv_throw (names := ["java/lang/RuntimeException", "java/lang/Exception"]) (w1 := 861) (w2 := 91) (by decide +kernel) (by decide +kernel) (by decide) (by rw [hc]; decide +kernel) (by decide +kernel) (by rw [hc]; exact tw_UOE) hhh hcat d0 d3 d4 d7
def xIOB : String := "java/lang/IndexOutOfBoundsException"
theorem tw_IOB : (Bundle.ownAtoms0 "GoalEngine" 110 "java/lang/IndexOutOfBoundsException" ["java/lang/RuntimeException", "java/lang/Exception"]).all gx_ok = true := by decide +kernel
theorem th_IOB {G : gv_G} {y : gv_M} {d : Nat} {h : gv_H} {pc : Nat} {ls : gv_L} {st : List gv_V} (hc : y.1.cls = "GoalEngine") (hhh : y.2.2.2.2.2.2.2.2.2.2 = []) (hcat : gv_cs st ≤ 8) (d0 : decode y.2.1 pc = .ok (.new 108, 3)) (d3 : decode y.2.1 (pc + 3) = .ok (.dup, 1)) (d4 : decode y.2.1 (pc + 4) = .ok (.invokespecial 110, 3)) (d7 : decode y.2.1 (pc + 7) = .ok (.athrow, 1)) :
    gv_go G y d (.inr (.inl "java/lang/IndexOutOfBoundsException")) (h.1, (h.2.1.1 + 1, h.2.1.2 + 6), h.2.2) pc ls st h :=
  gv_throw (names := ["java/lang/RuntimeException", "java/lang/Exception"]) (w1 := 915) (w2 := 92) (by decide +kernel) (by decide +kernel) (by decide) (by rw [hc]; decide +kernel) (by decide +kernel) (by rw [hc]; exact tw_IOB) hhh hcat d0 d3 d4 d7
end THA
end
section
/-! put, class and reference -/
section PTA
variable {G : gv_G} {y M : gv_M} {d : Nat} {r : gv_O} {hf h h1 : gv_H} {pc : Nat} {ls : gv_L} {st st0 args : List gv_V} {v9 : Int32} {w9 : Int64} {a a9 b b9 ci j wp nx n n9 g cap t : Nat} {acc : Nat × Nat} {μ : Nat → Nat → Int32} {tb : List (Int32 × Nat)} {fs : List gv_V} {rr : vw_C} {i x w : Int32}
theorem gv_VX {hpc k9 sp ep ct wl wc : Nat} {E nm : String} {q9 : Fin 4} (pre suf : List (Nat × Nat × Nat × Nat)) (hy : gv_ok y) (hj : gv_lk y.2.2.2.2.1 pc = some (86, v9, w9, 0, b9, wp, nx, tb)) (hM : gv_msV M = true) (hb : gv_mn b9 = M.1) (hE : gv_ev G d M (gR b :: args) h (.inr (.inl E)) h1) (hst : st0 = args.reverse ++ gR b :: st) (hn : args.length = M.2.2.2.2.2.2.2.2.2.1) (hcat : gv_cs st ≤ 8)
    (ho : h.2.2 b = some (Sum.inr (ci, fs))) (hci : gv_cl[ci]? = some rr) (hrr : rr.1 = M.1.cls)
    (hsplit : y.2.2.2.2.2.2.2.2.2.2 = pre ++ (sp, ep, hpc, ct) :: suf) (hpass : ∀ z ∈ pre, z.2.2.2 ≠ 0 ∧ ∃ (w : Nat) (n : String), gv_tw w (.classLink y.1.cls z.2.2.2 n) = true ∧ (E, n) ∈ gx_nc) (hcov : sp ≤ pc ∧ pc < ep) (hct : ct ≠ 0)
    (hlink : gv_tw wl (.classLink y.1.cls ct nm) = true) (hcast : gv_tw wc (.castable E nm) = true) (dh : decode y.2.1 hpc = .ok (.astore_n q9, 1)) (hq9 : (q9 : Nat) = k9) (hk9 : k9 < y.2.2.1)
    (k : ∀ δ : Nat, gv_go G y (d + 1) r hf (hpc + 1) ((gv_kill ls k9).set k9 none) [] (h1.1 + δ, h1.2)) : gv_go G y (d + 1) r hf pc ls st0 h := by
  obtain ⟨i, n, hd, hc⟩ := gv_dec hy hj
  obtain ⟨x, rfl, rfl, rfl, hl⟩ := gv_c86 (show gv_ck8 y.1.cls pc (86, v9, w9, 0, b9, wp, nx, tb) i n = true from hc)
  unfold gv_msV at hM
  rw [Bool.and_eq_true, Bool.and_eq_true, Bool.and_eq_true, decide_eq_true_eq] at hM
  rw [hb] at hl
  rw [hst]
  exact gv_callVX pre suf hM.1.1.1 hM.2 hM.1.1.2 hM.1.2 hl hd hn hcat ho hci hrr hE hsplit hpass hcov hct hlink hcast dh hq9 hk9 k
theorem gv_las {f : Nat → Int32} {z : Int32} {xl : Int64} (hy : gv_ok y) (hj : gv_lk y.2.2.2.2.1 pc = some (78, v9, w9, a9, b, wp, nx, tb)) (h0 : Nat.beq a 0 = false) (ha : h.2.2 a = some (Sum.inl (1, n, Sum.inl f))) (hi : vp_in i n) (hx : xl = z.toInt64) (k : gv_go G y d r hf nx ls st (gv_set h a (Sum.inl (1, n, Sum.inl (upd f i.toNatClampNeg z))))) : gv_go G y d r hf pc ls (gL xl :: gI i :: gR a :: st) h := by
  subst hx
  refine gv_step (S := (nx, ls, st, gv_set h a (Sum.inl (1, n, Sum.inl (upd f i.toNatClampNeg z))))) gc_ok gc_qi hy hj ?_ k
  show gv_x6 (78, v9, w9, a9, b, wp, nx, tb) ls (gL z.toInt64 :: gI i :: gR a :: st) h = _
  have e9 : z.toInt64.toInt32 = z := by simp
  simp only [gv_x6, ha, h0]
  rw [if_neg hi, if_pos (by rw [e9]), e9]
/-- the law's own row gets a number -/
theorem hp_out {z : Int32} {xl : Int64} (hy : gv_ok y) (hj : gv_lk y.2.2.2.2.1 pc = some (78, v9, w9, a9, b, wp, nx, tb)) (hx : xl = z.toInt64) (k : gv_go G y d r hf nx ls st (hp n acc g cap (sI μ 98 0 z))) : gv_go G y d r hf pc ls (gL xl :: gI 0 :: gR 98 :: st) (hp n acc g cap μ) :=
  gv_las (i := 0) hy hj rfl rfl (by unfold vp_in; decide) hx (gv_cast (hp_set (m := upd (μ 98) 0 z) rfl) k)
theorem e_put1 (hw : isW w) (ht : t < 30) (hμ : μ 1 1 = nI t) : gv_ev G (d + 1) M_GE_put [gR 1, gI w] (hp n acc g cap μ) (.inl (some (gI (nI (t + 1))))) (hp n acc g cap (sI (sI μ 2 t w) 1 1 (nI (t + 1)))) := by
  refine gv_E (ls := [some (gR 1), some (gI w)]) (by decide) (fun h => by cases h) (Nat.le_of_ble_eq_true rfl) rfl ?_
  refine gv_B ok_GE_put 1 rfl ?_
  refine gv_Sc ok_GE_put rfl mk_GE_isWord rfl (e_isWord1 hw) rfl rfl (Nat.le_of_ble_eq_true rfl) ?_
  refine gv_B ok_GE_put 5 rfl ?_
  refine gv_brT (by show μ 1 1 < 30; rw [hμ]; exact nI_lt (b := 30) ht (by decide)) ?_
  refine gv_B ok_GE_put 5 rfl ?_
  refine hp_ias ok_GE_put rfl rfl rfl rfl hμ ht (by decide) ?_
  refine gv_B ok_GE_put 5 rfl ?_
  refine gv_st1 (x' := nI (t + 1)) (by show sI μ 2 t w 1 1 + 1 = _; rw [sI_nk (by decide), hμ, ← nI_succ]) ?_
  refine hp_pf ok_GE_put rfl rfl rfl rfl rfl (Nat.le_of_ble_eq_true rfl) rfl ?_
  refine gv_B ok_GE_put 2 rfl ?_
  refine gv_st1 sI_at ?_
  exact gv_Ri ok_GE_put rfl rfl
theorem e_putA (hw : ¬ isW w) : gv_ev G (d + 1) M_GE_put [gR 1, gI w] (hp n acc g cap μ) (.inr (.inl "java/lang/IllegalArgumentException")) (hp n (acc.1 + 1, acc.2 + 6) g cap μ) := by
  refine gv_E (ls := [some (gR 1), some (gI w)]) (by decide) (fun h => by cases h) (Nat.le_of_ble_eq_true rfl) rfl ?_
  refine gv_B ok_GE_put 1 rfl ?_
  refine gv_Sc ok_GE_put rfl mk_GE_isWord rfl (e_isWord0 hw) rfl rfl (Nat.le_of_ble_eq_true rfl) ?_
  refine gv_B ok_GE_put 1 rfl ?_
  refine gv_pce (p2 := 7) (by decide) ?_
  exact th_IAE rfl rfl (Nat.le_of_ble_eq_true rfl) (by decide +kernel) (by decide +kernel) (by decide +kernel) (by decide +kernel)
theorem e_putS (hw : isW w) (hμ : μ 1 1 = nI 30) : gv_ev G (d + 1) M_GE_put [gR 1, gI w] (hp n acc g cap μ) (.inr (.inl "java/lang/IllegalStateException")) (hp n (acc.1 + 1, acc.2 + 6) g cap μ) := by
  refine gv_E (ls := [some (gR 1), some (gI w)]) (by decide) (fun h => by cases h) (Nat.le_of_ble_eq_true rfl) rfl ?_
  refine gv_B ok_GE_put 1 rfl ?_
  refine gv_Sc ok_GE_put rfl mk_GE_isWord rfl (e_isWord1 hw) rfl rfl (Nat.le_of_ble_eq_true rfl) ?_
  refine gv_B ok_GE_put 5 rfl ?_
  refine gv_brF (by show ¬ μ 1 1 < 30; rw [hμ]; decide) ?_
  exact th_ISE rfl rfl (Nat.le_of_ble_eq_true rfl) (by decide +kernel) (by decide +kernel) (by decide +kernel) (by decide +kernel)
/-- the law's put: 0, and the answer in its row; 1 or 2 for an exception -/
theorem l_put0 (hw : isW w) (ht : t < 30) (hμ : μ 1 1 = nI t) : gv_ev G (d + 2) M_LA_put [gR 1, gI w, gR 98] (hp n acc g cap μ) (.inl (some (gI 0))) (hp n acc g cap (sI (sI (sI μ 2 t w) 1 1 (nI (t + 1))) 98 0 (nI (t + 1)))) := by
  refine gv_E (ls := [some (gR 1), some (gI w), some (gR 98), none]) (by decide) (fun h => by cases h) (Nat.le_of_ble_eq_true rfl) rfl ?_
  refine gv_B ok_LA_put 4 rfl ?_
  refine gv_Vc ok_LA_put rfl mk_GE_put rfl (e_put1 hw ht hμ) rfl rfl (Nat.le_of_ble_eq_true rfl) rfl rfl rfl ?_
  refine gv_B ok_LA_put 1 rfl ?_
  refine hp_out ok_LA_put rfl rfl ?_
  refine gv_B ok_LA_put 2 rfl ?_
  exact gv_Ri ok_LA_put rfl rfl
theorem l_putA (hw : ¬ isW w) : gv_ev G (d + 2) M_LA_put [gR 1, gI w, gR 98] (hp n acc g cap μ) (.inr (.inr (some (some (gI 1))))) (hp n (acc.1 + 1, acc.2 + 6) g cap μ) := by
  refine gv_E (ls := [some (gR 1), some (gI w), some (gR 98), none]) (by decide) (fun h => by cases h) (Nat.le_of_ble_eq_true rfl) rfl ?_
  refine gv_B ok_LA_put 4 rfl ?_
  refine gv_VX (wl := 540) (wc := 551) (nm := "java/lang/IllegalArgumentException") (q9 := 3) [] [(0, 9, 15, 15)] ok_LA_put rfl mk_GE_put rfl (e_putA hw) rfl rfl (Nat.le_of_ble_eq_true rfl) rfl rfl rfl rfl (fun z hz => nomatch hz) (by decide) (by decide) (by decide +kernel) (by decide +kernel) (by decide +kernel) rfl (by decide) (fun δ => ?_)
  refine gv_loose (hf := hp (n + δ) (acc.1 + 1, acc.2 + 6) g cap μ) (Nat.le_add_right _ _) ?_
  refine gv_B ok_LA_put 1 rfl ?_
  exact gv_Ri ok_LA_put rfl rfl
theorem l_putS (hw : isW w) (hμ : μ 1 1 = nI 30) : gv_ev G (d + 2) M_LA_put [gR 1, gI w, gR 98] (hp n acc g cap μ) (.inr (.inr (some (some (gI 2))))) (hp n (acc.1 + 1, acc.2 + 6) g cap μ) := by
  refine gv_E (ls := [some (gR 1), some (gI w), some (gR 98), none]) (by decide) (fun h => by cases h) (Nat.le_of_ble_eq_true rfl) rfl ?_
  refine gv_B ok_LA_put 4 rfl ?_
  refine gv_VX (wl := 541) (wc := 616) (nm := "java/lang/IllegalStateException") (q9 := 3) [(0, 9, 12, 13)] [] ok_LA_put rfl mk_GE_put rfl (e_putS hw hμ) rfl rfl (Nat.le_of_ble_eq_true rfl) rfl rfl rfl rfl (List.forall_mem_singleton.mpr ⟨by decide, 540, "java/lang/IllegalArgumentException", by decide +kernel, by decide⟩) (by decide) (by decide) (by decide +kernel) (by decide +kernel) (by decide +kernel) rfl (by decide) (fun δ => ?_)
  refine gv_loose (hf := hp (n + δ) (acc.1 + 1, acc.2 + 6) g cap μ) (Nat.le_add_right _ _) ?_
  refine gv_B ok_LA_put 1 rfl ?_
  exact gv_Ri ok_LA_put rfl rfl
end PTA
end
section
/-! simple methods of the class (written by wip/tools/genp.py) -/
section CSA
variable {G : gv_G} {d n g cap : Nat} {acc : Nat × Nat} {μ : Nat → Nat → Int32} {k x : Int32}
theorem e_takeTyped : gv_ev G (d + 0) M_GE_takeTyped [gR 1] (hp n acc g cap μ) (.inl (some (gI (μ 1 1)))) (hp n acc g cap (sI μ 1 1 0)) := by
  refine gv_E (ls := [some (gR 1), none]) (by decide) (fun h => by cases h) (Nat.le_of_ble_eq_true rfl) rfl ?_
  refine gv_B ok_GE_takeTyped 5 rfl ?_
  refine hp_pf ok_GE_takeTyped rfl rfl rfl rfl rfl (Nat.le_of_ble_eq_true rfl) rfl ?_
  refine gv_B ok_GE_takeTyped 1 rfl ?_
  exact gv_Ri ok_GE_takeTyped rfl rfl
theorem e_isQ0 : gv_ev G (d + 0) M_GE_isQuestion [gR 2, gI 0] (hp n acc g cap μ) (.inl (some (gI 0))) (hp n acc g cap μ) := by
  refine gv_E (ls := [some (gR 2), some (gI 0), none, none, none, none]) (by decide) (fun h => by cases h) (Nat.le_of_ble_eq_true rfl) rfl ?_
  refine gv_B ok_GE_isQuestion 10 rfl ?_
  exact gv_Rz ok_GE_isQuestion rfl rfl (by decide)
theorem e_isRule0 : gv_ev G (d + 1) M_GE_isRule [gR 2, gI 0] (hp n acc g cap μ) (.inl (some (gI 0))) (hp n acc g cap μ) := by
  refine gv_E (ls := [some (gR 2), some (gI 0)]) (by decide) (fun h => by cases h) (Nat.le_of_ble_eq_true rfl) rfl ?_
  refine gv_B ok_GE_isRule 2 rfl ?_
  refine gv_Sc ok_GE_isRule rfl mk_GE_isQuestion rfl (e_isQ0 (d := d)) rfl rfl (Nat.le_of_ble_eq_true rfl) ?_
  refine gv_B ok_GE_isRule 2 rfl ?_
  exact gv_Rz ok_GE_isRule rfl rfl (by decide)
theorem e_rule0 (h1 : ¬ 16 ≤ μ 3 1) (h2 : μ 37 11 = 0) (h3 : μ 1 1 = 0) : gv_ev G (d + 2) M_GE_rule [gR 1] (hp n acc g cap μ) (.inr (.inl "java/lang/IllegalArgumentException")) (hp n (acc.1 + 1, acc.2 + 6) g cap (sI μ 1 1 0)) := by
  refine gv_E (ls := [some (gR 1), none]) (by decide) (fun h => by cases h) (Nat.le_of_ble_eq_true rfl) rfl ?_
  refine gv_B ok_GE_rule 5 rfl ?_
  refine gv_brF h1 ?_
  refine gv_B ok_GE_rule 4 rfl ?_
  refine gv_brT h2 ?_
  refine gv_B ok_GE_rule 1 rfl ?_
  refine gv_Vc ok_GE_rule rfl mk_GE_takeTyped rfl (e_takeTyped (d := d + 1)) rfl rfl (Nat.le_of_ble_eq_true rfl) rfl rfl rfl ?_
  rw [h3]
  refine gv_B ok_GE_rule 4 rfl ?_
  refine gv_Sc ok_GE_rule rfl mk_GE_isRule rfl (e_isRule0 (d := d)) rfl rfl (Nat.le_of_ble_eq_true rfl) ?_
  refine gv_B ok_GE_rule 1 rfl ?_
  refine gv_pce (p2 := 46) (by decide) ?_
  exact th_IAE rfl rfl (Nat.le_of_ble_eq_true rfl) (by decide +kernel) (by decide +kernel) (by decide +kernel) (by decide +kernel)
theorem e_ask0 (h3 : μ 1 1 = 0) : gv_ev G (d + 1) M_GE_ask [gR 1] (hp n acc g cap μ) (.inr (.inl "java/lang/IllegalArgumentException")) (hp n (acc.1 + 1, acc.2 + 6) g cap (sI μ 1 1 0)) := by
  refine gv_E (ls := [some (gR 1), none]) (by decide) (fun h => by cases h) (Nat.le_of_ble_eq_true rfl) rfl ?_
  refine gv_B ok_GE_ask 1 rfl ?_
  refine gv_Vc ok_GE_ask rfl mk_GE_takeTyped rfl (e_takeTyped (d := d)) rfl rfl (Nat.le_of_ble_eq_true rfl) rfl rfl rfl ?_
  rw [h3]
  refine gv_B ok_GE_ask 4 rfl ?_
  refine gv_Sc ok_GE_ask rfl mk_GE_isQuestion rfl (e_isQ0 (d := d)) rfl rfl (Nat.le_of_ble_eq_true rfl) ?_
  refine gv_B ok_GE_ask 1 rfl ?_
  refine gv_pce (p2 := 16) (by decide) ?_
  exact th_IAE rfl rfl (Nat.le_of_ble_eq_true rfl) (by decide +kernel) (by decide +kernel) (by decide +kernel) (by decide +kernel)
theorem e_solveA (h1 : k < 1) : gv_ev G (d + 0) M_GE_solve [gR 1, gI k] (hp n acc g cap μ) (.inr (.inl "java/lang/IllegalArgumentException")) (hp n (acc.1 + 1, acc.2 + 6) g cap μ) := by
  refine gv_E (ls := [some (gR 1), some (gI k), none, none]) (by decide) (fun h => by cases h) (Nat.le_of_ble_eq_true rfl) rfl ?_
  refine gv_B ok_GE_solve 3 rfl ?_
  refine gv_brT h1 ?_
  exact th_IAE rfl rfl (Nat.le_of_ble_eq_true rfl) (by decide +kernel) (by decide +kernel) (by decide +kernel) (by decide +kernel)
theorem e_solveB (h1 : ¬ k < 1) (h2 : ¬ k ≤ 20) : gv_ev G (d + 0) M_GE_solve [gR 1, gI k] (hp n acc g cap μ) (.inr (.inl "java/lang/IllegalArgumentException")) (hp n (acc.1 + 1, acc.2 + 6) g cap μ) := by
  refine gv_E (ls := [some (gR 1), some (gI k), none, none]) (by decide) (fun h => by cases h) (Nat.le_of_ble_eq_true rfl) rfl ?_
  refine gv_B ok_GE_solve 3 rfl ?_
  refine gv_brF h1 ?_
  refine gv_B ok_GE_solve 3 rfl ?_
  refine gv_brF h2 ?_
  exact th_IAE rfl rfl (Nat.le_of_ble_eq_true rfl) (by decide +kernel) (by decide +kernel) (by decide +kernel) (by decide +kernel)
theorem e_solveS (h1 : ¬ k < 1) (h2 : k ≤ 20) (h3 : ¬ μ 37 11 = 1) : gv_ev G (d + 0) M_GE_solve [gR 1, gI k] (hp n acc g cap μ) (.inr (.inl "java/lang/IllegalStateException")) (hp n (acc.1 + 1, acc.2 + 6) g cap μ) := by
  refine gv_E (ls := [some (gR 1), some (gI k), none, none]) (by decide) (fun h => by cases h) (Nat.le_of_ble_eq_true rfl) rfl ?_
  refine gv_B ok_GE_solve 3 rfl ?_
  refine gv_brF h1 ?_
  refine gv_B ok_GE_solve 3 rfl ?_
  refine gv_brT h2 ?_
  refine gv_B ok_GE_solve 5 rfl ?_
  refine gv_brF h3 ?_
  exact th_ISE rfl rfl (Nat.le_of_ble_eq_true rfl) (by decide +kernel) (by decide +kernel) (by decide +kernel) (by decide +kernel)
theorem e_nextS (h1 : ¬ μ 37 11 = 2) : gv_ev G (d + 0) M_GE_next [gR 1] (hp n acc g cap μ) (.inr (.inl "java/lang/IllegalStateException")) (hp n (acc.1 + 1, acc.2 + 6) g cap μ) := by
  refine gv_E (ls := [some (gR 1)]) (by decide) (fun h => by cases h) (Nat.le_of_ble_eq_true rfl) rfl ?_
  refine gv_B ok_GE_next 5 rfl ?_
  refine gv_brF h1 ?_
  exact th_ISE rfl rfl (Nat.le_of_ble_eq_true rfl) (by decide +kernel) (by decide +kernel) (by decide +kernel) (by decide +kernel)
theorem e_stop : gv_ev G (d + 0) M_GE_stop [gR 1] (hp n acc g cap μ) (.inl none) (hp n acc g cap (sI μ 37 11 0)) := by
  refine gv_E (ls := [some (gR 1)]) (by decide) (fun h => by cases h) (Nat.le_of_ble_eq_true rfl) rfl ?_
  refine gv_B ok_GE_stop 3 rfl ?_
  refine hp_pf ok_GE_stop rfl rfl rfl rfl rfl (Nat.le_of_ble_eq_true rfl) rfl ?_
  exact gv_Rv ok_GE_stop rfl rfl
theorem e_collect0 (h1 : μ 37 11 = 0) : gv_ev G (d + 0) M_GE_collect [gR 1] (hp n acc g cap μ) (.inl (some (gI 0))) (hp n acc g cap μ) := by
  refine gv_E (ls := [some (gR 1)]) (by decide) (fun h => by cases h) (Nat.le_of_ble_eq_true rfl) rfl ?_
  refine gv_B ok_GE_collect 4 rfl ?_
  refine gv_brF (not_not_intro h1) ?_
  refine gv_B ok_GE_collect 2 rfl ?_
  exact gv_Ri ok_GE_collect rfl rfl
theorem e_cellsInUse0 (h1 : μ 37 11 = 0) : gv_ev G (d + 0) M_SE_cellsInUse [gR 37] (hp n acc g cap μ) (.inl (some (gI 0))) (hp n acc g cap μ) := by
  refine gv_E (ls := [some (gR 37)]) (by decide) (fun h => by cases h) (Nat.le_of_ble_eq_true rfl) rfl ?_
  refine gv_B ok_SE_cellsInUse 3 rfl ?_
  refine gv_brF (not_not_intro h1) ?_
  refine gv_B ok_SE_cellsInUse 2 rfl ?_
  exact gv_Ri ok_SE_cellsInUse rfl rfl
theorem e_choicesLeft0 (h1 : μ 37 11 = 0) : gv_ev G (d + 0) M_SE_choicesLeft [gR 37] (hp n acc g cap μ) (.inl (some (gI 0))) (hp n acc g cap μ) := by
  refine gv_E (ls := [some (gR 37)]) (by decide) (fun h => by cases h) (Nat.le_of_ble_eq_true rfl) rfl ?_
  refine gv_B ok_SE_choicesLeft 3 rfl ?_
  refine gv_brF (not_not_intro h1) ?_
  refine gv_B ok_SE_choicesLeft 2 rfl ?_
  exact gv_Ri ok_SE_choicesLeft rfl rfl
theorem e_goalsAtHand0 (h1 : μ 37 11 = 0) : gv_ev G (d + 0) M_SE_goalsAtHand [gR 37] (hp n acc g cap μ) (.inl (some (gI 0))) (hp n acc g cap μ) := by
  refine gv_E (ls := [some (gR 37)]) (by decide) (fun h => by cases h) (Nat.le_of_ble_eq_true rfl) rfl ?_
  refine gv_B ok_SE_goalsAtHand 3 rfl ?_
  refine gv_brF (not_not_intro h1) ?_
  refine gv_B ok_SE_goalsAtHand 2 rfl ?_
  exact gv_Ri ok_SE_goalsAtHand rfl rfl
theorem e_collections : gv_ev G (d + 0) M_SE_collections [gR 37] (hp n acc g cap μ) (.inl (some (gI (μ 64 5)))) (hp n acc g cap μ) := by
  refine gv_E (ls := [some (gR 37)]) (by decide) (fun h => by cases h) (Nat.le_of_ble_eq_true rfl) rfl ?_
  refine gv_B ok_SE_collections 3 rfl ?_
  exact gv_Ri ok_SE_collections rfl rfl
theorem e_answerLength0 (h1 : ¬ μ 37 11 = 2) : gv_ev G (d + 0) M_SE_answerLength [gR 37] (hp n acc g cap μ) (.inl (some (gI 0))) (hp n acc g cap μ) := by
  refine gv_E (ls := [some (gR 37)]) (by decide) (fun h => by cases h) (Nat.le_of_ble_eq_true rfl) rfl ?_
  refine gv_B ok_SE_answerLength 4 rfl ?_
  refine gv_brT h1 ?_
  refine gv_B ok_SE_answerLength 1 rfl ?_
  exact gv_Ri ok_SE_answerLength rfl rfl
theorem e_words0 (h1 : ¬ μ 37 11 = 2) : gv_ev G (d + 1) M_GE_words [gR 1] (hp n acc g cap μ) (.inl (some (gI 0))) (hp n acc g cap μ) := by
  refine gv_E (ls := [some (gR 1)]) (by decide) (fun h => by cases h) (Nat.le_of_ble_eq_true rfl) rfl ?_
  refine gv_B ok_GE_words 2 rfl ?_
  refine gv_Vc ok_GE_words rfl mk_SE_answerLength rfl (e_answerLength0 (d := d) h1) rfl rfl (Nat.le_of_ble_eq_true rfl) rfl rfl rfl ?_
  exact gv_Ri ok_GE_words rfl rfl
theorem e_wordN (h2 : x < 0) : gv_ev G (d + 0) M_GE_word [gR 1, gI x] (hp n acc g cap μ) (.inr (.inl "java/lang/IndexOutOfBoundsException")) (hp n (acc.1 + 1, acc.2 + 6) g cap μ) := by
  refine gv_E (ls := [some (gR 1), some (gI x)]) (by decide) (fun h => by cases h) (Nat.le_of_ble_eq_true rfl) rfl ?_
  refine gv_B ok_GE_word 2 rfl ?_
  refine gv_brT h2 ?_
  exact th_IOB rfl rfl (Nat.le_of_ble_eq_true rfl) (by decide +kernel) (by decide +kernel) (by decide +kernel) (by decide +kernel)
theorem e_word0 (h1 : ¬ μ 37 11 = 2) (h2 : ¬ x < 0) : gv_ev G (d + 1) M_GE_word [gR 1, gI x] (hp n acc g cap μ) (.inr (.inl "java/lang/IndexOutOfBoundsException")) (hp n (acc.1 + 1, acc.2 + 6) g cap μ) := by
  refine gv_E (ls := [some (gR 1), some (gI x)]) (by decide) (fun h => by cases h) (Nat.le_of_ble_eq_true rfl) rfl ?_
  refine gv_B ok_GE_word 2 rfl ?_
  refine gv_brF h2 ?_
  refine gv_B ok_GE_word 3 rfl ?_
  refine gv_Vc ok_GE_word rfl mk_SE_answerLength rfl (e_answerLength0 (d := d) h1) rfl rfl (Nat.le_of_ble_eq_true rfl) rfl rfl rfl ?_
  refine gv_B ok_GE_word 1 rfl ?_
  refine gv_brF h2 ?_
  exact th_IOB rfl rfl (Nat.le_of_ble_eq_true rfl) (by decide +kernel) (by decide +kernel) (by decide +kernel) (by decide +kernel)
theorem e_count0 (h1 : μ 37 11 = 0) : gv_ev G (d + 1) M_GE_count [gR 1, gI 0] (hp n acc g cap μ) (.inl (some (gI 0))) (hp n acc g cap μ) := by
  refine gv_E (ls := [some (gR 1), some (gI 0)]) (by decide) (fun h => by cases h) (Nat.le_of_ble_eq_true rfl) rfl ?_
  refine gv_B ok_GE_count 4 rfl ?_
  refine gv_Vc ok_GE_count rfl mk_SE_cellsInUse rfl (e_cellsInUse0 (d := d) h1) rfl rfl (Nat.le_of_ble_eq_true rfl) rfl rfl rfl ?_
  exact gv_Ri ok_GE_count rfl rfl
theorem e_count1 (h1 : μ 37 11 = 0) : gv_ev G (d + 1) M_GE_count [gR 1, gI 1] (hp n acc g cap μ) (.inl (some (gI 0))) (hp n acc g cap μ) := by
  refine gv_E (ls := [some (gR 1), some (gI 1)]) (by decide) (fun h => by cases h) (Nat.le_of_ble_eq_true rfl) rfl ?_
  refine gv_B ok_GE_count 4 rfl ?_
  refine gv_Vc ok_GE_count rfl mk_SE_choicesLeft rfl (e_choicesLeft0 (d := d) h1) rfl rfl (Nat.le_of_ble_eq_true rfl) rfl rfl rfl ?_
  exact gv_Ri ok_GE_count rfl rfl
theorem e_count2 (h1 : μ 37 11 = 0) : gv_ev G (d + 1) M_GE_count [gR 1, gI 2] (hp n acc g cap μ) (.inl (some (gI 0))) (hp n acc g cap μ) := by
  refine gv_E (ls := [some (gR 1), some (gI 2)]) (by decide) (fun h => by cases h) (Nat.le_of_ble_eq_true rfl) rfl ?_
  refine gv_B ok_GE_count 4 rfl ?_
  refine gv_Vc ok_GE_count rfl mk_SE_goalsAtHand rfl (e_goalsAtHand0 (d := d) h1) rfl rfl (Nat.le_of_ble_eq_true rfl) rfl rfl rfl ?_
  exact gv_Ri ok_GE_count rfl rfl
theorem e_count3 : gv_ev G (d + 1) M_GE_count [gR 1, gI 3] (hp n acc g cap μ) (.inl (some (gI (μ 37 12)))) (hp n acc g cap μ) := by
  refine gv_E (ls := [some (gR 1), some (gI 3)]) (by decide) (fun h => by cases h) (Nat.le_of_ble_eq_true rfl) rfl ?_
  refine gv_B ok_GE_count 5 rfl ?_
  exact gv_Ri ok_GE_count rfl rfl
theorem e_count4 : gv_ev G (d + 1) M_GE_count [gR 1, gI 4] (hp n acc g cap μ) (.inl (some (gI (μ 3 1)))) (hp n acc g cap μ) := by
  refine gv_E (ls := [some (gR 1), some (gI 4)]) (by decide) (fun h => by cases h) (Nat.le_of_ble_eq_true rfl) rfl ?_
  refine gv_B ok_GE_count 5 rfl ?_
  exact gv_Ri ok_GE_count rfl rfl
theorem e_count5 : gv_ev G (d + 1) M_GE_count [gR 1, gI 5] (hp n acc g cap μ) (.inl (some (gI (μ 1 1)))) (hp n acc g cap μ) := by
  refine gv_E (ls := [some (gR 1), some (gI 5)]) (by decide) (fun h => by cases h) (Nat.le_of_ble_eq_true rfl) rfl ?_
  refine gv_B ok_GE_count 4 rfl ?_
  exact gv_Ri ok_GE_count rfl rfl
theorem e_count6 : gv_ev G (d + 1) M_GE_count [gR 1, gI 6] (hp n acc g cap μ) (.inl (some (gI (μ 64 5)))) (hp n acc g cap μ) := by
  refine gv_E (ls := [some (gR 1), some (gI 6)]) (by decide) (fun h => by cases h) (Nat.le_of_ble_eq_true rfl) rfl ?_
  refine gv_B ok_GE_count 4 rfl ?_
  refine gv_Vc ok_GE_count rfl mk_SE_collections rfl (e_collections (d := d)) rfl rfl (Nat.le_of_ble_eq_true rfl) rfl rfl rfl ?_
  exact gv_Ri ok_GE_count rfl rfl
theorem e_countA (h1 : ∀ j : Nat, j < 7 → k ≠ nI j) : gv_ev G (d + 0) M_GE_count [gR 1, gI k] (hp n acc g cap μ) (.inr (.inl "java/lang/IllegalArgumentException")) (hp n (acc.1 + 1, acc.2 + 6) g cap μ) := by
  refine gv_E (ls := [some (gR 1), some (gI k)]) (by decide) (fun h => by cases h) (Nat.le_of_ble_eq_true rfl) rfl ?_
  refine gv_B ok_GE_count 2 rfl ?_
  refine gv_pce (p2 := 97) (gv_sw_none (tb := [(0, 44), (1, 52), (2, 60), (3, 68), (4, 76), (5, 84), (6, 89)]) (fun q hq e => by
    simp only [List.mem_cons, List.not_mem_nil, or_false] at hq
    rcases hq with rfl | rfl | rfl | rfl | rfl | rfl | rfl
    · exact h1 0 (by decide) e.symm
    · exact h1 1 (by decide) e.symm
    · exact h1 2 (by decide) e.symm
    · exact h1 3 (by decide) e.symm
    · exact h1 4 (by decide) e.symm
    · exact h1 5 (by decide) e.symm
    · exact h1 6 (by decide) e.symm)) ?_
  exact th_IAE rfl rfl (Nat.le_of_ble_eq_true rfl) (by decide +kernel) (by decide +kernel) (by decide +kernel) (by decide +kernel)
end CSA
end
section
/-! the law's own helpers (written by wip/tools/genq.py) -/
section LHA
variable {G : gv_G} {d n g cap : Nat} {acc : Nat × Nat} {μ : Nat → Nat → Int32} {k x : Int32}
theorem l_rule0 (h1 : ¬ 16 ≤ μ 3 1) (h2 : μ 37 11 = 0) (h3 : μ 1 1 = 0) : gv_ev G (d + 3) M_LA_rule [gR 1, gR 98] (hp n acc g cap μ) (.inr (.inr (some (some (gI 2))))) (hp n (acc.1 + 1, acc.2 + 6) g cap (sI μ 1 1 0)) := by
  refine gv_E (ls := [some (gR 1), some (gR 98), none]) (by decide) (fun h => by cases h) (Nat.le_of_ble_eq_true rfl) rfl ?_
  refine gv_B ok_LA_rule 3 rfl ?_
  refine gv_VX (wl := 540) (wc := 551) (nm := "java/lang/IllegalArgumentException") (q9 := 2) [(0, 8, 11, 15)] [] ok_LA_rule rfl mk_GE_rule rfl (e_rule0 (d := d) h1 h2 h3) rfl rfl (Nat.le_of_ble_eq_true rfl) rfl rfl rfl rfl (List.forall_mem_cons.mpr ⟨⟨by decide, 541, "java/lang/IllegalStateException", by decide +kernel, by decide⟩, (fun z hz => nomatch hz)⟩) (by decide) (by decide) (by decide +kernel) (by decide +kernel) (by decide +kernel) rfl (by decide) (fun δ => ?_)
  refine gv_loose (hf := hp (n + δ) (acc.1 + 1, acc.2 + 6) g cap (sI μ 1 1 0)) (Nat.le_add_right _ _) ?_
  refine gv_B ok_LA_rule 1 rfl ?_
  exact gv_Ri ok_LA_rule rfl rfl
theorem l_ask0 (h3 : μ 1 1 = 0) : gv_ev G (d + 2) M_LA_ask [gR 1, gR 98] (hp n acc g cap μ) (.inr (.inr (some (some (gI 1))))) (hp n (acc.1 + 1, acc.2 + 6) g cap (sI μ 1 1 0)) := by
  refine gv_E (ls := [some (gR 1), some (gR 98), none]) (by decide) (fun h => by cases h) (Nat.le_of_ble_eq_true rfl) rfl ?_
  refine gv_B ok_LA_ask 3 rfl ?_
  refine gv_VX (wl := 540) (wc := 551) (nm := "java/lang/IllegalArgumentException") (q9 := 2) [] [] ok_LA_ask rfl mk_GE_ask rfl (e_ask0 (d := d) h3) rfl rfl (Nat.le_of_ble_eq_true rfl) rfl rfl rfl rfl (fun z hz => nomatch hz) (by decide) (by decide) (by decide +kernel) (by decide +kernel) (by decide +kernel) rfl (by decide) (fun δ => ?_)
  refine gv_loose (hf := hp (n + δ) (acc.1 + 1, acc.2 + 6) g cap (sI μ 1 1 0)) (Nat.le_add_right _ _) ?_
  refine gv_B ok_LA_ask 1 rfl ?_
  exact gv_Ri ok_LA_ask rfl rfl
theorem l_solveA (h1 : k < 1) : gv_ev G (d + 1) M_LA_solve [gR 1, gI k, gR 98] (hp n acc g cap μ) (.inr (.inr (some (some (gI 1))))) (hp n (acc.1 + 1, acc.2 + 6) g cap μ) := by
  refine gv_E (ls := [some (gR 1), some (gI k), some (gR 98), none]) (by decide) (fun h => by cases h) (Nat.le_of_ble_eq_true rfl) rfl ?_
  refine gv_B ok_LA_solve 4 rfl ?_
  refine gv_VX (wl := 540) (wc := 551) (nm := "java/lang/IllegalArgumentException") (q9 := 3) [] [(0, 9, 15, 15), (0, 9, 18, 27), (0, 9, 21, 29)] ok_LA_solve rfl mk_GE_solve rfl (e_solveA (d := d) h1) rfl rfl (Nat.le_of_ble_eq_true rfl) rfl rfl rfl rfl (fun z hz => nomatch hz) (by decide) (by decide) (by decide +kernel) (by decide +kernel) (by decide +kernel) rfl (by decide) (fun δ => ?_)
  refine gv_loose (hf := hp (n + δ) (acc.1 + 1, acc.2 + 6) g cap μ) (Nat.le_add_right _ _) ?_
  refine gv_B ok_LA_solve 1 rfl ?_
  exact gv_Ri ok_LA_solve rfl rfl
theorem l_solveB (h1 : ¬ k < 1) (h2 : ¬ k ≤ 20) : gv_ev G (d + 1) M_LA_solve [gR 1, gI k, gR 98] (hp n acc g cap μ) (.inr (.inr (some (some (gI 1))))) (hp n (acc.1 + 1, acc.2 + 6) g cap μ) := by
  refine gv_E (ls := [some (gR 1), some (gI k), some (gR 98), none]) (by decide) (fun h => by cases h) (Nat.le_of_ble_eq_true rfl) rfl ?_
  refine gv_B ok_LA_solve 4 rfl ?_
  refine gv_VX (wl := 540) (wc := 551) (nm := "java/lang/IllegalArgumentException") (q9 := 3) [] [(0, 9, 15, 15), (0, 9, 18, 27), (0, 9, 21, 29)] ok_LA_solve rfl mk_GE_solve rfl (e_solveB (d := d) h1 h2) rfl rfl (Nat.le_of_ble_eq_true rfl) rfl rfl rfl rfl (fun z hz => nomatch hz) (by decide) (by decide) (by decide +kernel) (by decide +kernel) (by decide +kernel) rfl (by decide) (fun δ => ?_)
  refine gv_loose (hf := hp (n + δ) (acc.1 + 1, acc.2 + 6) g cap μ) (Nat.le_add_right _ _) ?_
  refine gv_B ok_LA_solve 1 rfl ?_
  exact gv_Ri ok_LA_solve rfl rfl
theorem l_solveS (h1 : ¬ k < 1) (h2 : k ≤ 20) (h3 : ¬ μ 37 11 = 1) : gv_ev G (d + 1) M_LA_solve [gR 1, gI k, gR 98] (hp n acc g cap μ) (.inr (.inr (some (some (gI 2))))) (hp n (acc.1 + 1, acc.2 + 6) g cap μ) := by
  refine gv_E (ls := [some (gR 1), some (gI k), some (gR 98), none]) (by decide) (fun h => by cases h) (Nat.le_of_ble_eq_true rfl) rfl ?_
  refine gv_B ok_LA_solve 4 rfl ?_
  refine gv_VX (wl := 541) (wc := 616) (nm := "java/lang/IllegalStateException") (q9 := 3) [(0, 9, 12, 13)] [(0, 9, 18, 27), (0, 9, 21, 29)] ok_LA_solve rfl mk_GE_solve rfl (e_solveS (d := d) h1 h2 h3) rfl rfl (Nat.le_of_ble_eq_true rfl) rfl rfl rfl rfl (List.forall_mem_cons.mpr ⟨⟨by decide, 540, "java/lang/IllegalArgumentException", by decide +kernel, by decide⟩, (fun z hz => nomatch hz)⟩) (by decide) (by decide) (by decide +kernel) (by decide +kernel) (by decide +kernel) rfl (by decide) (fun δ => ?_)
  refine gv_loose (hf := hp (n + δ) (acc.1 + 1, acc.2 + 6) g cap μ) (Nat.le_add_right _ _) ?_
  refine gv_B ok_LA_solve 1 rfl ?_
  exact gv_Ri ok_LA_solve rfl rfl
theorem l_nextS (h1 : ¬ μ 37 11 = 2) : gv_ev G (d + 1) M_LA_next [gR 1, gR 98] (hp n acc g cap μ) (.inr (.inr (some (some (gI 1))))) (hp n (acc.1 + 1, acc.2 + 6) g cap μ) := by
  refine gv_E (ls := [some (gR 1), some (gR 98), none]) (by decide) (fun h => by cases h) (Nat.le_of_ble_eq_true rfl) rfl ?_
  refine gv_B ok_LA_next 3 rfl ?_
  refine gv_VX (wl := 541) (wc := 616) (nm := "java/lang/IllegalStateException") (q9 := 2) [] [] ok_LA_next rfl mk_GE_next rfl (e_nextS (d := d) h1) rfl rfl (Nat.le_of_ble_eq_true rfl) rfl rfl rfl rfl (fun z hz => nomatch hz) (by decide) (by decide) (by decide +kernel) (by decide +kernel) (by decide +kernel) rfl (by decide) (fun δ => ?_)
  refine gv_loose (hf := hp (n + δ) (acc.1 + 1, acc.2 + 6) g cap μ) (Nat.le_add_right _ _) ?_
  refine gv_B ok_LA_next 1 rfl ?_
  exact gv_Ri ok_LA_next rfl rfl
theorem l_countA (h1 : ∀ j : Nat, j < 7 → k ≠ nI j) : gv_ev G (d + 1) M_LA_count [gR 1, gI k, gR 98] (hp n acc g cap μ) (.inr (.inr (some (some (gI 1))))) (hp n (acc.1 + 1, acc.2 + 6) g cap μ) := by
  refine gv_E (ls := [some (gR 1), some (gI k), some (gR 98), none]) (by decide) (fun h => by cases h) (Nat.le_of_ble_eq_true rfl) rfl ?_
  refine gv_B ok_LA_count 4 rfl ?_
  refine gv_VX (wl := 540) (wc := 551) (nm := "java/lang/IllegalArgumentException") (q9 := 3) [] [] ok_LA_count rfl mk_GE_count rfl (e_countA (d := d) h1) rfl rfl (Nat.le_of_ble_eq_true rfl) rfl rfl rfl rfl (fun z hz => nomatch hz) (by decide) (by decide) (by decide +kernel) (by decide +kernel) (by decide +kernel) rfl (by decide) (fun δ => ?_)
  refine gv_loose (hf := hp (n + δ) (acc.1 + 1, acc.2 + 6) g cap μ) (Nat.le_add_right _ _) ?_
  refine gv_B ok_LA_count 1 rfl ?_
  exact gv_Ri ok_LA_count rfl rfl
theorem l_wordN (h2 : x < 0) : gv_ev G (d + 1) M_LA_word [gR 1, gI x, gR 98] (hp n acc g cap μ) (.inr (.inr (some (some (gI 1))))) (hp n (acc.1 + 1, acc.2 + 6) g cap μ) := by
  refine gv_E (ls := [some (gR 1), some (gI x), some (gR 98), none]) (by decide) (fun h => by cases h) (Nat.le_of_ble_eq_true rfl) rfl ?_
  refine gv_B ok_LA_word 4 rfl ?_
  refine gv_VX (wl := 910) (wc := 917) (nm := "java/lang/IndexOutOfBoundsException") (q9 := 3) [] [] ok_LA_word rfl mk_GE_word rfl (e_wordN (d := d) h2) rfl rfl (Nat.le_of_ble_eq_true rfl) rfl rfl rfl rfl (fun z hz => nomatch hz) (by decide) (by decide) (by decide +kernel) (by decide +kernel) (by decide +kernel) rfl (by decide) (fun δ => ?_)
  refine gv_loose (hf := hp (n + δ) (acc.1 + 1, acc.2 + 6) g cap μ) (Nat.le_add_right _ _) ?_
  refine gv_B ok_LA_word 1 rfl ?_
  exact gv_Ri ok_LA_word rfl rfl
theorem l_word0 (h1 : ¬ μ 37 11 = 2) (h2 : ¬ x < 0) : gv_ev G (d + 2) M_LA_word [gR 1, gI x, gR 98] (hp n acc g cap μ) (.inr (.inr (some (some (gI 1))))) (hp n (acc.1 + 1, acc.2 + 6) g cap μ) := by
  refine gv_E (ls := [some (gR 1), some (gI x), some (gR 98), none]) (by decide) (fun h => by cases h) (Nat.le_of_ble_eq_true rfl) rfl ?_
  refine gv_B ok_LA_word 4 rfl ?_
  refine gv_VX (wl := 910) (wc := 917) (nm := "java/lang/IndexOutOfBoundsException") (q9 := 3) [] [] ok_LA_word rfl mk_GE_word rfl (e_word0 (d := d) h1 h2) rfl rfl (Nat.le_of_ble_eq_true rfl) rfl rfl rfl rfl (fun z hz => nomatch hz) (by decide) (by decide) (by decide +kernel) (by decide +kernel) (by decide +kernel) rfl (by decide) (fun δ => ?_)
  refine gv_loose (hf := hp (n + δ) (acc.1 + 1, acc.2 + 6) g cap μ) (Nat.le_add_right _ _) ?_
  refine gv_B ok_LA_word 1 rfl ?_
  exact gv_Ri ok_LA_word rfl rfl
theorem l_count0 (h1 : μ 37 11 = 0) : gv_ev G (d + 2) M_LA_count [gR 1, gI 0, gR 98] (hp n acc g cap μ) (.inl (some (gI 0))) (hp n acc g cap (sI μ 98 0 0)) := by
  refine gv_E (ls := [some (gR 1), some (gI 0), some (gR 98), none]) (by decide) (fun h => by cases h) (Nat.le_of_ble_eq_true rfl) rfl ?_
  refine gv_B ok_LA_count 4 rfl ?_
  refine gv_Vc ok_LA_count rfl mk_GE_count rfl (e_count0 (d := d) h1) rfl rfl (Nat.le_of_ble_eq_true rfl) rfl rfl rfl ?_
  refine gv_B ok_LA_count 1 rfl ?_
  refine hp_out ok_LA_count rfl rfl ?_
  refine gv_B ok_LA_count 2 rfl ?_
  exact gv_Ri ok_LA_count rfl rfl
theorem l_count1 (h1 : μ 37 11 = 0) : gv_ev G (d + 2) M_LA_count [gR 1, gI 1, gR 98] (hp n acc g cap μ) (.inl (some (gI 0))) (hp n acc g cap (sI μ 98 0 0)) := by
  refine gv_E (ls := [some (gR 1), some (gI 1), some (gR 98), none]) (by decide) (fun h => by cases h) (Nat.le_of_ble_eq_true rfl) rfl ?_
  refine gv_B ok_LA_count 4 rfl ?_
  refine gv_Vc ok_LA_count rfl mk_GE_count rfl (e_count1 (d := d) h1) rfl rfl (Nat.le_of_ble_eq_true rfl) rfl rfl rfl ?_
  refine gv_B ok_LA_count 1 rfl ?_
  refine hp_out ok_LA_count rfl rfl ?_
  refine gv_B ok_LA_count 2 rfl ?_
  exact gv_Ri ok_LA_count rfl rfl
theorem l_count2 (h1 : μ 37 11 = 0) : gv_ev G (d + 2) M_LA_count [gR 1, gI 2, gR 98] (hp n acc g cap μ) (.inl (some (gI 0))) (hp n acc g cap (sI μ 98 0 0)) := by
  refine gv_E (ls := [some (gR 1), some (gI 2), some (gR 98), none]) (by decide) (fun h => by cases h) (Nat.le_of_ble_eq_true rfl) rfl ?_
  refine gv_B ok_LA_count 4 rfl ?_
  refine gv_Vc ok_LA_count rfl mk_GE_count rfl (e_count2 (d := d) h1) rfl rfl (Nat.le_of_ble_eq_true rfl) rfl rfl rfl ?_
  refine gv_B ok_LA_count 1 rfl ?_
  refine hp_out ok_LA_count rfl rfl ?_
  refine gv_B ok_LA_count 2 rfl ?_
  exact gv_Ri ok_LA_count rfl rfl
theorem l_count3 : gv_ev G (d + 2) M_LA_count [gR 1, gI 3, gR 98] (hp n acc g cap μ) (.inl (some (gI 0))) (hp n acc g cap (sI μ 98 0 (μ 37 12))) := by
  refine gv_E (ls := [some (gR 1), some (gI 3), some (gR 98), none]) (by decide) (fun h => by cases h) (Nat.le_of_ble_eq_true rfl) rfl ?_
  refine gv_B ok_LA_count 4 rfl ?_
  refine gv_Vc ok_LA_count rfl mk_GE_count rfl (e_count3 (d := d)) rfl rfl (Nat.le_of_ble_eq_true rfl) rfl rfl rfl ?_
  refine gv_B ok_LA_count 1 rfl ?_
  refine hp_out ok_LA_count rfl rfl ?_
  refine gv_B ok_LA_count 2 rfl ?_
  exact gv_Ri ok_LA_count rfl rfl
theorem l_count4 : gv_ev G (d + 2) M_LA_count [gR 1, gI 4, gR 98] (hp n acc g cap μ) (.inl (some (gI 0))) (hp n acc g cap (sI μ 98 0 (μ 3 1))) := by
  refine gv_E (ls := [some (gR 1), some (gI 4), some (gR 98), none]) (by decide) (fun h => by cases h) (Nat.le_of_ble_eq_true rfl) rfl ?_
  refine gv_B ok_LA_count 4 rfl ?_
  refine gv_Vc ok_LA_count rfl mk_GE_count rfl (e_count4 (d := d)) rfl rfl (Nat.le_of_ble_eq_true rfl) rfl rfl rfl ?_
  refine gv_B ok_LA_count 1 rfl ?_
  refine hp_out ok_LA_count rfl rfl ?_
  refine gv_B ok_LA_count 2 rfl ?_
  exact gv_Ri ok_LA_count rfl rfl
theorem l_count5 : gv_ev G (d + 2) M_LA_count [gR 1, gI 5, gR 98] (hp n acc g cap μ) (.inl (some (gI 0))) (hp n acc g cap (sI μ 98 0 (μ 1 1))) := by
  refine gv_E (ls := [some (gR 1), some (gI 5), some (gR 98), none]) (by decide) (fun h => by cases h) (Nat.le_of_ble_eq_true rfl) rfl ?_
  refine gv_B ok_LA_count 4 rfl ?_
  refine gv_Vc ok_LA_count rfl mk_GE_count rfl (e_count5 (d := d)) rfl rfl (Nat.le_of_ble_eq_true rfl) rfl rfl rfl ?_
  refine gv_B ok_LA_count 1 rfl ?_
  refine hp_out ok_LA_count rfl rfl ?_
  refine gv_B ok_LA_count 2 rfl ?_
  exact gv_Ri ok_LA_count rfl rfl
theorem l_count6 : gv_ev G (d + 2) M_LA_count [gR 1, gI 6, gR 98] (hp n acc g cap μ) (.inl (some (gI 0))) (hp n acc g cap (sI μ 98 0 (μ 64 5))) := by
  refine gv_E (ls := [some (gR 1), some (gI 6), some (gR 98), none]) (by decide) (fun h => by cases h) (Nat.le_of_ble_eq_true rfl) rfl ?_
  refine gv_B ok_LA_count 4 rfl ?_
  refine gv_Vc ok_LA_count rfl mk_GE_count rfl (e_count6 (d := d)) rfl rfl (Nat.le_of_ble_eq_true rfl) rfl rfl rfl ?_
  refine gv_B ok_LA_count 1 rfl ?_
  refine hp_out ok_LA_count rfl rfl ?_
  refine gv_B ok_LA_count 2 rfl ?_
  exact gv_Ri ok_LA_count rfl rfl
end LHA
end
section
/-! simple methods of the reference (written by wip/tools/genr.py) -/
section RMA
variable {G : gv_G} {d n g cap : Nat} {acc : Nat × Nat} {μ : Nat → Nat → Int32} {k x w : Int32} {t : Nat}
theorem lt1_le0 (h : k < 1) : k ≤ 0 := by
  rw [Int32.lt_iff_toInt_lt] at h
  rw [Int32.le_iff_toInt_le]
  have e1 : (1 : Int32).toInt = 1 := by decide
  have e0 : (0 : Int32).toInt = 0 := by decide
  omega
theorem nlt1_nle0 (h : ¬ k < 1) : ¬ k ≤ 0 := by
  rw [Int32.lt_iff_toInt_lt] at h
  rw [Int32.le_iff_toInt_le]
  have e1 : (1 : Int32).toInt = 1 := by decide
  have e0 : (0 : Int32).toInt = 0 := by decide
  omega
theorem m_thrown : gv_ev G (d + 0) M_MO_thrown [gR 70] (hp n acc g cap μ) (.inl (some (gI (μ 70 0)))) (hp n acc g cap μ) := by
  refine gv_E (ls := [some (gR 70)]) (by decide) (fun h => by cases h) (Nat.le_of_ble_eq_true rfl) rfl ?_
  refine gv_B ok_MO_thrown 2 rfl ?_
  exact gv_Ri ok_MO_thrown rfl rfl
theorem m_rule0 (h1 : ¬ μ 70 3 = 16) (h2 : μ 70 25 = 0) (h3 : μ 70 1 = 0) : gv_ev G (d + 0) M_MO_rule [gR 70] (hp n acc g cap μ) (.inl (some (gI 0))) (hp n acc g cap (sI (sI (sI μ 70 0 0) 70 0 2) 70 1 0)) := by
  refine gv_E (ls := [some (gR 70), none, none]) (by decide) (fun h => by cases h) (Nat.le_of_ble_eq_true rfl) rfl ?_
  refine gv_B ok_MO_rule 5 rfl ?_
  refine gv_brF h1 ?_
  refine gv_B ok_MO_rule 3 rfl ?_
  refine gv_brT h2 ?_
  refine gv_B ok_MO_rule 1 rfl ?_
  refine hp_pf ok_MO_rule rfl rfl rfl rfl rfl (Nat.le_of_ble_eq_true rfl) rfl ?_
  refine gv_B ok_MO_rule 6 rfl ?_
  refine gv_brT (by show μ 70 1 ≤ 0; rw [h3]; decide) ?_
  refine gv_B ok_MO_rule 6 rfl ?_
  refine hp_pf ok_MO_rule rfl rfl rfl rfl rfl (Nat.le_of_ble_eq_true rfl) rfl ?_
  refine gv_B ok_MO_rule 4 rfl ?_
  refine hp_pf ok_MO_rule rfl rfl rfl rfl rfl (Nat.le_of_ble_eq_true rfl) rfl ?_
  refine gv_B ok_MO_rule 3 rfl ?_
  exact gv_Ri ok_MO_rule rfl rfl
theorem m_ask0 (h3 : μ 70 1 = 0) : gv_ev G (d + 0) M_MO_ask [gR 70] (hp n acc g cap μ) (.inl (some (gI 0))) (hp n acc g cap (sI (sI μ 70 0 1) 70 1 0)) := by
  refine gv_E (ls := [some (gR 70), none, none]) (by decide) (fun h => by cases h) (Nat.le_of_ble_eq_true rfl) rfl ?_
  refine gv_B ok_MO_ask 3 rfl ?_
  refine gv_brT (by rw [h3]; decide) ?_
  refine gv_B ok_MO_ask 6 rfl ?_
  refine hp_pf ok_MO_ask rfl rfl rfl rfl rfl (Nat.le_of_ble_eq_true rfl) rfl ?_
  refine gv_B ok_MO_ask 4 rfl ?_
  refine hp_pf ok_MO_ask rfl rfl rfl rfl rfl (Nat.le_of_ble_eq_true rfl) rfl ?_
  refine gv_B ok_MO_ask 3 rfl ?_
  exact gv_Ri ok_MO_ask rfl rfl
theorem m_solveA (h1 : k < 1) : gv_ev G (d + 0) M_MO_solve [gR 70, gI k] (hp n acc g cap μ) (.inl (some (gI 0))) (hp n acc g cap (sI μ 70 0 1)) := by
  refine gv_E (ls := [some (gR 70), some (gI k), none]) (by decide) (fun h => by cases h) (Nat.le_of_ble_eq_true rfl) rfl ?_
  refine gv_B ok_MO_solve 4 rfl ?_
  refine gv_brT h1 ?_
  refine gv_B ok_MO_solve 2 rfl ?_
  refine hp_pf ok_MO_solve rfl rfl rfl rfl rfl (Nat.le_of_ble_eq_true rfl) rfl ?_
  refine gv_B ok_MO_solve 5 rfl ?_
  refine gv_brT (lt1_le0 h1) ?_
  refine gv_B ok_MO_solve 5 rfl ?_
  exact gv_Ri ok_MO_solve rfl rfl
theorem m_solveB (h1 : ¬ k < 1) (h2 : ¬ k ≤ 20) : gv_ev G (d + 0) M_MO_solve [gR 70, gI k] (hp n acc g cap μ) (.inl (some (gI 0))) (hp n acc g cap (sI μ 70 0 1)) := by
  refine gv_E (ls := [some (gR 70), some (gI k), none]) (by decide) (fun h => by cases h) (Nat.le_of_ble_eq_true rfl) rfl ?_
  refine gv_B ok_MO_solve 4 rfl ?_
  refine gv_brF h1 ?_
  refine gv_B ok_MO_solve 3 rfl ?_
  refine gv_brF h2 ?_
  refine gv_B ok_MO_solve 2 rfl ?_
  refine hp_pf ok_MO_solve rfl rfl rfl rfl rfl (Nat.le_of_ble_eq_true rfl) rfl ?_
  refine gv_B ok_MO_solve 5 rfl ?_
  refine gv_brF (nlt1_nle0 h1) ?_
  refine gv_B ok_MO_solve 8 rfl ?_
  exact gv_Ri ok_MO_solve rfl rfl
theorem m_solveS (h1 : ¬ k < 1) (h2 : k ≤ 20) (h3 : μ 70 25 = 0) : gv_ev G (d + 0) M_MO_solve [gR 70, gI k] (hp n acc g cap μ) (.inl (some (gI 0))) (hp n acc g cap (sI μ 70 0 2)) := by
  refine gv_E (ls := [some (gR 70), some (gI k), none]) (by decide) (fun h => by cases h) (Nat.le_of_ble_eq_true rfl) rfl ?_
  refine gv_B ok_MO_solve 4 rfl ?_
  refine gv_brF h1 ?_
  refine gv_B ok_MO_solve 3 rfl ?_
  refine gv_brT h2 ?_
  refine gv_B ok_MO_solve 3 rfl ?_
  refine gv_brT h3 ?_
  refine gv_B ok_MO_solve 2 rfl ?_
  refine hp_pf ok_MO_solve rfl rfl rfl rfl rfl (Nat.le_of_ble_eq_true rfl) rfl ?_
  refine gv_B ok_MO_solve 5 rfl ?_
  refine gv_brF (nlt1_nle0 h1) ?_
  refine gv_B ok_MO_solve 8 rfl ?_
  exact gv_Ri ok_MO_solve rfl rfl
theorem m_next0 (h1 : μ 70 26 = 0) : gv_ev G (d + 0) M_MO_next [gR 70] (hp n acc g cap μ) (.inl (some (gI 0))) (hp n acc g cap (sI μ 70 0 1)) := by
  refine gv_E (ls := [some (gR 70)]) (by decide) (fun h => by cases h) (Nat.le_of_ble_eq_true rfl) rfl ?_
  refine gv_B ok_MO_next 4 rfl ?_
  refine gv_brT h1 ?_
  refine gv_B ok_MO_next 1 rfl ?_
  refine hp_pf ok_MO_next rfl rfl rfl rfl rfl (Nat.le_of_ble_eq_true rfl) rfl ?_
  refine gv_B ok_MO_next 4 rfl ?_
  exact gv_Rz ok_MO_next rfl rfl (by decide)
theorem m_stop0 (h1 : μ 70 25 = 0) : gv_ev G (d + 0) M_MO_stop [gR 70] (hp n acc g cap μ) (.inl none) (hp n acc g cap (sI μ 70 0 0)) := by
  refine gv_E (ls := [some (gR 70)]) (by decide) (fun h => by cases h) (Nat.le_of_ble_eq_true rfl) rfl ?_
  refine gv_B ok_MO_stop 2 rfl ?_
  refine hp_pf ok_MO_stop rfl rfl rfl rfl rfl (Nat.le_of_ble_eq_true rfl) rfl ?_
  refine gv_B ok_MO_stop 3 rfl ?_
  refine gv_brT h1 ?_
  exact gv_Rv ok_MO_stop rfl rfl
theorem m_collect0 (h1 : μ 70 25 = 0) : gv_ev G (d + 0) M_MO_collect [gR 70] (hp n acc g cap μ) (.inl (some (gI 0))) (hp n acc g cap (sI μ 70 0 0)) := by
  refine gv_E (ls := [some (gR 70)]) (by decide) (fun h => by cases h) (Nat.le_of_ble_eq_true rfl) rfl ?_
  refine gv_B ok_MO_collect 2 rfl ?_
  refine hp_pf ok_MO_collect rfl rfl rfl rfl rfl (Nat.le_of_ble_eq_true rfl) rfl ?_
  refine gv_B ok_MO_collect 3 rfl ?_
  refine gv_brT h1 ?_
  refine gv_B ok_MO_collect 1 rfl ?_
  exact gv_Ri ok_MO_collect rfl rfl
/-- how many of the first c are above 0 -/
def cntP (f : Nat → Int32) : Nat → Nat
  | 0 => 0
  | c + 1 => cntP f c + (if 0 < f c then 1 else 0)
theorem gv_lse {y : gv_M} {r : gv_O} {hf h : gv_H} {pc : Nat} {ls ls' : gv_L} {st : List gv_V} (e : ls = ls') (k : gv_go G y d r hf pc ls' st h) : gv_go G y d r hf pc ls st h := e ▸ k
theorem m_inUseL (b : Nat) : ∀ c : Nat, c + b = 240 → gv_go G M_MO_inUse d (.inl (some (gI (nI (cntP (μ 74) 240))))) (hp n acc g cap μ) 4 [some (gR 70), some (gI (nI (cntP (μ 74) c))), some (gI (nI c))] [] (hp n acc g cap μ) := by
  induction b with
  | zero =>
    intro c hc
    have hc : c = 240 := by omega
    subst hc
    refine gv_B ok_MO_inUse 3 rfl ?_
    refine gv_brT (by decide) ?_
    refine gv_B ok_MO_inUse 1 rfl ?_
    exact gv_Ri ok_MO_inUse rfl rfl
  | succ b ih =>
    intro c hc
    refine gv_B ok_MO_inUse 3 rfl ?_
    refine gv_brF (nI_ge (b := 240) (by omega) (by decide)) ?_
    refine gv_B ok_MO_inUse 4 rfl ?_
    refine hp_ial ok_MO_inUse rfl rfl rfl (show c < 240 by omega) (by decide) ?_
    refine gv_B ok_MO_inUse 1 rfl ?_
    refine gv_br (fun c1 => ?_) (fun c1 => ?_)
    · refine gv_B ok_MO_inUse 5 rfl ?_
      refine gv_lse (ls' := [some (gR 70), some (gI (nI (cntP (μ 74) (c + 1)))), some (gI (nI (c + 1)))]) ?_ (ih (c + 1) (by omega))
      have e1 : cntP (μ 74) (c + 1) = cntP (μ 74) c := by
        show cntP (μ 74) c + (if 0 < μ 74 c then 1 else 0) = _
        rw [if_neg (Int32.not_lt.mpr c1)]
        rfl
      rw [e1, nI_succ c]
      show [some (gR 70), some (gI (nI (cntP (μ 74) c) + 0)), some (gI (nI c + 1))] = _
      rw [Int32.add_zero]
    · refine gv_B ok_MO_inUse 6 rfl ?_
      refine gv_lse (ls' := [some (gR 70), some (gI (nI (cntP (μ 74) (c + 1)))), some (gI (nI (c + 1)))]) ?_ (ih (c + 1) (by omega))
      have e1 : cntP (μ 74) (c + 1) = cntP (μ 74) c + 1 := by
        show cntP (μ 74) c + (if 0 < μ 74 c then 1 else 0) = _
        rw [if_pos (Int32.not_le.mp c1)]
      rw [e1, nI_succ c, nI_succ (cntP (μ 74) c)]
      rfl
theorem m_inUse : gv_ev G (d + 0) M_MO_inUse [gR 70] (hp n acc g cap μ) (.inl (some (gI (nI (cntP (μ 74) 240))))) (hp n acc g cap μ) := by
  refine gv_E (ls := [some (gR 70), none, none]) (by decide) (fun h => by cases h) (Nat.le_of_ble_eq_true rfl) rfl ?_
  refine gv_B ok_MO_inUse 4 rfl ?_
  exact m_inUseL 240 0 rfl
theorem cntP0 {f : Nat → Int32} (h : ∀ j, f j = 0) : ∀ c, cntP f c = 0
  | 0 => rfl
  | c + 1 => by
    show cntP f c + (if 0 < f c then 1 else 0) = 0
    rw [cntP0 h c, h c]
    rfl
/-- the first c are 0 -/
def zM (f : Nat → Int32) (c : Nat) : Nat → Int32 := fun j => if j < c then 0 else f j
theorem zM_0 {f : Nat → Int32} : zM f 0 = f := funext fun j => if_neg (Nat.not_lt_zero j)
theorem zM_up {f : Nat → Int32} {c : Nat} : upd (zM f c) c 0 = zM f (c + 1) := by
  funext j
  unfold upd zM
  by_cases e : j = c
  · rw [if_pos e, if_pos (by omega)]
  · rw [if_neg e]
    by_cases e2 : j < c
    · rw [if_pos e2, if_pos (by omega)]
    · rw [if_neg e2, if_neg (by omega)]
theorem upM_up {μ : Nat → Nat → Int32} {k : Nat} {m m' : Nat → Int32} : upM (upM μ k m) k m' = upM μ k m' := by
  funext j
  unfold upM
  by_cases e : j = k
  · rw [if_pos e, if_pos e]
  · rw [if_neg e, if_neg e, if_neg e]
theorem upM_self {μ : Nat → Nat → Int32} {k : Nat} : upM μ k (μ k) = μ := by
  funext j
  unfold upM
  by_cases e : j = k
  · rw [if_pos e, e]
  · rw [if_neg e]
theorem m_zeroA {r : gv_O} {hf : gv_H} {q : Int32} (f : Nat → Int32) (K : gv_go G M_MO_findAnswer d r hf 32 [some (gR 70), some (gI q), some (gI (nI 240))] [] (hp n acc g cap (upM μ 90 (zM f 240)))) (b : Nat) : ∀ c : Nat, c + b = 240 → gv_go G M_MO_findAnswer d r hf 12 [some (gR 70), some (gI q), some (gI (nI c))] [] (hp n acc g cap (upM μ 90 (zM f c))) := by
  induction b with
  | zero =>
    intro c hc
    have hc : c = 240 := by omega
    subst hc
    refine gv_B ok_MO_findAnswer 3 rfl ?_
    refine gv_brT (by decide) ?_
    exact K
  | succ b ih =>
    intro c hc
    refine gv_B ok_MO_findAnswer 3 rfl ?_
    refine gv_brF (nI_ge (b := 240) (by omega) (by decide)) ?_
    refine gv_B ok_MO_findAnswer 4 rfl ?_
    refine hp_ias ok_MO_findAnswer rfl rfl rfl rfl rfl (show c < 240 by omega) (by decide) ?_
    refine gv_B ok_MO_findAnswer 2 rfl ?_
    refine gv_lse (ls' := [some (gR 70), some (gI q), some (gI (nI (c + 1)))]) (by rw [nI_succ c]; rfl) ?_
    have e : sI (upM μ 90 (zM f c)) 90 c 0 = upM μ 90 (zM f (c + 1)) := by
      unfold sI
      rw [upM_at, zM_up, upM_up]
    rw [e]
    exact ih (c + 1) (by omega)
theorem m_zeroB {r : gv_O} {hf : gv_H} {q : Int32} (f : Nat → Int32) (K : gv_go G M_MO_findAnswer d r hf 109 [some (gR 70), some (gI q), some (gI (nI 240))] [] (hp n acc g cap (upM μ 90 (zM f 240)))) (b : Nat) : ∀ c : Nat, c + b = 240 → gv_go G M_MO_findAnswer d r hf 89 [some (gR 70), some (gI q), some (gI (nI c))] [] (hp n acc g cap (upM μ 90 (zM f c))) := by
  induction b with
  | zero =>
    intro c hc
    have hc : c = 240 := by omega
    subst hc
    refine gv_B ok_MO_findAnswer 3 rfl ?_
    refine gv_brT (by decide) ?_
    exact K
  | succ b ih =>
    intro c hc
    refine gv_B ok_MO_findAnswer 3 rfl ?_
    refine gv_brF (nI_ge (b := 240) (by omega) (by decide)) ?_
    refine gv_B ok_MO_findAnswer 4 rfl ?_
    refine hp_ias ok_MO_findAnswer rfl rfl rfl rfl rfl (show c < 240 by omega) (by decide) ?_
    refine gv_B ok_MO_findAnswer 2 rfl ?_
    refine gv_lse (ls' := [some (gR 70), some (gI q), some (gI (nI (c + 1)))]) (by rw [nI_succ c]; rfl) ?_
    have e : sI (upM μ 90 (zM f c)) 90 c 0 = upM μ 90 (zM f (c + 1)) := by
      unfold sI
      rw [upM_at, zM_up, upM_up]
    rw [e]
    exact ih (c + 1) (by omega)
/-- no answer: the row is empty, the marks are 0 -/
def fa0 (μ : Nat → Nat → Int32) : Nat → Nat → Int32 := sI (upM (sI (upM (sI μ 70 38 0) 90 (zM (μ 90) 240)) 70 34 1) 90 (zM (zM (μ 90) 240) 240)) 70 34 (μ 70 34)
theorem m_findAnswer0 (h1 : μ 70 26 = 0) : gv_ev G d M_MO_findAnswer [gR 70] (hp n acc g cap μ) (.inl none) (hp n acc g cap (fa0 μ)) := by
  refine gv_E (ls := [some (gR 70), none, none]) (by decide) (fun h => by cases h) (Nat.le_of_ble_eq_true rfl) rfl ?_
  refine gv_B ok_MO_findAnswer 2 rfl ?_
  refine hp_pf ok_MO_findAnswer rfl rfl rfl rfl rfl (Nat.le_of_ble_eq_true rfl) rfl ?_
  refine gv_B ok_MO_findAnswer 5 rfl ?_
  have e0 : hp n acc g cap (sI μ 70 38 0) = hp n acc g cap (upM (sI μ 70 38 0) 90 (zM (μ 90) 0)) := by
    rw [zM_0]
    exact congrArg (hp n acc g cap) (upM_self (μ := sI μ 70 38 0) (k := 90)).symm
  refine gv_cast e0 ?_
  refine m_zeroA (q := μ 70 34) (μ 90) ?_ 240 0 rfl
  refine gv_B ok_MO_findAnswer 2 rfl ?_
  refine hp_pf ok_MO_findAnswer rfl rfl rfl rfl rfl (Nat.le_of_ble_eq_true rfl) rfl ?_
  refine gv_B ok_MO_findAnswer 8 rfl ?_
  refine gv_brT h1 ?_
  refine gv_B ok_MO_findAnswer 2 rfl ?_
  have e1 : hp n acc g cap (sI (upM (sI μ 70 38 0) 90 (zM (μ 90) 240)) 70 34 1) = hp n acc g cap (upM (sI (upM (sI μ 70 38 0) 90 (zM (μ 90) 240)) 70 34 1) 90 (zM (zM (μ 90) 240) 0)) := by
    rw [zM_0]
    exact congrArg (hp n acc g cap) (upM_self (μ := sI (upM (sI μ 70 38 0) 90 (zM (μ 90) 240)) 70 34 1) (k := 90)).symm
  refine gv_cast e1 ?_
  refine m_zeroB (q := μ 70 34) (zM (μ 90) 240) ?_ 240 0 rfl
  refine gv_B ok_MO_findAnswer 2 rfl ?_
  refine hp_pf ok_MO_findAnswer rfl rfl rfl rfl rfl (Nat.le_of_ble_eq_true rfl) rfl ?_
  exact gv_Rv ok_MO_findAnswer rfl rfl
theorem m_words0 (h1 : μ 70 26 = 0) : gv_ev G (d + 1) M_MO_words [gR 70] (hp n acc g cap μ) (.inl (some (gI 0))) (hp n acc g cap (fa0 (sI μ 70 0 0))) := by
  refine gv_E (ls := [some (gR 70)]) (by decide) (fun h => by cases h) (Nat.le_of_ble_eq_true rfl) rfl ?_
  refine gv_B ok_MO_words 2 rfl ?_
  refine hp_pf ok_MO_words rfl rfl rfl rfl rfl (Nat.le_of_ble_eq_true rfl) rfl ?_
  refine gv_B ok_MO_words 1 rfl ?_
  refine gv_Vc ok_MO_words rfl mk_MO_findAnswer rfl (m_findAnswer0 (d := d) (μ := sI μ 70 0 0) h1) rfl rfl (Nat.le_of_ble_eq_true rfl) rfl rfl rfl ?_
  refine gv_B ok_MO_words 2 rfl ?_
  exact gv_Ri ok_MO_words rfl rfl
theorem m_wordN (h1 : μ 70 26 = 0) (h2 : x < 0) : gv_ev G (d + 1) M_MO_word [gR 70, gI x] (hp n acc g cap μ) (.inl (some (gI 0))) (hp n acc g cap (sI (fa0 μ) 70 0 1)) := by
  refine gv_E (ls := [some (gR 70), some (gI x)]) (by decide) (fun h => by cases h) (Nat.le_of_ble_eq_true rfl) rfl ?_
  refine gv_B ok_MO_word 1 rfl ?_
  refine gv_Vc ok_MO_word rfl mk_MO_findAnswer rfl (m_findAnswer0 (d := d) h1) rfl rfl (Nat.le_of_ble_eq_true rfl) rfl rfl rfl ?_
  refine gv_B ok_MO_word 3 rfl ?_
  refine gv_brT h2 ?_
  refine gv_B ok_MO_word 2 rfl ?_
  refine hp_pf ok_MO_word rfl rfl rfl rfl rfl (Nat.le_of_ble_eq_true rfl) rfl ?_
  refine gv_B ok_MO_word 4 rfl ?_
  exact gv_Ri ok_MO_word rfl rfl
theorem m_word0 (h1 : μ 70 26 = 0) (h2 : ¬ x < 0) : gv_ev G (d + 1) M_MO_word [gR 70, gI x] (hp n acc g cap μ) (.inl (some (gI 0))) (hp n acc g cap (sI (fa0 μ) 70 0 1)) := by
  refine gv_E (ls := [some (gR 70), some (gI x)]) (by decide) (fun h => by cases h) (Nat.le_of_ble_eq_true rfl) rfl ?_
  refine gv_B ok_MO_word 1 rfl ?_
  refine gv_Vc ok_MO_word rfl mk_MO_findAnswer rfl (m_findAnswer0 (d := d) h1) rfl rfl (Nat.le_of_ble_eq_true rfl) rfl rfl rfl ?_
  refine gv_B ok_MO_word 3 rfl ?_
  refine gv_brF h2 ?_
  refine gv_B ok_MO_word 4 rfl ?_
  refine gv_brF h2 ?_
  refine gv_B ok_MO_word 2 rfl ?_
  refine hp_pf ok_MO_word rfl rfl rfl rfl rfl (Nat.le_of_ble_eq_true rfl) rfl ?_
  refine gv_B ok_MO_word 4 rfl ?_
  exact gv_Ri ok_MO_word rfl rfl
theorem m_count0 (h1 : μ 70 16 < 0) : gv_ev G (d + 1) M_MO_count [gR 70, gI 0] (hp n acc g cap μ) (.inl (some (gI (nI (cntP (μ 74) 240))))) (hp n acc g cap (sI μ 70 0 0)) := by
  refine gv_E (ls := [some (gR 70), some (gI 0), none, none]) (by decide) (fun h => by cases h) (Nat.le_of_ble_eq_true rfl) rfl ?_
  refine gv_B ok_MO_count 7 rfl ?_
  refine hp_pf ok_MO_count rfl rfl rfl rfl rfl (Nat.le_of_ble_eq_true rfl) rfl ?_
  refine gv_B ok_MO_count 7 rfl ?_
  refine gv_brT h1 ?_
  refine gv_B ok_MO_count 6 rfl ?_
  refine gv_Vc ok_MO_count rfl mk_MO_inUse rfl (m_inUse (d := d)) rfl rfl (Nat.le_of_ble_eq_true rfl) rfl rfl rfl ?_
  refine gv_B ok_MO_count 1 rfl ?_
  exact gv_Ri ok_MO_count rfl rfl
theorem m_count1 (h1 : μ 70 16 < 0) : gv_ev G (d + 1) M_MO_count [gR 70, gI 1] (hp n acc g cap μ) (.inl (some (gI (μ 70 18)))) (hp n acc g cap (sI μ 70 0 0)) := by
  refine gv_E (ls := [some (gR 70), some (gI 1), none, none]) (by decide) (fun h => by cases h) (Nat.le_of_ble_eq_true rfl) rfl ?_
  refine gv_B ok_MO_count 7 rfl ?_
  refine hp_pf ok_MO_count rfl rfl rfl rfl rfl (Nat.le_of_ble_eq_true rfl) rfl ?_
  refine gv_B ok_MO_count 7 rfl ?_
  refine gv_brT h1 ?_
  refine gv_B ok_MO_count 11 rfl ?_
  exact gv_Ri ok_MO_count rfl rfl
theorem m_count2 (h1 : μ 70 16 < 0) : gv_ev G (d + 1) M_MO_count [gR 70, gI 2] (hp n acc g cap μ) (.inl (some (gI 0))) (hp n acc g cap (sI μ 70 0 0)) := by
  refine gv_E (ls := [some (gR 70), some (gI 2), none, none]) (by decide) (fun h => by cases h) (Nat.le_of_ble_eq_true rfl) rfl ?_
  refine gv_B ok_MO_count 7 rfl ?_
  refine hp_pf ok_MO_count rfl rfl rfl rfl rfl (Nat.le_of_ble_eq_true rfl) rfl ?_
  refine gv_B ok_MO_count 7 rfl ?_
  refine gv_brT h1 ?_
  refine gv_B ok_MO_count 13 rfl ?_
  exact gv_Ri ok_MO_count rfl rfl
theorem m_count3 (h1 : μ 70 16 < 0) : gv_ev G (d + 1) M_MO_count [gR 70, gI 3] (hp n acc g cap μ) (.inl (some (gI (μ 70 27)))) (hp n acc g cap (sI μ 70 0 0)) := by
  refine gv_E (ls := [some (gR 70), some (gI 3), none, none]) (by decide) (fun h => by cases h) (Nat.le_of_ble_eq_true rfl) rfl ?_
  refine gv_B ok_MO_count 7 rfl ?_
  refine hp_pf ok_MO_count rfl rfl rfl rfl rfl (Nat.le_of_ble_eq_true rfl) rfl ?_
  refine gv_B ok_MO_count 7 rfl ?_
  refine gv_brT h1 ?_
  refine gv_B ok_MO_count 17 rfl ?_
  exact gv_Ri ok_MO_count rfl rfl
theorem m_count4 (h1 : μ 70 16 < 0) : gv_ev G (d + 1) M_MO_count [gR 70, gI 4] (hp n acc g cap μ) (.inl (some (gI (μ 70 3)))) (hp n acc g cap (sI μ 70 0 0)) := by
  refine gv_E (ls := [some (gR 70), some (gI 4), none, none]) (by decide) (fun h => by cases h) (Nat.le_of_ble_eq_true rfl) rfl ?_
  refine gv_B ok_MO_count 7 rfl ?_
  refine hp_pf ok_MO_count rfl rfl rfl rfl rfl (Nat.le_of_ble_eq_true rfl) rfl ?_
  refine gv_B ok_MO_count 7 rfl ?_
  refine gv_brT h1 ?_
  refine gv_B ok_MO_count 20 rfl ?_
  exact gv_Ri ok_MO_count rfl rfl
theorem m_count5 (h1 : μ 70 16 < 0) : gv_ev G (d + 1) M_MO_count [gR 70, gI 5] (hp n acc g cap μ) (.inl (some (gI (μ 70 1)))) (hp n acc g cap (sI μ 70 0 0)) := by
  refine gv_E (ls := [some (gR 70), some (gI 5), none, none]) (by decide) (fun h => by cases h) (Nat.le_of_ble_eq_true rfl) rfl ?_
  refine gv_B ok_MO_count 7 rfl ?_
  refine hp_pf ok_MO_count rfl rfl rfl rfl rfl (Nat.le_of_ble_eq_true rfl) rfl ?_
  refine gv_B ok_MO_count 7 rfl ?_
  refine gv_brT h1 ?_
  refine gv_B ok_MO_count 23 rfl ?_
  exact gv_Ri ok_MO_count rfl rfl
theorem m_count6 (h1 : μ 70 16 < 0) : gv_ev G (d + 1) M_MO_count [gR 70, gI 6] (hp n acc g cap μ) (.inl (some (gI (μ 70 28)))) (hp n acc g cap (sI μ 70 0 0)) := by
  refine gv_E (ls := [some (gR 70), some (gI 6), none, none]) (by decide) (fun h => by cases h) (Nat.le_of_ble_eq_true rfl) rfl ?_
  refine gv_B ok_MO_count 7 rfl ?_
  refine hp_pf ok_MO_count rfl rfl rfl rfl rfl (Nat.le_of_ble_eq_true rfl) rfl ?_
  refine gv_B ok_MO_count 7 rfl ?_
  refine gv_brT h1 ?_
  refine gv_B ok_MO_count 22 rfl ?_
  exact gv_Ri ok_MO_count rfl rfl
theorem m_countN (h1 : μ 70 16 < 0) (h2 : k < 0) : gv_ev G (d + 1) M_MO_count [gR 70, gI k] (hp n acc g cap μ) (.inl (some (gI 0))) (hp n acc g cap (sI μ 70 0 1)) := by
  refine gv_E (ls := [some (gR 70), some (gI k), none, none]) (by decide) (fun h => by cases h) (Nat.le_of_ble_eq_true rfl) rfl ?_
  refine gv_B ok_MO_count 3 rfl ?_
  refine gv_brT h2 ?_
  refine gv_B ok_MO_count 2 rfl ?_
  refine hp_pf ok_MO_count rfl rfl rfl rfl rfl (Nat.le_of_ble_eq_true rfl) rfl ?_
  refine gv_B ok_MO_count 7 rfl ?_
  refine gv_brT h1 ?_
  refine gv_B ok_MO_count 5 rfl ?_
  exact gv_Ri ok_MO_count rfl rfl
theorem m_countB (h1 : μ 70 16 < 0) (h2 : ¬ k < 0) (h3 : ¬ k ≤ 6) : gv_ev G (d + 1) M_MO_count [gR 70, gI k] (hp n acc g cap μ) (.inl (some (gI 0))) (hp n acc g cap (sI μ 70 0 1)) := by
  refine gv_E (ls := [some (gR 70), some (gI k), none, none]) (by decide) (fun h => by cases h) (Nat.le_of_ble_eq_true rfl) rfl ?_
  refine gv_B ok_MO_count 3 rfl ?_
  refine gv_brF h2 ?_
  refine gv_B ok_MO_count 3 rfl ?_
  refine gv_brF h3 ?_
  refine gv_B ok_MO_count 2 rfl ?_
  refine hp_pf ok_MO_count rfl rfl rfl rfl rfl (Nat.le_of_ble_eq_true rfl) rfl ?_
  refine gv_B ok_MO_count 7 rfl ?_
  refine gv_brT h1 ?_
  refine gv_B ok_MO_count 5 rfl ?_
  exact gv_Ri ok_MO_count rfl rfl
end RMA
end
section
/-! put of the reference -/
section MPA
variable {G : gv_G} {d n g cap t : Nat} {acc : Nat × Nat} {μ : Nat → Nat → Int32} {w : Int32} {r : gv_O} {hf h : gv_H}
theorem m_putW1 (hw : isW w) (K : gv_go G M_MO_put d r hf 64 [some (gR 70), some (gI w), some (gI (w_k w)), some (gI (w_v w)), none] [gI 1] h) : gv_go G M_MO_put d r hf 0 [some (gR 70), some (gI w), none, none, none] [] h := by
  obtain ⟨j, hj, e⟩ := w_k8 w
  unfold isW at hw
  refine gv_B ok_MO_put 10 rfl ?_
  show gv_go G M_MO_put d r hf (if ¬ w_k w = 0 then 23 else 13) [some (gR 70), some (gI w), some (gI (w_k w)), some (gI (w_v w)), none] [] h
  rw [e] at hw K ⊢
  generalize w_v w = v at hw K ⊢
  rcases (show j = 0 ∨ j = 1 ∨ j = 2 ∨ j = 3 ∨ j = 4 ∨ j = 5 ∨ j = 6 ∨ j = 7 by omega) with q | q | q | q | q | q | q | q <;> subst q
  · rw [isWk_0] at hw
    refine gv_brF (by decide) ?_
    refine gv_B ok_MO_put 2 rfl ?_
    refine gv_brF hw.1 ?_
    refine gv_B ok_MO_put 3 rfl ?_
    refine gv_brT hw.2 ?_
    refine gv_B ok_MO_put 2 rfl ?_
    exact K
  · refine gv_brT (by decide) ?_
    refine gv_B ok_MO_put 3 rfl ?_
    refine gv_brT (by decide) ?_
    refine gv_B ok_MO_put 2 rfl ?_
    exact K
  · rw [isWk_2] at hw
    refine gv_brT (by decide) ?_
    refine gv_B ok_MO_put 3 rfl ?_
    refine gv_brF (by decide) ?_
    refine gv_B ok_MO_put 3 rfl ?_
    refine gv_brF (by decide) ?_
    refine gv_B ok_MO_put 3 rfl ?_
    refine gv_brF (by decide) ?_
    refine gv_B ok_MO_put 2 rfl ?_
    refine gv_brF hw.1 ?_
    refine gv_B ok_MO_put 3 rfl ?_
    refine gv_brT hw.2 ?_
    refine gv_B ok_MO_put 2 rfl ?_
    exact K
  · rw [isWk_3] at hw
    refine gv_brT (by decide) ?_
    refine gv_B ok_MO_put 3 rfl ?_
    refine gv_brF (by decide) ?_
    refine gv_B ok_MO_put 3 rfl ?_
    refine gv_brF (by decide) ?_
    refine gv_B ok_MO_put 3 rfl ?_
    refine gv_brF (by decide) ?_
    refine gv_B ok_MO_put 2 rfl ?_
    refine gv_brF hw.1 ?_
    refine gv_B ok_MO_put 3 rfl ?_
    refine gv_brT hw.2 ?_
    refine gv_B ok_MO_put 2 rfl ?_
    exact K
  · rw [isWk_4] at hw
    refine gv_brT (by decide) ?_
    refine gv_B ok_MO_put 3 rfl ?_
    refine gv_brF (by decide) ?_
    refine gv_B ok_MO_put 3 rfl ?_
    refine gv_brF (by decide) ?_
    refine gv_B ok_MO_put 3 rfl ?_
    refine gv_brF (by decide) ?_
    refine gv_B ok_MO_put 2 rfl ?_
    refine gv_brF hw.1 ?_
    refine gv_B ok_MO_put 3 rfl ?_
    refine gv_brT hw.2 ?_
    refine gv_B ok_MO_put 2 rfl ?_
    exact K
  · rw [isWk_5] at hw
    refine gv_brT (by decide) ?_
    refine gv_B ok_MO_put 3 rfl ?_
    refine gv_brF (by decide) ?_
    refine gv_B ok_MO_put 3 rfl ?_
    refine gv_brF (by decide) ?_
    refine gv_B ok_MO_put 3 rfl ?_
    refine gv_brF (by decide) ?_
    refine gv_B ok_MO_put 2 rfl ?_
    refine gv_brF hw.1 ?_
    refine gv_B ok_MO_put 3 rfl ?_
    refine gv_brT hw.2 ?_
    refine gv_B ok_MO_put 2 rfl ?_
    exact K
  · rw [isWk_6] at hw
    refine gv_brT (by decide) ?_
    refine gv_B ok_MO_put 3 rfl ?_
    refine gv_brF (by decide) ?_
    refine gv_B ok_MO_put 3 rfl ?_
    refine gv_brF (by decide) ?_
    refine gv_B ok_MO_put 3 rfl ?_
    refine gv_brT (by decide) ?_
    refine gv_B ok_MO_put 3 rfl ?_
    refine gv_brF (by decide) ?_
    refine gv_B ok_MO_put 2 rfl ?_
    refine gv_brF (not_not_intro hw) ?_
    refine gv_B ok_MO_put 2 rfl ?_
    exact K
  · exact absurd hw isWk_7
theorem m_putW0 (hw : ¬ isW w) (K : gv_go G M_MO_put d r hf 64 [some (gR 70), some (gI w), some (gI (w_k w)), some (gI (w_v w)), none] [gI 0] h) : gv_go G M_MO_put d r hf 0 [some (gR 70), some (gI w), none, none, none] [] h := by
  obtain ⟨j, hj, e⟩ := w_k8 w
  unfold isW at hw
  refine gv_B ok_MO_put 10 rfl ?_
  show gv_go G M_MO_put d r hf (if ¬ w_k w = 0 then 23 else 13) [some (gR 70), some (gI w), some (gI (w_k w)), some (gI (w_v w)), none] [] h
  rw [e] at hw K ⊢
  generalize w_v w = v at hw K ⊢
  rcases (show j = 0 ∨ j = 1 ∨ j = 2 ∨ j = 3 ∨ j = 4 ∨ j = 5 ∨ j = 6 ∨ j = 7 by omega) with q | q | q | q | q | q | q | q <;> subst q
  · rw [isWk_0] at hw
    refine gv_brF (by decide) ?_
    have KK : gv_go G M_MO_put d r hf 23 [some (gR 70), some (gI w), some (gI (nI 0)), some (gI v), none] [] h := by
      refine gv_B ok_MO_put 3 rfl ?_
      refine gv_brF (by decide) ?_
      refine gv_B ok_MO_put 3 rfl ?_
      refine gv_brT (by decide) ?_
      refine gv_B ok_MO_put 3 rfl ?_
      refine gv_brT (by decide) ?_
      refine gv_B ok_MO_put 1 rfl ?_
      exact K
    refine gv_B ok_MO_put 2 rfl ?_
    refine gv_br (fun c1 => KK) (fun c1 => ?_)
    refine gv_B ok_MO_put 3 rfl ?_
    exact gv_brF (fun c2 => hw ⟨c1, c2⟩) KK
  · exact absurd isWk_1 hw
  · rw [isWk_2] at hw
    refine gv_brT (by decide) ?_
    refine gv_B ok_MO_put 3 rfl ?_
    refine gv_brF (by decide) ?_
    refine gv_B ok_MO_put 3 rfl ?_
    refine gv_brF (by decide) ?_
    refine gv_B ok_MO_put 3 rfl ?_
    refine gv_brF (by decide) ?_
    have KK : gv_go G M_MO_put d r hf 49 [some (gR 70), some (gI w), some (gI (nI 2)), some (gI v), none] [] h := by
      refine gv_B ok_MO_put 3 rfl ?_
      refine gv_brT (by decide) ?_
      refine gv_B ok_MO_put 1 rfl ?_
      exact K
    refine gv_B ok_MO_put 2 rfl ?_
    refine gv_br (fun c1 => KK) (fun c1 => ?_)
    refine gv_B ok_MO_put 3 rfl ?_
    exact gv_brF (fun c2 => hw ⟨c1, c2⟩) KK
  · rw [isWk_3] at hw
    refine gv_brT (by decide) ?_
    refine gv_B ok_MO_put 3 rfl ?_
    refine gv_brF (by decide) ?_
    refine gv_B ok_MO_put 3 rfl ?_
    refine gv_brF (by decide) ?_
    refine gv_B ok_MO_put 3 rfl ?_
    refine gv_brF (by decide) ?_
    have KK : gv_go G M_MO_put d r hf 49 [some (gR 70), some (gI w), some (gI (nI 3)), some (gI v), none] [] h := by
      refine gv_B ok_MO_put 3 rfl ?_
      refine gv_brT (by decide) ?_
      refine gv_B ok_MO_put 1 rfl ?_
      exact K
    refine gv_B ok_MO_put 2 rfl ?_
    refine gv_br (fun c1 => KK) (fun c1 => ?_)
    refine gv_B ok_MO_put 3 rfl ?_
    exact gv_brF (fun c2 => hw ⟨c1, c2⟩) KK
  · rw [isWk_4] at hw
    refine gv_brT (by decide) ?_
    refine gv_B ok_MO_put 3 rfl ?_
    refine gv_brF (by decide) ?_
    refine gv_B ok_MO_put 3 rfl ?_
    refine gv_brF (by decide) ?_
    refine gv_B ok_MO_put 3 rfl ?_
    refine gv_brF (by decide) ?_
    have KK : gv_go G M_MO_put d r hf 49 [some (gR 70), some (gI w), some (gI (nI 4)), some (gI v), none] [] h := by
      refine gv_B ok_MO_put 3 rfl ?_
      refine gv_brT (by decide) ?_
      refine gv_B ok_MO_put 1 rfl ?_
      exact K
    refine gv_B ok_MO_put 2 rfl ?_
    refine gv_br (fun c1 => KK) (fun c1 => ?_)
    refine gv_B ok_MO_put 3 rfl ?_
    exact gv_brF (fun c2 => hw ⟨c1, c2⟩) KK
  · rw [isWk_5] at hw
    refine gv_brT (by decide) ?_
    refine gv_B ok_MO_put 3 rfl ?_
    refine gv_brF (by decide) ?_
    refine gv_B ok_MO_put 3 rfl ?_
    refine gv_brF (by decide) ?_
    refine gv_B ok_MO_put 3 rfl ?_
    refine gv_brF (by decide) ?_
    have KK : gv_go G M_MO_put d r hf 49 [some (gR 70), some (gI w), some (gI (nI 5)), some (gI v), none] [] h := by
      refine gv_B ok_MO_put 3 rfl ?_
      refine gv_brT (by decide) ?_
      refine gv_B ok_MO_put 1 rfl ?_
      exact K
    refine gv_B ok_MO_put 2 rfl ?_
    refine gv_br (fun c1 => KK) (fun c1 => ?_)
    refine gv_B ok_MO_put 3 rfl ?_
    exact gv_brF (fun c2 => hw ⟨c1, c2⟩) KK
  · rw [isWk_6] at hw
    refine gv_brT (by decide) ?_
    refine gv_B ok_MO_put 3 rfl ?_
    refine gv_brF (by decide) ?_
    refine gv_B ok_MO_put 3 rfl ?_
    refine gv_brF (by decide) ?_
    refine gv_B ok_MO_put 3 rfl ?_
    refine gv_brT (by decide) ?_
    refine gv_B ok_MO_put 3 rfl ?_
    refine gv_brF (by decide) ?_
    refine gv_B ok_MO_put 2 rfl ?_
    refine gv_brT hw ?_
    refine gv_B ok_MO_put 1 rfl ?_
    exact K
  · refine gv_brT (by decide) ?_
    refine gv_B ok_MO_put 3 rfl ?_
    refine gv_brF (by decide) ?_
    refine gv_B ok_MO_put 3 rfl ?_
    refine gv_brF (by decide) ?_
    refine gv_B ok_MO_put 3 rfl ?_
    refine gv_brT (by decide) ?_
    refine gv_B ok_MO_put 3 rfl ?_
    refine gv_brT (by decide) ?_
    refine gv_B ok_MO_put 1 rfl ?_
    exact K
theorem m_put0 (hw : ¬ isW w) : gv_ev G (d + 0) M_MO_put [gR 70, gI w] (hp n acc g cap μ) (.inl (some (gI 0))) (hp n acc g cap (sI μ 70 0 1)) := by
  refine gv_E (ls := [some (gR 70), some (gI w), none, none, none]) (by decide) (fun h => by cases h) (Nat.le_of_ble_eq_true rfl) rfl ?_
  refine m_putW0 hw ?_
  refine gv_B ok_MO_put 6 rfl ?_
  refine hp_pf ok_MO_put rfl rfl rfl rfl rfl (Nat.le_of_ble_eq_true rfl) rfl ?_
  refine gv_B ok_MO_put 4 rfl ?_
  exact gv_Ri ok_MO_put rfl rfl
theorem m_put1 (hw : isW w) (ht : t < 30) (hμ : μ 70 1 = nI t) : gv_ev G (d + 0) M_MO_put [gR 70, gI w] (hp n acc g cap μ) (.inl (some (gI (nI (t + 1))))) (hp n acc g cap (sI (sI (sI μ 70 0 0) 71 t w) 70 1 (nI (t + 1)))) := by
  refine gv_E (ls := [some (gR 70), some (gI w), none, none, none]) (by decide) (fun h => by cases h) (Nat.le_of_ble_eq_true rfl) rfl ?_
  refine m_putW1 hw ?_
  refine gv_B ok_MO_put 8 rfl ?_
  refine gv_brT (by show ¬ μ 70 1 = 30; rw [hμ]; exact fun c => absurd ((nI_eq (a := t) (b := 30) (by omega) (by decide)).mp c) (by omega)) ?_
  refine gv_B ok_MO_put 1 rfl ?_
  refine hp_pf ok_MO_put rfl rfl rfl rfl rfl (Nat.le_of_ble_eq_true rfl) rfl ?_
  refine gv_B ok_MO_put 8 rfl ?_
  refine hp_ias ok_MO_put rfl rfl rfl rfl hμ ht (by decide) ?_
  refine gv_B ok_MO_put 5 rfl ?_
  refine gv_st1 (x' := nI (t + 1)) (by show μ 70 1 + 1 = _; rw [hμ, ← nI_succ]) ?_
  refine hp_pf ok_MO_put rfl rfl rfl rfl rfl (Nat.le_of_ble_eq_true rfl) rfl ?_
  refine gv_B ok_MO_put 2 rfl ?_
  refine gv_st1 sI_at ?_
  exact gv_Ri ok_MO_put rfl rfl
theorem m_putF (hw : isW w) (hμ : μ 70 1 = 30) : gv_ev G (d + 0) M_MO_put [gR 70, gI w] (hp n acc g cap μ) (.inl (some (gI 0))) (hp n acc g cap (sI μ 70 0 2)) := by
  refine gv_E (ls := [some (gR 70), some (gI w), none, none, none]) (by decide) (fun h => by cases h) (Nat.le_of_ble_eq_true rfl) rfl ?_
  refine m_putW1 hw ?_
  refine gv_B ok_MO_put 8 rfl ?_
  refine gv_brF (not_not_intro hμ) ?_
  refine gv_B ok_MO_put 2 rfl ?_
  refine hp_pf ok_MO_put rfl rfl rfl rfl rfl (Nat.le_of_ble_eq_true rfl) rfl ?_
  refine gv_B ok_MO_put 4 rfl ?_
  exact gv_Ri ok_MO_put rfl rfl
end MPA
end
section
/-! the law: its calls, one by one (written by wip/tools/gens.py) -/
section LWA
variable {G : gv_G} {d n g cap : Nat} {acc : Nat × Nat} {μ : Nat → Nat → Int32} {i kk b w : Int32} {r : gv_O} {hf h h1 h2 : gv_H} {l5 l6 : Option gv_V}
theorem lg_cmp0 {x y : Int32} (e : x = y) : lg_cmp x.toInt64 y.toInt64 = 0 := by
  subst e
  unfold lg_cmp
  rw [if_neg (Int64.lt_irrefl), if_pos rfl]
theorem lt_put (h1 : μ 70 0 = kk) (h2 : kk = 0 → μ 98 0 = b) (K : gv_go G M_LA_law (d + 1) r hf 492 [some (gR 0), some (gR 1), some (gR 70), some (gR 98), some (gI i), some (gI kk), some (gI b)] [] (hp n acc g cap μ)) : gv_go G M_LA_law (d + 1) r hf 117 [some (gR 0), some (gR 1), some (gR 70), some (gR 98), some (gI i), some (gI kk), some (gI b)] [] (hp n acc g cap μ) := by
  refine gv_B ok_LA_law 1 rfl ?_
  refine gv_Vc ok_LA_law rfl mk_MO_thrown rfl (m_thrown (d := d)) rfl rfl (Nat.le_of_ble_eq_true rfl) rfl rfl rfl ?_
  refine gv_B ok_LA_law 2 rfl ?_
  refine gv_brT h1 ?_
  refine gv_B ok_LA_law 2 rfl ?_
  refine gv_br (fun c => ?_) (fun c => ?_)
  · refine gv_B ok_LA_law 1 rfl ?_
    exact K
  · refine gv_B ok_LA_law 6 rfl ?_
    refine gv_st1 (x' := 0) (lg_cmp0 (h2 (Decidable.not_not.mp c))) ?_
    refine gv_B ok_LA_law 2 rfl ?_
    exact K
theorem lh_putE (hi : vp_in (i + 1) G.2.2.2.2.2.2.1) (hw : G.2.2.2.2.2.2.2 (i + 1).toNatClampNeg = w) (hH : gv_ev G d M_LA_put [gR 1, gI w, gR 98] h (.inl (some (gI kk))) h1) (hM : gv_ev G d M_MO_put [gR 70, gI w] h1 (.inl (some (gI b))) h2) {fs : List gv_V} (ho : h1.2.2 70 = some (Sum.inr (12, fs))) (K : gv_go G M_LA_law (d + 1) r hf 117 [some (gR 0), some (gR 1), some (gR 70), some (gR 98), some (gI i), some (gI kk), some (gI b)] [] h2) : gv_go G M_LA_law (d + 1) r hf 92 [some (gR 0), some (gR 1), some (gR 70), some (gR 98), some (gI i), l5, l6] [] h := by
  subst hw
  refine gv_B ok_LA_law 5 rfl ?_
  refine gv_sld ok_LA_law rfl hi ?_
  refine gv_B ok_LA_law 1 rfl ?_
  refine gv_Sc ok_LA_law rfl mk_LA_put rfl hH rfl rfl (Nat.le_of_ble_eq_true rfl) ?_
  refine gv_B ok_LA_law 6 rfl ?_
  refine gv_sld ok_LA_law rfl hi ?_
  refine gv_Vc ok_LA_law rfl mk_MO_put rfl hM rfl rfl (Nat.le_of_ble_eq_true rfl) ho rfl rfl ?_
  refine gv_B ok_LA_law 1 rfl ?_
  exact K
theorem lh_putL (hi : vp_in (i + 1) G.2.2.2.2.2.2.1) (hw : G.2.2.2.2.2.2.2 (i + 1).toNatClampNeg = w) {h2 : Nat → gv_H} (hH : gv_ev G d M_LA_put [gR 1, gI w, gR 98] h (.inr (.inr (some (some (gI kk))))) h1) (hM : ∀ δ : Nat, gv_ev G d M_MO_put [gR 70, gI w] (h1.1 + δ, h1.2) (.inl (some (gI b))) (h2 δ)) {fs : List gv_V} (ho : h1.2.2 70 = some (Sum.inr (12, fs))) (K : ∀ δ : Nat, gv_go G M_LA_law (d + 1) r hf 117 [some (gR 0), some (gR 1), some (gR 70), some (gR 98), some (gI i), some (gI kk), some (gI b)] [] (h2 δ)) : gv_go G M_LA_law (d + 1) r hf 92 [some (gR 0), some (gR 1), some (gR 70), some (gR 98), some (gI i), l5, l6] [] h := by
  subst hw
  refine gv_B ok_LA_law 5 rfl ?_
  refine gv_sld ok_LA_law rfl hi ?_
  refine gv_B ok_LA_law 1 rfl ?_
  refine gv_SL ok_LA_law rfl mk_LA_put rfl hH rfl rfl (Nat.le_of_ble_eq_true rfl) (fun δ => ?_)
  refine gv_B ok_LA_law 6 rfl ?_
  refine gv_sld ok_LA_law rfl hi ?_
  refine gv_Vc ok_LA_law rfl mk_MO_put rfl (hM δ) rfl rfl (Nat.le_of_ble_eq_true rfl) ho rfl rfl ?_
  refine gv_B ok_LA_law 1 rfl ?_
  exact K δ
theorem lt_rule (h1 : μ 70 0 = kk) (h2 : kk = 0 → μ 98 0 = b) (K : gv_go G M_LA_law (d + 1) r hf 492 [some (gR 0), some (gR 1), some (gR 70), some (gR 98), some (gI i), some (gI kk), some (gI b)] [] (hp n acc g cap μ)) : gv_go G M_LA_law (d + 1) r hf 161 [some (gR 0), some (gR 1), some (gR 70), some (gR 98), some (gI i), some (gI kk), some (gI b)] [] (hp n acc g cap μ) := by
  refine gv_B ok_LA_law 1 rfl ?_
  refine gv_Vc ok_LA_law rfl mk_MO_thrown rfl (m_thrown (d := d)) rfl rfl (Nat.le_of_ble_eq_true rfl) rfl rfl rfl ?_
  refine gv_B ok_LA_law 2 rfl ?_
  refine gv_brT h1 ?_
  refine gv_B ok_LA_law 2 rfl ?_
  refine gv_br (fun c => ?_) (fun c => ?_)
  · refine gv_B ok_LA_law 1 rfl ?_
    exact K
  · refine gv_B ok_LA_law 6 rfl ?_
    refine gv_st1 (x' := 0) (lg_cmp0 (h2 (Decidable.not_not.mp c))) ?_
    refine gv_B ok_LA_law 2 rfl ?_
    exact K
theorem lh_ruleE (hH : gv_ev G d M_LA_rule [gR 1, gR 98] h (.inl (some (gI kk))) h1) (hM : gv_ev G d M_MO_rule [gR 70] h1 (.inl (some (gI b))) h2) {fs : List gv_V} (ho : h1.2.2 70 = some (Sum.inr (12, fs))) (K : gv_go G M_LA_law (d + 1) r hf 161 [some (gR 0), some (gR 1), some (gR 70), some (gR 98), some (gI i), some (gI kk), some (gI b)] [] h2) : gv_go G M_LA_law (d + 1) r hf 148 [some (gR 0), some (gR 1), some (gR 70), some (gR 98), some (gI i), l5, l6] [] h := by
  refine gv_B ok_LA_law 2 rfl ?_
  refine gv_Sc ok_LA_law rfl mk_LA_rule rfl hH rfl rfl (Nat.le_of_ble_eq_true rfl) ?_
  refine gv_B ok_LA_law 2 rfl ?_
  refine gv_Vc ok_LA_law rfl mk_MO_rule rfl hM rfl rfl (Nat.le_of_ble_eq_true rfl) ho rfl rfl ?_
  refine gv_B ok_LA_law 1 rfl ?_
  exact K
theorem lh_ruleL {h2 : Nat → gv_H} (hH : gv_ev G d M_LA_rule [gR 1, gR 98] h (.inr (.inr (some (some (gI kk))))) h1) (hM : ∀ δ : Nat, gv_ev G d M_MO_rule [gR 70] (h1.1 + δ, h1.2) (.inl (some (gI b))) (h2 δ)) {fs : List gv_V} (ho : h1.2.2 70 = some (Sum.inr (12, fs))) (K : ∀ δ : Nat, gv_go G M_LA_law (d + 1) r hf 161 [some (gR 0), some (gR 1), some (gR 70), some (gR 98), some (gI i), some (gI kk), some (gI b)] [] (h2 δ)) : gv_go G M_LA_law (d + 1) r hf 148 [some (gR 0), some (gR 1), some (gR 70), some (gR 98), some (gI i), l5, l6] [] h := by
  refine gv_B ok_LA_law 2 rfl ?_
  refine gv_SL ok_LA_law rfl mk_LA_rule rfl hH rfl rfl (Nat.le_of_ble_eq_true rfl) (fun δ => ?_)
  refine gv_B ok_LA_law 2 rfl ?_
  refine gv_Vc ok_LA_law rfl mk_MO_rule rfl (hM δ) rfl rfl (Nat.le_of_ble_eq_true rfl) ho rfl rfl ?_
  refine gv_B ok_LA_law 1 rfl ?_
  exact K δ
theorem lt_ask (h1 : μ 70 0 = kk) (h2 : kk = 0 → μ 98 0 = b) (K : gv_go G M_LA_law (d + 1) r hf 492 [some (gR 0), some (gR 1), some (gR 70), some (gR 98), some (gI i), some (gI kk), some (gI b)] [] (hp n acc g cap μ)) : gv_go G M_LA_law (d + 1) r hf 205 [some (gR 0), some (gR 1), some (gR 70), some (gR 98), some (gI i), some (gI kk), some (gI b)] [] (hp n acc g cap μ) := by
  refine gv_B ok_LA_law 1 rfl ?_
  refine gv_Vc ok_LA_law rfl mk_MO_thrown rfl (m_thrown (d := d)) rfl rfl (Nat.le_of_ble_eq_true rfl) rfl rfl rfl ?_
  refine gv_B ok_LA_law 2 rfl ?_
  refine gv_brT h1 ?_
  refine gv_B ok_LA_law 2 rfl ?_
  refine gv_br (fun c => ?_) (fun c => ?_)
  · refine gv_B ok_LA_law 1 rfl ?_
    exact K
  · refine gv_B ok_LA_law 6 rfl ?_
    refine gv_st1 (x' := 0) (lg_cmp0 (h2 (Decidable.not_not.mp c))) ?_
    refine gv_B ok_LA_law 2 rfl ?_
    exact K
theorem lh_askE (hH : gv_ev G d M_LA_ask [gR 1, gR 98] h (.inl (some (gI kk))) h1) (hM : gv_ev G d M_MO_ask [gR 70] h1 (.inl (some (gI b))) h2) {fs : List gv_V} (ho : h1.2.2 70 = some (Sum.inr (12, fs))) (K : gv_go G M_LA_law (d + 1) r hf 205 [some (gR 0), some (gR 1), some (gR 70), some (gR 98), some (gI i), some (gI kk), some (gI b)] [] h2) : gv_go G M_LA_law (d + 1) r hf 192 [some (gR 0), some (gR 1), some (gR 70), some (gR 98), some (gI i), l5, l6] [] h := by
  refine gv_B ok_LA_law 2 rfl ?_
  refine gv_Sc ok_LA_law rfl mk_LA_ask rfl hH rfl rfl (Nat.le_of_ble_eq_true rfl) ?_
  refine gv_B ok_LA_law 2 rfl ?_
  refine gv_Vc ok_LA_law rfl mk_MO_ask rfl hM rfl rfl (Nat.le_of_ble_eq_true rfl) ho rfl rfl ?_
  refine gv_B ok_LA_law 1 rfl ?_
  exact K
theorem lh_askL {h2 : Nat → gv_H} (hH : gv_ev G d M_LA_ask [gR 1, gR 98] h (.inr (.inr (some (some (gI kk))))) h1) (hM : ∀ δ : Nat, gv_ev G d M_MO_ask [gR 70] (h1.1 + δ, h1.2) (.inl (some (gI b))) (h2 δ)) {fs : List gv_V} (ho : h1.2.2 70 = some (Sum.inr (12, fs))) (K : ∀ δ : Nat, gv_go G M_LA_law (d + 1) r hf 205 [some (gR 0), some (gR 1), some (gR 70), some (gR 98), some (gI i), some (gI kk), some (gI b)] [] (h2 δ)) : gv_go G M_LA_law (d + 1) r hf 192 [some (gR 0), some (gR 1), some (gR 70), some (gR 98), some (gI i), l5, l6] [] h := by
  refine gv_B ok_LA_law 2 rfl ?_
  refine gv_SL ok_LA_law rfl mk_LA_ask rfl hH rfl rfl (Nat.le_of_ble_eq_true rfl) (fun δ => ?_)
  refine gv_B ok_LA_law 2 rfl ?_
  refine gv_Vc ok_LA_law rfl mk_MO_ask rfl (hM δ) rfl rfl (Nat.le_of_ble_eq_true rfl) ho rfl rfl ?_
  refine gv_B ok_LA_law 1 rfl ?_
  exact K δ
theorem lt_solve (h1 : μ 70 0 = kk) (h2 : kk = 0 → μ 98 0 = b) (K : gv_go G M_LA_law (d + 1) r hf 492 [some (gR 0), some (gR 1), some (gR 70), some (gR 98), some (gI i), some (gI kk), some (gI b)] [] (hp n acc g cap μ)) : gv_go G M_LA_law (d + 1) r hf 261 [some (gR 0), some (gR 1), some (gR 70), some (gR 98), some (gI i), some (gI kk), some (gI b)] [] (hp n acc g cap μ) := by
  refine gv_B ok_LA_law 1 rfl ?_
  refine gv_Vc ok_LA_law rfl mk_MO_thrown rfl (m_thrown (d := d)) rfl rfl (Nat.le_of_ble_eq_true rfl) rfl rfl rfl ?_
  refine gv_B ok_LA_law 2 rfl ?_
  refine gv_brT h1 ?_
  refine gv_B ok_LA_law 2 rfl ?_
  refine gv_br (fun c => ?_) (fun c => ?_)
  · refine gv_B ok_LA_law 1 rfl ?_
    exact K
  · refine gv_B ok_LA_law 6 rfl ?_
    refine gv_st1 (x' := 0) (lg_cmp0 (h2 (Decidable.not_not.mp c))) ?_
    refine gv_B ok_LA_law 2 rfl ?_
    exact K
theorem lh_solveE (hi : vp_in (i + 1) G.2.2.2.2.2.2.1) (hw : G.2.2.2.2.2.2.2 (i + 1).toNatClampNeg = w) (hH : gv_ev G d M_LA_solve [gR 1, gI w, gR 98] h (.inl (some (gI kk))) h1) (hM : gv_ev G d M_MO_solve [gR 70, gI w] h1 (.inl (some (gI b))) h2) {fs : List gv_V} (ho : h1.2.2 70 = some (Sum.inr (12, fs))) (K : gv_go G M_LA_law (d + 1) r hf 261 [some (gR 0), some (gR 1), some (gR 70), some (gR 98), some (gI i), some (gI kk), some (gI b)] [] h2) : gv_go G M_LA_law (d + 1) r hf 236 [some (gR 0), some (gR 1), some (gR 70), some (gR 98), some (gI i), l5, l6] [] h := by
  subst hw
  refine gv_B ok_LA_law 5 rfl ?_
  refine gv_sld ok_LA_law rfl hi ?_
  refine gv_B ok_LA_law 1 rfl ?_
  refine gv_Sc ok_LA_law rfl mk_LA_solve rfl hH rfl rfl (Nat.le_of_ble_eq_true rfl) ?_
  refine gv_B ok_LA_law 6 rfl ?_
  refine gv_sld ok_LA_law rfl hi ?_
  refine gv_Vc ok_LA_law rfl mk_MO_solve rfl hM rfl rfl (Nat.le_of_ble_eq_true rfl) ho rfl rfl ?_
  refine gv_B ok_LA_law 1 rfl ?_
  exact K
theorem lh_solveL (hi : vp_in (i + 1) G.2.2.2.2.2.2.1) (hw : G.2.2.2.2.2.2.2 (i + 1).toNatClampNeg = w) {h2 : Nat → gv_H} (hH : gv_ev G d M_LA_solve [gR 1, gI w, gR 98] h (.inr (.inr (some (some (gI kk))))) h1) (hM : ∀ δ : Nat, gv_ev G d M_MO_solve [gR 70, gI w] (h1.1 + δ, h1.2) (.inl (some (gI b))) (h2 δ)) {fs : List gv_V} (ho : h1.2.2 70 = some (Sum.inr (12, fs))) (K : ∀ δ : Nat, gv_go G M_LA_law (d + 1) r hf 261 [some (gR 0), some (gR 1), some (gR 70), some (gR 98), some (gI i), some (gI kk), some (gI b)] [] (h2 δ)) : gv_go G M_LA_law (d + 1) r hf 236 [some (gR 0), some (gR 1), some (gR 70), some (gR 98), some (gI i), l5, l6] [] h := by
  subst hw
  refine gv_B ok_LA_law 5 rfl ?_
  refine gv_sld ok_LA_law rfl hi ?_
  refine gv_B ok_LA_law 1 rfl ?_
  refine gv_SL ok_LA_law rfl mk_LA_solve rfl hH rfl rfl (Nat.le_of_ble_eq_true rfl) (fun δ => ?_)
  refine gv_B ok_LA_law 6 rfl ?_
  refine gv_sld ok_LA_law rfl hi ?_
  refine gv_Vc ok_LA_law rfl mk_MO_solve rfl (hM δ) rfl rfl (Nat.le_of_ble_eq_true rfl) ho rfl rfl ?_
  refine gv_B ok_LA_law 1 rfl ?_
  exact K δ
theorem lt_next (hb : b = 0 ∨ b = 1) (h1 : μ 70 0 = kk) (h2 : kk = 0 → μ 98 0 = b) (K : gv_go G M_LA_law (d + 1) r hf 492 [some (gR 0), some (gR 1), some (gR 70), some (gR 98), some (gI i), some (gI kk), some (gI b)] [] (hp n acc g cap μ)) : gv_go G M_LA_law (d + 1) r hf 305 [some (gR 0), some (gR 1), some (gR 70), some (gR 98), some (gI i), some (gI kk), some (gI b)] [] (hp n acc g cap μ) := by
  refine gv_B ok_LA_law 1 rfl ?_
  refine gv_Vc ok_LA_law rfl mk_MO_thrown rfl (m_thrown (d := d)) rfl rfl (Nat.le_of_ble_eq_true rfl) rfl rfl rfl ?_
  refine gv_B ok_LA_law 2 rfl ?_
  refine gv_brT h1 ?_
  refine gv_B ok_LA_law 2 rfl ?_
  refine gv_br (fun c => ?_) (fun c => ?_)
  · refine gv_B ok_LA_law 1 rfl ?_
    exact K
  · rcases hb with hb | hb
    · subst hb
      refine gv_B ok_LA_law 7 rfl ?_
      refine gv_st1 (x' := 0) (lg_cmp0 (y := 0) (h2 (Decidable.not_not.mp c))) ?_
      refine gv_B ok_LA_law 2 rfl ?_
      exact K
    · subst hb
      refine gv_B ok_LA_law 8 rfl ?_
      refine gv_st1 (x' := 0) (lg_cmp0 (y := 1) (h2 (Decidable.not_not.mp c))) ?_
      refine gv_B ok_LA_law 2 rfl ?_
      exact K
theorem lh_nextE (hH : gv_ev G d M_LA_next [gR 1, gR 98] h (.inl (some (gI kk))) h1) (hM : gv_ev G d M_MO_next [gR 70] h1 (.inl (some (gI b))) h2) {fs : List gv_V} (ho : h1.2.2 70 = some (Sum.inr (12, fs))) (K : gv_go G M_LA_law (d + 1) r hf 305 [some (gR 0), some (gR 1), some (gR 70), some (gR 98), some (gI i), some (gI kk), some (gI b)] [] h2) : gv_go G M_LA_law (d + 1) r hf 292 [some (gR 0), some (gR 1), some (gR 70), some (gR 98), some (gI i), l5, l6] [] h := by
  refine gv_B ok_LA_law 2 rfl ?_
  refine gv_Sc ok_LA_law rfl mk_LA_next rfl hH rfl rfl (Nat.le_of_ble_eq_true rfl) ?_
  refine gv_B ok_LA_law 2 rfl ?_
  refine gv_Vc ok_LA_law rfl mk_MO_next rfl hM rfl rfl (Nat.le_of_ble_eq_true rfl) ho rfl rfl ?_
  refine gv_B ok_LA_law 1 rfl ?_
  exact K
theorem lh_nextL {h2 : Nat → gv_H} (hH : gv_ev G d M_LA_next [gR 1, gR 98] h (.inr (.inr (some (some (gI kk))))) h1) (hM : ∀ δ : Nat, gv_ev G d M_MO_next [gR 70] (h1.1 + δ, h1.2) (.inl (some (gI b))) (h2 δ)) {fs : List gv_V} (ho : h1.2.2 70 = some (Sum.inr (12, fs))) (K : ∀ δ : Nat, gv_go G M_LA_law (d + 1) r hf 305 [some (gR 0), some (gR 1), some (gR 70), some (gR 98), some (gI i), some (gI kk), some (gI b)] [] (h2 δ)) : gv_go G M_LA_law (d + 1) r hf 292 [some (gR 0), some (gR 1), some (gR 70), some (gR 98), some (gI i), l5, l6] [] h := by
  refine gv_B ok_LA_law 2 rfl ?_
  refine gv_SL ok_LA_law rfl mk_LA_next rfl hH rfl rfl (Nat.le_of_ble_eq_true rfl) (fun δ => ?_)
  refine gv_B ok_LA_law 2 rfl ?_
  refine gv_Vc ok_LA_law rfl mk_MO_next rfl (hM δ) rfl rfl (Nat.le_of_ble_eq_true rfl) ho rfl rfl ?_
  refine gv_B ok_LA_law 1 rfl ?_
  exact K δ
theorem lt_count (h1 : μ 70 0 = kk) (h2 : kk = 0 → μ 98 0 = b) (K : gv_go G M_LA_law (d + 1) r hf 492 [some (gR 0), some (gR 1), some (gR 70), some (gR 98), some (gI i), some (gI kk), some (gI b)] [] (hp n acc g cap μ)) : gv_go G M_LA_law (d + 1) r hf 392 [some (gR 0), some (gR 1), some (gR 70), some (gR 98), some (gI i), some (gI kk), some (gI b)] [] (hp n acc g cap μ) := by
  refine gv_B ok_LA_law 1 rfl ?_
  refine gv_Vc ok_LA_law rfl mk_MO_thrown rfl (m_thrown (d := d)) rfl rfl (Nat.le_of_ble_eq_true rfl) rfl rfl rfl ?_
  refine gv_B ok_LA_law 2 rfl ?_
  refine gv_brT h1 ?_
  refine gv_B ok_LA_law 2 rfl ?_
  refine gv_br (fun c => ?_) (fun c => ?_)
  · refine gv_B ok_LA_law 1 rfl ?_
    exact K
  · refine gv_B ok_LA_law 6 rfl ?_
    refine gv_st1 (x' := 0) (lg_cmp0 (h2 (Decidable.not_not.mp c))) ?_
    refine gv_B ok_LA_law 2 rfl ?_
    exact K
theorem lh_countE (hi : vp_in (i + 1) G.2.2.2.2.2.2.1) (hw : G.2.2.2.2.2.2.2 (i + 1).toNatClampNeg = w) (hH : gv_ev G d M_LA_count [gR 1, gI w, gR 98] h (.inl (some (gI kk))) h1) (hM : gv_ev G d M_MO_count [gR 70, gI w] h1 (.inl (some (gI b))) h2) {fs : List gv_V} (ho : h1.2.2 70 = some (Sum.inr (12, fs))) (K : gv_go G M_LA_law (d + 1) r hf 392 [some (gR 0), some (gR 1), some (gR 70), some (gR 98), some (gI i), some (gI kk), some (gI b)] [] h2) : gv_go G M_LA_law (d + 1) r hf 367 [some (gR 0), some (gR 1), some (gR 70), some (gR 98), some (gI i), l5, l6] [] h := by
  subst hw
  refine gv_B ok_LA_law 5 rfl ?_
  refine gv_sld ok_LA_law rfl hi ?_
  refine gv_B ok_LA_law 1 rfl ?_
  refine gv_Sc ok_LA_law rfl mk_LA_count rfl hH rfl rfl (Nat.le_of_ble_eq_true rfl) ?_
  refine gv_B ok_LA_law 6 rfl ?_
  refine gv_sld ok_LA_law rfl hi ?_
  refine gv_Vc ok_LA_law rfl mk_MO_count rfl hM rfl rfl (Nat.le_of_ble_eq_true rfl) ho rfl rfl ?_
  refine gv_B ok_LA_law 1 rfl ?_
  exact K
theorem lh_countL (hi : vp_in (i + 1) G.2.2.2.2.2.2.1) (hw : G.2.2.2.2.2.2.2 (i + 1).toNatClampNeg = w) {h2 : Nat → gv_H} (hH : gv_ev G d M_LA_count [gR 1, gI w, gR 98] h (.inr (.inr (some (some (gI kk))))) h1) (hM : ∀ δ : Nat, gv_ev G d M_MO_count [gR 70, gI w] (h1.1 + δ, h1.2) (.inl (some (gI b))) (h2 δ)) {fs : List gv_V} (ho : h1.2.2 70 = some (Sum.inr (12, fs))) (K : ∀ δ : Nat, gv_go G M_LA_law (d + 1) r hf 392 [some (gR 0), some (gR 1), some (gR 70), some (gR 98), some (gI i), some (gI kk), some (gI b)] [] (h2 δ)) : gv_go G M_LA_law (d + 1) r hf 367 [some (gR 0), some (gR 1), some (gR 70), some (gR 98), some (gI i), l5, l6] [] h := by
  subst hw
  refine gv_B ok_LA_law 5 rfl ?_
  refine gv_sld ok_LA_law rfl hi ?_
  refine gv_B ok_LA_law 1 rfl ?_
  refine gv_SL ok_LA_law rfl mk_LA_count rfl hH rfl rfl (Nat.le_of_ble_eq_true rfl) (fun δ => ?_)
  refine gv_B ok_LA_law 6 rfl ?_
  refine gv_sld ok_LA_law rfl hi ?_
  refine gv_Vc ok_LA_law rfl mk_MO_count rfl (hM δ) rfl rfl (Nat.le_of_ble_eq_true rfl) ho rfl rfl ?_
  refine gv_B ok_LA_law 1 rfl ?_
  exact K δ
theorem lt_word (h1 : μ 70 0 = kk) (h2 : kk = 0 → μ 98 0 = b) (K : gv_go G M_LA_law (d + 1) r hf 492 [some (gR 0), some (gR 1), some (gR 70), some (gR 98), some (gI i), some (gI kk), some (gI b)] [] (hp n acc g cap μ)) : gv_go G M_LA_law (d + 1) r hf 461 [some (gR 0), some (gR 1), some (gR 70), some (gR 98), some (gI i), some (gI kk), some (gI b)] [] (hp n acc g cap μ) := by
  refine gv_B ok_LA_law 1 rfl ?_
  refine gv_Vc ok_LA_law rfl mk_MO_thrown rfl (m_thrown (d := d)) rfl rfl (Nat.le_of_ble_eq_true rfl) rfl rfl rfl ?_
  refine gv_B ok_LA_law 2 rfl ?_
  refine gv_brT h1 ?_
  refine gv_B ok_LA_law 2 rfl ?_
  refine gv_br (fun c => ?_) (fun c => ?_)
  · refine gv_B ok_LA_law 1 rfl ?_
    exact K
  · refine gv_B ok_LA_law 6 rfl ?_
    refine gv_st1 (x' := 0) (lg_cmp0 (h2 (Decidable.not_not.mp c))) ?_
    refine gv_B ok_LA_law 2 rfl ?_
    exact K
theorem lh_wordE (hi : vp_in (i + 1) G.2.2.2.2.2.2.1) (hw : G.2.2.2.2.2.2.2 (i + 1).toNatClampNeg = w) (hH : gv_ev G d M_LA_word [gR 1, gI w, gR 98] h (.inl (some (gI kk))) h1) (hM : gv_ev G d M_MO_word [gR 70, gI w] h1 (.inl (some (gI b))) h2) {fs : List gv_V} (ho : h1.2.2 70 = some (Sum.inr (12, fs))) (K : gv_go G M_LA_law (d + 1) r hf 461 [some (gR 0), some (gR 1), some (gR 70), some (gR 98), some (gI i), some (gI kk), some (gI b)] [] h2) : gv_go G M_LA_law (d + 1) r hf 436 [some (gR 0), some (gR 1), some (gR 70), some (gR 98), some (gI i), l5, l6] [] h := by
  subst hw
  refine gv_B ok_LA_law 5 rfl ?_
  refine gv_sld ok_LA_law rfl hi ?_
  refine gv_B ok_LA_law 1 rfl ?_
  refine gv_Sc ok_LA_law rfl mk_LA_word rfl hH rfl rfl (Nat.le_of_ble_eq_true rfl) ?_
  refine gv_B ok_LA_law 6 rfl ?_
  refine gv_sld ok_LA_law rfl hi ?_
  refine gv_Vc ok_LA_law rfl mk_MO_word rfl hM rfl rfl (Nat.le_of_ble_eq_true rfl) ho rfl rfl ?_
  refine gv_B ok_LA_law 1 rfl ?_
  exact K
theorem lh_wordL (hi : vp_in (i + 1) G.2.2.2.2.2.2.1) (hw : G.2.2.2.2.2.2.2 (i + 1).toNatClampNeg = w) {h2 : Nat → gv_H} (hH : gv_ev G d M_LA_word [gR 1, gI w, gR 98] h (.inr (.inr (some (some (gI kk))))) h1) (hM : ∀ δ : Nat, gv_ev G d M_MO_word [gR 70, gI w] (h1.1 + δ, h1.2) (.inl (some (gI b))) (h2 δ)) {fs : List gv_V} (ho : h1.2.2 70 = some (Sum.inr (12, fs))) (K : ∀ δ : Nat, gv_go G M_LA_law (d + 1) r hf 461 [some (gR 0), some (gR 1), some (gR 70), some (gR 98), some (gI i), some (gI kk), some (gI b)] [] (h2 δ)) : gv_go G M_LA_law (d + 1) r hf 436 [some (gR 0), some (gR 1), some (gR 70), some (gR 98), some (gI i), l5, l6] [] h := by
  subst hw
  refine gv_B ok_LA_law 5 rfl ?_
  refine gv_sld ok_LA_law rfl hi ?_
  refine gv_B ok_LA_law 1 rfl ?_
  refine gv_SL ok_LA_law rfl mk_LA_word rfl hH rfl rfl (Nat.le_of_ble_eq_true rfl) (fun δ => ?_)
  refine gv_B ok_LA_law 6 rfl ?_
  refine gv_sld ok_LA_law rfl hi ?_
  refine gv_Vc ok_LA_law rfl mk_MO_word rfl (hM δ) rfl rfl (Nat.le_of_ble_eq_true rfl) ho rfl rfl ?_
  refine gv_B ok_LA_law 1 rfl ?_
  exact K δ
theorem lh_stop (hH : gv_ev G d M_GE_stop [gR 1] h (.inl none) h1) (hM : gv_ev G d M_MO_stop [gR 70] h1 (.inl none) h2) {fs fs1 : List gv_V} (ho0 : h.2.2 1 = some (Sum.inr (0, fs1))) (ho : h1.2.2 70 = some (Sum.inr (12, fs))) (K : gv_go G M_LA_law (d + 1) r hf 492 [some (gR 0), some (gR 1), some (gR 70), some (gR 98), some (gI i), l5, l6] [] h2) : gv_go G M_LA_law (d + 1) r hf 343 [some (gR 0), some (gR 1), some (gR 70), some (gR 98), some (gI i), l5, l6] [] h := by
  refine gv_B ok_LA_law 1 rfl ?_
  refine gv_Vc ok_LA_law rfl mk_GE_stop rfl hH rfl rfl (Nat.le_of_ble_eq_true rfl) ho0 rfl rfl ?_
  refine gv_B ok_LA_law 1 rfl ?_
  refine gv_Vc ok_LA_law rfl mk_MO_stop rfl hM rfl rfl (Nat.le_of_ble_eq_true rfl) ho rfl rfl ?_
  refine gv_B ok_LA_law 1 rfl ?_
  exact K
theorem lh_collect (hH : gv_ev G d M_GE_collect [gR 1] h (.inl (some (gI kk))) h1) (hM : gv_ev G d M_MO_collect [gR 70] h1 (.inl (some (gI kk))) h2) {fs fs1 : List gv_V} (ho0 : h.2.2 1 = some (Sum.inr (0, fs1))) (ho : h1.2.2 70 = some (Sum.inr (12, fs))) (K : gv_go G M_LA_law (d + 1) r hf 492 [some (gR 0), some (gR 1), some (gR 70), some (gR 98), some (gI i), l5, l6] [] h2) : gv_go G M_LA_law (d + 1) r hf 354 [some (gR 0), some (gR 1), some (gR 70), some (gR 98), some (gI i), l5, l6] [] h := by
  refine gv_B ok_LA_law 1 rfl ?_
  refine gv_Vc ok_LA_law rfl mk_GE_collect rfl hH rfl rfl (Nat.le_of_ble_eq_true rfl) ho0 rfl rfl ?_
  refine gv_B ok_LA_law 1 rfl ?_
  refine gv_Vc ok_LA_law rfl mk_MO_collect rfl hM rfl rfl (Nat.le_of_ble_eq_true rfl) ho rfl rfl ?_
  refine gv_B ok_LA_law 1 rfl ?_
  exact gv_brT rfl K
theorem lh_words (hH : gv_ev G d M_GE_words [gR 1] h (.inl (some (gI kk))) h1) (hM : gv_ev G d M_MO_words [gR 70] h1 (.inl (some (gI kk))) h2) {fs fs1 : List gv_V} (ho0 : h.2.2 1 = some (Sum.inr (0, fs1))) (ho : h1.2.2 70 = some (Sum.inr (12, fs))) (K : gv_go G M_LA_law (d + 1) r hf 492 [some (gR 0), some (gR 1), some (gR 70), some (gR 98), some (gI i), l5, l6] [] h2) : gv_go G M_LA_law (d + 1) r hf 423 [some (gR 0), some (gR 1), some (gR 70), some (gR 98), some (gI i), l5, l6] [] h := by
  refine gv_B ok_LA_law 1 rfl ?_
  refine gv_Vc ok_LA_law rfl mk_GE_words rfl hH rfl rfl (Nat.le_of_ble_eq_true rfl) ho0 rfl rfl ?_
  refine gv_B ok_LA_law 1 rfl ?_
  refine gv_Vc ok_LA_law rfl mk_MO_words rfl hM rfl rfl (Nat.le_of_ble_eq_true rfl) ho rfl rfl ?_
  refine gv_B ok_LA_law 1 rfl ?_
  exact gv_brT rfl K
theorem lh_more (hl : ¬ Int32.ofNat G.2.2.2.2.2.2.1 - 2 < i) (hi : vp_in i G.2.2.2.2.2.2.1) (K : gv_go G M_LA_law d r hf (gv_sw (G.2.2.2.2.2.2.2 i.toNatClampNeg &&& 15) 492 [(0, 92), (1, 148), (2, 192), (3, 236), (4, 292), (5, 343), (6, 354), (7, 367), (8, 423), (9, 436)]) [some (gR 0), some (gR 1), some (gR 70), some (gR 98), some (gI i), l5, l6] [] h) : gv_go G M_LA_law d r hf 23 [some (gR 0), some (gR 1), some (gR 70), some (gR 98), some (gI i), l5, l6] [] h := by
  refine gv_B ok_LA_law 2 rfl ?_
  refine gv_slen ok_LA_law rfl ?_
  refine gv_B ok_LA_law 3 rfl ?_
  refine gv_brF hl ?_
  refine gv_B ok_LA_law 2 rfl ?_
  refine gv_sld ok_LA_law rfl hi ?_
  refine gv_B ok_LA_law 3 rfl ?_
  exact K
set_option maxRecDepth 20000 in
theorem lh_end (hl : Int32.ofNat G.2.2.2.2.2.2.1 - 2 < i) (hC : hf.2.1 = (gv_Cn, gv_Sn)) (h1 : h.2.1.1 ≤ gv_Cn) (h2 : h.2.1.2 ≤ gv_Sn) : gv_go G M_LA_law d (.inr (.inr none)) hf 23 [some (gR 0), some (gR 1), some (gR 70), some (gR 98), some (gI i), l5, l6] [] h := by
  refine gv_B ok_LA_law 2 rfl ?_
  refine gv_slen ok_LA_law rfl ?_
  refine gv_B ok_LA_law 3 rfl ?_
  refine gv_brT hl ?_
  refine gv_B ok_LA_law 1 rfl ?_
  exact gv_lawret ok_LA_law rfl hC h1 h2
theorem lh_back (K : gv_go G M_LA_law d r hf 23 [some (gR 0), some (gR 1), some (gR 70), some (gR 98), some (gI (i + 2)), l5, l6] [] h) : gv_go G M_LA_law d r hf 492 [some (gR 0), some (gR 1), some (gR 70), some (gR 98), some (gI i), l5, l6] [] h := by
  refine gv_B ok_LA_law 2 rfl ?_
  exact K
end LWA
end
section
/-! the law on a fresh object: at most one call (written by wip/tools/gen40.py) -/
section FRA
def KB : gv_H := gv_push KA82 1 (Sum.inl (1, 1, Sum.inl (fun _ => 0)))
theorem kb_s {P : Nat → Prop} {n : Nat} (h : ∀ k, k < n → P k) (hn : P n) : ∀ k, k < n + 1 → P k := fun k hk => (Nat.lt_succ_iff_lt_or_eq.mp hk).elim (h k) (fun e => e ▸ hn)
theorem tp_ge {m : Nat → Int32} {k : Nat} (hk : 99 ≤ k) : tpl 54 60 k m = none := by
  have h : tp_a 54 k m = none := by
    unfold tp_a
    split <;> first | rfl | omega
  unfold tpl
  rw [h]
  dsimp only
  rw [if_neg (by omega), if_neg (by omega), if_neg (by omega), if_neg (by omega)]
abbrev kb_P (k : Nat) : Prop := ∀ c, tpl 54 60 k (tp_0 k) = some c → KB.2.2 k = some c
set_option maxRecDepth 100000 in
theorem kb_0 : kb_P 0 := fun c h => (show KB.2.2 0 = tpl 54 60 0 (tp_0 0) from rfl).trans h
set_option maxRecDepth 100000 in
theorem kb_1 : kb_P 1 := fun c h => (show KB.2.2 1 = tpl 54 60 1 (tp_0 1) from rfl).trans h
set_option maxRecDepth 100000 in
theorem kb_2 : kb_P 2 := fun c h => (show KB.2.2 2 = tpl 54 60 2 (tp_0 2) from rfl).trans h
set_option maxRecDepth 100000 in
theorem kb_3 : kb_P 3 := fun c h => (show KB.2.2 3 = tpl 54 60 3 (tp_0 3) from rfl).trans h
set_option maxRecDepth 100000 in
theorem kb_4 : kb_P 4 := fun c h => (show KB.2.2 4 = tpl 54 60 4 (tp_0 4) from rfl).trans h
set_option maxRecDepth 100000 in
theorem kb_5 : kb_P 5 := fun c h => (show KB.2.2 5 = tpl 54 60 5 (tp_0 5) from rfl).trans h
set_option maxRecDepth 100000 in
theorem kb_6 : kb_P 6 := fun c h => (show KB.2.2 6 = tpl 54 60 6 (tp_0 6) from rfl).trans h
set_option maxRecDepth 100000 in
theorem kb_7 : kb_P 7 := fun c h => (show KB.2.2 7 = tpl 54 60 7 (tp_0 7) from rfl).trans h
set_option maxRecDepth 100000 in
theorem kb_8 : kb_P 8 := fun c h => (show KB.2.2 8 = tpl 54 60 8 (tp_0 8) from rfl).trans h
set_option maxRecDepth 100000 in
theorem kb_9 : kb_P 9 := fun c h => (show KB.2.2 9 = tpl 54 60 9 (tp_0 9) from rfl).trans h
set_option maxRecDepth 100000 in
theorem kb_10 : kb_P 10 := fun c h => (show KB.2.2 10 = tpl 54 60 10 (tp_0 10) from rfl).trans h
set_option maxRecDepth 100000 in
theorem kb_11 : kb_P 11 := fun c h => (show KB.2.2 11 = tpl 54 60 11 (tp_0 11) from rfl).trans h
set_option maxRecDepth 100000 in
theorem kb_12 : kb_P 12 := fun c h => (show KB.2.2 12 = tpl 54 60 12 (tp_0 12) from rfl).trans h
set_option maxRecDepth 100000 in
theorem kb_13 : kb_P 13 := fun c h => (show KB.2.2 13 = tpl 54 60 13 (tp_0 13) from rfl).trans h
set_option maxRecDepth 100000 in
theorem kb_14 : kb_P 14 := fun c h => (show KB.2.2 14 = tpl 54 60 14 (tp_0 14) from rfl).trans h
set_option maxRecDepth 100000 in
theorem kb_15 : kb_P 15 := fun c h => (show KB.2.2 15 = tpl 54 60 15 (tp_0 15) from rfl).trans h
set_option maxRecDepth 100000 in
theorem kb_16 : kb_P 16 := fun c h => (show KB.2.2 16 = tpl 54 60 16 (tp_0 16) from rfl).trans h
set_option maxRecDepth 100000 in
theorem kb_17 : kb_P 17 := fun c h => (show KB.2.2 17 = tpl 54 60 17 (tp_0 17) from rfl).trans h
set_option maxRecDepth 100000 in
theorem kb_18 : kb_P 18 := fun c h => (show KB.2.2 18 = tpl 54 60 18 (tp_0 18) from rfl).trans h
set_option maxRecDepth 100000 in
theorem kb_19 : kb_P 19 := fun c h => (show KB.2.2 19 = tpl 54 60 19 (tp_0 19) from rfl).trans h
set_option maxRecDepth 100000 in
theorem kb_20 : kb_P 20 := fun c h => (show KB.2.2 20 = tpl 54 60 20 (tp_0 20) from rfl).trans h
set_option maxRecDepth 100000 in
theorem kb_21 : kb_P 21 := fun c h => (show KB.2.2 21 = tpl 54 60 21 (tp_0 21) from rfl).trans h
set_option maxRecDepth 100000 in
theorem kb_22 : kb_P 22 := fun c h => (show KB.2.2 22 = tpl 54 60 22 (tp_0 22) from rfl).trans h
set_option maxRecDepth 100000 in
theorem kb_23 : kb_P 23 := fun c h => (show KB.2.2 23 = tpl 54 60 23 (tp_0 23) from rfl).trans h
set_option maxRecDepth 100000 in
theorem kb_24 : kb_P 24 := fun c h => (show KB.2.2 24 = tpl 54 60 24 (tp_0 24) from rfl).trans h
set_option maxRecDepth 100000 in
theorem kb_25 : kb_P 25 := fun c h => (show KB.2.2 25 = tpl 54 60 25 (tp_0 25) from rfl).trans h
set_option maxRecDepth 100000 in
theorem kb_26 : kb_P 26 := fun c h => (show KB.2.2 26 = tpl 54 60 26 (tp_0 26) from rfl).trans h
set_option maxRecDepth 100000 in
theorem kb_27 : kb_P 27 := fun c h => (show KB.2.2 27 = tpl 54 60 27 (tp_0 27) from rfl).trans h
set_option maxRecDepth 100000 in
theorem kb_28 : kb_P 28 := fun c h => (show KB.2.2 28 = tpl 54 60 28 (tp_0 28) from rfl).trans h
set_option maxRecDepth 100000 in
theorem kb_29 : kb_P 29 := fun c h => (show KB.2.2 29 = tpl 54 60 29 (tp_0 29) from rfl).trans h
set_option maxRecDepth 100000 in
theorem kb_30 : kb_P 30 := fun c h => (show KB.2.2 30 = tpl 54 60 30 (tp_0 30) from rfl).trans h
set_option maxRecDepth 100000 in
theorem kb_31 : kb_P 31 := fun c h => (show KB.2.2 31 = tpl 54 60 31 (tp_0 31) from rfl).trans h
set_option maxRecDepth 100000 in
theorem kb_32 : kb_P 32 := fun c h => (show KB.2.2 32 = tpl 54 60 32 (tp_0 32) from rfl).trans h
set_option maxRecDepth 100000 in
theorem kb_33 : kb_P 33 := fun c h => (show KB.2.2 33 = tpl 54 60 33 (tp_0 33) from rfl).trans h
set_option maxRecDepth 100000 in
theorem kb_34 : kb_P 34 := fun c h => (show KB.2.2 34 = tpl 54 60 34 (tp_0 34) from rfl).trans h
set_option maxRecDepth 100000 in
theorem kb_35 : kb_P 35 := fun c h => (show KB.2.2 35 = tpl 54 60 35 (tp_0 35) from rfl).trans h
set_option maxRecDepth 100000 in
theorem kb_36 : kb_P 36 := fun c h => (show KB.2.2 36 = tpl 54 60 36 (tp_0 36) from rfl).trans h
set_option maxRecDepth 100000 in
theorem kb_37 : kb_P 37 := fun c h => (show KB.2.2 37 = tpl 54 60 37 (tp_0 37) from rfl).trans h
set_option maxRecDepth 100000 in
theorem kb_38 : kb_P 38 := fun c h => (show KB.2.2 38 = tpl 54 60 38 (tp_0 38) from rfl).trans h
set_option maxRecDepth 100000 in
theorem kb_39 : kb_P 39 := fun c h => (show KB.2.2 39 = tpl 54 60 39 (tp_0 39) from rfl).trans h
set_option maxRecDepth 100000 in
theorem kb_40 : kb_P 40 := fun c h => (show KB.2.2 40 = tpl 54 60 40 (tp_0 40) from rfl).trans h
set_option maxRecDepth 100000 in
theorem kb_41 : kb_P 41 := fun c h => (show KB.2.2 41 = tpl 54 60 41 (tp_0 41) from rfl).trans h
set_option maxRecDepth 100000 in
theorem kb_42 : kb_P 42 := fun c h => (show KB.2.2 42 = tpl 54 60 42 (tp_0 42) from rfl).trans h
set_option maxRecDepth 100000 in
theorem kb_43 : kb_P 43 := fun c h => (show KB.2.2 43 = tpl 54 60 43 (tp_0 43) from rfl).trans h
set_option maxRecDepth 100000 in
theorem kb_44 : kb_P 44 := fun c h => (show KB.2.2 44 = tpl 54 60 44 (tp_0 44) from rfl).trans h
set_option maxRecDepth 100000 in
theorem kb_45 : kb_P 45 := fun c h => (show KB.2.2 45 = tpl 54 60 45 (tp_0 45) from rfl).trans h
set_option maxRecDepth 100000 in
theorem kb_46 : kb_P 46 := fun c h => (show KB.2.2 46 = tpl 54 60 46 (tp_0 46) from rfl).trans h
set_option maxRecDepth 100000 in
theorem kb_47 : kb_P 47 := fun c h => (show KB.2.2 47 = tpl 54 60 47 (tp_0 47) from rfl).trans h
set_option maxRecDepth 100000 in
theorem kb_48 : kb_P 48 := fun c h => (show KB.2.2 48 = tpl 54 60 48 (tp_0 48) from rfl).trans h
set_option maxRecDepth 100000 in
theorem kb_49 : kb_P 49 := fun c h => (show KB.2.2 49 = tpl 54 60 49 (tp_0 49) from rfl).trans h
set_option maxRecDepth 100000 in
theorem kb_50 : kb_P 50 := fun c h => (show KB.2.2 50 = tpl 54 60 50 (tp_0 50) from rfl).trans h
set_option maxRecDepth 100000 in
theorem kb_51 : kb_P 51 := fun c h => (show KB.2.2 51 = tpl 54 60 51 (tp_0 51) from rfl).trans h
set_option maxRecDepth 100000 in
theorem kb_52 : kb_P 52 := fun c h => (show KB.2.2 52 = tpl 54 60 52 (tp_0 52) from rfl).trans h
set_option maxRecDepth 100000 in
theorem kb_53 : kb_P 53 := fun c h => (show KB.2.2 53 = tpl 54 60 53 (tp_0 53) from rfl).trans h
set_option maxRecDepth 100000 in
theorem kb_54 : kb_P 54 := fun c h => (show KB.2.2 54 = tpl 54 60 54 (tp_0 54) from rfl).trans h
set_option maxRecDepth 100000 in
theorem kb_55 : kb_P 55 := fun c h => (show KB.2.2 55 = tpl 54 60 55 (tp_0 55) from rfl).trans h
set_option maxRecDepth 100000 in
theorem kb_56 : kb_P 56 := fun c h => (show KB.2.2 56 = tpl 54 60 56 (tp_0 56) from rfl).trans h
set_option maxRecDepth 100000 in
theorem kb_57 : kb_P 57 := fun c h => (show KB.2.2 57 = tpl 54 60 57 (tp_0 57) from rfl).trans h
set_option maxRecDepth 100000 in
theorem kb_58 : kb_P 58 := fun c h => (show KB.2.2 58 = tpl 54 60 58 (tp_0 58) from rfl).trans h
set_option maxRecDepth 100000 in
theorem kb_59 : kb_P 59 := fun c h => (show KB.2.2 59 = tpl 54 60 59 (tp_0 59) from rfl).trans h
set_option maxRecDepth 100000 in
theorem kb_60 : kb_P 60 := fun c h => (show KB.2.2 60 = tpl 54 60 60 (tp_0 60) from rfl).trans h
set_option maxRecDepth 100000 in
theorem kb_61 : kb_P 61 := fun c h => (show KB.2.2 61 = tpl 54 60 61 (tp_0 61) from rfl).trans h
set_option maxRecDepth 100000 in
theorem kb_62 : kb_P 62 := fun c h => (show KB.2.2 62 = tpl 54 60 62 (tp_0 62) from rfl).trans h
set_option maxRecDepth 100000 in
theorem kb_63 : kb_P 63 := fun c h => (show KB.2.2 63 = tpl 54 60 63 (tp_0 63) from rfl).trans h
set_option maxRecDepth 100000 in
theorem kb_64 : kb_P 64 := fun c h => (show KB.2.2 64 = tpl 54 60 64 (tp_0 64) from rfl).trans h
set_option maxRecDepth 100000 in
theorem kb_65 : kb_P 65 := fun c h => (show KB.2.2 65 = tpl 54 60 65 (tp_0 65) from rfl).trans h
set_option maxRecDepth 100000 in
theorem kb_66 : kb_P 66 := fun c h => (show KB.2.2 66 = tpl 54 60 66 (tp_0 66) from rfl).trans h
set_option maxRecDepth 100000 in
theorem kb_67 : kb_P 67 := fun c h => (show KB.2.2 67 = tpl 54 60 67 (tp_0 67) from rfl).trans h
set_option maxRecDepth 100000 in
theorem kb_68 : kb_P 68 := fun c h => (show KB.2.2 68 = tpl 54 60 68 (tp_0 68) from rfl).trans h
set_option maxRecDepth 100000 in
theorem kb_69 : kb_P 69 := fun c h => (show KB.2.2 69 = tpl 54 60 69 (tp_0 69) from rfl).trans h
set_option maxRecDepth 100000 in
theorem kb_70 : kb_P 70 := fun c h => (show KB.2.2 70 = tpl 54 60 70 (tp_0 70) from rfl).trans h
set_option maxRecDepth 100000 in
theorem kb_71 : kb_P 71 := fun c h => (show KB.2.2 71 = tpl 54 60 71 (tp_0 71) from rfl).trans h
set_option maxRecDepth 100000 in
theorem kb_72 : kb_P 72 := fun c h => (show KB.2.2 72 = tpl 54 60 72 (tp_0 72) from rfl).trans h
set_option maxRecDepth 100000 in
theorem kb_73 : kb_P 73 := fun c h => (show KB.2.2 73 = tpl 54 60 73 (tp_0 73) from rfl).trans h
set_option maxRecDepth 100000 in
theorem kb_74 : kb_P 74 := fun c h => (show KB.2.2 74 = tpl 54 60 74 (tp_0 74) from rfl).trans h
set_option maxRecDepth 100000 in
theorem kb_75 : kb_P 75 := fun c h => (show KB.2.2 75 = tpl 54 60 75 (tp_0 75) from rfl).trans h
set_option maxRecDepth 100000 in
theorem kb_76 : kb_P 76 := fun c h => (show KB.2.2 76 = tpl 54 60 76 (tp_0 76) from rfl).trans h
set_option maxRecDepth 100000 in
theorem kb_77 : kb_P 77 := fun c h => (show KB.2.2 77 = tpl 54 60 77 (tp_0 77) from rfl).trans h
set_option maxRecDepth 100000 in
theorem kb_78 : kb_P 78 := fun c h => (show KB.2.2 78 = tpl 54 60 78 (tp_0 78) from rfl).trans h
set_option maxRecDepth 100000 in
theorem kb_79 : kb_P 79 := fun c h => (show KB.2.2 79 = tpl 54 60 79 (tp_0 79) from rfl).trans h
set_option maxRecDepth 100000 in
theorem kb_80 : kb_P 80 := fun c h => (show KB.2.2 80 = tpl 54 60 80 (tp_0 80) from rfl).trans h
set_option maxRecDepth 100000 in
theorem kb_81 : kb_P 81 := fun c h => (show KB.2.2 81 = tpl 54 60 81 (tp_0 81) from rfl).trans h
set_option maxRecDepth 100000 in
theorem kb_82 : kb_P 82 := fun c h => (show KB.2.2 82 = tpl 54 60 82 (tp_0 82) from rfl).trans h
set_option maxRecDepth 100000 in
theorem kb_83 : kb_P 83 := fun c h => (show KB.2.2 83 = tpl 54 60 83 (tp_0 83) from rfl).trans h
set_option maxRecDepth 100000 in
theorem kb_84 : kb_P 84 := fun c h => (show KB.2.2 84 = tpl 54 60 84 (tp_0 84) from rfl).trans h
set_option maxRecDepth 100000 in
theorem kb_85 : kb_P 85 := fun c h => (show KB.2.2 85 = tpl 54 60 85 (tp_0 85) from rfl).trans h
set_option maxRecDepth 100000 in
theorem kb_86 : kb_P 86 := fun c h => (show KB.2.2 86 = tpl 54 60 86 (tp_0 86) from rfl).trans h
set_option maxRecDepth 100000 in
theorem kb_87 : kb_P 87 := fun c h => (show KB.2.2 87 = tpl 54 60 87 (tp_0 87) from rfl).trans h
set_option maxRecDepth 100000 in
theorem kb_88 : kb_P 88 := fun c h => (show KB.2.2 88 = tpl 54 60 88 (tp_0 88) from rfl).trans h
set_option maxRecDepth 100000 in
theorem kb_89 : kb_P 89 := fun c h => (show KB.2.2 89 = tpl 54 60 89 (tp_0 89) from rfl).trans h
set_option maxRecDepth 100000 in
theorem kb_90 : kb_P 90 := fun c h => (show KB.2.2 90 = tpl 54 60 90 (tp_0 90) from rfl).trans h
set_option maxRecDepth 100000 in
theorem kb_91 : kb_P 91 := fun c h => (show KB.2.2 91 = tpl 54 60 91 (tp_0 91) from rfl).trans h
set_option maxRecDepth 100000 in
theorem kb_92 : kb_P 92 := fun c h => (show KB.2.2 92 = tpl 54 60 92 (tp_0 92) from rfl).trans h
set_option maxRecDepth 100000 in
theorem kb_93 : kb_P 93 := fun c h => (show KB.2.2 93 = tpl 54 60 93 (tp_0 93) from rfl).trans h
set_option maxRecDepth 100000 in
theorem kb_94 : kb_P 94 := fun c h => (show KB.2.2 94 = tpl 54 60 94 (tp_0 94) from rfl).trans h
set_option maxRecDepth 100000 in
theorem kb_95 : kb_P 95 := fun c h => (show KB.2.2 95 = tpl 54 60 95 (tp_0 95) from rfl).trans h
set_option maxRecDepth 100000 in
theorem kb_96 : kb_P 96 := fun c h => (show KB.2.2 96 = tpl 54 60 96 (tp_0 96) from rfl).trans h
set_option maxRecDepth 100000 in
theorem kb_97 : kb_P 97 := fun c h => (show KB.2.2 97 = tpl 54 60 97 (tp_0 97) from rfl).trans h
set_option maxRecDepth 100000 in
theorem kb_98 : kb_P 98 := fun c h => (show KB.2.2 98 = tpl 54 60 98 (tp_0 98) from rfl).trans h
theorem kb_99 : ∀ k, k < 99 → kb_P k := kb_s (kb_s (kb_s (kb_s (kb_s (kb_s (kb_s (kb_s (kb_s (kb_s (kb_s (kb_s (kb_s (kb_s (kb_s (kb_s (kb_s (kb_s (kb_s (kb_s (kb_s (kb_s (kb_s (kb_s (kb_s (kb_s (kb_s (kb_s (kb_s (kb_s (kb_s (kb_s (kb_s (kb_s (kb_s (kb_s (kb_s (kb_s (kb_s (kb_s (kb_s (kb_s (kb_s (kb_s (kb_s (kb_s (kb_s (kb_s (kb_s (kb_s (kb_s (kb_s (kb_s (kb_s (kb_s (kb_s (kb_s (kb_s (kb_s (kb_s (kb_s (kb_s (kb_s (kb_s (kb_s (kb_s (kb_s (kb_s (kb_s (kb_s (kb_s (kb_s (kb_s (kb_s (kb_s (kb_s (kb_s (kb_s (kb_s (kb_s (kb_s (kb_s (kb_s (kb_s (kb_s (kb_s (kb_s (kb_s (kb_s (kb_s (kb_s (kb_s (kb_s (kb_s (kb_s (kb_s (kb_s (kb_s (kb_s (fun k hk => absurd hk (Nat.not_lt_zero k)) kb_0) kb_1) kb_2) kb_3) kb_4) kb_5) kb_6) kb_7) kb_8) kb_9) kb_10) kb_11) kb_12) kb_13) kb_14) kb_15) kb_16) kb_17) kb_18) kb_19) kb_20) kb_21) kb_22) kb_23) kb_24) kb_25) kb_26) kb_27) kb_28) kb_29) kb_30) kb_31) kb_32) kb_33) kb_34) kb_35) kb_36) kb_37) kb_38) kb_39) kb_40) kb_41) kb_42) kb_43) kb_44) kb_45) kb_46) kb_47) kb_48) kb_49) kb_50) kb_51) kb_52) kb_53) kb_54) kb_55) kb_56) kb_57) kb_58) kb_59) kb_60) kb_61) kb_62) kb_63) kb_64) kb_65) kb_66) kb_67) kb_68) kb_69) kb_70) kb_71) kb_72) kb_73) kb_74) kb_75) kb_76) kb_77) kb_78) kb_79) kb_80) kb_81) kb_82) kb_83) kb_84) kb_85) kb_86) kb_87) kb_88) kb_89) kb_90) kb_91) kb_92) kb_93) kb_94) kb_95) kb_96) kb_97) kb_98
theorem kb_all (k : Nat) (c : gv_C) (h : tpl 54 60 k (tp_0 k) = some c) : KB.2.2 k = some c := by
  by_cases e : k < 99
  · exact kb_99 k e c h
  · rw [tp_ge (by omega)] at h
    cases h
def kb_A : Nat × Nat := KB.2.1
theorem kb_A1 : kb_A.1 + 1 ≤ gv_Cn := by decide +kernel
theorem kb_A2 : kb_A.2 + 6 ≤ gv_Sn := by decide +kernel
variable {G : gv_G} {d : Nat} {r : gv_O} {hf : gv_H}
set_option maxRecDepth 100000 in
theorem law_new (K : gv_go G M_LA_law (d + 4) r hf 23 [some (gR 0), some (gR 1), some (gR 70), some (gR 98), some (gI 0), none, none] [] (hp 99 kb_A 54 60 tp_0)) : gv_go G M_LA_law (d + 4) r hf 0 [some (gR 0), none, none, none, none, none, none] [] KA0 := by
  refine gv_B ok_LA_law 2 rfl ?_
  refine gv_cast (h' := KA1) rfl ?_
  refine gv_I ok_LA_law rfl mk_GE_init rfl (ct28_GE_init (d := d + 1)) rfl rfl (Nat.le_of_ble_eq_true rfl) ?_
  refine gv_B ok_LA_law 3 rfl ?_
  refine gv_cast (h' := KA67) rfl ?_
  refine gv_I ok_LA_law rfl mk_MO_init rfl (ct29_MO_init (d := d + 3)) rfl rfl (Nat.le_of_ble_eq_true rfl) ?_
  refine gv_B ok_LA_law 6 rfl ?_
  refine gv_cast (h' := KB) rfl ?_
  exact gv_sub (h' := hp 99 kb_A 54 60 tp_0) rfl rfl kb_all K
theorem k_cases {k : Int32} (h : ∀ j : Nat, j < 7 → k ≠ nI j) (h0 : ¬ k < 0) : ¬ k ≤ 6 := by
  intro h6
  rw [Int32.lt_iff_toInt_lt] at h0
  rw [Int32.le_iff_toInt_le] at h6
  have e0 : (0 : Int32).toInt = 0 := by decide
  have e6 : (6 : Int32).toInt = 6 := by decide
  obtain ⟨j, hj⟩ : ∃ j : Nat, k.toInt = j := ⟨k.toInt.toNat, by omega⟩
  exact h j (by omega) (Int32.toInt_inj.mp (by rw [hj, nI_toInt (by omega)]))
set_option maxRecDepth 100000 in
theorem law_one (hL : G.2.2.2.2.2.2.1 ≤ 2) (hC : hf.2.1 = (gv_Cn, gv_Sn)) : gv_go G M_LA_law (d + 4) (.inr (.inr none)) hf 23 [some (gR 0), some (gR 1), some (gR 70), some (gR 98), some (gI 0), none, none] [] (hp 99 kb_A 54 60 tp_0) := by
  by_cases e : G.2.2.2.2.2.2.1 = 2
  · refine lh_more (i := 0) (by rw [e]; decide) (by rw [e]; unfold vp_in; decide) ?_
    have E : ∀ {l5 l6 : Option gv_V} {h : gv_H}, h.2.1.1 ≤ gv_Cn → h.2.1.2 ≤ gv_Sn → gv_go G M_LA_law (d + 4) (.inr (.inr none)) hf 492 [some (gR 0), some (gR 1), some (gR 70), some (gR 98), some (gI 0), l5, l6] [] h := fun a b => lh_back (lh_end (by rw [e]; decide) hC a b)
    obtain ⟨j, hj, ej⟩ : ∃ j, j < 16 ∧ G.2.2.2.2.2.2.2 (0 : Int32).toNatClampNeg &&& 15 = nI j := pk_andE _ (m := 15) 4 (by decide)
    rw [ej]
    clear ej
    generalize ew : G.2.2.2.2.2.2.2 ((0 : Int32) + 1).toNatClampNeg = w
    rcases (show j = 0 ∨ j = 1 ∨ j = 2 ∨ j = 3 ∨ j = 4 ∨ j = 5 ∨ j = 6 ∨ j = 7 ∨ j = 8 ∨ j = 9 ∨ j = 10 ∨ j = 11 ∨ j = 12 ∨ j = 13 ∨ j = 14 ∨ j = 15 by omega) with q | q | q | q | q | q | q | q | q | q | q | q | q | q | q | q <;> subst q
    · refine gv_pce (p2 := 92) (by decide) ?_
      by_cases hw : isW w
      · exact lh_putE (d := d + 3) (i := 0) (w := w) (h2 := hp 99 kb_A 54 60 (sI (sI (sI (sI (sI (sI tp_0 2 0 w) 1 1 (nI (0 + 1))) 98 0 (nI (0 + 1))) 70 0 0) 71 0 w) 70 1 (nI (0 + 1)))) (by rw [e]; unfold vp_in; decide) ew (l_put0 (d := d + 1) (t := 0) (n := 99) (acc := kb_A) (g := 54) (cap := 60) (μ := tp_0) hw (by decide) (by decide)) (m_put1 (d := d + 3) (t := 0) hw (by decide) (show (0 : Int32) = nI 0 by decide)) rfl (lt_put (d := d + 3) rfl (fun _ => rfl) (E (Nat.le_trans (Nat.le_add_right _ 1) kb_A1) (Nat.le_trans (Nat.le_add_right _ 6) kb_A2)))
      · exact lh_putL (d := d + 3) (i := 0) (h2 := fun δ => hp (99 + δ) (kb_A.1 + 1, kb_A.2 + 6) 54 60 (sI tp_0 70 0 1)) (w := w) (by rw [e]; unfold vp_in; decide) ew (l_putA (d := d + 1) (n := 99) (acc := kb_A) (g := 54) (cap := 60) (μ := tp_0) hw) (fun δ => m_put0 (d := d + 3) (n := 99 + δ) (acc := (kb_A.1 + 1, kb_A.2 + 6)) (g := 54) (cap := 60) (μ := tp_0) hw) rfl (fun δ => lt_put (d := d + 3) rfl (fun c => absurd c (by decide)) (E kb_A1 kb_A2))
    · refine gv_pce (p2 := 148) (by decide) ?_
      exact lh_ruleL (d := d + 3) (i := 0) (h2 := fun δ => hp (99 + δ) (kb_A.1 + 1, kb_A.2 + 6) 54 60 (sI (sI (sI (sI tp_0 1 1 0) 70 0 0) 70 0 2) 70 1 0)) (l_rule0 (d := d) (n := 99) (acc := kb_A) (g := 54) (cap := 60) (μ := tp_0) (by decide) rfl rfl) (fun δ => m_rule0 (d := d + 3) (n := 99 + δ) (acc := (kb_A.1 + 1, kb_A.2 + 6)) (g := 54) (cap := 60) (μ := (sI tp_0 1 1 0)) (by decide) rfl rfl) rfl (fun δ => lt_rule (d := d + 3) rfl (fun c => absurd c (by decide)) (E kb_A1 kb_A2))
    · refine gv_pce (p2 := 192) (by decide) ?_
      exact lh_askL (d := d + 3) (i := 0) (h2 := fun δ => hp (99 + δ) (kb_A.1 + 1, kb_A.2 + 6) 54 60 (sI (sI (sI tp_0 1 1 0) 70 0 1) 70 1 0)) (l_ask0 (d := d + 1) (n := 99) (acc := kb_A) (g := 54) (cap := 60) (μ := tp_0) rfl) (fun δ => m_ask0 (d := d + 3) (n := 99 + δ) (acc := (kb_A.1 + 1, kb_A.2 + 6)) (g := 54) (cap := 60) (μ := (sI tp_0 1 1 0)) rfl) rfl (fun δ => lt_ask (d := d + 3) rfl (fun c => absurd c (by decide)) (E kb_A1 kb_A2))
    · refine gv_pce (p2 := 236) (by decide) ?_
      by_cases c1 : w < 1
      · exact lh_solveL (d := d + 3) (i := 0) (h2 := fun δ => hp (99 + δ) (kb_A.1 + 1, kb_A.2 + 6) 54 60 (sI tp_0 70 0 1)) (w := w) (by rw [e]; unfold vp_in; decide) ew (l_solveA (d := d + 2) (n := 99) (acc := kb_A) (g := 54) (cap := 60) (μ := tp_0) c1) (fun δ => m_solveA (d := d + 3) (n := 99 + δ) (acc := (kb_A.1 + 1, kb_A.2 + 6)) (g := 54) (cap := 60) (μ := tp_0) c1) rfl (fun δ => lt_solve (d := d + 3) rfl (fun c => absurd c (by decide)) (E kb_A1 kb_A2))
      · by_cases c2 : w ≤ 20
        · exact lh_solveL (d := d + 3) (i := 0) (h2 := fun δ => hp (99 + δ) (kb_A.1 + 1, kb_A.2 + 6) 54 60 (sI tp_0 70 0 2)) (w := w) (by rw [e]; unfold vp_in; decide) ew (l_solveS (d := d + 2) (n := 99) (acc := kb_A) (g := 54) (cap := 60) (μ := tp_0) c1 c2 (by decide)) (fun δ => m_solveS (d := d + 3) (n := 99 + δ) (acc := (kb_A.1 + 1, kb_A.2 + 6)) (g := 54) (cap := 60) (μ := tp_0) c1 c2 rfl) rfl (fun δ => lt_solve (d := d + 3) rfl (fun c => absurd c (by decide)) (E kb_A1 kb_A2))
        · exact lh_solveL (d := d + 3) (i := 0) (h2 := fun δ => hp (99 + δ) (kb_A.1 + 1, kb_A.2 + 6) 54 60 (sI tp_0 70 0 1)) (w := w) (by rw [e]; unfold vp_in; decide) ew (l_solveB (d := d + 2) (n := 99) (acc := kb_A) (g := 54) (cap := 60) (μ := tp_0) c1 c2) (fun δ => m_solveB (d := d + 3) (n := 99 + δ) (acc := (kb_A.1 + 1, kb_A.2 + 6)) (g := 54) (cap := 60) (μ := tp_0) c1 c2) rfl (fun δ => lt_solve (d := d + 3) rfl (fun c => absurd c (by decide)) (E kb_A1 kb_A2))
    · refine gv_pce (p2 := 292) (by decide) ?_
      exact lh_nextL (d := d + 3) (i := 0) (h2 := fun δ => hp (99 + δ) (kb_A.1 + 1, kb_A.2 + 6) 54 60 (sI tp_0 70 0 1)) (l_nextS (d := d + 2) (n := 99) (acc := kb_A) (g := 54) (cap := 60) (μ := tp_0) (by decide)) (fun δ => m_next0 (d := d + 3) (n := 99 + δ) (acc := (kb_A.1 + 1, kb_A.2 + 6)) (g := 54) (cap := 60) (μ := tp_0) rfl) rfl (fun δ => lt_next (d := d + 3) (Or.inl rfl) rfl (fun c => absurd c (by decide)) (E kb_A1 kb_A2))
    · refine gv_pce (p2 := 343) (by decide) ?_
      exact lh_stop (d := d + 3) (e_stop (d := d + 3) (n := 99) (acc := kb_A) (g := 54) (cap := 60) (μ := tp_0)) (m_stop0 (d := d + 3) rfl) rfl rfl (E (Nat.le_trans (Nat.le_add_right _ 1) kb_A1) (Nat.le_trans (Nat.le_add_right _ 6) kb_A2))
    · refine gv_pce (p2 := 354) (by decide) ?_
      exact lh_collect (d := d + 3) (e_collect0 (d := d + 3) (n := 99) (acc := kb_A) (g := 54) (cap := 60) (μ := tp_0) rfl) (m_collect0 (d := d + 3) rfl) rfl rfl (E (Nat.le_trans (Nat.le_add_right _ 1) kb_A1) (Nat.le_trans (Nat.le_add_right _ 6) kb_A2))
    · refine gv_pce (p2 := 367) (by decide) ?_
      by_cases c : ∀ j : Nat, j < 7 → w ≠ nI j
      · by_cases c1 : w < 0
        · exact lh_countL (d := d + 3) (i := 0) (h2 := fun δ => hp (99 + δ) (kb_A.1 + 1, kb_A.2 + 6) 54 60 (sI tp_0 70 0 1)) (w := w) (by rw [e]; unfold vp_in; decide) ew (l_countA (d := d + 2) (n := 99) (acc := kb_A) (g := 54) (cap := 60) (μ := tp_0) c) (fun δ => m_countN (d := d + 2) (n := 99 + δ) (acc := (kb_A.1 + 1, kb_A.2 + 6)) (g := 54) (cap := 60) (μ := tp_0) (by decide) c1) rfl (fun δ => lt_count (d := d + 3) rfl (fun c => absurd c (by decide)) (E kb_A1 kb_A2))
        · exact lh_countL (d := d + 3) (i := 0) (h2 := fun δ => hp (99 + δ) (kb_A.1 + 1, kb_A.2 + 6) 54 60 (sI tp_0 70 0 1)) (w := w) (by rw [e]; unfold vp_in; decide) ew (l_countA (d := d + 2) (n := 99) (acc := kb_A) (g := 54) (cap := 60) (μ := tp_0) c) (fun δ => m_countB (d := d + 2) (n := 99 + δ) (acc := (kb_A.1 + 1, kb_A.2 + 6)) (g := 54) (cap := 60) (μ := tp_0) (by decide) c1 (k_cases c c1)) rfl (fun δ => lt_count (d := d + 3) rfl (fun c => absurd c (by decide)) (E kb_A1 kb_A2))
      · obtain ⟨j, hj, ej⟩ : ∃ j : Nat, j < 7 ∧ w = nI j := Classical.byContradiction fun q => c fun j hj ej => q ⟨j, hj, ej⟩
        rcases (show j = 0 ∨ j = 1 ∨ j = 2 ∨ j = 3 ∨ j = 4 ∨ j = 5 ∨ j = 6 by omega) with q | q | q | q | q | q | q <;> subst q <;> subst ej
        · exact lh_countE (d := d + 3) (i := 0) (w := nI 0) (h2 := hp 99 kb_A 54 60 (sI (sI tp_0 98 0 0) 70 0 0)) (by rw [e]; unfold vp_in; decide) ew (l_count0 (d := d + 1) (n := 99) (acc := kb_A) (g := 54) (cap := 60) (μ := tp_0) rfl) (m_count0 (d := d + 2) (by decide)) rfl (lt_count (d := d + 3) rfl (fun _ => (congrArg nI (cntP0 (fun j => rfl) 240)).symm) (E (Nat.le_trans (Nat.le_add_right _ 1) kb_A1) (Nat.le_trans (Nat.le_add_right _ 6) kb_A2)))
        · exact lh_countE (d := d + 3) (i := 0) (w := nI 1) (h2 := hp 99 kb_A 54 60 (sI (sI tp_0 98 0 0) 70 0 0)) (by rw [e]; unfold vp_in; decide) ew (l_count1 (d := d + 1) (n := 99) (acc := kb_A) (g := 54) (cap := 60) (μ := tp_0) rfl) (m_count1 (d := d + 2) (by decide)) rfl (lt_count (d := d + 3) rfl (fun _ => rfl) (E (Nat.le_trans (Nat.le_add_right _ 1) kb_A1) (Nat.le_trans (Nat.le_add_right _ 6) kb_A2)))
        · exact lh_countE (d := d + 3) (i := 0) (w := nI 2) (h2 := hp 99 kb_A 54 60 (sI (sI tp_0 98 0 0) 70 0 0)) (by rw [e]; unfold vp_in; decide) ew (l_count2 (d := d + 1) (n := 99) (acc := kb_A) (g := 54) (cap := 60) (μ := tp_0) rfl) (m_count2 (d := d + 2) (by decide)) rfl (lt_count (d := d + 3) rfl (fun _ => rfl) (E (Nat.le_trans (Nat.le_add_right _ 1) kb_A1) (Nat.le_trans (Nat.le_add_right _ 6) kb_A2)))
        · exact lh_countE (d := d + 3) (i := 0) (w := nI 3) (h2 := hp 99 kb_A 54 60 (sI (sI tp_0 98 0 (tp_0 37 12)) 70 0 0)) (by rw [e]; unfold vp_in; decide) ew (l_count3 (d := d + 1) (n := 99) (acc := kb_A) (g := 54) (cap := 60) (μ := tp_0)) (m_count3 (d := d + 2) (by decide)) rfl (lt_count (d := d + 3) rfl (fun _ => rfl) (E (Nat.le_trans (Nat.le_add_right _ 1) kb_A1) (Nat.le_trans (Nat.le_add_right _ 6) kb_A2)))
        · exact lh_countE (d := d + 3) (i := 0) (w := nI 4) (h2 := hp 99 kb_A 54 60 (sI (sI tp_0 98 0 (tp_0 3 1)) 70 0 0)) (by rw [e]; unfold vp_in; decide) ew (l_count4 (d := d + 1) (n := 99) (acc := kb_A) (g := 54) (cap := 60) (μ := tp_0)) (m_count4 (d := d + 2) (by decide)) rfl (lt_count (d := d + 3) rfl (fun _ => rfl) (E (Nat.le_trans (Nat.le_add_right _ 1) kb_A1) (Nat.le_trans (Nat.le_add_right _ 6) kb_A2)))
        · exact lh_countE (d := d + 3) (i := 0) (w := nI 5) (h2 := hp 99 kb_A 54 60 (sI (sI tp_0 98 0 (tp_0 1 1)) 70 0 0)) (by rw [e]; unfold vp_in; decide) ew (l_count5 (d := d + 1) (n := 99) (acc := kb_A) (g := 54) (cap := 60) (μ := tp_0)) (m_count5 (d := d + 2) (by decide)) rfl (lt_count (d := d + 3) rfl (fun _ => rfl) (E (Nat.le_trans (Nat.le_add_right _ 1) kb_A1) (Nat.le_trans (Nat.le_add_right _ 6) kb_A2)))
        · exact lh_countE (d := d + 3) (i := 0) (w := nI 6) (h2 := hp 99 kb_A 54 60 (sI (sI tp_0 98 0 (tp_0 64 5)) 70 0 0)) (by rw [e]; unfold vp_in; decide) ew (l_count6 (d := d + 1) (n := 99) (acc := kb_A) (g := 54) (cap := 60) (μ := tp_0)) (m_count6 (d := d + 2) (by decide)) rfl (lt_count (d := d + 3) rfl (fun _ => rfl) (E (Nat.le_trans (Nat.le_add_right _ 1) kb_A1) (Nat.le_trans (Nat.le_add_right _ 6) kb_A2)))
    · refine gv_pce (p2 := 423) (by decide) ?_
      exact lh_words (d := d + 3) (e_words0 (d := d + 2) (n := 99) (acc := kb_A) (g := 54) (cap := 60) (μ := tp_0) (by decide)) (m_words0 (d := d + 2) rfl) rfl rfl (E (Nat.le_trans (Nat.le_add_right _ 1) kb_A1) (Nat.le_trans (Nat.le_add_right _ 6) kb_A2))
    · refine gv_pce (p2 := 436) (by decide) ?_
      by_cases c1 : w < 0
      · exact lh_wordL (d := d + 3) (i := 0) (h2 := fun δ => hp (99 + δ) (kb_A.1 + 1, kb_A.2 + 6) 54 60 (sI (fa0 tp_0) 70 0 1)) (w := w) (by rw [e]; unfold vp_in; decide) ew (l_wordN (d := d + 2) (n := 99) (acc := kb_A) (g := 54) (cap := 60) (μ := tp_0) c1) (fun δ => m_wordN (d := d + 2) (n := 99 + δ) (acc := (kb_A.1 + 1, kb_A.2 + 6)) (g := 54) (cap := 60) (μ := tp_0) rfl c1) rfl (fun δ => lt_word (d := d + 3) rfl (fun c => absurd c (by decide)) (E kb_A1 kb_A2))
      · exact lh_wordL (d := d + 3) (i := 0) (h2 := fun δ => hp (99 + δ) (kb_A.1 + 1, kb_A.2 + 6) 54 60 (sI (fa0 tp_0) 70 0 1)) (w := w) (by rw [e]; unfold vp_in; decide) ew (l_word0 (d := d + 1) (n := 99) (acc := kb_A) (g := 54) (cap := 60) (μ := tp_0) (by decide) c1) (fun δ => m_word0 (d := d + 2) (n := 99 + δ) (acc := (kb_A.1 + 1, kb_A.2 + 6)) (g := 54) (cap := 60) (μ := tp_0) rfl c1) rfl (fun δ => lt_word (d := d + 3) rfl (fun c => absurd c (by decide)) (E kb_A1 kb_A2))
    · refine gv_pce (p2 := 492) (by decide) ?_
      exact E (Nat.le_trans (Nat.le_add_right _ 1) kb_A1) (Nat.le_trans (Nat.le_add_right _ 6) kb_A2)
    · refine gv_pce (p2 := 492) (by decide) ?_
      exact E (Nat.le_trans (Nat.le_add_right _ 1) kb_A1) (Nat.le_trans (Nat.le_add_right _ 6) kb_A2)
    · refine gv_pce (p2 := 492) (by decide) ?_
      exact E (Nat.le_trans (Nat.le_add_right _ 1) kb_A1) (Nat.le_trans (Nat.le_add_right _ 6) kb_A2)
    · refine gv_pce (p2 := 492) (by decide) ?_
      exact E (Nat.le_trans (Nat.le_add_right _ 1) kb_A1) (Nat.le_trans (Nat.le_add_right _ 6) kb_A2)
    · refine gv_pce (p2 := 492) (by decide) ?_
      exact E (Nat.le_trans (Nat.le_add_right _ 1) kb_A1) (Nat.le_trans (Nat.le_add_right _ 6) kb_A2)
    · refine gv_pce (p2 := 492) (by decide) ?_
      exact E (Nat.le_trans (Nat.le_add_right _ 1) kb_A1) (Nat.le_trans (Nat.le_add_right _ 6) kb_A2)
  · exact lh_end (by have e1 : G.2.2.2.2.2.2.1 = 0 ∨ G.2.2.2.2.2.2.1 = 1 := by omega
                     rcases e1 with e1 | e1 <;> rw [e1] <;> decide) hC (Nat.le_trans (Nat.le_add_right _ 1) kb_A1) (Nat.le_trans (Nat.le_add_right _ 6) kb_A2)
end FRA
end
section
/-! from the law's entry to the picture -/
section WRA
theorem gs_st {n d : String} {s : State} {args : Array Value} (hl : (Jvm.Cond.laysStatic "java/lang/Throwable" n d).before args s = true) (hr : (Jvm.Cond.isRef (.static "java/lang/Throwable" n d)).before args s = true) : gx_st n d s s.heap s.heap.size := by
  obtain ⟨c, k, i, f, a, cell, hc, hi, hst, ha, hcell, hs, hcls, hlt, hty⟩ := Cond.laysStatic_spec hl
  obtain ⟨v, hv⟩ : ∃ v, cell.slots[f.slot]? = some v := ⟨_, Array.getElem?_eq_getElem hlt⟩
  have he : (Term.static "java/lang/Throwable" n d).eval args s none [] s = some v := by
    simp [Term.eval, State.fieldNamed?, hi, hst, ha, hcell, hs, hv]
  refine ⟨c, k, i, f, a, cell, v, hc, hi, hst, ha, hcell, hs, hcls, hlt, hty, (Array.getElem?_eq_some_iff.mp hcell).1, hv, ?_⟩
  simp only [Jvm.Cond.before, Jvm.Cond.holds, Jvm.Cond.value, he] at hr
  cases v <;> simp_all [Value.isRef]
theorem gs_in : gv_cl.all (fun r => decide (Jvm.Cond.instantiable r.1 r.2.2 ∈ lw_tbl)) = true := by decide +kernel
theorem gs_arr {s : State} {c : ClassId} {k : Class} {comp : ClassId} {t : FieldType} (hk : s.vm.classes[c]? = some k) (hkind : k.kind = .array comp t) : ArrOfT s c t := fun n z => ⟨(fun q hq => by cases hq), k, hk, comp, hkind⟩
def gs_z (b z : Nat) : Nat → Nat := fun k => match k with
  | 0 => b
  | k + 1 => z + k
def gs_t (a b c d : ClassId) : Nat → ClassId := fun k => match k with
  | 0 => a
  | 1 => b
  | 2 => c
  | _ => d
theorem gs_Nw {w : Jvm.Cond} {A : Array Value} {s : State} (h : w.before A s = true) (hg : gv_gd w = true) : va_Nw w s := by
  unfold gv_gd at hg
  rw [Bool.or_eq_true] at hg
  rcases hg with hg | hg
  · exact word_at (State.WarmedH.refl s) (good_of_word hg) h
  · unfold gv_nest at hg
    split at hg
    next => exact va_Nw.of rfl h
    next => exact va_Nw.of rfl h
    next => exact va_AO.of h
    next => exact va_Nw.of rfl h
    next => exact va_Nw.of rfl h
    next => cases hg
theorem gs_wrap {p : Program} {e : Env} {s : State} {m : MethodId} {below : List Frame} {meth : Method} {c : Code} {l : Launch} {b L : Nat} {xs : Nat → Int32} (hfl : l.flags = flags0) (C0 : lw_At p s m meth c b L xs) (hnm : meth.name = "law") (hex : c.exceptionTable.isEmpty = true)
    (R : ∀ G : gv_G, G.2.2.2.2.2.2.1 = L → gv_go G M_LA_law 60 (.inr (.inr none)) (0, (gv_Cn, gv_Sn), fun _ => none) 0 [some (gR 0), none, none, none, none, none, none] [] KA0) :
    W p l e room_1 s m #[Value.ref b] below meth c s.heap [] 0 0 (lw_Z below #[Value.ref b] s) (entryFrame m ([Value.ref b] : List Value).toArray 7) := by
  obtain ⟨hx, hb, hr, hml, hown, hts, hX, hbl, hlocks, hgv⟩ := C0
  have hs := flat_of_before _ hgv
  have hD : ∀ ci : Nat, ∃ D : ClassId × (Nat → Nat), ∀ q : vw_C, gv_cl[ci]? = some q → u_Kn s q.1 q.2.1 q.2.2 D.1 D.2 := by
    intro ci
    cases h : gv_cl[ci]? with
    | none => exact ⟨(0, fun _ => 0), fun q hq => nomatch hq⟩
    | some q =>
      have h1 := (gc_ok ci q h).2.1
      have h2 := of_decide_eq_true (List.all_eq_true.mp gs_in q (List.mem_of_getElem? h))
      obtain ⟨cC, iS, hk⟩ := u_known (ws := lw_tbl) hts (fun w hw => (h1 w hw).1) (hts _ h2)
      exact ⟨(cC, iS), fun q' hq' => by cases hq'; exact hk⟩
  obtain ⟨c0, k0, p0, a1, a2, a3⟩ := Cond.arrayClass_spec (hts (.arrayClass .int) (by decide +kernel))
  obtain ⟨c1, k1, p1, b1, b2, b3⟩ := Cond.arrayClass_spec (hts (.arrayClass .long) (by decide +kernel))
  obtain ⟨c2, k2, p2, d1, d2, d3⟩ := Cond.arrayClass_spec (hts (.arrayClass .boolean) (by decide +kernel))
  obtain ⟨p3, c3, k3, e1, -, e2, e3, e4⟩ := Cond.arrayOver_spec (hts (.arrayOver (.object gv_qc)) (by decide +kernel))
  obtain ⟨G, g1, g2, g3, g4, g5, g6, g7, g8⟩ : ∃ G : gv_G, G.1 = l ∧ G.2.1 = gs_z b s.heap.size ∧ G.2.2.1 = (fun ci => (Classical.choose (hD ci)).1, fun ci => (Classical.choose (hD ci)).2) ∧ G.2.2.2.1 = gs_t c0 c1 c2 c3 ∧ G.2.2.2.2.1 = s.heap ∧ G.2.2.2.2.2.1 = s.heap.size ∧ G.2.2.2.2.2.2.1 = L ∧ G.2.2.2.2.2.2.2 = xs := ⟨(l, gs_z b s.heap.size, _, gs_t c0 c1 c2 c3, s.heap, s.heap.size, L, xs), rfl, rfl, rfl, rfl, rfl, rfl, rfl, rfl⟩
  have hK : gv_K G s := by
    refine ⟨fun w hw hg => gs_Nw (hts w hw) hg, ⟨fun ci q hq => ?_, fun k q hk => ?_⟩, ?_, ?_, ?_, ?_, ?_⟩
    · rw [g3]
      exact Classical.choose_spec (hD ci) q hq
    · unfold gv_ty at hk
      rw [g4] at hk
      match k, hk with
      | 0, hk => cases hk; exact ⟨gs_arr a2 a3, a1⟩
      | 1, hk => cases hk; exact ⟨gs_arr b2 b3, b1⟩
      | 2, hk => cases hk; exact ⟨gs_arr d2 d3, d1⟩
      | 3, hk => cases hk; exact ⟨gs_arr e2 e3, ⟨k3, p3, e2, e3, e1, e4⟩⟩
    · rw [g2, g7, g8, g5]
      exact hX
    · rw [g1]
      unfold Launch.stackTraces
      rw [hfl]
      decide +kernel
    · unfold gx_nc
      exact List.forall_mem_cons.mpr ⟨va_Nc.of (hs _ (by decide +kernel)), List.forall_mem_cons.mpr ⟨va_Nc.of (hs _ (by decide +kernel)), List.forall_mem_cons.mpr ⟨va_Nc.of (hs _ (by decide +kernel)), List.forall_mem_cons.mpr ⟨va_Nc.of (hs _ (by decide +kernel)), List.forall_mem_cons.mpr ⟨va_Nc.of (hs _ (by decide +kernel)), List.forall_mem_cons.mpr ⟨va_Nc.of (hs _ (by decide +kernel)), List.forall_mem_cons.mpr ⟨va_Nc.of (hs _ (by decide +kernel)), fun _ h => absurd h List.not_mem_nil⟩⟩⟩⟩⟩⟩⟩
    · rw [g5, g6]
      exact gs_st (hts _ (by decide +kernel)) (hs _ (by decide +kernel))
    · rw [g5, g6]
      exact gs_st (hts _ (by decide +kernel)) (hs _ (by decide +kernel))
  have hw : gv_w G KA0 s.heap := by
    refine ⟨⟨⟨?_, fun k => ?_⟩, Nat.le_refl 1⟩, ?_, fun q hq => ?_, fun k cc hk => nomatch hk⟩
    · rw [g2, g6]
      exact hbl
    · rw [g2, g6]
      rfl
    · rw [g2]
      rfl
    · rw [g5]
  have hl := lv_entry [Value.ref b] (n := 7) (Nat.le_of_ble_eq_true rfl)
  rw [lg_entry_eq]
  generalize (lg_sl [Value.ref b] ++ List.replicate (7 - (lg_sl [Value.ref b]).length) Slot.unset).toArray = A at hl ⊢
  have hA : gv_ls G.2.1 7 A [some (gR 0), none, none, none, none, none, none] := by
    refine ⟨hl.1, hl.2.1, fun i v hi => ?_⟩
    match i, hi with
    | 0, hi =>
      cases hi
      have h9 := hl.2.2 (0, Value.ref b) List.mem_cons_self
      rw [g2]
      exact h9
    | 1, hi => cases hi
    | 2, hi => cases hi
    | 3, hi => cases hi
    | 4, hi => cases hi
    | 5, hi => cases hi
    | 6, hi => cases hi
    | n + 7, hi => cases hi
  have hex' : c.exceptionTable.toList.map (fun h => (h.startPc, h.endPc, h.handlerPc, h.catchType)) = [] := by
    rw [Array.isEmpty_iff.mp hex]
    rfl
  have k2 := (R G g7).2 KA0 p e s m #[Value.ref b] below meth c s.heap [] A (Nat.le_refl _) (Nat.le_refl _) ⟨hx, hb, hml, hown, hK, hr, hlocks, hnm, hex'⟩ hw (fun q hq => nomatch hq) hA
  rw [g1] at k2
  intro T hT XX
  obtain ⟨t, a1, b1⟩ := k2 T hT (gx_less XX (by decide) (by decide) (by decide) (by decide))
  exact ⟨t, a1, b1 g6.symm⟩
end WRA
end
section
/-! methods as functions of the numbers: the tools -/
section FBA
abbrev Mu : Type := Nat → Nat → Int32
/-- how often a loop may go round -/
def fu : Nat := 100000
def b1 {α γ : Type} (o : Option α) (f : α → Option γ) : Option γ := match o with
  | some a => f a
  | none => none
def b2 {α β γ : Type} (o : Option (α × β)) (f : α → β → Option γ) : Option γ := match o with
  | some (a, b) => f a b
  | none => none
def b3 {α β δ γ : Type} (o : Option (α × β × δ)) (f : α → β → δ → Option γ) : Option γ := match o with
  | some (a, b, c) => f a b c
  | none => none
def b4 {α β δ ε γ : Type} (o : Option (α × β × δ × ε)) (f : α → β → δ → ε → Option γ) : Option γ := match o with
  | some (a, b, c, e) => f a b c e
  | none => none
def b5 {α β δ ε ζ γ : Type} (o : Option (α × β × δ × ε × ζ)) (f : α → β → δ → ε → ζ → Option γ) : Option γ := match o with
  | some (a, b, c, e, z) => f a b c e z
  | none => none
theorem b1_e {α γ : Type} {o : Option α} {f : α → Option γ} {c : γ} (h : b1 o f = some c) : ∃ a, o = some a ∧ f a = some c := by
  unfold b1 at h
  split at h
  next a => exact ⟨a, rfl, h⟩
  next => cases h
theorem b2_e {α β γ : Type} {o : Option (α × β)} {f : α → β → Option γ} {c : γ} (h : b2 o f = some c) : ∃ a b, o = some (a, b) ∧ f a b = some c := by
  unfold b2 at h
  split at h
  next a b => exact ⟨a, b, rfl, h⟩
  next => cases h
theorem b3_e {α β δ γ : Type} {o : Option (α × β × δ)} {f : α → β → δ → Option γ} {c : γ} (h : b3 o f = some c) : ∃ a b e, o = some (a, b, e) ∧ f a b e = some c := by
  unfold b3 at h
  split at h
  next a b e => exact ⟨a, b, e, rfl, h⟩
  next => cases h
theorem b4_e {α β δ ε γ : Type} {o : Option (α × β × δ × ε)} {f : α → β → δ → ε → Option γ} {c : γ} (h : b4 o f = some c) : ∃ a b e g, o = some (a, b, e, g) ∧ f a b e g = some c := by
  unfold b4 at h
  split at h
  next a b e g => exact ⟨a, b, e, g, rfl, h⟩
  next => cases h
theorem b5_e {α β δ ε ζ γ : Type} {o : Option (α × β × δ × ε × ζ)} {f : α → β → δ → ε → ζ → Option γ} {c : γ} (h : b5 o f = some c) : ∃ a b e g z, o = some (a, b, e, g, z) ∧ f a b e g z = some c := by
  unfold b5 at h
  split at h
  next a b e g z => exact ⟨a, b, e, g, z, rfl, h⟩
  next => cases h
/-- a row of n numbers: read, write; booleans -/
def rd (f : Nat → Int32) (n : Nat) (i : Int32) : Option Int32 := if i < 0 ∨ n ≤ i.toNatClampNeg then none else some (f i.toNatClampNeg)
def wr (μ : Mu) (a n : Nat) (i x : Int32) : Option Mu := if i < 0 ∨ n ≤ i.toNatClampNeg then none else some (sI μ a i.toNatClampNeg x)
def wz (μ : Mu) (a n : Nat) (i x : Int32) : Option Mu := if i < 0 ∨ n ≤ i.toNatClampNeg then none else if x = 0 ∨ x = 1 then some (sI μ a i.toNatClampNeg x) else none
theorem rd_e {f : Nat → Int32} {n : Nat} {i x : Int32} (h : rd f n i = some x) : vp_in i n ∧ f i.toNatClampNeg = x := by
  unfold rd at h
  by_cases c : i < 0 ∨ n ≤ i.toNatClampNeg
  · rw [if_pos c] at h; cases h
  · rw [if_neg c] at h; cases h; exact ⟨c, rfl⟩
theorem wr_e {μ μ1 : Mu} {a n : Nat} {i x : Int32} (h : wr μ a n i x = some μ1) : vp_in i n ∧ sI μ a i.toNatClampNeg x = μ1 := by
  unfold wr at h
  by_cases c : i < 0 ∨ n ≤ i.toNatClampNeg
  · rw [if_pos c] at h; cases h
  · rw [if_neg c] at h; cases h; exact ⟨c, rfl⟩
theorem wz_e {μ μ1 : Mu} {a n : Nat} {i x : Int32} (h : wz μ a n i x = some μ1) : vp_in i n ∧ (x = 0 ∨ x = 1) ∧ sI μ a i.toNatClampNeg x = μ1 := by
  unfold wz at h
  by_cases c : i < 0 ∨ n ≤ i.toNatClampNeg
  · rw [if_pos c] at h; cases h
  · rw [if_neg c] at h
    by_cases c2 : x = 0 ∨ x = 1
    · rw [if_pos c2] at h; cases h; exact ⟨c, c2, rfl⟩
    · rw [if_neg c2] at h; cases h
/-- the rows of goals: where they may lie -/
def gPb (g : Nat) : Bool := Nat.beq g 54 || Nat.ble 99 g
/-- a clause: the rules' and the question's -/
def clPb (q : Nat) : Bool := Nat.beq q 38 || (Nat.ble 5 q && Nat.ble q 35 && Nat.beq (q % 2) 1)
/-- the reference's rows of words -/
def ofPb (q n : Nat) : Bool := (Nat.beq q 71 && Nat.beq n 30) || (Nat.beq q 72 && Nat.beq n 480)
theorem tp_a9 {g : Nat} {m : Nat → Int32} {k : Nat} (hk : 99 ≤ k) : tp_a g k m = none := by
  unfold tp_a
  split <;> first | rfl | omega
theorem gP_or {g : Nat} (h : gPb g = true) : g = 54 ∨ 99 ≤ g := by
  unfold gPb at h
  rw [Bool.or_eq_true] at h
  exact h.imp Nat.eq_of_beq_eq_true Nat.le_of_ble_eq_true
theorem tg_0 {g cap : Nat} (h : gPb g = true) (m : Nat → Int32) : tpl g cap g m = some (Sum.inl (0, cap, Sum.inl m)) := by
  rcases gP_or h with e | e
  · subst e; rfl
  · unfold tpl
    rw [tp_a9 e]
    exact if_pos rfl
theorem tg_1 {g cap : Nat} (h : gPb g = true) (m : Nat → Int32) : tpl g cap (g + 1) m = some (Sum.inl (0, cap, Sum.inl m)) := by
  rcases gP_or h with e | e
  · subst e; rfl
  · unfold tpl
    rw [tp_a9 (by omega)]
    dsimp only
    rw [if_neg (by omega), if_pos rfl]
theorem tg_2 {g cap : Nat} (h : gPb g = true) (m : Nat → Int32) : tpl g cap (g + 2) m = some (Sum.inl (0, cap, Sum.inl m)) := by
  rcases gP_or h with e | e
  · subst e; rfl
  · unfold tpl
    rw [tp_a9 (by omega)]
    dsimp only
    rw [if_neg (by omega), if_neg (by omega), if_pos rfl]
theorem tg_3 {g cap : Nat} (h : gPb g = true) (m : Nat → Int32) : tpl g cap (g + 3) m = some (Sum.inl (2, cap, Sum.inl m)) := by
  rcases gP_or h with e | e
  · subst e; rfl
  · unfold tpl
    rw [tp_a9 (by omega)]
    dsimp only
    rw [if_neg (by omega), if_neg (by omega), if_neg (by omega), if_pos rfl]
theorem gP_0 {g : Nat} (h : gPb g = true) : Nat.beq g 0 = false := by
  rcases gP_or h with e | e
  · subst e; rfl
  · cases g with
    | zero => omega
    | succ g => rfl
theorem clP_or {q : Nat} (h : clPb q = true) : q = 38 ∨ q = 5 ∨ q = 7 ∨ q = 9 ∨ q = 11 ∨ q = 13 ∨ q = 15 ∨ q = 17 ∨ q = 19 ∨ q = 21 ∨ q = 23 ∨ q = 25 ∨ q = 27 ∨ q = 29 ∨ q = 31 ∨ q = 33 ∨ q = 35 := by
  unfold clPb at h
  rw [Bool.or_eq_true, Bool.and_eq_true, Bool.and_eq_true] at h
  rcases h with h | ⟨⟨h1, h2⟩, h3⟩
  · exact Or.inl (Nat.eq_of_beq_eq_true h)
  · have h1 := Nat.le_of_ble_eq_true h1
    have h2 := Nat.le_of_ble_eq_true h2
    have h3 := Nat.eq_of_beq_eq_true h3
    omega
theorem tc_o {q : Nat} (h : clPb q = true) (g cap : Nat) (m : Nat → Int32) : tpl g cap q m = some (Sum.inr (2, [gR (q + 1), gI (m 1), gI (m 2), gI (m 3)])) := by
  rcases clP_or h with e | e | e | e | e | e | e | e | e | e | e | e | e | e | e | e | e <;> subst e <;> rfl
theorem tc_r {q : Nat} (h : clPb q = true) (g cap : Nat) (m : Nat → Int32) : tpl g cap (q + 1) m = some (Sum.inl (0, 30, Sum.inl m)) := by
  rcases clP_or h with e | e | e | e | e | e | e | e | e | e | e | e | e | e | e | e | e <;> subst e <;> rfl
theorem tc_0 {q : Nat} (h : clPb q = true) : Nat.beq q 0 = false := by
  rcases clP_or h with e | e | e | e | e | e | e | e | e | e | e | e | e | e | e | e | e <;> subst e <;> rfl
theorem of_or {q n : Nat} (h : ofPb q n = true) : (q = 71 ∧ n = 30) ∨ (q = 72 ∧ n = 480) := by
  unfold ofPb at h
  rw [Bool.or_eq_true, Bool.and_eq_true, Bool.and_eq_true] at h
  exact h.imp (fun h => ⟨Nat.eq_of_beq_eq_true h.1, Nat.eq_of_beq_eq_true h.2⟩) (fun h => ⟨Nat.eq_of_beq_eq_true h.1, Nat.eq_of_beq_eq_true h.2⟩)
theorem to_r {q n : Nat} (h : ofPb q n = true) (g cap : Nat) (m : Nat → Int32) : tpl g cap q m = some (Sum.inl (0, n, Sum.inl m)) := by
  rcases of_or h with ⟨e, e2⟩ | ⟨e, e2⟩ <;> subst e <;> subst e2 <;> rfl
/-- the rules' row: the clause at i lies at 5 + 2 i -/
def clA (i : Int32) : Option Nat := if i < 0 ∨ 16 ≤ i.toNatClampNeg then none else some (5 + 2 * i.toNatClampNeg)
theorem tp_cl_at {t : Nat} (h : t < 16) : tp_cl t = some (5 + 2 * t) := by
  rcases (show t = 0 ∨ t = 1 ∨ t = 2 ∨ t = 3 ∨ t = 4 ∨ t = 5 ∨ t = 6 ∨ t = 7 ∨ t = 8 ∨ t = 9 ∨ t = 10 ∨ t = 11 ∨ t = 12 ∨ t = 13 ∨ t = 14 ∨ t = 15 by omega) with e | e | e | e | e | e | e | e | e | e | e | e | e | e | e | e <;> subst e <;> rfl
theorem clA_e {i : Int32} {q : Nat} (h : clA i = some q) : vp_in i 16 ∧ q = 5 + 2 * i.toNatClampNeg ∧ clPb q = true := by
  unfold clA at h
  by_cases c : i < 0 ∨ 16 ≤ i.toNatClampNeg
  · rw [if_pos c] at h; cases h
  · rw [if_neg c] at h
    cases h
    refine ⟨c, rfl, ?_⟩
    have h2 : i.toNatClampNeg < 16 := Nat.not_le.mp fun q => c (Or.inr q)
    generalize i.toNatClampNeg = t at h2
    rcases (show t = 0 ∨ t = 1 ∨ t = 2 ∨ t = 3 ∨ t = 4 ∨ t = 5 ∨ t = 6 ∨ t = 7 ∨ t = 8 ∨ t = 9 ∨ t = 10 ∨ t = 11 ∨ t = 12 ∨ t = 13 ∨ t = 14 ∨ t = 15 by omega) with e | e | e | e | e | e | e | e | e | e | e | e | e | e | e | e <;> subst e <;> rfl
variable {G : gv_G} {y M : gv_M} {d : Nat} {r : gv_O} {hf h : gv_H} {pc : Nat} {ls ls' : gv_L} {st st0 args : List gv_V} {v9 : Int32} {w9 : Int64} {a a9 b ci j wp nx n n9 g cap t : Nat} {acc : Nat × Nat} {μ μ1 : Mu} {tb : List (Int32 × Nat)} {fs : List gv_V} {rr : vw_C} {i x z : Int32}
theorem hp_rd (hy : gv_ok y) (hj : gv_lk y.2.2.2.2.1 pc = some (72, v9, w9, a9, b, wp, nx, tb)) (ha : tpl g cap a (μ a) = some (Sum.inl (0, n9, Sum.inl (μ a)))) (hx : rd (μ a) n9 i = some x)
    (k : gv_go G y d r hf nx ls (gI x :: st) (hp n acc g cap μ)) : gv_go G y d r hf pc ls (gI i :: gR a :: st) (hp n acc g cap μ) := by
  obtain ⟨h1, h2⟩ := rd_e hx
  subst h2
  exact gv_ial hy hj ha h1 k
theorem hp_rz (hy : gv_ok y) (hj : gv_lk y.2.2.2.2.1 pc = some (73, v9, w9, a9, b, wp, nx, tb)) (ha : tpl g cap a (μ a) = some (Sum.inl (2, n9, Sum.inl (μ a)))) (hx : rd (μ a) n9 i = some x)
    (k : gv_go G y d r hf nx ls (gI x :: st) (hp n acc g cap μ)) : gv_go G y d r hf pc ls (gI i :: gR a :: st) (hp n acc g cap μ) := by
  obtain ⟨h1, h2⟩ := rd_e hx
  subst h2
  exact gv_zal hy hj ha h1 k
theorem hp_wr (hy : gv_ok y) (hj : gv_lk y.2.2.2.2.1 pc = some (76, v9, w9, a9, b, wp, nx, tb)) (h0 : Nat.beq a 0 = false) (ha : tpl g cap a (μ a) = some (Sum.inl (0, n9, Sum.inl (μ a)))) (hb : tpl g cap a (upd (μ a) i.toNatClampNeg x) = some (Sum.inl (0, n9, Sum.inl (upd (μ a) i.toNatClampNeg x)))) (hx : wr μ a n9 i x = some μ1)
    (k : gv_go G y d r hf nx ls st (hp n acc g cap μ1)) : gv_go G y d r hf pc ls (gI x :: gI i :: gR a :: st) (hp n acc g cap μ) := by
  obtain ⟨h1, h2⟩ := wr_e hx
  subst h2
  exact gv_ias hy hj h0 ha h1 (gv_cast (hp_set hb) k)
theorem hp_wz (hy : gv_ok y) (hj : gv_lk y.2.2.2.2.1 pc = some (77, v9, w9, a9, b, wp, nx, tb)) (h0 : Nat.beq a 0 = false) (ha : tpl g cap a (μ a) = some (Sum.inl (2, n9, Sum.inl (μ a)))) (hb : tpl g cap a (upd (μ a) i.toNatClampNeg x) = some (Sum.inl (2, n9, Sum.inl (upd (μ a) i.toNatClampNeg x)))) (hx : wz μ a n9 i x = some μ1)
    (k : gv_go G y d r hf nx ls st (hp n acc g cap μ1)) : gv_go G y d r hf pc ls (gI x :: gI i :: gR a :: st) (hp n acc g cap μ) := by
  obtain ⟨h1, h2, h3⟩ := wz_e hx
  subst h3
  exact gv_zas hy hj h0 ha h1 h2 (gv_cast (hp_set hb) k)
theorem hp_cl {q : Nat} (hy : gv_ok y) (hj : gv_lk y.2.2.2.2.1 pc = some (75, v9, w9, a9, b, wp, nx, tb)) (hx : clA i = some q)
    (k : gv_go G y d r hf nx ls (gR q :: st) (hp n acc g cap μ)) : gv_go G y d r hf pc ls (gI i :: gR 4 :: st) (hp n acc g cap μ) := by
  obtain ⟨h1, h2, h3⟩ := clA_e hx
  subst h2
  refine gv_qal (a := 4) (n := 16) (q := tp_cl) hy hj rfl h1 ?_
  rw [tp_cl_at (Nat.not_le.mp fun q => h1 (Or.inr q))]
  exact k
/-- division -/
theorem gv_idv (hy : gv_ok y) (hj : gv_lk y.2.2.2.2.1 pc = some (27, v9, w9, a9, b, wp, nx, tb)) (h0 : ¬ x = 0) (k : gv_go G y d r hf nx ls (gI (z / x) :: st) h) : gv_go G y d r hf pc ls (gI x :: gI z :: st) h := by
  refine gv_step (S := (nx, ls, gI (z / x) :: st, h)) gc_ok gc_qi hy hj ?_ k
  show gv_x2 (27, v9, w9, a9, b, wp, nx, tb) ls (gI x :: gI z :: st) h = _
  simp only [gv_x2]
  rw [if_neg h0]
theorem gv_ldv {x z : Int64} (hy : gv_ok y) (hj : gv_lk y.2.2.2.2.1 pc = some (35, v9, w9, a9, b, wp, nx, tb)) (h0 : ¬ x = 0) (k : gv_go G y d r hf nx ls (gL (z / x) :: st) h) : gv_go G y d r hf pc ls (gL x :: gL z :: st) h := by
  refine gv_step (S := (nx, ls, gL (z / x) :: st, h)) gc_ok gc_qi hy hj ?_ k
  show gv_x2 (35, v9, w9, a9, b, wp, nx, tb) ls (gL x :: gL z :: st) h = _
  simp only [gv_x2]
  rw [if_neg h0]
/-- locals that aren't needed any more -/
def gv_le : gv_L → gv_L → Prop
  | [], _ => True
  | none :: a, _ :: b => gv_le a b
  | some v :: a, x :: b => x = some v ∧ gv_le a b
  | _ :: _, [] => False
theorem gv_le_at : ∀ {a b : gv_L} {i : Nat} {v : gv_V}, gv_le a b → a[i]? = some (some v) → b[i]? = some (some v)
  | [], _, i, v, _, h => by simp at h
  | none :: a, x :: b, i, v, hl, h => by
    cases i with
    | zero => simp at h
    | succ i => exact gv_le_at (a := a) (b := b) (i := i) hl (by simpa using h)
  | some w :: a, x :: b, i, v, hl, h => by
    cases i with
    | zero => simp at h; subst h; simpa using hl.1
    | succ i => exact gv_le_at (a := a) (b := b) (i := i) hl.2 (by simpa using h)
  | none :: _, [], _, _, hl, _ => hl.elim
  | some _ :: _, [], _, _, hl, _ => hl.elim
theorem gv_fg (hl : gv_le ls' ls) (k : gv_go G y d r hf pc ls' st h) : gv_go G y d r hf pc ls st h :=
  gv_pure (fun p e R s m args below meth c H locs cells slots Q A X hw hA kk => kk A ⟨hA.1, hA.2.1, fun i v hi => hA.2.2 i v (gv_le_at hl hi)⟩) k
theorem gv_fk (k : gv_go G y d r hf pc ls' st h) (hl : gv_le ls' ls) : gv_go G y d r hf pc ls st h := gv_fg hl k
/-- a call of a method of the JDK's -/
theorem gv_Sx {v : Option gv_V} {h1 : gv_H} {x9 : Nat} (hd : decode y.2.1 pc = .ok (.invokestatic x9, 3)) (hl : gv_tw wp (.methodLink y.1.cls x9 M.1) = true) (hM : gv_msS M = true) (hE : gv_ev G d M args h (.inl v) h1) (hst : st0 = args.reverse ++ st) (hn : args.length = M.2.2.2.2.2.2.2.2.2.1) (hcat : gv_cs st ≤ 8)
    (k : gv_go G y (d + 1) r hf (pc + 3) ls (v.toList ++ st) h1) : gv_go G y (d + 1) r hf pc ls st0 h := by
  unfold gv_msS at hM
  rw [Bool.and_eq_true] at hM
  rw [hst]
  exact gv_callS (a := 0) hM.1 hM.2 hl hd hn hcat hE k
end FBA
end
section
/-! Java's own: max, min, bitCount (written by wip/tools/43.jd.py) -/
section JDA
def M_J_jbit : gv_M := (⟨"java/lang/Integer", "bitCount", "(I)I"⟩, prog_21_method_49_code, 1, some .int, [(0, (3, 0, 0, 0, 0, 0, 1, [])),
  (1, (3, 0, 0, 0, 0, 0, 2, [])),
  (2, (1, 1, 0, 0, 0, 0, 3, [])),
  (3, (28, 0, 0, 0, 0, 0, 4, [])),
  (7, (23, 0, 0, 0, 0, 0, 8, [])),
  (8, (21, 0, 0, 0, 0, 0, 9, [])),
  (9, (6, 0, 0, 0, 0, 0, 10, [])),
  (10, (3, 0, 0, 0, 0, 0, 11, [])),
  (14, (23, 0, 0, 0, 0, 0, 15, [])),
  (15, (3, 0, 0, 0, 0, 0, 16, [])),
  (16, (1, 2, 0, 0, 0, 0, 17, [])),
  (17, (28, 0, 0, 0, 0, 0, 18, [])),
  (21, (23, 0, 0, 0, 0, 0, 22, [])),
  (22, (20, 0, 0, 0, 0, 0, 23, [])),
  (23, (6, 0, 0, 0, 0, 0, 24, [])),
  (24, (3, 0, 0, 0, 0, 0, 25, [])),
  (25, (3, 0, 0, 0, 0, 0, 26, [])),
  (26, (1, 4, 0, 0, 0, 0, 27, [])),
  (27, (28, 0, 0, 0, 0, 0, 28, [])),
  (28, (20, 0, 0, 0, 0, 0, 29, [])),
  (32, (23, 0, 0, 0, 0, 0, 33, [])),
  (33, (6, 0, 0, 0, 0, 0, 34, [])),
  (34, (3, 0, 0, 0, 0, 0, 35, [])),
  (35, (3, 0, 0, 0, 0, 0, 36, [])),
  (36, (1, 8, 0, 0, 0, 0, 38, [])),
  (38, (28, 0, 0, 0, 0, 0, 39, [])),
  (39, (20, 0, 0, 0, 0, 0, 40, [])),
  (40, (6, 0, 0, 0, 0, 0, 41, [])),
  (41, (3, 0, 0, 0, 0, 0, 42, [])),
  (42, (3, 0, 0, 0, 0, 0, 43, [])),
  (43, (1, 16, 0, 0, 0, 0, 45, [])),
  (45, (28, 0, 0, 0, 0, 0, 46, [])),
  (46, (20, 0, 0, 0, 0, 0, 47, [])),
  (47, (6, 0, 0, 0, 0, 0, 48, [])),
  (48, (3, 0, 0, 0, 0, 0, 49, [])),
  (49, (1, 63, 0, 0, 0, 0, 51, [])),
  (51, (23, 0, 0, 0, 0, 0, 52, [])),
  (52, (90, 0, 0, 0, 0, 0, 0, []))], (433, 87, 432, 0, 1, []))
theorem ok_J_jbit : gv_ok M_J_jbit := gv_ok_of (by decide +kernel)
theorem mk_J_jbit : gv_msS M_J_jbit = true := by decide +kernel

def jmax (x y : Int32) : Int32 := if x < y then y else x
def jmin (x y : Int32) : Int32 := if y < x then y else x
def ush (x k : Int32) : Int32 := (x.toUInt32 >>> (k.toUInt32 &&& Int32.toUInt32 31)).toInt32
def jb1 (i : Int32) : Int32 := i - (ush i 1 &&& 1431655765)
def jb2 (i : Int32) : Int32 := (i &&& 858993459) + (ush i 2 &&& 858993459)
def jb3 (i : Int32) : Int32 := (i + ush i 4) &&& 252645135
def jb4 (i : Int32) : Int32 := i + ush i 8
def jb5 (i : Int32) : Int32 := i + ush i 16
def jbit (i : Int32) : Int32 := jb5 (jb4 (jb3 (jb2 (jb1 i)))) &&& 63
variable {G : gv_G} {y : gv_M} {d : Nat} {r : gv_O} {hf h : gv_H} {pc wp : Nat} {ls : gv_L} {st : List gv_V} {x z : Int32}
theorem gv_ldw {x9 : Nat} {v : Int32} (hd : decode y.2.1 pc = .ok (.ldc_w x9, 3)) (hv : gv_tw wp (.constant y.1.cls x9 v) = true) (k : gv_go G y d r hf (pc + 3) ls (gI v :: st) h) : gv_go G y d r hf pc ls st h :=
  gv_pure (fun p e R s m args below meth c H locs cells slots Q A X hw hA kk => lv_ldcw X.1 X.2.1 X.2.2.2.1 (gv_tw_use X.2.2.2.2.1 hv args) hd (kk A hA)) k
theorem gv_mx {x9 : Nat} (hd : decode y.2.1 pc = .ok (.invokestatic x9, 3)) (hl : gv_tw wp (.methodLink y.1.cls x9 Lib.Math.max.name) = true) (hcat : gv_cs st ≤ 100) (k : gv_go G y d r hf (pc + 3) ls (gI (jmax x z) :: st) h) : gv_go G y d r hf pc ls (gI z :: gI x :: st) h := by
  refine ⟨k.1, fun h0 p e s m args9 below meth c H locs A q1 q2 X hw hl9 hA => ?_⟩
  have hK := X.2.2.2.2.1
  have k1 := k.1
  refine va_mmax X.1 X.2.1 (X.2.2.1.trans hA.1.symm) X.2.2.2.1 (gv_tw_use hK hl args9) (gv_tw_use hK (i := 490) (by decide +kernel) args9) (gv_tw_use hK (i := 86) (by decide +kernel) args9) (gv_tw_use hK (i := 491) (by decide +kernel) args9) (by show 1 ≤ d + 8; omega) ?_ (by show _ ≤ hf.2.1.1 - h0.2.1.1; omega) (by show _ ≤ hf.2.1.2 - h0.2.1.2; omega) hd (k.2 h0 p e s m args9 below meth c H locs A q1 q2 X hw hl9 hA)
  show ((st.map (gv_v G.2.1)).map fun v => v.category).sum + 13 ≤ 64 * d + 200
  rw [gv_cs_sum]
  omega
theorem gv_mi {x9 : Nat} (hd : decode y.2.1 pc = .ok (.invokestatic x9, 3)) (hl : gv_tw wp (.methodLink y.1.cls x9 Lib.Math.min.name) = true) (hcat : gv_cs st ≤ 100) (k : gv_go G y d r hf (pc + 3) ls (gI (jmin x z) :: st) h) : gv_go G y d r hf pc ls (gI z :: gI x :: st) h := by
  refine ⟨k.1, fun h0 p e s m args9 below meth c H locs A q1 q2 X hw hl9 hA => ?_⟩
  have hK := X.2.2.2.2.1
  have k1 := k.1
  refine va_mmin X.1 X.2.1 (X.2.2.1.trans hA.1.symm) X.2.2.2.1 (gv_tw_use hK hl args9) (gv_tw_use hK (i := 679) (by decide +kernel) args9) (gv_tw_use hK (i := 86) (by decide +kernel) args9) (gv_tw_use hK (i := 680) (by decide +kernel) args9) (by show 1 ≤ d + 8; omega) ?_ (by show _ ≤ hf.2.1.1 - h0.2.1.1; omega) (by show _ ≤ hf.2.1.2 - h0.2.1.2; omega) hd (k.2 h0 p e s m args9 below meth c H locs A q1 q2 X hw hl9 hA)
  show ((st.map (gv_v G.2.1)).map fun v => v.category).sum + 13 ≤ 64 * d + 200
  rw [gv_cs_sum]
  omega
theorem t_jbit : gv_ev G (d + 0) M_J_jbit [gI x] h (.inl (some (gI (jbit x)))) h := by
  refine gv_E (ls := [some (gI x)]) (by decide) (fun h => by cases h) (Nat.le_of_ble_eq_true rfl) rfl ?_
  refine gv_B ok_J_jbit 4 rfl ?_
  refine gv_ldw (wp := 434) (x9 := 265) (v := 1431655765) (by decide +kernel) (by decide +kernel) ?_
  refine gv_B ok_J_jbit 4 rfl ?_
  refine gv_ldw (wp := 435) (x9 := 266) (v := 858993459) (by decide +kernel) (by decide +kernel) ?_
  refine gv_B ok_J_jbit 4 rfl ?_
  refine gv_ldw (wp := 435) (x9 := 266) (v := 858993459) (by decide +kernel) (by decide +kernel) ?_
  refine gv_B ok_J_jbit 8 rfl ?_
  refine gv_ldw (wp := 436) (x9 := 267) (v := 252645135) (by decide +kernel) (by decide +kernel) ?_
  refine gv_B ok_J_jbit 17 rfl ?_
  exact gv_Ri ok_J_jbit rfl rfl
end JDA
end
section
/-! methods as functions of the numbers (written by wip/tools/genf.py, mkf.py) -/
section FNA
variable {G : gv_G} {d n g cap : Nat} {acc : Nat × Nat}
def f_GE_argumentsOf (x0 : Int32) (μ : Mu) : Option (Int32) :=
  (if ((x0 &&& 7) - 2) < 0 then
  some (0)
  else
  (if 3 < ((x0 &&& 7) - 2) then
  some (0)
  else
  some (((x0 &&& 7) - 2))))
theorem t_GE_argumentsOf {x0 : Int32} {μ : Mu} {r : Int32} (h : f_GE_argumentsOf x0 μ = some (r)) : gv_ev G (d + 0) M_GE_argumentsOf [gI x0] (hp n acc g cap μ) (.inl (some (gI r))) (hp n acc g cap μ) := by
  unfold f_GE_argumentsOf at h
  refine gv_E (ls := [some (gI x0), none]) (by decide) (fun h => by cases h) (Nat.le_of_ble_eq_true rfl) rfl ?_
  refine gv_B ok_GE_argumentsOf 8 rfl ?_
  by_cases c1 : ((x0 &&& 7) - 2) < 0
  · rw [if_pos c1] at h
    refine gv_brT c1 ?_
    refine gv_B ok_GE_argumentsOf 1 rfl ?_
    cases h
    exact gv_Ri ok_GE_argumentsOf rfl rfl
  · rw [if_neg c1] at h
    refine gv_brF c1 ?_
    refine gv_B ok_GE_argumentsOf 3 rfl ?_
    by_cases c2 : 3 < ((x0 &&& 7) - 2)
    · rw [if_pos c2] at h
      refine gv_brT c2 ?_
      refine gv_B ok_GE_argumentsOf 1 rfl ?_
      cases h
      exact gv_Ri ok_GE_argumentsOf rfl rfl
    · rw [if_neg c2] at h
      refine gv_brF c2 ?_
      refine gv_B ok_GE_argumentsOf 2 rfl ?_
      cases h
      exact gv_Ri ok_GE_argumentsOf rfl rfl
def f_GE_isQuestion_4 (k1 : Int32) : Nat → Int32 → Int32 → Mu → Option (Int32)
  | 0, _, _, _ => none
  | f + 1, y2, y3, μ =>
    (if k1 ≤ y3 then
    (if k1 ≤ 0 then
    some (0)
    else
    (if ¬ y2 = 0 then
    some (0)
    else
    some (1)))
    else
    (b1 (rd (μ 2) 30 y3) fun v4 =>
    b1 (if ¬ y2 = 0 then
    (if (v4 &&& 7) = 6 then
    some ((0 : Int32))
    else
    some ((1 : Int32)))
    else
    (if (v4 &&& 7) < 2 then
    some ((0 : Int32))
    else
    some ((1 : Int32)))) fun v6 =>
    if ¬ v6 = 0 then
    (b1 (rd (μ 2) 30 y3) fun v13 =>
    b1 (f_GE_argumentsOf v13 μ) fun v16 =>
    f_GE_isQuestion_4 k1 f ((jmax 0 (y2 - 1)) + v16) (y3 + 1) μ)
    else
    some (0)))
def f_GE_isQuestion (x0 : Int32) (μ : Mu) : Option (Int32) :=
  f_GE_isQuestion_4 x0 fu 0 0 μ
theorem t_GE_isQuestion_4 {k1 : Int32} (fl : Nat) : ∀ {y2 : Int32} {y3 : Int32} {μ : Mu} {r : Int32}, f_GE_isQuestion_4 k1 fl y2 y3 μ = some (r) → gv_go G M_GE_isQuestion (d + 1) (.inl (some (gI r))) (hp n acc g cap μ) 4 [some (gR 2), some (gI k1), some (gI y2), some (gI y3), none, none] [] (hp n acc g cap μ) := by
  induction fl with
  | zero => intro _ _ _ _ h; cases h
  | succ f ih =>
    intro y2 y3 μ r h
    unfold f_GE_isQuestion_4 at h
    refine gv_B ok_GE_isQuestion 3 rfl ?_
    by_cases c1 : k1 ≤ y3
    · rw [if_pos c1] at h
      refine gv_brT c1 ?_
      refine gv_B ok_GE_isQuestion 2 rfl ?_
      by_cases c2 : k1 ≤ 0
      · rw [if_pos c2] at h
        refine gv_brT c2 ?_
        refine gv_B ok_GE_isQuestion 1 rfl ?_
        cases h
        exact gv_Rz ok_GE_isQuestion rfl rfl (by decide)
      · rw [if_neg c2] at h
        refine gv_brF c2 ?_
        refine gv_B ok_GE_isQuestion 2 rfl ?_
        by_cases c3 : ¬ y2 = 0
        · rw [if_pos c3] at h
          refine gv_brT c3 ?_
          refine gv_B ok_GE_isQuestion 1 rfl ?_
          cases h
          exact gv_Rz ok_GE_isQuestion rfl rfl (by decide)
        · rw [if_neg c3] at h
          refine gv_brF c3 ?_
          refine gv_B ok_GE_isQuestion 2 rfl ?_
          cases h
          exact gv_Rz ok_GE_isQuestion rfl rfl (by decide)
    · rw [if_neg c1] at h
      refine gv_brF c1 ?_
      refine gv_B ok_GE_isQuestion 2 rfl ?_
      obtain ⟨v4, e5, h⟩ := b1_e h
      refine hp_rd ok_GE_isQuestion rfl rfl e5 ?_
      refine gv_B ok_GE_isQuestion 5 rfl ?_
      obtain ⟨v6, e7, h⟩ := b1_e h
      have K8 : gv_go G M_GE_isQuestion (d + 1) (.inl (some (gI r))) (hp n acc g cap μ) 47 [some (gR 2), some (gI k1), some (gI y2), some (gI y3), none, none] [gI v6] (hp n acc g cap μ) := by
        refine gv_B ok_GE_isQuestion 3 rfl ?_
        by_cases c12 : ¬ v6 = 0
        · rw [if_pos c12] at h
          refine gv_brT c12 ?_
          refine gv_B ok_GE_isQuestion 4 rfl ?_
          refine gv_mx (wp := 646) (x9 := 115) (by decide +kernel) (by decide +kernel) (Nat.le_of_ble_eq_true rfl) ?_
          refine gv_B ok_GE_isQuestion 2 rfl ?_
          obtain ⟨v13, e14, h⟩ := b1_e h
          refine hp_rd ok_GE_isQuestion rfl rfl e14 ?_
          obtain ⟨v16, e15, h⟩ := b1_e h
          refine gv_Sc ok_GE_isQuestion rfl mk_GE_argumentsOf rfl (t_GE_argumentsOf (d := d) e15) rfl rfl (Nat.le_of_ble_eq_true rfl)  ?_
          refine gv_B ok_GE_isQuestion 4 rfl ?_
          exact gv_fk (ih h) ⟨rfl, ⟨rfl, ⟨rfl, ⟨rfl, trivial⟩⟩⟩⟩
        · rw [if_neg c12] at h
          refine gv_brF c12 ?_
          refine gv_B ok_GE_isQuestion 1 rfl ?_
          cases h
          exact gv_Rz ok_GE_isQuestion rfl rfl (by decide)
      clear h
      have h := e7
      clear e7
      by_cases c9 : ¬ y2 = 0
      · rw [if_pos c9] at h
        refine gv_brT c9 ?_
        refine gv_B ok_GE_isQuestion 3 rfl ?_
        by_cases c10 : (v4 &&& 7) = 6
        · rw [if_pos c10] at h
          refine gv_brT c10 ?_
          refine gv_B ok_GE_isQuestion 1 rfl ?_
          cases h
          exact gv_fk K8 ⟨rfl, ⟨rfl, ⟨rfl, ⟨rfl, trivial⟩⟩⟩⟩
        · rw [if_neg c10] at h
          refine gv_brF c10 ?_
          refine gv_B ok_GE_isQuestion 2 rfl ?_
          cases h
          exact gv_fk K8 ⟨rfl, ⟨rfl, ⟨rfl, ⟨rfl, trivial⟩⟩⟩⟩
      · rw [if_neg c9] at h
        refine gv_brF c9 ?_
        refine gv_B ok_GE_isQuestion 3 rfl ?_
        by_cases c11 : (v4 &&& 7) < 2
        · rw [if_pos c11] at h
          refine gv_brT c11 ?_
          refine gv_B ok_GE_isQuestion 2 rfl ?_
          cases h
          exact gv_fk K8 ⟨rfl, ⟨rfl, ⟨rfl, ⟨rfl, trivial⟩⟩⟩⟩
        · rw [if_neg c11] at h
          refine gv_brF c11 ?_
          refine gv_B ok_GE_isQuestion 2 rfl ?_
          cases h
          exact gv_fk K8 ⟨rfl, ⟨rfl, ⟨rfl, ⟨rfl, trivial⟩⟩⟩⟩
theorem t_GE_isQuestion {x0 : Int32} {μ : Mu} {r : Int32} (h : f_GE_isQuestion x0 μ = some (r)) : gv_ev G (d + 1) M_GE_isQuestion [gR 2, gI x0] (hp n acc g cap μ) (.inl (some (gI r))) (hp n acc g cap μ) := by
  unfold f_GE_isQuestion at h
  refine gv_E (ls := [some (gR 2), some (gI x0), none, none, none, none]) (by decide) (fun h => by cases h) (Nat.le_of_ble_eq_true rfl) rfl ?_
  refine gv_B ok_GE_isQuestion 4 rfl ?_
  exact t_GE_isQuestion_4 _ h
def f_GE_isRule (x0 : Int32) (μ : Mu) : Option (Int32) :=
  (b1 (f_GE_isQuestion x0 μ) fun v2 =>
  if v2 = 0 then
  some (0)
  else
  (b1 (rd (μ 2) 30 0) fun v4 =>
  if (v4 &&& 7) = 6 then
  some (0)
  else
  (b1 (rd (μ 2) 30 0) fun v7 =>
  if 24 ≤ (v7 >>> ((3 : Int32) &&& 31)) then
  some (0)
  else
  some (1))))
theorem t_GE_isRule {x0 : Int32} {μ : Mu} {r : Int32} (h : f_GE_isRule x0 μ = some (r)) : gv_ev G (d + 2) M_GE_isRule [gR 2, gI x0] (hp n acc g cap μ) (.inl (some (gI r))) (hp n acc g cap μ) := by
  unfold f_GE_isRule at h
  refine gv_E (ls := [some (gR 2), some (gI x0)]) (by decide) (fun h => by cases h) (Nat.le_of_ble_eq_true rfl) rfl ?_
  refine gv_B ok_GE_isRule 2 rfl ?_
  obtain ⟨v2, e1, h⟩ := b1_e h
  refine gv_Sc ok_GE_isRule rfl mk_GE_isQuestion rfl (t_GE_isQuestion (d := d) e1) rfl rfl (Nat.le_of_ble_eq_true rfl)  ?_
  refine gv_B ok_GE_isRule 1 rfl ?_
  by_cases c3 : v2 = 0
  · rw [if_pos c3] at h
    refine gv_brT c3 ?_
    refine gv_B ok_GE_isRule 1 rfl ?_
    cases h
    exact gv_Rz ok_GE_isRule rfl rfl (by decide)
  · rw [if_neg c3] at h
    refine gv_brF c3 ?_
    refine gv_B ok_GE_isRule 2 rfl ?_
    obtain ⟨v4, e5, h⟩ := b1_e h
    refine hp_rd ok_GE_isRule rfl rfl e5 ?_
    refine gv_B ok_GE_isRule 4 rfl ?_
    by_cases c6 : (v4 &&& 7) = 6
    · rw [if_pos c6] at h
      refine gv_brT c6 ?_
      refine gv_B ok_GE_isRule 1 rfl ?_
      cases h
      exact gv_Rz ok_GE_isRule rfl rfl (by decide)
    · rw [if_neg c6] at h
      refine gv_brF c6 ?_
      refine gv_B ok_GE_isRule 2 rfl ?_
      obtain ⟨v7, e8, h⟩ := b1_e h
      refine hp_rd ok_GE_isRule rfl rfl e8 ?_
      refine gv_B ok_GE_isRule 4 rfl ?_
      by_cases c9 : 24 ≤ (v7 >>> ((3 : Int32) &&& 31))
      · rw [if_pos c9] at h
        refine gv_brT c9 ?_
        refine gv_B ok_GE_isRule 1 rfl ?_
        cases h
        exact gv_Rz ok_GE_isRule rfl rfl (by decide)
      · rw [if_neg c9] at h
        refine gv_brF c9 ?_
        refine gv_B ok_GE_isRule 2 rfl ?_
        cases h
        exact gv_Rz ok_GE_isRule rfl rfl (by decide)
def f_CL_read_17 (q : Nat) (k2 : Int32) : Nat → Int32 → Mu → Option (Mu)
  | 0, _, _ => none
  | f + 1, y3, μ =>
    (if k2 ≤ y3 then
    some (μ)
    else
    (b1 (rd (μ 2) 30 y3) fun v2 =>
    b1 (wr μ (q + 1) 30 y3 v2) fun μ4 =>
    b1 (rd (μ4 2) 30 y3) fun v6 =>
    b1 (f_GE_argumentsOf v6 μ4) fun v9 =>
    b1 (if v9 ≤ 0 then
    some (μ4)
    else
    some ((sI μ4 q 3 ((μ4 q 3) + (1 + v9))))) fun μ10 =>
    b1 (rd (μ10 2) 30 y3) fun v14 =>
    b1 (if ¬ (v14 &&& 7) = 0 then
    some (μ10)
    else
    (b1 (rd (μ10 2) 30 y3) fun v20 =>
    some ((sI μ10 q 2 ((μ10 q 2) ||| (1 <<< ((v20 >>> ((3 : Int32) &&& 31)) &&& 31))))))) fun μ16 =>
    f_CL_read_17 q k2 f (y3 + 1) μ16))
def f_CL_read (q : Nat) (x0 : Int32) (μ : Mu) : Option (Mu) :=
  (if clPb q = true then
  (b1 (f_CL_read_17 q x0 fu 0 (sI (sI (sI μ q 1 x0) q 2 0) q 3 0)) fun μ22 =>
  some ((sI μ22 q 3 ((μ22 q 3) + (jbit (μ22 q 2))))))
  else none)
theorem t_CL_read_17 {r : gv_O} {hf : gv_H} {q : Nat} {k2 : Int32} (hq : clPb q = true) (fl : Nat) : ∀ {y3 : Int32} {μ : Mu} {μz : Mu}, f_CL_read_17 q k2 fl y3 μ = some (μz) → gv_go G M_CL_read (d + 1) r hf 88 [some (gR q), none, none, none, none] [] (hp n acc g cap μz) → gv_go G M_CL_read (d + 1) r hf 17 [some (gR q), some (gR 2), some (gI k2), some (gI y3), none] [] (hp n acc g cap μ) := by
  induction fl with
  | zero => intro _ _ _ h _; cases h
  | succ f ih =>
    intro y3 μ μz h KJ
    unfold f_CL_read_17 at h
    refine gv_B ok_CL_read 3 rfl ?_
    by_cases c1 : k2 ≤ y3
    · rw [if_pos c1] at h
      refine gv_brT c1 ?_
      cases h
      exact gv_fk KJ ⟨rfl, trivial⟩
    · rw [if_neg c1] at h
      refine gv_brF c1 ?_
      refine gv_B ok_CL_read 1 rfl ?_
      refine gv_gf ok_CL_read rfl (tc_o hq _ _ _) rfl ?_
      refine gv_B ok_CL_read 3 rfl ?_
      obtain ⟨v2, e3, h⟩ := b1_e h
      refine hp_rd ok_CL_read rfl rfl e3 ?_
      obtain ⟨μ4, e5, h⟩ := b1_e h
      refine hp_wr ok_CL_read rfl rfl (tc_r hq _ _ _) (tc_r hq _ _ _) e5 ?_
      refine gv_B ok_CL_read 2 rfl ?_
      obtain ⟨v6, e7, h⟩ := b1_e h
      refine hp_rd ok_CL_read rfl rfl e7 ?_
      obtain ⟨v9, e8, h⟩ := b1_e h
      refine gv_Sc ok_CL_read rfl mk_GE_argumentsOf rfl (t_GE_argumentsOf (d := d) e8) rfl rfl (Nat.le_of_ble_eq_true rfl)  ?_
      refine gv_B ok_CL_read 3 rfl ?_
      obtain ⟨μ10, e11, h⟩ := b1_e h
      have K12 : gv_go G M_CL_read (d + 1) r hf 57 [some (gR q), some (gR 2), some (gI k2), some (gI y3), none] [] (hp n acc g cap μ10) := by
        refine gv_B ok_CL_read 2 rfl ?_
        obtain ⟨v14, e15, h⟩ := b1_e h
        refine hp_rd ok_CL_read rfl rfl e15 ?_
        refine gv_B ok_CL_read 3 rfl ?_
        obtain ⟨μ16, e17, h⟩ := b1_e h
        have K18 : gv_go G M_CL_read (d + 1) r hf 82 [some (gR q), some (gR 2), some (gI k2), some (gI y3), none] [] (hp n acc g cap μ16) := by
          refine gv_B ok_CL_read 2 rfl ?_
          exact ih h KJ
        clear h
        have h := e17
        clear e17
        by_cases c19 : ¬ (v14 &&& 7) = 0
        · rw [if_pos c19] at h
          refine gv_brT c19 ?_
          cases h
          exact K18
        · rw [if_neg c19] at h
          refine gv_brF c19 ?_
          refine gv_B ok_CL_read 2 rfl ?_
          refine gv_gf ok_CL_read rfl (tc_o hq _ _ _) rfl ?_
          refine gv_B ok_CL_read 3 rfl ?_
          obtain ⟨v20, e21, h⟩ := b1_e h
          refine hp_rd ok_CL_read rfl rfl e21 ?_
          refine gv_B ok_CL_read 4 rfl ?_
          refine hp_pf ok_CL_read rfl (tc_0 hq) (tc_o hq _ _ _) (tc_o hq _ _ _) rfl (Nat.le_of_ble_eq_true rfl) rfl ?_
          cases h
          exact K18
      clear h
      have h := e11
      clear e11
      by_cases c13 : v9 ≤ 0
      · rw [if_pos c13] at h
        refine gv_brT c13 ?_
        cases h
        exact gv_fk K12 ⟨rfl, ⟨rfl, ⟨rfl, ⟨rfl, trivial⟩⟩⟩⟩
      · rw [if_neg c13] at h
        refine gv_brF c13 ?_
        refine gv_B ok_CL_read 2 rfl ?_
        refine gv_gf ok_CL_read rfl (tc_o hq _ _ _) rfl ?_
        refine gv_B ok_CL_read 4 rfl ?_
        refine hp_pf ok_CL_read rfl (tc_0 hq) (tc_o hq _ _ _) (tc_o hq _ _ _) rfl (Nat.le_of_ble_eq_true rfl) rfl ?_
        cases h
        exact gv_fk K12 ⟨rfl, ⟨rfl, ⟨rfl, ⟨rfl, trivial⟩⟩⟩⟩
theorem t_CL_read {q : Nat} {x0 : Int32} {μ : Mu} {μr : Mu} (h : f_CL_read q x0 μ = some (μr)) : gv_ev G (d + 1) M_CL_read [gR q, gR 2, gI x0] (hp n acc g cap μ) (.inl none) (hp n acc g cap μr) := by
  unfold f_CL_read at h
  by_cases hq : clPb q = true
  rotate_left
  · rw [if_neg hq] at h
    cases h
  rw [if_pos hq] at h
  refine gv_E (ls := [some (gR q), some (gR 2), some (gI x0), none, none]) (by decide) (fun h => by cases h) (Nat.le_of_ble_eq_true rfl) rfl ?_
  refine gv_B ok_CL_read 2 rfl ?_
  refine hp_pf ok_CL_read rfl (tc_0 hq) (tc_o hq _ _ _) (tc_o hq _ _ _) rfl (Nat.le_of_ble_eq_true rfl) rfl ?_
  refine gv_B ok_CL_read 2 rfl ?_
  refine hp_pf ok_CL_read rfl (tc_0 hq) (tc_o hq _ _ _) (tc_o hq _ _ _) rfl (Nat.le_of_ble_eq_true rfl) rfl ?_
  refine gv_B ok_CL_read 2 rfl ?_
  refine hp_pf ok_CL_read rfl (tc_0 hq) (tc_o hq _ _ _) (tc_o hq _ _ _) rfl (Nat.le_of_ble_eq_true rfl) rfl ?_
  refine gv_B ok_CL_read 2 rfl ?_
  obtain ⟨μ22, e23, h⟩ := b1_e h
  have K24 : gv_go G M_CL_read (d + 1) (.inl none) (hp n acc g cap μr) 88 [some (gR q), none, none, none, none] [] (hp n acc g cap μ22) := by
    refine gv_B ok_CL_read 2 rfl ?_
    refine gv_gf ok_CL_read rfl (tc_o hq _ _ _) rfl ?_
    refine gv_B ok_CL_read 1 rfl ?_
    refine gv_gf ok_CL_read rfl (tc_o hq _ _ _) rfl ?_
    refine gv_Sx (wp := 657) (x9 := 29) (by decide +kernel) (by decide +kernel) mk_J_jbit (t_jbit (d := d)) rfl rfl (Nat.le_of_ble_eq_true rfl) ?_
    refine gv_B ok_CL_read 1 rfl ?_
    refine hp_pf ok_CL_read rfl (tc_0 hq) (tc_o hq _ _ _) (tc_o hq _ _ _) rfl (Nat.le_of_ble_eq_true rfl) rfl ?_
    cases h
    exact gv_Rv ok_CL_read rfl rfl
  exact t_CL_read_17 hq _ e23 K24
def f_RB_add (x0 : Int32) (μ : Mu) : Option (Mu) :=
  (b1 (clA (μ 3 1)) fun q =>
  b1 (f_CL_read q x0 μ) fun μ2 =>
  some ((sI μ2 3 1 ((μ2 3 1) + 1))))
theorem t_RB_add {x0 : Int32} {μ : Mu} {μr : Mu} (h : f_RB_add x0 μ = some (μr)) : gv_ev G (d + 2) M_RB_add [gR 3, gR 2, gI x0] (hp n acc g cap μ) (.inl none) (hp n acc g cap μr) := by
  unfold f_RB_add at h
  refine gv_E (ls := [some (gR 3), some (gR 2), some (gI x0)]) (by decide) (fun h => by cases h) (Nat.le_of_ble_eq_true rfl) rfl ?_
  refine gv_B ok_RB_add 4 rfl ?_
  obtain ⟨q, e3, h⟩ := b1_e h
  have hq := (clA_e e3).2.2
  refine hp_cl ok_RB_add rfl e3 ?_
  refine gv_B ok_RB_add 2 rfl ?_
  obtain ⟨μ2, e1, h⟩ := b1_e h
  refine gv_Vc ok_RB_add rfl mk_CL_read rfl (t_CL_read (d := d) e1) rfl rfl (Nat.le_of_ble_eq_true rfl) (tc_o hq _ _ _) rfl rfl ?_
  refine gv_B ok_RB_add 5 rfl ?_
  refine hp_pf ok_RB_add rfl rfl rfl rfl rfl (Nat.le_of_ble_eq_true rfl) rfl ?_
  cases h
  exact gv_Rv ok_RB_add rfl rfl
def f_RB_firstFor_2 (k1 : Int32) : Nat → Int32 → Mu → Option (Int32)
  | 0, _, _ => none
  | f + 1, y3, μ =>
    (if (μ 3 1) ≤ y3 then
    some ((-1))
    else
    (b1 (clA y3) fun q =>
    b1 (rd (μ (q + 1)) 30 0) fun v2 =>
    if ¬ v2 = k1 then
    f_RB_firstFor_2 k1 f (y3 + 1) μ
    else
    some (y3)))
def f_RB_firstFor (x0 : Int32) (x1 : Int32) (μ : Mu) : Option (Int32) :=
  f_RB_firstFor_2 x0 fu x1 μ
theorem t_RB_firstFor_2 {k1 : Int32} (fl : Nat) : ∀ {y3 : Int32} {μ : Mu} {r : Int32}, f_RB_firstFor_2 k1 fl y3 μ = some (r) → gv_go G M_RB_firstFor (d + 0) (.inl (some (gI r))) (hp n acc g cap μ) 2 [some (gR 3), some (gI k1), none, some (gI y3)] [] (hp n acc g cap μ) := by
  induction fl with
  | zero => intro _ _ _ h; cases h
  | succ f ih =>
    intro y3 μ r h
    unfold f_RB_firstFor_2 at h
    refine gv_B ok_RB_firstFor 4 rfl ?_
    by_cases c1 : (μ 3 1) ≤ y3
    · rw [if_pos c1] at h
      refine gv_brT c1 ?_
      refine gv_B ok_RB_firstFor 1 rfl ?_
      cases h
      exact gv_Ri ok_RB_firstFor rfl rfl
    · rw [if_neg c1] at h
      refine gv_brF c1 ?_
      refine gv_B ok_RB_firstFor 3 rfl ?_
      obtain ⟨q, e5, h⟩ := b1_e h
      have hq := (clA_e e5).2.2
      refine hp_cl ok_RB_firstFor rfl e5 ?_
      refine gv_gf ok_RB_firstFor rfl (tc_o hq _ _ _) rfl ?_
      refine gv_B ok_RB_firstFor 1 rfl ?_
      obtain ⟨v2, e3, h⟩ := b1_e h
      refine hp_rd ok_RB_firstFor rfl (tc_r hq _ _ _) e3 ?_
      refine gv_B ok_RB_firstFor 2 rfl ?_
      by_cases c4 : ¬ v2 = k1
      · rw [if_pos c4] at h
        refine gv_brT c4 ?_
        refine gv_B ok_RB_firstFor 2 rfl ?_
        exact ih h
      · rw [if_neg c4] at h
        refine gv_brF c4 ?_
        refine gv_B ok_RB_firstFor 1 rfl ?_
        cases h
        exact gv_Ri ok_RB_firstFor rfl rfl
theorem t_RB_firstFor {x0 : Int32} {x1 : Int32} {μ : Mu} {r : Int32} (h : f_RB_firstFor x0 x1 μ = some (r)) : gv_ev G (d + 0) M_RB_firstFor [gR 3, gI x0, gI x1] (hp n acc g cap μ) (.inl (some (gI r))) (hp n acc g cap μ) := by
  unfold f_RB_firstFor at h
  refine gv_E (ls := [some (gR 3), some (gI x0), some (gI x1), none]) (by decide) (fun h => by cases h) (Nat.le_of_ble_eq_true rfl) rfl ?_
  refine gv_B ok_RB_firstFor 2 rfl ?_
  exact gv_fk (t_RB_firstFor_2 _ h) ⟨rfl, ⟨rfl, ⟨rfl, trivial⟩⟩⟩
end FNA
end
