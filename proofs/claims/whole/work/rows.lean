section
-- ===== PART A: goes FIRST, ahead of the names: the tables' words, and 'selects' of the private methods out of them =====
/-- a private method of a class that the tables say can be made, by its rows of tables_1 -/
def lw_okq (q : MethodName × Nat) : Prop := (q.1.cls ≠ "java/lang/invoke/MethodHandle" ∧ q.1.cls ≠ "java/lang/invoke/VarHandle") ∧ Cond.instantiable q.1.cls q.2 ∈ tables_1 ∧ Cond.privateMethod q.1 ∈ tables_1 ∧ Cond.instanceMethod q.1 ∈ tables_1
theorem lw_p0 : lw_okq (⟨"GoalEngine$Collector", "dropNeedlessTrail", "()V"⟩, 6) := ⟨⟨by decide +kernel, by decide +kernel⟩, List.mem_of_getElem? (i := 244) (by decide +kernel), List.mem_of_getElem? (i := 375) (by decide +kernel), List.mem_of_getElem? (i := 376) (by decide +kernel)⟩
theorem lw_p1 : lw_okq (⟨"GoalEngine$Collector", "traceLive", "(II)V"⟩, 6) := ⟨⟨by decide +kernel, by decide +kernel⟩, List.mem_of_getElem? (i := 244) (by decide +kernel), List.mem_of_getElem? (i := 379) (by decide +kernel), List.mem_of_getElem? (i := 380) (by decide +kernel)⟩
theorem lw_p2 : lw_okq (⟨"GoalEngine$Tracer", "reach", "(I)V"⟩, 4) := ⟨⟨by decide +kernel, by decide +kernel⟩, List.mem_of_getElem? (i := 130) (by decide +kernel), List.mem_of_getElem? (i := 391) (by decide +kernel), List.mem_of_getElem? (i := 392) (by decide +kernel)⟩
theorem lw_p3 : lw_okq (⟨"GoalEngine$Collector", "traceGoals", "(I)V"⟩, 6) := ⟨⟨by decide +kernel, by decide +kernel⟩, List.mem_of_getElem? (i := 244) (by decide +kernel), List.mem_of_getElem? (i := 398) (by decide +kernel), List.mem_of_getElem? (i := 399) (by decide +kernel)⟩
theorem lw_p4 : lw_okq (⟨"GoalEngine$Collector", "findNewPlaces", "()V"⟩, 6) := ⟨⟨by decide +kernel, by decide +kernel⟩, List.mem_of_getElem? (i := 244) (by decide +kernel), List.mem_of_getElem? (i := 402) (by decide +kernel), List.mem_of_getElem? (i := 403) (by decide +kernel)⟩
theorem lw_p5 : lw_okq (⟨"GoalEngine$Collector", "moveCells", "()V"⟩, 6) := ⟨⟨by decide +kernel, by decide +kernel⟩, List.mem_of_getElem? (i := 244) (by decide +kernel), List.mem_of_getElem? (i := 411) (by decide +kernel), List.mem_of_getElem? (i := 412) (by decide +kernel)⟩
theorem lw_p6 : lw_okq (⟨"GoalEngine$Collector", "moved", "(I)I"⟩, 6) := ⟨⟨by decide +kernel, by decide +kernel⟩, List.mem_of_getElem? (i := 244) (by decide +kernel), List.mem_of_getElem? (i := 415) (by decide +kernel), List.mem_of_getElem? (i := 416) (by decide +kernel)⟩
theorem lw_p7 : lw_okq (⟨"GoalEngine$Collector", "moveGoals", "(I)V"⟩, 6) := ⟨⟨by decide +kernel, by decide +kernel⟩, List.mem_of_getElem? (i := 244) (by decide +kernel), List.mem_of_getElem? (i := 426) (by decide +kernel), List.mem_of_getElem? (i := 427) (by decide +kernel)⟩
theorem lw_p8 : lw_okq (⟨"GoalEngine$Collector", "moveMarks", "()V"⟩, 6) := ⟨⟨by decide +kernel, by decide +kernel⟩, List.mem_of_getElem? (i := 244) (by decide +kernel), List.mem_of_getElem? (i := 430) (by decide +kernel), List.mem_of_getElem? (i := 431) (by decide +kernel)⟩
theorem lw_p9 : lw_okq (⟨"GoalEngine$Answer", "writeTerm", "(I)V"⟩, 7) := ⟨⟨by decide +kernel, by decide +kernel⟩, List.mem_of_getElem? (i := 270) (by decide +kernel), List.mem_of_getElem? (i := 446) (by decide +kernel), List.mem_of_getElem? (i := 447) (by decide +kernel)⟩
theorem lw_p10 : lw_okq (⟨"GoalEngine$Answer", "wordOf", "(I)I"⟩, 7) := ⟨⟨by decide +kernel, by decide +kernel⟩, List.mem_of_getElem? (i := 270) (by decide +kernel), List.mem_of_getElem? (i := 454) (by decide +kernel), List.mem_of_getElem? (i := 455) (by decide +kernel)⟩
theorem lw_p11 : lw_okq (⟨"GoalEngine$Answer", "openArguments", "(I)V"⟩, 7) := ⟨⟨by decide +kernel, by decide +kernel⟩, List.mem_of_getElem? (i := 270) (by decide +kernel), List.mem_of_getElem? (i := 462) (by decide +kernel), List.mem_of_getElem? (i := 463) (by decide +kernel)⟩
theorem lw_p12 : lw_okq (⟨"java/lang/Throwable", "fillInStackTrace", "(I)Ljava/lang/Throwable;"⟩, 6) := ⟨⟨by decide +kernel, by decide +kernel⟩, List.mem_of_getElem? (i := 523) (by decide +kernel), List.mem_of_getElem? (i := 521) (by decide +kernel), List.mem_of_getElem? (i := 522) (by decide +kernel)⟩
theorem lw_p13 : lw_okq (⟨"GoalEngine", "takeTyped", "()I"⟩, 4) := ⟨⟨by decide +kernel, by decide +kernel⟩, List.mem_of_getElem? (i := 27) (by decide +kernel), List.mem_of_getElem? (i := 570) (by decide +kernel), List.mem_of_getElem? (i := 571) (by decide +kernel)⟩
theorem lw_p14 : lw_okq (⟨"GoalEngine$Cells", "takeVariables", "(I)V"⟩, 9) := ⟨⟨by decide +kernel, by decide +kernel⟩, List.mem_of_getElem? (i := 85) (by decide +kernel), List.mem_of_getElem? (i := 619) (by decide +kernel), List.mem_of_getElem? (i := 620) (by decide +kernel)⟩
theorem lw_p15 : lw_okq (⟨"GoalEngine$Cells", "termOf", "(I)I"⟩, 9) := ⟨⟨by decide +kernel, by decide +kernel⟩, List.mem_of_getElem? (i := 85) (by decide +kernel), List.mem_of_getElem? (i := 623) (by decide +kernel), List.mem_of_getElem? (i := 624) (by decide +kernel)⟩
def lw_privs_1 : List (MethodName × Nat) := [(⟨"GoalEngine$Collector", "dropNeedlessTrail", "()V"⟩, 6), (⟨"GoalEngine$Collector", "traceLive", "(II)V"⟩, 6), (⟨"GoalEngine$Tracer", "reach", "(I)V"⟩, 4), (⟨"GoalEngine$Collector", "traceGoals", "(I)V"⟩, 6), (⟨"GoalEngine$Collector", "findNewPlaces", "()V"⟩, 6), (⟨"GoalEngine$Collector", "moveCells", "()V"⟩, 6), (⟨"GoalEngine$Collector", "moved", "(I)I"⟩, 6), (⟨"GoalEngine$Collector", "moveGoals", "(I)V"⟩, 6), (⟨"GoalEngine$Collector", "moveMarks", "()V"⟩, 6), (⟨"GoalEngine$Answer", "writeTerm", "(I)V"⟩, 7), (⟨"GoalEngine$Answer", "wordOf", "(I)I"⟩, 7), (⟨"GoalEngine$Answer", "openArguments", "(I)V"⟩, 7), (⟨"java/lang/Throwable", "fillInStackTrace", "(I)Ljava/lang/Throwable;"⟩, 6), (⟨"GoalEngine", "takeTyped", "()I"⟩, 4), (⟨"GoalEngine$Cells", "takeVariables", "(I)V"⟩, 9), (⟨"GoalEngine$Cells", "termOf", "(I)I"⟩, 9)]
theorem lw_r1 : ∀ q ∈ lw_privs_1, lw_okq q := List.forall_mem_cons.mpr ⟨lw_p0, List.forall_mem_cons.mpr ⟨lw_p1, List.forall_mem_cons.mpr ⟨lw_p2, List.forall_mem_cons.mpr ⟨lw_p3, List.forall_mem_cons.mpr ⟨lw_p4, List.forall_mem_cons.mpr ⟨lw_p5, List.forall_mem_cons.mpr ⟨lw_p6, List.forall_mem_cons.mpr ⟨lw_p7, List.forall_mem_cons.mpr ⟨lw_p8, List.forall_mem_cons.mpr ⟨lw_p9, List.forall_mem_cons.mpr ⟨lw_p10, List.forall_mem_cons.mpr ⟨lw_p11, List.forall_mem_cons.mpr ⟨lw_p12, List.forall_mem_cons.mpr ⟨lw_p13, List.forall_mem_cons.mpr ⟨lw_p14, List.forall_mem_cons.mpr ⟨lw_p15, fun _ h => absurd h List.not_mem_nil⟩⟩⟩⟩⟩⟩⟩⟩⟩⟩⟩⟩⟩⟩⟩⟩
theorem lw_p16 : lw_okq (⟨"GoalEngine$Cells", "place", "(I)V"⟩, 9) := ⟨⟨by decide +kernel, by decide +kernel⟩, List.mem_of_getElem? (i := 85) (by decide +kernel), List.mem_of_getElem? (i := 628) (by decide +kernel), List.mem_of_getElem? (i := 629) (by decide +kernel)⟩
theorem lw_p17 : lw_okq (⟨"GoalEngine$Cells", "takeName", "(I)V"⟩, 9) := ⟨⟨by decide +kernel, by decide +kernel⟩, List.mem_of_getElem? (i := 85) (by decide +kernel), List.mem_of_getElem? (i := 632) (by decide +kernel), List.mem_of_getElem? (i := 633) (by decide +kernel)⟩
theorem lw_p18 : lw_okq (⟨"GoalEngine$Search", "bringGoals", "(II)V"⟩, 13) := ⟨⟨by decide +kernel, by decide +kernel⟩, List.mem_of_getElem? (i := 77) (by decide +kernel), List.mem_of_getElem? (i := 636) (by decide +kernel), List.mem_of_getElem? (i := 637) (by decide +kernel)⟩
theorem lw_p19 : lw_okq (⟨"GoalEngine$Goals", "grow", "()V"⟩, 4) := ⟨⟨by decide +kernel, by decide +kernel⟩, List.mem_of_getElem? (i := 185) (by decide +kernel), List.mem_of_getElem? (i := 646) (by decide +kernel), List.mem_of_getElem? (i := 647) (by decide +kernel)⟩
theorem lw_p20 : lw_okq (⟨"GoalEngine$Search", "meet", "(III)I"⟩, 13) := ⟨⟨by decide +kernel, by decide +kernel⟩, List.mem_of_getElem? (i := 77) (by decide +kernel), List.mem_of_getElem? (i := 687) (by decide +kernel), List.mem_of_getElem? (i := 688) (by decide +kernel)⟩
theorem lw_p21 : lw_okq (⟨"GoalEngine$Unifier", "lookAt", "(II)Z"⟩, 5) := ⟨⟨by decide +kernel, by decide +kernel⟩, List.mem_of_getElem? (i := 150) (by decide +kernel), List.mem_of_getElem? (i := 696) (by decide +kernel), List.mem_of_getElem? (i := 697) (by decide +kernel)⟩
theorem lw_p22 : lw_okq (⟨"GoalEngine$Unifier", "bindLater", "(II)V"⟩, 5) := ⟨⟨by decide +kernel, by decide +kernel⟩, List.mem_of_getElem? (i := 150) (by decide +kernel), List.mem_of_getElem? (i := 700) (by decide +kernel), List.mem_of_getElem? (i := 701) (by decide +kernel)⟩
theorem lw_p23 : lw_okq (⟨"GoalEngine$Unifier", "bindUnlessInside", "(II)Z"⟩, 5) := ⟨⟨by decide +kernel, by decide +kernel⟩, List.mem_of_getElem? (i := 150) (by decide +kernel), List.mem_of_getElem? (i := 710) (by decide +kernel), List.mem_of_getElem? (i := 711) (by decide +kernel)⟩
theorem lw_p24 : lw_okq (⟨"GoalEngine$Unifier", "openArguments", "(II)Z"⟩, 5) := ⟨⟨by decide +kernel, by decide +kernel⟩, List.mem_of_getElem? (i := 150) (by decide +kernel), List.mem_of_getElem? (i := 717) (by decide +kernel), List.mem_of_getElem? (i := 718) (by decide +kernel)⟩
theorem lw_p25 : lw_okq (⟨"GoalEngine$Calculator", "resultOf", "(I)J"⟩, 2) := ⟨⟨by decide +kernel, by decide +kernel⟩, List.mem_of_getElem? (i := 172) (by decide +kernel), List.mem_of_getElem? (i := 728) (by decide +kernel), List.mem_of_getElem? (i := 729) (by decide +kernel)⟩
theorem lw_p26 : lw_okq (⟨"GoalEngine$Calculator", "isOperation", "(I)Z"⟩, 2) := ⟨⟨by decide +kernel, by decide +kernel⟩, List.mem_of_getElem? (i := 172) (by decide +kernel), List.mem_of_getElem? (i := 733) (by decide +kernel), List.mem_of_getElem? (i := 734) (by decide +kernel)⟩
theorem lw_p27 : lw_okq (⟨"GoalEngine$Search", "tryRule", "(III)I"⟩, 13) := ⟨⟨by decide +kernel, by decide +kernel⟩, List.mem_of_getElem? (i := 77) (by decide +kernel), List.mem_of_getElem? (i := 754) (by decide +kernel), List.mem_of_getElem? (i := 755) (by decide +kernel)⟩
theorem lw_p28 : lw_okq (⟨"GoalEngine$Search", "hasRoomFor", "(LGoalEngine$Clause;)Z"⟩, 13) := ⟨⟨by decide +kernel, by decide +kernel⟩, List.mem_of_getElem? (i := 77) (by decide +kernel), List.mem_of_getElem? (i := 764) (by decide +kernel), List.mem_of_getElem? (i := 765) (by decide +kernel)⟩
theorem lw_p29 : lw_okq (⟨"GoalEngineModel", "areGoals", "(I)Z"⟩, 50) := ⟨⟨by decide +kernel, by decide +kernel⟩, List.mem_of_getElem? (i := 872) (by decide +kernel), List.mem_of_getElem? (i := 1041) (by decide +kernel), List.mem_of_getElem? (i := 1042) (by decide +kernel)⟩
theorem lw_p30 : lw_okq (⟨"GoalEngineModel", "behind", "(I)I"⟩, 50) := ⟨⟨by decide +kernel, by decide +kernel⟩, List.mem_of_getElem? (i := 872) (by decide +kernel), List.mem_of_getElem? (i := 1045) (by decide +kernel), List.mem_of_getElem? (i := 1046) (by decide +kernel)⟩
theorem lw_p31 : lw_okq (⟨"GoalEngineModel", "arity", "(I)I"⟩, 50) := ⟨⟨by decide +kernel, by decide +kernel⟩, List.mem_of_getElem? (i := 872) (by decide +kernel), List.mem_of_getElem? (i := 1049) (by decide +kernel), List.mem_of_getElem? (i := 1050) (by decide +kernel)⟩
def lw_privs_2 : List (MethodName × Nat) := [(⟨"GoalEngine$Cells", "place", "(I)V"⟩, 9), (⟨"GoalEngine$Cells", "takeName", "(I)V"⟩, 9), (⟨"GoalEngine$Search", "bringGoals", "(II)V"⟩, 13), (⟨"GoalEngine$Goals", "grow", "()V"⟩, 4), (⟨"GoalEngine$Search", "meet", "(III)I"⟩, 13), (⟨"GoalEngine$Unifier", "lookAt", "(II)Z"⟩, 5), (⟨"GoalEngine$Unifier", "bindLater", "(II)V"⟩, 5), (⟨"GoalEngine$Unifier", "bindUnlessInside", "(II)Z"⟩, 5), (⟨"GoalEngine$Unifier", "openArguments", "(II)Z"⟩, 5), (⟨"GoalEngine$Calculator", "resultOf", "(I)J"⟩, 2), (⟨"GoalEngine$Calculator", "isOperation", "(I)Z"⟩, 2), (⟨"GoalEngine$Search", "tryRule", "(III)I"⟩, 13), (⟨"GoalEngine$Search", "hasRoomFor", "(LGoalEngine$Clause;)Z"⟩, 13), (⟨"GoalEngineModel", "areGoals", "(I)Z"⟩, 50), (⟨"GoalEngineModel", "behind", "(I)I"⟩, 50), (⟨"GoalEngineModel", "arity", "(I)I"⟩, 50)]
theorem lw_r2 : ∀ q ∈ lw_privs_2, lw_okq q := List.forall_mem_cons.mpr ⟨lw_p16, List.forall_mem_cons.mpr ⟨lw_p17, List.forall_mem_cons.mpr ⟨lw_p18, List.forall_mem_cons.mpr ⟨lw_p19, List.forall_mem_cons.mpr ⟨lw_p20, List.forall_mem_cons.mpr ⟨lw_p21, List.forall_mem_cons.mpr ⟨lw_p22, List.forall_mem_cons.mpr ⟨lw_p23, List.forall_mem_cons.mpr ⟨lw_p24, List.forall_mem_cons.mpr ⟨lw_p25, List.forall_mem_cons.mpr ⟨lw_p26, List.forall_mem_cons.mpr ⟨lw_p27, List.forall_mem_cons.mpr ⟨lw_p28, List.forall_mem_cons.mpr ⟨lw_p29, List.forall_mem_cons.mpr ⟨lw_p30, List.forall_mem_cons.mpr ⟨lw_p31, fun _ h => absurd h List.not_mem_nil⟩⟩⟩⟩⟩⟩⟩⟩⟩⟩⟩⟩⟩⟩⟩⟩
theorem lw_p32 : lw_okq (⟨"GoalEngineModel", "end", "()V"⟩, 50) := ⟨⟨by decide +kernel, by decide +kernel⟩, List.mem_of_getElem? (i := 872) (by decide +kernel), List.mem_of_getElem? (i := 1057) (by decide +kernel), List.mem_of_getElem? (i := 1058) (by decide +kernel)⟩
theorem lw_p33 : lw_okq (⟨"GoalEngineModel", "copy", "([III)V"⟩, 50) := ⟨⟨by decide +kernel, by decide +kernel⟩, List.mem_of_getElem? (i := 872) (by decide +kernel), List.mem_of_getElem? (i := 1061) (by decide +kernel), List.mem_of_getElem? (i := 1062) (by decide +kernel)⟩
theorem lw_p34 : lw_okq (⟨"GoalEngineModel", "hasVariable", "([IIII)Z"⟩, 50) := ⟨⟨by decide +kernel, by decide +kernel⟩, List.mem_of_getElem? (i := 872) (by decide +kernel), List.mem_of_getElem? (i := 1065) (by decide +kernel), List.mem_of_getElem? (i := 1066) (by decide +kernel)⟩
theorem lw_p35 : lw_okq (⟨"GoalEngineModel", "take", "(I)I"⟩, 50) := ⟨⟨by decide +kernel, by decide +kernel⟩, List.mem_of_getElem? (i := 872) (by decide +kernel), List.mem_of_getElem? (i := 1069) (by decide +kernel), List.mem_of_getElem? (i := 1070) (by decide +kernel)⟩
theorem lw_p36 : lw_okq (⟨"GoalEngineModel", "copyWord", "(I)V"⟩, 50) := ⟨⟨by decide +kernel, by decide +kernel⟩, List.mem_of_getElem? (i := 872) (by decide +kernel), List.mem_of_getElem? (i := 1073) (by decide +kernel), List.mem_of_getElem? (i := 1074) (by decide +kernel)⟩
theorem lw_p37 : lw_okq (⟨"GoalEngineModel", "place", "()V"⟩, 50) := ⟨⟨by decide +kernel, by decide +kernel⟩, List.mem_of_getElem? (i := 872) (by decide +kernel), List.mem_of_getElem? (i := 1077) (by decide +kernel), List.mem_of_getElem? (i := 1078) (by decide +kernel)⟩
theorem lw_p38 : lw_okq (⟨"GoalEngineModel", "link", "(IIII)I"⟩, 50) := ⟨⟨by decide +kernel, by decide +kernel⟩, List.mem_of_getElem? (i := 872) (by decide +kernel), List.mem_of_getElem? (i := 1081) (by decide +kernel), List.mem_of_getElem? (i := 1082) (by decide +kernel)⟩
theorem lw_p39 : lw_okq (⟨"GoalEngineModel", "inUse", "()I"⟩, 50) := ⟨⟨by decide +kernel, by decide +kernel⟩, List.mem_of_getElem? (i := 872) (by decide +kernel), List.mem_of_getElem? (i := 1085) (by decide +kernel), List.mem_of_getElem? (i := 1086) (by decide +kernel)⟩
theorem lw_p40 : lw_okq (⟨"GoalEngineModel", "step", "()V"⟩, 50) := ⟨⟨by decide +kernel, by decide +kernel⟩, List.mem_of_getElem? (i := 872) (by decide +kernel), List.mem_of_getElem? (i := 1093) (by decide +kernel), List.mem_of_getElem? (i := 1094) (by decide +kernel)⟩
theorem lw_p41 : lw_okq (⟨"GoalEngineModel", "kindOf", "(I)I"⟩, 50) := ⟨⟨by decide +kernel, by decide +kernel⟩, List.mem_of_getElem? (i := 872) (by decide +kernel), List.mem_of_getElem? (i := 1097) (by decide +kernel), List.mem_of_getElem? (i := 1098) (by decide +kernel)⟩
theorem lw_p42 : lw_okq (⟨"GoalEngineModel", "valueOf", "(I)I"⟩, 50) := ⟨⟨by decide +kernel, by decide +kernel⟩, List.mem_of_getElem? (i := 872) (by decide +kernel), List.mem_of_getElem? (i := 1101) (by decide +kernel), List.mem_of_getElem? (i := 1102) (by decide +kernel)⟩
theorem lw_p43 : lw_okq (⟨"GoalEngineModel", "attempt", "(II)V"⟩, 50) := ⟨⟨by decide +kernel, by decide +kernel⟩, List.mem_of_getElem? (i := 872) (by decide +kernel), List.mem_of_getElem? (i := 1105) (by decide +kernel), List.mem_of_getElem? (i := 1106) (by decide +kernel)⟩
theorem lw_p44 : lw_okq (⟨"GoalEngineModel", "wordOf", "(II)I"⟩, 50) := ⟨⟨by decide +kernel, by decide +kernel⟩, List.mem_of_getElem? (i := 872) (by decide +kernel), List.mem_of_getElem? (i := 1109) (by decide +kernel), List.mem_of_getElem? (i := 1110) (by decide +kernel)⟩
theorem lw_p45 : lw_okq (⟨"GoalEngineModel", "ruleFor", "(II)I"⟩, 50) := ⟨⟨by decide +kernel, by decide +kernel⟩, List.mem_of_getElem? (i := 872) (by decide +kernel), List.mem_of_getElem? (i := 1113) (by decide +kernel), List.mem_of_getElem? (i := 1114) (by decide +kernel)⟩
theorem lw_p46 : lw_okq (⟨"GoalEngineModel", "needs", "([III)I"⟩, 50) := ⟨⟨by decide +kernel, by decide +kernel⟩, List.mem_of_getElem? (i := 872) (by decide +kernel), List.mem_of_getElem? (i := 1117) (by decide +kernel), List.mem_of_getElem? (i := 1118) (by decide +kernel)⟩
theorem lw_p47 : lw_okq (⟨"GoalEngineModel", "free", "(II)I"⟩, 50) := ⟨⟨by decide +kernel, by decide +kernel⟩, List.mem_of_getElem? (i := 872) (by decide +kernel), List.mem_of_getElem? (i := 1121) (by decide +kernel), List.mem_of_getElem? (i := 1122) (by decide +kernel)⟩
def lw_privs_3 : List (MethodName × Nat) := [(⟨"GoalEngineModel", "end", "()V"⟩, 50), (⟨"GoalEngineModel", "copy", "([III)V"⟩, 50), (⟨"GoalEngineModel", "hasVariable", "([IIII)Z"⟩, 50), (⟨"GoalEngineModel", "take", "(I)I"⟩, 50), (⟨"GoalEngineModel", "copyWord", "(I)V"⟩, 50), (⟨"GoalEngineModel", "place", "()V"⟩, 50), (⟨"GoalEngineModel", "link", "(IIII)I"⟩, 50), (⟨"GoalEngineModel", "inUse", "()I"⟩, 50), (⟨"GoalEngineModel", "step", "()V"⟩, 50), (⟨"GoalEngineModel", "kindOf", "(I)I"⟩, 50), (⟨"GoalEngineModel", "valueOf", "(I)I"⟩, 50), (⟨"GoalEngineModel", "attempt", "(II)V"⟩, 50), (⟨"GoalEngineModel", "wordOf", "(II)I"⟩, 50), (⟨"GoalEngineModel", "ruleFor", "(II)I"⟩, 50), (⟨"GoalEngineModel", "needs", "([III)I"⟩, 50), (⟨"GoalEngineModel", "free", "(II)I"⟩, 50)]
theorem lw_r3 : ∀ q ∈ lw_privs_3, lw_okq q := List.forall_mem_cons.mpr ⟨lw_p32, List.forall_mem_cons.mpr ⟨lw_p33, List.forall_mem_cons.mpr ⟨lw_p34, List.forall_mem_cons.mpr ⟨lw_p35, List.forall_mem_cons.mpr ⟨lw_p36, List.forall_mem_cons.mpr ⟨lw_p37, List.forall_mem_cons.mpr ⟨lw_p38, List.forall_mem_cons.mpr ⟨lw_p39, List.forall_mem_cons.mpr ⟨lw_p40, List.forall_mem_cons.mpr ⟨lw_p41, List.forall_mem_cons.mpr ⟨lw_p42, List.forall_mem_cons.mpr ⟨lw_p43, List.forall_mem_cons.mpr ⟨lw_p44, List.forall_mem_cons.mpr ⟨lw_p45, List.forall_mem_cons.mpr ⟨lw_p46, List.forall_mem_cons.mpr ⟨lw_p47, fun _ h => absurd h List.not_mem_nil⟩⟩⟩⟩⟩⟩⟩⟩⟩⟩⟩⟩⟩⟩⟩⟩
theorem lw_p48 : lw_okq (⟨"GoalEngineModel", "mark", "(II)V"⟩, 50) := ⟨⟨by decide +kernel, by decide +kernel⟩, List.mem_of_getElem? (i := 872) (by decide +kernel), List.mem_of_getElem? (i := 1125) (by decide +kernel), List.mem_of_getElem? (i := 1126) (by decide +kernel)⟩
theorem lw_p49 : lw_okq (⟨"GoalEngineModel", "push", "(II)V"⟩, 50) := ⟨⟨by decide +kernel, by decide +kernel⟩, List.mem_of_getElem? (i := 872) (by decide +kernel), List.mem_of_getElem? (i := 1129) (by decide +kernel), List.mem_of_getElem? (i := 1130) (by decide +kernel)⟩
theorem lw_p50 : lw_okq (⟨"GoalEngineModel", "pushArguments", "(I)V"⟩, 50) := ⟨⟨by decide +kernel, by decide +kernel⟩, List.mem_of_getElem? (i := 872) (by decide +kernel), List.mem_of_getElem? (i := 1133) (by decide +kernel), List.mem_of_getElem? (i := 1134) (by decide +kernel)⟩
theorem lw_p51 : lw_okq (⟨"GoalEngineModel", "markGoals", "(I)V"⟩, 50) := ⟨⟨by decide +kernel, by decide +kernel⟩, List.mem_of_getElem? (i := 872) (by decide +kernel), List.mem_of_getElem? (i := 1137) (by decide +kernel), List.mem_of_getElem? (i := 1138) (by decide +kernel)⟩
theorem lw_p52 : lw_okq (⟨"GoalEngineModel", "unify", "(IIII)V"⟩, 50) := ⟨⟨by decide +kernel, by decide +kernel⟩, List.mem_of_getElem? (i := 872) (by decide +kernel), List.mem_of_getElem? (i := 1141) (by decide +kernel), List.mem_of_getElem? (i := 1142) (by decide +kernel)⟩
theorem lw_p53 : lw_okq (⟨"GoalEngineModel", "mean", "(II)V"⟩, 50) := ⟨⟨by decide +kernel, by decide +kernel⟩, List.mem_of_getElem? (i := 872) (by decide +kernel), List.mem_of_getElem? (i := 1145) (by decide +kernel), List.mem_of_getElem? (i := 1146) (by decide +kernel)⟩
theorem lw_p54 : lw_okq (⟨"GoalEngineModel", "meet", "(IIII)V"⟩, 50) := ⟨⟨by decide +kernel, by decide +kernel⟩, List.mem_of_getElem? (i := 872) (by decide +kernel), List.mem_of_getElem? (i := 1149) (by decide +kernel), List.mem_of_getElem? (i := 1150) (by decide +kernel)⟩
theorem lw_p55 : lw_okq (⟨"GoalEngineModel", "bind", "(III)V"⟩, 50) := ⟨⟨by decide +kernel, by decide +kernel⟩, List.mem_of_getElem? (i := 872) (by decide +kernel), List.mem_of_getElem? (i := 1153) (by decide +kernel), List.mem_of_getElem? (i := 1154) (by decide +kernel)⟩
theorem lw_p56 : lw_okq (⟨"GoalEngineModel", "occurs", "(III)Z"⟩, 50) := ⟨⟨by decide +kernel, by decide +kernel⟩, List.mem_of_getElem? (i := 872) (by decide +kernel), List.mem_of_getElem? (i := 1157) (by decide +kernel), List.mem_of_getElem? (i := 1158) (by decide +kernel)⟩
theorem lw_p57 : lw_okq (⟨"GoalEngineModel", "pushPairs", "(II)V"⟩, 50) := ⟨⟨by decide +kernel, by decide +kernel⟩, List.mem_of_getElem? (i := 872) (by decide +kernel), List.mem_of_getElem? (i := 1161) (by decide +kernel), List.mem_of_getElem? (i := 1162) (by decide +kernel)⟩
theorem lw_p58 : lw_okq (⟨"GoalEngineModel", "known", "(II)V"⟩, 50) := ⟨⟨by decide +kernel, by decide +kernel⟩, List.mem_of_getElem? (i := 872) (by decide +kernel), List.mem_of_getElem? (i := 1165) (by decide +kernel), List.mem_of_getElem? (i := 1166) (by decide +kernel)⟩
theorem lw_p59 : lw_okq (⟨"GoalEngineModel", "argumentKind", "(II)I"⟩, 50) := ⟨⟨by decide +kernel, by decide +kernel⟩, List.mem_of_getElem? (i := 872) (by decide +kernel), List.mem_of_getElem? (i := 1169) (by decide +kernel), List.mem_of_getElem? (i := 1170) (by decide +kernel)⟩
theorem lw_p60 : lw_okq (⟨"GoalEngineModel", "argumentValue", "(II)I"⟩, 50) := ⟨⟨by decide +kernel, by decide +kernel⟩, List.mem_of_getElem? (i := 872) (by decide +kernel), List.mem_of_getElem? (i := 1173) (by decide +kernel), List.mem_of_getElem? (i := 1174) (by decide +kernel)⟩
theorem lw_p61 : lw_okq (⟨"GoalEngineModel", "calculate", "(II)I"⟩, 50) := ⟨⟨by decide +kernel, by decide +kernel⟩, List.mem_of_getElem? (i := 872) (by decide +kernel), List.mem_of_getElem? (i := 1177) (by decide +kernel), List.mem_of_getElem? (i := 1178) (by decide +kernel)⟩
theorem lw_p62 : lw_okq (⟨"GoalEngineModel", "apply", "(I)V"⟩, 50) := ⟨⟨by decide +kernel, by decide +kernel⟩, List.mem_of_getElem? (i := 872) (by decide +kernel), List.mem_of_getElem? (i := 1181) (by decide +kernel), List.mem_of_getElem? (i := 1182) (by decide +kernel)⟩
theorem lw_p63 : lw_okq (⟨"GoalEngineModel", "round", "(J)I"⟩, 50) := ⟨⟨by decide +kernel, by decide +kernel⟩, List.mem_of_getElem? (i := 872) (by decide +kernel), List.mem_of_getElem? (i := 1185) (by decide +kernel), List.mem_of_getElem? (i := 1186) (by decide +kernel)⟩
def lw_privs_4 : List (MethodName × Nat) := [(⟨"GoalEngineModel", "mark", "(II)V"⟩, 50), (⟨"GoalEngineModel", "push", "(II)V"⟩, 50), (⟨"GoalEngineModel", "pushArguments", "(I)V"⟩, 50), (⟨"GoalEngineModel", "markGoals", "(I)V"⟩, 50), (⟨"GoalEngineModel", "unify", "(IIII)V"⟩, 50), (⟨"GoalEngineModel", "mean", "(II)V"⟩, 50), (⟨"GoalEngineModel", "meet", "(IIII)V"⟩, 50), (⟨"GoalEngineModel", "bind", "(III)V"⟩, 50), (⟨"GoalEngineModel", "occurs", "(III)Z"⟩, 50), (⟨"GoalEngineModel", "pushPairs", "(II)V"⟩, 50), (⟨"GoalEngineModel", "known", "(II)V"⟩, 50), (⟨"GoalEngineModel", "argumentKind", "(II)I"⟩, 50), (⟨"GoalEngineModel", "argumentValue", "(II)I"⟩, 50), (⟨"GoalEngineModel", "calculate", "(II)I"⟩, 50), (⟨"GoalEngineModel", "apply", "(I)V"⟩, 50), (⟨"GoalEngineModel", "round", "(J)I"⟩, 50)]
theorem lw_r4 : ∀ q ∈ lw_privs_4, lw_okq q := List.forall_mem_cons.mpr ⟨lw_p48, List.forall_mem_cons.mpr ⟨lw_p49, List.forall_mem_cons.mpr ⟨lw_p50, List.forall_mem_cons.mpr ⟨lw_p51, List.forall_mem_cons.mpr ⟨lw_p52, List.forall_mem_cons.mpr ⟨lw_p53, List.forall_mem_cons.mpr ⟨lw_p54, List.forall_mem_cons.mpr ⟨lw_p55, List.forall_mem_cons.mpr ⟨lw_p56, List.forall_mem_cons.mpr ⟨lw_p57, List.forall_mem_cons.mpr ⟨lw_p58, List.forall_mem_cons.mpr ⟨lw_p59, List.forall_mem_cons.mpr ⟨lw_p60, List.forall_mem_cons.mpr ⟨lw_p61, List.forall_mem_cons.mpr ⟨lw_p62, List.forall_mem_cons.mpr ⟨lw_p63, fun _ h => absurd h List.not_mem_nil⟩⟩⟩⟩⟩⟩⟩⟩⟩⟩⟩⟩⟩⟩⟩⟩
theorem lw_p64 : lw_okq (⟨"GoalEngineModel", "fail", "()V"⟩, 50) := ⟨⟨by decide +kernel, by decide +kernel⟩, List.mem_of_getElem? (i := 872) (by decide +kernel), List.mem_of_getElem? (i := 1189) (by decide +kernel), List.mem_of_getElem? (i := 1190) (by decide +kernel)⟩
theorem lw_p65 : lw_okq (⟨"GoalEngineModel", "findAnswer", "()V"⟩, 50) := ⟨⟨by decide +kernel, by decide +kernel⟩, List.mem_of_getElem? (i := 872) (by decide +kernel), List.mem_of_getElem? (i := 1213) (by decide +kernel), List.mem_of_getElem? (i := 1214) (by decide +kernel)⟩
theorem lw_p66 : lw_okq (⟨"GoalEngineModel", "sayTerm", "()V"⟩, 50) := ⟨⟨by decide +kernel, by decide +kernel⟩, List.mem_of_getElem? (i := 872) (by decide +kernel), List.mem_of_getElem? (i := 1217) (by decide +kernel), List.mem_of_getElem? (i := 1218) (by decide +kernel)⟩
def lw_privs_5 : List (MethodName × Nat) := [(⟨"GoalEngineModel", "fail", "()V"⟩, 50), (⟨"GoalEngineModel", "findAnswer", "()V"⟩, 50), (⟨"GoalEngineModel", "sayTerm", "()V"⟩, 50)]
theorem lw_r5 : ∀ q ∈ lw_privs_5, lw_okq q := List.forall_mem_cons.mpr ⟨lw_p64, List.forall_mem_cons.mpr ⟨lw_p65, List.forall_mem_cons.mpr ⟨lw_p66, fun _ h => absurd h List.not_mem_nil⟩⟩⟩
def lw_privs : List (MethodName × Nat) := lw_privs_1 ++ (lw_privs_2 ++ (lw_privs_3 ++ (lw_privs_4 ++ (lw_privs_5))))
def lw_tbl : List Cond := k2_sels lw_privs ++ tables_1
theorem lw_privs_ok : ∀ q ∈ lw_privs, lw_okq q := by
  show ∀ q ∈ lw_privs_1 ++ (lw_privs_2 ++ (lw_privs_3 ++ (lw_privs_4 ++ (lw_privs_5)))), lw_okq q
  exact List.forall_mem_append.mpr ⟨lw_r1, List.forall_mem_append.mpr ⟨lw_r2, List.forall_mem_append.mpr ⟨lw_r3, List.forall_mem_append.mpr ⟨lw_r4, lw_r5⟩⟩⟩⟩
end
section
def R_law : String := "GoalEngineLaw"
def lw_P (b : Addr) (xs : List Int32) (args : Array Value) (s : State) : Prop := args = #[.ref b] ∧ s.IntsAt b xs ∧ xs.length ≤ 1024 ∧ (Jvm.Cond.and given_1 narrow_1).before args s = true
def lw_Q (_ : Array Value) (s : State) (o : Outcome) (t : State) : Prop := o = .returned (some (.int 1)) ∧ Framed s o t [] 601024 7293034
def lw_Z (below : List Frame) (a : Array Value) (s : State) : State → Prop := fun t => ∃ o, t.status = .running ∧ Ended t below o ∧ lw_Q a s o t
/-- the law's own end, with 1 on the stack, nothing written that was there before, its room as the claim has it -/
theorem lw_ret {p : Program} {l : Launch} {e : Env} {s : State} {m : MethodId} {below : List Frame} {meth : Method} {c : Code} {b : Nat} {R : Room} {args : Array Value} (hx : p.tables.exec = Jvm.exec) (hb : c.code = code) (hr : meth.sig.returnType = ret) (hlocks : meth.locks = false) {pc : Nat} {H : Heap} {ls : Array Slot} (hdg : decode code pc = .ok (.ireturn, 1)) : W p l e R s m args below meth c H [] 601024 7293034 (lw_Z below args s) (F0 m pc ls [.int 1]) := by
  intro T hT X
  obtain ⟨fs, hret, hrun, hended, hW, hframe⟩ := X.leave (v := some (.int 1)) (hlocks := hlocks) (fun h => by rw [hr] at h; cases h)
  have hmeth' : T.vm.method? m = some meth := X.method'
  refine ⟨T.setFrames fs, ?_, .returned (some (.int 1)), hrun, hended, rfl, ⟨_, rfl⟩, hW, hframe⟩
  jvm_step X.here [X.here.top, hx, hb, hdg, hmeth', hr, ret, narrow_b1]
  (try refine ⟨rfl, ?_⟩); (try refine ⟨rfl, ?_⟩)
  first | (intro acts; rw [hret _ acts rfl rfl rfl]) | rw [hret _ _ rfl rfl rfl]
  exact Steps.refl _
/-- what holds at the law's entry: the machine, the code, the tables' words (any of lw_tbl by 'hts w (by decide +kernel)'), the script of L ints xs at the cell b, what the Statement gives of the start (any of its parts by flat_of_before) -/
def lw_At (p : Program) (s : State) (m : MethodId) (meth : Method) (c : Code) (b L : Nat) (xs : Nat → Int32) : Prop :=
  p.tables.exec = Jvm.exec ∧ c.code = code ∧ meth.sig.returnType = ret ∧ c.maxLocals = 7 ∧ s.vm.findClass R_law = some m.cls ∧ (∀ w ∈ lw_tbl, w.before #[Value.ref b] s = true) ∧ va_X b L xs s s.heap ∧ b < s.heap.size ∧ meth.locks = false ∧ (Jvm.Cond.and given_1 narrow_1).before #[Value.ref b] s = true
def gv_Cn : Nat := 601024
def gv_Sn : Nat := 7293034
end
section
/-! names: the classes with their fields, the tables' words by their places, the methods by their numbers (written by wip/tools/gen.py out of the Statement and the listing) -/
def gF_GE : u_T := fun k => match k with
  | 0 => ("GoalEngine", "typed", "[I", true)
  | 1 => ("GoalEngine", "typedCount", "I", false)
  | 2 => ("GoalEngine", "rules", "LGoalEngine$RuleBook;", true)
  | _ => ("GoalEngine", "search", "LGoalEngine$Search;", true)
def gF_RB : u_T := fun k => match k with
  | 0 => ("GoalEngine$RuleBook", "clauses", "[LGoalEngine$Clause;", true)
  | _ => ("GoalEngine$RuleBook", "size", "I", false)
def gF_CL : u_T := fun k => match k with
  | 0 => ("GoalEngine$Clause", "row", "[I", true)
  | 1 => ("GoalEngine$Clause", "length", "I", false)
  | 2 => ("GoalEngine$Clause", "variables", "I", false)
  | _ => ("GoalEngine$Clause", "cellsOfCopy", "I", false)
def gF_SE : u_T := fun k => match k with
  | 0 => ("GoalEngine$Search", "rules", "LGoalEngine$RuleBook;", true)
  | 1 => ("GoalEngine$Search", "question", "LGoalEngine$Clause;", true)
  | 2 => ("GoalEngine$Search", "cells", "LGoalEngine$Cells;", true)
  | 3 => ("GoalEngine$Search", "unifier", "LGoalEngine$Unifier;", true)
  | 4 => ("GoalEngine$Search", "calculator", "LGoalEngine$Calculator;", true)
  | 5 => ("GoalEngine$Search", "goals", "LGoalEngine$Goals;", true)
  | 6 => ("GoalEngine$Search", "choices", "LGoalEngine$Choices;", true)
  | 7 => ("GoalEngine$Search", "collector", "LGoalEngine$Collector;", true)
  | 8 => ("GoalEngine$Search", "answer", "LGoalEngine$Answer;", true)
  | 9 => ("GoalEngine$Search", "firstGoal", "I", false)
  | 10 => ("GoalEngine$Search", "saidRule", "I", false)
  | 11 => ("GoalEngine$Search", "state", "I", false)
  | _ => ("GoalEngine$Search", "tank", "I", false)
def gF_CE : u_T := fun k => match k with
  | 0 => ("GoalEngine$Cells", "cell", "[I", true)
  | 1 => ("GoalEngine$Cells", "used", "I", false)
  | 2 => ("GoalEngine$Cells", "trail", "[I", true)
  | 3 => ("GoalEngine$Cells", "trailed", "I", false)
  | 4 => ("GoalEngine$Cells", "variableAt", "[I", true)
  | 5 => ("GoalEngine$Cells", "open", "[I", true)
  | 6 => ("GoalEngine$Cells", "openCount", "I", false)
  | 7 => ("GoalEngine$Cells", "copied", "[I", true)
  | _ => ("GoalEngine$Cells", "copiedCount", "I", false)
def gF_TR : u_T := fun k => match k with
  | 0 => ("GoalEngine$Tracer", "cells", "LGoalEngine$Cells;", true)
  | 1 => ("GoalEngine$Tracer", "reached", "[Z", true)
  | 2 => ("GoalEngine$Tracer", "waiting", "[I", true)
  | _ => ("GoalEngine$Tracer", "waitingCount", "I", false)
def gF_UN : u_T := fun k => match k with
  | 0 => ("GoalEngine$Unifier", "cells", "LGoalEngine$Cells;", true)
  | 1 => ("GoalEngine$Unifier", "tracer", "LGoalEngine$Tracer;", true)
  | 2 => ("GoalEngine$Unifier", "left", "[I", true)
  | 3 => ("GoalEngine$Unifier", "right", "[I", true)
  | _ => ("GoalEngine$Unifier", "pairs", "I", false)
def gF_CA : u_T := fun k => match k with
  | 0 => ("GoalEngine$Calculator", "cells", "LGoalEngine$Cells;", true)
  | _ => ("GoalEngine$Calculator", "operations", "I", false)
def gF_GO : u_T := fun k => match k with
  | 0 => ("GoalEngine$Goals", "term", "[I", false)
  | 1 => ("GoalEngine$Goals", "height", "[I", false)
  | 2 => ("GoalEngine$Goals", "behind", "[I", false)
  | _ => ("GoalEngine$Goals", "seen", "[Z", false)
def gF_CH : u_T := fun k => match k with
  | 0 => ("GoalEngine$Choices", "firstGoal", "[I", true)
  | 1 => ("GoalEngine$Choices", "nextRule", "[I", true)
  | 2 => ("GoalEngine$Choices", "cellMark", "[I", true)
  | 3 => ("GoalEngine$Choices", "trailMark", "[I", true)
  | 4 => ("GoalEngine$Choices", "goalMark", "[I", true)
  | _ => ("GoalEngine$Choices", "size", "I", false)
def gF_CO : u_T := fun k => match k with
  | 0 => ("GoalEngine$Collector", "cells", "LGoalEngine$Cells;", true)
  | 1 => ("GoalEngine$Collector", "goals", "LGoalEngine$Goals;", true)
  | 2 => ("GoalEngine$Collector", "choices", "LGoalEngine$Choices;", true)
  | 3 => ("GoalEngine$Collector", "tracer", "LGoalEngine$Tracer;", true)
  | 4 => ("GoalEngine$Collector", "newPlace", "[I", true)
  | _ => ("GoalEngine$Collector", "collections", "I", false)
def gF_AN : u_T := fun k => match k with
  | 0 => ("GoalEngine$Answer", "cells", "LGoalEngine$Cells;", true)
  | 1 => ("GoalEngine$Answer", "row", "[I", true)
  | 2 => ("GoalEngine$Answer", "length", "I", false)
  | 3 => ("GoalEngine$Answer", "freeVariables", "[I", true)
  | 4 => ("GoalEngine$Answer", "freeCount", "I", false)
  | 5 => ("GoalEngine$Answer", "waiting", "[I", true)
  | _ => ("GoalEngine$Answer", "waitingCount", "I", false)
def gF_MO : u_T := fun k => match k with
  | 0 => ("GoalEngineModel", "thrown", "I", false)
  | 1 => ("GoalEngineModel", "typed", "I", false)
  | 2 => ("GoalEngineModel", "words", "[I", false)
  | 3 => ("GoalEngineModel", "rules", "I", false)
  | 4 => ("GoalEngineModel", "ruleWords", "[I", false)
  | 5 => ("GoalEngineModel", "ruleLength", "[I", false)
  | 6 => ("GoalEngineModel", "uses", "[I", false)
  | 7 => ("GoalEngineModel", "taken", "[I", false)
  | 8 => ("GoalEngineModel", "cellKind", "[I", false)
  | 9 => ("GoalEngineModel", "cellValue", "[I", false)
  | 10 => ("GoalEngineModel", "nameOf", "[I", false)
  | 11 => ("GoalEngineModel", "argument", "[I", false)
  | 12 => ("GoalEngineModel", "stamps", "I", false)
  | 13 => ("GoalEngineModel", "goals", "I", false)
  | 14 => ("GoalEngineModel", "goal", "[I", false)
  | 15 => ("GoalEngineModel", "goalNext", "[I", false)
  | 16 => ("GoalEngineModel", "atHand", "I", false)
  | 17 => ("GoalEngineModel", "said", "I", false)
  | 18 => ("GoalEngineModel", "choices", "I", false)
  | 19 => ("GoalEngineModel", "choiceGoals", "[I", false)
  | 20 => ("GoalEngineModel", "choiceRule", "[I", false)
  | 21 => ("GoalEngineModel", "choiceStamp", "[I", false)
  | 22 => ("GoalEngineModel", "choiceTrail", "[I", false)
  | 23 => ("GoalEngineModel", "trail", "I", false)
  | 24 => ("GoalEngineModel", "bound", "[I", false)
  | 25 => ("GoalEngineModel", "searching", "Z", false)
  | 26 => ("GoalEngineModel", "answered", "Z", false)
  | 27 => ("GoalEngineModel", "tank", "I", false)
  | 28 => ("GoalEngineModel", "collections", "I", false)
  | 29 => ("GoalEngineModel", "asked", "[I", false)
  | 30 => ("GoalEngineModel", "pile", "I", false)
  | 31 => ("GoalEngineModel", "pileKind", "[I", false)
  | 32 => ("GoalEngineModel", "pileValue", "[I", false)
  | 33 => ("GoalEngineModel", "marks", "[I", false)
  | 34 => ("GoalEngineModel", "markNumber", "I", false)
  | 35 => ("GoalEngineModel", "pairs", "I", false)
  | 36 => ("GoalEngineModel", "results", "I", false)
  | 37 => ("GoalEngineModel", "resultOf", "[I", false)
  | 38 => ("GoalEngineModel", "saidWords", "I", false)
  | 39 => ("GoalEngineModel", "answer", "[I", false)
  | 40 => ("GoalEngineModel", "kind", "I", false)
  | 41 => ("GoalEngineModel", "value", "I", false)
  | 42 => ("GoalEngineModel", "copied", "[I", false)
  | 43 => ("GoalEngineModel", "open", "I", false)
  | 44 => ("GoalEngineModel", "openCell", "[I", false)
  | 45 => ("GoalEngineModel", "openNext", "[I", false)
  | 46 => ("GoalEngineModel", "heads", "I", false)
  | 47 => ("GoalEngineModel", "headKind", "[I", false)
  | 48 => ("GoalEngineModel", "headValue", "[I", false)
  | _ => ("GoalEngineModel", "outcome", "I", false)
def gv_cl : List vw_C := [("GoalEngine", gF_GE, 4), ("GoalEngine$RuleBook", gF_RB, 2), ("GoalEngine$Clause", gF_CL, 4), ("GoalEngine$Search", gF_SE, 13), ("GoalEngine$Cells", gF_CE, 9), ("GoalEngine$Tracer", gF_TR, 4), ("GoalEngine$Unifier", gF_UN, 5), ("GoalEngine$Calculator", gF_CA, 2), ("GoalEngine$Goals", gF_GO, 4), ("GoalEngine$Choices", gF_CH, 6), ("GoalEngine$Collector", gF_CO, 6), ("GoalEngine$Answer", gF_AN, 7), ("GoalEngineModel", gF_MO, 50)]
def gv_T : List Jvm.Cond := lw_tbl
def gv_qc : String := "GoalEngine$Clause"
def gv_qi : Nat := 2
def gv_host : String := "GoalEngine"
def gv_cw (c : Nat) : Nat × Nat := match c with
  | 0 => (94, 68)
  | 1 => (102, 69)
  | 2 => (109, 70)
  | 3 => (144, 71)
  | 4 => (152, 72)
  | 5 => (197, 73)
  | 6 => (217, 74)
  | 7 => (239, 75)
  | 8 => (252, 76)
  | 9 => (277, 77)
  | 10 => (311, 78)
  | 11 => (337, 79)
  | 12 => (939, 80)
  | _ => (0, 0)
def gv_mns : List MethodName := [⟨"GoalEngine", "<init>", "()V"⟩,
  ⟨"GoalEngine", "put", "(I)I"⟩,
  ⟨"GoalEngine", "rule", "()I"⟩,
  ⟨"GoalEngine", "ask", "()I"⟩,
  ⟨"GoalEngine", "solve", "(I)I"⟩,
  ⟨"GoalEngine", "next", "()Z"⟩,
  ⟨"GoalEngine", "stop", "()V"⟩,
  ⟨"GoalEngine", "collect", "()I"⟩,
  ⟨"GoalEngine", "count", "(I)I"⟩,
  ⟨"GoalEngine", "words", "()I"⟩,
  ⟨"GoalEngine", "word", "(I)I"⟩,
  ⟨"GoalEngine", "takeTyped", "()I"⟩,
  ⟨"GoalEngine", "isWord", "(I)Z"⟩,
  ⟨"GoalEngine", "isRule", "([II)Z"⟩,
  ⟨"GoalEngine", "isQuestion", "([II)Z"⟩,
  ⟨"GoalEngine", "argumentsOf", "(I)I"⟩,
  ⟨"GoalEngine$RuleBook", "<init>", "()V"⟩,
  ⟨"GoalEngine$RuleBook", "add", "([II)V"⟩,
  ⟨"GoalEngine$RuleBook", "firstFor", "(II)I"⟩,
  ⟨"GoalEngine$Clause", "<init>", "()V"⟩,
  ⟨"GoalEngine$Clause", "read", "([II)V"⟩,
  ⟨"GoalEngine$Search", "<init>", "(LGoalEngine$RuleBook;)V"⟩,
  ⟨"GoalEngine$Search", "begin", "([II)V"⟩,
  ⟨"GoalEngine$Search", "canStep", "()Z"⟩,
  ⟨"GoalEngine$Search", "settle", "(I)V"⟩,
  ⟨"GoalEngine$Search", "step", "()I"⟩,
  ⟨"GoalEngine$Search", "meet", "(III)I"⟩,
  ⟨"GoalEngine$Search", "compare", "(IJJ)I"⟩,
  ⟨"GoalEngine$Search", "tryRule", "(III)I"⟩,
  ⟨"GoalEngine$Search", "hasRoomFor", "(LGoalEngine$Clause;)Z"⟩,
  ⟨"GoalEngine$Search", "bringGoals", "(II)V"⟩,
  ⟨"GoalEngine$Search", "tryOtherWay", "()V"⟩,
  ⟨"GoalEngine$Search", "freeCells", "()I"⟩,
  ⟨"GoalEngine$Search", "cellsInUse", "()I"⟩,
  ⟨"GoalEngine$Search", "choicesLeft", "()I"⟩,
  ⟨"GoalEngine$Search", "goalsAtHand", "()I"⟩,
  ⟨"GoalEngine$Search", "collections", "()I"⟩,
  ⟨"GoalEngine$Search", "answerLength", "()I"⟩,
  ⟨"GoalEngine$Search", "answerWord", "(I)I"⟩,
  ⟨"GoalEngine$Cells", "<init>", "()V"⟩,
  ⟨"GoalEngine$Cells", "follow", "(I)I"⟩,
  ⟨"GoalEngine$Cells", "nameOf", "(I)I"⟩,
  ⟨"GoalEngine$Cells", "argument", "(II)I"⟩,
  ⟨"GoalEngine$Cells", "bind", "(II)V"⟩,
  ⟨"GoalEngine$Cells", "goBack", "(II)V"⟩,
  ⟨"GoalEngine$Cells", "clear", "()V"⟩,
  ⟨"GoalEngine$Cells", "copy", "(LGoalEngine$Clause;)V"⟩,
  ⟨"GoalEngine$Cells", "takeVariables", "(I)V"⟩,
  ⟨"GoalEngine$Cells", "termOf", "(I)I"⟩,
  ⟨"GoalEngine$Cells", "place", "(I)V"⟩,
  ⟨"GoalEngine$Cells", "takeName", "(I)V"⟩,
  ⟨"GoalEngine$Tracer", "<init>", "(LGoalEngine$Cells;)V"⟩,
  ⟨"GoalEngine$Tracer", "forget", "()V"⟩,
  ⟨"GoalEngine$Tracer", "hasReached", "(I)Z"⟩,
  ⟨"GoalEngine$Tracer", "trace", "(I)V"⟩,
  ⟨"GoalEngine$Tracer", "reach", "(I)V"⟩,
  ⟨"GoalEngine$Unifier", "<init>", "(LGoalEngine$Cells;LGoalEngine$Tracer;)V"⟩,
  ⟨"GoalEngine$Unifier", "unify", "(II)I"⟩,
  ⟨"GoalEngine$Unifier", "lookAt", "(II)Z"⟩,
  ⟨"GoalEngine$Unifier", "bindLater", "(II)V"⟩,
  ⟨"GoalEngine$Unifier", "bindUnlessInside", "(II)Z"⟩,
  ⟨"GoalEngine$Unifier", "openArguments", "(II)Z"⟩,
  ⟨"GoalEngine$Calculator", "<init>", "(LGoalEngine$Cells;)V"⟩,
  ⟨"GoalEngine$Calculator", "calculate", "(I)J"⟩,
  ⟨"GoalEngine$Calculator", "resultOf", "(I)J"⟩,
  ⟨"GoalEngine$Calculator", "isOperation", "(I)Z"⟩,
  ⟨"GoalEngine$Calculator", "join", "(III)J"⟩,
  ⟨"GoalEngine$Calculator", "roundIntoRange", "(I)I"⟩,
  ⟨"GoalEngine$Goals", "<init>", "()V"⟩,
  ⟨"GoalEngine$Goals", "set", "(IIII)V"⟩,
  ⟨"GoalEngine$Goals", "grow", "()V"⟩,
  ⟨"GoalEngine$Goals", "lengthFrom", "(I)I"⟩,
  ⟨"GoalEngine$Choices", "<init>", "()V"⟩,
  ⟨"GoalEngine$Choices", "make", "(IILGoalEngine$Cells;)V"⟩,
  ⟨"GoalEngine$Choices", "goalsKept", "()I"⟩,
  ⟨"GoalEngine$Choices", "cutTo", "(I)V"⟩,
  ⟨"GoalEngine$Collector", "<init>", "(LGoalEngine$Cells;LGoalEngine$Goals;LGoalEngine$Choices;LGoalEngine$Tracer;)V"⟩,
  ⟨"GoalEngine$Collector", "run", "(II)I"⟩,
  ⟨"GoalEngine$Collector", "dropNeedlessTrail", "()V"⟩,
  ⟨"GoalEngine$Collector", "traceLive", "(II)V"⟩,
  ⟨"GoalEngine$Collector", "traceGoals", "(I)V"⟩,
  ⟨"GoalEngine$Collector", "findNewPlaces", "()V"⟩,
  ⟨"GoalEngine$Collector", "moveCells", "()V"⟩,
  ⟨"GoalEngine$Collector", "moveGoals", "(I)V"⟩,
  ⟨"GoalEngine$Collector", "moveMarks", "()V"⟩,
  ⟨"GoalEngine$Collector", "moved", "(I)I"⟩,
  ⟨"GoalEngine$Answer", "<init>", "(LGoalEngine$Cells;)V"⟩,
  ⟨"GoalEngine$Answer", "write", "(I)I"⟩,
  ⟨"GoalEngine$Answer", "at", "(I)I"⟩,
  ⟨"GoalEngine$Answer", "writeTerm", "(I)V"⟩,
  ⟨"GoalEngine$Answer", "wordOf", "(I)I"⟩,
  ⟨"GoalEngine$Answer", "openArguments", "(I)V"⟩,
  ⟨"GoalEngineModel", "<init>", "()V"⟩,
  ⟨"GoalEngineModel", "thrown", "()I"⟩,
  ⟨"GoalEngineModel", "arity", "(I)I"⟩,
  ⟨"GoalEngineModel", "put", "(I)I"⟩,
  ⟨"GoalEngineModel", "behind", "(I)I"⟩,
  ⟨"GoalEngineModel", "areGoals", "(I)Z"⟩,
  ⟨"GoalEngineModel", "rule", "()I"⟩,
  ⟨"GoalEngineModel", "inUse", "()I"⟩,
  ⟨"GoalEngineModel", "take", "(I)I"⟩,
  ⟨"GoalEngineModel", "hasVariable", "([IIII)Z"⟩,
  ⟨"GoalEngineModel", "needs", "([III)I"⟩,
  ⟨"GoalEngineModel", "place", "()V"⟩,
  ⟨"GoalEngineModel", "copyWord", "(I)V"⟩,
  ⟨"GoalEngineModel", "copy", "([III)V"⟩,
  ⟨"GoalEngineModel", "mean", "(II)V"⟩,
  ⟨"GoalEngineModel", "push", "(II)V"⟩,
  ⟨"GoalEngineModel", "pushArguments", "(I)V"⟩,
  ⟨"GoalEngineModel", "occurs", "(III)Z"⟩,
  ⟨"GoalEngineModel", "bind", "(III)V"⟩,
  ⟨"GoalEngineModel", "unify", "(IIII)V"⟩,
  ⟨"GoalEngineModel", "meet", "(IIII)V"⟩,
  ⟨"GoalEngineModel", "pushPairs", "(II)V"⟩,
  ⟨"GoalEngineModel", "round", "(J)I"⟩,
  ⟨"GoalEngineModel", "apply", "(I)V"⟩,
  ⟨"GoalEngineModel", "calculate", "(II)I"⟩,
  ⟨"GoalEngineModel", "mark", "(II)V"⟩,
  ⟨"GoalEngineModel", "kindOf", "(I)I"⟩,
  ⟨"GoalEngineModel", "valueOf", "(I)I"⟩,
  ⟨"GoalEngineModel", "markGoals", "(I)V"⟩,
  ⟨"GoalEngineModel", "free", "(II)I"⟩,
  ⟨"GoalEngineModel", "end", "()V"⟩,
  ⟨"GoalEngineModel", "link", "(IIII)I"⟩,
  ⟨"GoalEngineModel", "ask", "()I"⟩,
  ⟨"GoalEngineModel", "fail", "()V"⟩,
  ⟨"GoalEngineModel", "wordOf", "(II)I"⟩,
  ⟨"GoalEngineModel", "ruleFor", "(II)I"⟩,
  ⟨"GoalEngineModel", "attempt", "(II)V"⟩,
  ⟨"GoalEngineModel", "argumentKind", "(II)I"⟩,
  ⟨"GoalEngineModel", "argumentValue", "(II)I"⟩,
  ⟨"GoalEngineModel", "known", "(II)V"⟩,
  ⟨"GoalEngineModel", "step", "()V"⟩,
  ⟨"GoalEngineModel", "solve", "(I)I"⟩,
  ⟨"GoalEngineModel", "next", "()Z"⟩,
  ⟨"GoalEngineModel", "stop", "()V"⟩,
  ⟨"GoalEngineModel", "collect", "()I"⟩,
  ⟨"GoalEngineModel", "count", "(I)I"⟩,
  ⟨"GoalEngineModel", "sayTerm", "()V"⟩,
  ⟨"GoalEngineModel", "findAnswer", "()V"⟩,
  ⟨"GoalEngineModel", "words", "()I"⟩,
  ⟨"GoalEngineModel", "word", "(I)I"⟩,
  ⟨"GoalEngineLaw", "put", "(LGoalEngine;I[J)I"⟩,
  ⟨"GoalEngineLaw", "rule", "(LGoalEngine;[J)I"⟩,
  ⟨"GoalEngineLaw", "ask", "(LGoalEngine;[J)I"⟩,
  ⟨"GoalEngineLaw", "solve", "(LGoalEngine;I[J)I"⟩,
  ⟨"GoalEngineLaw", "next", "(LGoalEngine;[J)I"⟩,
  ⟨"GoalEngineLaw", "count", "(LGoalEngine;I[J)I"⟩,
  ⟨"GoalEngineLaw", "word", "(LGoalEngine;I[J)I"⟩,
  ⟨"GoalEngineLaw", "law", "([I)Z"⟩]
def gv_mn (i : Nat) : MethodName := gv_mns.getD i ⟨"", "", ""⟩
end
section
/-! gv: a picture of all cells that the law makes (place k lies at the address z k; place 0 is the script), and the machine's walk over it -/
section GVA
abbrev gv_V : Type := Int32 ⊕ (Int64 ⊕ Option Nat)
abbrev gI (x : Int32) : gv_V := Sum.inl x
abbrev gL (x : Int64) : gv_V := Sum.inr (Sum.inl x)
abbrev gR (k : Nat) : gv_V := Sum.inr (Sum.inr (some k))
abbrev gN : gv_V := Sum.inr (Sum.inr none)
def gv_v (z : Nat → Nat) : gv_V → Value
  | Sum.inl x => .int x
  | Sum.inr (Sum.inl x) => .long x
  | Sum.inr (Sum.inr none) => .null
  | Sum.inr (Sum.inr (some k)) => .ref (z k)
/-- an array's contents: numbers, or references -/
abbrev gv_A : Type := (Nat → Int32) ⊕ (Nat → Option Nat)
/-- a cell: an array (kind, length, contents) or an object (class, fields) -/
abbrev gv_C : Type := (Nat × Nat × gv_A) ⊕ (Nat × List gv_V)
/-- the places taken, the cells and slots that are counted, what the places hold -/
abbrev gv_H : Type := Nat × (Nat × Nat) × (Nat → Option gv_C)
/-- launch, addresses, classes, array classes, the heap at the start, its size, the script -/
abbrev gv_G : Type := Launch × (Nat → Nat) × va_G × (Nat → ClassId) × Heap × Nat × Nat × (Nat → Int32)
def gv_arr (z : Nat → Nat) (t n : Nat) (c : gv_A) : vp_A := match c with
  | .inl f => if t = 1 then (n, .inr (.inl (fun j => (f j).toInt64))) else (n, .inl f)
  | .inr f => (n, .inr (.inr (.inr (.inr (fun j => (f j).map z)))))
def gv_e (G : gv_G) (c : gv_C) : va_E := match c with
  | .inl x => .inl (G.2.2.2.1 x.1, gv_arr G.2.1 x.1 x.2.1 x.2.2)
  | .inr x => .inr (x.1, x.2.map (gv_v G.2.1))
/-- the script's cell is old, the others come one behind the other -/
def gv_Ga (G : gv_G) : Prop := G.2.1 0 < G.2.2.2.2.2.1 ∧ ∀ k : Nat, G.2.1 (k + 1) = G.2.2.2.2.2.1 + k
theorem gv_Ga.ge {G : gv_G} (h : gv_Ga G) {k : Nat} (hk : k ≠ 0) : G.2.2.2.2.2.1 ≤ G.2.1 k := by
  cases k with
  | zero => exact absurd rfl hk
  | succ k => rw [h.2 k]; exact Nat.le_add_right _ _
theorem gv_Ga.ne {G : gv_G} (h : gv_Ga G) {j k : Nat} (hk : j ≠ k) : G.2.1 j ≠ G.2.1 k := by
  have h0 := h.1
  cases j with
  | zero =>
    cases k with
    | zero => exact absurd rfl hk
    | succ k => rw [h.2 k]; omega
  | succ j =>
    cases k with
    | zero => rw [h.2 j]; omega
    | succ k => rw [h.2 j, h.2 k]; omega
def gv_w (G : gv_G) (h : gv_H) (H : Heap) : Prop :=
  (gv_Ga G ∧ 1 ≤ h.1) ∧ H.size = G.2.1 h.1 ∧ (∀ q : Nat, q < G.2.2.2.2.2.1 → H[q]? = G.2.2.2.2.1[q]?) ∧ ∀ (k : Nat) (c : gv_C), h.2.2 k = some c → k < h.1 ∧ va_at G.2.2.1 gv_cl (G.2.1 k, gv_e G c) H
def gv_set (h : gv_H) (k : Nat) (c : gv_C) : gv_H := (h.1, h.2.1, fun j => if j = k then some c else h.2.2 j)
def gv_push (h : gv_H) (n : Nat) (c : gv_C) : gv_H := (h.1 + 1, (h.2.1.1 + 1, h.2.1.2 + n), fun j => if j = h.1 then some c else h.2.2 j)
theorem gv_one {G : gv_G} {h : gv_H} {H : Heap} {k : Nat} {c : gv_C} (hw : gv_w G h H) (hk : h.2.2 k = some c) : va_P G.2.2.1 gv_cl [(G.2.1 k, gv_e G c)] H := by
  intro i q hq
  cases i with
  | zero => cases hq; exact (hw.2.2.2 k c hk).2
  | succ i => simp at hq
theorem gv_w.set {G : gv_G} {h : gv_H} {H H1 : Heap} {k : Nat} {c0 c : gv_C} (hw : gv_w G h H) (h0 : k ≠ 0) (hk : h.2.2 k = some c0) (he : va_at G.2.2.1 gv_cl (G.2.1 k, gv_e G c) H1) (hz : H1.size = H.size) (oq : ∀ q : Nat, q ≠ G.2.1 k → H1[q]? = H[q]?) : gv_w G (gv_set h k c) H1 := by
  obtain ⟨hg, h1, h2, h3⟩ := hw
  refine ⟨hg, hz.trans h1, fun q hq => (oq q (fun e => ?_)).trans (h2 q hq), fun j x hj => ?_⟩
  · have := hg.1.ge h0
    omega
  simp only [gv_set] at hj
  by_cases e : j = k
  · rw [if_pos e] at hj
    cases hj
    rw [e]
    exact ⟨(h3 k c0 hk).1, he⟩
  · rw [if_neg e] at hj
    exact ⟨(h3 j x hj).1, (h3 j x hj).2.kept (oq _ (hg.1.ne e))⟩
theorem gv_w.push {G : gv_G} {h : gv_H} {H H1 : Heap} {n : Nat} {c : gv_C} (hw : gv_w G h H) (he : va_at G.2.2.1 gv_cl (G.2.1 h.1, gv_e G c) H1) (hz : H1.size = H.size + 1) (oq : ∀ q : Nat, q < H.size → H1[q]? = H[q]?) : gv_w G (gv_push h n c) H1 := by
  obtain ⟨hg, h1, h2, h3⟩ := hw
  have hsz : ∀ j, j < h.1 → G.2.1 j < H.size := by
    intro j hj
    rw [h1]
    have g1 := hg.1.1
    obtain ⟨k, hk⟩ : ∃ k, h.1 = k + 1 := ⟨h.1 - 1, by have := hg.2; omega⟩
    rw [hk, hg.1.2 k]
    cases j with
    | zero => omega
    | succ j => rw [hg.1.2 j]; omega
  have hsz2 : G.2.2.2.2.2.1 ≤ H.size := by rw [h1]; exact hg.1.ge (by have := hg.2; omega)
  refine ⟨⟨hg.1, Nat.le_succ_of_le hg.2⟩, ?_, fun q hq => (oq q (by omega)).trans (h2 q hq), fun j x hj => ?_⟩
  · obtain ⟨k, hk⟩ : ∃ k, h.1 = k + 1 := ⟨h.1 - 1, by have := hg.2; omega⟩
    show H1.size = G.2.1 (h.1 + 1)
    rw [hz, h1, hk, hg.1.2 k, hg.1.2 (k + 1)]
    omega
  simp only [gv_push] at hj ⊢
  by_cases e : j = h.1
  · rw [if_pos e] at hj
    cases hj
    rw [e]
    exact ⟨by omega, he⟩
  · rw [if_neg e] at hj
    obtain ⟨q1, q2⟩ := h3 j x hj
    exact ⟨by omega, q2.kept (oq _ (hsz j q1))⟩
/-- the locals that are known -/
abbrev gv_L : Type := List (Option gv_V)
def gv_ls (z : Nat → Nat) (nL : Nat) (A : Array Slot) (ls : gv_L) : Prop := A.size = nL ∧ lv_wf A ∧ ∀ (i : Nat) (v : gv_V), ls[i]? = some (some v) → A[i]? = some (.val (gv_v z v))
def gv_get (ls : gv_L) (i : Nat) : Option gv_V := match ls[i]? with
  | some (some v) => some v
  | _ => none
theorem gv_get_some {ls : gv_L} {i : Nat} {v : gv_V} (hg : gv_get ls i = some v) : ls[i]? = some (some v) := by
  unfold gv_get at hg
  split at hg
  next w hw => cases hg; exact hw
  next => cases hg
theorem gv_get_at {z : Nat → Nat} {nL : Nat} {A : Array Slot} {ls : gv_L} {i : Nat} {v : gv_V} (h : gv_ls z nL A ls) (hg : gv_get ls i = some v) : A[i]? = some (.val (gv_v z v)) := by
  refine h.2.2 i v ?_
  unfold gv_get at hg
  split at hg
  next w hw => cases hg; exact hw
  next => cases hg
def gv_isL (x : Option (Option gv_V)) : Bool := match x with
  | some (some (Sum.inr (Sum.inl _))) => true
  | _ => false
def gv_kill (ls : gv_L) (i : Nat) : gv_L := match i with
  | 0 => ls
  | j + 1 => if gv_isL ls[j]? then ls.set j none else ls
def gv_sto (ls : gv_L) (i : Nat) (v : gv_V) : gv_L := (gv_kill ls i).set i (some v)
def gv_stl (ls : gv_L) (i : Nat) (v : gv_V) : gv_L := ((gv_kill ls i).set (i + 1) none).set i (some v)
theorem gv_kill_at {ls : gv_L} {i j : Nat} {v : gv_V} (h : (gv_kill ls i)[j]? = some (some v)) : ls[j]? = some (some v) ∧ ¬ (j + 1 = i ∧ gv_isL (some (some v)) = true) := by
  unfold gv_kill at h
  split at h
  next => exact ⟨h, fun q => by omega⟩
  next k =>
    split at h
    next hl =>
      by_cases e : k = j
      · subst e
        rw [List.getElem?_set_self' ] at h
        revert h
        cases ls[k]? <;> simp
      · rw [List.getElem?_set_ne e] at h
        exact ⟨h, fun q => e (by omega)⟩
    next hl =>
      refine ⟨h, fun q => ?_⟩
      have e : j = k := by omega
      subst e
      rw [h] at hl
      exact hl q.2
theorem gv_cat {z : Nat → Nat} {v : gv_V} : (gv_v z v).category = 2 ↔ gv_isL (some (some v)) = true := by
  rcases v with x | x | x | x <;> simp [gv_v, gv_isL, Value.category]
/-- the known locals as the kit lists them -/
def gv_ll (z : Nat → Nat) (ls : gv_L) : List (Nat × Value) := (List.range ls.length).filterMap (fun i => (gv_get ls i).map (fun v => (i, gv_v z v)))
theorem gv_ll_mem {z : Nat → Nat} {ls : gv_L} {i : Nat} {v : gv_V} (h : ls[i]? = some (some v)) : (i, gv_v z v) ∈ gv_ll z ls := by
  refine List.mem_filterMap.mpr ⟨i, List.mem_range.mpr (List.getElem?_eq_some_iff.mp h).1, ?_⟩
  simp [gv_get, h]
theorem gv_ll_has {z : Nat → Nat} {nL : Nat} {A : Array Slot} {ls : gv_L} (h : gv_ls z nL A ls) : lv_has A nL (gv_ll z ls) := by
  refine ⟨h.1, h.2.1, fun q hq => ?_⟩
  obtain ⟨i, -, hi⟩ := List.mem_filterMap.mp hq
  cases hg : gv_get ls i with
  | none => rw [hg] at hi; cases hi
  | some v =>
    rw [hg] at hi
    cases hi
    exact gv_get_at h hg
theorem gv_sto_has {z : Nat → Nat} {nL : Nat} {A : Array Slot} {ls : gv_L} {i : Nat} {v : gv_V} (h : lv_has A nL ((i, gv_v z v) :: (gv_ll z ls).filter (fun q => !(q.1 == i) && !(q.1 + 1 == i && q.2.category == 2)))) : gv_ls z nL A (gv_sto ls i v) := by
  refine ⟨h.1, h.2.1, fun j u hj => ?_⟩
  unfold gv_sto at hj
  by_cases e : i = j
  · subst e
    rw [List.getElem?_set_self'] at hj
    have hv : u = v := by
      revert hj
      cases (gv_kill ls i)[i]? <;> simp
      exact fun q => q.symm
    rw [hv]
    exact h.2.2 (i, gv_v z v) List.mem_cons_self
  · rw [List.getElem?_set_ne e] at hj
    obtain ⟨h1, h2⟩ := gv_kill_at hj
    refine h.2.2 (j, gv_v z u) (List.mem_cons_of_mem _ (List.mem_filter.mpr ⟨gv_ll_mem h1, ?_⟩))
    by_cases e2 : j + 1 = i
    · have h3 : ¬ (gv_v z u).category = 2 := fun q => h2 ⟨e2, gv_cat.mp q⟩
      simp [Ne.symm e, e2, h3]
    · simp [Ne.symm e, e2]
theorem gv_stl_has {z : Nat → Nat} {nL : Nat} {A : Array Slot} {ls : gv_L} {i : Nat} {v : gv_V} (h : lv_has A nL ((i, gv_v z v) :: (gv_ll z ls).filter (fun q => !(q.1 == i) && (!(q.1 == i + 1) && !(q.1 + 1 == i && q.2.category == 2))))) : gv_ls z nL A (gv_stl ls i v) := by
  refine ⟨h.1, h.2.1, fun j u hj => ?_⟩
  unfold gv_stl at hj
  by_cases e : i = j
  · subst e
    rw [List.getElem?_set_self'] at hj
    have hv : u = v := by
      revert hj
      cases ((gv_kill ls i).set (i + 1) none)[i]? <;> simp
      exact fun q => q.symm
    rw [hv]
    exact h.2.2 (i, gv_v z v) List.mem_cons_self
  · rw [List.getElem?_set_ne e] at hj
    by_cases e1 : i + 1 = j
    · subst e1
      rw [List.getElem?_set_self'] at hj
      revert hj
      cases (gv_kill ls i)[i + 1]? <;> simp
    · rw [List.getElem?_set_ne e1] at hj
      obtain ⟨h1, h2⟩ := gv_kill_at hj
      refine h.2.2 (j, gv_v z u) (List.mem_cons_of_mem _ (List.mem_filter.mpr ⟨gv_ll_mem h1, ?_⟩))
      by_cases e2 : j + 1 = i
      · have h3 : ¬ (gv_v z u).category = 2 := fun q => h2 ⟨e2, gv_cat.mp q⟩
        simp [Ne.symm e, Ne.symm e1, e2, h3]
      · simp [Ne.symm e, Ne.symm e1, e2]
/-- the locals with which a method begins -/
def gv_ent (args : List gv_V) : gv_L := args.flatMap (fun v => if gv_isL (some (some v)) then [some v, none] else [some v])
theorem gv_ent_args {z : Nat → Nat} : ∀ (args : List gv_V) (o i : Nat) (v : gv_V), (gv_ent args)[i]? = some (some v) → (o + i, gv_v z v) ∈ lv_args o (args.map (gv_v z))
  | [], o, i, v, h => by simp [gv_ent] at h
  | a :: as, o, i, v, h => by
    have hc : gv_ent (a :: as) = (if gv_isL (some (some a)) then [some a, none] else [some a]) ++ gv_ent as := rfl
    rw [hc] at h
    have ih := gv_ent_args (z := z) as
    simp only [List.map_cons, lv_args]
    by_cases e : gv_isL (some (some a)) = true
    · rw [if_pos e] at h
      have e2 : (gv_v z a).category = 2 := gv_cat.mpr e
      rw [if_pos e2]
      match i, h with
      | 0, h => simp at h; subst h; exact List.mem_cons_self
      | 1, h => simp at h
      | i + 2, h =>
        have h' : (gv_ent as)[i]? = some (some v) := by simpa using h
        refine List.mem_cons_of_mem _ ?_
        have := ih (o + 2) i v h'
        rwa [show o + 2 + i = o + (i + 2) by omega] at this
    · rw [if_neg e] at h
      have e2 : ¬ (gv_v z a).category = 2 := fun q => e (gv_cat.mp q)
      rw [if_neg e2]
      match i, h with
      | 0, h => simp at h; subst h; exact List.mem_cons_self
      | i + 1, h =>
        have h' : (gv_ent as)[i]? = some (some v) := by simpa using h
        refine List.mem_cons_of_mem _ ?_
        have := ih (o + 1) i v h'
        rwa [show o + 1 + i = o + (i + 1) by omega] at this
end GVA
end
section
/-! gx: one step of the machine over the picture, as a function -/
section GXA
/-- a place of the code: what it does, an int, a long, two numbers, the place of its word in the tables, the next place, a switch's roads -/
abbrev gv_J : Type := Nat × Int32 × Int64 × Nat × Nat × Nat × Nat × List (Int32 × Nat)
/-- a method: name, bytes, locals, answer, code; the places of its words (code, initialized, instance or static, selects), its parameters, its exception table -/
abbrev gv_M : Type := MethodName × ByteArray × Nat × Option FieldType × List (Nat × gv_J) × (Nat × Nat × Nat × Nat × Nat × List (Nat × Nat × Nat × Nat))
abbrev gv_S : Type := Nat × gv_L × List gv_V × gv_H
def gv_lk : List (Nat × gv_J) → Nat → Option gv_J
  | [], _ => none
  | (a, j) :: l, pc => match Nat.beq a pc with
    | true => some j
    | false => gv_lk l pc
theorem gv_lk_mem {pc : Nat} {j : gv_J} : ∀ {l : List (Nat × gv_J)}, gv_lk l pc = some j → (pc, j) ∈ l
  | [], h => by cases h
  | (a, k) :: l, h => by
    unfold gv_lk at h
    split at h
    next e =>
      cases h
      rw [Nat.eq_of_beq_eq_true e]
      exact List.mem_cons_self
    next => exact List.mem_cons_of_mem _ (gv_lk_mem h)
/-- constants, locals, jumps -/
def gv_x1 (J : gv_J) (ls : gv_L) (st : List gv_V) (h : gv_H) : Option gv_S := match J with
  | (1, v, _, _, _, _, nx, _) => some (nx, ls, gI v :: st, h)
  | (2, _, w, _, _, _, nx, _) => some (nx, ls, gL w :: st, h)
  | (3, _, _, a, _, _, nx, _) => match gv_get ls a with
    | some (Sum.inl x) => some (nx, ls, gI x :: st, h)
    | _ => none
  | (4, _, _, a, _, _, nx, _) => match gv_get ls a with
    | some (Sum.inr (Sum.inl x)) => some (nx, ls, gL x :: st, h)
    | _ => none
  | (5, _, _, a, _, _, nx, _) => match gv_get ls a with
    | some (Sum.inr (Sum.inr (some x))) => some (nx, ls, gR x :: st, h)
    | _ => none
  | (6, _, _, a, _, _, nx, _) => match st with
    | Sum.inl x :: st => some (nx, gv_sto ls a (gI x), st, h)
    | _ => none
  | (7, _, _, a, _, _, nx, _) => match st with
    | Sum.inr (Sum.inl x) :: st => some (nx, gv_stl ls a (gL x), st, h)
    | _ => none
  | (8, _, _, a, _, _, nx, _) => match st with
    | Sum.inr (Sum.inr (some x)) :: st => some (nx, gv_sto ls a (gR x), st, h)
    | _ => none
  | (9, v, _, a, _, _, nx, _) => match gv_get ls a with
    | some (Sum.inl x) => some (nx, gv_sto ls a (gI (x + v)), st, h)
    | _ => none
  | (10, _, _, a, _, _, _, _) => some (a, ls, st, h)
  | _ => none
/-- arithmetic -/
def gv_x2 (J : gv_J) (ls : gv_L) (st : List gv_V) (h : gv_H) : Option gv_S := match J with
  | (20, _, _, _, _, _, nx, _) => match st with
    | Sum.inl y :: Sum.inl x :: st => some (nx, ls, gI (x + y) :: st, h)
    | _ => none
  | (21, _, _, _, _, _, nx, _) => match st with
    | Sum.inl y :: Sum.inl x :: st => some (nx, ls, gI (x - y) :: st, h)
    | _ => none
  | (22, _, _, _, _, _, nx, _) => match st with
    | Sum.inl y :: Sum.inl x :: st => some (nx, ls, gI (x * y) :: st, h)
    | _ => none
  | (23, _, _, _, _, _, nx, _) => match st with
    | Sum.inl y :: Sum.inl x :: st => some (nx, ls, gI (x &&& y) :: st, h)
    | _ => none
  | (24, _, _, _, _, _, nx, _) => match st with
    | Sum.inl y :: Sum.inl x :: st => some (nx, ls, gI (x ||| y) :: st, h)
    | _ => none
  | (25, _, _, _, _, _, nx, _) => match st with
    | Sum.inl y :: Sum.inl x :: st => some (nx, ls, gI (x <<< (y &&& 31)) :: st, h)
    | _ => none
  | (26, _, _, _, _, _, nx, _) => match st with
    | Sum.inl y :: Sum.inl x :: st => some (nx, ls, gI (x >>> (y &&& 31)) :: st, h)
    | _ => none
  | (27, _, _, _, _, _, nx, _) => match st with
    | Sum.inl y :: Sum.inl x :: st => if y = 0 then none else some (nx, ls, gI (x / y) :: st, h)
    | _ => none
  | (28, _, _, _, _, _, nx, _) => match st with
    | Sum.inl y :: Sum.inl x :: st => some (nx, ls, gI (x.toUInt32 >>> (y.toUInt32 &&& Int32.toUInt32 31)).toInt32 :: st, h)
    | _ => none
  | (30, _, _, _, _, _, nx, _) => match st with
    | Sum.inl x :: st => some (nx, ls, gL x.toInt64 :: st, h)
    | _ => none
  | (31, _, _, _, _, _, nx, _) => match st with
    | Sum.inr (Sum.inl x) :: st => some (nx, ls, gI x.toInt32 :: st, h)
    | _ => none
  | (32, _, _, _, _, _, nx, _) => match st with
    | Sum.inr (Sum.inl y) :: Sum.inr (Sum.inl x) :: st => some (nx, ls, gL (x + y) :: st, h)
    | _ => none
  | (33, _, _, _, _, _, nx, _) => match st with
    | Sum.inr (Sum.inl y) :: Sum.inr (Sum.inl x) :: st => some (nx, ls, gL (x - y) :: st, h)
    | _ => none
  | (34, _, _, _, _, _, nx, _) => match st with
    | Sum.inr (Sum.inl y) :: Sum.inr (Sum.inl x) :: st => some (nx, ls, gL (x * y) :: st, h)
    | _ => none
  | (35, _, _, _, _, _, nx, _) => match st with
    | Sum.inr (Sum.inl y) :: Sum.inr (Sum.inl x) :: st => if y = 0 then none else some (nx, ls, gL (x / y) :: st, h)
    | _ => none
  | (36, _, _, _, _, _, nx, _) => match st with
    | Sum.inr (Sum.inl y) :: Sum.inr (Sum.inl x) :: st => some (nx, ls, gI (lg_cmp x y) :: st, h)
    | _ => none
  | (37, _, _, _, _, _, nx, _) => match st with
    | Sum.inl y :: Sum.inr (Sum.inl x) :: st => some (nx, ls, gL (x <<< (y.toInt64 &&& 63)) :: st, h)
    | _ => none
  | (38, _, _, _, _, _, nx, _) => match st with
    | Sum.inl y :: Sum.inr (Sum.inl x) :: st => some (nx, ls, gL (x >>> (y.toInt64 &&& 63)) :: st, h)
    | _ => none
  | _ => none
/-- the stack -/
def gv_x3 (J : gv_J) (ls : gv_L) (st : List gv_V) (h : gv_H) : Option gv_S := match J with
  | (40, _, _, _, _, _, nx, _) => match st with
    | v :: st => if gv_isL (some (some v)) then none else some (nx, ls, v :: v :: st, h)
    | _ => none
  | (41, _, _, _, _, _, nx, _) => match st with
    | v :: w :: st => if gv_isL (some (some v)) || gv_isL (some (some w)) then none else some (nx, ls, v :: w :: v :: w :: st, h)
    | _ => none
  | (42, _, _, _, _, _, nx, _) => match st with
    | v :: w :: st => if gv_isL (some (some v)) || gv_isL (some (some w)) then none else some (nx, ls, v :: w :: v :: st, h)
    | _ => none
  | (43, _, _, _, _, _, nx, _) => match st with
    | v :: w :: u :: st => if gv_isL (some (some v)) || gv_isL (some (some w)) || gv_isL (some (some u)) then none else some (nx, ls, v :: w :: u :: v :: st, h)
    | _ => none
  | (44, _, _, _, _, _, nx, _) => match st with
    | v :: st => if gv_isL (some (some v)) then none else some (nx, ls, st, h)
    | _ => none
  | _ => none
/-- switches: the first road whose number it is, else the other one -/
def gv_sw (x : Int32) (a : Nat) : List (Int32 × Nat) → Nat
  | [] => a
  | (k, t) :: l => if x = k then t else gv_sw x a l
/-- branches -/
def gv_x4 (J : gv_J) (ls : gv_L) (st : List gv_V) (h : gv_H) : Option gv_S := match J with
  | (50, _, _, a, _, _, nx, _) => match st with
    | Sum.inl x :: st => some (if x = 0 then a else nx, ls, st, h)
    | _ => none
  | (51, _, _, a, _, _, nx, _) => match st with
    | Sum.inl x :: st => some (if ¬ x = 0 then a else nx, ls, st, h)
    | _ => none
  | (52, _, _, a, _, _, nx, _) => match st with
    | Sum.inl x :: st => some (if x < 0 then a else nx, ls, st, h)
    | _ => none
  | (53, _, _, a, _, _, nx, _) => match st with
    | Sum.inl x :: st => some (if 0 ≤ x then a else nx, ls, st, h)
    | _ => none
  | (54, _, _, a, _, _, nx, _) => match st with
    | Sum.inl x :: st => some (if 0 < x then a else nx, ls, st, h)
    | _ => none
  | (55, _, _, a, _, _, nx, _) => match st with
    | Sum.inl x :: st => some (if x ≤ 0 then a else nx, ls, st, h)
    | _ => none
  | (56, _, _, a, _, _, nx, _) => match st with
    | Sum.inl y :: Sum.inl x :: st => some (if x = y then a else nx, ls, st, h)
    | _ => none
  | (57, _, _, a, _, _, nx, _) => match st with
    | Sum.inl y :: Sum.inl x :: st => some (if ¬ x = y then a else nx, ls, st, h)
    | _ => none
  | (58, _, _, a, _, _, nx, _) => match st with
    | Sum.inl y :: Sum.inl x :: st => some (if x < y then a else nx, ls, st, h)
    | _ => none
  | (59, _, _, a, _, _, nx, _) => match st with
    | Sum.inl y :: Sum.inl x :: st => some (if y ≤ x then a else nx, ls, st, h)
    | _ => none
  | (60, _, _, a, _, _, nx, _) => match st with
    | Sum.inl y :: Sum.inl x :: st => some (if y < x then a else nx, ls, st, h)
    | _ => none
  | (61, _, _, a, _, _, nx, _) => match st with
    | Sum.inl y :: Sum.inl x :: st => some (if x ≤ y then a else nx, ls, st, h)
    | _ => none
  | (62, _, _, a, _, _, _, tb) => match st with
    | Sum.inl x :: st => some (gv_sw x a tb, ls, st, h)
    | _ => none
  | _ => none
end GXA
end
section
/-! gy: the walk of a method over the picture -/
section GYA
def gv_nest (w : Jvm.Cond) : Bool := match w with
  | .fieldLinkNest _ _ _ _ _ _ => true
  | .methodLinkNest _ _ _ _ => true
  | .arrayOver (.object _) => true
  | .castable _ _ => true
  | .declares _ => true
  | _ => false
def gv_gd (w : Jvm.Cond) : Bool := goodWord w || gv_nest w
def gv_ty (G : gv_G) : List (ClassId × FieldType) := [(G.2.2.2.1 0, .int), (G.2.2.2.1 1, .long), (G.2.2.2.1 2, .boolean), (G.2.2.2.1 3, .object gv_qc)]
/-- a static of Throwable: where it lies, that it is a reference -/
def gx_st (n d : String) (U : State) (H : Heap) (zz : Nat) : Prop := ∃ (c : ClassId) (k : Class) (i : Nat) (f : Field) (a : Nat) (cell : Cell) (v : Value), U.vm.findClass "java/lang/Throwable" = some c ∧ U.fieldFound? "java/lang/Throwable" n d = some (c, k, i, f) ∧ f.isStatic = true ∧ k.statics = some a ∧ H[a]? = some cell ∧ cell.vm.isStatics = true ∧ cell.cls = c ∧ f.slot < cell.slots.size ∧ k.staticTypes[f.slot]? = some f.type ∧ a < zz ∧ cell.slots[f.slot]? = some v ∧ v.isRef = true
theorem gx_st.moved {n d : String} {u U : State} {H H1 : Heap} {zz : Nat} (hvm : u.vm.Alike U.vm) (hH : ∀ q : Nat, q < zz → H1[q]? = H[q]?) (h : gx_st n d u H zz) : gx_st n d U H1 zz := by
  obtain ⟨c, k, i, f, a, cell, v, h1, h2, h3, h4, h5, h6, h7, h8, h9, h10, h11, h12⟩ := h
  obtain ⟨k', hi', he⟩ := State.fieldFound?_setVm hvm h2
  exact ⟨c, k', i, f, a, cell, v, by rw [hvm.findClass]; exact h1, hi', h3, by rw [he]; exact h4, by rw [hH a h10]; exact h5, h6, h7, h8, by rw [he]; exact h9, h10, h11, h12⟩
theorem gx_st.lays {n d : String} {s : State} {zz : Nat} {args : Array Value} (h : gx_st n d s s.heap zz) : (Jvm.Cond.laysStatic "java/lang/Throwable" n d).before args s = true := by
  obtain ⟨c, k, i, f, a, cell, v, h1, h2, h3, h4, h5, h6, h7, h8, h9, h10, h11, h12⟩ := h
  exact Cond.laysStatic_of h1 h2 h3 h4 h5 h6 h7 h8 h9
theorem gx_st.isRef {n d : String} {s : State} {zz : Nat} {args : Array Value} (h : gx_st n d s s.heap zz) : (Jvm.Cond.isRef (.static "java/lang/Throwable" n d)).before args s = true := by
  obtain ⟨c, k, i, f, a, cell, v, h1, h2, h3, h4, h5, h6, h7, h8, h9, h10, h11, h12⟩ := h
  have he : (Term.static "java/lang/Throwable" n d).eval args s none [] s = some v := by
    simp [Term.eval, State.fieldNamed?, h2, h3, h4, h5, h6, h11]
  simp only [Jvm.Cond.before, Jvm.Cond.holds, Jvm.Cond.value, he]
  cases v <;> simp_all [Value.isRef]
/-- pairs of exceptions of which the first can't be cast to the second -/
def gx_nc : List (String × String) := [("java/lang/IllegalStateException", "java/lang/IllegalArgumentException"), ("java/lang/IllegalArgumentException", "java/lang/IllegalStateException"), ("java/lang/ArithmeticException", "java/lang/IllegalArgumentException"), ("java/lang/ArithmeticException", "java/lang/IllegalStateException"), ("java/lang/UnsupportedOperationException", "java/lang/IllegalArgumentException"), ("java/lang/UnsupportedOperationException", "java/lang/IllegalStateException"), ("java/lang/UnsupportedOperationException", "java/lang/ArithmeticException")]
def gx_K (G : gv_G) (s : State) : Prop := G.1.stackTraces = false ∧ (∀ q ∈ gx_nc, va_Nc q.1 q.2 s) ∧ gx_st "UNASSIGNED_STACK" "[Ljava/lang/StackTraceElement;" s G.2.2.2.2.1 G.2.2.2.2.2.1 ∧ gx_st "SUPPRESSED_SENTINEL" "Ljava/util/List;" s G.2.2.2.2.1 G.2.2.2.2.2.1
/-- what the tables say, at a state -/
def gv_K (G : gv_G) (s : State) : Prop := (∀ w ∈ gv_T, gv_gd w = true → va_Nw w s) ∧ va_K G.2.2.1 gv_cl (gv_ty G) s ∧ va_X (G.2.1 0) G.2.2.2.2.2.2.1 G.2.2.2.2.2.2.2 s G.2.2.2.2.1 ∧ gx_K G s
theorem gv_Nw_moved {w : Jvm.Cond} (hg : gv_gd w = true) {s U : State} (hW : s.WarmedH U.vm) (h : va_Nw w s) : va_Nw w U := by
  unfold gv_gd at hg
  rw [Bool.or_eq_true] at hg
  rcases hg with hg | hg
  · exact word_at hW (good_of_word hg) h
  · unfold gv_nest at hg
    split at hg
    next => exact va_Nw.warmF hW h
    next => exact va_Nw.warmM hW h
    next => exact va_AO.moved hW.alike h
    next => exact va_Nw.warmC hW h
    next => exact va_Nw.warmD hW h
    next => cases hg
theorem gv_K.moved {G : gv_G} {s U : State} (hW : s.WarmedH U.vm) (h : gv_K G s) : gv_K G U :=
  ⟨fun w hw hg => gv_Nw_moved hg hW (h.1 w hw hg), va_K.moved hW.alike h.2.1, va_X.moved hW.alike h.2.2.1, h.2.2.2.1, fun q hq => (h.2.2.2.2.1 q hq).moved hW.alike, gx_st.moved hW.alike (fun _ _ => rfl) h.2.2.2.2.2.1, gx_st.moved hW.alike (fun _ _ => rfl) h.2.2.2.2.2.2⟩
theorem gv_K.same {G : gv_G} {s U : State} (hv : s.vm = U.vm) (h : gv_K G s) : gv_K G U := by
  have hW : s.WarmedH U.vm := by rw [← hv]; exact State.WarmedH.refl s
  exact gv_K.moved hW h
theorem gv_K.use {G : gv_G} {s : State} (h : gv_K G s) {w : Jvm.Cond} (i : Nat) (hi : gv_T[i]? = some w) (hg : gv_gd w = true) (args : Array Value) : w.before args s = true := by
  have h1 := h.1 w (List.mem_of_getElem? hi) hg
  unfold gv_gd at hg
  rw [Bool.or_eq_true] at hg
  rcases hg with hg | hg
  · exact word_at (State.WarmedH.refl s) (good_of_word hg) h1
  · unfold gv_nest at hg
    split at hg
    next => exact va_Nw.use rfl h1
    next => exact va_Nw.use rfl h1
    next => exact va_AO.use h1
    next => exact va_Nw.use rfl h1
    next => exact va_Nw.use rfl h1
    next => cases hg
def gv_room (d mc ms : Nat) : Room := { frames := d + 8, cells := mc, slots := ms, locals := 64 * d + 200 }
/-- what a method's activation is -/
def gv_X (G : gv_G) (y : gv_M) (p : Program) (s : State) (m : MethodId) (meth : Method) (c : Code) : Prop :=
  p.tables.exec = Jvm.exec ∧ c.code = y.2.1 ∧ c.maxLocals = y.2.2.1 ∧ s.vm.findClass y.1.cls = some m.cls ∧ gv_K G s ∧ meth.sig.returnType = y.2.2.2.1 ∧ meth.locks = false ∧ meth.name = y.1.name ∧ c.exceptionTable.toList.map (fun h => (h.startPc, h.endPc, h.handlerPc, h.catchType)) = y.2.2.2.2.2.2.2.2.2.2
/-- how a method ends: an answer; an exception's class; the law's own end; an answer behind which more places may be taken -/
abbrev gv_O : Type := Option gv_V ⊕ (String ⊕ Option (Option gv_V))
def gv_Qv (G : gv_G) (v : Option gv_V) (hf : gv_H) : Array Value → State → Outcome → State → Prop := fun _ _ o t => o = .returned (v.map (gv_v G.2.1)) ∧ gv_w G hf t.heap
def gv_Ql (G : gv_G) (v : Option gv_V) (hf : gv_H) : Array Value → State → Outcome → State → Prop := fun _ _ o t => o = .returned (v.map (gv_v G.2.1)) ∧ ∃ δ : Nat, gv_w G (hf.1 + δ, hf.2) t.heap
def gv_fr (G : gv_G) : Addr → Prop := fun q => G.2.2.2.2.2.1 ≤ q
/-- a method has thrown q, of class E, and made that one cell -/
def gx_T (G : gv_G) (E : String) (hf : gv_H) (s : State) (q : Addr) (t : State) (mc ms : Nat) : Prop :=
  ∃ (ce : Cell) (L : List Loc) (δ : Nat), t.heap[q]? = some ce ∧ ce.vm = .none ∧ s.vm.findClass E = some ce.cls ∧ s.WarmedH t.vm ∧ s.sameButNew ({ t with vm := s.vm } : State) L mc ms ∧ (∀ z ∈ L, gv_fr G z.base) ∧ gv_w G (hf.1 + δ, hf.2) t.heap
def gv_fin (G : gv_G) (r : gv_O) (hf : gv_H) (below : List Frame) (args : Array Value) (s : State) (mc ms : Nat) : State → Prop := match r with
  | .inl v => MQ below (gv_Qv G v hf) args s mc ms (gv_fr G)
  | .inr (.inl E) => fun t => ∃ q, t.status = .running ∧ Ended t below (.threw q) ∧ gx_T G E hf s q t mc ms
  | .inr (.inr none) => fun t => s.heap.size = G.2.2.2.2.2.1 → lw_Z below args s t
  | .inr (.inr (some v)) => MQ below (gv_Ql G v hf) args s mc ms (gv_fr G)
/-- the method goes on from here to its end: answer r, picture hf -/
def gv_go (G : gv_G) (y : gv_M) (d : Nat) (r : gv_O) (hf : gv_H) (pc : Nat) (ls : gv_L) (st : List gv_V) (h : gv_H) : Prop :=
  (h.2.1.1 ≤ hf.2.1.1 ∧ h.2.1.2 ≤ hf.2.1.2) ∧
  ∀ (h0 : gv_H) (p : Program) (e : Env) (s : State) (m : MethodId) (args : Array Value) (below : List Frame) (meth : Method) (c : Code) (H : Heap) (locs : List Loc) (A : Array Slot),
    h0.2.1.1 ≤ h.2.1.1 → h0.2.1.2 ≤ h.2.1.2 → gv_X G y p s m meth c → gv_w G h H → (∀ q ∈ locs, gv_fr G q.base) → gv_ls G.2.1 y.2.2.1 A ls →
    W p G.1 e (gv_room d (hf.2.1.1 - h0.2.1.1) (hf.2.1.2 - h0.2.1.2)) s m args below meth c H locs (h.2.1.1 - h0.2.1.1) (h.2.1.2 - h0.2.1.2) (gv_fin G r hf below args s (hf.2.1.1 - h0.2.1.1) (hf.2.1.2 - h0.2.1.2)) (F0 m pc A (st.map (gv_v G.2.1)))
variable {G : gv_G} {y : gv_M} {d : Nat} {r : gv_O} {hf : gv_H} {pc pc' : Nat} {ls ls' : gv_L} {st st' : List gv_V} {h h' : gv_H}
/-- a step that leaves the cells as they are -/
theorem gv_pure (hs : ∀ (p : Program) (e : Env) (R : Room) (s : State) (m : MethodId) (args : Array Value) (below : List Frame) (meth : Method) (c : Code) (H : Heap) (locs : List Loc) (cells slots : Nat) (Q : State → Prop) (A : Array Slot),
      gv_X G y p s m meth c → gv_w G h H → gv_ls G.2.1 y.2.2.1 A ls → (∀ A' : Array Slot, gv_ls G.2.1 y.2.2.1 A' ls' → W p G.1 e R s m args below meth c H locs cells slots Q (F0 m pc' A' (st'.map (gv_v G.2.1)))) →
      W p G.1 e R s m args below meth c H locs cells slots Q (F0 m pc A (st.map (gv_v G.2.1))))
    (k : gv_go G y d r hf pc' ls' st' h) : gv_go G y d r hf pc ls st h :=
  ⟨k.1, fun h0 p e s m args below meth c H locs A q1 q2 X hw hl hA => hs p e _ s m args below meth c H locs _ _ _ A X hw hA (fun A' hA' => k.2 h0 p e s m args below meth c H locs A' q1 q2 X hw hl hA')⟩
/-- a step that writes a cell -/
theorem gv_wr {kk : Nat} {cc : gv_C} (h0 : kk ≠ 0) (hs : ∀ (p : Program) (e : Env) (R : Room) (s : State) (m : MethodId) (args : Array Value) (below : List Frame) (meth : Method) (c : Code) (H : Heap) (locs : List Loc) (cells slots : Nat) (Q : State → Prop) (A : Array Slot),
      gv_X G y p s m meth c → gv_w G h H → gv_ls G.2.1 y.2.2.1 A ls → (∀ (H1 : Heap) (i : Nat), gv_w G (gv_set h kk cc) H1 → W p G.1 e R s m args below meth c H1 (locs ++ [⟨G.2.1 kk, i⟩]) cells slots Q (F0 m pc' A (st'.map (gv_v G.2.1)))) →
      W p G.1 e R s m args below meth c H locs cells slots Q (F0 m pc A (st.map (gv_v G.2.1))))
    (k : gv_go G y d r hf pc' ls st' (gv_set h kk cc)) : gv_go G y d r hf pc ls st h :=
  ⟨k.1, fun h9 p e s m args below meth c H locs A q1 q2 X hw hl hA => hs p e _ s m args below meth c H locs _ _ _ A X hw hA (fun H1 i hw1 => k.2 h9 p e s m args below meth c H1 _ A q1 q2 X hw1 (fun q hq => by
    rcases List.mem_append.mp hq with hq | hq
    · exact hl q hq
    · rw [List.mem_singleton.mp hq]
      exact hw.1.1.ge h0) hA)⟩
/-- a step that makes a cell -/
theorem gv_mk {n : Nat} {cc : gv_C} (hs : ∀ (p : Program) (e : Env) (R : Room) (s : State) (m : MethodId) (args : Array Value) (below : List Frame) (meth : Method) (c : Code) (H : Heap) (locs : List Loc) (cells slots : Nat) (Q : State → Prop) (A : Array Slot),
      gv_X G y p s m meth c → gv_w G h H → gv_ls G.2.1 y.2.2.1 A ls → cells + 1 ≤ R.cells → slots + n ≤ R.slots → (∀ H1 : Heap, gv_w G (gv_push h n cc) H1 → W p G.1 e R s m args below meth c H1 locs (cells + 1) (slots + n) Q (F0 m pc' A (st'.map (gv_v G.2.1)))) →
      W p G.1 e R s m args below meth c H locs cells slots Q (F0 m pc A (st.map (gv_v G.2.1))))
    (k : gv_go G y d r hf pc' ls st' (gv_push h n cc)) : gv_go G y d r hf pc ls st h := by
  have k1 : h.2.1.1 + 1 ≤ hf.2.1.1 ∧ h.2.1.2 + n ≤ hf.2.1.2 := k.1
  refine ⟨⟨by omega, by omega⟩, fun h0 p e s m args below meth c H locs A q1 q2 X hw hl hA => hs p e _ s m args below meth c H locs _ _ _ A X hw hA (by show _ ≤ hf.2.1.1 - h0.2.1.1; omega) (by show _ ≤ hf.2.1.2 - h0.2.1.2; omega) (fun H1 hw1 => ?_)⟩
  have k2 := k.2 h0 p e s m args below meth c H1 locs A (Nat.le_succ_of_le q1) (Nat.le_trans q2 (Nat.le_add_right _ _)) X hw1 hl hA
  have e1 : h.2.1.1 - h0.2.1.1 + 1 = (gv_push h n cc).2.1.1 - h0.2.1.1 := by show _ = h.2.1.1 + 1 - h0.2.1.1; omega
  have e2 : h.2.1.2 - h0.2.1.2 + n = (gv_push h n cc).2.1.2 - h0.2.1.2 := by show _ = h.2.1.2 + n - h0.2.1.2; omega
  rw [e1, e2]
  exact k2
end GYA
end
section
/-! gz: the steps are the machine's -/
section GZA
def gv_tw (i : Nat) (w : Jvm.Cond) : Bool := decide (gv_T[i]? = some w) && gv_gd w
theorem gv_tw_use {G : gv_G} {s : State} (h : gv_K G s) {i : Nat} {w : Jvm.Cond} (hi : gv_tw i w = true) (args : Array Value) : w.before args s = true := by
  unfold gv_tw at hi
  rw [Bool.and_eq_true, decide_eq_true_eq] at hi
  exact h.use i hi.1 hi.2 args
def gv_ck1 (own : String) (nL pc : Nat) (J : gv_J) (i : Instr) (n : Nat) : Bool := match J, i with
  | (1, v, _, _, _, _, nx, _), .iconst c => decide (n = 1 ∧ nx = pc + 1 ∧ Int32.ofInt c = v)
  | (1, v, _, _, _, _, nx, _), .bipush c => decide (n = 2 ∧ nx = pc + 2 ∧ (Int8.ofInt c).toInt32 = v)
  | (1, v, _, _, _, _, nx, _), .sipush c => decide (n = 3 ∧ nx = pc + 3 ∧ (Int16.ofInt c).toInt32 = v)
  | (1, v, _, _, _, wp, nx, _), .ldc x => decide (n = 2 ∧ nx = pc + 2 ∧ gv_tw wp (.constant own x v) = true)
  | (2, _, w, _, _, _, nx, _), .lconst c => decide (n = 1 ∧ nx = pc + 1 ∧ Int64.ofNat (c : Nat) = w)
  | (2, _, w, _, _, wp, nx, _), .ldc2_w x => decide (n = 3 ∧ nx = pc + 3 ∧ gv_tw wp (.constantLong own x w) = true)
  | (3, _, _, a, _, _, nx, _), .iload_n k => decide (n = 1 ∧ nx = pc + 1 ∧ (k : Nat) = a)
  | (3, _, _, a, _, _, nx, _), .iload k => decide (n = 2 ∧ nx = pc + 2 ∧ k = a)
  | (4, _, _, a, _, _, nx, _), .lload_n k => decide (n = 1 ∧ nx = pc + 1 ∧ (k : Nat) = a)
  | (4, _, _, a, _, _, nx, _), .lload k => decide (n = 2 ∧ nx = pc + 2 ∧ k = a)
  | (5, _, _, a, _, _, nx, _), .aload_n k => decide (n = 1 ∧ nx = pc + 1 ∧ (k : Nat) = a)
  | (5, _, _, a, _, _, nx, _), .aload k => decide (n = 2 ∧ nx = pc + 2 ∧ k = a)
  | (6, _, _, a, _, _, nx, _), .istore_n k => decide (n = 1 ∧ nx = pc + 1 ∧ (k : Nat) = a ∧ a < nL)
  | (6, _, _, a, _, _, nx, _), .istore k => decide (n = 2 ∧ nx = pc + 2 ∧ k = a ∧ a < nL)
  | (7, _, _, a, _, _, nx, _), .lstore_n k => decide (n = 1 ∧ nx = pc + 1 ∧ (k : Nat) = a ∧ a + 1 < nL)
  | (7, _, _, a, _, _, nx, _), .lstore k => decide (n = 2 ∧ nx = pc + 2 ∧ k = a ∧ a + 1 < nL)
  | (8, _, _, a, _, _, nx, _), .astore_n k => decide (n = 1 ∧ nx = pc + 1 ∧ (k : Nat) = a ∧ a < nL)
  | (8, _, _, a, _, _, nx, _), .astore k => decide (n = 2 ∧ nx = pc + 2 ∧ k = a ∧ a < nL)
  | (9, v, _, a, _, _, nx, _), .iinc k c => decide (n = 3 ∧ nx = pc + 3 ∧ k = a ∧ Int32.ofInt c = v ∧ a < nL)
  | (10, _, _, a, _, _, _, _), .goto o => decide (n = 3 ∧ (pc : Int) + o = (a : Int))
  | _, _ => false
variable {G : gv_G} {y : gv_M} {d : Nat} {r : gv_O} {hf : gv_H} {pc : Nat} {J : gv_J} {ls : gv_L} {st : List gv_V} {h : gv_H} {S : gv_S} {i : Instr} {n : Nat}
theorem gv_s1 (hd : decode y.2.1 pc = .ok (i, n)) (hc : gv_ck1 y.1.cls y.2.2.1 pc J i n = true) (hx : gv_x1 J ls st h = some S) (k : gv_go G y d r hf S.1 S.2.1 S.2.2.1 S.2.2.2) : gv_go G y d r hf pc ls st h := by
  unfold gv_ck1 at hc
  split at hc
  · -- iconst
    rw [decide_eq_true_eq] at hc
    obtain ⟨rfl, rfl, hv⟩ := hc
    cases hx
    exact gv_pure (fun p e R s m args below meth c H locs cells slots Q A X hw hA kk => lv_iconst X.1 X.2.1 hd hv (kk A hA)) k
  · -- bipush
    rw [decide_eq_true_eq] at hc
    obtain ⟨rfl, rfl, hv⟩ := hc
    cases hx
    exact gv_pure (fun p e R s m args below meth c H locs cells slots Q A X hw hA kk => lv_bipush X.1 X.2.1 hd hv (kk A hA)) k
  · -- sipush
    rw [decide_eq_true_eq] at hc
    obtain ⟨rfl, rfl, hv⟩ := hc
    cases hx
    exact gv_pure (fun p e R s m args below meth c H locs cells slots Q A X hw hA kk => lv_sipush X.1 X.2.1 hd hv (kk A hA)) k
  · -- ldc
    rw [decide_eq_true_eq] at hc
    obtain ⟨rfl, rfl, hv⟩ := hc
    cases hx
    exact gv_pure (fun p e R s m args below meth c H locs cells slots Q A X hw hA kk => lv_ldc X.1 X.2.1 X.2.2.2.1 (gv_tw_use X.2.2.2.2.1 hv args) hd (kk A hA)) k
  · -- lconst
    rw [decide_eq_true_eq] at hc
    obtain ⟨rfl, rfl, hv⟩ := hc
    cases hx
    exact gv_pure (fun p e R s m args below meth c H locs cells slots Q A X hw hA kk => lv_lconst X.1 X.2.1 hd hv (kk A hA)) k
  · -- ldc2
    rw [decide_eq_true_eq] at hc
    obtain ⟨rfl, rfl, hv⟩ := hc
    cases hx
    exact gv_pure (fun p e R s m args below meth c H locs cells slots Q A X hw hA kk => lv_ldc2 X.1 X.2.1 X.2.2.2.1 (gv_tw_use X.2.2.2.2.1 hv args) hd (kk A hA)) k
  · -- iload_n
    rw [decide_eq_true_eq] at hc
    obtain ⟨rfl, rfl, hk⟩ := hc
    simp only [gv_x1] at hx
    split at hx
    next x hg => cases hx; exact gv_pure (fun p e R s m args below meth c H locs cells slots Q A X hw hA kk => lv_iload_n X.1 X.2.1 hd hk (gv_get_at hA hg) (kk A hA)) k
    next => cases hx
  · -- iload
    rw [decide_eq_true_eq] at hc
    obtain ⟨rfl, rfl, rfl⟩ := hc
    simp only [gv_x1] at hx
    split at hx
    next x hg => cases hx; exact gv_pure (fun p e R s m args below meth c H locs cells slots Q A X hw hA kk => lv_iload X.1 X.2.1 hd (gv_get_at hA hg) (kk A hA)) k
    next => cases hx
  · -- lload_n
    rw [decide_eq_true_eq] at hc
    obtain ⟨rfl, rfl, hk⟩ := hc
    simp only [gv_x1] at hx
    split at hx
    next x hg => cases hx; exact gv_pure (fun p e R s m args below meth c H locs cells slots Q A X hw hA kk => lv_lload_n X.1 X.2.1 hd hk (gv_get_at hA hg) (kk A hA)) k
    next => cases hx
  · -- lload
    rw [decide_eq_true_eq] at hc
    obtain ⟨rfl, rfl, rfl⟩ := hc
    simp only [gv_x1] at hx
    split at hx
    next x hg => cases hx; exact gv_pure (fun p e R s m args below meth c H locs cells slots Q A X hw hA kk => lv_lload X.1 X.2.1 hd (gv_get_at hA hg) (kk A hA)) k
    next => cases hx
  · -- aload_n
    rw [decide_eq_true_eq] at hc
    obtain ⟨rfl, rfl, hk⟩ := hc
    simp only [gv_x1] at hx
    split at hx
    next x hg => cases hx; exact gv_pure (fun p e R s m args below meth c H locs cells slots Q A X hw hA kk => lv_aload_n X.1 X.2.1 hd hk (gv_get_at hA hg) (kk A hA)) k
    next => cases hx
  · -- aload
    rw [decide_eq_true_eq] at hc
    obtain ⟨rfl, rfl, rfl⟩ := hc
    simp only [gv_x1] at hx
    split at hx
    next x hg => cases hx; exact gv_pure (fun p e R s m args below meth c H locs cells slots Q A X hw hA kk => lv_aload X.1 X.2.1 hd (gv_get_at hA hg) (kk A hA)) k
    next => cases hx
  · -- istore_n
    rw [decide_eq_true_eq] at hc
    obtain ⟨rfl, rfl, hk, hn⟩ := hc
    simp only [gv_x1] at hx
    split at hx
    next x st => cases hx; exact gv_pure (fun p e R s m args below meth c H locs cells slots Q A X hw hA kk => lv_istore_n X.1 X.2.1 hd hk (gv_ll_has hA) hn rfl (fun A1 h1 => kk A1 (gv_sto_has (v := gI x) h1))) k
    next => cases hx
  · -- istore
    rw [decide_eq_true_eq] at hc
    obtain ⟨rfl, rfl, rfl, hn⟩ := hc
    simp only [gv_x1] at hx
    split at hx
    next x st => cases hx; exact gv_pure (fun p e R s m args below meth c H locs cells slots Q A X hw hA kk => lv_istore X.1 X.2.1 hd (gv_ll_has hA) hn rfl (fun A1 h1 => kk A1 (gv_sto_has (v := gI x) h1))) k
    next => cases hx
  · -- lstore_n
    rw [decide_eq_true_eq] at hc
    obtain ⟨rfl, rfl, hk, hn⟩ := hc
    simp only [gv_x1] at hx
    split at hx
    next x st => cases hx; exact gv_pure (fun p e R s m args below meth c H locs cells slots Q A X hw hA kk => lv_lstore_n X.1 X.2.1 hd hk (gv_ll_has hA) hn rfl (fun A1 h1 => kk A1 (gv_stl_has (v := gL x) h1))) k
    next => cases hx
  · -- lstore
    rw [decide_eq_true_eq] at hc
    obtain ⟨rfl, rfl, rfl, hn⟩ := hc
    simp only [gv_x1] at hx
    split at hx
    next x st => cases hx; exact gv_pure (fun p e R s m args below meth c H locs cells slots Q A X hw hA kk => lv_lstore X.1 X.2.1 hd (gv_ll_has hA) hn rfl (fun A1 h1 => kk A1 (gv_stl_has (v := gL x) h1))) k
    next => cases hx
  · -- astore_n
    rw [decide_eq_true_eq] at hc
    obtain ⟨rfl, rfl, hk, hn⟩ := hc
    simp only [gv_x1] at hx
    split at hx
    next x st => cases hx; exact gv_pure (fun p e R s m args below meth c H locs cells slots Q A X hw hA kk => lv_astore_n X.1 X.2.1 hd hk (gv_ll_has hA) hn rfl (fun A1 h1 => kk A1 (gv_sto_has (v := gR x) h1))) k
    next => cases hx
  · -- astore
    rw [decide_eq_true_eq] at hc
    obtain ⟨rfl, rfl, rfl, hn⟩ := hc
    simp only [gv_x1] at hx
    split at hx
    next x st => cases hx; exact gv_pure (fun p e R s m args below meth c H locs cells slots Q A X hw hA kk => lv_astore X.1 X.2.1 hd (gv_ll_has hA) hn rfl (fun A1 h1 => kk A1 (gv_sto_has (v := gR x) h1))) k
    next => cases hx
  · -- iinc
    rw [decide_eq_true_eq] at hc
    obtain ⟨rfl, rfl, rfl, hv, hn⟩ := hc
    simp only [gv_x1] at hx
    split at hx
    next x hg =>
      cases hx
      refine gv_pure (fun p e R s m args below meth c H locs cells slots Q A X hw hA kk => ?_) k
      obtain ⟨q, hq⟩ := List.getElem?_of_mem (gv_ll_mem (z := G.2.1) (gv_get_some hg))
      exact lv_iinc X.1 X.2.1 hd (gv_ll_has hA) hq (by rw [hv]) hn rfl (fun A1 h1 => kk A1 (gv_sto_has h1))
    next => cases hx
  · -- goto
    rw [decide_eq_true_eq] at hc
    obtain ⟨rfl, ht⟩ := hc
    cases hx
    exact gv_pure (fun p e R s m args below meth c H locs cells slots Q A X hw hA kk => lv_goto X.1 X.2.1 hd ht (kk A hA)) k
  · cases hc
end GZA
end
section
section GZB
theorem gv_c1 {z : Nat → Nat} {v : gv_V} (h : ¬ gv_isL (some (some v)) = true) : (gv_v z v).category = 1 := (lv_cat _).resolve_right (fun q => h (gv_cat.mp q))
def gv_ck2 (pc : Nat) (J : gv_J) (i : Instr) (n : Nat) : Bool := match J, i with
  | (20, _, _, _, _, _, nx, _), .iadd => decide (n = 1 ∧ nx = pc + 1)
  | (21, _, _, _, _, _, nx, _), .isub => decide (n = 1 ∧ nx = pc + 1)
  | (22, _, _, _, _, _, nx, _), .imul => decide (n = 1 ∧ nx = pc + 1)
  | (23, _, _, _, _, _, nx, _), .iand => decide (n = 1 ∧ nx = pc + 1)
  | (24, _, _, _, _, _, nx, _), .ior => decide (n = 1 ∧ nx = pc + 1)
  | (25, _, _, _, _, _, nx, _), .ishl => decide (n = 1 ∧ nx = pc + 1)
  | (26, _, _, _, _, _, nx, _), .ishr => decide (n = 1 ∧ nx = pc + 1)
  | (27, _, _, _, _, _, nx, _), .idiv => decide (n = 1 ∧ nx = pc + 1)
  | (28, _, _, _, _, _, nx, _), .iushr => decide (n = 1 ∧ nx = pc + 1)
  | (30, _, _, _, _, _, nx, _), .i2l => decide (n = 1 ∧ nx = pc + 1)
  | (31, _, _, _, _, _, nx, _), .l2i => decide (n = 1 ∧ nx = pc + 1)
  | (32, _, _, _, _, _, nx, _), .ladd => decide (n = 1 ∧ nx = pc + 1)
  | (33, _, _, _, _, _, nx, _), .lsub => decide (n = 1 ∧ nx = pc + 1)
  | (34, _, _, _, _, _, nx, _), .lmul => decide (n = 1 ∧ nx = pc + 1)
  | (35, _, _, _, _, _, nx, _), .ldiv => decide (n = 1 ∧ nx = pc + 1)
  | (36, _, _, _, _, _, nx, _), .lcmp => decide (n = 1 ∧ nx = pc + 1)
  | (37, _, _, _, _, _, nx, _), .lshl => decide (n = 1 ∧ nx = pc + 1)
  | (38, _, _, _, _, _, nx, _), .lshr => decide (n = 1 ∧ nx = pc + 1)
  | _, _ => false
def gv_ck3 (pc : Nat) (J : gv_J) (i : Instr) (n : Nat) : Bool := match J, i with
  | (40, _, _, _, _, _, nx, _), .dup => decide (n = 1 ∧ nx = pc + 1)
  | (41, _, _, _, _, _, nx, _), .dup2 => decide (n = 1 ∧ nx = pc + 1)
  | (42, _, _, _, _, _, nx, _), .dup_x1 => decide (n = 1 ∧ nx = pc + 1)
  | (43, _, _, _, _, _, nx, _), .dup_x2 => decide (n = 1 ∧ nx = pc + 1)
  | (44, _, _, _, _, _, nx, _), .pop => decide (n = 1 ∧ nx = pc + 1)
  | _, _ => false
def gv_ck4 (pc : Nat) (J : gv_J) (i : Instr) (n : Nat) : Bool := match J, i with
  | (50, _, _, a, _, _, nx, _), .ifCond .eq o => decide (n = 3 ∧ nx = pc + 3 ∧ (pc : Int) + o = (a : Int))
  | (51, _, _, a, _, _, nx, _), .ifCond .ne o => decide (n = 3 ∧ nx = pc + 3 ∧ (pc : Int) + o = (a : Int))
  | (52, _, _, a, _, _, nx, _), .ifCond .lt o => decide (n = 3 ∧ nx = pc + 3 ∧ (pc : Int) + o = (a : Int))
  | (53, _, _, a, _, _, nx, _), .ifCond .ge o => decide (n = 3 ∧ nx = pc + 3 ∧ (pc : Int) + o = (a : Int))
  | (54, _, _, a, _, _, nx, _), .ifCond .gt o => decide (n = 3 ∧ nx = pc + 3 ∧ (pc : Int) + o = (a : Int))
  | (55, _, _, a, _, _, nx, _), .ifCond .le o => decide (n = 3 ∧ nx = pc + 3 ∧ (pc : Int) + o = (a : Int))
  | (56, _, _, a, _, _, nx, _), .if_icmp .eq o => decide (n = 3 ∧ nx = pc + 3 ∧ (pc : Int) + o = (a : Int))
  | (57, _, _, a, _, _, nx, _), .if_icmp .ne o => decide (n = 3 ∧ nx = pc + 3 ∧ (pc : Int) + o = (a : Int))
  | (58, _, _, a, _, _, nx, _), .if_icmp .lt o => decide (n = 3 ∧ nx = pc + 3 ∧ (pc : Int) + o = (a : Int))
  | (59, _, _, a, _, _, nx, _), .if_icmp .ge o => decide (n = 3 ∧ nx = pc + 3 ∧ (pc : Int) + o = (a : Int))
  | (60, _, _, a, _, _, nx, _), .if_icmp .gt o => decide (n = 3 ∧ nx = pc + 3 ∧ (pc : Int) + o = (a : Int))
  | (61, _, _, a, _, _, nx, _), .if_icmp .le o => decide (n = 3 ∧ nx = pc + 3 ∧ (pc : Int) + o = (a : Int))
  | (62, _, _, a, _, _, _, tb), .tableswitch df lo hi os => decide ((pc : Int) + df = (a : Int) ∧ hi = lo + os.size - 1 ∧ tb.length = os.size) && (List.range os.size).all (fun j => match tb[j]?, os[j]? with
    | some q, some o => decide (q.1.toInt = lo + (j : Int) ∧ (pc : Int) + o = (q.2 : Int))
    | _, _ => false)
  | _, _ => false
theorem gv_sw_none {x : Int32} {a : Nat} : ∀ {tb : List (Int32 × Nat)}, (∀ q ∈ tb, q.1 ≠ x) → gv_sw x a tb = a
  | [], _ => rfl
  | (k, t) :: l, h => by
    unfold gv_sw
    rw [if_neg (fun e => h (k, t) List.mem_cons_self e.symm)]
    exact gv_sw_none (fun q hq => h q (List.mem_cons_of_mem _ hq))
theorem gv_sw_some {x : Int32} {a t : Nat} : ∀ {tb : List (Int32 × Nat)} {i : Nat}, tb[i]? = some (x, t) → (∀ j q, j < i → tb[j]? = some q → q.1 ≠ x) → gv_sw x a tb = t
  | [], i, h, _ => by simp at h
  | (k, t9) :: l, 0, h, _ => by
    simp at h
    unfold gv_sw
    rw [if_pos h.1.symm, h.2]
  | (k, t9) :: l, i + 1, h, hn => by
    unfold gv_sw
    rw [if_neg (fun e => hn 0 (k, t9) (Nat.succ_pos _) rfl e.symm)]
    exact gv_sw_some (i := i) (by simpa using h) (fun j q hj hq => hn (j + 1) q (by omega) (by simpa using hq))
variable {G : gv_G} {y : gv_M} {d : Nat} {r : gv_O} {hf : gv_H} {pc : Nat} {J : gv_J} {ls : gv_L} {st : List gv_V} {h : gv_H} {S : gv_S} {i : Instr} {n : Nat}
theorem gv_tsw {a : Nat} {tb : List (Int32 × Nat)} {df lo hi : Int} {os : Array Int} {x : Int32} (hd : decode y.2.1 pc = .ok (.tableswitch df lo hi os, n)) (hdf : (pc : Int) + df = (a : Int)) (hhi : hi = lo + os.size - 1) (hln : tb.length = os.size)
    (hall : (List.range os.size).all (fun j => match tb[j]?, os[j]? with
    | some q, some o => decide (q.1.toInt = lo + (j : Int) ∧ (pc : Int) + o = (q.2 : Int))
    | _, _ => false) = true) (k : gv_go G y d r hf (gv_sw x a tb) ls st h) : gv_go G y d r hf pc ls (gI x :: st) h := by
  have key : ∀ j, j < os.size → ∃ k t o, tb[j]? = some (k, t) ∧ os[j]? = some o ∧ k.toInt = lo + (j : Int) ∧ (pc : Int) + o = (t : Int) := by
    intro j hj
    have h1 := List.all_eq_true.mp hall j (List.mem_range.mpr hj)
    split at h1
    next q o e1 e2 =>
      rw [decide_eq_true_eq] at h1
      exact ⟨q.1, q.2, o, e1, e2, h1.1, h1.2⟩
    next => cases h1
  refine gv_pure (fun p e R s m args below meth c H locs cells slots Q A X hw hA kk => ?_) k
  have k9 := kk A hA
  by_cases hout : x.toInt < lo ∨ hi < x.toInt
  · refine lv_tableOut X.1 X.2.1 hd hout hdf ?_
    rw [gv_sw_none (fun q hq e => ?_)] at k9
    · exact k9
    · obtain ⟨j, hj⟩ := List.getElem?_of_mem hq
      have hjl : j < os.size := by rw [← hln]; exact (List.getElem?_eq_some_iff.mp hj).1
      obtain ⟨k, t, o, e1, -, e3, -⟩ := key j hjl
      rw [hj] at e1
      cases e1
      have e : k = x := e
      rw [e] at e3
      omega
  · have h1 : ¬ x.toInt < lo := fun q => hout (Or.inl q)
    have h2 : ¬ hi < x.toInt := fun q => hout (Or.inr q)
    have hj : (x.toInt - lo).toNat < os.size := by omega
    obtain ⟨k, t, o, e1, e2, e3, e4⟩ := key _ hj
    have hk : k = x := Int32.toInt_inj.mp (by omega)
    subst hk
    refine lv_tableIn X.1 X.2.1 hd h1 h2 e2 e4 ?_
    rw [gv_sw_some e1 (fun j q hj9 hq e => ?_)] at k9
    · exact k9
    · obtain ⟨k, t, o, a1, -, a3, -⟩ := key j (by omega)
      rw [hq] at a1
      cases a1
      dsimp only at e
      rw [e] at a3
      omega
theorem gv_s2 (hd : decode y.2.1 pc = .ok (i, n)) (hc : gv_ck2 pc J i n = true) (hx : gv_x2 J ls st h = some S) (k : gv_go G y d r hf S.1 S.2.1 S.2.2.1 S.2.2.2) : gv_go G y d r hf pc ls st h := by
  unfold gv_ck2 at hc
  split at hc
  · rw [decide_eq_true_eq] at hc
    obtain ⟨rfl, rfl⟩ := hc
    simp only [gv_x2] at hx
    split at hx
    next => cases hx; exact gv_pure (fun p e R s m args below meth c H locs cells slots Q A X hw hA kk => lv_iadd X.1 X.2.1 hd (kk A hA)) k
    next => cases hx
  · rw [decide_eq_true_eq] at hc
    obtain ⟨rfl, rfl⟩ := hc
    simp only [gv_x2] at hx
    split at hx
    next => cases hx; exact gv_pure (fun p e R s m args below meth c H locs cells slots Q A X hw hA kk => lv_isub X.1 X.2.1 hd (kk A hA)) k
    next => cases hx
  · rw [decide_eq_true_eq] at hc
    obtain ⟨rfl, rfl⟩ := hc
    simp only [gv_x2] at hx
    split at hx
    next => cases hx; exact gv_pure (fun p e R s m args below meth c H locs cells slots Q A X hw hA kk => lv_imul X.1 X.2.1 hd (kk A hA)) k
    next => cases hx
  · rw [decide_eq_true_eq] at hc
    obtain ⟨rfl, rfl⟩ := hc
    simp only [gv_x2] at hx
    split at hx
    next => cases hx; exact gv_pure (fun p e R s m args below meth c H locs cells slots Q A X hw hA kk => lv_iand X.1 X.2.1 hd (kk A hA)) k
    next => cases hx
  · rw [decide_eq_true_eq] at hc
    obtain ⟨rfl, rfl⟩ := hc
    simp only [gv_x2] at hx
    split at hx
    next => cases hx; exact gv_pure (fun p e R s m args below meth c H locs cells slots Q A X hw hA kk => lv_ior X.1 X.2.1 hd (kk A hA)) k
    next => cases hx
  · rw [decide_eq_true_eq] at hc
    obtain ⟨rfl, rfl⟩ := hc
    simp only [gv_x2] at hx
    split at hx
    next => cases hx; exact gv_pure (fun p e R s m args below meth c H locs cells slots Q A X hw hA kk => lv_ishl X.1 X.2.1 hd (kk A hA)) k
    next => cases hx
  · rw [decide_eq_true_eq] at hc
    obtain ⟨rfl, rfl⟩ := hc
    simp only [gv_x2] at hx
    split at hx
    next => cases hx; exact gv_pure (fun p e R s m args below meth c H locs cells slots Q A X hw hA kk => lv_ishr X.1 X.2.1 hd (kk A hA)) k
    next => cases hx
  · rw [decide_eq_true_eq] at hc
    obtain ⟨rfl, rfl⟩ := hc
    simp only [gv_x2] at hx
    split at hx
    next =>
      split at hx
      next => cases hx
      next hne => cases hx; exact gv_pure (fun p e R s m args below meth c H locs cells slots Q A X hw hA kk => lv_idiv X.1 X.2.1 hd hne (kk A hA)) k
    next => cases hx
  · rw [decide_eq_true_eq] at hc
    obtain ⟨rfl, rfl⟩ := hc
    simp only [gv_x2] at hx
    split at hx
    next => cases hx; exact gv_pure (fun p e R s m args below meth c H locs cells slots Q A X hw hA kk => lv_iushr X.1 X.2.1 hd rfl (kk A hA)) k
    next => cases hx
  · rw [decide_eq_true_eq] at hc
    obtain ⟨rfl, rfl⟩ := hc
    simp only [gv_x2] at hx
    split at hx
    next => cases hx; exact gv_pure (fun p e R s m args below meth c H locs cells slots Q A X hw hA kk => lv_i2l X.1 X.2.1 hd rfl (kk A hA)) k
    next => cases hx
  · rw [decide_eq_true_eq] at hc
    obtain ⟨rfl, rfl⟩ := hc
    simp only [gv_x2] at hx
    split at hx
    next => cases hx; exact gv_pure (fun p e R s m args below meth c H locs cells slots Q A X hw hA kk => lv_l2i X.1 X.2.1 hd rfl (kk A hA)) k
    next => cases hx
  · rw [decide_eq_true_eq] at hc
    obtain ⟨rfl, rfl⟩ := hc
    simp only [gv_x2] at hx
    split at hx
    next => cases hx; exact gv_pure (fun p e R s m args below meth c H locs cells slots Q A X hw hA kk => lv_ladd X.1 X.2.1 hd (kk A hA)) k
    next => cases hx
  · rw [decide_eq_true_eq] at hc
    obtain ⟨rfl, rfl⟩ := hc
    simp only [gv_x2] at hx
    split at hx
    next => cases hx; exact gv_pure (fun p e R s m args below meth c H locs cells slots Q A X hw hA kk => lv_lsub X.1 X.2.1 hd (kk A hA)) k
    next => cases hx
  · rw [decide_eq_true_eq] at hc
    obtain ⟨rfl, rfl⟩ := hc
    simp only [gv_x2] at hx
    split at hx
    next => cases hx; exact gv_pure (fun p e R s m args below meth c H locs cells slots Q A X hw hA kk => lv_lmul X.1 X.2.1 hd (kk A hA)) k
    next => cases hx
  · rw [decide_eq_true_eq] at hc
    obtain ⟨rfl, rfl⟩ := hc
    simp only [gv_x2] at hx
    split at hx
    next =>
      split at hx
      next => cases hx
      next hne => cases hx; exact gv_pure (fun p e R s m args below meth c H locs cells slots Q A X hw hA kk => lv_ldiv X.1 X.2.1 hd hne (kk A hA)) k
    next => cases hx
  · rw [decide_eq_true_eq] at hc
    obtain ⟨rfl, rfl⟩ := hc
    simp only [gv_x2] at hx
    split at hx
    next => cases hx; exact gv_pure (fun p e R s m args below meth c H locs cells slots Q A X hw hA kk => W.lcmp X.1 X.2.1 hd (kk A hA)) k
    next => cases hx
  · rw [decide_eq_true_eq] at hc
    obtain ⟨rfl, rfl⟩ := hc
    simp only [gv_x2] at hx
    split at hx
    next => cases hx; exact gv_pure (fun p e R s m args below meth c H locs cells slots Q A X hw hA kk => lv_lshl X.1 X.2.1 hd rfl (kk A hA)) k
    next => cases hx
  · rw [decide_eq_true_eq] at hc
    obtain ⟨rfl, rfl⟩ := hc
    simp only [gv_x2] at hx
    split at hx
    next => cases hx; exact gv_pure (fun p e R s m args below meth c H locs cells slots Q A X hw hA kk => lv_lshr X.1 X.2.1 hd rfl (kk A hA)) k
    next => cases hx
  · cases hc
theorem gv_s3 (hd : decode y.2.1 pc = .ok (i, n)) (hc : gv_ck3 pc J i n = true) (hx : gv_x3 J ls st h = some S) (k : gv_go G y d r hf S.1 S.2.1 S.2.2.1 S.2.2.2) : gv_go G y d r hf pc ls st h := by
  unfold gv_ck3 at hc
  split at hc
  · rw [decide_eq_true_eq] at hc
    obtain ⟨rfl, rfl⟩ := hc
    simp only [gv_x3] at hx
    split at hx
    next =>
      split at hx
      next => cases hx
      next hq =>
        cases hx
        have h0 := hq
        exact gv_pure (fun p e R s m args below meth c H locs cells slots Q A X hw hA kk => lv_dup X.1 X.2.1 hd (gv_c1 h0) (kk A hA)) k
    next => cases hx
  · rw [decide_eq_true_eq] at hc
    obtain ⟨rfl, rfl⟩ := hc
    simp only [gv_x3] at hx
    split at hx
    next =>
      split at hx
      next => cases hx
      next hq =>
        cases hx
        rw [Bool.or_eq_true] at hq
        have h0 := fun q => hq (Or.inl q)
        have h1 := fun q => hq (Or.inr q)
        exact gv_pure (fun p e R s m args below meth c H locs cells slots Q A X hw hA kk => lv_dup2_11 X.1 X.2.1 hd (gv_c1 h0) (gv_c1 h1) (kk A hA)) k
    next => cases hx
  · rw [decide_eq_true_eq] at hc
    obtain ⟨rfl, rfl⟩ := hc
    simp only [gv_x3] at hx
    split at hx
    next =>
      split at hx
      next => cases hx
      next hq =>
        cases hx
        rw [Bool.or_eq_true] at hq
        have h0 := fun q => hq (Or.inl q)
        have h1 := fun q => hq (Or.inr q)
        exact gv_pure (fun p e R s m args below meth c H locs cells slots Q A X hw hA kk => lv_dup_x1 X.1 X.2.1 hd (gv_c1 h0) (gv_c1 h1) (kk A hA)) k
    next => cases hx
  · rw [decide_eq_true_eq] at hc
    obtain ⟨rfl, rfl⟩ := hc
    simp only [gv_x3] at hx
    split at hx
    next =>
      split at hx
      next => cases hx
      next hq =>
        cases hx
        rw [Bool.or_eq_true, Bool.or_eq_true] at hq
        have h0 := fun q => hq (Or.inl (Or.inl q))
        have h1 := fun q => hq (Or.inl (Or.inr q))
        have h2 := fun q => hq (Or.inr q)
        exact gv_pure (fun p e R s m args below meth c H locs cells slots Q A X hw hA kk => lv_dup_x2 X.1 X.2.1 hd (gv_c1 h0) (gv_c1 h1) (gv_c1 h2) (kk A hA)) k
    next => cases hx
  · rw [decide_eq_true_eq] at hc
    obtain ⟨rfl, rfl⟩ := hc
    simp only [gv_x3] at hx
    split at hx
    next =>
      split at hx
      next => cases hx
      next hq =>
        cases hx
        have h0 := hq
        exact gv_pure (fun p e R s m args below meth c H locs cells slots Q A X hw hA kk => lv_pop X.1 X.2.1 hd (gv_c1 h0) (kk A hA)) k
    next => cases hx
  · cases hc
theorem gv_s4 (hd : decode y.2.1 pc = .ok (i, n)) (hc : gv_ck4 pc J i n = true) (hx : gv_x4 J ls st h = some S) (k : gv_go G y d r hf S.1 S.2.1 S.2.2.1 S.2.2.2) : gv_go G y d r hf pc ls st h := by
  unfold gv_ck4 at hc
  split at hc
  · rw [decide_eq_true_eq] at hc
    obtain ⟨rfl, rfl, ht⟩ := hc
    simp only [gv_x4] at hx
    split at hx
    next => cases hx; exact gv_pure (fun p e R s m args below meth c H locs cells slots Q A X hw hA kk => lv_if_eq X.1 X.2.1 hd ht (fun q => by have k9 := kk A hA; rw [if_pos q] at k9; exact k9) (fun q => by have k9 := kk A hA; rw [if_neg q] at k9; exact k9)) k
    next => cases hx
  · rw [decide_eq_true_eq] at hc
    obtain ⟨rfl, rfl, ht⟩ := hc
    simp only [gv_x4] at hx
    split at hx
    next => cases hx; exact gv_pure (fun p e R s m args below meth c H locs cells slots Q A X hw hA kk => lv_if_ne X.1 X.2.1 hd ht (fun q => by have k9 := kk A hA; rw [if_pos q] at k9; exact k9) (fun q => by have k9 := kk A hA; rw [if_neg (not_not_intro q)] at k9; exact k9)) k
    next => cases hx
  · rw [decide_eq_true_eq] at hc
    obtain ⟨rfl, rfl, ht⟩ := hc
    simp only [gv_x4] at hx
    split at hx
    next => cases hx; exact gv_pure (fun p e R s m args below meth c H locs cells slots Q A X hw hA kk => lv_if_lt X.1 X.2.1 hd ht (fun q => by have k9 := kk A hA; rw [if_pos q] at k9; exact k9) (fun q => by have k9 := kk A hA; rw [if_neg q] at k9; exact k9)) k
    next => cases hx
  · rw [decide_eq_true_eq] at hc
    obtain ⟨rfl, rfl, ht⟩ := hc
    simp only [gv_x4] at hx
    split at hx
    next => cases hx; exact gv_pure (fun p e R s m args below meth c H locs cells slots Q A X hw hA kk => lv_if_ge X.1 X.2.1 hd ht (fun q => by have k9 := kk A hA; rw [if_pos q] at k9; exact k9) (fun q => by have k9 := kk A hA; rw [if_neg q] at k9; exact k9)) k
    next => cases hx
  · rw [decide_eq_true_eq] at hc
    obtain ⟨rfl, rfl, ht⟩ := hc
    simp only [gv_x4] at hx
    split at hx
    next => cases hx; exact gv_pure (fun p e R s m args below meth c H locs cells slots Q A X hw hA kk => lv_if_gt X.1 X.2.1 hd ht (fun q => by have k9 := kk A hA; rw [if_pos q] at k9; exact k9) (fun q => by have k9 := kk A hA; rw [if_neg q] at k9; exact k9)) k
    next => cases hx
  · rw [decide_eq_true_eq] at hc
    obtain ⟨rfl, rfl, ht⟩ := hc
    simp only [gv_x4] at hx
    split at hx
    next => cases hx; exact gv_pure (fun p e R s m args below meth c H locs cells slots Q A X hw hA kk => lv_if_le X.1 X.2.1 hd ht (fun q => by have k9 := kk A hA; rw [if_pos q] at k9; exact k9) (fun q => by have k9 := kk A hA; rw [if_neg q] at k9; exact k9)) k
    next => cases hx
  · rw [decide_eq_true_eq] at hc
    obtain ⟨rfl, rfl, ht⟩ := hc
    simp only [gv_x4] at hx
    split at hx
    next => cases hx; exact gv_pure (fun p e R s m args below meth c H locs cells slots Q A X hw hA kk => lv_icmp_eq X.1 X.2.1 hd ht (fun q => by have k9 := kk A hA; rw [if_pos q] at k9; exact k9) (fun q => by have k9 := kk A hA; rw [if_neg q] at k9; exact k9)) k
    next => cases hx
  · rw [decide_eq_true_eq] at hc
    obtain ⟨rfl, rfl, ht⟩ := hc
    simp only [gv_x4] at hx
    split at hx
    next => cases hx; exact gv_pure (fun p e R s m args below meth c H locs cells slots Q A X hw hA kk => lv_icmp_ne X.1 X.2.1 hd ht (fun q => by have k9 := kk A hA; rw [if_pos q] at k9; exact k9) (fun q => by have k9 := kk A hA; rw [if_neg (not_not_intro q)] at k9; exact k9)) k
    next => cases hx
  · rw [decide_eq_true_eq] at hc
    obtain ⟨rfl, rfl, ht⟩ := hc
    simp only [gv_x4] at hx
    split at hx
    next => cases hx; exact gv_pure (fun p e R s m args below meth c H locs cells slots Q A X hw hA kk => lv_icmp_lt X.1 X.2.1 hd ht (fun q => by have k9 := kk A hA; rw [if_pos q] at k9; exact k9) (fun q => by have k9 := kk A hA; rw [if_neg q] at k9; exact k9)) k
    next => cases hx
  · rw [decide_eq_true_eq] at hc
    obtain ⟨rfl, rfl, ht⟩ := hc
    simp only [gv_x4] at hx
    split at hx
    next => cases hx; exact gv_pure (fun p e R s m args below meth c H locs cells slots Q A X hw hA kk => lv_icmp_ge X.1 X.2.1 hd ht (fun q => by have k9 := kk A hA; rw [if_pos q] at k9; exact k9) (fun q => by have k9 := kk A hA; rw [if_neg q] at k9; exact k9)) k
    next => cases hx
  · rw [decide_eq_true_eq] at hc
    obtain ⟨rfl, rfl, ht⟩ := hc
    simp only [gv_x4] at hx
    split at hx
    next => cases hx; exact gv_pure (fun p e R s m args below meth c H locs cells slots Q A X hw hA kk => lv_icmp_gt X.1 X.2.1 hd ht (fun q => by have k9 := kk A hA; rw [if_pos q] at k9; exact k9) (fun q => by have k9 := kk A hA; rw [if_neg q] at k9; exact k9)) k
    next => cases hx
  · rw [decide_eq_true_eq] at hc
    obtain ⟨rfl, rfl, ht⟩ := hc
    simp only [gv_x4] at hx
    split at hx
    next => cases hx; exact gv_pure (fun p e R s m args below meth c H locs cells slots Q A X hw hA kk => lv_icmp_le X.1 X.2.1 hd ht (fun q => by have k9 := kk A hA; rw [if_pos q] at k9; exact k9) (fun q => by have k9 := kk A hA; rw [if_neg q] at k9; exact k9)) k
    next => cases hx
  · rw [Bool.and_eq_true, decide_eq_true_eq] at hc
    obtain ⟨⟨hdf, hhi, hln⟩, hall⟩ := hc
    simp only [gv_x4] at hx
    split at hx
    next => cases hx; exact gv_tsw hd hdf hhi hln hall k
    next => cases hx
  · cases hc
end GZB
end
section
/-! gh: steps that read, write and make cells -/
section GHA
def gv_ft (r : vw_C) (k : Nat) : FieldType := (parseFieldDescriptor (r.2.1 k).2.2.1).getD .int
def gv_df (t : FieldType) : gv_V := match t with
  | .object _ => gN
  | .array _ => gN
  | .long => gL 0
  | _ => gI 0
/-- a new object's fields -/
def gv_nf (c : Nat) : List gv_V := match c with
  | 0 => [gN, gI 0, gN, gN]
  | 1 => [gN, gI 0]
  | 2 => [gN, gI 0, gI 0, gI 0]
  | 3 => [gN, gN, gN, gN, gN, gN, gN, gN, gN, gI 0, gI 0, gI 0, gI 0]
  | 4 => [gN, gI 0, gN, gI 0, gN, gN, gI 0, gN, gI 0]
  | 5 => [gN, gN, gN, gI 0]
  | 6 => [gN, gN, gN, gN, gI 0]
  | 7 => [gN, gI 0]
  | 8 => [gN, gN, gN, gN]
  | 9 => [gN, gN, gN, gN, gN, gI 0]
  | 10 => [gN, gN, gN, gN, gN, gI 0]
  | 11 => [gN, gN, gI 0, gN, gI 0, gN, gI 0]
  | 12 => [gI 0, gI 0, gN, gI 0, gN, gN, gN, gN, gN, gN, gN, gN, gI 0, gI 0, gN, gN, gI 0, gI 0, gI 0, gN, gN, gN, gN, gI 0, gN, gI 0, gI 0, gI 0, gI 0, gN, gI 0, gN, gN, gN, gI 0, gI 0, gI 0, gN, gI 0, gN, gI 0, gI 0, gN, gI 0, gN, gN, gI 0, gN, gN, gI 0]
  | _ => []
def gv_okt (t : FieldType) : Bool := match t with
  | .float => false
  | .double => false
  | _ => true
def gv_clok (ci : Nat) (r : vw_C) : Prop := gv_cl[ci]? = some r ∧ (∀ w ∈ u_ws r.1 r.2.1 r.2.2, w ∈ gv_T ∧ gv_gd w = true) ∧ (∀ k, k < r.2.2 → parseFieldDescriptor (r.2.1 k).2.2.1 = some (gv_ft r k)) ∧ (∀ a, a < r.2.2 → ∀ b, b < r.2.2 → a ≠ b → (r.2.1 a).2.1 ≠ (r.2.1 b).2.1) ∧ (∀ k, k < r.2.2 → gv_okt (gv_ft r k) = true) ∧ gv_nf ci = (List.range r.2.2).map (fun k => gv_df (gv_ft r k))
theorem gv_ws {G : gv_G} {s : State} (h : gv_K G s) {L : List Jvm.Cond} (hL : ∀ w ∈ L, w ∈ gv_T ∧ gv_gd w = true) (args : Array Value) : ∀ w ∈ L, w.before args s = true := by
  intro w hw
  obtain ⟨h1, h2⟩ := hL w hw
  obtain ⟨i, hi⟩ := List.getElem?_of_mem h1
  exact h.use i hi h2 args
/-- what a field of that type may get -/
def gv_fit (t : FieldType) (v : gv_V) : Bool := match t, v with
  | .int, Sum.inl _ => true
  | .boolean, Sum.inl x => decide (x = 0 ∨ x = 1)
  | .object _, Sum.inr (Sum.inr _) => true
  | .array _, Sum.inr (Sum.inr _) => true
  | _, _ => false
theorem gv_fit_ok {t : FieldType} {v : gv_V} (z : Nat → Nat) (h : gv_fit t v = true) : narrow t (gv_v z v) = gv_v z v ∧ fits t (gv_v z v) = true := by
  unfold gv_fit at h
  split at h
  next x => exact ⟨rfl, rfl⟩
  next x =>
    rw [decide_eq_true_eq] at h
    rcases h with h | h <;> subst h <;> exact ⟨rfl, rfl⟩
  next n x => cases x <;> exact ⟨rfl, rfl⟩
  next n x => cases x <;> exact ⟨rfl, rfl⟩
  next => cases h
/-- reading -/
def gv_x5 (J : gv_J) (ls : gv_L) (st : List gv_V) (h : gv_H) : Option gv_S := match J with
  | (70, _, _, ci, j, _, nx, _) => match st with
    | Sum.inr (Sum.inr (some a)) :: st => match h.2.2 a with
      | some (Sum.inr (cj, fs)) => if cj = ci then match fs[j]? with
          | some v => some (nx, ls, v :: st, h)
          | none => none
        else none
      | _ => none
    | _ => none
  | (71, _, _, _, _, _, nx, _) => match st with
    | Sum.inr (Sum.inr (some a)) :: st => match h.2.2 a with
      | some (Sum.inl (t, n, _)) => if t < 4 then some (nx, ls, gI (Int32.ofNat n) :: st, h) else none
      | _ => none
    | _ => none
  | (72, _, _, _, _, _, nx, _) => match st with
    | Sum.inl i :: Sum.inr (Sum.inr (some a)) :: st => match h.2.2 a with
      | some (Sum.inl (0, n, Sum.inl f)) => if i < 0 ∨ n ≤ i.toNatClampNeg then none else some (nx, ls, gI (f i.toNatClampNeg) :: st, h)
      | _ => none
    | _ => none
  | (73, _, _, _, _, _, nx, _) => match st with
    | Sum.inl i :: Sum.inr (Sum.inr (some a)) :: st => match h.2.2 a with
      | some (Sum.inl (2, n, Sum.inl f)) => if i < 0 ∨ n ≤ i.toNatClampNeg then none else some (nx, ls, gI (f i.toNatClampNeg) :: st, h)
      | _ => none
    | _ => none
  | (74, _, _, _, _, _, nx, _) => match st with
    | Sum.inl i :: Sum.inr (Sum.inr (some a)) :: st => match h.2.2 a with
      | some (Sum.inl (1, n, Sum.inl f)) => if i < 0 ∨ n ≤ i.toNatClampNeg then none else some (nx, ls, gL (f i.toNatClampNeg).toInt64 :: st, h)
      | _ => none
    | _ => none
  | (75, _, _, _, _, _, nx, _) => match st with
    | Sum.inl i :: Sum.inr (Sum.inr (some a)) :: st => match h.2.2 a with
      | some (Sum.inl (3, n, Sum.inr f)) => if i < 0 ∨ n ≤ i.toNatClampNeg then none else some (nx, ls, Sum.inr (Sum.inr (f i.toNatClampNeg)) :: st, h)
      | _ => none
    | _ => none
  | _ => none
def gv_ck5 (own : String) (pc : Nat) (J : gv_J) (i : Instr) (n : Nat) : Bool := match J, i with
  | (70, _, _, ci, j, wp, nx, _), .getfield x => match gv_cl[ci]? with
    | some r => decide (n = 3 ∧ nx = pc + 3 ∧ j < r.2.2) && gv_tw wp (.fieldLink own x (r.2.1 j).1 (r.2.1 j).2.1 (r.2.1 j).2.2.1)
    | none => false
  | (71, _, _, _, _, _, nx, _), .arraylength => decide (n = 1 ∧ nx = pc + 1)
  | (72, _, _, _, _, _, nx, _), .iaload => decide (n = 1 ∧ nx = pc + 1)
  | (73, _, _, _, _, _, nx, _), .baload => decide (n = 1 ∧ nx = pc + 1)
  | (74, _, _, _, _, _, nx, _), .laload => decide (n = 1 ∧ nx = pc + 1)
  | (75, _, _, _, _, _, nx, _), .aaload => decide (n = 1 ∧ nx = pc + 1)
  | _, _ => false
variable {G : gv_G} {y : gv_M} {d : Nat} {r : gv_O} {hf : gv_H} {pc : Nat} {J : gv_J} {ls : gv_L} {st : List gv_V} {h : gv_H} {S : gv_S} {i : Instr} {n : Nat}
theorem gv_s5 (hok : ∀ ci r, gv_cl[ci]? = some r → gv_clok ci r) (hd : decode y.2.1 pc = .ok (i, n)) (hc : gv_ck5 y.1.cls pc J i n = true) (hx : gv_x5 J ls st h = some S) (k : gv_go G y d r hf S.1 S.2.1 S.2.2.1 S.2.2.2) : gv_go G y d r hf pc ls st h := by
  unfold gv_ck5 at hc
  split at hc
  · split at hc
    next rr hr =>
      rw [Bool.and_eq_true, decide_eq_true_eq] at hc
      obtain ⟨⟨rfl, rfl, hj⟩, hw9⟩ := hc
      simp only [gv_x5] at hx
      split at hx
      next a st =>
        split at hx
        next cj fs ha =>
          split at hx
          next e =>
            subst e
            split at hx
            next v hv =>
              cases hx
              obtain ⟨-, o1, o2, o3, -, -⟩ := hok _ _ hr
              refine gv_pure (fun p e R s m args below meth c H locs cells slots Q A X hw hA kk => ?_) k
              exact va_get X.1 X.2.1 (gv_ws X.2.2.2.2.1 o1 args) (fun _ q => q) X.2.2.2.1 X.2.2.2.2.1.2.1 (gv_one hw ha) 0 rfl hr _ hj (gv_tw_use X.2.2.2.2.1 hw9 args) (fun _ q => q) (by rw [List.getElem?_map, hv]; rfl) hd (kk A hA)
            next => cases hx
          next => cases hx
        next => cases hx
      next => cases hx
    next => cases hc
  · rw [decide_eq_true_eq] at hc
    obtain ⟨rfl, rfl⟩ := hc
    simp only [gv_x5] at hx
    split at hx
    next a st =>
      split at hx
      next t n9 x9 ha =>
        split at hx
        next ht =>
          cases hx
          refine gv_pure (fun p e R s m args below meth c H locs cells slots Q A X hw hA kk => ?_) k
          have hty : ∃ ty, (gv_ty G)[t]? = some (G.2.2.2.1 t, ty) := by
            unfold gv_ty
            match t, ht with
            | 0, _ => exact ⟨_, rfl⟩
            | 1, _ => exact ⟨_, rfl⟩
            | 2, _ => exact ⟨_, rfl⟩
            | 3, _ => exact ⟨_, rfl⟩
          obtain ⟨ty, hty⟩ := hty
          refine va_alen X.1 X.2.1 X.2.2.2.2.1.2.1 (gv_one hw ha) 0 t rfl hty ?_ hd (kk A hA)
          unfold gv_arr
          rcases x9 with f | f
          · dsimp only
            split <;> rfl
          · rfl
        next => cases hx
      next => cases hx
    next => cases hx
  · rw [decide_eq_true_eq] at hc
    obtain ⟨rfl, rfl⟩ := hc
    simp only [gv_x5] at hx
    split at hx
    next ix a st =>
      split at hx
      next n9 f ha =>
        split at hx
        next => cases hx
        next hin =>
          cases hx
          exact gv_pure (fun p e R s m args below meth c H locs cells slots Q A X hw hA kk => va_iald X.1 X.2.1 X.2.2.2.2.1.2.1 (gv_one hw ha) 0 0 rfl rfl hin hd (kk A hA)) k
      next => cases hx
    next => cases hx
  · rw [decide_eq_true_eq] at hc
    obtain ⟨rfl, rfl⟩ := hc
    simp only [gv_x5] at hx
    split at hx
    next ix a st =>
      split at hx
      next n9 f ha =>
        split at hx
        next => cases hx
        next hin =>
          cases hx
          exact gv_pure (fun p e R s m args below meth c H locs cells slots Q A X hw hA kk => va_zald X.1 X.2.1 X.2.2.2.2.1.2.1 (gv_one hw ha) 0 2 rfl rfl hin hd (kk A hA)) k
      next => cases hx
    next => cases hx
  · rw [decide_eq_true_eq] at hc
    obtain ⟨rfl, rfl⟩ := hc
    simp only [gv_x5] at hx
    split at hx
    next ix a st =>
      split at hx
      next n9 f ha =>
        split at hx
        next => cases hx
        next hin =>
          cases hx
          exact gv_pure (fun p e R s m args below meth c H locs cells slots Q A X hw hA kk => va_lald X.1 X.2.1 X.2.2.2.2.1.2.1 (gv_one hw ha) 0 1 rfl rfl hin hd (kk A hA)) k
      next => cases hx
    next => cases hx
  · rw [decide_eq_true_eq] at hc
    obtain ⟨rfl, rfl⟩ := hc
    simp only [gv_x5] at hx
    split at hx
    next ix a st =>
      split at hx
      next n9 f ha =>
        split at hx
        next => cases hx
        next hin =>
          cases hx
          refine gv_pure (fun p e R s m args below meth c H locs cells slots Q A X hw hA kk => va_aldq X.1 X.2.1 X.2.2.2.2.1.2.1 (gv_one hw ha) 0 3 rfl rfl hin hd ?_) k
          have k9 := kk A hA
          have e9 : gv_v G.2.1 (Sum.inr (Sum.inr (f ix.toNatClampNeg))) = va_rf ((f ix.toNatClampNeg).map G.2.1) := by
            cases f ix.toNatClampNeg <;> rfl
          rw [List.map_cons, e9] at k9
          exact k9
      next => cases hx
    next => cases hx
  · cases hc
end GHA
end
section
section GIA
/-- writing -/
def gv_x6 (J : gv_J) (ls : gv_L) (st : List gv_V) (h : gv_H) : Option gv_S := match J with
  | (76, _, _, _, _, _, nx, _) => match st with
    | Sum.inl x :: Sum.inl i :: Sum.inr (Sum.inr (some a)) :: st => match Nat.beq a 0 with
      | true => none
      | false => match h.2.2 a with
        | some (Sum.inl (0, n, Sum.inl f)) => if i < 0 ∨ n ≤ i.toNatClampNeg then none else some (nx, ls, st, gv_set h a (Sum.inl (0, n, Sum.inl (upd f i.toNatClampNeg x))))
        | _ => none
    | _ => none
  | (77, _, _, _, _, _, nx, _) => match st with
    | Sum.inl x :: Sum.inl i :: Sum.inr (Sum.inr (some a)) :: st => match Nat.beq a 0 with
      | true => none
      | false => match h.2.2 a with
        | some (Sum.inl (2, n, Sum.inl f)) => if i < 0 ∨ n ≤ i.toNatClampNeg then none else if x = 0 ∨ x = 1 then some (nx, ls, st, gv_set h a (Sum.inl (2, n, Sum.inl (upd f i.toNatClampNeg x)))) else none
        | _ => none
    | _ => none
  | (78, _, _, _, _, _, nx, _) => match st with
    | Sum.inr (Sum.inl x) :: Sum.inl i :: Sum.inr (Sum.inr (some a)) :: st => match Nat.beq a 0 with
      | true => none
      | false => match h.2.2 a with
        | some (Sum.inl (1, n, Sum.inl f)) => if i < 0 ∨ n ≤ i.toNatClampNeg then none else if x.toInt32.toInt64 = x then some (nx, ls, st, gv_set h a (Sum.inl (1, n, Sum.inl (upd f i.toNatClampNeg x.toInt32)))) else none
        | _ => none
    | _ => none
  | (79, _, _, _, _, _, nx, _) => match st with
    | Sum.inr (Sum.inr (some v)) :: Sum.inl i :: Sum.inr (Sum.inr (some a)) :: st => match Nat.beq a 0 with
      | true => none
      | false => match h.2.2 a, h.2.2 v with
        | some (Sum.inl (3, n, Sum.inr f)), some (Sum.inr (cj, _)) => if i < 0 ∨ n ≤ i.toNatClampNeg ∨ cj ≠ gv_qi then none else some (nx, ls, st, gv_set h a (Sum.inl (3, n, Sum.inr (va_up f i.toNatClampNeg (some v)))))
        | _, _ => none
    | _ => none
  | (80, _, _, ci, j, _, nx, _) => match st with
    | v :: Sum.inr (Sum.inr (some a)) :: st => match Nat.beq a 0 with
      | true => none
      | false => match h.2.2 a, gv_cl[ci]? with
        | some (Sum.inr (cj, fs)), some r => if cj = ci ∧ j < fs.length ∧ gv_fit (gv_ft r j) v = true then some (nx, ls, st, gv_set h a (Sum.inr (ci, fs.set j v))) else none
        | _, _ => none
    | _ => none
  | _ => none
def gv_ck6 (y : MethodName) (pc : Nat) (J : gv_J) (i : Instr) (n : Nat) : Bool := match J, i with
  | (76, _, _, _, _, _, nx, _), .iastore => decide (n = 1 ∧ nx = pc + 1)
  | (77, _, _, _, _, _, nx, _), .bastore => decide (n = 1 ∧ nx = pc + 1)
  | (78, _, _, _, _, _, nx, _), .lastore => decide (n = 1 ∧ nx = pc + 1)
  | (79, _, _, _, _, _, nx, _), .aastore => decide (n = 1 ∧ nx = pc + 1)
  | (80, _, _, ci, j, wp, nx, _), .putfield x => match gv_cl[ci]? with
    | some r => decide (n = 3 ∧ nx = pc + 3 ∧ j < r.2.2 ∧ ((r.2.1 j).2.2.2 = true → y.name = "<init>" ∧ (r.2.1 j).1 = y.cls)) && gv_tw wp (.fieldLink y.cls x (r.2.1 j).1 (r.2.1 j).2.1 (r.2.1 j).2.2.1)
    | none => false
  | _, _ => false
theorem gv_nz {a : Nat} (h : Nat.beq a 0 = false) : a ≠ 0 := fun e => by rw [e] at h; cases h
theorem gv_arr_set {G : gv_G} {t n : Nat} {f : Nat → Int32} {i x : Int32} (ht : t ≠ 1) : (vp_cell (G.2.2.2.1 t) (gv_arr G.2.1 t n (Sum.inl f))).setSlot i.toNatClampNeg (.int x) = vp_cell (G.2.2.2.1 t) (gv_arr G.2.1 t n (Sum.inl (upd f i.toNatClampNeg x))) := by
  unfold gv_arr
  dsimp only
  rw [if_neg ht, if_neg ht, vp_cell_i, vp_cell_i, arrV_store]
  congr 1
  funext q
  by_cases hq : q = i.toNatClampNeg
  · subst hq
    simp [updV, upd]
  · simp [updV, upd, hq]
variable {G : gv_G} {y : gv_M} {d : Nat} {r : gv_O} {hf : gv_H} {pc : Nat} {J : gv_J} {ls : gv_L} {st : List gv_V} {h : gv_H} {S : gv_S} {i : Instr} {n : Nat}
theorem gv_ain {G : gv_G} {t n : Nat} {x : gv_A} {i : Int32} (hin : ¬ (i < 0 ∨ n ≤ i.toNatClampNeg)) : ¬ (i < 0 ∨ (vp_cell (G.2.2.2.1 t) (gv_arr G.2.1 t n x)).slots.size ≤ i.toNatClampNeg) := by
  have e : (vp_cell (G.2.2.2.1 t) (gv_arr G.2.1 t n x)).slots.size = n := by
    unfold gv_arr
    rcases x with f | f
    · dsimp only
      split
      · rw [vp_cell_l, arrV_size]
      · rw [vp_cell_i, arrV_size]
    · rw [vp_cell_q, arrV_size]
  rw [e]
  exact hin
theorem gv_avm {G : gv_G} {t n : Nat} {x : gv_A} : (vp_cell (G.2.2.2.1 t) (gv_arr G.2.1 t n x)).vm = .none := by
  unfold gv_arr
  rcases x with f | f
  · dsimp only
    split
    · rw [vp_cell_l]; rfl
    · rw [vp_cell_i]; rfl
  · rw [vp_cell_q]; rfl
theorem gv_aof {G : gv_G} {s : State} {t n : Nat} {x : gv_A} {ty : FieldType} (h : ArrOfT s (G.2.2.2.1 t) ty) : s.isArrayOf (vp_cell (G.2.2.2.1 t) (gv_arr G.2.1 t n x)) ty := by
  unfold gv_arr
  rcases x with f | f
  · dsimp only
    split
    · rw [vp_cell_l]; exact h _ _
    · rw [vp_cell_i]; exact h _ _
  · rw [vp_cell_q]; exact h _ _
theorem gv_putf {ci j wp x a : Nat} {rr : vw_C} {fs : List gv_V} {v : gv_V} (hok : ∀ ci r, gv_cl[ci]? = some r → gv_clok ci r) (h0 : a ≠ 0) (hr : gv_cl[ci]? = some rr) (hj : j < rr.2.2) (hfin : (rr.2.1 j).2.2.2 = true → y.1.name = "<init>" ∧ (rr.2.1 j).1 = y.1.cls)
    (hw9 : gv_tw wp (.fieldLink y.1.cls x (rr.2.1 j).1 (rr.2.1 j).2.1 (rr.2.1 j).2.2.1) = true) (hd : decode y.2.1 pc = .ok (.putfield x, 3)) (ha : h.2.2 a = some (Sum.inr (ci, fs))) (hl : j < fs.length) (hfit : gv_fit (gv_ft rr j) v = true)
    (k : gv_go G y d r hf (pc + 3) ls st (gv_set h a (Sum.inr (ci, fs.set j v)))) : gv_go G y d r hf pc ls (v :: gR a :: st) h := by
  obtain ⟨-, o1, o2, o3, -, -⟩ := hok _ _ hr
  refine gv_wr h0 (fun p e R s m args below meth c H locs cells slots Q A X hw hA kk => ?_) k
  have hK := X.2.2.2.2.1.2.1
  have hts := gv_ws X.2.2.2.2.1 o1 args
  have hap := va_apart (own := "") hts (fun _ q => q) (gv_ft rr) o2 o3 hK hr
  obtain ⟨r8, h1, cell, q1, q2, q3, q4⟩ := (hw.2.2.2 a _ ha).2
  have hrr : r8 = rr := Option.some.inj (h1.symm.trans hr)
  subst hrr
  obtain ⟨hS, hfc, kC, hkC, hkind⟩ := hK.1 _ _ hr
  obtain ⟨cf, kf, fi, f, hi, hsl⟩ := hS j hj
  have hlay := hts _ (u_in_lay hj)
  have hst := (u_facts hfc hkC (u_lays hts (fun _ q => q) hj) hi).1
  obtain ⟨hn1, hn2⟩ := gv_fit_ok G.2.1 hfit
  have hend : ∀ H1 : Heap, H1[G.2.1 a]? = some (cell.setSlot (G.2.2.1.2 ci j) (gv_v G.2.1 v)) → H1.size = H.size → (∀ q : Nat, q ≠ G.2.1 a → H1[q]? = H[q]?) → gv_w G (gv_set h a (Sum.inr (ci, fs.set j v))) H1 := by
    intro H1 e1 z1 oq
    refine hw.set h0 ha ⟨_, hr, t_OB.to (V := updV (vp_V (fs.map (gv_v G.2.1))) j (gv_v G.2.1 v)) ⟨_, e1, q2, q3, t_set q4 hap hj _⟩ (fun b _ => ?_)⟩ z1 oq
    rw [vp_updV_set (by rw [List.length_map]; exact hl)]
    show _ = vp_V ((fs.set j v).map (gv_v G.2.1)) b
    rw [List.map_set]
  unfold u_lay at hlay
  by_cases hF : (r8.2.1 j).2.2.2 = true
  · rw [if_pos hF] at hlay
    obtain ⟨hin2, hdecl⟩ := hfin hF
    have hcf : m.cls = cf := by
      obtain ⟨_, _, c', _, _, _, -, -, hf', -, -, -, hown2, -⟩ := Cond.laysFinal_spec hlay
      have e1 : c' = cf := by have := hi.symm.trans hf'; simp at this; exact this.1.symm
      rw [hdecl] at hown2
      rw [← e1]; exact Option.some.inj (X.2.2.2.1.symm.trans hown2)
    have h6 := u_fits hfc hkC hkind (Or.inr hlay) hi (o2 j hj) hn1 hn2
    refine W.putFinK X.1 X.2.1 X.2.2.2.1 (gv_tw_use X.2.2.2.2.1 hw9 args) hi hst hcf (X.2.2.2.2.2.2.2.1.trans hin2) (by rw [q2]; exact h6) q1 q3 (by rw [hsl]; exact k2_hasslot (q4 j hj)) rfl rfl hd fun H1 e1 z1 oq => ?_
    rw [hsl] at e1 ⊢
    exact kk H1 _ (hend H1 e1 z1 oq)
  · rw [if_neg hF] at hlay
    have h6 := u_store hfc hkC hkind hlay hi (o2 j hj) hn1 hn2
    refine W.putK X.1 X.2.1 (f := f) ⟨X.2.2.2.1, gv_tw_use X.2.2.2.2.1 hw9 args, ⟨_, _, _, hi⟩, hst⟩ (by rw [q2]; exact h6) q1 q3 (by rw [hsl]; exact k2_hasslot (q4 j hj)) rfl rfl hd fun H1 e1 z1 oq => ?_
    rw [hsl] at e1 ⊢
    exact kk H1 _ (hend H1 e1 z1 oq)
theorem gv_s6 (hok : ∀ ci r, gv_cl[ci]? = some r → gv_clok ci r) (hqi : ∃ r, gv_cl[gv_qi]? = some r ∧ r.1 = gv_qc) (hd : decode y.2.1 pc = .ok (i, n)) (hc : gv_ck6 y.1 pc J i n = true) (hx : gv_x6 J ls st h = some S) (k : gv_go G y d r hf S.1 S.2.1 S.2.2.1 S.2.2.2) : gv_go G y d r hf pc ls st h := by
  unfold gv_ck6 at hc
  split at hc
  · rw [decide_eq_true_eq] at hc
    obtain ⟨rfl, rfl⟩ := hc
    simp only [gv_x6] at hx
    split at hx
    next x ix a st =>
      split at hx
      next => cases hx
      next h0 =>
       have h0 := gv_nz h0
       split at hx
       next n9 f ha =>
        split at hx
        next => cases hx
        next hin =>
          cases hx
          refine gv_wr h0 (fun p e R s m args below meth c H locs cells slots Q A X hw hA kk => ?_) k
          have hcell : H[G.2.1 a]? = some (vp_cell (G.2.2.2.1 0) (gv_arr G.2.1 0 n9 (Sum.inl f))) := (hw.2.2.2 a _ ha).2
          refine W.iast X.1 X.2.1 hcell (gv_aof (X.2.2.2.2.1.2.1.2 0 _ rfl).1) (by rw [gv_avm]; exact fun q => by cases q) (gv_ain hin) rfl rfl hd fun H1 e1 z1 oq => kk H1 _ (hw.set h0 ha ?_ z1 oq)
          show H1[G.2.1 a]? = some (vp_cell (G.2.2.2.1 0) (gv_arr G.2.1 0 n9 (Sum.inl (upd f ix.toNatClampNeg x))))
          rw [e1, gv_arr_set (by decide)]
       next => cases hx
    next => cases hx
  · rw [decide_eq_true_eq] at hc
    obtain ⟨rfl, rfl⟩ := hc
    simp only [gv_x6] at hx
    split at hx
    next x ix a st =>
      split at hx
      next => cases hx
      next h0 =>
       have h0 := gv_nz h0
       split at hx
       next n9 f ha =>
        split at hx
        next => cases hx
        next hin =>
          split at hx
          next h01 =>
            cases hx
            refine gv_wr h0 (fun p e R s m args below meth c H locs cells slots Q A X hw hA kk => ?_) k
            have hcell : H[G.2.1 a]? = some (vp_cell (G.2.2.2.1 2) (gv_arr G.2.1 2 n9 (Sum.inl f))) := (hw.2.2.2 a _ ha).2
            refine W.zast X.1 X.2.1 hcell (gv_aof (X.2.2.2.2.1.2.1.2 2 _ rfl).1) (by rw [gv_avm]; exact fun q => by cases q) (gv_ain hin) rfl rfl hd fun H1 e1 z1 oq => kk H1 _ (hw.set h0 ha ?_ z1 oq)
            show H1[G.2.1 a]? = some (vp_cell (G.2.2.2.1 2) (gv_arr G.2.1 2 n9 (Sum.inl (upd f ix.toNatClampNeg x))))
            have hnar : narrow .boolean (.int x) = .int x := by
              rcases h01 with q | q <;> subst q <;> rfl
            rw [e1, hnar, gv_arr_set (by decide)]
          next => cases hx
       next => cases hx
    next => cases hx
  · rw [decide_eq_true_eq] at hc
    obtain ⟨rfl, rfl⟩ := hc
    simp only [gv_x6] at hx
    split at hx
    next x ix a st =>
      split at hx
      next => cases hx
      next h0 =>
       have h0 := gv_nz h0
       split at hx
       next n9 f ha =>
        split at hx
        next => cases hx
        next hin =>
          split at hx
          next h01 =>
            cases hx
            refine gv_wr h0 (fun p e R s m args below meth c H locs cells slots Q A X hw hA kk => ?_) k
            have hcell : H[G.2.1 a]? = some (vp_cell (G.2.2.2.1 1) (gv_arr G.2.1 1 n9 (Sum.inl f))) := (hw.2.2.2 a _ ha).2
            refine W.last X.1 X.2.1 hcell (gv_aof (X.2.2.2.2.1.2.1.2 1 _ rfl).1) (by rw [gv_avm]; exact fun q => by cases q) (gv_ain hin) rfl rfl hd fun H1 e1 z1 oq => kk H1 _ (hw.set h0 ha ?_ z1 oq)
            show H1[G.2.1 a]? = some (vp_cell (G.2.2.2.1 1) (gv_arr G.2.1 1 n9 (Sum.inl (upd f ix.toNatClampNeg x.toInt32))))
            rw [e1]
            unfold gv_arr
            dsimp only
            rw [if_pos rfl, if_pos rfl, vp_cell_l, vp_cell_l, arrV_store]
            congr 2
            funext q
            by_cases hq : q = ix.toNatClampNeg
            · subst hq
              simp [updV, upd, h01]
            · simp [updV, upd, hq]
          next => cases hx
       next => cases hx
    next => cases hx
  · rw [decide_eq_true_eq] at hc
    obtain ⟨rfl, rfl⟩ := hc
    simp only [gv_x6] at hx
    split at hx
    next v ix a st =>
      split at hx
      next => cases hx
      next h0 =>
       have h0 := gv_nz h0
       split at hx
       next n9 f cj fs ha hv =>
        split at hx
        next => cases hx
        next hin =>
          cases hx
          have hin1 : ¬ (ix < 0 ∨ n9 ≤ ix.toNatClampNeg) := fun q => hin (q.elim Or.inl (fun q => Or.inr (Or.inl q)))
          have hcj : cj = gv_qi := Classical.byContradiction (fun q => hin (Or.inr (Or.inr q)))
          subst hcj
          refine gv_wr h0 (fun p e R s m args below meth c H locs cells slots Q A X hw hA kk => ?_) k
          have hcell : H[G.2.1 a]? = some (vp_cell (G.2.2.2.1 3) (gv_arr G.2.1 3 n9 (Sum.inr f))) := (hw.2.2.2 a _ ha).2
          obtain ⟨r', hr', cellV, g1, g2, g3, -⟩ := (hw.2.2.2 v _ hv).2
          obtain ⟨rq, hq1, hq2⟩ := hqi
          have hcls := (X.2.2.2.2.1.2.1.1 gv_qi rq hq1).2
          rw [hq2] at hcls
          obtain ⟨kA, comp, k1, k2, k3, -⟩ := (X.2.2.2.2.1.2.1.2 3 _ rfl).2
          have hcomp : comp = G.2.2.1.1 gv_qi := Option.some.inj (k3.symm.trans hcls.1)
          subst hcomp
          obtain ⟨kC, hkC, -⟩ := hcls.2
          refine W.aast X.1 X.2.1 hcell (fun q hh => by rw [gv_avm] at hh; cases hh) (fun hh => by rw [gv_avm] at hh; cases hh) k1 k2 rfl hkC ⟨fun q => hin1 (Or.inl q), Nat.not_le.mp (fun q => gv_ain (G := G) (t := 3) (x := Sum.inr f) hin1 (Or.inr q))⟩ g1 (fun q hh => by rw [g3] at hh; cases hh) (by rw [g2]; exact hkC) (by rw [g2]; exact va_assign hcls) rfl rfl hd fun H1 e1 z1 oq => kk H1 _ (hw.set h0 ha ?_ z1 oq)
          show H1[G.2.1 a]? = some (vp_cell (G.2.2.2.1 3) (gv_arr G.2.1 3 n9 (Sum.inr (va_up f ix.toNatClampNeg (some v)))))
          rw [e1]
          unfold gv_arr
          dsimp only
          rw [vp_cell_q, vp_cell_q, arrV_store]
          congr 2
          funext q
          by_cases hq : q = ix.toNatClampNeg
          · subst hq
            simp [updV, va_up, va_rf]
          · simp [updV, va_up, hq]
       next => cases hx
    next => cases hx
  · split at hc
    next rr hr =>
      rw [Bool.and_eq_true, decide_eq_true_eq] at hc
      obtain ⟨⟨rfl, rfl, hj, hfin⟩, hw9⟩ := hc
      simp only [gv_x6] at hx
      split at hx
      next v a st =>
        split at hx
        next => cases hx
        next h0 =>
         have h0 := gv_nz h0
         rw [hr] at hx
         split at hx
         next cj fs r2 ha hr2 =>
          cases hr2
          split at hx
          next hq9 =>
            obtain ⟨rfl, hl, hfit⟩ := hq9
            cases hx
            exact gv_putf hok h0 hr hj hfin hw9 hd ha hl hfit k
          next => cases hx
         next => cases hx
      next => cases hx
    next => cases hc
  · cases hc
end GIA
end
section
section GJA
def gv_at (t : Nat) : ArrayType := match t with
  | 0 => .int
  | 1 => .long
  | _ => .boolean
/-- making -/
def gv_x7 (J : gv_J) (ls : gv_L) (st : List gv_V) (h : gv_H) : Option gv_S := match J with
  | (81, _, _, ci, _, _, nx, _) => match gv_cl[ci]? with
    | some r => some (nx, ls, gR h.1 :: st, gv_push h r.2.2 (Sum.inr (ci, gv_nf ci)))
    | none => none
  | (82, _, _, t, _, _, nx, _) => match st with
    | Sum.inl n :: st => if n < 0 ∨ 100000 < n.toNatClampNeg ∨ 2 < t then none else some (nx, ls, gR h.1 :: st, gv_push h n.toNatClampNeg (Sum.inl (t, n.toNatClampNeg, Sum.inl (fun _ => 0))))
    | _ => none
  | (83, _, _, _, _, _, nx, _) => match st with
    | Sum.inl n :: st => if n < 0 ∨ 100000 < n.toNatClampNeg then none else some (nx, ls, gR h.1 :: st, gv_push h n.toNatClampNeg (Sum.inl (3, n.toNatClampNeg, Sum.inr (fun _ => none))))
    | _ => none
  | _ => none
def gv_ck7 (own : String) (pc : Nat) (J : gv_J) (i : Instr) (n : Nat) : Bool := match J, i with
  | (81, _, _, ci, _, wp, nx, _), .new x => match gv_cl[ci]? with
    | some r => decide (n = 3 ∧ nx = pc + 3) && gv_tw wp (.classLink own x r.1) && gv_tw (gv_cw ci).1 (.instantiable r.1 r.2.2) && gv_tw (gv_cw ci).2 (.initialized r.1)
    | none => false
  | (82, _, _, t, _, wp, nx, _), .newarray aty => decide (n = 2 ∧ nx = pc + 2 ∧ aty = gv_at t) && gv_tw wp (.arrayClass (newarray.typeOf aty))
  | (83, _, _, _, b, wp, nx, _), .anewarray x => decide (n = 3 ∧ nx = pc + 3) && gv_tw wp (.classLink own x gv_qc) && gv_tw b (.arrayOver (.object gv_qc))
  | _, _ => false
variable {G : gv_G} {y : gv_M} {d : Nat} {r : gv_O} {hf : gv_H} {pc : Nat} {J : gv_J} {ls : gv_L} {st : List gv_V} {h : gv_H} {S : gv_S} {i : Instr} {n : Nat}
theorem gv_new {ci x wp w1 w2 : Nat} {rr : vw_C} (hok : ∀ ci r, gv_cl[ci]? = some r → gv_clok ci r) (hr : gv_cl[ci]? = some rr) (h1 : gv_tw wp (.classLink y.1.cls x rr.1) = true) (h2 : gv_tw w1 (.instantiable rr.1 rr.2.2) = true) (h3 : gv_tw w2 (.initialized rr.1) = true)
    (hd : decode y.2.1 pc = .ok (.new x, 3)) (k : gv_go G y d r hf (pc + 3) ls (gR h.1 :: st) (gv_push h rr.2.2 (Sum.inr (ci, gv_nf ci)))) : gv_go G y d r hf pc ls st h := by
  obtain ⟨-, o1, o2, o3, o4, o5⟩ := hok _ _ hr
  rw [o5] at k
  refine gv_mk (fun p e R s m args below meth c H locs cells slots Q A X hw hA hcells hslots kk => ?_) k
  have hK := X.2.2.2.2.1
  have hKn := hK.2.1.1 ci _ hr
  refine W.newcK X.1 X.2.1 X.2.2.2.1 (gv_tw_use hK h1 args) (gv_tw_use hK h2 args) (gv_tw_use hK h3 args) rfl hd hcells hslots hKn.2.1 hw.2.1 fun H1 kC hkC e1 z1 oq => kk H1 (hw.push ?_ (by rw [z1, hw.2.1]) (fun q hq => oq q (by rw [← hw.2.1]; exact hq)))
  refine ⟨_, hr, (u_born (gv_ft rr) (gv_ws hK o1 args) (fun _ q => q) hKn hkC e1 o2).to (fun j hj => ?_)⟩
  show defaultValue (gv_ft rr j) = vp_V (((List.range rr.2.2).map (fun k => gv_df (gv_ft rr k))).map (gv_v G.2.1)) j
  have e9 : ((((List.range rr.2.2).map (fun k => gv_df (gv_ft rr k))).map (gv_v G.2.1))[j]?) = some (gv_v G.2.1 (gv_df (gv_ft rr j))) := by
    rw [List.getElem?_map, List.getElem?_map, List.getElem?_range hj]
    rfl
  unfold vp_V
  rw [List.getD_eq_getElem?_getD, e9]
  show defaultValue (gv_ft rr j) = gv_v G.2.1 (gv_df (gv_ft rr j))
  have h9 := o4 j hj
  revert h9
  generalize gv_ft rr j = t9
  intro h9
  cases t9 <;> first | rfl | cases h9
theorem gv_newa {t wp : Nat} {n : Int32} (h1 : gv_tw wp (.arrayClass (newarray.typeOf (gv_at t))) = true) (hn : ¬ (n < 0 ∨ 100000 < n.toNatClampNeg ∨ 2 < t))
    (hd : decode y.2.1 pc = .ok (.newarray (gv_at t), 2)) (k : gv_go G y d r hf (pc + 2) ls (gR h.1 :: st) (gv_push h n.toNatClampNeg (Sum.inl (t, n.toNatClampNeg, Sum.inl (fun _ => 0))))) : gv_go G y d r hf pc ls (gI n :: st) h := by
  refine gv_mk (fun p e R s m args below meth c H locs cells slots Q A X hw hA hcells hslots kk => ?_) k
  have hK := X.2.2.2.2.1
  have hn0 : ¬ n < 0 := fun q => hn (Or.inl q)
  have hn1 : ¬ 100000 < n.toNatClampNeg := fun q => hn (Or.inr (Or.inl q))
  have ht : ¬ 2 < t := fun q => hn (Or.inr (Or.inr q))
  have hby : n.toNatClampNeg * componentBytes (newarray.typeOf (gv_at t)) ≤ 536870912 := by
    have : componentBytes (newarray.typeOf (gv_at t)) ≤ 8 := by
      rcases (show t = 0 ∨ t = 1 ∨ t = 2 by omega) with q | q | q <;> subst q <;> decide
    have h9 := Nat.mul_le_mul (Nat.not_lt.mp hn1) this
    omega
  refine va_newaK X.1 X.2.1 (gv_tw_use hK h1 args) rfl hd rfl hn0 rfl hby hcells hslots hw.2.1 fun H1 cA e1 z1 oq hAr hNm => kk H1 (hw.push ?_ (by rw [z1, hw.2.1]) (fun q hq => oq q (by rw [← hw.2.1]; exact hq)))
  show H1[G.2.1 h.1]? = some (vp_cell (G.2.2.2.1 t) (gv_arr G.2.1 t n.toNatClampNeg (Sum.inl (fun _ => 0))))
  have hcA : cA = G.2.2.2.1 t := by
    rcases (show t = 0 ∨ t = 1 ∨ t = 2 by omega) with q | q | q <;> subst q
    · exact Option.some.inj (hNm.symm.trans (hK.2.1.2 0 _ rfl).2)
    · exact Option.some.inj (hNm.symm.trans (hK.2.1.2 1 _ rfl).2)
    · exact Option.some.inj (hNm.symm.trans (hK.2.1.2 2 _ rfl).2)
  rw [e1, hcA]
  rcases (show t = 0 ∨ t = 1 ∨ t = 2 by omega) with q | q | q <;> subst q <;> rfl
theorem gv_anew {wp w1 x : Nat} {n : Int32} (h1 : gv_tw wp (.classLink y.1.cls x gv_qc) = true) (h2 : gv_tw w1 (.arrayOver (.object gv_qc)) = true) (hn : ¬ (n < 0 ∨ 100000 < n.toNatClampNeg))
    (hd : decode y.2.1 pc = .ok (.anewarray x, 3)) (k : gv_go G y d r hf (pc + 3) ls (gR h.1 :: st) (gv_push h n.toNatClampNeg (Sum.inl (3, n.toNatClampNeg, Sum.inr (fun _ => none))))) : gv_go G y d r hf pc ls (gI n :: st) h := by
  refine gv_mk (fun p e R s m args below meth c H locs cells slots Q A X hw hA hcells hslots kk => ?_) k
  have hK := X.2.2.2.2.1
  have hn0 : ¬ n < 0 := fun q => hn (Or.inl q)
  have hn1 : ¬ 100000 < n.toNatClampNeg := fun q => hn (Or.inr q)
  refine W.anew X.1 X.2.1 X.2.2.2.1 (gv_tw_use hK h1 args) (gv_tw_use hK h2 args) rfl hd rfl hn0 (by omega) hcells hslots fun cA kA comp f1 f2 f3 f4 => ?_
  generalize hH1 : H.push ({ cls := cA, slots := Array.replicate n.toNatClampNeg .null, vm := .none } : Cell) = H1
  have z1 : H1.size = H.size + 1 := by rw [← hH1, Array.size_push]
  have e1 : H1[H.size]? = some (arrV cA n.toNatClampNeg (fun _ => .null)) := by rw [← hH1, Array.getElem?_push_size, ← arrV_new]
  have o1 : ∀ q : Nat, q < H.size → H1[q]? = H[q]? := fun q hq => by rw [← hH1, Array.getElem?_push, if_neg (Nat.ne_of_lt hq)]
  have k9 := kk H1 (hw.push (by
    show H1[G.2.1 h.1]? = some (vp_cell (G.2.2.2.1 3) _)
    obtain ⟨kA2, comp2, -, -, -, b4⟩ := (hK.2.1.2 3 _ rfl).2
    have hcA : cA = G.2.2.2.1 3 := Option.some.inj (f1.symm.trans b4)
    rw [← hw.2.1, e1, hcA]
    rfl) z1 o1)
  rw [hw.2.1]
  exact k9
theorem gv_s7 (hok : ∀ ci r, gv_cl[ci]? = some r → gv_clok ci r) (hd : decode y.2.1 pc = .ok (i, n)) (hc : gv_ck7 y.1.cls pc J i n = true) (hx : gv_x7 J ls st h = some S) (k : gv_go G y d r hf S.1 S.2.1 S.2.2.1 S.2.2.2) : gv_go G y d r hf pc ls st h := by
  unfold gv_ck7 at hc
  split at hc
  · split at hc
    next rr hr =>
      rw [Bool.and_eq_true, Bool.and_eq_true, Bool.and_eq_true, decide_eq_true_eq] at hc
      obtain ⟨⟨⟨⟨rfl, rfl⟩, h1⟩, h2⟩, h3⟩ := hc
      simp only [gv_x7] at hx
      rw [hr] at hx
      cases hx
      exact gv_new hok hr h1 h2 h3 hd k
    next => cases hc
  · rw [Bool.and_eq_true, decide_eq_true_eq] at hc
    obtain ⟨⟨rfl, rfl, rfl⟩, h1⟩ := hc
    simp only [gv_x7] at hx
    split at hx
    next =>
      split at hx
      next => cases hx
      next hn => cases hx; exact gv_newa h1 hn hd k
    next => cases hx
  · rw [Bool.and_eq_true, Bool.and_eq_true, decide_eq_true_eq] at hc
    obtain ⟨⟨⟨rfl, rfl⟩, h1⟩, h2⟩ := hc
    simp only [gv_x7] at hx
    split at hx
    next =>
      split at hx
      next => cases hx
      next hn => cases hx; exact gv_anew h1 h2 hn hd k
    next => cases hx
  · cases hc
end GJA
end
section
/-! gk: calls, returns, and whole runs of steps -/
section GKA
def gv_cs (st : List gv_V) : Nat := match st with
  | [] => 0
  | v :: l => (if gv_isL (some (some v)) then 2 else 1) + gv_cs l
theorem gv_cs_sum (z : Nat → Nat) : ∀ st : List gv_V, ((st.map (gv_v z)).map fun v => v.category).sum = gv_cs st
  | [] => rfl
  | v :: l => by
    have ih := gv_cs_sum z l
    simp only [List.map_cons, List.sum_cons, gv_cs]
    rw [ih]
    congr 1
    by_cases e : gv_isL (some (some v)) = true
    · rw [if_pos e]; exact gv_cat.mpr e
    · rw [if_neg e]; exact gv_c1 e
theorem gv_cs_len (z : Nat → Nat) : ∀ st : List gv_V, (lg_sl (st.map (gv_v z))).length = gv_cs st
  | [] => rfl
  | v :: l => by
    have ih := gv_cs_len z l
    have e0 : lg_sl ((v :: l).map (gv_v z)) = (if (gv_v z v).category = 2 then [.val (gv_v z v), .second] else [.val (gv_v z v)]) ++ lg_sl (l.map (gv_v z)) := rfl
    rw [e0, List.length_append, ih]
    simp only [gv_cs]
    congr 1
    by_cases e : gv_isL (some (some v)) = true
    · rw [if_pos e, if_pos (gv_cat.mpr e)]; rfl
    · rw [if_neg e, if_neg (fun q => e (gv_cat.mp q))]; rfl
def gv_Pc (G : gv_G) (args : List gv_V) (h : gv_H) : Array Value → State → Prop := fun v U => v = (args.map (gv_v G.2.1)).toArray ∧ gv_K G U ∧ gv_w G h U.heap
theorem gv_blind {G : gv_G} {args : List gv_V} {h : gv_H} : FrameBlind (gv_Pc G args h) := fun _ U g mk q => ⟨q.1, gv_K.same (s := U) rfl q.2.1, q.2.2⟩
/-- the word of a method's code -/
def gv_cwd (M : gv_M) : Jvm.Cond := match M.2.2.2.2.2.2.2.2.2.2 with
  | [] => .code M.1 M.2.1 M.2.2.1 M.2.2.2.1
  | q :: l => .codeWith M.1 M.2.1 M.2.2.1 M.2.2.2.1 (q :: l)
theorem gv_cwd_spec {M : gv_M} {args : Array Value} {s : State} (h : (gv_cwd M).before args s = true) :
    ∃ m meth c, s.methodNamed? M.1 = some m ∧ s.vm.method? m = some meth ∧ meth.code = some c ∧ c.code = M.2.1 ∧ c.maxLocals = M.2.2.1 ∧ c.exceptionTable.toList.map (fun h => (h.startPc, h.endPc, h.handlerPc, h.catchType)) = M.2.2.2.2.2.2.2.2.2.2 ∧ meth.sig.returnType = M.2.2.2.1 ∧ meth.locks = false ∧ parseMethodDescriptor M.1.desc = some meth.sig := by
  unfold gv_cwd at h
  split at h
  next e =>
    obtain ⟨m, hn⟩ := Cond.code_named h
    obtain ⟨meth, c, h1, h2, h3, h4, h5, h6, h7, h8⟩ := Cond.code_spec hn h
    refine ⟨m, meth, c, hn, h1, h2, h3, h4, ?_, h5, h6, h8⟩
    rw [e, Array.isEmpty_iff.mp h7]
    rfl
  next q l e =>
    obtain ⟨m, meth, c, hn, h1, h2, h3, h4, h5, h6, h7, h8⟩ := Cond.codeWith_spec h
    exact ⟨m, meth, c, hn, h1, h2, h3, h4, by rw [e]; exact h5, h6, h7, h8⟩
/-- a call of the method: it answers r, the picture is hf then -/
def gv_ev (G : gv_G) (d : Nat) (M : gv_M) (args : List gv_V) (h : gv_H) (r : gv_O) (hf : gv_H) : Prop :=
  (h.2.1.1 ≤ hf.2.1.1 ∧ h.2.1.2 ≤ hf.2.1.2) ∧ match r with
  | .inl v => Met G.1 M.1 [gv_cwd M] (gv_room d (hf.2.1.1 - h.2.1.1) (hf.2.1.2 - h.2.1.2)) (gv_Pc G args h) (gv_Qv G v hf) (hf.2.1.1 - h.2.1.1) (hf.2.1.2 - h.2.1.2) (gv_fr G)
  | .inr (.inl E) => MetFree G.1 M.1 (headSpec [gv_cwd M] (gv_room d (hf.2.1.1 - h.2.1.1) (hf.2.1.2 - h.2.1.2))) (gv_Pc G args h) (fun _ _ _ _ _ => True) (fun _ st o t => ∃ q, o = .threw q ∧ gx_T G E hf st q t (hf.2.1.1 - h.2.1.1) (hf.2.1.2 - h.2.1.2))
  | .inr (.inr none) => False
  | .inr (.inr (some v)) => Met G.1 M.1 [gv_cwd M] (gv_room d (hf.2.1.1 - h.2.1.1) (hf.2.1.2 - h.2.1.2)) (gv_Pc G args h) (gv_Ql G v hf) (hf.2.1.1 - h.2.1.1) (hf.2.1.2 - h.2.1.2) (gv_fr G)
variable {G : gv_G} {y M : gv_M} {d : Nat} {r : gv_O} {hf h h1 : gv_H} {pc : Nat} {ls : gv_L} {st args : List gv_V}
theorem gv_enter (hp : plainName M.1.cls = true) (hcs : gv_cs args ≤ M.2.2.1) (hls : ∀ (i : Nat) (v : gv_V), ls[i]? = some (some v) → (gv_ent args)[i]? = some (some v)) (hr : r ≠ .inr (.inr none)) (k : gv_go G M d r hf 0 ls [] h) : gv_ev G d M args h r hf := by
  have his : ∀ (rm : Room) (args9 : Array Value) (s : State) (m : MethodId), (headSpec [gv_cwd M] rm).pre.before args9 s = true → s.methodNamed? M.1 = some m → ∃ meth c, s.vm.method? m = some meth ∧ meth.code = some c ∧ c.code = M.2.1 ∧ c.maxLocals = M.2.2.1 ∧ meth.sig.returnType = M.2.2.2.1 ∧ meth.locks = false := by
    intro rm args9 s m hw hn
    obtain ⟨m', meth, c, h1, h2, h3, h4, h5, h6, h7, h8, h9⟩ := gv_cwd_spec (atoms_spec (ws := [gv_cwd M]) hw _ List.mem_cons_self)
    cases hn.symm.trans h1
    exact ⟨meth, c, h2, h3, h4, h5, h7, h8⟩
  have body : ∀ (p : Program) (e : Env) (s : State) (m : MethodId) (args9 : Array Value) (below : List Frame) (meth : Method) (c : Code) (s₁ : State), BodyLoose p G.1 M.1 (headSpec [gv_cwd M] (gv_room d (hf.2.1.1 - h.2.1.1) (hf.2.1.2 - h.2.1.2))) M.2.1 M.2.2.1 M.2.2.2.1 e s m args9 below meth c s₁ → c.maxLocals = M.2.2.1 → gv_Pc G args h args9 s →
      ∃ t, Steps p.tables e below (s₁.setTop (entryFrame m args9 M.2.2.1)) t ∧ gv_fin G r hf below args9 s (hf.2.1.1 - h.2.1.1) (hf.2.1.2 - h.2.1.2) t := by
    intro p e s m args9 below meth c s₁ B hml hv
    obtain ⟨rfl, hK, hw⟩ := hv
    have hl := lv_entry (args.map (gv_v G.2.1)) (n := M.2.2.1) (by rw [gv_cs_len]; exact hcs)
    obtain ⟨m', meth', c', h1, h2, h3, h4, h5, h6, h7, h8, h9⟩ := gv_cwd_spec (atoms_spec (ws := [gv_cwd M]) B.pre _ List.mem_cons_self)
    cases B.named.symm.trans h1
    cases B.method.symm.trans h2
    have X₀ := Stand.of_body B
    cases X₀.code.symm.trans h3
    have hh0 : s₁.heap = s.heap := by rw [B.state]; rfl
    rw [lg_entry_eq]
    generalize (lg_sl (args.map (gv_v G.2.1)) ++ List.replicate (M.2.2.1 - (lg_sl (args.map (gv_v G.2.1))).length) Slot.unset).toArray = A at hl ⊢
    have k2 := k.2 h p e s m (args.map (gv_v G.2.1)).toArray below meth c s.heap [] A (Nat.le_refl _) (Nat.le_refl _) ⟨B.exec, B.bytes, hml, findClass_of_methodNamed B.named, hK, B.returns, B.notSynchronized, (name_of_methodNamed B.named B.method).1, h6⟩ hw (fun q hq => nomatch hq) ⟨hl.1, hl.2.1, fun i v hi => by
      have h9 := hl.2.2 _ (gv_ent_args (z := G.2.1) args 0 i v (hls i v hi))
      rwa [Nat.zero_add] at h9⟩
    rw [Nat.sub_self, Nat.sub_self] at k2
    exact k2 s₁ hh0 X₀
  refine ⟨k.1, ?_⟩
  match r, hr, body with
  | .inl v, _, body =>
    refine MetFree.of_bodyS (code := M.2.1) (maxLocals := M.2.2.1) (ret := M.2.2.2.1) hp (his _) ?_
    intro p e s m args9 below meth c s₁ B hml hv _
    obtain ⟨t, a1, o, b1, b2, b3⟩ := body p e s m args9 below meth c s₁ B hml hv
    exact ⟨t, o, a1, b1, b2, b3.1, b3.2⟩
  | .inr (.inl E), _, body =>
    refine MetFree.of_bodyS (code := M.2.1) (maxLocals := M.2.2.1) (ret := M.2.2.2.1) hp (his _) ?_
    intro p e s m args9 below meth c s₁ B hml hv _
    obtain ⟨t, a1, q, b1, b2, b3⟩ := body p e s m args9 below meth c s₁ B hml hv
    exact ⟨t, .threw q, a1, b1, b2, q, rfl, b3⟩
  | .inr (.inr (some v)), _, body =>
    refine MetFree.of_bodyS (code := M.2.1) (maxLocals := M.2.2.1) (ret := M.2.2.2.1) hp (his _) ?_
    intro p e s m args9 below meth c s₁ B hml hv _
    obtain ⟨t, a1, o, b1, b2, b3⟩ := body p e s m args9 below meth c s₁ B hml hv
    exact ⟨t, o, a1, b1, b2, b3.1, b3.2⟩
  | .inr (.inr none), hr, _ => exact absurd rfl hr
/-- a method's words -/
def gv_mok (M : gv_M) : Bool := gv_tw M.2.2.2.2.2.1 (gv_cwd M) && gv_tw M.2.2.2.2.2.2.1 (.initialized M.1.cls) && decide (M.1.cls ≠ "java/lang/invoke/MethodHandle" ∧ M.1.cls ≠ "java/lang/invoke/VarHandle" ∧ (parseMethodDescriptor M.1.desc).map (fun d => d.parameters.length) = some M.2.2.2.2.2.2.2.2.2.1 ∧ M.2.2.1 ≤ 40)
def gv_msI (M : gv_M) : Bool := gv_mok M && gv_tw M.2.2.2.2.2.2.2.1 (.instanceMethod M.1) && decide (M.2.2.2.1 = none ∧ M.1.name = "<init>" ∧ M.2.2.2.2.2.2.2.2.2.2 = [])
def gv_msV (M : gv_M) : Bool := gv_mok M && gv_tw M.2.2.2.2.2.2.2.1 (.instanceMethod M.1) && gv_tw M.2.2.2.2.2.2.2.2.1 (.selects M.1.cls M.1 M.1) && decide (M.2.2.2.2.2.2.2.2.2.2 = [])
def gv_msS (M : gv_M) : Bool := gv_mok M && gv_tw M.2.2.2.2.2.2.2.1 (.static M.1)
theorem gv_cwd0 {M : gv_M} (h : M.2.2.2.2.2.2.2.2.2.2 = []) : gv_cwd M = .code M.1 M.2.1 M.2.2.1 M.2.2.2.1 := by
  unfold gv_cwd
  rw [h]
def gv_lnk (own : String) (x : Nat) (a wp : Nat) (y : MethodName) : Bool := match a with
  | 0 => gv_tw wp (.methodLink own x y)
  | _ => gv_tw wp (.methodLinkNest own x y gv_host)
theorem gv_backQ {p : Program} {e : Env} {below : List Frame} {s : State} {args9 : Array Value} {Qc : Array Value → State → Outcome → State → Prop} {mc ms : Nat} (hM : gv_mok M = true) (hK : gv_K G s) (hE : Met G.1 M.1 [gv_cwd M] (gv_room d (h1.2.1.1 - h.2.1.1) (h1.2.1.2 - h.2.1.2)) (gv_Pc G args h) Qc (h1.2.1.1 - h.2.1.1) (h1.2.1.2 - h.2.1.2) (gv_fr G)) :
    Back G.1 (gv_room (d + 1) mc ms) p e below s args9 M.1 3 8 (PreOf (gv_room (d + 1) mc ms) (h1.2.1.1 - h.2.1.1) (h1.2.1.2 - h.2.1.2) (gv_Pc G args h)) (PostOf Qc (h1.2.1.1 - h.2.1.1) (h1.2.1.2 - h.2.1.2) (gv_fr G)) := by
  unfold gv_mok at hM
  rw [Bool.and_eq_true, Bool.and_eq_true, decide_eq_true_eq] at hM
  obtain ⟨⟨m1, m2⟩, m3, m4, m5, m6⟩ := hM
  have hfr : d + 8 + 1 ≤ d + 1 + 8 := by omega
  have hlo : 8 + (M.2.2.1 + 11) + (64 * d + 200) ≤ 64 * (d + 1) + 200 := by omega
  have hws : ∀ w ∈ [gv_cwd M], ∀ (a' : Array Value) (U : State), s.WarmedH U.vm → w.before a' U = true := by
    intro w hw a' U hW
    rw [List.mem_singleton.mp hw]
    exact gv_tw_use (hK.moved hW) m1 a'
  have hin : ∀ (a' : Array Value) (U : State), s.WarmedH U.vm → (Jvm.Cond.initialized M.1.cls).before a' U = true := fun a' U hW => gv_tw_use (hK.moved hW) m2 a'
  match e9 : M.2.2.2.2.2.2.2.2.2.2 with
  | [] => exact back_of (bytes := M.2.1) (maxL := M.2.2.1) (ret := M.2.2.2.1) hE gv_blind rfl rfl hfr hlo hws (by rw [gv_cwd0 e9]; exact List.mem_cons_self) hin
  | q :: l => exact va_backW (hh := q :: l) (bytes := M.2.1) (maxL := M.2.2.1) (ret := M.2.2.2.1) hE gv_blind rfl rfl hfr hlo hws (by unfold gv_cwd; rw [e9]; exact List.mem_cons_self) hin
theorem gv_back {p : Program} {e : Env} {below : List Frame} {s : State} {args9 : Array Value} {v : Option gv_V} {mc ms : Nat} (hM : gv_mok M = true) (hK : gv_K G s) (hE : gv_ev G d M args h (.inl v) h1) :
    Back G.1 (gv_room (d + 1) mc ms) p e below s args9 M.1 3 8 (PreOf (gv_room (d + 1) mc ms) (h1.2.1.1 - h.2.1.1) (h1.2.1.2 - h.2.1.2) (gv_Pc G args h)) (PostOf (gv_Qv G v h1) (h1.2.1.1 - h.2.1.1) (h1.2.1.2 - h.2.1.2) (gv_fr G)) := gv_backQ hM hK hE.2
/-- behind the call -/
theorem gv_afterQ {p : Program} {e : Env} {s : State} {m : MethodId} {args9 : Array Value} {below : List Frame} {meth : Method} {c : Code} {T : State} {locs : List Loc} {cells slots mc ms : Nat} {R : Room} {Q : State → Prop} {v : Option gv_V} {Qc : Array Value → State → Outcome → State → Prop} {A : Array Slot} {aa : Array Value} {st0 : List Value}
    (XX : Stand p G.1 e R s m args9 below meth c T locs cells slots) (hr : ∃ (w : Option Value) (vm₁ : Vm) (B : Pt), s.WarmedH vm₁ ∧ Stand p G.1 e R s m args9 below meth c B.U B.locs B.cells B.slots ∧ PostOf Qc mc ms (gv_fr G) ⟨T.setVm vm₁, locs, cells, slots⟩ aa w B ∧
      ∀ target, Steps p.tables e below (B.U.setTop { (F0 m pc A st0) with pc := (F0 m pc A st0).pc + 3, stack := w.toList ++ st.map (gv_v G.2.1) }) target → Steps p.tables e below (T.setTop (F0 m pc A st0)) target)
    (hl : ∀ q ∈ locs, gv_fr G q.base) {Ok : Heap → Prop} (hQ : ∀ (a : Array Value) (st t : State) (w : Option Value), Qc a st (.returned w) t → w = v.map (gv_v G.2.1) ∧ Ok t.heap)
    (kk : ∀ (H1 : Heap) (locs1 : List Loc), Ok H1 → (∀ q ∈ locs1, gv_fr G q.base) → W p G.1 e R s m args9 below meth c H1 locs1 (cells + mc) (slots + ms) Q (F0 m (pc + 3) A ((v.toList ++ st).map (gv_v G.2.1)))) :
    ∃ t, Steps p.tables e below (T.setTop (F0 m pc A st0)) t ∧ Q t := by
  obtain ⟨w, vm₁, ⟨U', l2, c2, s2⟩, hW₁, X', ⟨g', mk, t, L, e1, e2, hq, h1', hL, h2, h3⟩, st9⟩ := hr
  dsimp only [Pt.U, Pt.locs, Pt.cells, Pt.slots] at X' e1 e2 h1' h2 h3 st9
  subst h1'; subst h2; subst h3
  obtain ⟨hv2, hw⟩ := hQ _ _ _ _ hq
  obtain ⟨t2, a1, b1⟩ := kk U'.heap (locs ++ L) (by rw [e1]; exact hw) (fun q hq => (List.mem_append.mp hq).elim (hl q) (hL q)) U' rfl X'
  refine ⟨t2, st9 t2 ?_, b1⟩
  have e9 : w.toList ++ st.map (gv_v G.2.1) = (v.toList ++ st).map (gv_v G.2.1) := by
    rw [hv2]; cases v <;> rfl
  rw [e9]
  exact a1
theorem gv_after {p : Program} {e : Env} {s : State} {m : MethodId} {args9 : Array Value} {below : List Frame} {meth : Method} {c : Code} {T : State} {locs : List Loc} {cells slots mc ms : Nat} {R : Room} {Q : State → Prop} {v : Option gv_V} {A : Array Slot} {aa : Array Value} {st0 : List Value}
    (XX : Stand p G.1 e R s m args9 below meth c T locs cells slots) (hr : ∃ (w : Option Value) (vm₁ : Vm) (B : Pt), s.WarmedH vm₁ ∧ Stand p G.1 e R s m args9 below meth c B.U B.locs B.cells B.slots ∧ PostOf (gv_Qv G v h1) mc ms (gv_fr G) ⟨T.setVm vm₁, locs, cells, slots⟩ aa w B ∧
      ∀ target, Steps p.tables e below (B.U.setTop { (F0 m pc A st0) with pc := (F0 m pc A st0).pc + 3, stack := w.toList ++ st.map (gv_v G.2.1) }) target → Steps p.tables e below (T.setTop (F0 m pc A st0)) target)
    (hl : ∀ q ∈ locs, gv_fr G q.base)
    (kk : ∀ (H1 : Heap) (locs1 : List Loc), gv_w G h1 H1 → (∀ q ∈ locs1, gv_fr G q.base) → W p G.1 e R s m args9 below meth c H1 locs1 (cells + mc) (slots + ms) Q (F0 m (pc + 3) A ((v.toList ++ st).map (gv_v G.2.1)))) :
    ∃ t, Steps p.tables e below (T.setTop (F0 m pc A st0)) t ∧ Q t :=
  gv_afterQ XX hr hl (Ok := gv_w G h1) (fun _ _ _ w hq => ⟨by have h9 := hq.1; cases h9; rfl, hq.2⟩) kk
theorem gv_callS {v : Option gv_V} {x a wp : Nat} (hM : gv_mok M = true) (hs : gv_tw M.2.2.2.2.2.2.2.1 (.static M.1) = true) (hlk : gv_lnk y.1.cls x a wp M.1 = true) (hd : decode y.2.1 pc = .ok (.invokestatic x, 3)) (hn : args.length = M.2.2.2.2.2.2.2.2.2.1) (hcat : gv_cs st ≤ 8)
    (hE : gv_ev G d M args h (.inl v) h1) (k : gv_go G y (d + 1) r hf (pc + 3) ls (v.toList ++ st) h1) : gv_go G y (d + 1) r hf pc ls (args.reverse ++ st) h := by
  have hE1 := hE.1
  have hk1 := k.1
  refine ⟨⟨by omega, by omega⟩, fun h0 p e s m args9 below meth c H locs A q1 q2 X hw hl hA => ?_⟩
  have hK := X.2.2.2.2.1
  have hB := gv_back (p := p) (e := e) (below := below) (args9 := args9) (mc := hf.2.1.1 - h0.2.1.1) (ms := hf.2.1.2 - h0.2.1.2) hM hK hE
  have hM9 := hM
  unfold gv_mok at hM9
  rw [Bool.and_eq_true, Bool.and_eq_true, decide_eq_true_eq] at hM9
  obtain ⟨⟨m1, m2⟩, m3, m4, m5, m6⟩ := hM9
  intro T hT XX
  refine gv_after (mc := h1.2.1.1 - h.2.1.1) (ms := h1.2.1.2 - h.2.1.2) (aa := (args.map (gv_v G.2.1)).toArray) (h1 := h1) (v := v) (st := st) XX ?_ hl (fun H1 locs1 hw1 hl1 => ?_)
  · have hlen : ∀ sig, parseMethodDescriptor M.1.desc = some sig → (args.map (gv_v G.2.1)).length = sig.parameters.length := by
      intro sig hsig
      rw [hsig] at m5
      rw [List.length_map, hn]
      exact (Option.some.inj m5).symm
    have hstack : (F0 m pc A ((args.reverse ++ st).map (gv_v G.2.1))).stack = (args.map (gv_v G.2.1)).reverse ++ st.map (gv_v G.2.1) := by
      show (args.reverse ++ st).map (gv_v G.2.1) = _
      rw [List.map_append, List.map_reverse]
    have hW9 : 2 * (F0 m pc A ((args.reverse ++ st).map (gv_v G.2.1))).monitorRoom + ((st.map (gv_v G.2.1)).map fun v => v.category).sum ≤ 8 := lv_room (by rw [gv_cs_sum]; exact hcat)
    have hpre : ∀ vm₁, s.WarmedH vm₁ → PreOf (gv_room (d + 1) (hf.2.1.1 - h0.2.1.1) (hf.2.1.2 - h0.2.1.2)) (h1.2.1.1 - h.2.1.1) (h1.2.1.2 - h.2.1.2) (gv_Pc G args h) ⟨T.setVm vm₁, locs, h.2.1.1 - h0.2.1.1, h.2.1.2 - h0.2.1.2⟩ (args.map (gv_v G.2.1)).toArray :=
      fun vm₁ hW => ⟨by show h.2.1.1 - h0.2.1.1 + (h1.2.1.1 - h.2.1.1) ≤ hf.2.1.1 - h0.2.1.1; omega, by show h.2.1.2 - h0.2.1.2 + (h1.2.1.2 - h.2.1.2) ≤ hf.2.1.2 - h0.2.1.2; omega, rfl, hK.moved (U := T.setVm vm₁) hW, by show gv_w G h T.heap; rw [hT]; exact hw⟩
    obtain ⟨mk, methM, cM, hnamed, hmethM, -, -, -, -, -, -, hsigM⟩ := gv_cwd_spec (gv_tw_use hK m1 args9)
    have hstatic : methM.isStatic = true := Cond.static_spec hnamed hmethM (gv_tw_use hK hs args9)
    obtain ⟨kP, hkP, -⟩ := className_of_methodNamed hnamed
    have hinitP : kP.init = .initialized := Cond.initialized_spec (findClass_of_methodNamed hnamed) hkP (gv_tw_use hK m2 args9)
    have hdg : decode c.code (F0 m pc A ((args.reverse ++ st).map (gv_v G.2.1))).pc = .ok (.invokestatic x, 3) := by rw [X.2.1]; exact hd
    have hsz : (F0 m pc A ((args.reverse ++ st).map (gv_v G.2.1))).locals.size = c.maxLocals := hA.1.trans X.2.2.1.symm
    match a, hlk with
    | 0, hlk =>
      obtain ⟨vm₁, X₁, hstep₁⟩ := XX.invokestatic X.1 X.2.2.2.1 (gv_tw_use hK hlk args9) hnamed hmethM hstatic hkP hinitP ⟨m3, m4⟩ (g := F0 m pc A ((args.reverse ++ st).map (gv_v G.2.1))) rfl (hlen _ hsigM) hstack hdg
      obtain ⟨v, B, X', hpost, hsteps⟩ := hB m meth c ⟨T.setVm vm₁, locs, _, _⟩ { (F0 m pc A ((args.reverse ++ st).map (gv_v G.2.1))) with stack := st.map (gv_v G.2.1) } (.invokestatic x) mk (args.map (gv_v G.2.1)).toArray X₁ rfl hsz hdg hW9 (X₁.named hnamed) (hpre vm₁ X₁.warmed)
      exact ⟨v, vm₁, B, X₁.warmed, X', hpost, fun target h => hstep₁ _ fun acts => by rw [doInvoke_state]; exact hsteps.trans h⟩
    | a + 1, hlk =>
      obtain ⟨vm₁, X₁, hstep₁⟩ := XX.invokestaticNest X.1 X.2.2.2.1 (gv_tw_use hK hlk args9) hnamed hmethM hstatic hkP hinitP ⟨m3, m4⟩ (g := F0 m pc A ((args.reverse ++ st).map (gv_v G.2.1))) rfl (hlen _ hsigM) hstack hdg
      obtain ⟨v, B, X', hpost, hsteps⟩ := hB m meth c ⟨T.setVm vm₁, locs, _, _⟩ { (F0 m pc A ((args.reverse ++ st).map (gv_v G.2.1))) with stack := st.map (gv_v G.2.1) } (.invokestatic x) mk (args.map (gv_v G.2.1)).toArray X₁ rfl hsz hdg hW9 (X₁.named hnamed) (hpre vm₁ X₁.warmed)
      exact ⟨v, vm₁, B, X₁.warmed, X', hpost, fun target h => hstep₁ _ fun acts => by rw [doInvoke_state]; exact hsteps.trans h⟩
  · have k2 := k.2 h0 p e s m args9 below meth c H1 locs1 A (by omega) (by omega) X hw1 hl1 hA
    rw [show h.2.1.1 - h0.2.1.1 + (h1.2.1.1 - h.2.1.1) = h1.2.1.1 - h0.2.1.1 by omega, show h.2.1.2 - h0.2.1.2 + (h1.2.1.2 - h.2.1.2) = h1.2.1.2 - h0.2.1.2 by omega]
    exact k2
theorem gv_callSL {v : Option gv_V} {x a wp : Nat} (hM : gv_mok M = true) (hs : gv_tw M.2.2.2.2.2.2.2.1 (.static M.1) = true) (hlk : gv_lnk y.1.cls x a wp M.1 = true) (hd : decode y.2.1 pc = .ok (.invokestatic x, 3)) (hn : args.length = M.2.2.2.2.2.2.2.2.2.1) (hcat : gv_cs st ≤ 8)
    (hE : gv_ev G d M args h (.inr (.inr (some v))) h1) (k : ∀ δ : Nat, gv_go G y (d + 1) r hf (pc + 3) ls (v.toList ++ st) (h1.1 + δ, h1.2)) : gv_go G y (d + 1) r hf pc ls (args.reverse ++ st) h := by
  have hE1 := hE.1
  have hk1 : h1.2.1.1 ≤ hf.2.1.1 ∧ h1.2.1.2 ≤ hf.2.1.2 := (k 0).1
  refine ⟨⟨by omega, by omega⟩, fun h0 p e s m args9 below meth c H locs A q1 q2 X hw hl hA => ?_⟩
  have hK := X.2.2.2.2.1
  have hB := gv_backQ (p := p) (e := e) (below := below) (args9 := args9) (mc := hf.2.1.1 - h0.2.1.1) (ms := hf.2.1.2 - h0.2.1.2) hM hK hE.2
  have hM9 := hM
  unfold gv_mok at hM9
  rw [Bool.and_eq_true, Bool.and_eq_true, decide_eq_true_eq] at hM9
  obtain ⟨⟨m1, m2⟩, m3, m4, m5, m6⟩ := hM9
  intro T hT XX
  refine gv_afterQ (mc := h1.2.1.1 - h.2.1.1) (ms := h1.2.1.2 - h.2.1.2) (aa := (args.map (gv_v G.2.1)).toArray) (Qc := gv_Ql G v h1) (v := v) (st := st) XX ?_ hl (Ok := fun H1 => ∃ δ : Nat, gv_w G (h1.1 + δ, h1.2) H1) (fun _ _ _ w hq => ⟨by have h9 := hq.1; cases h9; rfl, hq.2⟩) (fun H1 locs1 hw1 hl1 => ?_)
  · have hlen : ∀ sig, parseMethodDescriptor M.1.desc = some sig → (args.map (gv_v G.2.1)).length = sig.parameters.length := by
      intro sig hsig
      rw [hsig] at m5
      rw [List.length_map, hn]
      exact (Option.some.inj m5).symm
    have hstack : (F0 m pc A ((args.reverse ++ st).map (gv_v G.2.1))).stack = (args.map (gv_v G.2.1)).reverse ++ st.map (gv_v G.2.1) := by
      show (args.reverse ++ st).map (gv_v G.2.1) = _
      rw [List.map_append, List.map_reverse]
    have hW9 : 2 * (F0 m pc A ((args.reverse ++ st).map (gv_v G.2.1))).monitorRoom + ((st.map (gv_v G.2.1)).map fun v => v.category).sum ≤ 8 := lv_room (by rw [gv_cs_sum]; exact hcat)
    have hpre : ∀ vm₁, s.WarmedH vm₁ → PreOf (gv_room (d + 1) (hf.2.1.1 - h0.2.1.1) (hf.2.1.2 - h0.2.1.2)) (h1.2.1.1 - h.2.1.1) (h1.2.1.2 - h.2.1.2) (gv_Pc G args h) ⟨T.setVm vm₁, locs, h.2.1.1 - h0.2.1.1, h.2.1.2 - h0.2.1.2⟩ (args.map (gv_v G.2.1)).toArray :=
      fun vm₁ hW => ⟨by show h.2.1.1 - h0.2.1.1 + (h1.2.1.1 - h.2.1.1) ≤ hf.2.1.1 - h0.2.1.1; omega, by show h.2.1.2 - h0.2.1.2 + (h1.2.1.2 - h.2.1.2) ≤ hf.2.1.2 - h0.2.1.2; omega, rfl, hK.moved (U := T.setVm vm₁) hW, by show gv_w G h T.heap; rw [hT]; exact hw⟩
    obtain ⟨mk, methM, cM, hnamed, hmethM, -, -, -, -, -, -, hsigM⟩ := gv_cwd_spec (gv_tw_use hK m1 args9)
    have hstatic : methM.isStatic = true := Cond.static_spec hnamed hmethM (gv_tw_use hK hs args9)
    obtain ⟨kP, hkP, -⟩ := className_of_methodNamed hnamed
    have hinitP : kP.init = .initialized := Cond.initialized_spec (findClass_of_methodNamed hnamed) hkP (gv_tw_use hK m2 args9)
    have hdg : decode c.code (F0 m pc A ((args.reverse ++ st).map (gv_v G.2.1))).pc = .ok (.invokestatic x, 3) := by rw [X.2.1]; exact hd
    have hsz : (F0 m pc A ((args.reverse ++ st).map (gv_v G.2.1))).locals.size = c.maxLocals := hA.1.trans X.2.2.1.symm
    match a, hlk with
    | 0, hlk =>
      obtain ⟨vm₁, X₁, hstep₁⟩ := XX.invokestatic X.1 X.2.2.2.1 (gv_tw_use hK hlk args9) hnamed hmethM hstatic hkP hinitP ⟨m3, m4⟩ (g := F0 m pc A ((args.reverse ++ st).map (gv_v G.2.1))) rfl (hlen _ hsigM) hstack hdg
      obtain ⟨v, B, X', hpost, hsteps⟩ := hB m meth c ⟨T.setVm vm₁, locs, _, _⟩ { (F0 m pc A ((args.reverse ++ st).map (gv_v G.2.1))) with stack := st.map (gv_v G.2.1) } (.invokestatic x) mk (args.map (gv_v G.2.1)).toArray X₁ rfl hsz hdg hW9 (X₁.named hnamed) (hpre vm₁ X₁.warmed)
      exact ⟨v, vm₁, B, X₁.warmed, X', hpost, fun target h => hstep₁ _ fun acts => by rw [doInvoke_state]; exact hsteps.trans h⟩
    | a + 1, hlk =>
      obtain ⟨vm₁, X₁, hstep₁⟩ := XX.invokestaticNest X.1 X.2.2.2.1 (gv_tw_use hK hlk args9) hnamed hmethM hstatic hkP hinitP ⟨m3, m4⟩ (g := F0 m pc A ((args.reverse ++ st).map (gv_v G.2.1))) rfl (hlen _ hsigM) hstack hdg
      obtain ⟨v, B, X', hpost, hsteps⟩ := hB m meth c ⟨T.setVm vm₁, locs, _, _⟩ { (F0 m pc A ((args.reverse ++ st).map (gv_v G.2.1))) with stack := st.map (gv_v G.2.1) } (.invokestatic x) mk (args.map (gv_v G.2.1)).toArray X₁ rfl hsz hdg hW9 (X₁.named hnamed) (hpre vm₁ X₁.warmed)
      exact ⟨v, vm₁, B, X₁.warmed, X', hpost, fun target h => hstep₁ _ fun acts => by rw [doInvoke_state]; exact hsteps.trans h⟩
  · obtain ⟨δ, hw1⟩ := hw1
    have k2 := (k δ).2 h0 p e s m args9 below meth c H1 locs1 A (by show h0.2.1.1 ≤ h1.2.1.1; omega) (by show h0.2.1.2 ≤ h1.2.1.2; omega) X hw1 hl1 hA
    rw [show h.2.1.1 - h0.2.1.1 + (h1.2.1.1 - h.2.1.1) = h1.2.1.1 - h0.2.1.1 by omega, show h.2.1.2 - h0.2.1.2 + (h1.2.1.2 - h.2.1.2) = h1.2.1.2 - h0.2.1.2 by omega]
    exact k2
theorem gv_callI {x a wp b : Nat} (hM : gv_mok M = true) (hh0 : M.2.2.2.2.2.2.2.2.2.2 = []) (hret : M.2.2.2.1 = none) (hnm : M.1.name = "<init>") (hs : gv_tw M.2.2.2.2.2.2.2.1 (.instanceMethod M.1) = true) (hlk : gv_lnk y.1.cls x a wp M.1 = true) (hd : decode y.2.1 pc = .ok (.invokespecial x, 3)) (hn : args.length = M.2.2.2.2.2.2.2.2.2.1) (hcat : gv_cs st ≤ 8)
    (hE : gv_ev G d M (gR b :: args) h (.inl none) h1) (k : gv_go G y (d + 1) r hf (pc + 3) ls st h1) : gv_go G y (d + 1) r hf pc ls (args.reverse ++ gR b :: st) h := by
  have hE1 := hE.1
  have hk1 := k.1
  refine ⟨⟨by omega, by omega⟩, fun h0 p e s m args9 below meth c H locs A q1 q2 X hw hl hA => ?_⟩
  have hK := X.2.2.2.2.1
  have hB := gv_back (p := p) (e := e) (below := below) (args9 := args9) (mc := hf.2.1.1 - h0.2.1.1) (ms := hf.2.1.2 - h0.2.1.2) hM hK hE
  have hM9 := hM
  unfold gv_mok at hM9
  rw [Bool.and_eq_true, Bool.and_eq_true, decide_eq_true_eq] at hM9
  obtain ⟨⟨m1, m2⟩, m3, m4, m5, m6⟩ := hM9
  intro T hT XX
  refine gv_after (mc := h1.2.1.1 - h.2.1.1) (ms := h1.2.1.2 - h.2.1.2) (aa := (Value.ref (G.2.1 b) :: args.map (gv_v G.2.1)).toArray) (h1 := h1) (v := none) (st := st) XX ?_ hl (fun H1 locs1 hw1 hl1 => ?_)
  · have hlen : ∀ sig, parseMethodDescriptor M.1.desc = some sig → (args.map (gv_v G.2.1)).length = sig.parameters.length := by
      intro sig hsig
      rw [hsig] at m5
      rw [List.length_map, hn]
      exact (Option.some.inj m5).symm
    have hstack : (F0 m pc A ((args.reverse ++ gR b :: st).map (gv_v G.2.1))).stack = (args.map (gv_v G.2.1)).reverse ++ .ref (G.2.1 b) :: st.map (gv_v G.2.1) := by
      show (args.reverse ++ gR b :: st).map (gv_v G.2.1) = _
      rw [List.map_append, List.map_reverse]
      rfl
    have hW9 : 2 * (F0 m pc A ((args.reverse ++ gR b :: st).map (gv_v G.2.1))).monitorRoom + ((st.map (gv_v G.2.1)).map fun v => v.category).sum ≤ 8 := lv_room (by rw [gv_cs_sum]; exact hcat)
    have hpre : ∀ vm₁, s.WarmedH vm₁ → PreOf (gv_room (d + 1) (hf.2.1.1 - h0.2.1.1) (hf.2.1.2 - h0.2.1.2)) (h1.2.1.1 - h.2.1.1) (h1.2.1.2 - h.2.1.2) (gv_Pc G (gR b :: args) h) ⟨T.setVm vm₁, locs, h.2.1.1 - h0.2.1.1, h.2.1.2 - h0.2.1.2⟩ (Value.ref (G.2.1 b) :: args.map (gv_v G.2.1)).toArray :=
      fun vm₁ hW => ⟨by show h.2.1.1 - h0.2.1.1 + (h1.2.1.1 - h.2.1.1) ≤ hf.2.1.1 - h0.2.1.1; omega, by show h.2.1.2 - h0.2.1.2 + (h1.2.1.2 - h.2.1.2) ≤ hf.2.1.2 - h0.2.1.2; omega, rfl, hK.moved (U := T.setVm vm₁) hW, by show gv_w G h T.heap; rw [hT]; exact hw⟩
    rw [gv_cwd0 hh0, hret] at m1
    match a, hlk with
    | 0, hlk => exact callI XX X.1 (own := y.1.cls) (index := x) (y := M.1) (bytes := M.2.1) (maxL := M.2.2.1) X.2.2.2.1 hnm (gv_tw_use hK hlk args9) (gv_tw_use hK hs args9) (gv_tw_use hK m1 args9) ⟨m3, m4⟩ hB rfl (hA.1.trans X.2.2.1.symm) hlen hstack hW9 (by rw [X.2.1]; exact hd) hpre
    | a + 1, hlk => exact va_callIN XX X.1 (own := y.1.cls) (index := x) (host := gv_host) (y := M.1) (bytes := M.2.1) (maxL := M.2.2.1) X.2.2.2.1 hnm (gv_tw_use hK hlk args9) (gv_tw_use hK hs args9) (gv_tw_use hK m1 args9) ⟨m3, m4⟩ hB rfl (hA.1.trans X.2.2.1.symm) hlen hstack hW9 (by rw [X.2.1]; exact hd) hpre
  · have k2 := k.2 h0 p e s m args9 below meth c H1 locs1 A (by omega) (by omega) X hw1 hl1 hA
    rw [show h.2.1.1 - h0.2.1.1 + (h1.2.1.1 - h.2.1.1) = h1.2.1.1 - h0.2.1.1 by omega, show h.2.1.2 - h0.2.1.2 + (h1.2.1.2 - h.2.1.2) = h1.2.1.2 - h0.2.1.2 by omega]
    exact k2
theorem gv_callV {v : Option gv_V} {x a wp b ci : Nat} {rr : vw_C} {fs : List gv_V} (hM : gv_mok M = true) (hh0 : M.2.2.2.2.2.2.2.2.2.2 = []) (hs : gv_tw M.2.2.2.2.2.2.2.1 (.instanceMethod M.1) = true) (hse : gv_tw M.2.2.2.2.2.2.2.2.1 (.selects M.1.cls M.1 M.1) = true) (hlk : gv_lnk y.1.cls x a wp M.1 = true) (hd : decode y.2.1 pc = .ok (.invokevirtual x, 3)) (hn : args.length = M.2.2.2.2.2.2.2.2.2.1) (hcat : gv_cs st ≤ 8)
    (hb : h.2.2 b = some (Sum.inr (ci, fs))) (hci : gv_cl[ci]? = some rr) (hrr : rr.1 = M.1.cls)
    (hE : gv_ev G d M (gR b :: args) h (.inl v) h1) (k : gv_go G y (d + 1) r hf (pc + 3) ls (v.toList ++ st) h1) : gv_go G y (d + 1) r hf pc ls (args.reverse ++ gR b :: st) h := by
  have hE1 := hE.1
  have hk1 := k.1
  refine ⟨⟨by omega, by omega⟩, fun h0 p e s m args9 below meth c H locs A q1 q2 X hw hl hA => ?_⟩
  have hK := X.2.2.2.2.1
  have hB := gv_back (p := p) (e := e) (below := below) (args9 := args9) (mc := hf.2.1.1 - h0.2.1.1) (ms := hf.2.1.2 - h0.2.1.2) hM hK hE
  have hM9 := hM
  unfold gv_mok at hM9
  rw [Bool.and_eq_true, Bool.and_eq_true, decide_eq_true_eq] at hM9
  obtain ⟨⟨m1, m2⟩, m3, m4, m5, m6⟩ := hM9
  obtain ⟨cellB, c1, c2, c3⟩ := va_recv hK.2.1 (gv_one hw hb) hci (q0 := 0) rfl
  rw [hrr] at c3
  intro T hT XX
  refine gv_after (mc := h1.2.1.1 - h.2.1.1) (ms := h1.2.1.2 - h.2.1.2) (aa := (Value.ref (G.2.1 b) :: args.map (gv_v G.2.1)).toArray) (h1 := h1) (v := v) (st := st) XX ?_ hl (fun H1 locs1 hw1 hl1 => ?_)
  · have hlen : ∀ sig, parseMethodDescriptor M.1.desc = some sig → (args.map (gv_v G.2.1)).length = sig.parameters.length := by
      intro sig hsig
      rw [hsig] at m5
      rw [List.length_map, hn]
      exact (Option.some.inj m5).symm
    have hstack : (F0 m pc A ((args.reverse ++ gR b :: st).map (gv_v G.2.1))).stack = (args.map (gv_v G.2.1)).reverse ++ .ref (G.2.1 b) :: st.map (gv_v G.2.1) := by
      show (args.reverse ++ gR b :: st).map (gv_v G.2.1) = _
      rw [List.map_append, List.map_reverse]
      rfl
    have hW9 : 2 * (F0 m pc A ((args.reverse ++ gR b :: st).map (gv_v G.2.1))).monitorRoom + ((st.map (gv_v G.2.1)).map fun v => v.category).sum ≤ 8 := lv_room (by rw [gv_cs_sum]; exact hcat)
    have hpre : ∀ vm₁, s.WarmedH vm₁ → PreOf (gv_room (d + 1) (hf.2.1.1 - h0.2.1.1) (hf.2.1.2 - h0.2.1.2)) (h1.2.1.1 - h.2.1.1) (h1.2.1.2 - h.2.1.2) (gv_Pc G (gR b :: args) h) ⟨T.setVm vm₁, locs, h.2.1.1 - h0.2.1.1, h.2.1.2 - h0.2.1.2⟩ (Value.ref (G.2.1 b) :: args.map (gv_v G.2.1)).toArray :=
      fun vm₁ hW => ⟨by show h.2.1.1 - h0.2.1.1 + (h1.2.1.1 - h.2.1.1) ≤ hf.2.1.1 - h0.2.1.1; omega, by show h.2.1.2 - h0.2.1.2 + (h1.2.1.2 - h.2.1.2) ≤ hf.2.1.2 - h0.2.1.2; omega, rfl, hK.moved (U := T.setVm vm₁) hW, by show gv_w G h T.heap; rw [hT]; exact hw⟩
    rw [gv_cwd0 hh0] at m1
    have hcB : T.heap[G.2.1 b]? = some cellB := by rw [hT]; exact c1
    match a, hlk with
    | 0, hlk => exact callV XX X.1 (own := y.1.cls) (C := M.1.cls) (index := x) (y := M.1) (bytes := M.2.1) (maxL := M.2.2.1) (ret := M.2.2.2.1) X.2.2.2.1 (gv_tw_use hK hlk args9) (gv_tw_use hK hs args9) (gv_tw_use hK hse args9) (gv_tw_use hK m1 args9) ⟨m3, m4⟩ hB hcB c2 c3 rfl (hA.1.trans X.2.2.1.symm) hlen hstack hW9 (by rw [X.2.1]; exact hd) hpre
    | a + 1, hlk => exact va_callVN XX X.1 (own := y.1.cls) (C := M.1.cls) (index := x) (host := gv_host) (y := M.1) (bytes := M.2.1) (maxL := M.2.2.1) (ret := M.2.2.2.1) X.2.2.2.1 (gv_tw_use hK hlk args9) (gv_tw_use hK hs args9) (gv_tw_use hK hse args9) (gv_tw_use hK m1 args9) ⟨m3, m4⟩ hB hcB c2 c3 rfl (hA.1.trans X.2.2.1.symm) hlen hstack hW9 (by rw [X.2.1]; exact hd) hpre
  · have k2 := k.2 h0 p e s m args9 below meth c H1 locs1 A (by omega) (by omega) X hw1 hl1 hA
    rw [show h.2.1.1 - h0.2.1.1 + (h1.2.1.1 - h.2.1.1) = h1.2.1.1 - h0.2.1.1 by omega, show h.2.1.2 - h0.2.1.2 + (h1.2.1.2 - h.2.1.2) = h1.2.1.2 - h0.2.1.2 by omega]
    exact k2
/-- Object.<init> -/
theorem gv_oi {x a wp w1 w2 : Nat} (h1 : gv_tw wp (.methodLink y.1.cls x objectInit) = true) (h2 : gv_tw w1 (.instanceMethod objectInit) = true) (h3 : gv_tw w2 (.code objectInit ⟨#[0xb1]⟩ 1 none) = true) (hd : decode y.2.1 pc = .ok (.invokespecial x, 3)) (hcat : gv_cs st ≤ 100)
    (k : gv_go G y d r hf (pc + 3) ls st h) : gv_go G y d r hf pc ls (gR a :: st) h := by
  refine ⟨k.1, fun h0 p e s m args9 below meth c H locs A q1 q2 X hw hl hA => ?_⟩
  have hK := X.2.2.2.2.1
  refine W.objInit X.1 X.2.1 X.2.2.2.1 (gv_tw_use hK h1 args9) (gv_tw_use hK h2 args9) (gv_tw_use hK h3 args9) rfl (hA.1.trans X.2.2.1.symm) rfl hd (by show 1 ≤ d + 8; omega) ?_ (k.2 h0 p e s m args9 below meth c H locs A q1 q2 X hw hl hA)
  show 2 * 0 + ((st.map (gv_v G.2.1)).map fun v => v.category).sum + 12 ≤ 64 * d + 200
  rw [gv_cs_sum]
  omega
theorem gv_iret {x : Int32} (hr : y.2.2.2.1 = some .int) (hd : decode y.2.1 pc = .ok (.ireturn, 1)) : gv_go G y d (.inl (some (gI x))) h pc ls [gI x] h :=
  ⟨⟨Nat.le_refl _, Nat.le_refl _⟩, fun h0 p e s m args9 below meth c H locs A q1 q2 X hw hl hA => W.iret X.1 X.2.1 (X.2.2.2.2.2.1.trans hr) (fun t ht hW => ⟨rfl, by rw [ht]; exact hw⟩) hl hd X.2.2.2.2.2.2.1⟩
theorem gv_zret {x : Int32} (hr : y.2.2.2.1 = some .boolean) (hx : x = 0 ∨ x = 1) (hd : decode y.2.1 pc = .ok (.ireturn, 1)) : gv_go G y d (.inl (some (gI x))) h pc ls [gI x] h :=
  ⟨⟨Nat.le_refl _, Nat.le_refl _⟩, fun h0 p e s m args9 below meth c H locs A q1 q2 X hw hl hA => W.zret X.1 X.2.1 (X.2.2.2.2.2.1.trans hr) (by rcases hx with q | q <;> subst q <;> rfl) (fun t ht hW => ⟨rfl, by rw [ht]; exact hw⟩) hl hd X.2.2.2.2.2.2.1⟩
/-- an answer behind which more places may be taken -/
theorem gv_loose {r9 : Option gv_V} {n : Nat} (hn : n ≤ hf.1) (k : gv_go G y d (.inl r9) hf pc ls st h) : gv_go G y d (.inr (.inr (some r9))) (n, hf.2) pc ls st h := by
  refine ⟨k.1, fun h0 p e s m args9 below meth c H locs A q1 q2 X hw hl hA => ?_⟩
  intro T hT XX
  obtain ⟨t, a1, o, b1, b2, b3, b4⟩ := k.2 h0 p e s m args9 below meth c H locs A q1 q2 X hw hl hA T hT XX
  refine ⟨t, a1, o, b1, b2, ⟨b3.1, hf.1 - n, ?_⟩, b4⟩
  have e9 : ((n, hf.2).1 + (hf.1 - n), (n, hf.2).2) = hf := by
    show (n + (hf.1 - n), hf.2) = hf
    rw [Nat.add_sub_cancel' hn]
  rw [e9]
  exact b3.2
theorem gv_lret {x : Int64} (hr : y.2.2.2.1 = some .long) (hd : decode y.2.1 pc = .ok (.lreturn, 1)) : gv_go G y d (.inl (some (gL x))) h pc ls [gL x] h :=
  ⟨⟨Nat.le_refl _, Nat.le_refl _⟩, fun h0 p e s m args9 below meth c H locs A q1 q2 X hw hl hA => W.lret X.1 X.2.1 (X.2.2.2.2.2.1.trans hr) (fun t ht hW => ⟨rfl, by rw [ht]; exact hw⟩) hl hd X.2.2.2.2.2.2.1⟩
theorem gv_vret (hr : y.2.2.2.1 = none) (hd : decode y.2.1 pc = .ok (.return_, 1)) : gv_go G y d (.inl none) h pc ls [] h :=
  ⟨⟨Nat.le_refl _, Nat.le_refl _⟩, fun h0 p e s m args9 below meth c H locs A q1 q2 X hw hl hA => W.vret X.1 X.2.1 (X.2.2.2.2.2.1.trans hr) (fun t ht hW => ⟨rfl, by rw [ht]; exact hw⟩) hl hd X.2.2.2.2.2.2.1⟩
end GKA
end
section
/-! gl: all steps together -/
section GLA
def gv_ex (J : gv_J) (ls : gv_L) (st : List gv_V) (h : gv_H) : Option gv_S :=
  match Nat.blt J.1 20 with
  | true => gv_x1 J ls st h
  | false => match Nat.blt J.1 40 with
    | true => gv_x2 J ls st h
    | false => match Nat.blt J.1 50 with
      | true => gv_x3 J ls st h
      | false => match Nat.blt J.1 70 with
        | true => gv_x4 J ls st h
        | false => match Nat.blt J.1 76 with
          | true => gv_x5 J ls st h
          | false => match Nat.blt J.1 81 with
            | true => gv_x6 J ls st h
            | false => gv_x7 J ls st h
def gv_ck8 (own : String) (pc : Nat) (J : gv_J) (i : Instr) (n : Nat) : Bool := match J, i with
  | (84, _, _, w1, w2, wp, nx, _), .invokespecial x => decide (n = 3 ∧ nx = pc + 3) && gv_tw wp (.methodLink own x objectInit) && gv_tw w1 (.instanceMethod objectInit) && gv_tw w2 (.code objectInit ⟨#[0xb1]⟩ 1 none)
  | (85, _, _, a, b, wp, nx, _), .invokespecial x => decide (n = 3 ∧ nx = pc + 3) && gv_lnk own x a wp (gv_mn b)
  | (86, _, _, a, b, wp, nx, _), .invokevirtual x => decide (n = 3 ∧ nx = pc + 3) && gv_lnk own x a wp (gv_mn b)
  | (87, _, _, a, b, wp, nx, _), .invokestatic x => decide (n = 3 ∧ nx = pc + 3) && gv_lnk own x a wp (gv_mn b)
  | (90, _, _, _, _, _, _, _), .ireturn => decide (n = 1)
  | (91, _, _, _, _, _, _, _), .return_ => decide (n = 1)
  | (92, _, _, _, _, _, _, _), .lreturn => decide (n = 1)
  | (93, _, _, _, _, _, _, _), .areturn => decide (n = 1)
  | (94, _, _, _, _, _, _, _), .tableswitch _ _ _ _ => true
  | (94, _, _, _, _, _, _, _), .lookupswitch _ _ => true
  | (95, _, _, _, _, _, _, _), .new _ => true
  | _, _ => false
def gv_ck (y : gv_M) (pc : Nat) (J : gv_J) (i : Instr) (n : Nat) : Bool :=
  match Nat.blt J.1 20 with
  | true => gv_ck1 y.1.cls y.2.2.1 pc J i n
  | false => match Nat.blt J.1 40 with
    | true => gv_ck2 pc J i n
    | false => match Nat.blt J.1 50 with
      | true => gv_ck3 pc J i n
      | false => match Nat.blt J.1 70 with
        | true => gv_ck4 pc J i n
        | false => match Nat.blt J.1 76 with
          | true => gv_ck5 y.1.cls pc J i n
          | false => match Nat.blt J.1 81 with
            | true => gv_ck6 y.1 pc J i n
            | false => match Nat.blt J.1 84 with
              | true => gv_ck7 y.1.cls pc J i n
              | false => gv_ck8 y.1.cls pc J i n
def gv_okq (y : gv_M) (q : Nat × gv_J) : Bool := match decode y.2.1 q.1 with
  | .ok (i, n) => gv_ck y q.1 q.2 i n
  | .error _ => false
def gv_ok (y : gv_M) : Prop := ∀ q ∈ y.2.2.2.2.1, gv_okq y q = true
variable {G : gv_G} {y M : gv_M} {d : Nat} {r : gv_O} {hf h h1 : gv_H} {pc : Nat} {J : gv_J} {ls : gv_L} {st args : List gv_V} {S : gv_S}
theorem gv_dec (hy : gv_ok y) (hj : gv_lk y.2.2.2.2.1 pc = some J) : ∃ (i : Instr) (n : Nat), decode y.2.1 pc = .ok (i, n) ∧ gv_ck y pc J i n = true := by
  have h1 := hy _ (gv_lk_mem hj)
  unfold gv_okq at h1
  split at h1
  next i n e => exact ⟨i, n, e, h1⟩
  next => cases h1
theorem gv_step (hok : ∀ ci r, gv_cl[ci]? = some r → gv_clok ci r) (hqi : ∃ r, gv_cl[gv_qi]? = some r ∧ r.1 = gv_qc) (hy : gv_ok y) (hj : gv_lk y.2.2.2.2.1 pc = some J) (hx : gv_ex J ls st h = some S) (k : gv_go G y d r hf S.1 S.2.1 S.2.2.1 S.2.2.2) : gv_go G y d r hf pc ls st h := by
  obtain ⟨i, n, hd, hc⟩ := gv_dec hy hj
  unfold gv_ex at hx
  unfold gv_ck at hc
  split at hx
  next e => rw [e] at hc; exact gv_s1 hd hc hx k
  next e =>
    rw [e] at hc
    dsimp only at hc
    split at hx
    next e => rw [e] at hc; exact gv_s2 hd hc hx k
    next e =>
      rw [e] at hc
      dsimp only at hc
      split at hx
      next e => rw [e] at hc; exact gv_s3 hd hc hx k
      next e =>
        rw [e] at hc
        dsimp only at hc
        split at hx
        next e => rw [e] at hc; exact gv_s4 hd hc hx k
        next e =>
          rw [e] at hc
          dsimp only at hc
          split at hx
          next e => rw [e] at hc; exact gv_s5 hok hd hc hx k
          next e =>
            rw [e] at hc
            dsimp only at hc
            split at hx
            next e => rw [e] at hc; exact gv_s6 hok hqi hd hc hx k
            next e =>
              rw [e] at hc
              dsimp only at hc
              split at hc
              next e => exact gv_s7 hok hd hc hx k
              next e =>
                exfalso
                unfold gv_x7 at hx
                split at hx
                next => exact Bool.noConfusion (show true = false from e)
                next => exact Bool.noConfusion (show true = false from e)
                next => exact Bool.noConfusion (show true = false from e)
                next => cases hx
/-- several steps -/
def gv_run (L : List (Nat × gv_J)) : Nat → gv_S → Option gv_S
  | 0, S => some S
  | n + 1, S => match gv_lk L S.1 with
    | some J => match gv_ex J S.2.1 S.2.2.1 S.2.2.2 with
      | some S' => gv_run L n S'
      | none => none
    | none => none
theorem gv_steps (hok : ∀ ci r, gv_cl[ci]? = some r → gv_clok ci r) (hqi : ∃ r, gv_cl[gv_qi]? = some r ∧ r.1 = gv_qc) (hy : gv_ok y) : ∀ (n : Nat) (S0 : gv_S), gv_run y.2.2.2.2.1 n S0 = some S → gv_go G y d r hf S.1 S.2.1 S.2.2.1 S.2.2.2 → gv_go G y d r hf S0.1 S0.2.1 S0.2.2.1 S0.2.2.2
  | 0, S0, hx, k => by cases hx; exact k
  | n + 1, S0, hx, k => by
    unfold gv_run at hx
    split at hx
    next J hj =>
      split at hx
      next S' hs => exact gv_step hok hqi hy hj hs (gv_steps hok hqi hy n S' hx k)
      next => cases hx
    next => cases hx
end GLA
end
section
/-! the classes' facts -/
section GCA
theorem gc_in {L : List Jvm.Cond} (ps : List Nat) (h1 : L = ps.filterMap (fun i => gv_T[i]?)) (h2 : L.all gv_gd = true) : ∀ w ∈ L, w ∈ gv_T ∧ gv_gd w = true := by
  intro w hw
  have h3 := List.all_eq_true.mp h2 w hw
  rw [h1] at hw
  obtain ⟨i, -, hi⟩ := List.mem_filterMap.mp hw
  exact ⟨List.mem_of_getElem? hi, h3⟩
theorem gc_GE : gv_clok 0 ("GoalEngine", gF_GE, 4) := ⟨rfl, gc_in [410, 412, 414, 416] (by decide +kernel) (by decide +kernel), by decide +kernel, by decide +kernel, by decide +kernel, by decide +kernel⟩
theorem gc_RB : gv_clok 1 ("GoalEngine$RuleBook", gF_RB, 2) := ⟨rfl, gc_in [138, 140] (by decide +kernel) (by decide +kernel), by decide +kernel, by decide +kernel, by decide +kernel, by decide +kernel⟩
theorem gc_CL : gv_clok 2 ("GoalEngine$Clause", gF_CL, 4) := ⟨rfl, gc_in [124, 126, 128, 130] (by decide +kernel) (by decide +kernel), by decide +kernel, by decide +kernel, by decide +kernel, by decide +kernel⟩
theorem gc_SE : gv_clok 3 ("GoalEngine$Search", gF_SE, 13) := ⟨rfl, gc_in [379, 381, 383, 385, 387, 389, 391, 393, 395, 397, 399, 401, 403] (by decide +kernel) (by decide +kernel), by decide +kernel, by decide +kernel, by decide +kernel, by decide +kernel⟩
theorem gc_CE : gv_clok 4 ("GoalEngine$Cells", gF_CE, 9) := ⟨rfl, gc_in [177, 179, 181, 183, 185, 187, 189, 191, 193] (by decide +kernel) (by decide +kernel), by decide +kernel, by decide +kernel, by decide +kernel, by decide +kernel⟩
theorem gc_TR : gv_clok 5 ("GoalEngine$Tracer", gF_TR, 4) := ⟨rfl, gc_in [206, 208, 210, 212] (by decide +kernel) (by decide +kernel), by decide +kernel, by decide +kernel, by decide +kernel, by decide +kernel⟩
theorem gc_UN : gv_clok 6 ("GoalEngine$Unifier", gF_UN, 5) := ⟨rfl, gc_in [227, 229, 231, 233, 235] (by decide +kernel) (by decide +kernel), by decide +kernel, by decide +kernel, by decide +kernel, by decide +kernel⟩
theorem gc_CA : gv_clok 7 ("GoalEngine$Calculator", gF_CA, 2) := ⟨rfl, gc_in [246, 248] (by decide +kernel) (by decide +kernel), by decide +kernel, by decide +kernel, by decide +kernel, by decide +kernel⟩
theorem gc_GO : gv_clok 8 ("GoalEngine$Goals", gF_GO, 4) := ⟨rfl, gc_in [267, 269, 271, 273] (by decide +kernel) (by decide +kernel), by decide +kernel, by decide +kernel, by decide +kernel, by decide +kernel⟩
theorem gc_CH : gv_clok 9 ("GoalEngine$Choices", gF_CH, 6) := ⟨rfl, gc_in [297, 299, 301, 303, 305, 307] (by decide +kernel) (by decide +kernel), by decide +kernel, by decide +kernel, by decide +kernel, by decide +kernel⟩
theorem gc_CO : gv_clok 10 ("GoalEngine$Collector", gF_CO, 6) := ⟨rfl, gc_in [323, 325, 327, 329, 331, 333] (by decide +kernel) (by decide +kernel), by decide +kernel, by decide +kernel, by decide +kernel, by decide +kernel⟩
theorem gc_AN : gv_clok 11 ("GoalEngine$Answer", gF_AN, 7) := ⟨rfl, gc_in [349, 351, 353, 355, 357, 359, 361] (by decide +kernel) (by decide +kernel), by decide +kernel, by decide +kernel, by decide +kernel, by decide +kernel⟩
theorem gc_MO : gv_clok 12 ("GoalEngineModel", gF_MO, 50) := ⟨rfl, gc_in [994, 996, 998, 1000, 1002, 1004, 1006, 1008, 1010, 1012, 1014, 1016, 1018, 1020, 1022, 1024, 1026, 1028, 1030, 1032, 1034, 1036, 1038, 1040, 1042, 1044, 1046, 1048, 1050, 1052, 1054, 1056, 1058, 1060, 1062, 1064, 1066, 1068, 1070, 1072, 1074, 1076, 1078, 1080, 1082, 1084, 1086, 1088, 1090, 1092] (by decide +kernel) (by decide +kernel), by decide +kernel, by decide +kernel, by decide +kernel, by decide +kernel⟩
theorem gc_ok : ∀ ci r, gv_cl[ci]? = some r → gv_clok ci r := by
  intro ci r h
  match ci, h with
  | 0, h => cases h; exact gc_GE
  | 1, h => cases h; exact gc_RB
  | 2, h => cases h; exact gc_CL
  | 3, h => cases h; exact gc_SE
  | 4, h => cases h; exact gc_CE
  | 5, h => cases h; exact gc_TR
  | 6, h => cases h; exact gc_UN
  | 7, h => cases h; exact gc_CA
  | 8, h => cases h; exact gc_GO
  | 9, h => cases h; exact gc_CH
  | 10, h => cases h; exact gc_CO
  | 11, h => cases h; exact gc_AN
  | 12, h => cases h; exact gc_MO
  | n + 13, h => simp [gv_cl] at h
theorem gc_qi : ∃ r, gv_cl[gv_qi]? = some r ∧ r.1 = gv_qc := ⟨_, rfl, rfl⟩
end GCA
end
section
/-! gw: exceptions: one that a method throws, one that a caller catches -/
section GWA
theorem gv_Ga.add {G : gv_G} (h : gv_Ga G) {k : Nat} (hk : 1 ≤ k) (n : Nat) : G.2.1 (k + n) = G.2.1 k + n := by
  obtain ⟨j, rfl⟩ : ∃ j, k = j + 1 := ⟨k - 1, by omega⟩
  rw [h.2 j, show j + 1 + n = (j + n) + 1 by omega, h.2 (j + n)]
  omega
/-- more cells behind, the old ones as they were -/
theorem gv_w.more {G : gv_G} {h : gv_H} {H H1 : Heap} {acc : Nat × Nat} (hw : gv_w G h H) (hz : H.size ≤ H1.size) (oq : ∀ q : Nat, q < H.size → H1[q]? = H[q]?) : gv_w G (h.1 + (H1.size - H.size), acc, h.2.2) H1 := by
  obtain ⟨hg, h1, h2, h3⟩ := hw
  have hsz2 : G.2.2.2.2.2.1 ≤ H.size := by rw [h1]; exact hg.1.ge (by have := hg.2; omega)
  refine ⟨⟨hg.1, by show 1 ≤ h.1 + (H1.size - H.size); have := hg.2; omega⟩, ?_, fun q hq => (oq q (by omega)).trans (h2 q hq), fun j x hj => ?_⟩
  · show H1.size = G.2.1 (h.1 + (H1.size - H.size))
    rw [hg.1.add hg.2, ← h1]
    omega
  · obtain ⟨q1, q2⟩ := h3 j x hj
    have hlt : G.2.1 j < H.size := by
      have := hg.1.add (n := h.1 - 1 - (j - 1)) (k := 1) (Nat.le_refl _)
      rw [h1]
      have g0 := hg.1.1
      have g2 := hg.2
      cases j with
      | zero =>
        have := hg.1.ge (k := h.1) (by omega)
        omega
      | succ j =>
        rw [hg.1.2 j]
        obtain ⟨k, hk⟩ : ∃ k, h.1 = k + 1 := ⟨h.1 - 1, by omega⟩
        rw [hk, hg.1.2 k]
        omega
    exact ⟨by show j < h.1 + (H1.size - H.size); omega, q2.kept (oq _ hlt)⟩
variable {p : Program} {l : Launch} {e : Env} {R : Room} {s : State} {m : MethodId} {args9 : Array Value} {below : List Frame} {meth : Method} {c : Code} {T : State} {locs : List Loc} {cells slots : Nat}
/-- the frame as it stands, taken as a method's beginning -/
theorem gx_anew (X : Stand p l e R s m args9 below meth c T locs cells slots) {k n : Nat} (hc : cells + k ≤ R.cells) (hs : slots + n ≤ R.slots) :
    Stand p l e { frames := R.frames, locals := R.locals, cells := k, slots := n } ((T.setVm s.vm).setFrames (.invoking m args9 :: below)) m args9 below meth c T [] 0 0 := by
  have htop : (T.setVm s.vm).topJava?.isSome := X.here.top
  have hF : ((T.setVm s.vm).setFrames (.invoking m args9 :: below)).frames = .invoking m args9 :: below := State.frames_setFrames _ (State.cur_lt_of_top htop)
  obtain ⟨g₀, hg0⟩ := Option.isSome_iff_exists.mp htop
  obtain ⟨r, hr⟩ := State.topJava?_eq_some.mp hg0
  have hl9 : e.platform.stackLimits (T.setVm s.vm).me = e.platform.stackLimits s.me := X.limits
  have hb9 : (T.setVm s.vm).me.stackBytes = s.me.stackBytes := X.bytes
  have hU : ((T.setVm s.vm).setFrames (.invoking m args9 :: below)).localsInUse = s.localsInUse := by
    rw [State.localsInUse_invoking hF (meth := meth) (c := c) X.method X.code, State.localsInUse_invoking X.frames X.method X.code]
  have hroom : ((T.setVm s.vm).setFrames (.invoking m args9 :: below)).hasRoom e.platform { frames := R.frames, locals := R.locals, cells := k, slots := n } = true := by
    have h := X.room
    have q1 := X.heapSize
    have q2 := X.used
    simp only [State.hasRoom, Bool.and_eq_true, decide_eq_true_eq] at h ⊢
    obtain ⟨⟨⟨⟨h1, h2, h3, h4, h5, h6⟩, h7⟩, h8⟩, h9⟩ := h
    rw [X.frames, List.length_cons] at h2 h3
    simp only [hF, hU, List.length_cons, State.stackLimits_setFrames, State.stackBytes_setFrames, hl9, hb9]
    have g7 : T.heap.size + k ≤ e.platform.maxCells := by omega
    have g8 : T.slotsUsed + n ≤ e.platform.maxSlots := by omega
    exact ⟨⟨⟨⟨by omega, by omega, by omega, by omega, by omega, h6⟩, g7⟩, g8⟩, X.book⟩
  have hlast : ((T.heap.toList.drop T.heap.size).map (·.slots.size)).sum = 0 := by
    rw [List.drop_eq_nil_of_le (Nat.le_of_eq Array.length_toList)]
    rfl
  refine ⟨X.admits, X.cas, X.clock, hF, hroom, X.hears, X.method, X.code, X.here, X.tail, X.warmed, by rw [State.stackLimits_setFrames]; rfl, by rw [State.stackBytes_setFrames]; rfl,
    ?_, Nat.le_refl _, Nat.le_refl _, ?_, Nat.le_of_eq hlast, fun a c9 h9 => ⟨c9, h9, rfl, rfl, fun _ _ => rfl⟩⟩
  · obtain ⟨t, ht, -⟩ := State.frames_cons hr
    show T.setVm s.vm = { ((T.setVm s.vm).setFrames (.invoking m args9 :: below)).setFrames (T.setVm s.vm).frames with heap := T.heap, slotsUsed := T.slotsUsed }
    rw [State.setFrames_setFrames, State.setFrames_self ht]
    rfl
  · show T.slotsUsed = T.slotsUsed + ((T.heap.toList.drop T.heap.size).map (·.slots.size)).sum
    rw [hlast]
    rfl
theorem gx_old {U : State} {k n : Nat} (h : s.sameButNew ({ U with vm := s.vm } : State) [] k n) : s.heap.size ≤ U.heap.size ∧ ∀ q : Nat, q < s.heap.size → U.heap[q]? = s.heap[q]? := by
  obtain ⟨-, h2, -, -, -, h6⟩ := h
  refine ⟨h2, fun q hq => ?_⟩
  obtain ⟨c9, e1, e2, e3, e4⟩ := h6 q _ (Array.getElem?_eq_getElem hq)
  have hs : c9.slots = (s.heap[q]).slots := Array.ext_getElem? fun i => e4 i (fun hm => nomatch hm)
  have h9 : c9 = s.heap[q] := by
    rw [hs] at e2
    exact e2
  have e5 : U.heap[q]? = some c9 := e1
  rw [e5, h9, Array.getElem?_eq_getElem hq]
/-- a word of a throw: one of the four that speak of the heap, or a good one of the tables -/
def gx_hw (w : Jvm.Cond) : Bool := decide (w = .isRef (.static "java/lang/Throwable" "UNASSIGNED_STACK" "[Ljava/lang/StackTraceElement;")) || decide (w = .isRef (.static "java/lang/Throwable" "SUPPRESSED_SENTINEL" "Ljava/util/List;")) || decide (w = .laysStatic "java/lang/Throwable" "UNASSIGNED_STACK" "[Ljava/lang/StackTraceElement;") || decide (w = .laysStatic "java/lang/Throwable" "SUPPRESSED_SENTINEL" "Ljava/util/List;")
def gx_ok (w : Jvm.Cond) : Bool := gx_hw w || (decide (w ∈ gv_T) && gv_gd w)
theorem gx_words {G : gv_G} {s : State} (hK : gv_K G s) (h1 : gx_st "UNASSIGNED_STACK" "[Ljava/lang/StackTraceElement;" s s.heap G.2.2.2.2.2.1) (h2 : gx_st "SUPPRESSED_SENTINEL" "Ljava/util/List;" s s.heap G.2.2.2.2.2.1) {L : List Jvm.Cond} (hL : L.all gx_ok = true) (args : Array Value) : ∀ w ∈ L, w.before args s = true := by
  intro w hw
  have h := List.all_eq_true.mp hL w hw
  unfold gx_ok at h
  rw [Bool.or_eq_true] at h
  rcases h with h | h
  · unfold gx_hw at h
    rw [Bool.or_eq_true, Bool.or_eq_true, Bool.or_eq_true, decide_eq_true_eq, decide_eq_true_eq, decide_eq_true_eq, decide_eq_true_eq] at h
    rcases h with ((h | h) | h) | h <;> rw [h]
    · exact h1.isRef
    · exact h2.isRef
    · exact h1.lays
    · exact h2.lays
  · rw [Bool.and_eq_true, decide_eq_true_eq] at h
    obtain ⟨i, hi⟩ := List.getElem?_of_mem h.1
    exact hK.use i hi h.2 args
variable {G : gv_G} {y M : gv_M} {d : Nat} {r : gv_O} {hf h h1 : gv_H} {pc : Nat} {ls : gv_L} {st args : List gv_V}
/-- throw new E() -/
theorem gv_throw {cls : String} {names : List String} {ik ic w1 w2 : Nat} (hcls : Bundle.fit cls = true) (hnames : ∀ n ∈ names, Bundle.fit n = true) (hnl : names.length ≤ 4) (hk : gv_tw w1 (.classLink y.1.cls ik cls) = true) (hi : gv_tw w2 (.initialized cls) = true) (hat : (Bundle.ownAtoms0 y.1.cls ic cls names).all gx_ok = true)
    (hhh : y.2.2.2.2.2.2.2.2.2.2 = []) (hcat : gv_cs st ≤ 8) (d0 : decode y.2.1 pc = .ok (.new ik, 3)) (d3 : decode y.2.1 (pc + 3) = .ok (.dup, 1)) (d4 : decode y.2.1 (pc + 4) = .ok (.invokespecial ic, 3)) (d7 : decode y.2.1 (pc + 7) = .ok (.athrow, 1)) :
    gv_go G y d (.inr (.inl cls)) (h.1, (h.2.1.1 + 1, h.2.1.2 + 6), h.2.2) pc ls st h := by
  refine ⟨⟨Nat.le_succ _, Nat.le_add_right _ _⟩, fun h0 p e s m args9 below meth c H locs A q1 q2 X hw hl hA => ?_⟩
  intro T hT XX
  have hK := X.2.2.2.2.1
  have htr : e.platform.stackTraces = false := (show e.platform.stackTraces = G.1.stackTraces by rw [XX.admits.platform]).trans hK.2.2.2.1
  have hcc : h.2.1.1 - h0.2.1.1 + 1 ≤ h.2.1.1 + 1 - h0.2.1.1 := by omega
  have hss : h.2.1.2 - h0.2.1.2 + 6 ≤ h.2.1.2 + 6 - h0.2.1.2 := by omega
  have Y := gx_anew XX (k := 1) (n := 6) hcc hss
  obtain ⟨s', hs'⟩ : ∃ z, z = (T.setVm s.vm).setFrames (.invoking m args9 :: below) := ⟨_, rfl⟩
  rw [← hs'] at Y
  have hvm : s'.vm = s.vm := by rw [hs']; rfl
  have hhp : s'.heap = H := by rw [hs']; exact hT
  have hK' : gv_K G s' := hK.same hvm.symm
  have hU' : gx_st "UNASSIGNED_STACK" "[Ljava/lang/StackTraceElement;" s' s'.heap G.2.2.2.2.2.1 := gx_st.moved (Vm.Alike.refl _) (fun q hq => by rw [hhp]; exact hw.2.2.1 q hq) hK'.2.2.2.2.2.1
  have hN' : gx_st "SUPPRESSED_SENTINEL" "Ljava/util/List;" s' s'.heap G.2.2.2.2.2.1 := gx_st.moved (Vm.Alike.refl _) (fun q hq => by rw [hhp]; exact hw.2.2.1 q hq) hK'.2.2.2.2.2.2
  have hwd := gx_words hK' hU' hN' hat args9
  have hown' : s'.vm.findClass y.1.cls = some m.cls := by rw [hvm]; exact X.2.2.2.1
  have hins : (Jvm.Cond.instantiable cls 6).before args9 s' = true := hwd _ (by simp [Bundle.ownAtoms0])
  have hout : ∀ x ∈ c.exceptionTable.toList, covers x (pc + 7) = false := by
    intro x hx
    have h9 := X.2.2.2.2.2.2.2.2
    rw [hhh] at h9
    rw [List.map_eq_nil_iff.mp h9] at hx
    cases hx
  obtain ⟨vm₁, cX, kX, hfX, hkX, -, -, X₁, st1⟩ := Y.newCold X.1 (own := y.1.cls) (C := cls) (index := ik) (n := 6) hown' (gv_tw_use hK' hk args9) hins (gv_tw_use hK' hi args9)
    (g := F0 m pc A (st.map (gv_v G.2.1))) rfl (by rw [X.2.1]; exact d0) (Nat.le_refl _) (Nat.le_refl _)
  generalize hT1 : (T.setVm vm₁).pushCell { cls := cX, slots := kX.instanceTypes.map defaultValue, vm := .none } = T1 at X₁ st1
  have hcat9 : (Value.ref T.heap.size).category = 1 := rfl
  have hcellA : T1.heap[T.heap.size]? = some (freshCell cX kX) := by rw [← hT1]; exact State.heap_pushCell_size _ _
  have d3' : decode c.code (pc + 3) = .ok (.dup, 1) := by rw [X.2.1]; exact d3
  have hexec := X.1
  obtain ⟨U, hsteps, hrun, hend, hW, hsame, ce, hce, hO⟩ := X₁.ctorThrow0 X.1 htr (own := y.1.cls) (cls := cls) (names := names) (ic := ic) hown' hcls hnames hwd (fun x hx => nomatch hx) hfX hkX hcellA (by rw [hhp, hT]; exact Nat.le_refl _)
    (g := { method := m, pc := pc + 4, locals := A, stack := .ref T.heap.size :: .ref T.heap.size :: st.map (gv_v G.2.1), locked := none }) rfl (hA.1.trans X.2.2.1.symm) rfl rfl (rest := st.map (gv_v G.2.1)) rfl
    (by rw [X.2.1]; exact d4) (by rw [X.2.1]; exact d7) hout (by show names.length + 3 < d + 8; omega) (by
      show 2 * 0 + ((Value.ref T.heap.size :: st.map (gv_v G.2.1)).map fun v => v.category).sum + (13 * (names.length + 1) + 41) ≤ 64 * d + 200
      simp only [List.map_cons, List.sum_cons, hcat9]
      rw [gv_cs_sum]
      omega) X.2.2.2.2.2.2.1
  obtain ⟨f1, f2⟩ := gx_old hsame
  rw [hhp] at f1 f2
  have hWs : s.WarmedH U.vm := by
    have hW0 : s.WarmedH s'.vm := by rw [hvm]; exact State.WarmedH.refl s
    exact State.WarmedH.trans hW0 hW
  have hcl : s.vm.findClass cls = some ce.cls := by
    have h9 := hO.cls
    rw [hvm] at h9
    exact h9
  have hall : s.sameButNew ({ U with vm := s.vm } : State) locs (h.2.1.1 + 1 - h0.2.1.1) (h.2.1.2 + 6 - h0.2.1.2) := by
    subst hs'
    obtain ⟨e1, e2⟩ := hsame
    rw [State.setFrames_setFrames] at e1
    have h2 : (T.setVm s.vm).sameButNew ({ U with vm := s.vm } : State) [] (0 + 1) (0 + 6) := ⟨e1, e2⟩
    have h3 := XX.same.trans h2
    rw [List.append_nil] at h3
    exact h3.mono hcc hss
  refine ⟨U, ?_, T.heap.size, hrun, hend, ce, locs, U.heap.size - H.size, hce, hO.vm, hcl, hWs, hall, hl, hw.more f1 f2⟩
  refine st1 _ ?_
  show Steps p.tables e below (T1.setTop { method := m, pc := pc + 3, locals := A, stack := .ref T.heap.size :: st.map (gv_v G.2.1), locked := none }) _
  jvm_step X₁.here [X₁.here.top, hexec, d3', Value.category]
  exact hsteps
theorem gv_stn_has {z : Nat → Nat} {nL : Nat} {A : Array Slot} {ls : gv_L} {i : Nat} {v : Value} (h : lv_has A nL ((i, v) :: (gv_ll z ls).filter (fun q => !(q.1 == i) && !(q.1 + 1 == i && q.2.category == 2)))) : gv_ls z nL A ((gv_kill ls i).set i none) := by
  refine ⟨h.1, h.2.1, fun j u hj => ?_⟩
  by_cases e : i = j
  · subst e
    rw [List.getElem?_set_self'] at hj
    revert hj
    cases (gv_kill ls i)[i]? <;> simp
  · rw [List.getElem?_set_ne e] at hj
    obtain ⟨h1, h2⟩ := gv_kill_at hj
    refine h.2.2 (j, gv_v z u) (List.mem_cons_of_mem _ (List.mem_filter.mpr ⟨gv_ll_mem h1, ?_⟩))
    by_cases e2 : j + 1 = i
    · have h3 : ¬ (gv_v z u).category = 2 := fun q => h2 ⟨e2, gv_cat.mp q⟩
      simp [Ne.symm e, e2, h3]
    · simp [Ne.symm e, e2]
/-- a call that throws, caught by a row of this method's table; the handler puts the exception away -/
theorem gv_callVX {x wp b ci hpc k9 sp ep ct wl wc : Nat} {rr : vw_C} {fs : List gv_V} {E nm : String} {q9 : Fin 4} (pre suf : List (Nat × Nat × Nat × Nat)) (hM : gv_mok M = true) (hh0 : M.2.2.2.2.2.2.2.2.2.2 = []) (hs : gv_tw M.2.2.2.2.2.2.2.1 (.instanceMethod M.1) = true) (hse : gv_tw M.2.2.2.2.2.2.2.2.1 (.selects M.1.cls M.1 M.1) = true) (hlk : gv_tw wp (.methodLink y.1.cls x M.1) = true) (hd : decode y.2.1 pc = .ok (.invokevirtual x, 3)) (hn : args.length = M.2.2.2.2.2.2.2.2.2.1) (hcat : gv_cs st ≤ 8)
    (hb : h.2.2 b = some (Sum.inr (ci, fs))) (hci : gv_cl[ci]? = some rr) (hrr : rr.1 = M.1.cls)
    (hE : gv_ev G d M (gR b :: args) h (.inr (.inl E)) h1)
    (hsplit : y.2.2.2.2.2.2.2.2.2.2 = pre ++ (sp, ep, hpc, ct) :: suf) (hpass : ∀ z ∈ pre, z.2.2.2 ≠ 0 ∧ ∃ (w : Nat) (n : String), gv_tw w (.classLink y.1.cls z.2.2.2 n) = true ∧ (E, n) ∈ gx_nc) (hcov : sp ≤ pc ∧ pc < ep) (hct : ct ≠ 0)
    (hlink : gv_tw wl (.classLink y.1.cls ct nm) = true) (hcast : gv_tw wc (.castable E nm) = true) (dh : decode y.2.1 hpc = .ok (.astore_n q9, 1)) (hq9 : (q9 : Nat) = k9) (hk9 : k9 < y.2.2.1)
    (k : ∀ δ : Nat, gv_go G y (d + 1) r hf (hpc + 1) ((gv_kill ls k9).set k9 none) [] (h1.1 + δ, h1.2)) : gv_go G y (d + 1) r hf pc ls (args.reverse ++ gR b :: st) h := by
  have hE1 := hE.1
  have hk1 : h1.2.1.1 ≤ hf.2.1.1 ∧ h1.2.1.2 ≤ hf.2.1.2 := (k 0).1
  refine ⟨⟨by omega, by omega⟩, fun h0 p e s m args9 below meth c H locs A q1 q2 X hw hl hA => ?_⟩
  have hK := X.2.2.2.2.1
  have hM9 := hM
  unfold gv_mok at hM9
  rw [Bool.and_eq_true, Bool.and_eq_true, decide_eq_true_eq] at hM9
  obtain ⟨⟨m1, m2⟩, m3, m4, m5, m6⟩ := hM9
  obtain ⟨cellB, c1, c2, c3⟩ := va_recv hK.2.1 (gv_one hw hb) hci (q0 := 0) rfl
  rw [hrr] at c3
  intro T hT XX
  have hpl : e.platform.magicAccessors = ({} : Platform).magicAccessors := by rw [XX.admits.platform]
  obtain ⟨mk, methM, hnamed, hmethM, hstM, habM⟩ := Cond.instanceMethod_spec (gv_tw_use hK hs args9)
  obtain ⟨mk2, methM2, cM, hnamed2, hmethM2, hcodeM, -, hlocM, -, -, -, hsigM⟩ := gv_cwd_spec (gv_tw_use hK m1 args9)
  cases hnamed.symm.trans hnamed2
  cases hmethM.symm.trans hmethM2
  obtain ⟨cc2, r2, mm2, s1, s2, s3, s4, kP, hkP, hkPi⟩ := Cond.selects_spec (gv_tw_use hK hse args9)
  cases c3.symm.trans s1
  cases (State.methodFound?_of_named hnamed ⟨m3, m4⟩).symm.trans s2
  cases hnamed.symm.trans s3
  have hselP : selectMethod e.platform s.vm cellB.cls mk = .method mk := by rw [Launch.admits_selectMethod XX.admits]; exact s4
  have hlen : ∀ sig, parseMethodDescriptor M.1.desc = some sig → (args.map (gv_v G.2.1)).length = sig.parameters.length := by
    intro sig hsig
    rw [hsig] at m5
    rw [List.length_map, hn]
    exact (Option.some.inj m5).symm
  have hstack : (F0 m pc A ((args.reverse ++ gR b :: st).map (gv_v G.2.1))).stack = (args.map (gv_v G.2.1)).reverse ++ .ref (G.2.1 b) :: st.map (gv_v G.2.1) := by
    show (args.reverse ++ gR b :: st).map (gv_v G.2.1) = _
    rw [List.map_append, List.map_reverse]
    rfl
  have hdg : decode c.code (F0 m pc A ((args.reverse ++ gR b :: st).map (gv_v G.2.1))).pc = .ok (.invokevirtual x, 3) := by rw [X.2.1]; exact hd
  obtain ⟨vm₁, X₁, hstep₁⟩ := XX.invokevirtual X.1 X.2.2.2.1 (gv_tw_use hK hlk args9) hnamed hmethM hstM hkP hkPi ⟨m3, m4⟩ (a := G.2.1 b) (cell := cellB) (by rw [hT]; exact c1)
    (fun z hz => by rw [hz] at c2; cases c2) hselP hmethM habM hkP hkPi (g := F0 m pc A ((args.reverse ++ gR b :: st).map (gv_v G.2.1))) rfl (argsL := args.map (gv_v G.2.1)) (rest := st.map (gv_v G.2.1)) (hlen _ hsigM) hstack hdg
  generalize hg9 : ({ (F0 m pc A ((args.reverse ++ gR b :: st).map (gv_v G.2.1))) with stack := st.map (gv_v G.2.1) } : JFrame) = g at hstep₁
  have hgm : g.method = m := by rw [← hg9]
  have hgs : g.locals.size = c.maxLocals := by rw [← hg9]; exact hA.1.trans X.2.2.1.symm
  have hgd : decode c.code g.pc = .ok (.invokevirtual x, 3) := by rw [← hg9]; exact hdg
  have hgw : 2 * g.monitorRoom + (g.stack.map fun v => v.category).sum ≤ 8 := by
    rw [← hg9]
    show 2 * 0 + ((st.map (gv_v G.2.1)).map fun v => v.category).sum ≤ 8
    rw [gv_cs_sum]
    omega
  have hX1 := X₁.here
  have hnm1 : (T.setVm vm₁).methodNamed? M.1 = some mk := X₁.named hnamed
  obtain ⟨kY, hkY, -⟩ := className_of_methodNamed hnm1
  have hK1 : gv_K G (T.setVm vm₁) := hK.moved (U := T.setVm vm₁) X₁.warmed
  have hiniY : kY.init = .initialized := Cond.initialized_spec (findClass_of_methodNamed hnm1) hkY (gv_tw_use hK1 m2 (Value.ref (G.2.1 b) :: args.map (gv_v G.2.1)).toArray)
  obtain ⟨mk3, methM3, cM3, n3, mm3, cc3, -, ll3, -⟩ := gv_cwd_spec (gv_tw_use hK1 m1 (Value.ref (G.2.1 b) :: args.map (gv_v G.2.1)).toArray)
  cases hnm1.symm.trans n3
  have happ : (headSpec [gv_cwd M] (gv_room d (h1.2.1.1 - h.2.1.1) (h1.2.1.2 - h.2.1.2))).appliesLoose M.1 e.platform ((T.setVm vm₁).calling g mk (Value.ref (G.2.1 b) :: args.map (gv_v G.2.1)).toArray) = true := by
    refine Spec.appliesLoose_calling (g := g) (by rw [hgm]; exact hX1) hgd hnm1 hkY hiniY
      (X₁.room_calling (g := g) (R' := gv_room d (h1.2.1.1 - h.2.1.1) (h1.2.1.2 - h.2.1.2)) hgs mm3 cc3 (by show d + 8 + 1 ≤ d + 1 + 8; omega) (by rw [ll3]; show 2 * g.monitorRoom + (g.stack.map fun v => v.category).sum + (M.2.2.1 + 11) + (64 * d + 200) ≤ 64 * (d + 1) + 200; omega)
        (by show h.2.1.1 - h0.2.1.1 + (h1.2.1.1 - h.2.1.1) ≤ hf.2.1.1 - h0.2.1.1; omega) (by show h.2.1.2 - h0.2.1.2 + (h1.2.1.2 - h.2.1.2) ≤ hf.2.1.2 - h0.2.1.2; omega))
      (atoms_intro fun w hw9 => by rw [List.mem_singleton.mp hw9]; exact gv_tw_use hK1 m1 _)
  have hAt : At (T.setVm vm₁) g.method c below := by rw [hgm]; exact hX1
  obtain ⟨mid, hmid⟩ := hAt.above
  have hfr : ((T.setVm vm₁).setTop g).frames = (.java g :: mid) ++ below := by rw [State.frames_setTop' g hAt.top, hmid]; rfl
  obtain ⟨o, s₂, hsteps, -, hend, hq⟩ := Steps.callFree hE.2 p X₁.admits X₁.cas X₁.clock (acts := []) hfr happ (gv_blind _ _ _ _ ⟨rfl, hK1, by show gv_w G h T.heap; rw [hT]; exact hw⟩) trivial
  obtain ⟨q, rfl, ce, L, δ, hce, hcv, hcl, hW₂, hsm, hL, hwq⟩ := hq
  rw [State.frames_setTop' g hAt.top] at hend
  obtain ⟨g₀, hg0⟩ := Option.isSome_iff_exists.mp hAt.top
  obtain ⟨rr9, hr9⟩ := State.topJava?_eq_some.mp hg0
  generalize hU9 : T.setVm vm₁ = U at *
  have hr' : (({ U with heap := s₂.heap, slotsUsed := s₂.slotsUsed } : State).setVm s₂.vm).frames = .java g₀ :: rr9 := hr9
  obtain ⟨e2, z2, z3, z4, z5, z6⟩ := id hsm
  have e3 : s₂ = ({ (U.calling g mk (Value.ref (G.2.1 b) :: args.map (gv_v G.2.1)).toArray).setFrames s₂.frames with heap := s₂.heap, slotsUsed := s₂.slotsUsed } : State).setVm s₂.vm := by
    have : s₂ = ({ s₂ with vm := ((U.setTop g).pushFrame (.invoking mk (Value.ref (G.2.1 b) :: args.map (gv_v G.2.1)).toArray)).vm } : State).setVm s₂.vm := rfl
    rw [e2] at this
    exact this
  have hf₂ : s₂.frames = .throwing q :: .java g :: U.frames.tail := hend
  have hW' : U.WarmedH s₂.vm := hW₂
  have hs₂ : s₂ = ((({ U with heap := s₂.heap, slotsUsed := s₂.slotsUsed } : State).setVm s₂.vm).setTop g).pushFrame (.throwing q) := by
    refine e3.trans ?_
    rw [hf₂, State.calling_eq hAt.top, State.setFrames_setFrames, State.pushFrame, State.frames_setTop _ hr', State.setTop_of_frames _ hr', State.setFrames_setFrames, hr9]
    rfl
  have hsame : U.sameButNew ({ U with heap := s₂.heap, slotsUsed := s₂.slotsUsed } : State) L (h1.2.1.1 - h.2.1.1) (h1.2.1.2 - h.2.1.2) := by
    refine ⟨?_, z2, z3, z4, z5, z6⟩
    obtain ⟨t, ht, -⟩ := State.frames_cons hr9
    show ({ U with heap := s₂.heap, slotsUsed := s₂.slotsUsed } : State) = { U.setFrames U.frames with heap := s₂.heap, slotsUsed := s₂.slotsUsed }
    rw [State.setFrames_self ht]
  have X' : Stand p G.1 e (gv_room (d + 1) (hf.2.1.1 - h0.2.1.1) (hf.2.1.2 - h0.2.1.2)) s m args9 below meth c (({ U with heap := s₂.heap, slotsUsed := s₂.slotsUsed } : State).setVm s₂.vm) (locs ++ L) (h.2.1.1 - h0.2.1.1 + (h1.2.1.1 - h.2.1.1)) (h.2.1.2 - h0.2.1.2 + (h1.2.1.2 - h.2.1.2)) :=
    ⟨X₁.admits, X₁.cas, X₁.clock, X₁.frames, X₁.room, X₁.hears, X₁.method, X₁.code, (X₁.here.setHeapUsed s₂.heap s₂.slotsUsed).setVm hW'.alike, X₁.tail, State.WarmedH.trans X₁.warmed hW', X₁.limits, X₁.bytes, X₁.same.trans (hsame.setVm s.vm)⟩
  have hclS : s.vm.findClass E = some ce.cls := by
    have h9 : U.vm.findClass E = some ce.cls := hcl
    rw [X₁.warmed.alike.findClass] at h9
    exact h9
  have htab := X.2.2.2.2.2.2.2.2
  rw [hsplit] at htab
  obtain ⟨t1, t2, ht0, ht1, ht2⟩ := List.map_eq_append_iff.mp htab
  obtain ⟨xr, t3, rfl, hxr, ht3⟩ := List.map_eq_cons_iff.mp ht2
  cases hxr
  obtain ⟨c3', c4, hc3, hc4, hasg⟩ := Cond.castable_spec (gv_tw_use hK hcast args9)
  cases Option.some.inj (hc3.symm.trans hclS)
  obtain ⟨c5, hc5, hcl5⟩ := Cond.classLink_spec X.2.2.2.1 (gv_tw_use hK hlink args9) e.platform hpl
  cases Option.some.inj (hc4.symm.trans hc5)
  have hcovx : covers xr g.pc = true := by
    rw [← hg9]
    simp only [covers]
    simp [hcov.1, hcov.2]
  obtain ⟨vm', XV, stV⟩ := X'.thenCaughtThrough q (g := g) hgm (Steps.refl _) hce (by rw [hcv]; rfl) (by obtain ⟨k8, h8, -⟩ := Vm.findClass_spec hclS; exact ⟨k8, h8⟩) t1 xr t3 ht0
    (fun z hz => by
      have hz2 : (z.startPc, z.endPc, z.handlerPc, z.catchType) ∈ pre := by rw [← ht1]; exact List.mem_map.mpr ⟨z, hz, rfl⟩
      obtain ⟨hz0, w8, n8, hl8, hn8⟩ := hpass _ hz2
      obtain ⟨c6, hc6, hcl6⟩ := Cond.classLink_spec X.2.2.2.1 (gv_tw_use hK hl8 args9) e.platform hpl
      obtain ⟨a8, b8, g1, g2, g3⟩ := hK.2.2.2.2.1 _ hn8
      cases Option.some.inj (g1.symm.trans hclS)
      cases Option.some.inj (g2.symm.trans hc6)
      exact Or.inr ⟨hz0, _, hcl6, g3⟩) hcovx (Or.inr ⟨hct, c4, hcl5, hasg⟩)
  have hW9 := lv_astore_n (p := p) (l := G.1) (e := e) (R := gv_room (d + 1) (hf.2.1.1 - h0.2.1.1) (hf.2.1.2 - h0.2.1.2)) (s := s) (m := m) (args := args9) (below := below) (meth := meth) (c := c) (H := s₂.heap) (locs := locs ++ L) (cells := h1.2.1.1 - h0.2.1.1) (slots := h1.2.1.2 - h0.2.1.2) (Q := gv_fin G r hf below args9 s (hf.2.1.1 - h0.2.1.1) (hf.2.1.2 - h0.2.1.2)) (x := q) (rest := []) X.1 X.2.1 dh hq9 (gv_ll_has hA) hk9 rfl
    (fun A1 hA1 => (k δ).2 h0 p e s m args9 below meth c s₂.heap (locs ++ L) A1 (by show h0.2.1.1 ≤ h1.2.1.1; omega) (by show h0.2.1.2 ≤ h1.2.1.2; omega) X hwq (fun z hz => (List.mem_append.mp hz).elim (hl z) (hL z)) (gv_stn_has hA1))
  rw [show h.2.1.1 - h0.2.1.1 + (h1.2.1.1 - h.2.1.1) = h1.2.1.1 - h0.2.1.1 by omega, show h.2.1.2 - h0.2.1.2 + (h1.2.1.2 - h.2.1.2) = h1.2.1.2 - h0.2.1.2 by omega] at XV
  obtain ⟨t, a1, b1⟩ := hW9 ((({ U with heap := s₂.heap, slotsUsed := s₂.slotsUsed } : State).setVm s₂.vm).setVm vm') rfl XV
  refine ⟨t, hstep₁ _ (fun acts => ?_), b1⟩
  rw [doInvoke_state]
  refine Steps.trans hsteps ?_
  rw [hs₂]
  refine Steps.trans stV ?_
  have e9 : ({ g with pc := xr.handlerPc, stack := [.ref q] } : JFrame) = F0 m xr.handlerPc A [.ref q] := by rw [← hg9]
  rw [e9]
  exact a1
end GWA
end
