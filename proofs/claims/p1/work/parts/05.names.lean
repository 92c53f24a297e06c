/-! names: the classes with their fields, the tables' words by their places, the methods by their numbers (written by wip/tools/gen.py out of the Statement and the listing) -/
def gF_GE : u_T := fun k => match k with
  | 0 => ("GoalEngine", "typed", "[I", true)
  | 1 => ("GoalEngine", "typedCount", "I", false)
  | 2 => ("GoalEngine", "rules", "LGoalEngine$RuleBook;", true)
  | _ => ("GoalEngine", "search", "LGoalEngine$Search;", true)
def gF_RB : u_T := fun k => match k with
  | 0 => ("GoalEngine$RuleBook", "clauses", "[LGoalEngine$Clause;", true)
  | _ => ("GoalEngine$RuleBook", "size", "I", false)
def gF_CL : u_T := fun k => match k with
  | 0 => ("GoalEngine$Clause", "row", "[I", true)
  | 1 => ("GoalEngine$Clause", "length", "I", false)
  | 2 => ("GoalEngine$Clause", "variables", "I", false)
  | _ => ("GoalEngine$Clause", "cellsOfCopy", "I", false)
def gF_SE : u_T := fun k => match k with
  | 0 => ("GoalEngine$Search", "rules", "LGoalEngine$RuleBook;", true)
  | 1 => ("GoalEngine$Search", "question", "LGoalEngine$Clause;", true)
  | 2 => ("GoalEngine$Search", "cells", "LGoalEngine$Cells;", true)
  | 3 => ("GoalEngine$Search", "unifier", "LGoalEngine$Unifier;", true)
  | 4 => ("GoalEngine$Search", "calculator", "LGoalEngine$Calculator;", true)
  | 5 => ("GoalEngine$Search", "goals", "LGoalEngine$Goals;", true)
  | 6 => ("GoalEngine$Search", "choices", "LGoalEngine$Choices;", true)
  | 7 => ("GoalEngine$Search", "collector", "LGoalEngine$Collector;", true)
  | 8 => ("GoalEngine$Search", "answer", "LGoalEngine$Answer;", true)
  | 9 => ("GoalEngine$Search", "firstGoal", "I", false)
  | 10 => ("GoalEngine$Search", "saidRule", "I", false)
  | 11 => ("GoalEngine$Search", "state", "I", false)
  | _ => ("GoalEngine$Search", "tank", "I", false)
def gF_CE : u_T := fun k => match k with
  | 0 => ("GoalEngine$Cells", "cell", "[I", true)
  | 1 => ("GoalEngine$Cells", "used", "I", false)
  | 2 => ("GoalEngine$Cells", "trail", "[I", true)
  | 3 => ("GoalEngine$Cells", "trailed", "I", false)
  | 4 => ("GoalEngine$Cells", "variableAt", "[I", true)
  | 5 => ("GoalEngine$Cells", "open", "[I", true)
  | 6 => ("GoalEngine$Cells", "openCount", "I", false)
  | 7 => ("GoalEngine$Cells", "copied", "[I", true)
  | _ => ("GoalEngine$Cells", "copiedCount", "I", false)
def gF_TR : u_T := fun k => match k with
  | 0 => ("GoalEngine$Tracer", "cells", "LGoalEngine$Cells;", true)
  | 1 => ("GoalEngine$Tracer", "reached", "[Z", true)
  | 2 => ("GoalEngine$Tracer", "waiting", "[I", true)
  | _ => ("GoalEngine$Tracer", "waitingCount", "I", false)
def gF_UN : u_T := fun k => match k with
  | 0 => ("GoalEngine$Unifier", "cells", "LGoalEngine$Cells;", true)
  | 1 => ("GoalEngine$Unifier", "tracer", "LGoalEngine$Tracer;", true)
  | 2 => ("GoalEngine$Unifier", "left", "[I", true)
  | 3 => ("GoalEngine$Unifier", "right", "[I", true)
  | _ => ("GoalEngine$Unifier", "pairs", "I", false)
def gF_CA : u_T := fun k => match k with
  | 0 => ("GoalEngine$Calculator", "cells", "LGoalEngine$Cells;", true)
  | _ => ("GoalEngine$Calculator", "operations", "I", false)
def gF_GO : u_T := fun k => match k with
  | 0 => ("GoalEngine$Goals", "term", "[I", false)
  | 1 => ("GoalEngine$Goals", "height", "[I", false)
  | 2 => ("GoalEngine$Goals", "behind", "[I", false)
  | _ => ("GoalEngine$Goals", "seen", "[Z", false)
def gF_CH : u_T := fun k => match k with
  | 0 => ("GoalEngine$Choices", "firstGoal", "[I", true)
  | 1 => ("GoalEngine$Choices", "nextRule", "[I", true)
  | 2 => ("GoalEngine$Choices", "cellMark", "[I", true)
  | 3 => ("GoalEngine$Choices", "trailMark", "[I", true)
  | 4 => ("GoalEngine$Choices", "goalMark", "[I", true)
  | _ => ("GoalEngine$Choices", "size", "I", false)
def gF_CO : u_T := fun k => match k with
  | 0 => ("GoalEngine$Collector", "cells", "LGoalEngine$Cells;", true)
  | 1 => ("GoalEngine$Collector", "goals", "LGoalEngine$Goals;", true)
  | 2 => ("GoalEngine$Collector", "choices", "LGoalEngine$Choices;", true)
  | 3 => ("GoalEngine$Collector", "tracer", "LGoalEngine$Tracer;", true)
  | 4 => ("GoalEngine$Collector", "newPlace", "[I", true)
  | _ => ("GoalEngine$Collector", "collections", "I", false)
def gF_AN : u_T := fun k => match k with
  | 0 => ("GoalEngine$Answer", "cells", "LGoalEngine$Cells;", true)
  | 1 => ("GoalEngine$Answer", "row", "[I", true)
  | 2 => ("GoalEngine$Answer", "length", "I", false)
  | 3 => ("GoalEngine$Answer", "freeVariables", "[I", true)
  | 4 => ("GoalEngine$Answer", "freeCount", "I", false)
  | 5 => ("GoalEngine$Answer", "waiting", "[I", true)
  | _ => ("GoalEngine$Answer", "waitingCount", "I", false)
def gF_MO : u_T := fun k => match k with
  | 0 => ("GoalEngineModel", "thrown", "I", false)
  | 1 => ("GoalEngineModel", "typed", "I", false)
  | 2 => ("GoalEngineModel", "words", "[I", false)
  | 3 => ("GoalEngineModel", "rules", "I", false)
  | 4 => ("GoalEngineModel", "ruleWords", "[I", false)
  | 5 => ("GoalEngineModel", "ruleLength", "[I", false)
  | 6 => ("GoalEngineModel", "uses", "[I", false)
  | 7 => ("GoalEngineModel", "taken", "[I", false)
  | 8 => ("GoalEngineModel", "cellKind", "[I", false)
  | 9 => ("GoalEngineModel", "cellValue", "[I", false)
  | 10 => ("GoalEngineModel", "nameOf", "[I", false)
  | 11 => ("GoalEngineModel", "argument", "[I", false)
  | 12 => ("GoalEngineModel", "stamps", "I", false)
  | 13 => ("GoalEngineModel", "goals", "I", false)
  | 14 => ("GoalEngineModel", "goal", "[I", false)
  | 15 => ("GoalEngineModel", "goalNext", "[I", false)
  | 16 => ("GoalEngineModel", "atHand", "I", false)
  | 17 => ("GoalEngineModel", "said", "I", false)
  | 18 => ("GoalEngineModel", "choices", "I", false)
  | 19 => ("GoalEngineModel", "choiceGoals", "[I", false)
  | 20 => ("GoalEngineModel", "choiceRule", "[I", false)
  | 21 => ("GoalEngineModel", "choiceStamp", "[I", false)
  | 22 => ("GoalEngineModel", "choiceTrail", "[I", false)
  | 23 => ("GoalEngineModel", "trail", "I", false)
  | 24 => ("GoalEngineModel", "bound", "[I", false)
  | 25 => ("GoalEngineModel", "searching", "Z", false)
  | 26 => ("GoalEngineModel", "answered", "Z", false)
  | 27 => ("GoalEngineModel", "tank", "I", false)
  | 28 => ("GoalEngineModel", "collections", "I", false)
  | 29 => ("GoalEngineModel", "asked", "[I", false)
  | 30 => ("GoalEngineModel", "pile", "I", false)
  | 31 => ("GoalEngineModel", "pileKind", "[I", false)
  | 32 => ("GoalEngineModel", "pileValue", "[I", false)
  | 33 => ("GoalEngineModel", "marks", "[I", false)
  | 34 => ("GoalEngineModel", "markNumber", "I", false)
  | 35 => ("GoalEngineModel", "pairs", "I", false)
  | 36 => ("GoalEngineModel", "results", "I", false)
  | 37 => ("GoalEngineModel", "resultOf", "[I", false)
  | 38 => ("GoalEngineModel", "saidWords", "I", false)
  | 39 => ("GoalEngineModel", "answer", "[I", false)
  | 40 => ("GoalEngineModel", "kind", "I", false)
  | 41 => ("GoalEngineModel", "value", "I", false)
  | 42 => ("GoalEngineModel", "copied", "[I", false)
  | 43 => ("GoalEngineModel", "open", "I", false)
  | 44 => ("GoalEngineModel", "openCell", "[I", false)
  | 45 => ("GoalEngineModel", "openNext", "[I", false)
  | 46 => ("GoalEngineModel", "heads", "I", false)
  | 47 => ("GoalEngineModel", "headKind", "[I", false)
  | 48 => ("GoalEngineModel", "headValue", "[I", false)
  | _ => ("GoalEngineModel", "outcome", "I", false)
def gv_cl : List vw_C := [("GoalEngine", gF_GE, 4), ("GoalEngine$RuleBook", gF_RB, 2), ("GoalEngine$Clause", gF_CL, 4), ("GoalEngine$Search", gF_SE, 13), ("GoalEngine$Cells", gF_CE, 9), ("GoalEngine$Tracer", gF_TR, 4), ("GoalEngine$Unifier", gF_UN, 5), ("GoalEngine$Calculator", gF_CA, 2), ("GoalEngine$Goals", gF_GO, 4), ("GoalEngine$Choices", gF_CH, 6), ("GoalEngine$Collector", gF_CO, 6), ("GoalEngine$Answer", gF_AN, 7), ("GoalEngineModel", gF_MO, 50)]
def gv_T : List Jvm.Cond := lw_tbl
def gv_qc : String := "GoalEngine$Clause"
def gv_qi : Nat := 2
def gv_host : String := "GoalEngine"
def gv_cw (c : Nat) : Nat × Nat := match c with
  | 0 => (94, 68)
  | 1 => (102, 69)
  | 2 => (109, 70)
  | 3 => (144, 71)
  | 4 => (152, 72)
  | 5 => (197, 73)
  | 6 => (217, 74)
  | 7 => (239, 75)
  | 8 => (252, 76)
  | 9 => (277, 77)
  | 10 => (311, 78)
  | 11 => (337, 79)
  | 12 => (939, 80)
  | _ => (0, 0)
def gv_mns : List MethodName := [⟨"GoalEngine", "<init>", "()V"⟩,
  ⟨"GoalEngine", "put", "(I)I"⟩,
  ⟨"GoalEngine", "rule", "()I"⟩,
  ⟨"GoalEngine", "ask", "()I"⟩,
  ⟨"GoalEngine", "solve", "(I)I"⟩,
  ⟨"GoalEngine", "next", "()Z"⟩,
  ⟨"GoalEngine", "stop", "()V"⟩,
  ⟨"GoalEngine", "collect", "()I"⟩,
  ⟨"GoalEngine", "count", "(I)I"⟩,
  ⟨"GoalEngine", "words", "()I"⟩,
  ⟨"GoalEngine", "word", "(I)I"⟩,
  ⟨"GoalEngine", "takeTyped", "()I"⟩,
  ⟨"GoalEngine", "isWord", "(I)Z"⟩,
  ⟨"GoalEngine", "isRule", "([II)Z"⟩,
  ⟨"GoalEngine", "isQuestion", "([II)Z"⟩,
  ⟨"GoalEngine", "argumentsOf", "(I)I"⟩,
  ⟨"GoalEngine$RuleBook", "<init>", "()V"⟩,
  ⟨"GoalEngine$RuleBook", "add", "([II)V"⟩,
  ⟨"GoalEngine$RuleBook", "firstFor", "(II)I"⟩,
  ⟨"GoalEngine$Clause", "<init>", "()V"⟩,
  ⟨"GoalEngine$Clause", "read", "([II)V"⟩,
  ⟨"GoalEngine$Search", "<init>", "(LGoalEngine$RuleBook;)V"⟩,
  ⟨"GoalEngine$Search", "begin", "([II)V"⟩,
  ⟨"GoalEngine$Search", "canStep", "()Z"⟩,
  ⟨"GoalEngine$Search", "settle", "(I)V"⟩,
  ⟨"GoalEngine$Search", "step", "()I"⟩,
  ⟨"GoalEngine$Search", "meet", "(III)I"⟩,
  ⟨"GoalEngine$Search", "compare", "(IJJ)I"⟩,
  ⟨"GoalEngine$Search", "tryRule", "(III)I"⟩,
  ⟨"GoalEngine$Search", "hasRoomFor", "(LGoalEngine$Clause;)Z"⟩,
  ⟨"GoalEngine$Search", "bringGoals", "(II)V"⟩,
  ⟨"GoalEngine$Search", "tryOtherWay", "()V"⟩,
  ⟨"GoalEngine$Search", "freeCells", "()I"⟩,
  ⟨"GoalEngine$Search", "cellsInUse", "()I"⟩,
  ⟨"GoalEngine$Search", "choicesLeft", "()I"⟩,
  ⟨"GoalEngine$Search", "goalsAtHand", "()I"⟩,
  ⟨"GoalEngine$Search", "collections", "()I"⟩,
  ⟨"GoalEngine$Search", "answerLength", "()I"⟩,
  ⟨"GoalEngine$Search", "answerWord", "(I)I"⟩,
  ⟨"GoalEngine$Cells", "<init>", "()V"⟩,
  ⟨"GoalEngine$Cells", "follow", "(I)I"⟩,
  ⟨"GoalEngine$Cells", "nameOf", "(I)I"⟩,
  ⟨"GoalEngine$Cells", "argument", "(II)I"⟩,
  ⟨"GoalEngine$Cells", "bind", "(II)V"⟩,
  ⟨"GoalEngine$Cells", "goBack", "(II)V"⟩,
  ⟨"GoalEngine$Cells", "clear", "()V"⟩,
  ⟨"GoalEngine$Cells", "copy", "(LGoalEngine$Clause;)V"⟩,
  ⟨"GoalEngine$Cells", "takeVariables", "(I)V"⟩,
  ⟨"GoalEngine$Cells", "termOf", "(I)I"⟩,
  ⟨"GoalEngine$Cells", "place", "(I)V"⟩,
  ⟨"GoalEngine$Cells", "takeName", "(I)V"⟩,
  ⟨"GoalEngine$Tracer", "<init>", "(LGoalEngine$Cells;)V"⟩,
  ⟨"GoalEngine$Tracer", "forget", "()V"⟩,
  ⟨"GoalEngine$Tracer", "hasReached", "(I)Z"⟩,
  ⟨"GoalEngine$Tracer", "trace", "(I)V"⟩,
  ⟨"GoalEngine$Tracer", "reach", "(I)V"⟩,
  ⟨"GoalEngine$Unifier", "<init>", "(LGoalEngine$Cells;LGoalEngine$Tracer;)V"⟩,
  ⟨"GoalEngine$Unifier", "unify", "(II)I"⟩,
  ⟨"GoalEngine$Unifier", "lookAt", "(II)Z"⟩,
  ⟨"GoalEngine$Unifier", "bindLater", "(II)V"⟩,
  ⟨"GoalEngine$Unifier", "bindUnlessInside", "(II)Z"⟩,
  ⟨"GoalEngine$Unifier", "openArguments", "(II)Z"⟩,
  ⟨"GoalEngine$Calculator", "<init>", "(LGoalEngine$Cells;)V"⟩,
  ⟨"GoalEngine$Calculator", "calculate", "(I)J"⟩,
  ⟨"GoalEngine$Calculator", "resultOf", "(I)J"⟩,
  ⟨"GoalEngine$Calculator", "isOperation", "(I)Z"⟩,
  ⟨"GoalEngine$Calculator", "join", "(III)J"⟩,
  ⟨"GoalEngine$Calculator", "roundIntoRange", "(I)I"⟩,
  ⟨"GoalEngine$Goals", "<init>", "()V"⟩,
  ⟨"GoalEngine$Goals", "set", "(IIII)V"⟩,
  ⟨"GoalEngine$Goals", "grow", "()V"⟩,
  ⟨"GoalEngine$Goals", "lengthFrom", "(I)I"⟩,
  ⟨"GoalEngine$Choices", "<init>", "()V"⟩,
  ⟨"GoalEngine$Choices", "make", "(IILGoalEngine$Cells;)V"⟩,
  ⟨"GoalEngine$Choices", "goalsKept", "()I"⟩,
  ⟨"GoalEngine$Choices", "cutTo", "(I)V"⟩,
  ⟨"GoalEngine$Collector", "<init>", "(LGoalEngine$Cells;LGoalEngine$Goals;LGoalEngine$Choices;LGoalEngine$Tracer;)V"⟩,
  ⟨"GoalEngine$Collector", "run", "(II)I"⟩,
  ⟨"GoalEngine$Collector", "dropNeedlessTrail", "()V"⟩,
  ⟨"GoalEngine$Collector", "traceLive", "(II)V"⟩,
  ⟨"GoalEngine$Collector", "traceGoals", "(I)V"⟩,
  ⟨"GoalEngine$Collector", "findNewPlaces", "()V"⟩,
  ⟨"GoalEngine$Collector", "moveCells", "()V"⟩,
  ⟨"GoalEngine$Collector", "moveGoals", "(I)V"⟩,
  ⟨"GoalEngine$Collector", "moveMarks", "()V"⟩,
  ⟨"GoalEngine$Collector", "moved", "(I)I"⟩,
  ⟨"GoalEngine$Answer", "<init>", "(LGoalEngine$Cells;)V"⟩,
  ⟨"GoalEngine$Answer", "write", "(I)I"⟩,
  ⟨"GoalEngine$Answer", "at", "(I)I"⟩,
  ⟨"GoalEngine$Answer", "writeTerm", "(I)V"⟩,
  ⟨"GoalEngine$Answer", "wordOf", "(I)I"⟩,
  ⟨"GoalEngine$Answer", "openArguments", "(I)V"⟩,
  ⟨"GoalEngineModel", "<init>", "()V"⟩,
  ⟨"GoalEngineModel", "thrown", "()I"⟩,
  ⟨"GoalEngineModel", "arity", "(I)I"⟩,
  ⟨"GoalEngineModel", "put", "(I)I"⟩,
  ⟨"GoalEngineModel", "behind", "(I)I"⟩,
  ⟨"GoalEngineModel", "areGoals", "(I)Z"⟩,
  ⟨"GoalEngineModel", "rule", "()I"⟩,
  ⟨"GoalEngineModel", "inUse", "()I"⟩,
  ⟨"GoalEngineModel", "take", "(I)I"⟩,
  ⟨"GoalEngineModel", "hasVariable", "([IIII)Z"⟩,
  ⟨"GoalEngineModel", "needs", "([III)I"⟩,
  ⟨"GoalEngineModel", "place", "()V"⟩,
  ⟨"GoalEngineModel", "copyWord", "(I)V"⟩,
  ⟨"GoalEngineModel", "copy", "([III)V"⟩,
  ⟨"GoalEngineModel", "mean", "(II)V"⟩,
  ⟨"GoalEngineModel", "push", "(II)V"⟩,
  ⟨"GoalEngineModel", "pushArguments", "(I)V"⟩,
  ⟨"GoalEngineModel", "occurs", "(III)Z"⟩,
  ⟨"GoalEngineModel", "bind", "(III)V"⟩,
  ⟨"GoalEngineModel", "unify", "(IIII)V"⟩,
  ⟨"GoalEngineModel", "meet", "(IIII)V"⟩,
  ⟨"GoalEngineModel", "pushPairs", "(II)V"⟩,
  ⟨"GoalEngineModel", "round", "(J)I"⟩,
  ⟨"GoalEngineModel", "apply", "(I)V"⟩,
  ⟨"GoalEngineModel", "calculate", "(II)I"⟩,
  ⟨"GoalEngineModel", "mark", "(II)V"⟩,
  ⟨"GoalEngineModel", "kindOf", "(I)I"⟩,
  ⟨"GoalEngineModel", "valueOf", "(I)I"⟩,
  ⟨"GoalEngineModel", "markGoals", "(I)V"⟩,
  ⟨"GoalEngineModel", "free", "(II)I"⟩,
  ⟨"GoalEngineModel", "end", "()V"⟩,
  ⟨"GoalEngineModel", "link", "(IIII)I"⟩,
  ⟨"GoalEngineModel", "ask", "()I"⟩,
  ⟨"GoalEngineModel", "fail", "()V"⟩,
  ⟨"GoalEngineModel", "wordOf", "(II)I"⟩,
  ⟨"GoalEngineModel", "ruleFor", "(II)I"⟩,
  ⟨"GoalEngineModel", "attempt", "(II)V"⟩,
  ⟨"GoalEngineModel", "argumentKind", "(II)I"⟩,
  ⟨"GoalEngineModel", "argumentValue", "(II)I"⟩,
  ⟨"GoalEngineModel", "known", "(II)V"⟩,
  ⟨"GoalEngineModel", "step", "()V"⟩,
  ⟨"GoalEngineModel", "solve", "(I)I"⟩,
  ⟨"GoalEngineModel", "next", "()Z"⟩,
  ⟨"GoalEngineModel", "stop", "()V"⟩,
  ⟨"GoalEngineModel", "collect", "()I"⟩,
  ⟨"GoalEngineModel", "count", "(I)I"⟩,
  ⟨"GoalEngineModel", "sayTerm", "()V"⟩,
  ⟨"GoalEngineModel", "findAnswer", "()V"⟩,
  ⟨"GoalEngineModel", "words", "()I"⟩,
  ⟨"GoalEngineModel", "word", "(I)I"⟩,
  ⟨"GoalEngineLaw", "put", "(LGoalEngine;I[J)I"⟩,
  ⟨"GoalEngineLaw", "rule", "(LGoalEngine;[J)I"⟩,
  ⟨"GoalEngineLaw", "ask", "(LGoalEngine;[J)I"⟩,
  ⟨"GoalEngineLaw", "solve", "(LGoalEngine;I[J)I"⟩,
  ⟨"GoalEngineLaw", "next", "(LGoalEngine;[J)I"⟩,
  ⟨"GoalEngineLaw", "count", "(LGoalEngine;I[J)I"⟩,
  ⟨"GoalEngineLaw", "word", "(LGoalEngine;I[J)I"⟩,
  ⟨"GoalEngineLaw", "law", "([I)Z"⟩]
def gv_mn (i : Nat) : MethodName := gv_mns.getD i ⟨"", "", ""⟩
