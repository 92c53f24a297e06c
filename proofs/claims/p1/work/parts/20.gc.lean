/-! the classes' facts -/
section GCA
theorem gc_in {L : List Jvm.Cond} (ps : List Nat) (h1 : L = ps.filterMap (fun i => gv_T[i]?)) (h2 : L.all gv_gd = true) : ∀ w ∈ L, w ∈ gv_T ∧ gv_gd w = true := by
  intro w hw
  have h3 := List.all_eq_true.mp h2 w hw
  rw [h1] at hw
  obtain ⟨i, -, hi⟩ := List.mem_filterMap.mp hw
  exact ⟨List.mem_of_getElem? hi, h3⟩
theorem gc_GE : gv_clok 0 ("GoalEngine", gF_GE, 4) := ⟨rfl, gc_in [410, 412, 414, 416] (by decide +kernel) (by decide +kernel), by decide +kernel, by decide +kernel, by decide +kernel, by decide +kernel⟩
theorem gc_RB : gv_clok 1 ("GoalEngine$RuleBook", gF_RB, 2) := ⟨rfl, gc_in [138, 140] (by decide +kernel) (by decide +kernel), by decide +kernel, by decide +kernel, by decide +kernel, by decide +kernel⟩
theorem gc_CL : gv_clok 2 ("GoalEngine$Clause", gF_CL, 4) := ⟨rfl, gc_in [124, 126, 128, 130] (by decide +kernel) (by decide +kernel), by decide +kernel, by decide +kernel, by decide +kernel, by decide +kernel⟩
theorem gc_SE : gv_clok 3 ("GoalEngine$Search", gF_SE, 13) := ⟨rfl, gc_in [379, 381, 383, 385, 387, 389, 391, 393, 395, 397, 399, 401, 403] (by decide +kernel) (by decide +kernel), by decide +kernel, by decide +kernel, by decide +kernel, by decide +kernel⟩
theorem gc_CE : gv_clok 4 ("GoalEngine$Cells", gF_CE, 9) := ⟨rfl, gc_in [177, 179, 181, 183, 185, 187, 189, 191, 193] (by decide +kernel) (by decide +kernel), by decide +kernel, by decide +kernel, by decide +kernel, by decide +kernel⟩
theorem gc_TR : gv_clok 5 ("GoalEngine$Tracer", gF_TR, 4) := ⟨rfl, gc_in [206, 208, 210, 212] (by decide +kernel) (by decide +kernel), by decide +kernel, by decide +kernel, by decide +kernel, by decide +kernel⟩
theorem gc_UN : gv_clok 6 ("GoalEngine$Unifier", gF_UN, 5) := ⟨rfl, gc_in [227, 229, 231, 233, 235] (by decide +kernel) (by decide +kernel), by decide +kernel, by decide +kernel, by decide +kernel, by decide +kernel⟩
theorem gc_CA : gv_clok 7 ("GoalEngine$Calculator", gF_CA, 2) := ⟨rfl, gc_in [246, 248] (by decide +kernel) (by decide +kernel), by decide +kernel, by decide +kernel, by decide +kernel, by decide +kernel⟩
theorem gc_GO : gv_clok 8 ("GoalEngine$Goals", gF_GO, 4) := ⟨rfl, gc_in [267, 269, 271, 273] (by decide +kernel) (by decide +kernel), by decide +kernel, by decide +kernel, by decide +kernel, by decide +kernel⟩
theorem gc_CH : gv_clok 9 ("GoalEngine$Choices", gF_CH, 6) := ⟨rfl, gc_in [297, 299, 301, 303, 305, 307] (by decide +kernel) (by decide +kernel), by decide +kernel, by decide +kernel, by decide +kernel, by decide +kernel⟩
theorem gc_CO : gv_clok 10 ("GoalEngine$Collector", gF_CO, 6) := ⟨rfl, gc_in [323, 325, 327, 329, 331, 333] (by decide +kernel) (by decide +kernel), by decide +kernel, by decide +kernel, by decide +kernel, by decide +kernel⟩
theorem gc_AN : gv_clok 11 ("GoalEngine$Answer", gF_AN, 7) := ⟨rfl, gc_in [349, 351, 353, 355, 357, 359, 361] (by decide +kernel) (by decide +kernel), by decide +kernel, by decide +kernel, by decide +kernel, by decide +kernel⟩
theorem gc_MO : gv_clok 12 ("GoalEngineModel", gF_MO, 50) := ⟨rfl, gc_in [994, 996, 998, 1000, 1002, 1004, 1006, 1008, 1010, 1012, 1014, 1016, 1018, 1020, 1022, 1024, 1026, 1028, 1030, 1032, 1034, 1036, 1038, 1040, 1042, 1044, 1046, 1048, 1050, 1052, 1054, 1056, 1058, 1060, 1062, 1064, 1066, 1068, 1070, 1072, 1074, 1076, 1078, 1080, 1082, 1084, 1086, 1088, 1090, 1092] (by decide +kernel) (by decide +kernel), by decide +kernel, by decide +kernel, by decide +kernel, by decide +kernel⟩
theorem gc_ok : ∀ ci r, gv_cl[ci]? = some r → gv_clok ci r := by
  intro ci r h
  match ci, h with
  | 0, h => cases h; exact gc_GE
  | 1, h => cases h; exact gc_RB
  | 2, h => cases h; exact gc_CL
  | 3, h => cases h; exact gc_SE
  | 4, h => cases h; exact gc_CE
  | 5, h => cases h; exact gc_TR
  | 6, h => cases h; exact gc_UN
  | 7, h => cases h; exact gc_CA
  | 8, h => cases h; exact gc_GO
  | 9, h => cases h; exact gc_CH
  | 10, h => cases h; exact gc_CO
  | 11, h => cases h; exact gc_AN
  | 12, h => cases h; exact gc_MO
  | n + 13, h => simp [gv_cl] at h
theorem gc_qi : ∃ r, gv_cl[gv_qi]? = some r ∧ r.1 = gv_qc := ⟨_, rfl, rfl⟩
end GCA
