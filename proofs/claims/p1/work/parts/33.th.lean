/-! the five exceptions that the class throws -/
section THA
def th_nm : List String := ["java/lang/RuntimeException", "java/lang/Exception"]
def xIAE : String := "java/lang/IllegalArgumentException"
theorem tw_IAE : (Bundle.ownAtoms0 "GoalEngine" 39 "java/lang/IllegalArgumentException" ["java/lang/RuntimeException", "java/lang/Exception"]).all gx_ok = true := by decide +kernel
theorem th_IAE {G : gv_G} {y : gv_M} {d : Nat} {h : gv_H} {pc : Nat} {ls : gv_L} {st : List gv_V} (hc : y.1.cls = "GoalEngine") (hhh : y.2.2.2.2.2.2.2.2.2.2 = []) (hcat : gv_cs st ≤ 8) (d0 : decode y.2.1 pc = .ok (.new 37, 3)) (d3 : decode y.2.1 (pc + 3) = .ok (.dup, 1)) (d4 : decode y.2.1 (pc + 4) = .ok (.invokespecial 39, 3)) (d7 : decode y.2.1 (pc + 7) = .ok (.athrow, 1)) :
    gv_go G y d (.inr (.inl "java/lang/IllegalArgumentException")) (h.1, (h.2.1.1 + 1, h.2.1.2 + 6), h.2.2) pc ls st h :=
  gv_throw (names := ["java/lang/RuntimeException", "java/lang/Exception"]) (w1 := 549) (w2 := 84) (by decide +kernel) (by decide +kernel) (by decide) (by rw [hc]; decide +kernel) (by decide +kernel) (by rw [hc]; exact tw_IAE) hhh hcat d0 d3 d4 d7
def xISE : String := "java/lang/IllegalStateException"
theorem tw_ISE : (Bundle.ownAtoms0 "GoalEngine" 42 "java/lang/IllegalStateException" ["java/lang/RuntimeException", "java/lang/Exception"]).all gx_ok = true := by decide +kernel
theorem th_ISE {G : gv_G} {y : gv_M} {d : Nat} {h : gv_H} {pc : Nat} {ls : gv_L} {st : List gv_V} (hc : y.1.cls = "GoalEngine") (hhh : y.2.2.2.2.2.2.2.2.2.2 = []) (hcat : gv_cs st ≤ 8) (d0 : decode y.2.1 pc = .ok (.new 40, 3)) (d3 : decode y.2.1 (pc + 3) = .ok (.dup, 1)) (d4 : decode y.2.1 (pc + 4) = .ok (.invokespecial 42, 3)) (d7 : decode y.2.1 (pc + 7) = .ok (.athrow, 1)) :
    gv_go G y d (.inr (.inl "java/lang/IllegalStateException")) (h.1, (h.2.1.1 + 1, h.2.1.2 + 6), h.2.2) pc ls st h :=
  gv_throw (names := ["java/lang/RuntimeException", "java/lang/Exception"]) (w1 := 614) (w2 := 85) (by decide +kernel) (by decide +kernel) (by decide) (by rw [hc]; decide +kernel) (by decide +kernel) (by rw [hc]; exact tw_ISE) hhh hcat d0 d3 d4 d7
def xARE : String := "java/lang/ArithmeticException"
theorem tw_ARE : (Bundle.ownAtoms0 "GoalEngine" 83 "java/lang/ArithmeticException" ["java/lang/RuntimeException", "java/lang/Exception"]).all gx_ok = true := by decide +kernel
theorem th_ARE {G : gv_G} {y : gv_M} {d : Nat} {h : gv_H} {pc : Nat} {ls : gv_L} {st : List gv_V} (hc : y.1.cls = "GoalEngine") (hhh : y.2.2.2.2.2.2.2.2.2.2 = []) (hcat : gv_cs st ≤ 8) (d0 : decode y.2.1 pc = .ok (.new 81, 3)) (d3 : decode y.2.1 (pc + 3) = .ok (.dup, 1)) (d4 : decode y.2.1 (pc + 4) = .ok (.invokespecial 83, 3)) (d7 : decode y.2.1 (pc + 7) = .ok (.athrow, 1)) :
    gv_go G y d (.inr (.inl "java/lang/ArithmeticException")) (h.1, (h.2.1.1 + 1, h.2.1.2 + 6), h.2.2) pc ls st h :=
  gv_throw (names := ["java/lang/RuntimeException", "java/lang/Exception"]) (w1 := 846) (w2 := 90) (by decide +kernel) (by decide +kernel) (by decide) (by rw [hc]; decide +kernel) (by decide +kernel) (by rw [hc]; exact tw_ARE) hhh hcat d0 d3 d4 d7
def xUOE : String := "java/lang/UnsupportedOperationException"
theorem tw_UOE : (Bundle.ownAtoms0 "GoalEngine" 86 "java/lang/UnsupportedOperationException" ["java/lang/RuntimeException", "java/lang/Exception"]).all gx_ok = true := by decide +kernel
theorem th_UOE {G : gv_G} {y : gv_M} {d : Nat} {h : gv_H} {pc : Nat} {ls : gv_L} {st : List gv_V} (hc : y.1.cls = "GoalEngine") (hhh : y.2.2.2.2.2.2.2.2.2.2 = []) (hcat : gv_cs st ≤ 8) (d0 : decode y.2.1 pc = .ok (.new 84, 3)) (d3 : decode y.2.1 (pc + 3) = .ok (.dup, 1)) (d4 : decode y.2.1 (pc + 4) = .ok (.invokespecial 86, 3)) (d7 : decode y.2.1 (pc + 7) = .ok (.athrow, 1)) :
    gv_go G y d (.inr (.inl "java/lang/UnsupportedOperationException")) (h.1, (h.2.1.1 + 1, h.2.1.2 + 6), h.2.2) pc ls st h :=
  gv_throw (names := ["java/lang/RuntimeException", "java/lang/Exception"]) (w1 := 861) (w2 := 91) (by decide +kernel) (by decide +kernel) (by decide) (by rw [hc]; decide +kernel) (by decide +kernel) (by rw [hc]; exact tw_UOE) hhh hcat d0 d3 d4 d7
def xIOB : String := "java/lang/IndexOutOfBoundsException"
theorem tw_IOB : (Bundle.ownAtoms0 "GoalEngine" 110 "java/lang/IndexOutOfBoundsException" ["java/lang/RuntimeException", "java/lang/Exception"]).all gx_ok = true := by decide +kernel
theorem th_IOB {G : gv_G} {y : gv_M} {d : Nat} {h : gv_H} {pc : Nat} {ls : gv_L} {st : List gv_V} (hc : y.1.cls = "GoalEngine") (hhh : y.2.2.2.2.2.2.2.2.2.2 = []) (hcat : gv_cs st ≤ 8) (d0 : decode y.2.1 pc = .ok (.new 108, 3)) (d3 : decode y.2.1 (pc + 3) = .ok (.dup, 1)) (d4 : decode y.2.1 (pc + 4) = .ok (.invokespecial 110, 3)) (d7 : decode y.2.1 (pc + 7) = .ok (.athrow, 1)) :
    gv_go G y d (.inr (.inl "java/lang/IndexOutOfBoundsException")) (h.1, (h.2.1.1 + 1, h.2.1.2 + 6), h.2.2) pc ls st h :=
  gv_throw (names := ["java/lang/RuntimeException", "java/lang/Exception"]) (w1 := 915) (w2 := 92) (by decide +kernel) (by decide +kernel) (by decide) (by rw [hc]; decide +kernel) (by decide +kernel) (by rw [hc]; exact tw_IOB) hhh hcat d0 d3 d4 d7
end THA
