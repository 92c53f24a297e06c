/-! simple methods of the class (written by wip/tools/genp.py) -/
section CSA
variable {G : gv_G} {d n g cap : Nat} {acc : Nat × Nat} {μ : Nat → Nat → Int32} {k x : Int32}
theorem e_takeTyped : gv_ev G (d + 0) M_GE_takeTyped [gR 1] (hp n acc g cap μ) (.inl (some (gI (μ 1 1)))) (hp n acc g cap (sI μ 1 1 0)) := by
  refine gv_E (ls := [some (gR 1), none]) (by decide) (fun h => by cases h) (Nat.le_of_ble_eq_true rfl) rfl ?_
  refine gv_B ok_GE_takeTyped 5 rfl ?_
  refine hp_pf ok_GE_takeTyped rfl rfl rfl rfl rfl (Nat.le_of_ble_eq_true rfl) rfl ?_
  refine gv_B ok_GE_takeTyped 1 rfl ?_
  exact gv_Ri ok_GE_takeTyped rfl rfl
theorem e_isQ0 : gv_ev G (d + 0) M_GE_isQuestion [gR 2, gI 0] (hp n acc g cap μ) (.inl (some (gI 0))) (hp n acc g cap μ) := by
  refine gv_E (ls := [some (gR 2), some (gI 0), none, none, none, none]) (by decide) (fun h => by cases h) (Nat.le_of_ble_eq_true rfl) rfl ?_
  refine gv_B ok_GE_isQuestion 10 rfl ?_
  exact gv_Rz ok_GE_isQuestion rfl rfl (by decide)
theorem e_isRule0 : gv_ev G (d + 1) M_GE_isRule [gR 2, gI 0] (hp n acc g cap μ) (.inl (some (gI 0))) (hp n acc g cap μ) := by
  refine gv_E (ls := [some (gR 2), some (gI 0)]) (by decide) (fun h => by cases h) (Nat.le_of_ble_eq_true rfl) rfl ?_
  refine gv_B ok_GE_isRule 2 rfl ?_
  refine gv_Sc ok_GE_isRule rfl mk_GE_isQuestion rfl (e_isQ0 (d := d)) rfl rfl (Nat.le_of_ble_eq_true rfl) ?_
  refine gv_B ok_GE_isRule 2 rfl ?_
  exact gv_Rz ok_GE_isRule rfl rfl (by decide)
theorem e_rule0 (h1 : ¬ 16 ≤ μ 3 1) (h2 : μ 37 11 = 0) (h3 : μ 1 1 = 0) : gv_ev G (d + 2) M_GE_rule [gR 1] (hp n acc g cap μ) (.inr (.inl "java/lang/IllegalArgumentException")) (hp n (acc.1 + 1, acc.2 + 6) g cap (sI μ 1 1 0)) := by
  refine gv_E (ls := [some (gR 1), none]) (by decide) (fun h => by cases h) (Nat.le_of_ble_eq_true rfl) rfl ?_
  refine gv_B ok_GE_rule 5 rfl ?_
  refine gv_brF h1 ?_
  refine gv_B ok_GE_rule 4 rfl ?_
  refine gv_brT h2 ?_
  refine gv_B ok_GE_rule 1 rfl ?_
  refine gv_Vc ok_GE_rule rfl mk_GE_takeTyped rfl (e_takeTyped (d := d + 1)) rfl rfl (Nat.le_of_ble_eq_true rfl) rfl rfl rfl ?_
  rw [h3]
  refine gv_B ok_GE_rule 4 rfl ?_
  refine gv_Sc ok_GE_rule rfl mk_GE_isRule rfl (e_isRule0 (d := d)) rfl rfl (Nat.le_of_ble_eq_true rfl) ?_
  refine gv_B ok_GE_rule 1 rfl ?_
  refine gv_pce (p2 := 46) (by decide) ?_
  exact th_IAE rfl rfl (Nat.le_of_ble_eq_true rfl) (by decide +kernel) (by decide +kernel) (by decide +kernel) (by decide +kernel)
theorem e_ask0 (h3 : μ 1 1 = 0) : gv_ev G (d + 1) M_GE_ask [gR 1] (hp n acc g cap μ) (.inr (.inl "java/lang/IllegalArgumentException")) (hp n (acc.1 + 1, acc.2 + 6) g cap (sI μ 1 1 0)) := by
  refine gv_E (ls := [some (gR 1), none]) (by decide) (fun h => by cases h) (Nat.le_of_ble_eq_true rfl) rfl ?_
  refine gv_B ok_GE_ask 1 rfl ?_
  refine gv_Vc ok_GE_ask rfl mk_GE_takeTyped rfl (e_takeTyped (d := d)) rfl rfl (Nat.le_of_ble_eq_true rfl) rfl rfl rfl ?_
  rw [h3]
  refine gv_B ok_GE_ask 4 rfl ?_
  refine gv_Sc ok_GE_ask rfl mk_GE_isQuestion rfl (e_isQ0 (d := d)) rfl rfl (Nat.le_of_ble_eq_true rfl) ?_
  refine gv_B ok_GE_ask 1 rfl ?_
  refine gv_pce (p2 := 16) (by decide) ?_
  exact th_IAE rfl rfl (Nat.le_of_ble_eq_true rfl) (by decide +kernel) (by decide +kernel) (by decide +kernel) (by decide +kernel)
theorem e_solveA (h1 : k < 1) : gv_ev G (d + 0) M_GE_solve [gR 1, gI k] (hp n acc g cap μ) (.inr (.inl "java/lang/IllegalArgumentException")) (hp n (acc.1 + 1, acc.2 + 6) g cap μ) := by
  refine gv_E (ls := [some (gR 1), some (gI k), none, none]) (by decide) (fun h => by cases h) (Nat.le_of_ble_eq_true rfl) rfl ?_
  refine gv_B ok_GE_solve 3 rfl ?_
  refine gv_brT h1 ?_
  exact th_IAE rfl rfl (Nat.le_of_ble_eq_true rfl) (by decide +kernel) (by decide +kernel) (by decide +kernel) (by decide +kernel)
theorem e_solveB (h1 : ¬ k < 1) (h2 : ¬ k ≤ 20) : gv_ev G (d + 0) M_GE_solve [gR 1, gI k] (hp n acc g cap μ) (.inr (.inl "java/lang/IllegalArgumentException")) (hp n (acc.1 + 1, acc.2 + 6) g cap μ) := by
  refine gv_E (ls := [some (gR 1), some (gI k), none, none]) (by decide) (fun h => by cases h) (Nat.le_of_ble_eq_true rfl) rfl ?_
  refine gv_B ok_GE_solve 3 rfl ?_
  refine gv_brF h1 ?_
  refine gv_B ok_GE_solve 3 rfl ?_
  refine gv_brF h2 ?_
  exact th_IAE rfl rfl (Nat.le_of_ble_eq_true rfl) (by decide +kernel) (by decide +kernel) (by decide +kernel) (by decide +kernel)
theorem e_solveS (h1 : ¬ k < 1) (h2 : k ≤ 20) (h3 : ¬ μ 37 11 = 1) : gv_ev G (d + 0) M_GE_solve [gR 1, gI k] (hp n acc g cap μ) (.inr (.inl "java/lang/IllegalStateException")) (hp n (acc.1 + 1, acc.2 + 6) g cap μ) := by
  refine gv_E (ls := [some (gR 1), some (gI k), none, none]) (by decide) (fun h => by cases h) (Nat.le_of_ble_eq_true rfl) rfl ?_
  refine gv_B ok_GE_solve 3 rfl ?_
  refine gv_brF h1 ?_
  refine gv_B ok_GE_solve 3 rfl ?_
  refine gv_brT h2 ?_
  refine gv_B ok_GE_solve 5 rfl ?_
  refine gv_brF h3 ?_
  exact th_ISE rfl rfl (Nat.le_of_ble_eq_true rfl) (by decide +kernel) (by decide +kernel) (by decide +kernel) (by decide +kernel)
theorem e_nextS (h1 : ¬ μ 37 11 = 2) : gv_ev G (d + 0) M_GE_next [gR 1] (hp n acc g cap μ) (.inr (.inl "java/lang/IllegalStateException")) (hp n (acc.1 + 1, acc.2 + 6) g cap μ) := by
  refine gv_E (ls := [some (gR 1)]) (by decide) (fun h => by cases h) (Nat.le_of_ble_eq_true rfl) rfl ?_
  refine gv_B ok_GE_next 5 rfl ?_
  refine gv_brF h1 ?_
  exact th_ISE rfl rfl (Nat.le_of_ble_eq_true rfl) (by decide +kernel) (by decide +kernel) (by decide +kernel) (by decide +kernel)
theorem e_stop : gv_ev G (d + 0) M_GE_stop [gR 1] (hp n acc g cap μ) (.inl none) (hp n acc g cap (sI μ 37 11 0)) := by
  refine gv_E (ls := [some (gR 1)]) (by decide) (fun h => by cases h) (Nat.le_of_ble_eq_true rfl) rfl ?_
  refine gv_B ok_GE_stop 3 rfl ?_
  refine hp_pf ok_GE_stop rfl rfl rfl rfl rfl (Nat.le_of_ble_eq_true rfl) rfl ?_
  exact gv_Rv ok_GE_stop rfl rfl
theorem e_collect0 (h1 : μ 37 11 = 0) : gv_ev G (d + 0) M_GE_collect [gR 1] (hp n acc g cap μ) (.inl (some (gI 0))) (hp n acc g cap μ) := by
  refine gv_E (ls := [some (gR 1)]) (by decide) (fun h => by cases h) (Nat.le_of_ble_eq_true rfl) rfl ?_
  refine gv_B ok_GE_collect 4 rfl ?_
  refine gv_brF (not_not_intro h1) ?_
  refine gv_B ok_GE_collect 2 rfl ?_
  exact gv_Ri ok_GE_collect rfl rfl
theorem e_cellsInUse0 (h1 : μ 37 11 = 0) : gv_ev G (d + 0) M_SE_cellsInUse [gR 37] (hp n acc g cap μ) (.inl (some (gI 0))) (hp n acc g cap μ) := by
  refine gv_E (ls := [some (gR 37)]) (by decide) (fun h => by cases h) (Nat.le_of_ble_eq_true rfl) rfl ?_
  refine gv_B ok_SE_cellsInUse 3 rfl ?_
  refine gv_brF (not_not_intro h1) ?_
  refine gv_B ok_SE_cellsInUse 2 rfl ?_
  exact gv_Ri ok_SE_cellsInUse rfl rfl
theorem e_choicesLeft0 (h1 : μ 37 11 = 0) : gv_ev G (d + 0) M_SE_choicesLeft [gR 37] (hp n acc g cap μ) (.inl (some (gI 0))) (hp n acc g cap μ) := by
  refine gv_E (ls := [some (gR 37)]) (by decide) (fun h => by cases h) (Nat.le_of_ble_eq_true rfl) rfl ?_
  refine gv_B ok_SE_choicesLeft 3 rfl ?_
  refine gv_brF (not_not_intro h1) ?_
  refine gv_B ok_SE_choicesLeft 2 rfl ?_
  exact gv_Ri ok_SE_choicesLeft rfl rfl
theorem e_goalsAtHand0 (h1 : μ 37 11 = 0) : gv_ev G (d + 0) M_SE_goalsAtHand [gR 37] (hp n acc g cap μ) (.inl (some (gI 0))) (hp n acc g cap μ) := by
  refine gv_E (ls := [some (gR 37)]) (by decide) (fun h => by cases h) (Nat.le_of_ble_eq_true rfl) rfl ?_
  refine gv_B ok_SE_goalsAtHand 3 rfl ?_
  refine gv_brF (not_not_intro h1) ?_
  refine gv_B ok_SE_goalsAtHand 2 rfl ?_
  exact gv_Ri ok_SE_goalsAtHand rfl rfl
theorem e_collections : gv_ev G (d + 0) M_SE_collections [gR 37] (hp n acc g cap μ) (.inl (some (gI (μ 64 5)))) (hp n acc g cap μ) := by
  refine gv_E (ls := [some (gR 37)]) (by decide) (fun h => by cases h) (Nat.le_of_ble_eq_true rfl) rfl ?_
  refine gv_B ok_SE_collections 3 rfl ?_
  exact gv_Ri ok_SE_collections rfl rfl
theorem e_answerLength0 (h1 : ¬ μ 37 11 = 2) : gv_ev G (d + 0) M_SE_answerLength [gR 37] (hp n acc g cap μ) (.inl (some (gI 0))) (hp n acc g cap μ) := by
  refine gv_E (ls := [some (gR 37)]) (by decide) (fun h => by cases h) (Nat.le_of_ble_eq_true rfl) rfl ?_
  refine gv_B ok_SE_answerLength 4 rfl ?_
  refine gv_brT h1 ?_
  refine gv_B ok_SE_answerLength 1 rfl ?_
  exact gv_Ri ok_SE_answerLength rfl rfl
theorem e_words0 (h1 : ¬ μ 37 11 = 2) : gv_ev G (d + 1) M_GE_words [gR 1] (hp n acc g cap μ) (.inl (some (gI 0))) (hp n acc g cap μ) := by
  refine gv_E (ls := [some (gR 1)]) (by decide) (fun h => by cases h) (Nat.le_of_ble_eq_true rfl) rfl ?_
  refine gv_B ok_GE_words 2 rfl ?_
  refine gv_Vc ok_GE_words rfl mk_SE_answerLength rfl (e_answerLength0 (d := d) h1) rfl rfl (Nat.le_of_ble_eq_true rfl) rfl rfl rfl ?_
  exact gv_Ri ok_GE_words rfl rfl
theorem e_wordN (h2 : x < 0) : gv_ev G (d + 0) M_GE_word [gR 1, gI x] (hp n acc g cap μ) (.inr (.inl "java/lang/IndexOutOfBoundsException")) (hp n (acc.1 + 1, acc.2 + 6) g cap μ) := by
  refine gv_E (ls := [some (gR 1), some (gI x)]) (by decide) (fun h => by cases h) (Nat.le_of_ble_eq_true rfl) rfl ?_
  refine gv_B ok_GE_word 2 rfl ?_
  refine gv_brT h2 ?_
  exact th_IOB rfl rfl (Nat.le_of_ble_eq_true rfl) (by decide +kernel) (by decide +kernel) (by decide +kernel) (by decide +kernel)
theorem e_word0 (h1 : ¬ μ 37 11 = 2) (h2 : ¬ x < 0) : gv_ev G (d + 1) M_GE_word [gR 1, gI x] (hp n acc g cap μ) (.inr (.inl "java/lang/IndexOutOfBoundsException")) (hp n (acc.1 + 1, acc.2 + 6) g cap μ) := by
  refine gv_E (ls := [some (gR 1), some (gI x)]) (by decide) (fun h => by cases h) (Nat.le_of_ble_eq_true rfl) rfl ?_
  refine gv_B ok_GE_word 2 rfl ?_
  refine gv_brF h2 ?_
  refine gv_B ok_GE_word 3 rfl ?_
  refine gv_Vc ok_GE_word rfl mk_SE_answerLength rfl (e_answerLength0 (d := d) h1) rfl rfl (Nat.le_of_ble_eq_true rfl) rfl rfl rfl ?_
  refine gv_B ok_GE_word 1 rfl ?_
  refine gv_brF h2 ?_
  exact th_IOB rfl rfl (Nat.le_of_ble_eq_true rfl) (by decide +kernel) (by decide +kernel) (by decide +kernel) (by decide +kernel)
theorem e_count0 (h1 : μ 37 11 = 0) : gv_ev G (d + 1) M_GE_count [gR 1, gI 0] (hp n acc g cap μ) (.inl (some (gI 0))) (hp n acc g cap μ) := by
  refine gv_E (ls := [some (gR 1), some (gI 0)]) (by decide) (fun h => by cases h) (Nat.le_of_ble_eq_true rfl) rfl ?_
  refine gv_B ok_GE_count 4 rfl ?_
  refine gv_Vc ok_GE_count rfl mk_SE_cellsInUse rfl (e_cellsInUse0 (d := d) h1) rfl rfl (Nat.le_of_ble_eq_true rfl) rfl rfl rfl ?_
  exact gv_Ri ok_GE_count rfl rfl
theorem e_count1 (h1 : μ 37 11 = 0) : gv_ev G (d + 1) M_GE_count [gR 1, gI 1] (hp n acc g cap μ) (.inl (some (gI 0))) (hp n acc g cap μ) := by
  refine gv_E (ls := [some (gR 1), some (gI 1)]) (by decide) (fun h => by cases h) (Nat.le_of_ble_eq_true rfl) rfl ?_
  refine gv_B ok_GE_count 4 rfl ?_
  refine gv_Vc ok_GE_count rfl mk_SE_choicesLeft rfl (e_choicesLeft0 (d := d) h1) rfl rfl (Nat.le_of_ble_eq_true rfl) rfl rfl rfl ?_
  exact gv_Ri ok_GE_count rfl rfl
theorem e_count2 (h1 : μ 37 11 = 0) : gv_ev G (d + 1) M_GE_count [gR 1, gI 2] (hp n acc g cap μ) (.inl (some (gI 0))) (hp n acc g cap μ) := by
  refine gv_E (ls := [some (gR 1), some (gI 2)]) (by decide) (fun h => by cases h) (Nat.le_of_ble_eq_true rfl) rfl ?_
  refine gv_B ok_GE_count 4 rfl ?_
  refine gv_Vc ok_GE_count rfl mk_SE_goalsAtHand rfl (e_goalsAtHand0 (d := d) h1) rfl rfl (Nat.le_of_ble_eq_true rfl) rfl rfl rfl ?_
  exact gv_Ri ok_GE_count rfl rfl
theorem e_count3 : gv_ev G (d + 1) M_GE_count [gR 1, gI 3] (hp n acc g cap μ) (.inl (some (gI (μ 37 12)))) (hp n acc g cap μ) := by
  refine gv_E (ls := [some (gR 1), some (gI 3)]) (by decide) (fun h => by cases h) (Nat.le_of_ble_eq_true rfl) rfl ?_
  refine gv_B ok_GE_count 5 rfl ?_
  exact gv_Ri ok_GE_count rfl rfl
theorem e_count4 : gv_ev G (d + 1) M_GE_count [gR 1, gI 4] (hp n acc g cap μ) (.inl (some (gI (μ 3 1)))) (hp n acc g cap μ) := by
  refine gv_E (ls := [some (gR 1), some (gI 4)]) (by decide) (fun h => by cases h) (Nat.le_of_ble_eq_true rfl) rfl ?_
  refine gv_B ok_GE_count 5 rfl ?_
  exact gv_Ri ok_GE_count rfl rfl
theorem e_count5 : gv_ev G (d + 1) M_GE_count [gR 1, gI 5] (hp n acc g cap μ) (.inl (some (gI (μ 1 1)))) (hp n acc g cap μ) := by
  refine gv_E (ls := [some (gR 1), some (gI 5)]) (by decide) (fun h => by cases h) (Nat.le_of_ble_eq_true rfl) rfl ?_
  refine gv_B ok_GE_count 4 rfl ?_
  exact gv_Ri ok_GE_count rfl rfl
theorem e_count6 : gv_ev G (d + 1) M_GE_count [gR 1, gI 6] (hp n acc g cap μ) (.inl (some (gI (μ 64 5)))) (hp n acc g cap μ) := by
  refine gv_E (ls := [some (gR 1), some (gI 6)]) (by decide) (fun h => by cases h) (Nat.le_of_ble_eq_true rfl) rfl ?_
  refine gv_B ok_GE_count 4 rfl ?_
  refine gv_Vc ok_GE_count rfl mk_SE_collections rfl (e_collections (d := d)) rfl rfl (Nat.le_of_ble_eq_true rfl) rfl rfl rfl ?_
  exact gv_Ri ok_GE_count rfl rfl
theorem e_countA (h1 : ∀ j : Nat, j < 7 → k ≠ nI j) : gv_ev G (d + 0) M_GE_count [gR 1, gI k] (hp n acc g cap μ) (.inr (.inl "java/lang/IllegalArgumentException")) (hp n (acc.1 + 1, acc.2 + 6) g cap μ) := by
  refine gv_E (ls := [some (gR 1), some (gI k)]) (by decide) (fun h => by cases h) (Nat.le_of_ble_eq_true rfl) rfl ?_
  refine gv_B ok_GE_count 2 rfl ?_
  refine gv_pce (p2 := 97) (gv_sw_none (tb := [(0, 44), (1, 52), (2, 60), (3, 68), (4, 76), (5, 84), (6, 89)]) (fun q hq e => by
    simp only [List.mem_cons, List.not_mem_nil, or_false] at hq
    rcases hq with rfl | rfl | rfl | rfl | rfl | rfl | rfl
    · exact h1 0 (by decide) e.symm
    · exact h1 1 (by decide) e.symm
    · exact h1 2 (by decide) e.symm
    · exact h1 3 (by decide) e.symm
    · exact h1 4 (by decide) e.symm
    · exact h1 5 (by decide) e.symm
    · exact h1 6 (by decide) e.symm)) ?_
  exact th_IAE rfl rfl (Nat.le_of_ble_eq_true rfl) (by decide +kernel) (by decide +kernel) (by decide +kernel) (by decide +kernel)
end CSA
