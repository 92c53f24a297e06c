/-! the law's own helpers, over what the class does (written by wip/tools/gen59.py) -/
section LGA
variable {G : gv_G} {d n g cap n1 g1 c1 : Nat} {acc ac1 : Nat × Nat} {μ μ1 : Mu} {w r : Int32}
theorem l_put_0 (hE : gv_ev G d M_GE_put [gR 1, gI w] (hp n acc g cap μ) (.inl (some (gI r))) (hp n1 ac1 g1 c1 μ1)) : gv_ev G (d + 1) M_LA_put [gR 1, gI w, gR 98] (hp n acc g cap μ) (.inl (some (gI 0))) (hp n1 ac1 g1 c1 (sI μ1 98 0 r)) := by
  refine gv_E (ls := [some (gR 1), some (gI w), some (gR 98), none]) (by decide) (fun h => by cases h) (Nat.le_of_ble_eq_true rfl) rfl ?_
  refine gv_B ok_LA_put 4 rfl ?_
  refine gv_Vc ok_LA_put rfl mk_GE_put rfl hE rfl rfl (Nat.le_of_ble_eq_true rfl) rfl rfl rfl ?_
  refine gv_B ok_LA_put 1 rfl ?_
  refine hp_out ok_LA_put rfl rfl ?_
  refine gv_B ok_LA_put 2 rfl ?_
  exact gv_Ri ok_LA_put rfl rfl
theorem l_put_1 (hE : gv_ev G d M_GE_put [gR 1, gI w] (hp n acc g cap μ) (.inr (.inl "java/lang/IllegalArgumentException")) (hp n1 ac1 g1 c1 μ1)) : gv_ev G (d + 1) M_LA_put [gR 1, gI w, gR 98] (hp n acc g cap μ) (.inr (.inr (some (some (gI 1))))) (hp n1 ac1 g1 c1 μ1) := by
  refine gv_E (ls := [some (gR 1), some (gI w), some (gR 98), none]) (by decide) (fun h => by cases h) (Nat.le_of_ble_eq_true rfl) rfl ?_
  refine gv_B ok_LA_put 4 rfl ?_
  refine gv_VX (wl := 540) (wc := 551) (nm := "java/lang/IllegalArgumentException") (q9 := 3) [] [(0, 9, 15, 15)] ok_LA_put rfl mk_GE_put rfl hE rfl rfl (Nat.le_of_ble_eq_true rfl) rfl rfl rfl rfl (fun z hz => nomatch hz) (by decide) (by decide) (by decide +kernel) (by decide +kernel) (by decide +kernel) rfl (by decide) (fun δ => ?_)
  refine gv_loose (hf := hp (n1 + δ) ac1 g1 c1 μ1) (Nat.le_add_right _ _) ?_
  refine gv_B ok_LA_put 1 rfl ?_
  exact gv_Ri ok_LA_put rfl rfl
theorem l_put_2 (hE : gv_ev G d M_GE_put [gR 1, gI w] (hp n acc g cap μ) (.inr (.inl "java/lang/IllegalStateException")) (hp n1 ac1 g1 c1 μ1)) : gv_ev G (d + 1) M_LA_put [gR 1, gI w, gR 98] (hp n acc g cap μ) (.inr (.inr (some (some (gI 2))))) (hp n1 ac1 g1 c1 μ1) := by
  refine gv_E (ls := [some (gR 1), some (gI w), some (gR 98), none]) (by decide) (fun h => by cases h) (Nat.le_of_ble_eq_true rfl) rfl ?_
  refine gv_B ok_LA_put 4 rfl ?_
  refine gv_VX (wl := 541) (wc := 616) (nm := "java/lang/IllegalStateException") (q9 := 3) [(0, 9, 12, 13)] [] ok_LA_put rfl mk_GE_put rfl hE rfl rfl (Nat.le_of_ble_eq_true rfl) rfl rfl rfl rfl (List.forall_mem_cons.mpr ⟨⟨by decide, 540, "java/lang/IllegalArgumentException", by decide +kernel, by decide⟩, (fun z hz => nomatch hz)⟩) (by decide) (by decide) (by decide +kernel) (by decide +kernel) (by decide +kernel) rfl (by decide) (fun δ => ?_)
  refine gv_loose (hf := hp (n1 + δ) ac1 g1 c1 μ1) (Nat.le_add_right _ _) ?_
  refine gv_B ok_LA_put 1 rfl ?_
  exact gv_Ri ok_LA_put rfl rfl
theorem l_rule_0 (hE : gv_ev G d M_GE_rule [gR 1] (hp n acc g cap μ) (.inl (some (gI r))) (hp n1 ac1 g1 c1 μ1)) : gv_ev G (d + 1) M_LA_rule [gR 1, gR 98] (hp n acc g cap μ) (.inl (some (gI 0))) (hp n1 ac1 g1 c1 (sI μ1 98 0 r)) := by
  refine gv_E (ls := [some (gR 1), some (gR 98), none]) (by decide) (fun h => by cases h) (Nat.le_of_ble_eq_true rfl) rfl ?_
  refine gv_B ok_LA_rule 3 rfl ?_
  refine gv_Vc ok_LA_rule rfl mk_GE_rule rfl hE rfl rfl (Nat.le_of_ble_eq_true rfl) rfl rfl rfl ?_
  refine gv_B ok_LA_rule 1 rfl ?_
  refine hp_out ok_LA_rule rfl rfl ?_
  refine gv_B ok_LA_rule 2 rfl ?_
  exact gv_Ri ok_LA_rule rfl rfl
theorem l_rule_1 (hE : gv_ev G d M_GE_rule [gR 1] (hp n acc g cap μ) (.inr (.inl "java/lang/IllegalStateException")) (hp n1 ac1 g1 c1 μ1)) : gv_ev G (d + 1) M_LA_rule [gR 1, gR 98] (hp n acc g cap μ) (.inr (.inr (some (some (gI 1))))) (hp n1 ac1 g1 c1 μ1) := by
  refine gv_E (ls := [some (gR 1), some (gR 98), none]) (by decide) (fun h => by cases h) (Nat.le_of_ble_eq_true rfl) rfl ?_
  refine gv_B ok_LA_rule 3 rfl ?_
  refine gv_VX (wl := 541) (wc := 616) (nm := "java/lang/IllegalStateException") (q9 := 2) [] [(0, 8, 14, 13)] ok_LA_rule rfl mk_GE_rule rfl hE rfl rfl (Nat.le_of_ble_eq_true rfl) rfl rfl rfl rfl (fun z hz => nomatch hz) (by decide) (by decide) (by decide +kernel) (by decide +kernel) (by decide +kernel) rfl (by decide) (fun δ => ?_)
  refine gv_loose (hf := hp (n1 + δ) ac1 g1 c1 μ1) (Nat.le_add_right _ _) ?_
  refine gv_B ok_LA_rule 1 rfl ?_
  exact gv_Ri ok_LA_rule rfl rfl
theorem l_rule_2 (hE : gv_ev G d M_GE_rule [gR 1] (hp n acc g cap μ) (.inr (.inl "java/lang/IllegalArgumentException")) (hp n1 ac1 g1 c1 μ1)) : gv_ev G (d + 1) M_LA_rule [gR 1, gR 98] (hp n acc g cap μ) (.inr (.inr (some (some (gI 2))))) (hp n1 ac1 g1 c1 μ1) := by
  refine gv_E (ls := [some (gR 1), some (gR 98), none]) (by decide) (fun h => by cases h) (Nat.le_of_ble_eq_true rfl) rfl ?_
  refine gv_B ok_LA_rule 3 rfl ?_
  refine gv_VX (wl := 540) (wc := 551) (nm := "java/lang/IllegalArgumentException") (q9 := 2) [(0, 8, 11, 15)] [] ok_LA_rule rfl mk_GE_rule rfl hE rfl rfl (Nat.le_of_ble_eq_true rfl) rfl rfl rfl rfl (List.forall_mem_cons.mpr ⟨⟨by decide, 541, "java/lang/IllegalStateException", by decide +kernel, by decide⟩, (fun z hz => nomatch hz)⟩) (by decide) (by decide) (by decide +kernel) (by decide +kernel) (by decide +kernel) rfl (by decide) (fun δ => ?_)
  refine gv_loose (hf := hp (n1 + δ) ac1 g1 c1 μ1) (Nat.le_add_right _ _) ?_
  refine gv_B ok_LA_rule 1 rfl ?_
  exact gv_Ri ok_LA_rule rfl rfl
theorem l_ask_0 (hE : gv_ev G d M_GE_ask [gR 1] (hp n acc g cap μ) (.inl (some (gI r))) (hp n1 ac1 g1 c1 μ1)) : gv_ev G (d + 1) M_LA_ask [gR 1, gR 98] (hp n acc g cap μ) (.inl (some (gI 0))) (hp n1 ac1 g1 c1 (sI μ1 98 0 r)) := by
  refine gv_E (ls := [some (gR 1), some (gR 98), none]) (by decide) (fun h => by cases h) (Nat.le_of_ble_eq_true rfl) rfl ?_
  refine gv_B ok_LA_ask 3 rfl ?_
  refine gv_Vc ok_LA_ask rfl mk_GE_ask rfl hE rfl rfl (Nat.le_of_ble_eq_true rfl) rfl rfl rfl ?_
  refine gv_B ok_LA_ask 1 rfl ?_
  refine hp_out ok_LA_ask rfl rfl ?_
  refine gv_B ok_LA_ask 2 rfl ?_
  exact gv_Ri ok_LA_ask rfl rfl
theorem l_ask_1 (hE : gv_ev G d M_GE_ask [gR 1] (hp n acc g cap μ) (.inr (.inl "java/lang/IllegalArgumentException")) (hp n1 ac1 g1 c1 μ1)) : gv_ev G (d + 1) M_LA_ask [gR 1, gR 98] (hp n acc g cap μ) (.inr (.inr (some (some (gI 1))))) (hp n1 ac1 g1 c1 μ1) := by
  refine gv_E (ls := [some (gR 1), some (gR 98), none]) (by decide) (fun h => by cases h) (Nat.le_of_ble_eq_true rfl) rfl ?_
  refine gv_B ok_LA_ask 3 rfl ?_
  refine gv_VX (wl := 540) (wc := 551) (nm := "java/lang/IllegalArgumentException") (q9 := 2) [] [] ok_LA_ask rfl mk_GE_ask rfl hE rfl rfl (Nat.le_of_ble_eq_true rfl) rfl rfl rfl rfl (fun z hz => nomatch hz) (by decide) (by decide) (by decide +kernel) (by decide +kernel) (by decide +kernel) rfl (by decide) (fun δ => ?_)
  refine gv_loose (hf := hp (n1 + δ) ac1 g1 c1 μ1) (Nat.le_add_right _ _) ?_
  refine gv_B ok_LA_ask 1 rfl ?_
  exact gv_Ri ok_LA_ask rfl rfl
theorem l_solve_0 (hE : gv_ev G d M_GE_solve [gR 1, gI w] (hp n acc g cap μ) (.inl (some (gI r))) (hp n1 ac1 g1 c1 μ1)) : gv_ev G (d + 1) M_LA_solve [gR 1, gI w, gR 98] (hp n acc g cap μ) (.inl (some (gI 0))) (hp n1 ac1 g1 c1 (sI μ1 98 0 r)) := by
  refine gv_E (ls := [some (gR 1), some (gI w), some (gR 98), none]) (by decide) (fun h => by cases h) (Nat.le_of_ble_eq_true rfl) rfl ?_
  refine gv_B ok_LA_solve 4 rfl ?_
  refine gv_Vc ok_LA_solve rfl mk_GE_solve rfl hE rfl rfl (Nat.le_of_ble_eq_true rfl) rfl rfl rfl ?_
  refine gv_B ok_LA_solve 1 rfl ?_
  refine hp_out ok_LA_solve rfl rfl ?_
  refine gv_B ok_LA_solve 2 rfl ?_
  exact gv_Ri ok_LA_solve rfl rfl
theorem l_solve_1 (hE : gv_ev G d M_GE_solve [gR 1, gI w] (hp n acc g cap μ) (.inr (.inl "java/lang/IllegalArgumentException")) (hp n1 ac1 g1 c1 μ1)) : gv_ev G (d + 1) M_LA_solve [gR 1, gI w, gR 98] (hp n acc g cap μ) (.inr (.inr (some (some (gI 1))))) (hp n1 ac1 g1 c1 μ1) := by
  refine gv_E (ls := [some (gR 1), some (gI w), some (gR 98), none]) (by decide) (fun h => by cases h) (Nat.le_of_ble_eq_true rfl) rfl ?_
  refine gv_B ok_LA_solve 4 rfl ?_
  refine gv_VX (wl := 540) (wc := 551) (nm := "java/lang/IllegalArgumentException") (q9 := 3) [] [(0, 9, 15, 15), (0, 9, 18, 27), (0, 9, 21, 29)] ok_LA_solve rfl mk_GE_solve rfl hE rfl rfl (Nat.le_of_ble_eq_true rfl) rfl rfl rfl rfl (fun z hz => nomatch hz) (by decide) (by decide) (by decide +kernel) (by decide +kernel) (by decide +kernel) rfl (by decide) (fun δ => ?_)
  refine gv_loose (hf := hp (n1 + δ) ac1 g1 c1 μ1) (Nat.le_add_right _ _) ?_
  refine gv_B ok_LA_solve 1 rfl ?_
  exact gv_Ri ok_LA_solve rfl rfl
theorem l_solve_2 (hE : gv_ev G d M_GE_solve [gR 1, gI w] (hp n acc g cap μ) (.inr (.inl "java/lang/IllegalStateException")) (hp n1 ac1 g1 c1 μ1)) : gv_ev G (d + 1) M_LA_solve [gR 1, gI w, gR 98] (hp n acc g cap μ) (.inr (.inr (some (some (gI 2))))) (hp n1 ac1 g1 c1 μ1) := by
  refine gv_E (ls := [some (gR 1), some (gI w), some (gR 98), none]) (by decide) (fun h => by cases h) (Nat.le_of_ble_eq_true rfl) rfl ?_
  refine gv_B ok_LA_solve 4 rfl ?_
  refine gv_VX (wl := 541) (wc := 616) (nm := "java/lang/IllegalStateException") (q9 := 3) [(0, 9, 12, 13)] [(0, 9, 18, 27), (0, 9, 21, 29)] ok_LA_solve rfl mk_GE_solve rfl hE rfl rfl (Nat.le_of_ble_eq_true rfl) rfl rfl rfl rfl (List.forall_mem_cons.mpr ⟨⟨by decide, 540, "java/lang/IllegalArgumentException", by decide +kernel, by decide⟩, (fun z hz => nomatch hz)⟩) (by decide) (by decide) (by decide +kernel) (by decide +kernel) (by decide +kernel) rfl (by decide) (fun δ => ?_)
  refine gv_loose (hf := hp (n1 + δ) ac1 g1 c1 μ1) (Nat.le_add_right _ _) ?_
  refine gv_B ok_LA_solve 1 rfl ?_
  exact gv_Ri ok_LA_solve rfl rfl
theorem l_solve_3 (hE : gv_ev G d M_GE_solve [gR 1, gI w] (hp n acc g cap μ) (.inr (.inl "java/lang/ArithmeticException")) (hp n1 ac1 g1 c1 μ1)) : gv_ev G (d + 1) M_LA_solve [gR 1, gI w, gR 98] (hp n acc g cap μ) (.inr (.inr (some (some (gI 3))))) (hp n1 ac1 g1 c1 μ1) := by
  refine gv_E (ls := [some (gR 1), some (gI w), some (gR 98), none]) (by decide) (fun h => by cases h) (Nat.le_of_ble_eq_true rfl) rfl ?_
  refine gv_B ok_LA_solve 4 rfl ?_
  refine gv_VX (wl := 737) (wc := 848) (nm := "java/lang/ArithmeticException") (q9 := 3) [(0, 9, 12, 13), (0, 9, 15, 15)] [(0, 9, 21, 29)] ok_LA_solve rfl mk_GE_solve rfl hE rfl rfl (Nat.le_of_ble_eq_true rfl) rfl rfl rfl rfl (List.forall_mem_cons.mpr ⟨⟨by decide, 540, "java/lang/IllegalArgumentException", by decide +kernel, by decide⟩, (List.forall_mem_cons.mpr ⟨⟨by decide, 541, "java/lang/IllegalStateException", by decide +kernel, by decide⟩, (fun z hz => nomatch hz)⟩)⟩) (by decide) (by decide) (by decide +kernel) (by decide +kernel) (by decide +kernel) rfl (by decide) (fun δ => ?_)
  refine gv_loose (hf := hp (n1 + δ) ac1 g1 c1 μ1) (Nat.le_add_right _ _) ?_
  refine gv_B ok_LA_solve 1 rfl ?_
  exact gv_Ri ok_LA_solve rfl rfl
theorem l_solve_4 (hE : gv_ev G d M_GE_solve [gR 1, gI w] (hp n acc g cap μ) (.inr (.inl "java/lang/UnsupportedOperationException")) (hp n1 ac1 g1 c1 μ1)) : gv_ev G (d + 1) M_LA_solve [gR 1, gI w, gR 98] (hp n acc g cap μ) (.inr (.inr (some (some (gI 4))))) (hp n1 ac1 g1 c1 μ1) := by
  refine gv_E (ls := [some (gR 1), some (gI w), some (gR 98), none]) (by decide) (fun h => by cases h) (Nat.le_of_ble_eq_true rfl) rfl ?_
  refine gv_B ok_LA_solve 4 rfl ?_
  refine gv_VX (wl := 738) (wc := 863) (nm := "java/lang/UnsupportedOperationException") (q9 := 3) [(0, 9, 12, 13), (0, 9, 15, 15), (0, 9, 18, 27)] [] ok_LA_solve rfl mk_GE_solve rfl hE rfl rfl (Nat.le_of_ble_eq_true rfl) rfl rfl rfl rfl (List.forall_mem_cons.mpr ⟨⟨by decide, 540, "java/lang/IllegalArgumentException", by decide +kernel, by decide⟩, (List.forall_mem_cons.mpr ⟨⟨by decide, 541, "java/lang/IllegalStateException", by decide +kernel, by decide⟩, (List.forall_mem_cons.mpr ⟨⟨by decide, 737, "java/lang/ArithmeticException", by decide +kernel, by decide⟩, (fun z hz => nomatch hz)⟩)⟩)⟩) (by decide) (by decide) (by decide +kernel) (by decide +kernel) (by decide +kernel) rfl (by decide) (fun δ => ?_)
  refine gv_loose (hf := hp (n1 + δ) ac1 g1 c1 μ1) (Nat.le_add_right _ _) ?_
  refine gv_B ok_LA_solve 1 rfl ?_
  exact gv_Ri ok_LA_solve rfl rfl
theorem l_next_0 (hr : r = 0 ∨ r = 1) (hE : gv_ev G d M_GE_next [gR 1] (hp n acc g cap μ) (.inl (some (gI r))) (hp n1 ac1 g1 c1 μ1)) : gv_ev G (d + 1) M_LA_next [gR 1, gR 98] (hp n acc g cap μ) (.inl (some (gI 0))) (hp n1 ac1 g1 c1 (sI μ1 98 0 r)) := by
  refine gv_E (ls := [some (gR 1), some (gR 98), none]) (by decide) (fun h => by cases h) (Nat.le_of_ble_eq_true rfl) rfl ?_
  refine gv_B ok_LA_next 3 rfl ?_
  refine gv_Vc ok_LA_next rfl mk_GE_next rfl hE rfl rfl (Nat.le_of_ble_eq_true rfl) rfl rfl rfl ?_
  rcases hr with hr | hr
  · subst hr
    refine gv_B ok_LA_next 2 rfl ?_
    refine hp_out (z := 0) ok_LA_next rfl rfl ?_
    refine gv_B ok_LA_next 2 rfl ?_
    exact gv_Ri ok_LA_next rfl rfl
  · subst hr
    refine gv_B ok_LA_next 3 rfl ?_
    refine hp_out (z := 1) ok_LA_next rfl rfl ?_
    refine gv_B ok_LA_next 2 rfl ?_
    exact gv_Ri ok_LA_next rfl rfl
theorem l_next_1 (hE : gv_ev G d M_GE_next [gR 1] (hp n acc g cap μ) (.inr (.inl "java/lang/IllegalStateException")) (hp n1 ac1 g1 c1 μ1)) : gv_ev G (d + 1) M_LA_next [gR 1, gR 98] (hp n acc g cap μ) (.inr (.inr (some (some (gI 1))))) (hp n1 ac1 g1 c1 μ1) := by
  refine gv_E (ls := [some (gR 1), some (gR 98), none]) (by decide) (fun h => by cases h) (Nat.le_of_ble_eq_true rfl) rfl ?_
  refine gv_B ok_LA_next 3 rfl ?_
  refine gv_VX (wl := 541) (wc := 616) (nm := "java/lang/IllegalStateException") (q9 := 2) [] [] ok_LA_next rfl mk_GE_next rfl hE rfl rfl (Nat.le_of_ble_eq_true rfl) rfl rfl rfl rfl (fun z hz => nomatch hz) (by decide) (by decide) (by decide +kernel) (by decide +kernel) (by decide +kernel) rfl (by decide) (fun δ => ?_)
  refine gv_loose (hf := hp (n1 + δ) ac1 g1 c1 μ1) (Nat.le_add_right _ _) ?_
  refine gv_B ok_LA_next 1 rfl ?_
  exact gv_Ri ok_LA_next rfl rfl
theorem l_count_0 (hE : gv_ev G d M_GE_count [gR 1, gI w] (hp n acc g cap μ) (.inl (some (gI r))) (hp n1 ac1 g1 c1 μ1)) : gv_ev G (d + 1) M_LA_count [gR 1, gI w, gR 98] (hp n acc g cap μ) (.inl (some (gI 0))) (hp n1 ac1 g1 c1 (sI μ1 98 0 r)) := by
  refine gv_E (ls := [some (gR 1), some (gI w), some (gR 98), none]) (by decide) (fun h => by cases h) (Nat.le_of_ble_eq_true rfl) rfl ?_
  refine gv_B ok_LA_count 4 rfl ?_
  refine gv_Vc ok_LA_count rfl mk_GE_count rfl hE rfl rfl (Nat.le_of_ble_eq_true rfl) rfl rfl rfl ?_
  refine gv_B ok_LA_count 1 rfl ?_
  refine hp_out ok_LA_count rfl rfl ?_
  refine gv_B ok_LA_count 2 rfl ?_
  exact gv_Ri ok_LA_count rfl rfl
theorem l_count_1 (hE : gv_ev G d M_GE_count [gR 1, gI w] (hp n acc g cap μ) (.inr (.inl "java/lang/IllegalArgumentException")) (hp n1 ac1 g1 c1 μ1)) : gv_ev G (d + 1) M_LA_count [gR 1, gI w, gR 98] (hp n acc g cap μ) (.inr (.inr (some (some (gI 1))))) (hp n1 ac1 g1 c1 μ1) := by
  refine gv_E (ls := [some (gR 1), some (gI w), some (gR 98), none]) (by decide) (fun h => by cases h) (Nat.le_of_ble_eq_true rfl) rfl ?_
  refine gv_B ok_LA_count 4 rfl ?_
  refine gv_VX (wl := 540) (wc := 551) (nm := "java/lang/IllegalArgumentException") (q9 := 3) [] [] ok_LA_count rfl mk_GE_count rfl hE rfl rfl (Nat.le_of_ble_eq_true rfl) rfl rfl rfl rfl (fun z hz => nomatch hz) (by decide) (by decide) (by decide +kernel) (by decide +kernel) (by decide +kernel) rfl (by decide) (fun δ => ?_)
  refine gv_loose (hf := hp (n1 + δ) ac1 g1 c1 μ1) (Nat.le_add_right _ _) ?_
  refine gv_B ok_LA_count 1 rfl ?_
  exact gv_Ri ok_LA_count rfl rfl
theorem l_word_0 (hE : gv_ev G d M_GE_word [gR 1, gI w] (hp n acc g cap μ) (.inl (some (gI r))) (hp n1 ac1 g1 c1 μ1)) : gv_ev G (d + 1) M_LA_word [gR 1, gI w, gR 98] (hp n acc g cap μ) (.inl (some (gI 0))) (hp n1 ac1 g1 c1 (sI μ1 98 0 r)) := by
  refine gv_E (ls := [some (gR 1), some (gI w), some (gR 98), none]) (by decide) (fun h => by cases h) (Nat.le_of_ble_eq_true rfl) rfl ?_
  refine gv_B ok_LA_word 4 rfl ?_
  refine gv_Vc ok_LA_word rfl mk_GE_word rfl hE rfl rfl (Nat.le_of_ble_eq_true rfl) rfl rfl rfl ?_
  refine gv_B ok_LA_word 1 rfl ?_
  refine hp_out ok_LA_word rfl rfl ?_
  refine gv_B ok_LA_word 2 rfl ?_
  exact gv_Ri ok_LA_word rfl rfl
theorem l_word_1 (hE : gv_ev G d M_GE_word [gR 1, gI w] (hp n acc g cap μ) (.inr (.inl "java/lang/IndexOutOfBoundsException")) (hp n1 ac1 g1 c1 μ1)) : gv_ev G (d + 1) M_LA_word [gR 1, gI w, gR 98] (hp n acc g cap μ) (.inr (.inr (some (some (gI 1))))) (hp n1 ac1 g1 c1 μ1) := by
  refine gv_E (ls := [some (gR 1), some (gI w), some (gR 98), none]) (by decide) (fun h => by cases h) (Nat.le_of_ble_eq_true rfl) rfl ?_
  refine gv_B ok_LA_word 4 rfl ?_
  refine gv_VX (wl := 910) (wc := 917) (nm := "java/lang/IndexOutOfBoundsException") (q9 := 3) [] [] ok_LA_word rfl mk_GE_word rfl hE rfl rfl (Nat.le_of_ble_eq_true rfl) rfl rfl rfl rfl (fun z hz => nomatch hz) (by decide) (by decide) (by decide +kernel) (by decide +kernel) (by decide +kernel) rfl (by decide) (fun δ => ?_)
  refine gv_loose (hf := hp (n1 + δ) ac1 g1 c1 μ1) (Nat.le_add_right _ _) ?_
  refine gv_B ok_LA_word 1 rfl ?_
  exact gv_Ri ok_LA_word rfl rfl
end LGA
