/-! the law's own helpers (written by wip/tools/genq.py) -/
section LHA
variable {G : gv_G} {d n g cap : Nat} {acc : Nat × Nat} {μ : Nat → Nat → Int32} {k x : Int32}
theorem l_rule0 (h1 : ¬ 16 ≤ μ 3 1) (h2 : μ 37 11 = 0) (h3 : μ 1 1 = 0) : gv_ev G (d + 3) M_LA_rule [gR 1, gR 98] (hp n acc g cap μ) (.inr (.inr (some (some (gI 2))))) (hp n (acc.1 + 1, acc.2 + 6) g cap (sI μ 1 1 0)) := by
  refine gv_E (ls := [some (gR 1), some (gR 98), none]) (by decide) (fun h => by cases h) (Nat.le_of_ble_eq_true rfl) rfl ?_
  refine gv_B ok_LA_rule 3 rfl ?_
  refine gv_VX (wl := 540) (wc := 551) (nm := "java/lang/IllegalArgumentException") (q9 := 2) [(0, 8, 11, 15)] [] ok_LA_rule rfl mk_GE_rule rfl (e_rule0 (d := d) h1 h2 h3) rfl rfl (Nat.le_of_ble_eq_true rfl) rfl rfl rfl rfl (List.forall_mem_cons.mpr ⟨⟨by decide, 541, "java/lang/IllegalStateException", by decide +kernel, by decide⟩, (fun z hz => nomatch hz)⟩) (by decide) (by decide) (by decide +kernel) (by decide +kernel) (by decide +kernel) rfl (by decide) (fun δ => ?_)
  refine gv_loose (hf := hp (n + δ) (acc.1 + 1, acc.2 + 6) g cap (sI μ 1 1 0)) (Nat.le_add_right _ _) ?_
  refine gv_B ok_LA_rule 1 rfl ?_
  exact gv_Ri ok_LA_rule rfl rfl
theorem l_ask0 (h3 : μ 1 1 = 0) : gv_ev G (d + 2) M_LA_ask [gR 1, gR 98] (hp n acc g cap μ) (.inr (.inr (some (some (gI 1))))) (hp n (acc.1 + 1, acc.2 + 6) g cap (sI μ 1 1 0)) := by
  refine gv_E (ls := [some (gR 1), some (gR 98), none]) (by decide) (fun h => by cases h) (Nat.le_of_ble_eq_true rfl) rfl ?_
  refine gv_B ok_LA_ask 3 rfl ?_
  refine gv_VX (wl := 540) (wc := 551) (nm := "java/lang/IllegalArgumentException") (q9 := 2) [] [] ok_LA_ask rfl mk_GE_ask rfl (e_ask0 (d := d) h3) rfl rfl (Nat.le_of_ble_eq_true rfl) rfl rfl rfl rfl (fun z hz => nomatch hz) (by decide) (by decide) (by decide +kernel) (by decide +kernel) (by decide +kernel) rfl (by decide) (fun δ => ?_)
  refine gv_loose (hf := hp (n + δ) (acc.1 + 1, acc.2 + 6) g cap (sI μ 1 1 0)) (Nat.le_add_right _ _) ?_
  refine gv_B ok_LA_ask 1 rfl ?_
  exact gv_Ri ok_LA_ask rfl rfl
theorem l_solveA (h1 : k < 1) : gv_ev G (d + 1) M_LA_solve [gR 1, gI k, gR 98] (hp n acc g cap μ) (.inr (.inr (some (some (gI 1))))) (hp n (acc.1 + 1, acc.2 + 6) g cap μ) := by
  refine gv_E (ls := [some (gR 1), some (gI k), some (gR 98), none]) (by decide) (fun h => by cases h) (Nat.le_of_ble_eq_true rfl) rfl ?_
  refine gv_B ok_LA_solve 4 rfl ?_
  refine gv_VX (wl := 540) (wc := 551) (nm := "java/lang/IllegalArgumentException") (q9 := 3) [] [(0, 9, 15, 15), (0, 9, 18, 27), (0, 9, 21, 29)] ok_LA_solve rfl mk_GE_solve rfl (e_solveA (d := d) h1) rfl rfl (Nat.le_of_ble_eq_true rfl) rfl rfl rfl rfl (fun z hz => nomatch hz) (by decide) (by decide) (by decide +kernel) (by decide +kernel) (by decide +kernel) rfl (by decide) (fun δ => ?_)
  refine gv_loose (hf := hp (n + δ) (acc.1 + 1, acc.2 + 6) g cap μ) (Nat.le_add_right _ _) ?_
  refine gv_B ok_LA_solve 1 rfl ?_
  exact gv_Ri ok_LA_solve rfl rfl
theorem l_solveB (h1 : ¬ k < 1) (h2 : ¬ k ≤ 20) : gv_ev G (d + 1) M_LA_solve [gR 1, gI k, gR 98] (hp n acc g cap μ) (.inr (.inr (some (some (gI 1))))) (hp n (acc.1 + 1, acc.2 + 6) g cap μ) := by
  refine gv_E (ls := [some (gR 1), some (gI k), some (gR 98), none]) (by decide) (fun h => by cases h) (Nat.le_of_ble_eq_true rfl) rfl ?_
  refine gv_B ok_LA_solve 4 rfl ?_
  refine gv_VX (wl := 540) (wc := 551) (nm := "java/lang/IllegalArgumentException") (q9 := 3) [] [(0, 9, 15, 15), (0, 9, 18, 27), (0, 9, 21, 29)] ok_LA_solve rfl mk_GE_solve rfl (e_solveB (d := d) h1 h2) rfl rfl (Nat.le_of_ble_eq_true rfl) rfl rfl rfl rfl (fun z hz => nomatch hz) (by decide) (by decide) (by decide +kernel) (by decide +kernel) (by decide +kernel) rfl (by decide) (fun δ => ?_)
  refine gv_loose (hf := hp (n + δ) (acc.1 + 1, acc.2 + 6) g cap μ) (Nat.le_add_right _ _) ?_
  refine gv_B ok_LA_solve 1 rfl ?_
  exact gv_Ri ok_LA_solve rfl rfl
theorem l_solveS (h1 : ¬ k < 1) (h2 : k ≤ 20) (h3 : ¬ μ 37 11 = 1) : gv_ev G (d + 1) M_LA_solve [gR 1, gI k, gR 98] (hp n acc g cap μ) (.inr (.inr (some (some (gI 2))))) (hp n (acc.1 + 1, acc.2 + 6) g cap μ) := by
  refine gv_E (ls := [some (gR 1), some (gI k), some (gR 98), none]) (by decide) (fun h => by cases h) (Nat.le_of_ble_eq_true rfl) rfl ?_
  refine gv_B ok_LA_solve 4 rfl ?_
  refine gv_VX (wl := 541) (wc := 616) (nm := "java/lang/IllegalStateException") (q9 := 3) [(0, 9, 12, 13)] [(0, 9, 18, 27), (0, 9, 21, 29)] ok_LA_solve rfl mk_GE_solve rfl (e_solveS (d := d) h1 h2 h3) rfl rfl (Nat.le_of_ble_eq_true rfl) rfl rfl rfl rfl (List.forall_mem_cons.mpr ⟨⟨by decide, 540, "java/lang/IllegalArgumentException", by decide +kernel, by decide⟩, (fun z hz => nomatch hz)⟩) (by decide) (by decide) (by decide +kernel) (by decide +kernel) (by decide +kernel) rfl (by decide) (fun δ => ?_)
  refine gv_loose (hf := hp (n + δ) (acc.1 + 1, acc.2 + 6) g cap μ) (Nat.le_add_right _ _) ?_
  refine gv_B ok_LA_solve 1 rfl ?_
  exact gv_Ri ok_LA_solve rfl rfl
theorem l_nextS (h1 : ¬ μ 37 11 = 2) : gv_ev G (d + 1) M_LA_next [gR 1, gR 98] (hp n acc g cap μ) (.inr (.inr (some (some (gI 1))))) (hp n (acc.1 + 1, acc.2 + 6) g cap μ) := by
  refine gv_E (ls := [some (gR 1), some (gR 98), none]) (by decide) (fun h => by cases h) (Nat.le_of_ble_eq_true rfl) rfl ?_
  refine gv_B ok_LA_next 3 rfl ?_
  refine gv_VX (wl := 541) (wc := 616) (nm := "java/lang/IllegalStateException") (q9 := 2) [] [] ok_LA_next rfl mk_GE_next rfl (e_nextS (d := d) h1) rfl rfl (Nat.le_of_ble_eq_true rfl) rfl rfl rfl rfl (fun z hz => nomatch hz) (by decide) (by decide) (by decide +kernel) (by decide +kernel) (by decide +kernel) rfl (by decide) (fun δ => ?_)
  refine gv_loose (hf := hp (n + δ) (acc.1 + 1, acc.2 + 6) g cap μ) (Nat.le_add_right _ _) ?_
  refine gv_B ok_LA_next 1 rfl ?_
  exact gv_Ri ok_LA_next rfl rfl
theorem l_countA (h1 : ∀ j : Nat, j < 7 → k ≠ nI j) : gv_ev G (d + 1) M_LA_count [gR 1, gI k, gR 98] (hp n acc g cap μ) (.inr (.inr (some (some (gI 1))))) (hp n (acc.1 + 1, acc.2 + 6) g cap μ) := by
  refine gv_E (ls := [some (gR 1), some (gI k), some (gR 98), none]) (by decide) (fun h => by cases h) (Nat.le_of_ble_eq_true rfl) rfl ?_
  refine gv_B ok_LA_count 4 rfl ?_
  refine gv_VX (wl := 540) (wc := 551) (nm := "java/lang/IllegalArgumentException") (q9 := 3) [] [] ok_LA_count rfl mk_GE_count rfl (e_countA (d := d) h1) rfl rfl (Nat.le_of_ble_eq_true rfl) rfl rfl rfl rfl (fun z hz => nomatch hz) (by decide) (by decide) (by decide +kernel) (by decide +kernel) (by decide +kernel) rfl (by decide) (fun δ => ?_)
  refine gv_loose (hf := hp (n + δ) (acc.1 + 1, acc.2 + 6) g cap μ) (Nat.le_add_right _ _) ?_
  refine gv_B ok_LA_count 1 rfl ?_
  exact gv_Ri ok_LA_count rfl rfl
theorem l_wordN (h2 : x < 0) : gv_ev G (d + 1) M_LA_word [gR 1, gI x, gR 98] (hp n acc g cap μ) (.inr (.inr (some (some (gI 1))))) (hp n (acc.1 + 1, acc.2 + 6) g cap μ) := by
  refine gv_E (ls := [some (gR 1), some (gI x), some (gR 98), none]) (by decide) (fun h => by cases h) (Nat.le_of_ble_eq_true rfl) rfl ?_
  refine gv_B ok_LA_word 4 rfl ?_
  refine gv_VX (wl := 910) (wc := 917) (nm := "java/lang/IndexOutOfBoundsException") (q9 := 3) [] [] ok_LA_word rfl mk_GE_word rfl (e_wordN (d := d) h2) rfl rfl (Nat.le_of_ble_eq_true rfl) rfl rfl rfl rfl (fun z hz => nomatch hz) (by decide) (by decide) (by decide +kernel) (by decide +kernel) (by decide +kernel) rfl (by decide) (fun δ => ?_)
  refine gv_loose (hf := hp (n + δ) (acc.1 + 1, acc.2 + 6) g cap μ) (Nat.le_add_right _ _) ?_
  refine gv_B ok_LA_word 1 rfl ?_
  exact gv_Ri ok_LA_word rfl rfl
theorem l_word0 (h1 : ¬ μ 37 11 = 2) (h2 : ¬ x < 0) : gv_ev G (d + 2) M_LA_word [gR 1, gI x, gR 98] (hp n acc g cap μ) (.inr (.inr (some (some (gI 1))))) (hp n (acc.1 + 1, acc.2 + 6) g cap μ) := by
  refine gv_E (ls := [some (gR 1), some (gI x), some (gR 98), none]) (by decide) (fun h => by cases h) (Nat.le_of_ble_eq_true rfl) rfl ?_
  refine gv_B ok_LA_word 4 rfl ?_
  refine gv_VX (wl := 910) (wc := 917) (nm := "java/lang/IndexOutOfBoundsException") (q9 := 3) [] [] ok_LA_word rfl mk_GE_word rfl (e_word0 (d := d) h1 h2) rfl rfl (Nat.le_of_ble_eq_true rfl) rfl rfl rfl rfl (fun z hz => nomatch hz) (by decide) (by decide) (by decide +kernel) (by decide +kernel) (by decide +kernel) rfl (by decide) (fun δ => ?_)
  refine gv_loose (hf := hp (n + δ) (acc.1 + 1, acc.2 + 6) g cap μ) (Nat.le_add_right _ _) ?_
  refine gv_B ok_LA_word 1 rfl ?_
  exact gv_Ri ok_LA_word rfl rfl
theorem l_count0 (h1 : μ 37 11 = 0) : gv_ev G (d + 2) M_LA_count [gR 1, gI 0, gR 98] (hp n acc g cap μ) (.inl (some (gI 0))) (hp n acc g cap (sI μ 98 0 0)) := by
  refine gv_E (ls := [some (gR 1), some (gI 0), some (gR 98), none]) (by decide) (fun h => by cases h) (Nat.le_of_ble_eq_true rfl) rfl ?_
  refine gv_B ok_LA_count 4 rfl ?_
  refine gv_Vc ok_LA_count rfl mk_GE_count rfl (e_count0 (d := d) h1) rfl rfl (Nat.le_of_ble_eq_true rfl) rfl rfl rfl ?_
  refine gv_B ok_LA_count 1 rfl ?_
  refine hp_out ok_LA_count rfl rfl ?_
  refine gv_B ok_LA_count 2 rfl ?_
  exact gv_Ri ok_LA_count rfl rfl
theorem l_count1 (h1 : μ 37 11 = 0) : gv_ev G (d + 2) M_LA_count [gR 1, gI 1, gR 98] (hp n acc g cap μ) (.inl (some (gI 0))) (hp n acc g cap (sI μ 98 0 0)) := by
  refine gv_E (ls := [some (gR 1), some (gI 1), some (gR 98), none]) (by decide) (fun h => by cases h) (Nat.le_of_ble_eq_true rfl) rfl ?_
  refine gv_B ok_LA_count 4 rfl ?_
  refine gv_Vc ok_LA_count rfl mk_GE_count rfl (e_count1 (d := d) h1) rfl rfl (Nat.le_of_ble_eq_true rfl) rfl rfl rfl ?_
  refine gv_B ok_LA_count 1 rfl ?_
  refine hp_out ok_LA_count rfl rfl ?_
  refine gv_B ok_LA_count 2 rfl ?_
  exact gv_Ri ok_LA_count rfl rfl
theorem l_count2 (h1 : μ 37 11 = 0) : gv_ev G (d + 2) M_LA_count [gR 1, gI 2, gR 98] (hp n acc g cap μ) (.inl (some (gI 0))) (hp n acc g cap (sI μ 98 0 0)) := by
  refine gv_E (ls := [some (gR 1), some (gI 2), some (gR 98), none]) (by decide) (fun h => by cases h) (Nat.le_of_ble_eq_true rfl) rfl ?_
  refine gv_B ok_LA_count 4 rfl ?_
  refine gv_Vc ok_LA_count rfl mk_GE_count rfl (e_count2 (d := d) h1) rfl rfl (Nat.le_of_ble_eq_true rfl) rfl rfl rfl ?_
  refine gv_B ok_LA_count 1 rfl ?_
  refine hp_out ok_LA_count rfl rfl ?_
  refine gv_B ok_LA_count 2 rfl ?_
  exact gv_Ri ok_LA_count rfl rfl
theorem l_count3 : gv_ev G (d + 2) M_LA_count [gR 1, gI 3, gR 98] (hp n acc g cap μ) (.inl (some (gI 0))) (hp n acc g cap (sI μ 98 0 (μ 37 12))) := by
  refine gv_E (ls := [some (gR 1), some (gI 3), some (gR 98), none]) (by decide) (fun h => by cases h) (Nat.le_of_ble_eq_true rfl) rfl ?_
  refine gv_B ok_LA_count 4 rfl ?_
  refine gv_Vc ok_LA_count rfl mk_GE_count rfl (e_count3 (d := d)) rfl rfl (Nat.le_of_ble_eq_true rfl) rfl rfl rfl ?_
  refine gv_B ok_LA_count 1 rfl ?_
  refine hp_out ok_LA_count rfl rfl ?_
  refine gv_B ok_LA_count 2 rfl ?_
  exact gv_Ri ok_LA_count rfl rfl
theorem l_count4 : gv_ev G (d + 2) M_LA_count [gR 1, gI 4, gR 98] (hp n acc g cap μ) (.inl (some (gI 0))) (hp n acc g cap (sI μ 98 0 (μ 3 1))) := by
  refine gv_E (ls := [some (gR 1), some (gI 4), some (gR 98), none]) (by decide) (fun h => by cases h) (Nat.le_of_ble_eq_true rfl) rfl ?_
  refine gv_B ok_LA_count 4 rfl ?_
  refine gv_Vc ok_LA_count rfl mk_GE_count rfl (e_count4 (d := d)) rfl rfl (Nat.le_of_ble_eq_true rfl) rfl rfl rfl ?_
  refine gv_B ok_LA_count 1 rfl ?_
  refine hp_out ok_LA_count rfl rfl ?_
  refine gv_B ok_LA_count 2 rfl ?_
  exact gv_Ri ok_LA_count rfl rfl
theorem l_count5 : gv_ev G (d + 2) M_LA_count [gR 1, gI 5, gR 98] (hp n acc g cap μ) (.inl (some (gI 0))) (hp n acc g cap (sI μ 98 0 (μ 1 1))) := by
  refine gv_E (ls := [some (gR 1), some (gI 5), some (gR 98), none]) (by decide) (fun h => by cases h) (Nat.le_of_ble_eq_true rfl) rfl ?_
  refine gv_B ok_LA_count 4 rfl ?_
  refine gv_Vc ok_LA_count rfl mk_GE_count rfl (e_count5 (d := d)) rfl rfl (Nat.le_of_ble_eq_true rfl) rfl rfl rfl ?_
  refine gv_B ok_LA_count 1 rfl ?_
  refine hp_out ok_LA_count rfl rfl ?_
  refine gv_B ok_LA_count 2 rfl ?_
  exact gv_Ri ok_LA_count rfl rfl
theorem l_count6 : gv_ev G (d + 2) M_LA_count [gR 1, gI 6, gR 98] (hp n acc g cap μ) (.inl (some (gI 0))) (hp n acc g cap (sI μ 98 0 (μ 64 5))) := by
  refine gv_E (ls := [some (gR 1), some (gI 6), some (gR 98), none]) (by decide) (fun h => by cases h) (Nat.le_of_ble_eq_true rfl) rfl ?_
  refine gv_B ok_LA_count 4 rfl ?_
  refine gv_Vc ok_LA_count rfl mk_GE_count rfl (e_count6 (d := d)) rfl rfl (Nat.le_of_ble_eq_true rfl) rfl rfl rfl ?_
  refine gv_B ok_LA_count 1 rfl ?_
  refine hp_out ok_LA_count rfl rfl ?_
  refine gv_B ok_LA_count 2 rfl ?_
  exact gv_Ri ok_LA_count rfl rfl
end LHA
