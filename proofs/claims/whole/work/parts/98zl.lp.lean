/-! the law: every pair of calls, and its loop (written by wip/tools/mk98zl.py) -/
section LPA
variable {G : gv_G} {hf : gv_H} {r : gv_O} {z n g cap : Nat} {acc : Nat × Nat} {μ : Mu} {i w : Int32} {l5 l6 : Option gv_V}
def lK (G : gv_G) (r : gv_O) (hf : gv_H) (z : Nat) (i : Int32) : Prop := ∀ (n g cap : Nat) (acc : Nat × Nat) (μ : Mu) (l5 l6 : Option gv_V), glR (z + 1) n acc g cap μ μ → gv_go G M_LA_law 60 r hf 492 [some (gR 0), some (gR 1), some (gR 70), some (gR 98), some (gI i), l5, l6] [] (hp n acc g cap μ)
theorem s_rule (h : glR z n acc g cap μ μ) (K : lK G r hf z i) : gv_go G M_LA_law 60 r hf 148 [some (gR 0), some (gR 1), some (gR 70), some (gR 98), some (gI i), l5, l6] [] (hp n acc g cap μ) := by
  obtain ⟨cd, rr, μ', e1, hcd, hx⟩ := j_rule h
  have hE := t_GE_rule (G := G) (d := 55) (n := n) (acc := acc) (g := g) (cap := cap) e1
  rcases hcd with q | q | q <;> subst q
  · obtain ⟨b, ν', u1, u2, u3, u4⟩ := hx (sI μ' 98 0 rr) (fun k hk => sI_nk hk)
    have v1 : ν' 70 0 = 0 := by
      rcases u2 with ⟨-, q, -⟩ | u2
      · exact q
      · omega
    have v2 : rr = b := by
      rcases u2 with ⟨-, -, q⟩ | u2
      · exact q
      · omega
    subst v2
    exact lh_ruleE (d := 59) (i := i) (l_rule_0 (d := 58) hE) (t_MO_rule (d := 56) u1) rfl (lt_rule (d := 59) v1 (fun _ => u3.trans sI_at) (K _ _ _ _ _ _ _ (gl_z h.1 (Nat.le_refl _) (Nat.le_succ _) (Nat.le_add_right _ _) u4)))
  · obtain ⟨b, ν', u1, u2, u3, u4⟩ := hx μ' (fun _ _ => rfl)
    have v1 : ν' 70 0 = 2 := by
      rcases u2 with u2 | u2 | u2
      · omega
      · omega
      · exact u2.2
    exact lh_ruleL (d := 59) (i := i) (h2 := fun δ => hp (n + δ) (acc.1 + 1, acc.2 + 6) g cap ν') (l_rule_2 (d := 58) hE) (fun δ => t_MO_rule (d := 56) (n := n + δ) (acc := (acc.1 + 1, acc.2 + 6)) (g := g) (cap := cap) u1) rfl (fun δ => lt_rule (d := 59) v1 (fun c => absurd c (by decide)) (K _ _ _ _ _ _ _ (gl_z h.1 (Nat.le_add_right _ _) (Nat.le_refl _) (Nat.le_refl _) u4)))
  · obtain ⟨b, ν', u1, u2, u3, u4⟩ := hx μ' (fun _ _ => rfl)
    have v1 : ν' 70 0 = 1 := by
      rcases u2 with u2 | u2 | u2
      · omega
      · exact u2.2
      · omega
    exact lh_ruleL (d := 59) (i := i) (h2 := fun δ => hp (n + δ) (acc.1 + 1, acc.2 + 6) g cap ν') (l_rule_1 (d := 58) hE) (fun δ => t_MO_rule (d := 56) (n := n + δ) (acc := (acc.1 + 1, acc.2 + 6)) (g := g) (cap := cap) u1) rfl (fun δ => lt_rule (d := 59) v1 (fun c => absurd c (by decide)) (K _ _ _ _ _ _ _ (gl_z h.1 (Nat.le_add_right _ _) (Nat.le_refl _) (Nat.le_refl _) u4)))
theorem s_next (h : glR z n acc g cap μ μ) (K : lK G r hf z i) : gv_go G M_LA_law 60 r hf 292 [some (gR 0), some (gR 1), some (gR 70), some (gR 98), some (gI i), l5, l6] [] (hp n acc g cap μ) := by
  obtain ⟨cd, rr, μ', e1, hcd, hx⟩ := j_next h
  have hE := t_GE_next (G := G) (d := 56) (n := n) (acc := acc) (g := g) (cap := cap) e1
  rcases hcd with q | q <;> subst q
  · obtain ⟨b, ν', u1, u2, u3, u4⟩ := hx (sI μ' 98 0 rr) (fun k hk => sI_nk hk)
    have v1 : ν' 70 0 = 0 := by
      rcases u2 with ⟨-, q, -⟩ | u2
      · exact q
      · omega
    have v2 : rr = b := by
      rcases u2 with ⟨-, -, q, -⟩ | u2
      · exact q
      · omega
    have v3 : b = 0 ∨ b = 1 := by
      rcases u2 with ⟨-, -, -, q⟩ | u2
      · exact q
      · omega
    subst v2
    exact lh_nextE (d := 59) (i := i) (l_next_0 (d := 58) v3 hE) (t_MO_next (d := 57) u1) rfl (lt_next (d := 59) v3 v1 (fun _ => u3.trans sI_at) (K _ _ _ _ _ _ _ (gl_z h.1 (Nat.le_refl _) (Nat.le_succ _) (Nat.le_add_right _ _) u4)))
  · obtain ⟨b, ν', u1, u2, u3, u4⟩ := hx μ' (fun _ _ => rfl)
    have v1 : ν' 70 0 = 1 := by
      rcases u2 with u2 | u2
      · omega
      · exact u2.2.1
    have v3 : b = 0 ∨ b = 1 := by
      rcases u2 with u2 | u2
      · omega
      · exact u2.2.2
    exact lh_nextL (d := 59) (i := i) (h2 := fun δ => hp (n + δ) (acc.1 + 1, acc.2 + 6) g cap ν') (l_next_1 (d := 58) hE) (fun δ => t_MO_next (d := 57) (n := n + δ) (acc := (acc.1 + 1, acc.2 + 6)) (g := g) (cap := cap) u1) rfl (fun δ => lt_next (d := 59) v3 v1 (fun c => absurd c (by decide)) (K _ _ _ _ _ _ _ (gl_z h.1 (Nat.le_add_right _ _) (Nat.le_refl _) (Nat.le_refl _) u4)))
theorem s_word (h : glR z n acc g cap μ μ) (hi : vp_in (i + 1) G.2.2.2.2.2.2.1) (hw : G.2.2.2.2.2.2.2 (i + 1).toNatClampNeg = w) (K : lK G r hf z i) : gv_go G M_LA_law 60 r hf 436 [some (gR 0), some (gR 1), some (gR 70), some (gR 98), some (gI i), l5, l6] [] (hp n acc g cap μ) := by
  obtain ⟨cd, rr, μ', e1, hcd, hx⟩ := j_word h w
  have hE := t_GE_word (G := G) (d := 53) (n := n) (acc := acc) (g := g) (cap := cap) e1
  rcases hcd with q | q <;> subst q
  · obtain ⟨b, ν', u1, u2, u3, u4⟩ := hx (sI μ' 98 0 rr) (fun k hk => sI_nk hk)
    have v1 : ν' 70 0 = 0 := by
      rcases u2 with ⟨-, q, -⟩ | u2
      · exact q
      · omega
    have v2 : rr = b := by
      rcases u2 with ⟨-, -, q⟩ | u2
      · exact q
      · omega
    subst v2
    exact lh_wordE (d := 59) (i := i) (w := w) hi hw (l_word_0 (d := 58) hE) (t_MO_word (d := 55) u1) rfl (lt_word (d := 59) v1 (fun _ => u3.trans sI_at) (K _ _ _ _ _ _ _ (gl_z h.1 (Nat.le_refl _) (Nat.le_succ _) (Nat.le_add_right _ _) u4)))
  · obtain ⟨b, ν', u1, u2, u3, u4⟩ := hx μ' (fun _ _ => rfl)
    have v1 : ν' 70 0 = 1 := by
      rcases u2 with u2 | u2
      · omega
      · exact u2.2
    exact lh_wordL (d := 59) (i := i) (w := w) (h2 := fun δ => hp (n + δ) (acc.1 + 1, acc.2 + 6) g cap ν') hi hw (l_word_1 (d := 58) hE) (fun δ => t_MO_word (d := 55) (n := n + δ) (acc := (acc.1 + 1, acc.2 + 6)) (g := g) (cap := cap) u1) rfl (fun δ => lt_word (d := 59) v1 (fun c => absurd c (by decide)) (K _ _ _ _ _ _ _ (gl_z h.1 (Nat.le_add_right _ _) (Nat.le_refl _) (Nat.le_refl _) u4)))
theorem s_count (h : glR z n acc g cap μ μ) (hi : vp_in (i + 1) G.2.2.2.2.2.2.1) (hw : G.2.2.2.2.2.2.2 (i + 1).toNatClampNeg = w) (K : lK G r hf z i) : gv_go G M_LA_law 60 r hf 367 [some (gR 0), some (gR 1), some (gR 70), some (gR 98), some (gI i), l5, l6] [] (hp n acc g cap μ) := by
  obtain ⟨cd, rr, e1, hcd, hx⟩ := j_count h w
  have hE := t_GE_count (G := G) (d := 56) (n := n) (acc := acc) (g := g) (cap := cap) e1
  rcases hcd with q | q <;> subst q
  · obtain ⟨b, ν', u1, v1, v2, u3, u4⟩ := hx (sI μ 98 0 rr) (fun k hk => sI_nk hk)
    have v2 := v2 rfl
    subst v2
    exact lh_countE (d := 59) (i := i) (w := w) hi hw (l_count_0 (d := 58) hE) (t_MO_count (d := 58) u1) rfl (lt_count (d := 59) v1 (fun _ => u3.trans sI_at) (K _ _ _ _ _ _ _ (gl_z h.1 (Nat.le_refl _) (Nat.le_succ _) (Nat.le_add_right _ _) u4)))
  · obtain ⟨b, ν', u1, v1, v2, u3, u4⟩ := hx μ (fun _ _ => rfl)
    exact lh_countL (d := 59) (i := i) (w := w) (h2 := fun δ => hp (n + δ) (acc.1 + 1, acc.2 + 6) g cap ν') hi hw (l_count_1 (d := 58) hE) (fun δ => t_MO_count (d := 58) (n := n + δ) (acc := (acc.1 + 1, acc.2 + 6)) (g := g) (cap := cap) u1) rfl (fun δ => lt_count (d := 59) v1 (fun c => absurd c (by decide)) (K _ _ _ _ _ _ _ (gl_z h.1 (Nat.le_add_right _ _) (Nat.le_refl _) (Nat.le_refl _) u4)))
theorem s_ask (h : glR z n acc g cap μ μ) (K : lK G r hf z i) : gv_go G M_LA_law 60 r hf 192 [some (gR 0), some (gR 1), some (gR 70), some (gR 98), some (gI i), l5, l6] [] (hp n acc g cap μ) := by
  obtain ⟨cd, rr, n', acc', g', cap', μ', e1, hcd, ha, hx⟩ := j_ask h
  have hE := t_GE_ask (G := G) (d := 53) e1
  rcases (show cd = 0 ∨ cd = 1 by omega) with q | q <;> subst q
  · obtain ⟨b, ν', u1, v1, v2, u3, u4⟩ := hx (sI μ' 98 0 rr) (fun k hk => sI_nk hk)
    have v2 := v2 rfl
    subst v2
    exact lh_askE (d := 59) (i := i) (l_ask_0 (d := 58) hE) (t_MO_ask (d := 55) u1) rfl (lt_ask (d := 59) v1 (fun _ => u3.trans sI_at) (K _ _ _ _ _ _ _ (gl_z ha (Nat.le_refl _) (Nat.le_succ _) (Nat.le_add_right _ _) u4)))
  · obtain ⟨b, ν', u1, v1, v2, u3, u4⟩ := hx μ' (fun _ _ => rfl)
    exact lh_askL (d := 59) (i := i) (h2 := fun δ => hp (n' + δ) (acc'.1 + 1, acc'.2 + 6) g' cap' ν') (l_ask_1 (d := 58) hE) (fun δ => t_MO_ask (d := 55) (n := n' + δ) (acc := (acc'.1 + 1, acc'.2 + 6)) (g := g') (cap := cap') u1) rfl (fun δ => lt_ask (d := 59) v1 (fun c => absurd c (by decide)) (K _ _ _ _ _ _ _ (gl_z ha (Nat.le_add_right _ _) (Nat.le_refl _) (Nat.le_refl _) u4)))
theorem s_solve (hz : z ≤ 2000) (h : glR z n acc g cap μ μ) (hi : vp_in (i + 1) G.2.2.2.2.2.2.1) (hw : G.2.2.2.2.2.2.2 (i + 1).toNatClampNeg = w) (K : lK G r hf z i) : gv_go G M_LA_law 60 r hf 236 [some (gR 0), some (gR 1), some (gR 70), some (gR 98), some (gI i), l5, l6] [] (hp n acc g cap μ) := by
  obtain ⟨cd, rr, n', acc', g', cap', μ', e1, hcd, ha, hx⟩ := j_solve hz h w
  have hE := t_GE_solve (G := G) (d := 21) e1
  rcases (show cd = 0 ∨ cd = 1 ∨ cd = 2 ∨ cd = 3 ∨ cd = 4 by omega) with q | q | q | q | q <;> subst q
  · obtain ⟨b, ν', u1, v1, v2, u3, u4⟩ := hx (sI μ' 98 0 rr) (fun k hk => sI_nk hk)
    have v2 := v2 rfl
    subst v2
    exact lh_solveE (d := 59) (i := i) (w := w) hi hw (l_solve_0 (d := 58) hE) (t_MO_solve (d := 52) u1) rfl (lt_solve (d := 59) v1 (fun _ => u3.trans sI_at) (K _ _ _ _ _ _ _ (gl_z ha (Nat.le_refl _) (Nat.le_succ _) (Nat.le_add_right _ _) u4)))
  · obtain ⟨b, ν', u1, v1, v2, u3, u4⟩ := hx μ' (fun _ _ => rfl)
    exact lh_solveL (d := 59) (i := i) (w := w) (h2 := fun δ => hp (n' + δ) (acc'.1 + 1, acc'.2 + 6) g' cap' ν') hi hw (l_solve_1 (d := 58) hE) (fun δ => t_MO_solve (d := 52) (n := n' + δ) (acc := (acc'.1 + 1, acc'.2 + 6)) (g := g') (cap := cap') u1) rfl (fun δ => lt_solve (d := 59) v1 (fun c => absurd c (by decide)) (K _ _ _ _ _ _ _ (gl_z ha (Nat.le_add_right _ _) (Nat.le_refl _) (Nat.le_refl _) u4)))
  · obtain ⟨b, ν', u1, v1, v2, u3, u4⟩ := hx μ' (fun _ _ => rfl)
    exact lh_solveL (d := 59) (i := i) (w := w) (h2 := fun δ => hp (n' + δ) (acc'.1 + 1, acc'.2 + 6) g' cap' ν') hi hw (l_solve_2 (d := 58) hE) (fun δ => t_MO_solve (d := 52) (n := n' + δ) (acc := (acc'.1 + 1, acc'.2 + 6)) (g := g') (cap := cap') u1) rfl (fun δ => lt_solve (d := 59) v1 (fun c => absurd c (by decide)) (K _ _ _ _ _ _ _ (gl_z ha (Nat.le_add_right _ _) (Nat.le_refl _) (Nat.le_refl _) u4)))
  · obtain ⟨b, ν', u1, v1, v2, u3, u4⟩ := hx μ' (fun _ _ => rfl)
    exact lh_solveL (d := 59) (i := i) (w := w) (h2 := fun δ => hp (n' + δ) (acc'.1 + 1, acc'.2 + 6) g' cap' ν') hi hw (l_solve_3 (d := 58) hE) (fun δ => t_MO_solve (d := 52) (n := n' + δ) (acc := (acc'.1 + 1, acc'.2 + 6)) (g := g') (cap := cap') u1) rfl (fun δ => lt_solve (d := 59) v1 (fun c => absurd c (by decide)) (K _ _ _ _ _ _ _ (gl_z ha (Nat.le_add_right _ _) (Nat.le_refl _) (Nat.le_refl _) u4)))
  · obtain ⟨b, ν', u1, v1, v2, u3, u4⟩ := hx μ' (fun _ _ => rfl)
    exact lh_solveL (d := 59) (i := i) (w := w) (h2 := fun δ => hp (n' + δ) (acc'.1 + 1, acc'.2 + 6) g' cap' ν') hi hw (l_solve_4 (d := 58) hE) (fun δ => t_MO_solve (d := 52) (n := n' + δ) (acc := (acc'.1 + 1, acc'.2 + 6)) (g := g') (cap := cap') u1) rfl (fun δ => lt_solve (d := 59) v1 (fun c => absurd c (by decide)) (K _ _ _ _ _ _ _ (gl_z ha (Nat.le_add_right _ _) (Nat.le_refl _) (Nat.le_refl _) u4)))
theorem s_stop (h : glR z n acc g cap μ μ) (K : lK G r hf z i) : gv_go G M_LA_law 60 r hf 343 [some (gR 0), some (gR 1), some (gR 70), some (gR 98), some (gI i), l5, l6] [] (hp n acc g cap μ) := by
  obtain ⟨μ', ν', e1, u1, u4⟩ := j_stop h
  exact lh_stop (d := 59) (i := i) (t_GE_stop (d := 59) e1) (t_MO_stop (d := 58) u1) rfl rfl (K _ _ _ _ _ _ _ (gl_z h.1 (Nat.le_refl _) (Nat.le_succ _) (Nat.le_add_right _ _) u4))
theorem s_collect (hz : z ≤ 2000) (h : glR z n acc g cap μ μ) (K : lK G r hf z i) : gv_go G M_LA_law 60 r hf 354 [some (gR 0), some (gR 1), some (gR 70), some (gR 98), some (gI i), l5, l6] [] (hp n acc g cap μ) := by
  obtain ⟨rr, μ', ν', e1, u1, R, t, u4, u5⟩ := j_collect hz h
  exact lh_collect (d := 59) (i := i) (t_GE_collect (d := 53) e1) (t_MO_collect (d := 54) u1) rfl rfl (K _ _ _ _ _ _ _ ⟨alR_z h.1 (Nat.le_refl _) (Nat.le_succ _) (Nat.le_add_right _ _), R, t, u4, u5⟩)
theorem s_words (h : glR z n acc g cap μ μ) (K : lK G r hf z i) : gv_go G M_LA_law 60 r hf 423 [some (gR 0), some (gR 1), some (gR 70), some (gR 98), some (gI i), l5, l6] [] (hp n acc g cap μ) := by
  obtain ⟨rr, μ', ν', e1, u1, u4⟩ := j_words h
  exact lh_words (d := 59) (i := i) (t_GE_words (d := 54) e1) (t_MO_words (d := 55) u1) rfl rfl (K _ _ _ _ _ _ _ (gl_z h.1 (Nat.le_refl _) (Nat.le_succ _) (Nat.le_add_right _ _) u4))
theorem s_put (h : glR z n acc g cap μ μ) (hi : vp_in (i + 1) G.2.2.2.2.2.2.1) (hw : G.2.2.2.2.2.2.2 (i + 1).toNatClampNeg = w) (K : lK G r hf z i) : gv_go G M_LA_law 60 r hf 92 [some (gR 0), some (gR 1), some (gR 70), some (gR 98), some (gI i), l5, l6] [] (hp n acc g cap μ) := by
  obtain ⟨t, t1, t2, t3, t4⟩ := j_put h
  by_cases hW : isW w
  · by_cases e : t = 30
    · subst e
      exact lh_putL (d := 59) (i := i) (w := w) (h2 := fun δ => hp (n + δ) (acc.1 + 1, acc.2 + 6) g cap (sI μ 70 0 2)) hi hw (l_putS (d := 57) (n := n) (acc := acc) (g := g) (cap := cap) (μ := μ) hW t2) (fun δ => m_putF (d := 59) (n := n + δ) (acc := (acc.1 + 1, acc.2 + 6)) (g := g) (cap := cap) (μ := μ) hW t3) rfl (fun δ => lt_put (d := 59) rfl (fun c => absurd c (by decide)) (K _ _ _ _ _ _ _ (gl_z h.1 (Nat.le_add_right _ _) (Nat.le_refl _) (Nat.le_refl _) (j_thr h 2))))
    · have u4 := t4 w (by omega) (iw_ok hW)
      exact lh_putE (d := 59) (i := i) (w := w) (h2 := hp n acc g cap (sI (sI (sI (sI (sI (sI μ 2 t w) 1 1 (nI (t + 1))) 98 0 (nI (t + 1))) 70 0 0) 71 t w) 70 1 (nI (t + 1)))) hi hw (l_put0 (d := 57) (n := n) (acc := acc) (g := g) (cap := cap) (μ := μ) hW (by omega) t2) (m_put1 (d := 59) hW (by omega) t3) rfl (lt_put (d := 59) rfl (fun _ => rfl) (K _ _ _ _ _ _ _ (gl_z h.1 (Nat.le_refl _) (Nat.le_succ _) (Nat.le_add_right _ _) u4)))
  · exact lh_putL (d := 59) (i := i) (w := w) (h2 := fun δ => hp (n + δ) (acc.1 + 1, acc.2 + 6) g cap (sI μ 70 0 1)) hi hw (l_putA (d := 57) (n := n) (acc := acc) (g := g) (cap := cap) (μ := μ) hW) (fun δ => m_put0 (d := 59) (n := n + δ) (acc := (acc.1 + 1, acc.2 + 6)) (g := g) (cap := cap) (μ := μ) hW) rfl (fun δ => lt_put (d := 59) rfl (fun c => absurd c (by decide)) (K _ _ _ _ _ _ _ (gl_z h.1 (Nat.le_add_right _ _) (Nat.le_refl _) (Nat.le_refl _) (j_thr h 1))))
theorem ofN_2 {L : Nat} (hL : L ≤ 1024) (j : Nat) (hj : j ≤ 1024) : Int32.ofNat L - 2 < nI j ↔ L ≤ j + 1 := by
  by_cases e : L < 2
  · refine ⟨fun _ => by omega, fun _ => ?_⟩
    refine Int32.lt_of_lt_of_le (b := 0) ?_ (nI_pos' (by omega))
    rcases (show L = 0 ∨ L = 1 by omega) with q | q <;> subst q <;> decide
  · obtain ⟨m, rfl⟩ : ∃ m, L = m + 2 := ⟨L - 2, by omega⟩
    have e1 : Int32.ofNat (m + 2) - 2 = nI m := pk_sub (a := m + 2) (b := 2) (by omega)
    rw [e1, nI_ltI (by omega) (by omega)]
    omega
theorem law_all (hL : G.2.2.2.2.2.2.1 ≤ 1024) (hC : hf.2.1 = (gv_Cn, gv_Sn)) (k : Nat) : ∀ (j n g cap : Nat) (acc : Nat × Nat) (μ : Mu) (l5 l6 : Option gv_V), G.2.2.2.2.2.2.1 ≤ 2 * j + 2 * k + 1 → j ≤ 512 → glR j n acc g cap μ μ → gv_go G M_LA_law 60 (.inr (.inr none)) hf 23 [some (gR 0), some (gR 1), some (gR 70), some (gR 98), some (gI (nI (2 * j))), l5, l6] [] (hp n acc g cap μ) := by
  have fin : ∀ (j n g cap : Nat) (acc : Nat × Nat) (μ : Mu) (l5 l6 : Option gv_V), G.2.2.2.2.2.2.1 ≤ 2 * j + 1 → j ≤ 512 → glR j n acc g cap μ μ → gv_go G M_LA_law 60 (.inr (.inr none)) hf 23 [some (gR 0), some (gR 1), some (gR 70), some (gR 98), some (gI (nI (2 * j))), l5, l6] [] (hp n acc g cap μ) := by
    intro j n g cap acc μ l5 l6 h1 h2 h
    obtain ⟨-, -, -, -, -, c1, c2, c3, -⟩ := h.1
    refine lh_end ((ofN_2 hL (2 * j) (by omega)).mpr (by omega)) hC ?_ ?_
    · show acc.1 ≤ gv_Cn
      unfold gv_Cn
      omega
    · show acc.2 ≤ gv_Sn
      unfold BS at c3
      unfold gv_Sn
      omega
  induction k with
  | zero => intro j n g cap acc μ l5 l6 h1 h2 h; exact fin j n g cap acc μ l5 l6 (by omega) h2 h
  | succ k ih =>
    intro j n g cap acc μ l5 l6 h1 h2 h
    by_cases e : G.2.2.2.2.2.2.1 ≤ 2 * j + 1
    · exact fin j n g cap acc μ l5 l6 e h2 h
    · refine lh_more (i := nI (2 * j)) (fun q => e ((ofN_2 hL (2 * j) (by omega)).mp q)) (vp_in_nI (by omega) (by omega)) ?_
      have hi : vp_in (nI (2 * j) + 1) G.2.2.2.2.2.2.1 := by
        rw [nI_1]; exact vp_in_nI (by omega) (by omega)
      have K : lK G (.inr (.inr none)) hf j (nI (2 * j)) := by
        intro n g cap acc μ l5 l6 h'
        refine lh_back ?_
        have e2 : nI (2 * j) + 2 = nI (2 * (j + 1)) := nI_add (2 * j) 2
        rw [e2]
        exact ih (j + 1) n g cap acc μ l5 l6 (by omega) (by omega) h'
      obtain ⟨x, hx, ex⟩ : ∃ x, x < 16 ∧ G.2.2.2.2.2.2.2 (nI (2 * j)).toNatClampNeg &&& 15 = nI x := pk_andE _ (m := 15) 4 (by decide)
      rw [ex]
      clear ex
      generalize ew : G.2.2.2.2.2.2.2 (nI (2 * j) + 1).toNatClampNeg = w
      have idle : gv_go G M_LA_law 60 (.inr (.inr none)) hf 492 [some (gR 0), some (gR 1), some (gR 70), some (gR 98), some (gI (nI (2 * j))), l5, l6] [] (hp n acc g cap μ) := by
        obtain ⟨ha, R, t, hb, hs⟩ := h
        exact K n g cap acc μ l5 l6 (gl_z ha (Nat.le_refl _) (Nat.le_succ _) (Nat.le_add_right _ _) ⟨R, t, hb, hs⟩)
      rcases (show x = 0 ∨ x = 1 ∨ x = 2 ∨ x = 3 ∨ x = 4 ∨ x = 5 ∨ x = 6 ∨ x = 7 ∨ x = 8 ∨ x = 9 ∨ x = 10 ∨ x = 11 ∨ x = 12 ∨ x = 13 ∨ x = 14 ∨ x = 15 by omega) with q | q | q | q | q | q | q | q | q | q | q | q | q | q | q | q <;> subst q
      · exact gv_pce (p2 := 92) (by decide) (s_put h hi ew K)
      · exact gv_pce (p2 := 148) (by decide) (s_rule h K)
      · exact gv_pce (p2 := 192) (by decide) (s_ask h K)
      · exact gv_pce (p2 := 236) (by decide) (s_solve (by omega) h hi ew K)
      · exact gv_pce (p2 := 292) (by decide) (s_next h K)
      · exact gv_pce (p2 := 343) (by decide) (s_stop h K)
      · exact gv_pce (p2 := 354) (by decide) (s_collect (by omega) h K)
      · exact gv_pce (p2 := 367) (by decide) (s_count h hi ew K)
      · exact gv_pce (p2 := 423) (by decide) (s_words h K)
      · exact gv_pce (p2 := 436) (by decide) (s_word h hi ew K)
      · exact gv_pce (p2 := 492) (by decide) idle
      · exact gv_pce (p2 := 492) (by decide) idle
      · exact gv_pce (p2 := 492) (by decide) idle
      · exact gv_pce (p2 := 492) (by decide) idle
      · exact gv_pce (p2 := 492) (by decide) idle
      · exact gv_pce (p2 := 492) (by decide) idle
theorem gl_0 : glR 0 99 kb_A 54 60 tp_0 tp_0 := by
  refine ⟨⟨Or.inl rfl, rfl, by omega, by omega, by omega, by omega, by decide +kernel, by decide +kernel, by omega⟩, 0, 300, ⟨⟨0, by omega, rfl, rfl, fun j hj => by omega⟩, ⟨by omega, rfl, rfl, fun r hr => by omega⟩, by omega, rfl, rfl, rfl⟩, Or.inl ⟨rfl, ⟨rfl, rfl, rfl, rfl, fun x hx => rfl⟩, fun p hp => rfl, 0, ⟨rfl, fun c hc => ⟨0, by omega, rfl⟩⟩, by omega, by decide⟩⟩
theorem law_whole (hL : G.2.2.2.2.2.2.1 ≤ 1024) (hC : hf.2.1 = (gv_Cn, gv_Sn)) : gv_go G M_LA_law 60 (.inr (.inr none)) hf 0 [some (gR 0), none, none, none, none, none, none] [] KA0 :=
  law_new (d := 56) (law_all hL hC 512 0 99 54 60 kb_A tp_0 none none (by omega) (by omega) gl_0)
end LPA
