/-! methods as functions of the numbers (written by wip/tools/genf.py, mkf.py) -/
section FNA
variable {G : gv_G} {d n g cap : Nat} {acc : Nat × Nat}
def f_GE_argumentsOf (x0 : Int32) (μ : Mu) : Option (Int32) :=
  (if ((x0 &&& 7) - 2) < 0 then
  some (0)
  else
  (if 3 < ((x0 &&& 7) - 2) then
  some (0)
  else
  some (((x0 &&& 7) - 2))))
theorem t_GE_argumentsOf {x0 : Int32} {μ : Mu} {r : Int32} (h : f_GE_argumentsOf x0 μ = some (r)) : gv_ev G (d + 0) M_GE_argumentsOf [gI x0] (hp n acc g cap μ) (.inl (some (gI r))) (hp n acc g cap μ) := by
  unfold f_GE_argumentsOf at h
  refine gv_E (ls := [some (gI x0), none]) (by decide) (fun h => by cases h) (Nat.le_of_ble_eq_true rfl) rfl ?_
  refine gv_B ok_GE_argumentsOf 8 rfl ?_
  by_cases c1 : ((x0 &&& 7) - 2) < 0
  · rw [if_pos c1] at h
    refine gv_brT c1 ?_
    refine gv_B ok_GE_argumentsOf 1 rfl ?_
    have h9 := Option.some.inj h
    subst h9
    exact gv_Ri ok_GE_argumentsOf rfl rfl
  · rw [if_neg c1] at h
    refine gv_brF c1 ?_
    refine gv_B ok_GE_argumentsOf 3 rfl ?_
    by_cases c2 : 3 < ((x0 &&& 7) - 2)
    · rw [if_pos c2] at h
      refine gv_brT c2 ?_
      refine gv_B ok_GE_argumentsOf 1 rfl ?_
      have h9 := Option.some.inj h
      subst h9
      exact gv_Ri ok_GE_argumentsOf rfl rfl
    · rw [if_neg c2] at h
      refine gv_brF c2 ?_
      refine gv_B ok_GE_argumentsOf 2 rfl ?_
      have h9 := Option.some.inj h
      subst h9
      exact gv_Ri ok_GE_argumentsOf rfl rfl
def f_GE_isQuestion_4 (k1 : Int32) : Nat → Int32 → Int32 → Mu → Option (Int32)
  | 0, _, _, _ => none
  | f + 1, y2, y3, μ =>
    (if k1 ≤ y3 then
    (if k1 ≤ 0 then
    some (0)
    else
    (if ¬ y2 = 0 then
    some (0)
    else
    some (1)))
    else
    (b1 (rd (μ 2) 30 y3) fun v4 =>
    b1 (if ¬ y2 = 0 then
    (if (v4 &&& 7) = 6 then
    some ((0 : Int32))
    else
    some ((1 : Int32)))
    else
    (if (v4 &&& 7) < 2 then
    some ((0 : Int32))
    else
    some ((1 : Int32)))) fun v6 =>
    if ¬ v6 = 0 then
    (b1 (rd (μ 2) 30 y3) fun v13 =>
    b1 (f_GE_argumentsOf v13 μ) fun v16 =>
    f_GE_isQuestion_4 k1 f ((jmax 0 (y2 - 1)) + v16) (y3 + 1) μ)
    else
    some (0)))
def f_GE_isQuestion (x0 : Int32) (μ : Mu) : Option (Int32) :=
  f_GE_isQuestion_4 x0 fu 0 0 μ
theorem t_GE_isQuestion_4 {k1 : Int32} (fl : Nat) : ∀ {y2 : Int32} {y3 : Int32} {μ : Mu} {r : Int32}, f_GE_isQuestion_4 k1 fl y2 y3 μ = some (r) → gv_go G M_GE_isQuestion (d + 1) (.inl (some (gI r))) (hp n acc g cap μ) 4 [some (gR 2), some (gI k1), some (gI y2), some (gI y3), none, none] [] (hp n acc g cap μ) := by
  induction fl with
  | zero => intro _ _ _ _ h; cases h
  | succ f ih =>
    intro y2 y3 μ r h
    unfold f_GE_isQuestion_4 at h
    refine gv_B ok_GE_isQuestion 3 rfl ?_
    by_cases c1 : k1 ≤ y3
    · rw [if_pos c1] at h
      refine gv_brT c1 ?_
      refine gv_B ok_GE_isQuestion 2 rfl ?_
      by_cases c2 : k1 ≤ 0
      · rw [if_pos c2] at h
        refine gv_brT c2 ?_
        refine gv_B ok_GE_isQuestion 1 rfl ?_
        have h9 := Option.some.inj h
        subst h9
        exact gv_Rz ok_GE_isQuestion rfl rfl (by decide)
      · rw [if_neg c2] at h
        refine gv_brF c2 ?_
        refine gv_B ok_GE_isQuestion 2 rfl ?_
        by_cases c3 : ¬ y2 = 0
        · rw [if_pos c3] at h
          refine gv_brT c3 ?_
          refine gv_B ok_GE_isQuestion 1 rfl ?_
          have h9 := Option.some.inj h
          subst h9
          exact gv_Rz ok_GE_isQuestion rfl rfl (by decide)
        · rw [if_neg c3] at h
          refine gv_brF c3 ?_
          refine gv_B ok_GE_isQuestion 2 rfl ?_
          have h9 := Option.some.inj h
          subst h9
          exact gv_Rz ok_GE_isQuestion rfl rfl (by decide)
    · rw [if_neg c1] at h
      refine gv_brF c1 ?_
      refine gv_B ok_GE_isQuestion 2 rfl ?_
      obtain ⟨v4, e5, h⟩ := b1_e h
      refine hp_rd ok_GE_isQuestion rfl rfl e5 ?_
      refine gv_B ok_GE_isQuestion 5 rfl ?_
      obtain ⟨v6, e7, h⟩ := b1_e h
      have K8 : gv_go G M_GE_isQuestion (d + 1) (.inl (some (gI r))) (hp n acc g cap μ) 47 [some (gR 2), some (gI k1), some (gI y2), some (gI y3), none, none] [gI v6] (hp n acc g cap μ) := by
        refine gv_B ok_GE_isQuestion 3 rfl ?_
        by_cases c12 : ¬ v6 = 0
        · rw [if_pos c12] at h
          refine gv_brT c12 ?_
          refine gv_B ok_GE_isQuestion 4 rfl ?_
          refine gv_mx (wp := 646) (x9 := 115) (by decide +kernel) (by decide +kernel) (Nat.le_of_ble_eq_true rfl) ?_
          refine gv_B ok_GE_isQuestion 2 rfl ?_
          obtain ⟨v13, e14, h⟩ := b1_e h
          refine hp_rd ok_GE_isQuestion rfl rfl e14 ?_
          obtain ⟨v16, e15, h⟩ := b1_e h
          refine gv_Sc ok_GE_isQuestion rfl mk_GE_argumentsOf rfl (t_GE_argumentsOf (d := d) e15) rfl rfl (Nat.le_of_ble_eq_true rfl)  ?_
          refine gv_B ok_GE_isQuestion 4 rfl ?_
          exact gv_fk (ih h) ⟨rfl, ⟨rfl, ⟨rfl, ⟨rfl, trivial⟩⟩⟩⟩
        · rw [if_neg c12] at h
          refine gv_brF c12 ?_
          refine gv_B ok_GE_isQuestion 1 rfl ?_
          have h9 := Option.some.inj h
          subst h9
          exact gv_Rz ok_GE_isQuestion rfl rfl (by decide)
      clear h
      have h := e7
      clear e7
      by_cases c9 : ¬ y2 = 0
      · rw [if_pos c9] at h
        refine gv_brT c9 ?_
        refine gv_B ok_GE_isQuestion 3 rfl ?_
        by_cases c10 : (v4 &&& 7) = 6
        · rw [if_pos c10] at h
          refine gv_brT c10 ?_
          refine gv_B ok_GE_isQuestion 1 rfl ?_
          have h9 := Option.some.inj h
          subst h9
          exact gv_fk K8 ⟨rfl, ⟨rfl, ⟨rfl, ⟨rfl, trivial⟩⟩⟩⟩
        · rw [if_neg c10] at h
          refine gv_brF c10 ?_
          refine gv_B ok_GE_isQuestion 2 rfl ?_
          have h9 := Option.some.inj h
          subst h9
          exact gv_fk K8 ⟨rfl, ⟨rfl, ⟨rfl, ⟨rfl, trivial⟩⟩⟩⟩
      · rw [if_neg c9] at h
        refine gv_brF c9 ?_
        refine gv_B ok_GE_isQuestion 3 rfl ?_
        by_cases c11 : (v4 &&& 7) < 2
        · rw [if_pos c11] at h
          refine gv_brT c11 ?_
          refine gv_B ok_GE_isQuestion 2 rfl ?_
          have h9 := Option.some.inj h
          subst h9
          exact gv_fk K8 ⟨rfl, ⟨rfl, ⟨rfl, ⟨rfl, trivial⟩⟩⟩⟩
        · rw [if_neg c11] at h
          refine gv_brF c11 ?_
          refine gv_B ok_GE_isQuestion 2 rfl ?_
          have h9 := Option.some.inj h
          subst h9
          exact gv_fk K8 ⟨rfl, ⟨rfl, ⟨rfl, ⟨rfl, trivial⟩⟩⟩⟩
theorem t_GE_isQuestion {x0 : Int32} {μ : Mu} {r : Int32} (h : f_GE_isQuestion x0 μ = some (r)) : gv_ev G (d + 1) M_GE_isQuestion [gR 2, gI x0] (hp n acc g cap μ) (.inl (some (gI r))) (hp n acc g cap μ) := by
  unfold f_GE_isQuestion at h
  refine gv_E (ls := [some (gR 2), some (gI x0), none, none, none, none]) (by decide) (fun h => by cases h) (Nat.le_of_ble_eq_true rfl) rfl ?_
  refine gv_B ok_GE_isQuestion 4 rfl ?_
  exact t_GE_isQuestion_4 _ h
def f_GE_isRule (x0 : Int32) (μ : Mu) : Option (Int32) :=
  (b1 (f_GE_isQuestion x0 μ) fun v2 =>
  if v2 = 0 then
  some (0)
  else
  (b1 (rd (μ 2) 30 0) fun v4 =>
  if (v4 &&& 7) = 6 then
  some (0)
  else
  (b1 (rd (μ 2) 30 0) fun v7 =>
  if 24 ≤ (v7 >>> ((3 : Int32) &&& 31)) then
  some (0)
  else
  some (1))))
theorem t_GE_isRule {x0 : Int32} {μ : Mu} {r : Int32} (h : f_GE_isRule x0 μ = some (r)) : gv_ev G (d + 2) M_GE_isRule [gR 2, gI x0] (hp n acc g cap μ) (.inl (some (gI r))) (hp n acc g cap μ) := by
  unfold f_GE_isRule at h
  refine gv_E (ls := [some (gR 2), some (gI x0)]) (by decide) (fun h => by cases h) (Nat.le_of_ble_eq_true rfl) rfl ?_
  refine gv_B ok_GE_isRule 2 rfl ?_
  obtain ⟨v2, e1, h⟩ := b1_e h
  refine gv_Sc ok_GE_isRule rfl mk_GE_isQuestion rfl (t_GE_isQuestion (d := d) e1) rfl rfl (Nat.le_of_ble_eq_true rfl)  ?_
  refine gv_B ok_GE_isRule 1 rfl ?_
  by_cases c3 : v2 = 0
  · rw [if_pos c3] at h
    refine gv_brT c3 ?_
    refine gv_B ok_GE_isRule 1 rfl ?_
    have h9 := Option.some.inj h
    subst h9
    exact gv_Rz ok_GE_isRule rfl rfl (by decide)
  · rw [if_neg c3] at h
    refine gv_brF c3 ?_
    refine gv_B ok_GE_isRule 2 rfl ?_
    obtain ⟨v4, e5, h⟩ := b1_e h
    refine hp_rd ok_GE_isRule rfl rfl e5 ?_
    refine gv_B ok_GE_isRule 4 rfl ?_
    by_cases c6 : (v4 &&& 7) = 6
    · rw [if_pos c6] at h
      refine gv_brT c6 ?_
      refine gv_B ok_GE_isRule 1 rfl ?_
      have h9 := Option.some.inj h
      subst h9
      exact gv_Rz ok_GE_isRule rfl rfl (by decide)
    · rw [if_neg c6] at h
      refine gv_brF c6 ?_
      refine gv_B ok_GE_isRule 2 rfl ?_
      obtain ⟨v7, e8, h⟩ := b1_e h
      refine hp_rd ok_GE_isRule rfl rfl e8 ?_
      refine gv_B ok_GE_isRule 4 rfl ?_
      by_cases c9 : 24 ≤ (v7 >>> ((3 : Int32) &&& 31))
      · rw [if_pos c9] at h
        refine gv_brT c9 ?_
        refine gv_B ok_GE_isRule 1 rfl ?_
        have h9 := Option.some.inj h
        subst h9
        exact gv_Rz ok_GE_isRule rfl rfl (by decide)
      · rw [if_neg c9] at h
        refine gv_brF c9 ?_
        refine gv_B ok_GE_isRule 2 rfl ?_
        have h9 := Option.some.inj h
        subst h9
        exact gv_Rz ok_GE_isRule rfl rfl (by decide)
def f_CL_read_17 (q : Nat) (k2 : Int32) : Nat → Int32 → Mu → Option (Mu)
  | 0, _, _ => none
  | f + 1, y3, μ =>
    (if k2 ≤ y3 then
    some (μ)
    else
    (b1 (rd (μ 2) 30 y3) fun v2 =>
    b1 (wr μ (q + 1) 30 y3 v2) fun μ4 =>
    b1 (rd (μ4 2) 30 y3) fun v7 =>
    b1 (f_GE_argumentsOf v7 μ4) fun v10 =>
    b1 (if v10 ≤ 0 then
    some (μ4)
    else
    some ((sI μ4 q 3 ((μ4 q 3) + (1 + v10))))) fun μ11 =>
    b1 (rd (μ11 2) 30 y3) fun v16 =>
    b1 (if ¬ (v16 &&& 7) = 0 then
    some (μ11)
    else
    (b1 (rd (μ11 2) 30 y3) fun v22 =>
    some ((sI μ11 q 2 ((μ11 q 2) ||| (1 <<< ((v22 >>> ((3 : Int32) &&& 31)) &&& 31))))))) fun μ18 =>
    f_CL_read_17 q k2 f (y3 + 1) μ18))
def f_CL_read (q : Nat) (x0 : Int32) (μ : Mu) : Option (Mu) :=
  (if clPb q = true then
  (b1 (f_CL_read_17 q x0 fu 0 (sI (sI (sI μ q 1 x0) q 2 0) q 3 0)) fun μ25 =>
  some ((sI μ25 q 3 ((μ25 q 3) + (jbit (μ25 q 2))))))
  else none)
theorem t_CL_read_17 {r : gv_O} {hf : gv_H} {q : Nat} {k2 : Int32} (hq : clPb q = true) (fl : Nat) : ∀ {y3 : Int32} {μ : Mu} {μz : Mu}, f_CL_read_17 q k2 fl y3 μ = some (μz) → gv_go G M_CL_read (d + 1) r hf 88 [some (gR q), none, none, none, none] [] (hp n acc g cap μz) → gv_go G M_CL_read (d + 1) r hf 17 [some (gR q), some (gR 2), some (gI k2), some (gI y3), none] [] (hp n acc g cap μ) := by
  induction fl with
  | zero => intro _ _ _ h _; cases h
  | succ f ih =>
    intro y3 μ μz h KJ
    unfold f_CL_read_17 at h
    refine gv_B ok_CL_read 3 rfl ?_
    by_cases c1 : k2 ≤ y3
    · rw [if_pos c1] at h
      refine gv_brT c1 ?_
      have h9 := Option.some.inj h
      subst h9
      exact gv_fk KJ ⟨rfl, trivial⟩
    · rw [if_neg c1] at h
      refine gv_brF c1 ?_
      refine gv_B ok_CL_read 1 rfl ?_
      refine gv_gf ok_CL_read rfl (tc_o hq _ _ _) rfl ?_
      refine gv_B ok_CL_read 3 rfl ?_
      obtain ⟨v2, e3, h⟩ := b1_e h
      refine hp_rd ok_CL_read rfl rfl e3 ?_
      obtain ⟨μ4, e5, h⟩ := b1_e h
      refine hp_wr ok_CL_read rfl rfl (tc_r hq _ _ _) (tc_r hq _ _ _) e5 ?_
      refine gv_B ok_CL_read 2 rfl ?_
      obtain ⟨v7, e8, h⟩ := b1_e h
      refine hp_rd ok_CL_read rfl rfl e8 ?_
      obtain ⟨v10, e9, h⟩ := b1_e h
      refine gv_Sc ok_CL_read rfl mk_GE_argumentsOf rfl (t_GE_argumentsOf (d := d) e9) rfl rfl (Nat.le_of_ble_eq_true rfl)  ?_
      refine gv_B ok_CL_read 3 rfl ?_
      obtain ⟨μ11, e12, h⟩ := b1_e h
      have K13 : gv_go G M_CL_read (d + 1) r hf 57 [some (gR q), some (gR 2), some (gI k2), some (gI y3), none] [] (hp n acc g cap μ11) := by
        refine gv_B ok_CL_read 2 rfl ?_
        obtain ⟨v16, e17, h⟩ := b1_e h
        refine hp_rd ok_CL_read rfl rfl e17 ?_
        refine gv_B ok_CL_read 3 rfl ?_
        obtain ⟨μ18, e19, h⟩ := b1_e h
        have K20 : gv_go G M_CL_read (d + 1) r hf 82 [some (gR q), some (gR 2), some (gI k2), some (gI y3), none] [] (hp n acc g cap μ18) := by
          refine gv_B ok_CL_read 2 rfl ?_
          exact ih h KJ
        clear h
        have h := e19
        clear e19
        by_cases c21 : ¬ (v16 &&& 7) = 0
        · rw [if_pos c21] at h
          refine gv_brT c21 ?_
          have h9 := Option.some.inj h
          subst h9
          exact K20
        · rw [if_neg c21] at h
          refine gv_brF c21 ?_
          refine gv_B ok_CL_read 2 rfl ?_
          refine gv_gf ok_CL_read rfl (tc_o hq _ _ _) rfl ?_
          refine gv_B ok_CL_read 3 rfl ?_
          obtain ⟨v22, e23, h⟩ := b1_e h
          refine hp_rd ok_CL_read rfl rfl e23 ?_
          refine gv_B ok_CL_read 4 rfl ?_
          refine hp_pf ok_CL_read rfl (tc_0 hq) (tc_o hq _ _ _) (tc_o hq _ _ _) rfl (Nat.le_of_ble_eq_true rfl) rfl ?_
          have h9 := Option.some.inj h
          subst h9
          exact K20
      clear h
      have h := e12
      clear e12
      by_cases c14 : v10 ≤ 0
      · rw [if_pos c14] at h
        refine gv_brT c14 ?_
        have h9 := Option.some.inj h
        subst h9
        exact gv_fk K13 ⟨rfl, ⟨rfl, ⟨rfl, ⟨rfl, trivial⟩⟩⟩⟩
      · rw [if_neg c14] at h
        refine gv_brF c14 ?_
        refine gv_B ok_CL_read 2 rfl ?_
        refine gv_gf ok_CL_read rfl (tc_o hq _ _ _) rfl ?_
        refine gv_B ok_CL_read 4 rfl ?_
        refine hp_pf ok_CL_read rfl (tc_0 hq) (tc_o hq _ _ _) (tc_o hq _ _ _) rfl (Nat.le_of_ble_eq_true rfl) rfl ?_
        have h9 := Option.some.inj h
        subst h9
        exact gv_fk K13 ⟨rfl, ⟨rfl, ⟨rfl, ⟨rfl, trivial⟩⟩⟩⟩
theorem t_CL_read {q : Nat} {x0 : Int32} {μ : Mu} {μr : Mu} (h : f_CL_read q x0 μ = some (μr)) : gv_ev G (d + 1) M_CL_read [gR q, gR 2, gI x0] (hp n acc g cap μ) (.inl none) (hp n acc g cap μr) := by
  unfold f_CL_read at h
  by_cases hq : clPb q = true
  rotate_left
  · rw [if_neg hq] at h
    cases h
  rw [if_pos hq] at h
  refine gv_E (ls := [some (gR q), some (gR 2), some (gI x0), none, none]) (by decide) (fun h => by cases h) (Nat.le_of_ble_eq_true rfl) rfl ?_
  refine gv_B ok_CL_read 2 rfl ?_
  refine hp_pf ok_CL_read rfl (tc_0 hq) (tc_o hq _ _ _) (tc_o hq _ _ _) rfl (Nat.le_of_ble_eq_true rfl) rfl ?_
  refine gv_B ok_CL_read 2 rfl ?_
  refine hp_pf ok_CL_read rfl (tc_0 hq) (tc_o hq _ _ _) (tc_o hq _ _ _) rfl (Nat.le_of_ble_eq_true rfl) rfl ?_
  refine gv_B ok_CL_read 2 rfl ?_
  refine hp_pf ok_CL_read rfl (tc_0 hq) (tc_o hq _ _ _) (tc_o hq _ _ _) rfl (Nat.le_of_ble_eq_true rfl) rfl ?_
  refine gv_B ok_CL_read 2 rfl ?_
  obtain ⟨μ25, e26, h⟩ := b1_e h
  have K27 : gv_go G M_CL_read (d + 1) (.inl none) (hp n acc g cap μr) 88 [some (gR q), none, none, none, none] [] (hp n acc g cap μ25) := by
    refine gv_B ok_CL_read 2 rfl ?_
    refine gv_gf ok_CL_read rfl (tc_o hq _ _ _) rfl ?_
    refine gv_B ok_CL_read 1 rfl ?_
    refine gv_gf ok_CL_read rfl (tc_o hq _ _ _) rfl ?_
    refine gv_Sx (wp := 657) (x9 := 29) (by decide +kernel) (by decide +kernel) mk_J_jbit (t_jbit (d := d)) rfl rfl (Nat.le_of_ble_eq_true rfl) ?_
    refine gv_B ok_CL_read 1 rfl ?_
    refine hp_pf ok_CL_read rfl (tc_0 hq) (tc_o hq _ _ _) (tc_o hq _ _ _) rfl (Nat.le_of_ble_eq_true rfl) rfl ?_
    have h9 := Option.some.inj h
    subst h9
    exact gv_Rv ok_CL_read rfl rfl
  exact t_CL_read_17 hq _ e26 K27
def f_RB_add (x0 : Int32) (μ : Mu) : Option (Mu) :=
  (b1 (clA (μ 3 1)) fun q =>
  b1 (f_CL_read q x0 μ) fun μ2 =>
  some ((sI μ2 3 1 ((μ2 3 1) + 1))))
theorem t_RB_add {x0 : Int32} {μ : Mu} {μr : Mu} (h : f_RB_add x0 μ = some (μr)) : gv_ev G (d + 2) M_RB_add [gR 3, gR 2, gI x0] (hp n acc g cap μ) (.inl none) (hp n acc g cap μr) := by
  unfold f_RB_add at h
  refine gv_E (ls := [some (gR 3), some (gR 2), some (gI x0)]) (by decide) (fun h => by cases h) (Nat.le_of_ble_eq_true rfl) rfl ?_
  refine gv_B ok_RB_add 4 rfl ?_
  obtain ⟨q, e4, h⟩ := b1_e h
  have hq := (clA_e e4).2.2
  refine hp_cl ok_RB_add rfl e4 ?_
  refine gv_B ok_RB_add 2 rfl ?_
  obtain ⟨μ2, e1, h⟩ := b1_e h
  refine gv_Vc ok_RB_add rfl mk_CL_read rfl (t_CL_read (d := d) e1) rfl rfl (Nat.le_of_ble_eq_true rfl) (tc_o hq _ _ _) rfl rfl ?_
  refine gv_B ok_RB_add 5 rfl ?_
  refine hp_pf ok_RB_add rfl rfl rfl rfl rfl (Nat.le_of_ble_eq_true rfl) rfl ?_
  have h9 := Option.some.inj h
  subst h9
  exact gv_Rv ok_RB_add rfl rfl
def f_RB_firstFor_2 (k1 : Int32) : Nat → Int32 → Mu → Option (Int32)
  | 0, _, _ => none
  | f + 1, y3, μ =>
    (if (μ 3 1) ≤ y3 then
    some ((-1))
    else
    (b1 (clA y3) fun q =>
    b1 (rd (μ (q + 1)) 30 0) fun v2 =>
    if ¬ v2 = k1 then
    f_RB_firstFor_2 k1 f (y3 + 1) μ
    else
    some (y3)))
def f_RB_firstFor (x0 : Int32) (x1 : Int32) (μ : Mu) : Option (Int32) :=
  f_RB_firstFor_2 x0 fu x1 μ
theorem t_RB_firstFor_2 {k1 : Int32} (fl : Nat) : ∀ {y3 : Int32} {μ : Mu} {r : Int32}, f_RB_firstFor_2 k1 fl y3 μ = some (r) → gv_go G M_RB_firstFor (d + 0) (.inl (some (gI r))) (hp n acc g cap μ) 2 [some (gR 3), some (gI k1), none, some (gI y3)] [] (hp n acc g cap μ) := by
  induction fl with
  | zero => intro _ _ _ h; cases h
  | succ f ih =>
    intro y3 μ r h
    unfold f_RB_firstFor_2 at h
    refine gv_B ok_RB_firstFor 4 rfl ?_
    by_cases c1 : (μ 3 1) ≤ y3
    · rw [if_pos c1] at h
      refine gv_brT c1 ?_
      refine gv_B ok_RB_firstFor 1 rfl ?_
      have h9 := Option.some.inj h
      subst h9
      exact gv_Ri ok_RB_firstFor rfl rfl
    · rw [if_neg c1] at h
      refine gv_brF c1 ?_
      refine gv_B ok_RB_firstFor 3 rfl ?_
      obtain ⟨q, e5, h⟩ := b1_e h
      have hq := (clA_e e5).2.2
      refine hp_cl ok_RB_firstFor rfl e5 ?_
      refine gv_gf ok_RB_firstFor rfl (tc_o hq _ _ _) rfl ?_
      refine gv_B ok_RB_firstFor 1 rfl ?_
      obtain ⟨v2, e3, h⟩ := b1_e h
      refine hp_rd ok_RB_firstFor rfl (tc_r hq _ _ _) e3 ?_
      refine gv_B ok_RB_firstFor 2 rfl ?_
      by_cases c4 : ¬ v2 = k1
      · rw [if_pos c4] at h
        refine gv_brT c4 ?_
        refine gv_B ok_RB_firstFor 2 rfl ?_
        exact ih h
      · rw [if_neg c4] at h
        refine gv_brF c4 ?_
        refine gv_B ok_RB_firstFor 1 rfl ?_
        have h9 := Option.some.inj h
        subst h9
        exact gv_Ri ok_RB_firstFor rfl rfl
theorem t_RB_firstFor {x0 : Int32} {x1 : Int32} {μ : Mu} {r : Int32} (h : f_RB_firstFor x0 x1 μ = some (r)) : gv_ev G (d + 0) M_RB_firstFor [gR 3, gI x0, gI x1] (hp n acc g cap μ) (.inl (some (gI r))) (hp n acc g cap μ) := by
  unfold f_RB_firstFor at h
  refine gv_E (ls := [some (gR 3), some (gI x0), some (gI x1), none]) (by decide) (fun h => by cases h) (Nat.le_of_ble_eq_true rfl) rfl ?_
  refine gv_B ok_RB_firstFor 2 rfl ?_
  exact gv_fk (t_RB_firstFor_2 _ h) ⟨rfl, ⟨rfl, ⟨rfl, trivial⟩⟩⟩
end FNA
