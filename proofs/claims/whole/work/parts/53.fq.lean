/-! methods as functions of the numbers (written by wip/tools/genf.py, mkf.py) -/
section FNQ
variable {G : gv_G} {d n g cap : Nat} {acc : Nat × Nat}
def f_MO_argumentKind (x0 : Int32) (x1 : Int32) (μ : Mu) : Option (Int32) :=
  (b1 (rd (μ 79) 720 ((3 * x0) + x1)) fun v1 =>
  b1 (rd (μ 76) 240 v1) fun v3 =>
  some (v3))
theorem t_MO_argumentKind {x0 : Int32} {x1 : Int32} {μ : Mu} {r : Int32} (h : f_MO_argumentKind x0 x1 μ = some (r)) : gv_ev G (d + 0) M_MO_argumentKind [gR 70, gI x0, gI x1] (hp n acc g cap μ) (.inl (some (gI r))) (hp n acc g cap μ) := by
  unfold f_MO_argumentKind at h
  refine gv_E (ls := [some (gR 70), some (gI x0), some (gI x1)]) (by decide) (fun h => by cases h) (Nat.le_of_ble_eq_true rfl) rfl ?_
  refine gv_B ok_MO_argumentKind 9 rfl ?_
  obtain ⟨v1, e2, h⟩ := b1_e h
  refine hp_rd ok_MO_argumentKind rfl rfl e2 ?_
  obtain ⟨v3, e4, h⟩ := b1_e h
  refine hp_rd ok_MO_argumentKind rfl rfl e4 ?_
  have h9 := Option.some.inj h
  subst h9
  exact gv_Ri ok_MO_argumentKind rfl rfl
def f_MO_argumentValue (x0 : Int32) (x1 : Int32) (μ : Mu) : Option (Int32) :=
  (b1 (rd (μ 79) 720 ((3 * x0) + x1)) fun v1 =>
  b1 (rd (μ 77) 240 v1) fun v3 =>
  some (v3))
theorem t_MO_argumentValue {x0 : Int32} {x1 : Int32} {μ : Mu} {r : Int32} (h : f_MO_argumentValue x0 x1 μ = some (r)) : gv_ev G (d + 0) M_MO_argumentValue [gR 70, gI x0, gI x1] (hp n acc g cap μ) (.inl (some (gI r))) (hp n acc g cap μ) := by
  unfold f_MO_argumentValue at h
  refine gv_E (ls := [some (gR 70), some (gI x0), some (gI x1)]) (by decide) (fun h => by cases h) (Nat.le_of_ble_eq_true rfl) rfl ?_
  refine gv_B ok_MO_argumentValue 9 rfl ?_
  obtain ⟨v1, e2, h⟩ := b1_e h
  refine hp_rd ok_MO_argumentValue rfl rfl e2 ?_
  obtain ⟨v3, e4, h⟩ := b1_e h
  refine hp_rd ok_MO_argumentValue rfl rfl e4 ?_
  have h9 := Option.some.inj h
  subst h9
  exact gv_Ri ok_MO_argumentValue rfl rfl
def f_MO_known (x0 : Int32) (x1 : Int32) (μ : Mu) : Option (Mu) :=
  (b1 (f_MO_argumentKind x1 0 μ) fun v2 =>
  b1 (f_MO_argumentValue x1 0 μ) fun v4 =>
  b1 (f_MO_argumentKind x1 1 μ) fun v6 =>
  b1 (f_MO_argumentValue x1 1 μ) fun v8 =>
  if ¬ x0 = 24 then
  (b2 (if ¬ x0 = 25 then
  (b2 (f_MO_calculate v2 v4 μ) fun v16 μ17 =>
  some (v16, μ17))
  else
  some ((0 : Int32), μ)) fun v10 μ11 =>
  b2 (if x0 = 25 then
  (b2 (f_MO_calculate v6 v8 μ11) fun v24 μ25 =>
  some (v24, μ25))
  else
  (if ¬ (μ11 70 49) = 0 then
  some ((0 : Int32), μ11)
  else
  (b2 (f_MO_calculate v6 v8 μ11) fun v28 μ29 =>
  some (v28, μ29)))) fun v18 μ19 =>
  if (μ19 70 49) = 0 then
  (if ¬ x0 = 25 then
  (b1 (if ¬ x0 = 26 then
  (if ¬ v10 = v18 then
  some ((1 : Int32))
  else
  some ((0 : Int32)))
  else
  (if v18 ≤ v10 then
  some ((1 : Int32))
  else
  some ((0 : Int32)))) fun v32 =>
  some ((sI μ19 70 49 v32)))
  else
  (b1 (f_MO_unify v2 v4 1 v18 μ19) fun μ39 =>
  some (μ39)))
  else
  some (μ19))
  else
  (b1 (f_MO_unify v2 v4 v6 v8 μ) fun μ41 =>
  some (μ41)))
theorem t_MO_known {x0 : Int32} {x1 : Int32} {μ : Mu} {μr : Mu} (h : f_MO_known x0 x1 μ = some (μr)) : gv_ev G (d + 5) M_MO_known [gR 70, gI x0, gI x1] (hp n acc g cap μ) (.inl none) (hp n acc g cap μr) := by
  unfold f_MO_known at h
  refine gv_E (ls := [some (gR 70), some (gI x0), some (gI x1), none, none, none, none, none, none]) (by decide) (fun h => by cases h) (Nat.le_of_ble_eq_true rfl) rfl ?_
  refine gv_B ok_MO_known 3 rfl ?_
  obtain ⟨v2, e1, h⟩ := b1_e h
  refine gv_Vc ok_MO_known rfl mk_MO_argumentKind rfl (t_MO_argumentKind (d := d + 4) e1) rfl rfl (Nat.le_of_ble_eq_true rfl) rfl rfl rfl ?_
  refine gv_B ok_MO_known 4 rfl ?_
  obtain ⟨v4, e3, h⟩ := b1_e h
  refine gv_Vc ok_MO_known rfl mk_MO_argumentValue rfl (t_MO_argumentValue (d := d + 4) e3) rfl rfl (Nat.le_of_ble_eq_true rfl) rfl rfl rfl ?_
  refine gv_B ok_MO_known 4 rfl ?_
  obtain ⟨v6, e5, h⟩ := b1_e h
  refine gv_Vc ok_MO_known rfl mk_MO_argumentKind rfl (t_MO_argumentKind (d := d + 4) e5) rfl rfl (Nat.le_of_ble_eq_true rfl) rfl rfl rfl ?_
  refine gv_B ok_MO_known 4 rfl ?_
  obtain ⟨v8, e7, h⟩ := b1_e h
  refine gv_Vc ok_MO_known rfl mk_MO_argumentValue rfl (t_MO_argumentValue (d := d + 4) e7) rfl rfl (Nat.le_of_ble_eq_true rfl) rfl rfl rfl ?_
  refine gv_B ok_MO_known 4 rfl ?_
  by_cases c9 : ¬ x0 = 24
  · rw [if_pos c9] at h
    refine gv_brT c9 ?_
    refine gv_B ok_MO_known 3 rfl ?_
    obtain ⟨v10, μ11, e12, h⟩ := b2_e h
    have K13 : gv_go G M_MO_known (d + 5) (.inl none) (hp n acc g cap μr) 66 [some (gR 70), some (gI x0), none, some (gI v2), some (gI v4), some (gI v6), some (gI v8), none, none] [gI v10] (hp n acc g cap μ11) := by
      refine gv_B ok_MO_known 4 rfl ?_
      obtain ⟨v18, μ19, e20, h⟩ := b2_e h
      have K21 : gv_go G M_MO_known (d + 5) (.inl none) (hp n acc g cap μr) 93 [some (gR 70), some (gI x0), none, some (gI v2), some (gI v4), none, none, some (gI v10), none] [gI v18] (hp n acc g cap μ19) := by
        refine gv_B ok_MO_known 4 rfl ?_
        by_cases c30 : (μ19 70 49) = 0
        · rw [if_pos c30] at h
          refine gv_brT c30 ?_
          refine gv_B ok_MO_known 3 rfl ?_
          by_cases c31 : ¬ x0 = 25
          · rw [if_pos c31] at h
            refine gv_brT c31 ?_
            refine gv_B ok_MO_known 4 rfl ?_
            obtain ⟨v32, e33, h⟩ := b1_e h
            have K34 : gv_go G M_MO_known (d + 5) (.inl none) (hp n acc g cap μr) 151 [none, none, none, none, none, none, none, none, none] [gI v32, gR 70] (hp n acc g cap μ19) := by
              refine hp_pf ok_MO_known rfl rfl rfl rfl rfl (Nat.le_of_ble_eq_true rfl) rfl ?_
              have h9 := Option.some.inj h
              subst h9
              exact gv_Rv ok_MO_known rfl rfl
            clear h
            have h := e33
            clear e33
            by_cases c35 : ¬ x0 = 26
            · rw [if_pos c35] at h
              refine gv_brT c35 ?_
              refine gv_B ok_MO_known 3 rfl ?_
              by_cases c36 : ¬ v10 = v18
              · rw [if_pos c36] at h
                refine gv_brT c36 ?_
                refine gv_B ok_MO_known 1 rfl ?_
                have h9 := Option.some.inj h
                subst h9
                exact gv_fk K34 trivial
              · rw [if_neg c36] at h
                refine gv_brF c36 ?_
                refine gv_B ok_MO_known 2 rfl ?_
                have h9 := Option.some.inj h
                subst h9
                exact gv_fk K34 trivial
            · rw [if_neg c35] at h
              refine gv_brF c35 ?_
              refine gv_B ok_MO_known 3 rfl ?_
              by_cases c37 : v18 ≤ v10
              · rw [if_pos c37] at h
                refine gv_brT c37 ?_
                refine gv_B ok_MO_known 1 rfl ?_
                have h9 := Option.some.inj h
                subst h9
                exact gv_fk K34 trivial
              · rw [if_neg c37] at h
                refine gv_brF c37 ?_
                refine gv_B ok_MO_known 3 rfl ?_
                have h9 := Option.some.inj h
                subst h9
                exact gv_fk K34 trivial
          · rw [if_neg c31] at h
            refine gv_brF c31 ?_
            refine gv_B ok_MO_known 5 rfl ?_
            obtain ⟨μ39, e38, h⟩ := b1_e h
            refine gv_Vc ok_MO_known rfl mk_MO_unify rfl (t_MO_unify (d := d) e38) rfl rfl (Nat.le_of_ble_eq_true rfl) rfl rfl rfl ?_
            refine gv_B ok_MO_known 1 rfl ?_
            have h9 := Option.some.inj h
            subst h9
            exact gv_Rv ok_MO_known rfl rfl
        · rw [if_neg c30] at h
          refine gv_brF c30 ?_
          have h9 := Option.some.inj h
          subst h9
          exact gv_Rv ok_MO_known rfl rfl
      clear h
      have h := e20
      clear e20
      by_cases c22 : x0 = 25
      · rw [if_pos c22] at h
        refine gv_brT c22 ?_
        refine gv_B ok_MO_known 3 rfl ?_
        obtain ⟨v24, μ25, e23, h⟩ := b2_e h
        refine gv_Vc ok_MO_known rfl mk_MO_calculate rfl (t_MO_calculate (d := d + 2) e23) rfl rfl (Nat.le_of_ble_eq_true rfl) rfl rfl rfl ?_
        refine gv_B ok_MO_known 1 rfl ?_
        have j0 := Option.some.inj h
        obtain ⟨i1, j1⟩ := Prod.mk.inj j0
        subst i1
        subst j1
        exact gv_fk K21 ⟨rfl, ⟨rfl, ⟨rfl, ⟨rfl, ⟨rfl, trivial⟩⟩⟩⟩⟩
      · rw [if_neg c22] at h
        refine gv_brF c22 ?_
        refine gv_B ok_MO_known 3 rfl ?_
        by_cases c26 : ¬ (μ11 70 49) = 0
        · rw [if_pos c26] at h
          refine gv_brT c26 ?_
          refine gv_B ok_MO_known 1 rfl ?_
          have j0 := Option.some.inj h
          obtain ⟨i1, j1⟩ := Prod.mk.inj j0
          subst i1
          subst j1
          exact gv_fk K21 ⟨rfl, ⟨rfl, ⟨rfl, ⟨rfl, ⟨rfl, trivial⟩⟩⟩⟩⟩
        · rw [if_neg c26] at h
          refine gv_brF c26 ?_
          refine gv_B ok_MO_known 3 rfl ?_
          obtain ⟨v28, μ29, e27, h⟩ := b2_e h
          refine gv_Vc ok_MO_known rfl mk_MO_calculate rfl (t_MO_calculate (d := d + 2) e27) rfl rfl (Nat.le_of_ble_eq_true rfl) rfl rfl rfl ?_
          refine gv_B ok_MO_known 1 rfl ?_
          have j0 := Option.some.inj h
          obtain ⟨i1, j1⟩ := Prod.mk.inj j0
          subst i1
          subst j1
          exact gv_fk K21 ⟨rfl, ⟨rfl, ⟨rfl, ⟨rfl, ⟨rfl, trivial⟩⟩⟩⟩⟩
    clear h
    have h := e12
    clear e12
    by_cases c14 : ¬ x0 = 25
    · rw [if_pos c14] at h
      refine gv_brT c14 ?_
      refine gv_B ok_MO_known 3 rfl ?_
      obtain ⟨v16, μ17, e15, h⟩ := b2_e h
      refine gv_Vc ok_MO_known rfl mk_MO_calculate rfl (t_MO_calculate (d := d + 2) e15) rfl rfl (Nat.le_of_ble_eq_true rfl) rfl rfl rfl ?_
      have j0 := Option.some.inj h
      obtain ⟨i1, j1⟩ := Prod.mk.inj j0
      subst i1
      subst j1
      exact gv_fk K13 ⟨rfl, ⟨rfl, ⟨rfl, ⟨rfl, ⟨rfl, ⟨rfl, trivial⟩⟩⟩⟩⟩⟩
    · rw [if_neg c14] at h
      refine gv_brF c14 ?_
      refine gv_B ok_MO_known 2 rfl ?_
      have j0 := Option.some.inj h
      obtain ⟨i1, j1⟩ := Prod.mk.inj j0
      subst i1
      subst j1
      exact gv_fk K13 ⟨rfl, ⟨rfl, ⟨rfl, ⟨rfl, ⟨rfl, ⟨rfl, trivial⟩⟩⟩⟩⟩⟩
  · rw [if_neg c9] at h
    refine gv_brF c9 ?_
    refine gv_B ok_MO_known 5 rfl ?_
    obtain ⟨μ41, e40, h⟩ := b1_e h
    refine gv_Vc ok_MO_known rfl mk_MO_unify rfl (t_MO_unify (d := d) e40) rfl rfl (Nat.le_of_ble_eq_true rfl) rfl rfl rfl ?_
    have h9 := Option.some.inj h
    subst h9
    exact gv_Rv ok_MO_known rfl rfl
def f_MO_step (μ : Mu) : Option (Mu) :=
  (b1 (f_MO_kindOf (μ 70 16) (sI (sI μ 70 27 ((μ 70 27) - 1)) 70 49 0)) fun v2 =>
  b1 (f_MO_valueOf (μ 70 16) (sI (sI μ 70 27 ((μ 70 27) - 1)) 70 49 0)) fun v4 =>
  b1 (rd (μ 81) 8900 (μ 70 16)) fun v5 =>
  b1 (if ¬ v2 = 3 then
  some ((-1 : Int32))
  else
  (b1 (rd (μ 78) 240 v4) fun v11 =>
  b1 (f_MO_arity v11 (sI (sI (sI (sI μ 70 27 ((μ 70 27) - 1)) 70 49 0) 70 16 v5) 70 17 (-1))) fun v14 =>
  if ¬ v14 = 2 then
  some ((-1 : Int32))
  else
  (b1 (rd (μ 78) 240 v4) fun v16 =>
  some ((v16 >>> ((3 : Int32) &&& 31)))))) fun v7 =>
  b1 (if (μ 70 17) < 0 then
  (if ¬ v2 = 6 then
  (if v7 ≤ 23 then
  (b1 (f_MO_wordOf v2 v4 (sI (sI (sI (sI μ 70 27 ((μ 70 27) - 1)) 70 49 0) 70 16 v5) 70 17 (-1))) fun v25 =>
  b1 (f_MO_ruleFor v25 0 (sI (sI (sI (sI μ 70 27 ((μ 70 27) - 1)) 70 49 0) 70 16 v5) 70 17 (-1))) fun v27 =>
  b1 (if 0 ≤ v27 then
  some ((0 : Int32))
  else
  some ((1 : Int32))) fun v28 =>
  if v27 < 0 then
  some ((sI (sI (sI (sI (sI μ 70 27 ((μ 70 27) - 1)) 70 49 0) 70 16 v5) 70 17 (-1)) 70 49 v28))
  else
  (b1 (f_MO_attempt v27 (μ 70 16) (sI (sI (sI (sI (sI μ 70 27 ((μ 70 27) - 1)) 70 49 0) 70 16 v5) 70 17 (-1)) 70 49 v28)) fun μ34 =>
  some (μ34)))
  else
  (if 28 ≤ v7 then
  (b1 (f_MO_wordOf v2 v4 (sI (sI (sI (sI μ 70 27 ((μ 70 27) - 1)) 70 49 0) 70 16 v5) 70 17 (-1))) fun v37 =>
  b1 (f_MO_ruleFor v37 0 (sI (sI (sI (sI μ 70 27 ((μ 70 27) - 1)) 70 49 0) 70 16 v5) 70 17 (-1))) fun v39 =>
  b1 (if 0 ≤ v39 then
  some ((0 : Int32))
  else
  some ((1 : Int32))) fun v40 =>
  if v39 < 0 then
  some ((sI (sI (sI (sI (sI μ 70 27 ((μ 70 27) - 1)) 70 49 0) 70 16 v5) 70 17 (-1)) 70 49 v40))
  else
  (b1 (f_MO_attempt v39 (μ 70 16) (sI (sI (sI (sI (sI μ 70 27 ((μ 70 27) - 1)) 70 49 0) 70 16 v5) 70 17 (-1)) 70 49 v40)) fun μ46 =>
  some (μ46)))
  else
  (b1 (f_MO_known v7 v4 (sI (sI (sI (sI μ 70 27 ((μ 70 27) - 1)) 70 49 0) 70 16 v5) 70 17 (-1))) fun μ48 =>
  some (μ48))))
  else
  (b1 (rd (μ 80) 8900 (μ 70 16)) fun v49 =>
  b1 (if (μ 70 18) ≤ (v49 >>> ((11 : Int32) &&& 31)) then
  some ((μ 70 18))
  else
  some ((v49 >>> ((11 : Int32) &&& 31)))) fun v51 =>
  some ((sI (sI (sI (sI (sI μ 70 27 ((μ 70 27) - 1)) 70 49 0) 70 16 v5) 70 17 (-1)) 70 18 v51))))
  else
  (b1 (f_MO_attempt (μ 70 17) (μ 70 16) (sI (sI (sI (sI μ 70 27 ((μ 70 27) - 1)) 70 49 0) 70 16 v5) 70 17 (-1))) fun μ56 =>
  some (μ56))) fun μ18 =>
  if ¬ (μ18 70 49) = 1 then
  (if (μ18 70 49) ≤ 1 then
  (b1 (if 0 ≤ (μ18 70 16) then
  some ((0 : Int32))
  else
  some ((1 : Int32))) fun v59 =>
  if (v59 = 0 ∨ v59 = 1) then some ((sI μ18 70 26 v59)) else none)
  else
  (b1 (f_MO_end (sI μ18 70 0 ((μ18 70 49) + 1))) fun μ65 =>
  some (μ65)))
  else
  (b1 (f_MO_fail μ18) fun μ67 =>
  some (μ67)))
theorem t_MO_step {μ : Mu} {μr : Mu} (h : f_MO_step μ = some (μr)) : gv_ev G (d + 6) M_MO_step [gR 70] (hp n acc g cap μ) (.inl none) (hp n acc g cap μr) := by
  unfold f_MO_step at h
  refine gv_E (ls := [some (gR 70), none, none, none, none, none, none]) (by decide) (fun h => by cases h) (Nat.le_of_ble_eq_true rfl) rfl ?_
  refine gv_B ok_MO_step 5 rfl ?_
  refine hp_pf ok_MO_step rfl rfl rfl rfl rfl (Nat.le_of_ble_eq_true rfl) rfl ?_
  refine gv_B ok_MO_step 2 rfl ?_
  refine hp_pf ok_MO_step rfl rfl rfl rfl rfl (Nat.le_of_ble_eq_true rfl) rfl ?_
  refine gv_B ok_MO_step 8 rfl ?_
  obtain ⟨v2, e1, h⟩ := b1_e h
  refine gv_Vc ok_MO_step rfl mk_MO_kindOf rfl (t_MO_kindOf (d := d + 5) e1) rfl rfl (Nat.le_of_ble_eq_true rfl) rfl rfl rfl ?_
  refine gv_B ok_MO_step 3 rfl ?_
  obtain ⟨v4, e3, h⟩ := b1_e h
  refine gv_Vc ok_MO_step rfl mk_MO_valueOf rfl (t_MO_valueOf (d := d + 5) e3) rfl rfl (Nat.le_of_ble_eq_true rfl) rfl rfl rfl ?_
  refine gv_B ok_MO_step 5 rfl ?_
  obtain ⟨v5, e6, h⟩ := b1_e h
  refine hp_rd ok_MO_step rfl rfl e6 ?_
  refine hp_pf ok_MO_step rfl rfl rfl rfl rfl (Nat.le_of_ble_eq_true rfl) rfl ?_
  refine gv_B ok_MO_step 2 rfl ?_
  refine hp_pf ok_MO_step rfl rfl rfl rfl rfl (Nat.le_of_ble_eq_true rfl) rfl ?_
  refine gv_B ok_MO_step 3 rfl ?_
  obtain ⟨v7, e8, h⟩ := b1_e h
  have K9 : gv_go G M_MO_step (d + 6) (.inl none) (hp n acc g cap μr) 86 [some (gR 70), some (gI (μ 70 16)), some (gI (μ 70 17)), some (gI v2), some (gI v4), none, none] [gI v7] (hp n acc g cap (sI (sI (sI (sI μ 70 27 ((μ 70 27) - 1)) 70 49 0) 70 16 v5) 70 17 (-1))) := by
    refine gv_B ok_MO_step 3 rfl ?_
    obtain ⟨μ18, e19, h⟩ := b1_e h
    have K20 : gv_go G M_MO_step (d + 6) (.inl none) (hp n acc g cap μr) 204 [some (gR 70), none, none, none, none, none, none] [] (hp n acc g cap μ18) := by
      refine gv_B ok_MO_step 4 rfl ?_
      by_cases c57 : ¬ (μ18 70 49) = 1
      · rw [if_pos c57] at h
        refine gv_brT c57 ?_
        refine gv_B ok_MO_step 4 rfl ?_
        by_cases c58 : (μ18 70 49) ≤ 1
        · rw [if_pos c58] at h
          refine gv_brT c58 ?_
          refine gv_B ok_MO_step 4 rfl ?_
          obtain ⟨v59, e60, h⟩ := b1_e h
          have K61 : gv_go G M_MO_step (d + 6) (.inl none) (hp n acc g cap μr) 257 [none, none, none, none, none, none, none] [gI v59, gR 70] (hp n acc g cap μ18) := by
            by_cases c63 : (v59 = 0 ∨ v59 = 1)
            rotate_left
            · rw [if_neg c63] at h
              cases h
            rw [if_pos c63] at h
            refine hp_pf ok_MO_step rfl rfl rfl rfl rfl (Nat.le_of_ble_eq_true rfl) (decide_eq_true c63) ?_
            have h9 := Option.some.inj h
            subst h9
            exact gv_Rv ok_MO_step rfl rfl
          clear h
          have h := e60
          clear e60
          by_cases c62 : 0 ≤ (μ18 70 16)
          · rw [if_pos c62] at h
            refine gv_brT c62 ?_
            refine gv_B ok_MO_step 1 rfl ?_
            have h9 := Option.some.inj h
            subst h9
            exact gv_fk K61 trivial
          · rw [if_neg c62] at h
            refine gv_brF c62 ?_
            refine gv_B ok_MO_step 2 rfl ?_
            have h9 := Option.some.inj h
            subst h9
            exact gv_fk K61 trivial
        · rw [if_neg c58] at h
          refine gv_brF c58 ?_
          refine gv_B ok_MO_step 5 rfl ?_
          refine hp_pf ok_MO_step rfl rfl rfl rfl rfl (Nat.le_of_ble_eq_true rfl) rfl ?_
          refine gv_B ok_MO_step 1 rfl ?_
          obtain ⟨μ65, e64, h⟩ := b1_e h
          refine gv_Vc ok_MO_step rfl mk_MO_end rfl (t_MO_end (d := d + 5) e64) rfl rfl (Nat.le_of_ble_eq_true rfl) rfl rfl rfl ?_
          refine gv_B ok_MO_step 1 rfl ?_
          have h9 := Option.some.inj h
          subst h9
          exact gv_Rv ok_MO_step rfl rfl
      · rw [if_neg c57] at h
        refine gv_brF c57 ?_
        refine gv_B ok_MO_step 1 rfl ?_
        obtain ⟨μ67, e66, h⟩ := b1_e h
        refine gv_Vc ok_MO_step rfl mk_MO_fail rfl (t_MO_fail (d := d + 4) e66) rfl rfl (Nat.le_of_ble_eq_true rfl) rfl rfl rfl ?_
        refine gv_B ok_MO_step 1 rfl ?_
        have h9 := Option.some.inj h
        subst h9
        exact gv_Rv ok_MO_step rfl rfl
    clear h
    have h := e19
    clear e19
    by_cases c21 : (μ 70 17) < 0
    · rw [if_pos c21] at h
      refine gv_brT c21 ?_
      refine gv_B ok_MO_step 3 rfl ?_
      by_cases c22 : ¬ v2 = 6
      · rw [if_pos c22] at h
        refine gv_brT c22 ?_
        refine gv_B ok_MO_step 3 rfl ?_
        by_cases c23 : v7 ≤ 23
        · rw [if_pos c23] at h
          refine gv_brT c23 ?_
          refine gv_B ok_MO_step 4 rfl ?_
          obtain ⟨v25, e24, h⟩ := b1_e h
          refine gv_Vc ok_MO_step rfl mk_MO_wordOf rfl (t_MO_wordOf (d := d + 5) e24) rfl rfl (Nat.le_of_ble_eq_true rfl) rfl rfl rfl ?_
          refine gv_B ok_MO_step 1 rfl ?_
          obtain ⟨v27, e26, h⟩ := b1_e h
          refine gv_Vc ok_MO_step rfl mk_MO_ruleFor rfl (t_MO_ruleFor (d := d + 5) e26) rfl rfl (Nat.le_of_ble_eq_true rfl) rfl rfl rfl ?_
          refine gv_B ok_MO_step 4 rfl ?_
          obtain ⟨v28, e29, h⟩ := b1_e h
          have K30 : gv_go G M_MO_step (d + 6) (.inl none) (hp n acc g cap μr) 191 [some (gR 70), some (gI (μ 70 16)), some (gI v27), none, none, none, none] [gI v28, gR 70] (hp n acc g cap (sI (sI (sI (sI μ 70 27 ((μ 70 27) - 1)) 70 49 0) 70 16 v5) 70 17 (-1))) := by
            refine hp_pf ok_MO_step rfl rfl rfl rfl rfl (Nat.le_of_ble_eq_true rfl) rfl ?_
            refine gv_B ok_MO_step 2 rfl ?_
            by_cases c32 : v27 < 0
            · rw [if_pos c32] at h
              refine gv_brT c32 ?_
              have h9 := Option.some.inj h
              subst h9
              exact gv_fk K20 ⟨rfl, trivial⟩
            · rw [if_neg c32] at h
              refine gv_brF c32 ?_
              refine gv_B ok_MO_step 3 rfl ?_
              obtain ⟨μ34, e33, h⟩ := b1_e h
              refine gv_Vc ok_MO_step rfl mk_MO_attempt rfl (t_MO_attempt (d := d) e33) rfl rfl (Nat.le_of_ble_eq_true rfl) rfl rfl rfl ?_
              have h9 := Option.some.inj h
              subst h9
              exact gv_fk K20 ⟨rfl, trivial⟩
          clear h
          have h := e29
          clear e29
          by_cases c31 : 0 ≤ v27
          · rw [if_pos c31] at h
            refine gv_brT c31 ?_
            refine gv_B ok_MO_step 1 rfl ?_
            have h9 := Option.some.inj h
            subst h9
            exact gv_fk K30 ⟨rfl, ⟨rfl, ⟨rfl, trivial⟩⟩⟩
          · rw [if_neg c31] at h
            refine gv_brF c31 ?_
            refine gv_B ok_MO_step 2 rfl ?_
            have h9 := Option.some.inj h
            subst h9
            exact gv_fk K30 ⟨rfl, ⟨rfl, ⟨rfl, trivial⟩⟩⟩
        · rw [if_neg c23] at h
          refine gv_brF c23 ?_
          refine gv_B ok_MO_step 3 rfl ?_
          by_cases c35 : 28 ≤ v7
          · rw [if_pos c35] at h
            refine gv_brT c35 ?_
            refine gv_B ok_MO_step 4 rfl ?_
            obtain ⟨v37, e36, h⟩ := b1_e h
            refine gv_Vc ok_MO_step rfl mk_MO_wordOf rfl (t_MO_wordOf (d := d + 5) e36) rfl rfl (Nat.le_of_ble_eq_true rfl) rfl rfl rfl ?_
            refine gv_B ok_MO_step 1 rfl ?_
            obtain ⟨v39, e38, h⟩ := b1_e h
            refine gv_Vc ok_MO_step rfl mk_MO_ruleFor rfl (t_MO_ruleFor (d := d + 5) e38) rfl rfl (Nat.le_of_ble_eq_true rfl) rfl rfl rfl ?_
            refine gv_B ok_MO_step 4 rfl ?_
            obtain ⟨v40, e41, h⟩ := b1_e h
            have K42 : gv_go G M_MO_step (d + 6) (.inl none) (hp n acc g cap μr) 191 [some (gR 70), some (gI (μ 70 16)), some (gI v39), none, none, none, none] [gI v40, gR 70] (hp n acc g cap (sI (sI (sI (sI μ 70 27 ((μ 70 27) - 1)) 70 49 0) 70 16 v5) 70 17 (-1))) := by
              refine hp_pf ok_MO_step rfl rfl rfl rfl rfl (Nat.le_of_ble_eq_true rfl) rfl ?_
              refine gv_B ok_MO_step 2 rfl ?_
              by_cases c44 : v39 < 0
              · rw [if_pos c44] at h
                refine gv_brT c44 ?_
                have h9 := Option.some.inj h
                subst h9
                exact gv_fk K20 ⟨rfl, trivial⟩
              · rw [if_neg c44] at h
                refine gv_brF c44 ?_
                refine gv_B ok_MO_step 3 rfl ?_
                obtain ⟨μ46, e45, h⟩ := b1_e h
                refine gv_Vc ok_MO_step rfl mk_MO_attempt rfl (t_MO_attempt (d := d) e45) rfl rfl (Nat.le_of_ble_eq_true rfl) rfl rfl rfl ?_
                have h9 := Option.some.inj h
                subst h9
                exact gv_fk K20 ⟨rfl, trivial⟩
            clear h
            have h := e41
            clear e41
            by_cases c43 : 0 ≤ v39
            · rw [if_pos c43] at h
              refine gv_brT c43 ?_
              refine gv_B ok_MO_step 1 rfl ?_
              have h9 := Option.some.inj h
              subst h9
              exact gv_fk K42 ⟨rfl, ⟨rfl, ⟨rfl, trivial⟩⟩⟩
            · rw [if_neg c43] at h
              refine gv_brF c43 ?_
              refine gv_B ok_MO_step 2 rfl ?_
              have h9 := Option.some.inj h
              subst h9
              exact gv_fk K42 ⟨rfl, ⟨rfl, ⟨rfl, trivial⟩⟩⟩
          · rw [if_neg c35] at h
            refine gv_brF c35 ?_
            refine gv_B ok_MO_step 3 rfl ?_
            obtain ⟨μ48, e47, h⟩ := b1_e h
            refine gv_Vc ok_MO_step rfl mk_MO_known rfl (t_MO_known (d := d) e47) rfl rfl (Nat.le_of_ble_eq_true rfl) rfl rfl rfl ?_
            refine gv_B ok_MO_step 1 rfl ?_
            have h9 := Option.some.inj h
            subst h9
            exact gv_fk K20 ⟨rfl, trivial⟩
      · rw [if_neg c22] at h
        refine gv_brF c22 ?_
        refine gv_B ok_MO_step 3 rfl ?_
        obtain ⟨v49, e50, h⟩ := b1_e h
        refine hp_rd ok_MO_step rfl rfl e50 ?_
        refine gv_B ok_MO_step 8 rfl ?_
        obtain ⟨v51, e52, h⟩ := b1_e h
        have K53 : gv_go G M_MO_step (d + 6) (.inl none) (hp n acc g cap μr) 137 [some (gR 70), none, none, none, none, none, none] [gI v51, gR 70] (hp n acc g cap (sI (sI (sI (sI μ 70 27 ((μ 70 27) - 1)) 70 49 0) 70 16 v5) 70 17 (-1))) := by
          refine hp_pf ok_MO_step rfl rfl rfl rfl rfl (Nat.le_of_ble_eq_true rfl) rfl ?_
          refine gv_B ok_MO_step 1 rfl ?_
          have h9 := Option.some.inj h
          subst h9
          exact K20
        clear h
        have h := e52
        clear e52
        by_cases c54 : (μ 70 18) ≤ (v49 >>> ((11 : Int32) &&& 31))
        · rw [if_pos c54] at h
          refine gv_brT c54 ?_
          refine gv_B ok_MO_step 2 rfl ?_
          have h9 := Option.some.inj h
          subst h9
          exact gv_fk K53 ⟨rfl, trivial⟩
        · rw [if_neg c54] at h
          refine gv_brF c54 ?_
          refine gv_B ok_MO_step 2 rfl ?_
          have h9 := Option.some.inj h
          subst h9
          exact gv_fk K53 ⟨rfl, trivial⟩
    · rw [if_neg c21] at h
      refine gv_brF c21 ?_
      refine gv_B ok_MO_step 3 rfl ?_
      obtain ⟨μ56, e55, h⟩ := b1_e h
      refine gv_Vc ok_MO_step rfl mk_MO_attempt rfl (t_MO_attempt (d := d) e55) rfl rfl (Nat.le_of_ble_eq_true rfl) rfl rfl rfl ?_
      refine gv_B ok_MO_step 1 rfl ?_
      have h9 := Option.some.inj h
      subst h9
      exact gv_fk K20 ⟨rfl, trivial⟩
  clear h
  have h := e8
  clear e8
  by_cases c10 : ¬ v2 = 3
  · rw [if_pos c10] at h
    refine gv_brT c10 ?_
    refine gv_B ok_MO_step 1 rfl ?_
    have h9 := Option.some.inj h
    subst h9
    exact K9
  · rw [if_neg c10] at h
    refine gv_brF c10 ?_
    refine gv_B ok_MO_step 4 rfl ?_
    obtain ⟨v11, e12, h⟩ := b1_e h
    refine hp_rd ok_MO_step rfl rfl e12 ?_
    obtain ⟨v14, e13, h⟩ := b1_e h
    refine gv_Vc ok_MO_step rfl mk_MO_arity rfl (t_MO_arity (d := d + 5) e13) rfl rfl (Nat.le_of_ble_eq_true rfl) rfl rfl rfl ?_
    refine gv_B ok_MO_step 2 rfl ?_
    by_cases c15 : ¬ v14 = 2
    · rw [if_pos c15] at h
      refine gv_brT c15 ?_
      refine gv_B ok_MO_step 1 rfl ?_
      have h9 := Option.some.inj h
      subst h9
      exact K9
    · rw [if_neg c15] at h
      refine gv_brF c15 ?_
      refine gv_B ok_MO_step 3 rfl ?_
      obtain ⟨v16, e17, h⟩ := b1_e h
      refine hp_rd ok_MO_step rfl rfl e17 ?_
      refine gv_B ok_MO_step 3 rfl ?_
      have h9 := Option.some.inj h
      subst h9
      exact K9
def f_MO_solve_40 (k1 : Int32) : Nat → Int32 → Mu → Option (Mu)
  | 0, _, _ => none
  | f + 1, y2, μ =>
    (if k1 ≤ y2 then
    some (μ)
    else
    (if ¬ (μ 70 0) = 0 then
    some (μ)
    else
    (if (μ 70 25) = 0 then
    some (μ)
    else
    (if ¬ (μ 70 26) = 0 then
    some (μ)
    else
    (if (μ 70 27) ≤ 0 then
    some (μ)
    else
    (b1 (f_MO_step μ) fun μ14 =>
    f_MO_solve_40 k1 f (y2 + 1) μ14))))))
def f_MO_solve (x0 : Int32) (μ : Mu) : Option (Int32 × Mu) :=
  (b1 (if x0 < 1 then
  some ((1 : Int32))
  else
  (if x0 ≤ 20 then
  (if (μ 70 25) = 0 then
  some ((2 : Int32))
  else
  (if (μ 70 26) = 0 then
  some ((0 : Int32))
  else
  some ((2 : Int32))))
  else
  some ((1 : Int32)))) fun v1 =>
  b1 (f_MO_solve_40 x0 fu 0 (sI μ 70 0 v1)) fun μ15 =>
  if (μ15 70 0) = 0 then
  (if ¬ (μ15 70 25) = 0 then
  (if (μ15 70 26) = 0 then
  some (2, μ15)
  else
  some (1, μ15))
  else
  some (0, μ15))
  else
  some (0, μ15))
theorem t_MO_solve_40 {r : gv_O} {hf : gv_H} {k1 : Int32} (fl : Nat) : ∀ {y2 : Int32} {μ : Mu} {μz : Mu}, f_MO_solve_40 k1 fl y2 μ = some (μz) → gv_go G M_MO_solve (d + 7) r hf 83 [some (gR 70), none, none] [] (hp n acc g cap μz) → gv_go G M_MO_solve (d + 7) r hf 40 [some (gR 70), some (gI k1), some (gI y2)] [] (hp n acc g cap μ) := by
  induction fl with
  | zero => intro _ _ _ h _; cases h
  | succ f ih =>
    intro y2 μ μz h KJ
    unfold f_MO_solve_40 at h
    refine gv_B ok_MO_solve 3 rfl ?_
    by_cases c8 : k1 ≤ y2
    · rw [if_pos c8] at h
      refine gv_brT c8 ?_
      have h9 := Option.some.inj h
      subst h9
      exact gv_fk KJ ⟨rfl, trivial⟩
    · rw [if_neg c8] at h
      refine gv_brF c8 ?_
      refine gv_B ok_MO_solve 3 rfl ?_
      by_cases c9 : ¬ (μ 70 0) = 0
      · rw [if_pos c9] at h
        refine gv_brT c9 ?_
        have h9 := Option.some.inj h
        subst h9
        exact gv_fk KJ ⟨rfl, trivial⟩
      · rw [if_neg c9] at h
        refine gv_brF c9 ?_
        refine gv_B ok_MO_solve 3 rfl ?_
        by_cases c10 : (μ 70 25) = 0
        · rw [if_pos c10] at h
          refine gv_brT c10 ?_
          have h9 := Option.some.inj h
          subst h9
          exact gv_fk KJ ⟨rfl, trivial⟩
        · rw [if_neg c10] at h
          refine gv_brF c10 ?_
          refine gv_B ok_MO_solve 3 rfl ?_
          by_cases c11 : ¬ (μ 70 26) = 0
          · rw [if_pos c11] at h
            refine gv_brT c11 ?_
            have h9 := Option.some.inj h
            subst h9
            exact gv_fk KJ ⟨rfl, trivial⟩
          · rw [if_neg c11] at h
            refine gv_brF c11 ?_
            refine gv_B ok_MO_solve 3 rfl ?_
            by_cases c12 : (μ 70 27) ≤ 0
            · rw [if_pos c12] at h
              refine gv_brT c12 ?_
              have h9 := Option.some.inj h
              subst h9
              exact gv_fk KJ ⟨rfl, trivial⟩
            · rw [if_neg c12] at h
              refine gv_brF c12 ?_
              refine gv_B ok_MO_solve 1 rfl ?_
              obtain ⟨μ14, e13, h⟩ := b1_e h
              refine gv_Vc ok_MO_solve rfl mk_MO_step rfl (t_MO_step (d := d) e13) rfl rfl (Nat.le_of_ble_eq_true rfl) rfl rfl rfl ?_
              refine gv_B ok_MO_solve 2 rfl ?_
              exact ih h KJ
theorem t_MO_solve {x0 : Int32} {μ : Mu} {r : Int32} {μr : Mu} (h : f_MO_solve x0 μ = some (r, μr)) : gv_ev G (d + 7) M_MO_solve [gR 70, gI x0] (hp n acc g cap μ) (.inl (some (gI r))) (hp n acc g cap μr) := by
  unfold f_MO_solve at h
  refine gv_E (ls := [some (gR 70), some (gI x0), none]) (by decide) (fun h => by cases h) (Nat.le_of_ble_eq_true rfl) rfl ?_
  refine gv_B ok_MO_solve 4 rfl ?_
  obtain ⟨v1, e2, h⟩ := b1_e h
  have K3 : gv_go G M_MO_solve (d + 7) (.inl (some (gI r))) (hp n acc g cap μr) 35 [some (gR 70), some (gI x0), none] [gI v1, gR 70] (hp n acc g cap μ) := by
    refine hp_pf ok_MO_solve rfl rfl rfl rfl rfl (Nat.le_of_ble_eq_true rfl) rfl ?_
    refine gv_B ok_MO_solve 2 rfl ?_
    obtain ⟨μ15, e16, h⟩ := b1_e h
    have K17 : gv_go G M_MO_solve (d + 7) (.inl (some (gI r))) (hp n acc g cap μr) 83 [some (gR 70), none, none] [] (hp n acc g cap μ15) := by
      refine gv_B ok_MO_solve 3 rfl ?_
      by_cases c18 : (μ15 70 0) = 0
      · rw [if_pos c18] at h
        refine gv_brT c18 ?_
        refine gv_B ok_MO_solve 3 rfl ?_
        by_cases c19 : ¬ (μ15 70 25) = 0
        · rw [if_pos c19] at h
          refine gv_brT c19 ?_
          refine gv_B ok_MO_solve 3 rfl ?_
          by_cases c20 : (μ15 70 26) = 0
          · rw [if_pos c20] at h
            refine gv_brT c20 ?_
            refine gv_B ok_MO_solve 1 rfl ?_
            have j0 := Option.some.inj h
            obtain ⟨i1, j1⟩ := Prod.mk.inj j0
            subst i1
            subst j1
            exact gv_Ri ok_MO_solve rfl rfl
          · rw [if_neg c20] at h
            refine gv_brF c20 ?_
            refine gv_B ok_MO_solve 2 rfl ?_
            have j0 := Option.some.inj h
            obtain ⟨i1, j1⟩ := Prod.mk.inj j0
            subst i1
            subst j1
            exact gv_Ri ok_MO_solve rfl rfl
        · rw [if_neg c19] at h
          refine gv_brF c19 ?_
          refine gv_B ok_MO_solve 2 rfl ?_
          have j0 := Option.some.inj h
          obtain ⟨i1, j1⟩ := Prod.mk.inj j0
          subst i1
          subst j1
          exact gv_Ri ok_MO_solve rfl rfl
      · rw [if_neg c18] at h
        refine gv_brF c18 ?_
        refine gv_B ok_MO_solve 2 rfl ?_
        have j0 := Option.some.inj h
        obtain ⟨i1, j1⟩ := Prod.mk.inj j0
        subst i1
        subst j1
        exact gv_Ri ok_MO_solve rfl rfl
    exact t_MO_solve_40 _ e16 K17
  clear h
  have h := e2
  clear e2
  by_cases c4 : x0 < 1
  · rw [if_pos c4] at h
    refine gv_brT c4 ?_
    refine gv_B ok_MO_solve 2 rfl ?_
    have h9 := Option.some.inj h
    subst h9
    exact K3
  · rw [if_neg c4] at h
    refine gv_brF c4 ?_
    refine gv_B ok_MO_solve 3 rfl ?_
    by_cases c5 : x0 ≤ 20
    · rw [if_pos c5] at h
      refine gv_brT c5 ?_
      refine gv_B ok_MO_solve 3 rfl ?_
      by_cases c6 : (μ 70 25) = 0
      · rw [if_pos c6] at h
        refine gv_brT c6 ?_
        refine gv_B ok_MO_solve 2 rfl ?_
        have h9 := Option.some.inj h
        subst h9
        exact K3
      · rw [if_neg c6] at h
        refine gv_brF c6 ?_
        refine gv_B ok_MO_solve 3 rfl ?_
        by_cases c7 : (μ 70 26) = 0
        · rw [if_pos c7] at h
          refine gv_brT c7 ?_
          refine gv_B ok_MO_solve 1 rfl ?_
          have h9 := Option.some.inj h
          subst h9
          exact K3
        · rw [if_neg c7] at h
          refine gv_brF c7 ?_
          refine gv_B ok_MO_solve 2 rfl ?_
          have h9 := Option.some.inj h
          subst h9
          exact K3
    · rw [if_neg c5] at h
      refine gv_brF c5 ?_
      refine gv_B ok_MO_solve 2 rfl ?_
      have h9 := Option.some.inj h
      subst h9
      exact K3
def f_MO_next (μ : Mu) : Option (Int32 × Mu) :=
  (b1 (if (μ 70 26) = 0 then
  some ((1 : Int32))
  else
  some ((0 : Int32))) fun v1 =>
  if v1 = 0 then
  (b1 (f_MO_fail (sI (sI μ 70 0 v1) 70 26 0)) fun μ7 =>
  if ((μ7 70 25) = 0 ∨ (μ7 70 25) = 1) then some ((μ7 70 25), μ7) else none)
  else
  some (0, (sI μ 70 0 v1)))
theorem t_MO_next {μ : Mu} {r : Int32} {μr : Mu} (h : f_MO_next μ = some (r, μr)) : gv_ev G (d + 2) M_MO_next [gR 70] (hp n acc g cap μ) (.inl (some (gI r))) (hp n acc g cap μr) := by
  unfold f_MO_next at h
  refine gv_E (ls := [some (gR 70)]) (by decide) (fun h => by cases h) (Nat.le_of_ble_eq_true rfl) rfl ?_
  refine gv_B ok_MO_next 4 rfl ?_
  obtain ⟨v1, e2, h⟩ := b1_e h
  have K3 : gv_go G M_MO_next (d + 2) (.inl (some (gI r))) (hp n acc g cap μr) 13 [some (gR 70)] [gI v1, gR 70] (hp n acc g cap μ) := by
    refine hp_pf ok_MO_next rfl rfl rfl rfl rfl (Nat.le_of_ble_eq_true rfl) rfl ?_
    refine gv_B ok_MO_next 3 rfl ?_
    by_cases c5 : v1 = 0
    · rw [if_pos c5] at h
      refine gv_brT c5 ?_
      refine gv_B ok_MO_next 2 rfl ?_
      refine hp_pf ok_MO_next rfl rfl rfl rfl rfl (Nat.le_of_ble_eq_true rfl) rfl ?_
      refine gv_B ok_MO_next 1 rfl ?_
      obtain ⟨μ7, e6, h⟩ := b1_e h
      refine gv_Vc ok_MO_next rfl mk_MO_fail rfl (t_MO_fail (d := d) e6) rfl rfl (Nat.le_of_ble_eq_true rfl) rfl rfl rfl ?_
      refine gv_B ok_MO_next 2 rfl ?_
      by_cases c8 : ((μ7 70 25) = 0 ∨ (μ7 70 25) = 1)
      · rw [if_pos c8] at h
        have j0 := Option.some.inj h
        obtain ⟨i1, j1⟩ := Prod.mk.inj j0
        subst i1
        subst j1
        exact gv_Rz ok_MO_next rfl rfl c8
      · rw [if_neg c8] at h
        cases h
    · rw [if_neg c5] at h
      refine gv_brF c5 ?_
      refine gv_B ok_MO_next 1 rfl ?_
      have j0 := Option.some.inj h
      obtain ⟨i1, j1⟩ := Prod.mk.inj j0
      subst i1
      subst j1
      exact gv_Rz ok_MO_next rfl rfl (by decide)
  clear h
  have h := e2
  clear e2
  by_cases c4 : (μ 70 26) = 0
  · rw [if_pos c4] at h
    refine gv_brT c4 ?_
    refine gv_B ok_MO_next 1 rfl ?_
    have h9 := Option.some.inj h
    subst h9
    exact K3
  · rw [if_neg c4] at h
    refine gv_brF c4 ?_
    refine gv_B ok_MO_next 2 rfl ?_
    have h9 := Option.some.inj h
    subst h9
    exact K3
def f_MO_stop (μ : Mu) : Option (Mu) :=
  (if (μ 70 25) = 0 then
  some ((sI μ 70 0 0))
  else
  (b1 (f_MO_end (sI μ 70 0 0)) fun μ3 =>
  some (μ3)))
theorem t_MO_stop {μ : Mu} {μr : Mu} (h : f_MO_stop μ = some (μr)) : gv_ev G (d + 1) M_MO_stop [gR 70] (hp n acc g cap μ) (.inl none) (hp n acc g cap μr) := by
  unfold f_MO_stop at h
  refine gv_E (ls := [some (gR 70)]) (by decide) (fun h => by cases h) (Nat.le_of_ble_eq_true rfl) rfl ?_
  refine gv_B ok_MO_stop 2 rfl ?_
  refine hp_pf ok_MO_stop rfl rfl rfl rfl rfl (Nat.le_of_ble_eq_true rfl) rfl ?_
  refine gv_B ok_MO_stop 3 rfl ?_
  by_cases c1 : (μ 70 25) = 0
  · rw [if_pos c1] at h
    refine gv_brT c1 ?_
    have h9 := Option.some.inj h
    subst h9
    exact gv_Rv ok_MO_stop rfl rfl
  · rw [if_neg c1] at h
    refine gv_brF c1 ?_
    refine gv_B ok_MO_stop 1 rfl ?_
    obtain ⟨μ3, e2, h⟩ := b1_e h
    refine gv_Vc ok_MO_stop rfl mk_MO_end rfl (t_MO_end (d := d) e2) rfl rfl (Nat.le_of_ble_eq_true rfl) rfl rfl rfl ?_
    have h9 := Option.some.inj h
    subst h9
    exact gv_Rv ok_MO_stop rfl rfl
def f_MO_collect (μ : Mu) : Option (Int32 × Mu) :=
  (if (μ 70 25) = 0 then
  some (0, (sI μ 70 0 0))
  else
  (b2 (f_MO_free (-1) 0 (sI μ 70 0 0)) fun v3 μ4 =>
  some (v3, μ4)))
theorem t_MO_collect {μ : Mu} {r : Int32} {μr : Mu} (h : f_MO_collect μ = some (r, μr)) : gv_ev G (d + 5) M_MO_collect [gR 70] (hp n acc g cap μ) (.inl (some (gI r))) (hp n acc g cap μr) := by
  unfold f_MO_collect at h
  refine gv_E (ls := [some (gR 70)]) (by decide) (fun h => by cases h) (Nat.le_of_ble_eq_true rfl) rfl ?_
  refine gv_B ok_MO_collect 2 rfl ?_
  refine hp_pf ok_MO_collect rfl rfl rfl rfl rfl (Nat.le_of_ble_eq_true rfl) rfl ?_
  refine gv_B ok_MO_collect 3 rfl ?_
  by_cases c1 : (μ 70 25) = 0
  · rw [if_pos c1] at h
    refine gv_brT c1 ?_
    refine gv_B ok_MO_collect 1 rfl ?_
    have j0 := Option.some.inj h
    obtain ⟨i1, j1⟩ := Prod.mk.inj j0
    subst i1
    subst j1
    exact gv_Ri ok_MO_collect rfl rfl
  · rw [if_neg c1] at h
    refine gv_brF c1 ?_
    refine gv_B ok_MO_collect 3 rfl ?_
    obtain ⟨v3, μ4, e2, h⟩ := b2_e h
    refine gv_Vc ok_MO_collect rfl mk_MO_free rfl (t_MO_free (d := d) e2) rfl rfl (Nat.le_of_ble_eq_true rfl) rfl rfl rfl ?_
    refine gv_B ok_MO_collect 1 rfl ?_
    have j0 := Option.some.inj h
    obtain ⟨i1, j1⟩ := Prod.mk.inj j0
    subst i1
    subst j1
    exact gv_Ri ok_MO_collect rfl rfl
def f_MO_count_26 (k1 : Int32) : Nat → Int32 → Int32 → Mu → Option (Int32)
  | 0, _, _, _ => none
  | f + 1, y2, y3, μ =>
    (if y3 < 0 then
    some (y2)
    else
    (if ¬ k1 = 2 then
    some (y2)
    else
    (b1 (rd (μ 81) 8900 y3) fun v8 =>
    f_MO_count_26 k1 f (y2 + 1) v8 μ)))
def f_MO_count (x0 : Int32) (μ : Mu) : Option (Int32 × Mu) :=
  (b1 (if x0 < 0 then
  some ((1 : Int32))
  else
  (if x0 ≤ 6 then
  some ((0 : Int32))
  else
  some ((1 : Int32)))) fun v1 =>
  b1 (f_MO_count_26 x0 fu 0 (μ 70 16) (sI μ 70 0 v1)) fun l10 =>
  if v1 = 0 then
  (if ¬ x0 = 0 then
  (if ¬ x0 = 1 then
  (if ¬ x0 = 2 then
  (if ¬ x0 = 3 then
  (if ¬ x0 = 4 then
  (if ¬ x0 = 5 then
  some ((μ 70 28), (sI μ 70 0 v1))
  else
  some ((μ 70 1), (sI μ 70 0 v1)))
  else
  some ((μ 70 3), (sI μ 70 0 v1)))
  else
  some ((μ 70 27), (sI μ 70 0 v1)))
  else
  some (l10, (sI μ 70 0 v1)))
  else
  some ((μ 70 18), (sI μ 70 0 v1)))
  else
  (b1 (f_MO_inUse (sI μ 70 0 v1)) fun v21 =>
  some (v21, (sI μ 70 0 v1))))
  else
  some (0, (sI μ 70 0 v1)))
theorem t_MO_count_26 {r : gv_O} {hf : gv_H} {k1 : Int32} (fl : Nat) : ∀ {y2 : Int32} {y3 : Int32} {μ : Mu} {z2 : Int32}, f_MO_count_26 k1 fl y2 y3 μ = some (z2) → gv_go G M_MO_count (d + 1) r hf 48 [some (gR 70), some (gI k1), some (gI z2), none] [] (hp n acc g cap μ) → gv_go G M_MO_count (d + 1) r hf 26 [some (gR 70), some (gI k1), some (gI y2), some (gI y3)] [] (hp n acc g cap μ) := by
  induction fl with
  | zero => intro _ _ _ _ h _; cases h
  | succ f ih =>
    intro y2 y3 μ z2 h KJ
    unfold f_MO_count_26 at h
    refine gv_B ok_MO_count 2 rfl ?_
    by_cases c6 : y3 < 0
    · rw [if_pos c6] at h
      refine gv_brT c6 ?_
      have h9 := Option.some.inj h
      subst h9
      exact gv_fk KJ ⟨rfl, ⟨rfl, ⟨rfl, trivial⟩⟩⟩
    · rw [if_neg c6] at h
      refine gv_brF c6 ?_
      refine gv_B ok_MO_count 3 rfl ?_
      by_cases c7 : ¬ k1 = 2
      · rw [if_pos c7] at h
        refine gv_brT c7 ?_
        have h9 := Option.some.inj h
        subst h9
        exact gv_fk KJ ⟨rfl, ⟨rfl, ⟨rfl, trivial⟩⟩⟩
      · rw [if_neg c7] at h
        refine gv_brF c7 ?_
        refine gv_B ok_MO_count 4 rfl ?_
        obtain ⟨v8, e9, h⟩ := b1_e h
        refine hp_rd ok_MO_count rfl rfl e9 ?_
        refine gv_B ok_MO_count 2 rfl ?_
        exact ih h KJ
theorem t_MO_count {x0 : Int32} {μ : Mu} {r : Int32} {μr : Mu} (h : f_MO_count x0 μ = some (r, μr)) : gv_ev G (d + 1) M_MO_count [gR 70, gI x0] (hp n acc g cap μ) (.inl (some (gI r))) (hp n acc g cap μr) := by
  unfold f_MO_count at h
  refine gv_E (ls := [some (gR 70), some (gI x0), none, none]) (by decide) (fun h => by cases h) (Nat.le_of_ble_eq_true rfl) rfl ?_
  refine gv_B ok_MO_count 3 rfl ?_
  obtain ⟨v1, e2, h⟩ := b1_e h
  have K3 : gv_go G M_MO_count (d + 1) (.inl (some (gI r))) (hp n acc g cap μr) 16 [some (gR 70), some (gI x0), none, none] [gI v1, gR 70] (hp n acc g cap μ) := by
    refine hp_pf ok_MO_count rfl rfl rfl rfl rfl (Nat.le_of_ble_eq_true rfl) rfl ?_
    refine gv_B ok_MO_count 5 rfl ?_
    obtain ⟨l10, e11, h⟩ := b1_e h
    have K12 : gv_go G M_MO_count (d + 1) (.inl (some (gI r))) (hp n acc g cap μr) 48 [some (gR 70), some (gI x0), some (gI l10), none] [] (hp n acc g cap (sI μ 70 0 v1)) := by
      refine gv_B ok_MO_count 3 rfl ?_
      by_cases c13 : v1 = 0
      · rw [if_pos c13] at h
        refine gv_brT c13 ?_
        refine gv_B ok_MO_count 2 rfl ?_
        by_cases c14 : ¬ x0 = 0
        · rw [if_pos c14] at h
          refine gv_brT c14 ?_
          refine gv_B ok_MO_count 3 rfl ?_
          by_cases c15 : ¬ x0 = 1
          · rw [if_pos c15] at h
            refine gv_brT c15 ?_
            refine gv_B ok_MO_count 3 rfl ?_
            by_cases c16 : ¬ x0 = 2
            · rw [if_pos c16] at h
              refine gv_brT c16 ?_
              refine gv_B ok_MO_count 3 rfl ?_
              by_cases c17 : ¬ x0 = 3
              · rw [if_pos c17] at h
                refine gv_brT c17 ?_
                refine gv_B ok_MO_count 3 rfl ?_
                by_cases c18 : ¬ x0 = 4
                · rw [if_pos c18] at h
                  refine gv_brT c18 ?_
                  refine gv_B ok_MO_count 3 rfl ?_
                  by_cases c19 : ¬ x0 = 5
                  · rw [if_pos c19] at h
                    refine gv_brT c19 ?_
                    refine gv_B ok_MO_count 2 rfl ?_
                    have j0 := Option.some.inj h
                    obtain ⟨i1, j1⟩ := Prod.mk.inj j0
                    subst i1
                    subst j1
                    exact gv_Ri ok_MO_count rfl rfl
                  · rw [if_neg c19] at h
                    refine gv_brF c19 ?_
                    refine gv_B ok_MO_count 3 rfl ?_
                    have j0 := Option.some.inj h
                    obtain ⟨i1, j1⟩ := Prod.mk.inj j0
                    subst i1
                    subst j1
                    exact gv_Ri ok_MO_count rfl rfl
                · rw [if_neg c18] at h
                  refine gv_brF c18 ?_
                  refine gv_B ok_MO_count 3 rfl ?_
                  have j0 := Option.some.inj h
                  obtain ⟨i1, j1⟩ := Prod.mk.inj j0
                  subst i1
                  subst j1
                  exact gv_Ri ok_MO_count rfl rfl
              · rw [if_neg c17] at h
                refine gv_brF c17 ?_
                refine gv_B ok_MO_count 3 rfl ?_
                have j0 := Option.some.inj h
                obtain ⟨i1, j1⟩ := Prod.mk.inj j0
                subst i1
                subst j1
                exact gv_Ri ok_MO_count rfl rfl
            · rw [if_neg c16] at h
              refine gv_brF c16 ?_
              refine gv_B ok_MO_count 2 rfl ?_
              have j0 := Option.some.inj h
              obtain ⟨i1, j1⟩ := Prod.mk.inj j0
              subst i1
              subst j1
              exact gv_Ri ok_MO_count rfl rfl
          · rw [if_neg c15] at h
            refine gv_brF c15 ?_
            refine gv_B ok_MO_count 3 rfl ?_
            have j0 := Option.some.inj h
            obtain ⟨i1, j1⟩ := Prod.mk.inj j0
            subst i1
            subst j1
            exact gv_Ri ok_MO_count rfl rfl
        · rw [if_neg c14] at h
          refine gv_brF c14 ?_
          refine gv_B ok_MO_count 1 rfl ?_
          obtain ⟨v21, e20, h⟩ := b1_e h
          refine gv_Vc ok_MO_count rfl mk_MO_inUse rfl (t_MO_inUse (d := d) e20) rfl rfl (Nat.le_of_ble_eq_true rfl) rfl rfl rfl ?_
          refine gv_B ok_MO_count 1 rfl ?_
          have j0 := Option.some.inj h
          obtain ⟨i1, j1⟩ := Prod.mk.inj j0
          subst i1
          subst j1
          exact gv_Ri ok_MO_count rfl rfl
      · rw [if_neg c13] at h
        refine gv_brF c13 ?_
        refine gv_B ok_MO_count 2 rfl ?_
        have j0 := Option.some.inj h
        obtain ⟨i1, j1⟩ := Prod.mk.inj j0
        subst i1
        subst j1
        exact gv_Ri ok_MO_count rfl rfl
    exact t_MO_count_26 _ e11 K12
  clear h
  have h := e2
  clear e2
  by_cases c4 : x0 < 0
  · rw [if_pos c4] at h
    refine gv_brT c4 ?_
    refine gv_B ok_MO_count 2 rfl ?_
    have h9 := Option.some.inj h
    subst h9
    exact K3
  · rw [if_neg c4] at h
    refine gv_brF c4 ?_
    refine gv_B ok_MO_count 3 rfl ?_
    by_cases c5 : x0 ≤ 6
    · rw [if_pos c5] at h
      refine gv_brT c5 ?_
      refine gv_B ok_MO_count 1 rfl ?_
      have h9 := Option.some.inj h
      subst h9
      exact K3
    · rw [if_neg c5] at h
      refine gv_brF c5 ?_
      refine gv_B ok_MO_count 2 rfl ?_
      have h9 := Option.some.inj h
      subst h9
      exact K3
def f_MO_sayTerm_0 : Nat → Mu → Option (Mu)
  | 0, _ => none
  | f + 1, μ =>
    (if (μ 70 30) ≤ 0 then
    some (μ)
    else
    (if 90 ≤ (μ 70 38) then
    some (μ)
    else
    (b1 (rd (μ 88) 1600 ((μ 70 30) - 1)) fun v3 =>
    b1 (rd (μ 89) 1600 ((μ 70 30) - 1)) fun v5 =>
    b1 (f_MO_mean v3 v5 (sI μ 70 30 ((μ 70 30) - 1))) fun μ8 =>
    b1 (if ¬ (μ8 70 40) = 0 then
    (b1 (if ¬ (μ8 70 40) = 3 then
    (if ¬ (μ8 70 40) = 1 then
    some (((8 * (μ8 70 41)) + 2))
    else
    some (((8 * (μ8 70 41)) + 1)))
    else
    (b1 (rd (μ8 78) 240 (μ8 70 41)) fun v18 =>
    some (v18))) fun v13 =>
    b1 (wr μ8 92 90 (μ8 70 38) v13) fun μ20 =>
    if ¬ (μ20 70 40) = 3 then
    some (μ20)
    else
    (b1 (f_MO_pushArguments (μ20 70 41) μ20) fun μ24 =>
    some (μ24)))
    else
    (b1 (rd (μ8 90) 240 (μ8 70 41)) fun v25 =>
    b1 (if ¬ v25 = 0 then
    some (μ8)
    else
    (b1 (wr μ8 90 240 (μ8 70 41) (μ8 70 34)) fun μ31 =>
    some ((sI μ31 70 34 ((μ31 70 34) + 1))))) fun μ27 =>
    b1 (rd (μ27 90) 240 (μ27 70 41)) fun v33 =>
    b1 (wr μ27 92 90 (μ27 70 38) (8 * (v33 - 1))) fun μ35 =>
    some (μ35))) fun μ9 =>
    f_MO_sayTerm_0 f (sI μ9 70 38 ((μ9 70 38) + 1)))))
def f_MO_sayTerm (μ : Mu) : Option (Mu) :=
  (b1 (f_MO_sayTerm_0 fu μ) fun μ37 =>
  some (μ37))
theorem t_MO_sayTerm_0 {r : gv_O} {hf : gv_H} (fl : Nat) : ∀ {μ : Mu} {μz : Mu}, f_MO_sayTerm_0 fl μ = some (μz) → gv_go G M_MO_sayTerm (d + 2) r hf 203 [none] [] (hp n acc g cap μz) → gv_go G M_MO_sayTerm (d + 2) r hf 0 [some (gR 70)] [] (hp n acc g cap μ) := by
  induction fl with
  | zero => intro _ _ h _; cases h
  | succ f ih =>
    intro μ μz h KJ
    unfold f_MO_sayTerm_0 at h
    refine gv_B ok_MO_sayTerm 3 rfl ?_
    by_cases c1 : (μ 70 30) ≤ 0
    · rw [if_pos c1] at h
      refine gv_brT c1 ?_
      have h9 := Option.some.inj h
      subst h9
      exact gv_fk KJ trivial
    · rw [if_neg c1] at h
      refine gv_brF c1 ?_
      refine gv_B ok_MO_sayTerm 4 rfl ?_
      by_cases c2 : 90 ≤ (μ 70 38)
      · rw [if_pos c2] at h
        refine gv_brT c2 ?_
        have h9 := Option.some.inj h
        subst h9
        exact gv_fk KJ trivial
      · rw [if_neg c2] at h
        refine gv_brF c2 ?_
        refine gv_B ok_MO_sayTerm 5 rfl ?_
        refine hp_pf ok_MO_sayTerm rfl rfl rfl rfl rfl (Nat.le_of_ble_eq_true rfl) rfl ?_
        refine gv_B ok_MO_sayTerm 5 rfl ?_
        obtain ⟨v3, e4, h⟩ := b1_e h
        refine hp_rd ok_MO_sayTerm rfl rfl e4 ?_
        refine gv_B ok_MO_sayTerm 4 rfl ?_
        obtain ⟨v5, e6, h⟩ := b1_e h
        refine hp_rd ok_MO_sayTerm rfl rfl e6 ?_
        obtain ⟨μ8, e7, h⟩ := b1_e h
        refine gv_Vc ok_MO_sayTerm rfl mk_MO_mean rfl (t_MO_mean (d := d + 1) e7) rfl rfl (Nat.le_of_ble_eq_true rfl) rfl rfl rfl ?_
        refine gv_B ok_MO_sayTerm 3 rfl ?_
        obtain ⟨μ9, e10, h⟩ := b1_e h
        have K11 : gv_go G M_MO_sayTerm (d + 2) r hf 190 [some (gR 70)] [] (hp n acc g cap μ9) := by
          refine gv_B ok_MO_sayTerm 5 rfl ?_
          refine hp_pf ok_MO_sayTerm rfl rfl rfl rfl rfl (Nat.le_of_ble_eq_true rfl) rfl ?_
          refine gv_B ok_MO_sayTerm 1 rfl ?_
          exact ih h KJ
        clear h
        have h := e10
        clear e10
        by_cases c12 : ¬ (μ8 70 40) = 0
        · rw [if_pos c12] at h
          refine gv_brT c12 ?_
          refine gv_B ok_MO_sayTerm 8 rfl ?_
          obtain ⟨v13, e14, h⟩ := b1_e h
          have K15 : gv_go G M_MO_sayTerm (d + 2) r hf 173 [some (gR 70)] [gI v13, gI (μ8 70 38), gR 92] (hp n acc g cap μ8) := by
            obtain ⟨μ20, e21, h⟩ := b1_e h
            refine hp_wr ok_MO_sayTerm rfl rfl rfl rfl e21 ?_
            refine gv_B ok_MO_sayTerm 4 rfl ?_
            by_cases c22 : ¬ (μ20 70 40) = 3
            · rw [if_pos c22] at h
              refine gv_brT c22 ?_
              have h9 := Option.some.inj h
              subst h9
              exact K11
            · rw [if_neg c22] at h
              refine gv_brF c22 ?_
              refine gv_B ok_MO_sayTerm 3 rfl ?_
              obtain ⟨μ24, e23, h⟩ := b1_e h
              refine gv_Vc ok_MO_sayTerm rfl mk_MO_pushArguments rfl (t_MO_pushArguments (d := d) e23) rfl rfl (Nat.le_of_ble_eq_true rfl) rfl rfl rfl ?_
              have h9 := Option.some.inj h
              subst h9
              exact K11
          clear h
          have h := e14
          clear e14
          by_cases c16 : ¬ (μ8 70 40) = 3
          · rw [if_pos c16] at h
            refine gv_brT c16 ?_
            refine gv_B ok_MO_sayTerm 4 rfl ?_
            by_cases c17 : ¬ (μ8 70 40) = 1
            · rw [if_pos c17] at h
              refine gv_brT c17 ?_
              refine gv_B ok_MO_sayTerm 6 rfl ?_
              have h9 := Option.some.inj h
              subst h9
              exact K15
            · rw [if_neg c17] at h
              refine gv_brF c17 ?_
              refine gv_B ok_MO_sayTerm 7 rfl ?_
              have h9 := Option.some.inj h
              subst h9
              exact K15
          · rw [if_neg c16] at h
            refine gv_brF c16 ?_
            refine gv_B ok_MO_sayTerm 4 rfl ?_
            obtain ⟨v18, e19, h⟩ := b1_e h
            refine hp_rd ok_MO_sayTerm rfl rfl e19 ?_
            refine gv_B ok_MO_sayTerm 1 rfl ?_
            have h9 := Option.some.inj h
            subst h9
            exact K15
        · rw [if_neg c12] at h
          refine gv_brF c12 ?_
          refine gv_B ok_MO_sayTerm 4 rfl ?_
          obtain ⟨v25, e26, h⟩ := b1_e h
          refine hp_rd ok_MO_sayTerm rfl rfl e26 ?_
          refine gv_B ok_MO_sayTerm 1 rfl ?_
          obtain ⟨μ27, e28, h⟩ := b1_e h
          have K29 : gv_go G M_MO_sayTerm (d + 2) r hf 90 [some (gR 70)] [] (hp n acc g cap μ27) := by
            refine gv_B ok_MO_sayTerm 9 rfl ?_
            obtain ⟨v33, e34, h⟩ := b1_e h
            refine hp_rd ok_MO_sayTerm rfl rfl e34 ?_
            refine gv_B ok_MO_sayTerm 3 rfl ?_
            obtain ⟨μ35, e36, h⟩ := b1_e h
            refine hp_wr ok_MO_sayTerm rfl rfl rfl rfl e36 ?_
            refine gv_B ok_MO_sayTerm 1 rfl ?_
            have h9 := Option.some.inj h
            subst h9
            exact K11
          clear h
          have h := e28
          clear e28
          by_cases c30 : ¬ v25 = 0
          · rw [if_pos c30] at h
            refine gv_brT c30 ?_
            have h9 := Option.some.inj h
            subst h9
            exact K29
          · rw [if_neg c30] at h
            refine gv_brF c30 ?_
            refine gv_B ok_MO_sayTerm 6 rfl ?_
            obtain ⟨μ31, e32, h⟩ := b1_e h
            refine hp_wr ok_MO_sayTerm rfl rfl rfl rfl e32 ?_
            refine gv_B ok_MO_sayTerm 5 rfl ?_
            refine hp_pf ok_MO_sayTerm rfl rfl rfl rfl rfl (Nat.le_of_ble_eq_true rfl) rfl ?_
            have h9 := Option.some.inj h
            subst h9
            exact K29
theorem t_MO_sayTerm {μ : Mu} {μr : Mu} (h : f_MO_sayTerm μ = some (μr)) : gv_ev G (d + 2) M_MO_sayTerm [gR 70] (hp n acc g cap μ) (.inl none) (hp n acc g cap μr) := by
  unfold f_MO_sayTerm at h
  refine gv_E (ls := [some (gR 70)]) (by decide) (fun h => by cases h) (Nat.le_of_ble_eq_true rfl) rfl ?_
  obtain ⟨μ37, e38, h⟩ := b1_e h
  have K39 : gv_go G M_MO_sayTerm (d + 2) (.inl none) (hp n acc g cap μr) 203 [none] [] (hp n acc g cap μ37) := by
    have h9 := Option.some.inj h
    subst h9
    exact gv_Rv ok_MO_sayTerm rfl rfl
  exact t_MO_sayTerm_0 _ e38 K39
def f_MO_findAnswer_12 (k1 : Int32) : Nat → Int32 → Mu → Option (Mu)
  | 0, _, _ => none
  | f + 1, y2, μ =>
    (if 240 ≤ y2 then
    some (μ)
    else
    (b1 (wr μ 90 240 y2 0) fun μ2 =>
    f_MO_findAnswer_12 k1 f (y2 + 1) μ2))
def f_MO_findAnswer_39 (k1 : Int32) : Nat → Int32 → Mu → Option (Mu)
  | 0, _, _ => none
  | f + 1, y2, μ =>
    (if 8 ≤ y2 then
    some (μ)
    else
    (if (μ 70 26) = 0 then
    some (μ)
    else
    (b1 (rd (μ 87) 8 y2) fun v9 =>
    b1 (if v9 < 0 then
    some ((sI μ 70 30 0))
    else
    (b1 (rd (μ 87) 8 y2) fun v15 =>
    b1 (f_MO_push 0 v15 (sI μ 70 30 0)) fun μ18 =>
    b1 (f_MO_sayTerm μ18) fun μ20 =>
    some (μ20))) fun μ11 =>
    f_MO_findAnswer_39 k1 f (y2 + 1) μ11)))
def f_MO_findAnswer_89 (k1 : Int32) : Nat → Int32 → Mu → Option (Mu)
  | 0, _, _ => none
  | f + 1, y2, μ =>
    (if 240 ≤ y2 then
    some (μ)
    else
    (b1 (wr μ 90 240 y2 0) fun μ25 =>
    f_MO_findAnswer_89 k1 f (y2 + 1) μ25))
def f_MO_findAnswer (μ : Mu) : Option (Mu) :=
  (b1 (f_MO_findAnswer_12 (μ 70 34) fu 0 (sI μ 70 38 0)) fun μ4 =>
  b1 (f_MO_findAnswer_39 (μ 70 34) fu 0 (sI μ4 70 34 1)) fun μ21 =>
  b1 (f_MO_findAnswer_89 (μ 70 34) fu 0 μ21) fun μ27 =>
  some ((sI μ27 70 34 (μ 70 34))))
theorem t_MO_findAnswer_12 {r : gv_O} {hf : gv_H} {k1 : Int32} (fl : Nat) : ∀ {y2 : Int32} {μ : Mu} {μz : Mu}, f_MO_findAnswer_12 k1 fl y2 μ = some (μz) → gv_go G M_MO_findAnswer (d + 3) r hf 32 [some (gR 70), some (gI k1), none] [] (hp n acc g cap μz) → gv_go G M_MO_findAnswer (d + 3) r hf 12 [some (gR 70), some (gI k1), some (gI y2)] [] (hp n acc g cap μ) := by
  induction fl with
  | zero => intro _ _ _ h _; cases h
  | succ f ih =>
    intro y2 μ μz h KJ
    unfold f_MO_findAnswer_12 at h
    refine gv_B ok_MO_findAnswer 3 rfl ?_
    by_cases c1 : 240 ≤ y2
    · rw [if_pos c1] at h
      refine gv_brT c1 ?_
      have h9 := Option.some.inj h
      subst h9
      exact gv_fk KJ ⟨rfl, ⟨rfl, trivial⟩⟩
    · rw [if_neg c1] at h
      refine gv_brF c1 ?_
      refine gv_B ok_MO_findAnswer 4 rfl ?_
      obtain ⟨μ2, e3, h⟩ := b1_e h
      refine hp_wr ok_MO_findAnswer rfl rfl rfl rfl e3 ?_
      refine gv_B ok_MO_findAnswer 2 rfl ?_
      exact ih h KJ
theorem t_MO_findAnswer_39 {r : gv_O} {hf : gv_H} {k1 : Int32} (fl : Nat) : ∀ {y2 : Int32} {μ : Mu} {μz : Mu}, f_MO_findAnswer_39 k1 fl y2 μ = some (μz) → gv_go G M_MO_findAnswer (d + 3) r hf 87 [some (gR 70), some (gI k1), none] [] (hp n acc g cap μz) → gv_go G M_MO_findAnswer (d + 3) r hf 39 [some (gR 70), some (gI k1), some (gI y2)] [] (hp n acc g cap μ) := by
  induction fl with
  | zero => intro _ _ _ h _; cases h
  | succ f ih =>
    intro y2 μ μz h KJ
    unfold f_MO_findAnswer_39 at h
    refine gv_B ok_MO_findAnswer 3 rfl ?_
    by_cases c7 : 8 ≤ y2
    · rw [if_pos c7] at h
      refine gv_brT c7 ?_
      have h9 := Option.some.inj h
      subst h9
      exact gv_fk KJ ⟨rfl, ⟨rfl, trivial⟩⟩
    · rw [if_neg c7] at h
      refine gv_brF c7 ?_
      refine gv_B ok_MO_findAnswer 3 rfl ?_
      by_cases c8 : (μ 70 26) = 0
      · rw [if_pos c8] at h
        refine gv_brT c8 ?_
        have h9 := Option.some.inj h
        subst h9
        exact gv_fk KJ ⟨rfl, ⟨rfl, trivial⟩⟩
      · rw [if_neg c8] at h
        refine gv_brF c8 ?_
        refine gv_B ok_MO_findAnswer 2 rfl ?_
        refine hp_pf ok_MO_findAnswer rfl rfl rfl rfl rfl (Nat.le_of_ble_eq_true rfl) rfl ?_
        refine gv_B ok_MO_findAnswer 3 rfl ?_
        obtain ⟨v9, e10, h⟩ := b1_e h
        refine hp_rd ok_MO_findAnswer rfl rfl e10 ?_
        refine gv_B ok_MO_findAnswer 1 rfl ?_
        obtain ⟨μ11, e12, h⟩ := b1_e h
        have K13 : gv_go G M_MO_findAnswer (d + 3) r hf 81 [some (gR 70), some (gI k1), some (gI y2)] [] (hp n acc g cap μ11) := by
          refine gv_B ok_MO_findAnswer 2 rfl ?_
          exact ih h KJ
        clear h
        have h := e12
        clear e12
        by_cases c14 : v9 < 0
        · rw [if_pos c14] at h
          refine gv_brT c14 ?_
          have h9 := Option.some.inj h
          subst h9
          exact K13
        · rw [if_neg c14] at h
          refine gv_brF c14 ?_
          refine gv_B ok_MO_findAnswer 5 rfl ?_
          obtain ⟨v15, e16, h⟩ := b1_e h
          refine hp_rd ok_MO_findAnswer rfl rfl e16 ?_
          obtain ⟨μ18, e17, h⟩ := b1_e h
          refine gv_Vc ok_MO_findAnswer rfl mk_MO_push rfl (t_MO_push (d := d + 2) e17) rfl rfl (Nat.le_of_ble_eq_true rfl) rfl rfl rfl ?_
          refine gv_B ok_MO_findAnswer 1 rfl ?_
          obtain ⟨μ20, e19, h⟩ := b1_e h
          refine gv_Vc ok_MO_findAnswer rfl mk_MO_sayTerm rfl (t_MO_sayTerm (d := d) e19) rfl rfl (Nat.le_of_ble_eq_true rfl) rfl rfl rfl ?_
          have h9 := Option.some.inj h
          subst h9
          exact K13
theorem t_MO_findAnswer_89 {r : gv_O} {hf : gv_H} {k1 : Int32} (fl : Nat) : ∀ {y2 : Int32} {μ : Mu} {μz : Mu}, f_MO_findAnswer_89 k1 fl y2 μ = some (μz) → gv_go G M_MO_findAnswer (d + 3) r hf 109 [some (gR 70), some (gI k1), none] [] (hp n acc g cap μz) → gv_go G M_MO_findAnswer (d + 3) r hf 89 [some (gR 70), some (gI k1), some (gI y2)] [] (hp n acc g cap μ) := by
  induction fl with
  | zero => intro _ _ _ h _; cases h
  | succ f ih =>
    intro y2 μ μz h KJ
    unfold f_MO_findAnswer_89 at h
    refine gv_B ok_MO_findAnswer 3 rfl ?_
    by_cases c24 : 240 ≤ y2
    · rw [if_pos c24] at h
      refine gv_brT c24 ?_
      have h9 := Option.some.inj h
      subst h9
      exact gv_fk KJ ⟨rfl, ⟨rfl, trivial⟩⟩
    · rw [if_neg c24] at h
      refine gv_brF c24 ?_
      refine gv_B ok_MO_findAnswer 4 rfl ?_
      obtain ⟨μ25, e26, h⟩ := b1_e h
      refine hp_wr ok_MO_findAnswer rfl rfl rfl rfl e26 ?_
      refine gv_B ok_MO_findAnswer 2 rfl ?_
      exact ih h KJ
theorem t_MO_findAnswer {μ : Mu} {μr : Mu} (h : f_MO_findAnswer μ = some (μr)) : gv_ev G (d + 3) M_MO_findAnswer [gR 70] (hp n acc g cap μ) (.inl none) (hp n acc g cap μr) := by
  unfold f_MO_findAnswer at h
  refine gv_E (ls := [some (gR 70), none, none]) (by decide) (fun h => by cases h) (Nat.le_of_ble_eq_true rfl) rfl ?_
  refine gv_B ok_MO_findAnswer 2 rfl ?_
  refine hp_pf ok_MO_findAnswer rfl rfl rfl rfl rfl (Nat.le_of_ble_eq_true rfl) rfl ?_
  refine gv_B ok_MO_findAnswer 5 rfl ?_
  obtain ⟨μ4, e5, h⟩ := b1_e h
  have K6 : gv_go G M_MO_findAnswer (d + 3) (.inl none) (hp n acc g cap μr) 32 [some (gR 70), some (gI (μ 70 34)), none] [] (hp n acc g cap μ4) := by
    refine gv_B ok_MO_findAnswer 2 rfl ?_
    refine hp_pf ok_MO_findAnswer rfl rfl rfl rfl rfl (Nat.le_of_ble_eq_true rfl) rfl ?_
    refine gv_B ok_MO_findAnswer 2 rfl ?_
    obtain ⟨μ21, e22, h⟩ := b1_e h
    have K23 : gv_go G M_MO_findAnswer (d + 3) (.inl none) (hp n acc g cap μr) 87 [some (gR 70), some (gI (μ 70 34)), none] [] (hp n acc g cap μ21) := by
      refine gv_B ok_MO_findAnswer 2 rfl ?_
      obtain ⟨μ27, e28, h⟩ := b1_e h
      have K29 : gv_go G M_MO_findAnswer (d + 3) (.inl none) (hp n acc g cap μr) 109 [some (gR 70), some (gI (μ 70 34)), none] [] (hp n acc g cap μ27) := by
        refine gv_B ok_MO_findAnswer 2 rfl ?_
        refine hp_pf ok_MO_findAnswer rfl rfl rfl rfl rfl (Nat.le_of_ble_eq_true rfl) rfl ?_
        have h9 := Option.some.inj h
        subst h9
        exact gv_Rv ok_MO_findAnswer rfl rfl
      exact t_MO_findAnswer_89 _ e28 K29
    exact t_MO_findAnswer_39 _ e22 K23
  exact t_MO_findAnswer_12 _ e5 K6
def f_MO_words (μ : Mu) : Option (Int32 × Mu) :=
  (b1 (f_MO_findAnswer (sI μ 70 0 0)) fun μ2 =>
  some ((μ2 70 38), μ2))
theorem t_MO_words {μ : Mu} {r : Int32} {μr : Mu} (h : f_MO_words μ = some (r, μr)) : gv_ev G (d + 4) M_MO_words [gR 70] (hp n acc g cap μ) (.inl (some (gI r))) (hp n acc g cap μr) := by
  unfold f_MO_words at h
  refine gv_E (ls := [some (gR 70)]) (by decide) (fun h => by cases h) (Nat.le_of_ble_eq_true rfl) rfl ?_
  refine gv_B ok_MO_words 2 rfl ?_
  refine hp_pf ok_MO_words rfl rfl rfl rfl rfl (Nat.le_of_ble_eq_true rfl) rfl ?_
  refine gv_B ok_MO_words 1 rfl ?_
  obtain ⟨μ2, e1, h⟩ := b1_e h
  refine gv_Vc ok_MO_words rfl mk_MO_findAnswer rfl (t_MO_findAnswer (d := d) e1) rfl rfl (Nat.le_of_ble_eq_true rfl) rfl rfl rfl ?_
  refine gv_B ok_MO_words 2 rfl ?_
  have j0 := Option.some.inj h
  obtain ⟨i1, j1⟩ := Prod.mk.inj j0
  subst i1
  subst j1
  exact gv_Ri ok_MO_words rfl rfl
def f_MO_word (x0 : Int32) (μ : Mu) : Option (Int32 × Mu) :=
  (b1 (f_MO_findAnswer μ) fun μ2 =>
  b1 (if x0 < 0 then
  some ((1 : Int32))
  else
  (if x0 < (μ2 70 38) then
  some ((0 : Int32))
  else
  some ((1 : Int32)))) fun v3 =>
  if ¬ v3 = 0 then
  some (0, (sI μ2 70 0 v3))
  else
  (b1 (rd (μ2 92) 90 x0) fun v9 =>
  some (v9, (sI μ2 70 0 v3))))
theorem t_MO_word {x0 : Int32} {μ : Mu} {r : Int32} {μr : Mu} (h : f_MO_word x0 μ = some (r, μr)) : gv_ev G (d + 4) M_MO_word [gR 70, gI x0] (hp n acc g cap μ) (.inl (some (gI r))) (hp n acc g cap μr) := by
  unfold f_MO_word at h
  refine gv_E (ls := [some (gR 70), some (gI x0)]) (by decide) (fun h => by cases h) (Nat.le_of_ble_eq_true rfl) rfl ?_
  refine gv_B ok_MO_word 1 rfl ?_
  obtain ⟨μ2, e1, h⟩ := b1_e h
  refine gv_Vc ok_MO_word rfl mk_MO_findAnswer rfl (t_MO_findAnswer (d := d) e1) rfl rfl (Nat.le_of_ble_eq_true rfl) rfl rfl rfl ?_
  refine gv_B ok_MO_word 3 rfl ?_
  obtain ⟨v3, e4, h⟩ := b1_e h
  have K5 : gv_go G M_MO_word (d + 4) (.inl (some (gI r))) (hp n acc g cap μr) 22 [some (gR 70), some (gI x0)] [gI v3, gR 70] (hp n acc g cap μ2) := by
    refine hp_pf ok_MO_word rfl rfl rfl rfl rfl (Nat.le_of_ble_eq_true rfl) rfl ?_
    refine gv_B ok_MO_word 3 rfl ?_
    by_cases c8 : ¬ v3 = 0
    · rw [if_pos c8] at h
      refine gv_brT c8 ?_
      refine gv_B ok_MO_word 1 rfl ?_
      have j0 := Option.some.inj h
      obtain ⟨i1, j1⟩ := Prod.mk.inj j0
      subst i1
      subst j1
      exact gv_Ri ok_MO_word rfl rfl
    · rw [if_neg c8] at h
      refine gv_brF c8 ?_
      refine gv_B ok_MO_word 3 rfl ?_
      obtain ⟨v9, e10, h⟩ := b1_e h
      refine hp_rd ok_MO_word rfl rfl e10 ?_
      refine gv_B ok_MO_word 1 rfl ?_
      have j0 := Option.some.inj h
      obtain ⟨i1, j1⟩ := Prod.mk.inj j0
      subst i1
      subst j1
      exact gv_Ri ok_MO_word rfl rfl
  clear h
  have h := e4
  clear e4
  by_cases c6 : x0 < 0
  · rw [if_pos c6] at h
    refine gv_brT c6 ?_
    refine gv_B ok_MO_word 2 rfl ?_
    have h9 := Option.some.inj h
    subst h9
    exact K5
  · rw [if_neg c6] at h
    refine gv_brF c6 ?_
    refine gv_B ok_MO_word 4 rfl ?_
    by_cases c7 : x0 < (μ2 70 38)
    · rw [if_pos c7] at h
      refine gv_brT c7 ?_
      refine gv_B ok_MO_word 1 rfl ?_
      have h9 := Option.some.inj h
      subst h9
      exact K5
    · rw [if_neg c7] at h
      refine gv_brF c7 ?_
      refine gv_B ok_MO_word 2 rfl ?_
      have h9 := Option.some.inj h
      subst h9
      exact K5
end FNQ
