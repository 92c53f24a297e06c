/-! methods as functions of the numbers (written by wip/tools/genf.py, mkf.py) -/
section FNQ
variable {G : gv_G} {d n g cap : Nat} {acc : Nat × Nat}
def f_MO_argumentKind (x0 : Int32) (x1 : Int32) (μ : Mu) : Option (Int32) :=
  (b1 (rd (μ 79) 720 ((3 * x0) + x1)) fun v1 =>
  b1 (rd (μ 76) 240 v1) fun v3 =>
  some (v3))
theorem t_MO_argumentKind {x0 : Int32} {x1 : Int32} {μ : Mu} {r : Int32} (h : f_MO_argumentKind x0 x1 μ = some (r)) : gv_ev G (d + 0) M_MO_argumentKind [gR 70, gI x0, gI x1] (hp n acc g cap μ) (.inl (some (gI r))) (hp n acc g cap μ) := by
  unfold f_MO_argumentKind at h
  refine gv_E (ls := [some (gR 70), some (gI x0), some (gI x1)]) (by decide) (fun h => by cases h) (Nat.le_of_ble_eq_true rfl) rfl ?_
  refine gv_B ok_MO_argumentKind 9 rfl ?_
  obtain ⟨v1, e2, h⟩ := b1_e h
  refine hp_rd ok_MO_argumentKind rfl rfl e2 ?_
  obtain ⟨v3, e4, h⟩ := b1_e h
  refine hp_rd ok_MO_argumentKind rfl rfl e4 ?_
  have h9 := Option.some.inj h
  subst h9
  exact gv_Ri ok_MO_argumentKind rfl rfl
def f_MO_argumentValue (x0 : Int32) (x1 : Int32) (μ : Mu) : Option (Int32) :=
  (b1 (rd (μ 79) 720 ((3 * x0) + x1)) fun v1 =>
  b1 (rd (μ 77) 240 v1) fun v3 =>
  some (v3))
theorem t_MO_argumentValue {x0 : Int32} {x1 : Int32} {μ : Mu} {r : Int32} (h : f_MO_argumentValue x0 x1 μ = some (r)) : gv_ev G (d + 0) M_MO_argumentValue [gR 70, gI x0, gI x1] (hp n acc g cap μ) (.inl (some (gI r))) (hp n acc g cap μ) := by
  unfold f_MO_argumentValue at h
  refine gv_E (ls := [some (gR 70), some (gI x0), some (gI x1)]) (by decide) (fun h => by cases h) (Nat.le_of_ble_eq_true rfl) rfl ?_
  refine gv_B ok_MO_argumentValue 9 rfl ?_
  obtain ⟨v1, e2, h⟩ := b1_e h
  refine hp_rd ok_MO_argumentValue rfl rfl e2 ?_
  obtain ⟨v3, e4, h⟩ := b1_e h
  refine hp_rd ok_MO_argumentValue rfl rfl e4 ?_
  have h9 := Option.some.inj h
  subst h9
  exact gv_Ri ok_MO_argumentValue rfl rfl
def f_MO_known (x0 : Int32) (x1 : Int32) (μ : Mu) : Option (Mu) :=
  (b1 (f_MO_argumentKind x1 0 μ) fun v2 =>
  b1 (f_MO_argumentValue x1 0 μ) fun v4 =>
  b1 (f_MO_argumentKind x1 1 μ) fun v6 =>
  b1 (f_MO_argumentValue x1 1 μ) fun v8 =>
  if ¬ x0 = 24 then
  (b2 (if ¬ x0 = 25 then
  (b2 (f_MO_calculate v2 v4 μ) fun v16 μ17 =>
  some (v16, μ17))
  else
  some ((0 : Int32), μ)) fun v10 μ11 =>
  b2 (if x0 = 25 then
  (b2 (f_MO_calculate v6 v8 μ11) fun v26 μ27 =>
  some (v26, μ27))
  else
  (if ¬ (μ11 70 49) = 0 then
  some ((0 : Int32), μ11)
  else
  (b2 (f_MO_calculate v6 v8 μ11) fun v31 μ32 =>
  some (v31, μ32)))) fun v20 μ21 =>
  if (μ21 70 49) = 0 then
  (if ¬ x0 = 25 then
  (b1 (if ¬ x0 = 26 then
  (if ¬ v10 = v20 then
  some ((1 : Int32))
  else
  some ((0 : Int32)))
  else
  (if v20 ≤ v10 then
  some ((1 : Int32))
  else
  some ((0 : Int32)))) fun v37 =>
  some ((sI μ21 70 49 v37)))
  else
  (b1 (f_MO_unify v2 v4 1 v20 μ21) fun μ44 =>
  some (μ44)))
  else
  some (μ21))
  else
  (b1 (f_MO_unify v2 v4 v6 v8 μ) fun μ47 =>
  some (μ47)))
theorem t_MO_known {x0 : Int32} {x1 : Int32} {μ : Mu} {μr : Mu} (h : f_MO_known x0 x1 μ = some (μr)) : gv_ev G (d + 5) M_MO_known [gR 70, gI x0, gI x1] (hp n acc g cap μ) (.inl none) (hp n acc g cap μr) := by
  unfold f_MO_known at h
  refine gv_E (ls := [some (gR 70), some (gI x0), some (gI x1), none, none, none, none, none, none]) (by decide) (fun h => by cases h) (Nat.le_of_ble_eq_true rfl) rfl ?_
  refine gv_B ok_MO_known 3 rfl ?_
  obtain ⟨v2, e1, h⟩ := b1_e h
  refine gv_Vc ok_MO_known rfl mk_MO_argumentKind rfl (t_MO_argumentKind (d := d + 4) e1) rfl rfl (Nat.le_of_ble_eq_true rfl) rfl rfl rfl ?_
  refine gv_B ok_MO_known 4 rfl ?_
  obtain ⟨v4, e3, h⟩ := b1_e h
  refine gv_Vc ok_MO_known rfl mk_MO_argumentValue rfl (t_MO_argumentValue (d := d + 4) e3) rfl rfl (Nat.le_of_ble_eq_true rfl) rfl rfl rfl ?_
  refine gv_B ok_MO_known 4 rfl ?_
  obtain ⟨v6, e5, h⟩ := b1_e h
  refine gv_Vc ok_MO_known rfl mk_MO_argumentKind rfl (t_MO_argumentKind (d := d + 4) e5) rfl rfl (Nat.le_of_ble_eq_true rfl) rfl rfl rfl ?_
  refine gv_B ok_MO_known 4 rfl ?_
  obtain ⟨v8, e7, h⟩ := b1_e h
  refine gv_Vc ok_MO_known rfl mk_MO_argumentValue rfl (t_MO_argumentValue (d := d + 4) e7) rfl rfl (Nat.le_of_ble_eq_true rfl) rfl rfl rfl ?_
  refine gv_B ok_MO_known 4 rfl ?_
  by_cases c9 : ¬ x0 = 24
  · rw [if_pos c9] at h
    refine gv_brT c9 ?_
    refine gv_B ok_MO_known 3 rfl ?_
    obtain ⟨v10, μ11, e12, h⟩ := b2_e h
    have K13 : gv_go G M_MO_known (d + 5) (.inl none) (hp n acc g cap μr) 66 [some (gR 70), some (gI x0), none, some (gI v2), some (gI v4), some (gI v6), some (gI v8), none, none] [gI v10] (hp n acc g cap μ11) := by
      refine gv_B ok_MO_known 4 rfl ?_
      obtain ⟨v20, μ21, e22, h⟩ := b2_e h
      have K23 : gv_go G M_MO_known (d + 5) (.inl none) (hp n acc g cap μr) 93 [some (gR 70), some (gI x0), none, some (gI v2), some (gI v4), none, none, some (gI v10), none] [gI v20] (hp n acc g cap μ21) := by
        refine gv_B ok_MO_known 4 rfl ?_
        by_cases c35 : (μ21 70 49) = 0
        · rw [if_pos c35] at h
          refine gv_brT c35 ?_
          refine gv_B ok_MO_known 3 rfl ?_
          by_cases c36 : ¬ x0 = 25
          · rw [if_pos c36] at h
            refine gv_brT c36 ?_
            refine gv_B ok_MO_known 4 rfl ?_
            obtain ⟨v37, e38, h⟩ := b1_e h
            have K39 : gv_go G M_MO_known (d + 5) (.inl none) (hp n acc g cap μr) 151 [none, none, none, none, none, none, none, none, none] [gI v37, gR 70] (hp n acc g cap μ21) := by
              refine hp_pf ok_MO_known rfl rfl rfl rfl rfl (Nat.le_of_ble_eq_true rfl) rfl ?_
              have h9 := Option.some.inj h
              subst h9
              exact gv_Rv ok_MO_known rfl rfl
            clear h
            have h := e38
            clear e38
            by_cases c40 : ¬ x0 = 26
            · rw [if_pos c40] at h
              refine gv_brT c40 ?_
              refine gv_B ok_MO_known 3 rfl ?_
              by_cases c41 : ¬ v10 = v20
              · rw [if_pos c41] at h
                refine gv_brT c41 ?_
                refine gv_B ok_MO_known 1 rfl ?_
                have h9 := Option.some.inj h
                subst h9
                exact gv_fk K39 trivial
              · rw [if_neg c41] at h
                refine gv_brF c41 ?_
                refine gv_B ok_MO_known 2 rfl ?_
                have h9 := Option.some.inj h
                subst h9
                exact gv_fk K39 trivial
            · rw [if_neg c40] at h
              refine gv_brF c40 ?_
              refine gv_B ok_MO_known 3 rfl ?_
              by_cases c42 : v20 ≤ v10
              · rw [if_pos c42] at h
                refine gv_brT c42 ?_
                refine gv_B ok_MO_known 1 rfl ?_
                have h9 := Option.some.inj h
                subst h9
                exact gv_fk K39 trivial
              · rw [if_neg c42] at h
                refine gv_brF c42 ?_
                refine gv_B ok_MO_known 3 rfl ?_
                have h9 := Option.some.inj h
                subst h9
                exact gv_fk K39 trivial
          · rw [if_neg c36] at h
            refine gv_brF c36 ?_
            refine gv_B ok_MO_known 5 rfl ?_
            obtain ⟨μ44, e43, h⟩ := b1_e h
            refine gv_Vc ok_MO_known rfl mk_MO_unify rfl (t_MO_unify (d := d) e43) rfl rfl (Nat.le_of_ble_eq_true rfl) rfl rfl rfl ?_
            refine gv_B ok_MO_known 1 rfl ?_
            have h9 := Option.some.inj h
            subst h9
            exact gv_Rv ok_MO_known rfl rfl
        · rw [if_neg c35] at h
          refine gv_brF c35 ?_
          have h9 := Option.some.inj h
          subst h9
          exact gv_Rv ok_MO_known rfl rfl
      clear h
      have h := e22
      clear e22
      by_cases c24 : x0 = 25
      · rw [if_pos c24] at h
        refine gv_brT c24 ?_
        refine gv_B ok_MO_known 3 rfl ?_
        obtain ⟨v26, μ27, e25, h⟩ := b2_e h
        refine gv_Vc ok_MO_known rfl mk_MO_calculate rfl (t_MO_calculate (d := d + 2) e25) rfl rfl (Nat.le_of_ble_eq_true rfl) rfl rfl rfl ?_
        refine gv_B ok_MO_known 1 rfl ?_
        have j0 := Option.some.inj h
        obtain ⟨i1, j1⟩ := Prod.mk.inj j0
        subst i1
        subst j1
        exact gv_fk K23 ⟨rfl, ⟨rfl, ⟨rfl, ⟨rfl, ⟨rfl, trivial⟩⟩⟩⟩⟩
      · rw [if_neg c24] at h
        refine gv_brF c24 ?_
        refine gv_B ok_MO_known 3 rfl ?_
        by_cases c29 : ¬ (μ11 70 49) = 0
        · rw [if_pos c29] at h
          refine gv_brT c29 ?_
          refine gv_B ok_MO_known 1 rfl ?_
          have j0 := Option.some.inj h
          obtain ⟨i1, j1⟩ := Prod.mk.inj j0
          subst i1
          subst j1
          exact gv_fk K23 ⟨rfl, ⟨rfl, ⟨rfl, ⟨rfl, ⟨rfl, trivial⟩⟩⟩⟩⟩
        · rw [if_neg c29] at h
          refine gv_brF c29 ?_
          refine gv_B ok_MO_known 3 rfl ?_
          obtain ⟨v31, μ32, e30, h⟩ := b2_e h
          refine gv_Vc ok_MO_known rfl mk_MO_calculate rfl (t_MO_calculate (d := d + 2) e30) rfl rfl (Nat.le_of_ble_eq_true rfl) rfl rfl rfl ?_
          refine gv_B ok_MO_known 1 rfl ?_
          have j0 := Option.some.inj h
          obtain ⟨i1, j1⟩ := Prod.mk.inj j0
          subst i1
          subst j1
          exact gv_fk K23 ⟨rfl, ⟨rfl, ⟨rfl, ⟨rfl, ⟨rfl, trivial⟩⟩⟩⟩⟩
    clear h
    have h := e12
    clear e12
    by_cases c14 : ¬ x0 = 25
    · rw [if_pos c14] at h
      refine gv_brT c14 ?_
      refine gv_B ok_MO_known 3 rfl ?_
      obtain ⟨v16, μ17, e15, h⟩ := b2_e h
      refine gv_Vc ok_MO_known rfl mk_MO_calculate rfl (t_MO_calculate (d := d + 2) e15) rfl rfl (Nat.le_of_ble_eq_true rfl) rfl rfl rfl ?_
      have j0 := Option.some.inj h
      obtain ⟨i1, j1⟩ := Prod.mk.inj j0
      subst i1
      subst j1
      exact gv_fk K13 ⟨rfl, ⟨rfl, ⟨rfl, ⟨rfl, ⟨rfl, ⟨rfl, trivial⟩⟩⟩⟩⟩⟩
    · rw [if_neg c14] at h
      refine gv_brF c14 ?_
      refine gv_B ok_MO_known 2 rfl ?_
      have j0 := Option.some.inj h
      obtain ⟨i1, j1⟩ := Prod.mk.inj j0
      subst i1
      subst j1
      exact gv_fk K13 ⟨rfl, ⟨rfl, ⟨rfl, ⟨rfl, ⟨rfl, ⟨rfl, trivial⟩⟩⟩⟩⟩⟩
  · rw [if_neg c9] at h
    refine gv_brF c9 ?_
    refine gv_B ok_MO_known 5 rfl ?_
    obtain ⟨μ47, e46, h⟩ := b1_e h
    refine gv_Vc ok_MO_known rfl mk_MO_unify rfl (t_MO_unify (d := d) e46) rfl rfl (Nat.le_of_ble_eq_true rfl) rfl rfl rfl ?_
    have h9 := Option.some.inj h
    subst h9
    exact gv_Rv ok_MO_known rfl rfl
def f_MO_step (μ : Mu) : Option (Mu) :=
  (b1 (f_MO_kindOf (μ 70 16) (sI (sI μ 70 27 ((μ 70 27) - 1)) 70 49 0)) fun v2 =>
  b1 (f_MO_valueOf (μ 70 16) (sI (sI μ 70 27 ((μ 70 27) - 1)) 70 49 0)) fun v4 =>
  b1 (rd (μ 81) 8900 (μ 70 16)) fun v5 =>
  b1 (if ¬ v2 = 3 then
  some ((-1 : Int32))
  else
  (b1 (rd (μ 78) 240 v4) fun v11 =>
  b1 (f_MO_arity v11 (sI (sI (sI (sI μ 70 27 ((μ 70 27) - 1)) 70 49 0) 70 16 v5) 70 17 (-1))) fun v14 =>
  if ¬ v14 = 2 then
  some ((-1 : Int32))
  else
  (b1 (rd (μ 78) 240 v4) fun v16 =>
  some ((v16 >>> ((3 : Int32) &&& 31)))))) fun v7 =>
  b1 (if (μ 70 17) < 0 then
  (if ¬ v2 = 6 then
  (if v7 ≤ 23 then
  (b1 (f_MO_wordOf v2 v4 (sI (sI (sI (sI μ 70 27 ((μ 70 27) - 1)) 70 49 0) 70 16 v5) 70 17 (-1))) fun v25 =>
  b1 (f_MO_ruleFor v25 0 (sI (sI (sI (sI μ 70 27 ((μ 70 27) - 1)) 70 49 0) 70 16 v5) 70 17 (-1))) fun v27 =>
  b1 (if 0 ≤ v27 then
  some ((0 : Int32))
  else
  some ((1 : Int32))) fun v28 =>
  if v27 < 0 then
  some ((sI (sI (sI (sI (sI μ 70 27 ((μ 70 27) - 1)) 70 49 0) 70 16 v5) 70 17 (-1)) 70 49 v28))
  else
  (b1 (f_MO_attempt v27 (μ 70 16) (sI (sI (sI (sI (sI μ 70 27 ((μ 70 27) - 1)) 70 49 0) 70 16 v5) 70 17 (-1)) 70 49 v28)) fun μ34 =>
  some (μ34)))
  else
  (if 28 ≤ v7 then
  (b1 (f_MO_wordOf v2 v4 (sI (sI (sI (sI μ 70 27 ((μ 70 27) - 1)) 70 49 0) 70 16 v5) 70 17 (-1))) fun v38 =>
  b1 (f_MO_ruleFor v38 0 (sI (sI (sI (sI μ 70 27 ((μ 70 27) - 1)) 70 49 0) 70 16 v5) 70 17 (-1))) fun v40 =>
  b1 (if 0 ≤ v40 then
  some ((0 : Int32))
  else
  some ((1 : Int32))) fun v41 =>
  if v40 < 0 then
  some ((sI (sI (sI (sI (sI μ 70 27 ((μ 70 27) - 1)) 70 49 0) 70 16 v5) 70 17 (-1)) 70 49 v41))
  else
  (b1 (f_MO_attempt v40 (μ 70 16) (sI (sI (sI (sI (sI μ 70 27 ((μ 70 27) - 1)) 70 49 0) 70 16 v5) 70 17 (-1)) 70 49 v41)) fun μ47 =>
  some (μ47)))
  else
  (b1 (f_MO_known v7 v4 (sI (sI (sI (sI μ 70 27 ((μ 70 27) - 1)) 70 49 0) 70 16 v5) 70 17 (-1))) fun μ50 =>
  some (μ50))))
  else
  (b1 (rd (μ 80) 8900 (μ 70 16)) fun v52 =>
  b1 (if (μ 70 18) ≤ (v52 >>> ((11 : Int32) &&& 31)) then
  some ((μ 70 18))
  else
  some ((v52 >>> ((11 : Int32) &&& 31)))) fun v54 =>
  some ((sI (sI (sI (sI (sI μ 70 27 ((μ 70 27) - 1)) 70 49 0) 70 16 v5) 70 17 (-1)) 70 18 v54))))
  else
  (b1 (f_MO_attempt (μ 70 17) (μ 70 16) (sI (sI (sI (sI μ 70 27 ((μ 70 27) - 1)) 70 49 0) 70 16 v5) 70 17 (-1))) fun μ59 =>
  some (μ59))) fun μ18 =>
  if ¬ (μ18 70 49) = 1 then
  (if (μ18 70 49) ≤ 1 then
  (b1 (if 0 ≤ (μ18 70 16) then
  some ((0 : Int32))
  else
  some ((1 : Int32))) fun v64 =>
  if (v64 = 0 ∨ v64 = 1) then some ((sI μ18 70 26 v64)) else none)
  else
  (b1 (f_MO_end (sI μ18 70 0 ((μ18 70 49) + 1))) fun μ70 =>
  some (μ70)))
  else
  (b1 (f_MO_fail μ18) fun μ73 =>
  some (μ73)))
theorem t_MO_step {μ : Mu} {μr : Mu} (h : f_MO_step μ = some (μr)) : gv_ev G (d + 6) M_MO_step [gR 70] (hp n acc g cap μ) (.inl none) (hp n acc g cap μr) := by
  unfold f_MO_step at h
  refine gv_E (ls := [some (gR 70), none, none, none, none, none, none]) (by decide) (fun h => by cases h) (Nat.le_of_ble_eq_true rfl) rfl ?_
  refine gv_B ok_MO_step 5 rfl ?_
  refine hp_pf ok_MO_step rfl rfl rfl rfl rfl (Nat.le_of_ble_eq_true rfl) rfl ?_
  refine gv_B ok_MO_step 2 rfl ?_
  refine hp_pf ok_MO_step rfl rfl rfl rfl rfl (Nat.le_of_ble_eq_true rfl) rfl ?_
  refine gv_B ok_MO_step 8 rfl ?_
  obtain ⟨v2, e1, h⟩ := b1_e h
  refine gv_Vc ok_MO_step rfl mk_MO_kindOf rfl (t_MO_kindOf (d := d + 5) e1) rfl rfl (Nat.le_of_ble_eq_true rfl) rfl rfl rfl ?_
  refine gv_B ok_MO_step 3 rfl ?_
  obtain ⟨v4, e3, h⟩ := b1_e h
  refine gv_Vc ok_MO_step rfl mk_MO_valueOf rfl (t_MO_valueOf (d := d + 5) e3) rfl rfl (Nat.le_of_ble_eq_true rfl) rfl rfl rfl ?_
  refine gv_B ok_MO_step 5 rfl ?_
  obtain ⟨v5, e6, h⟩ := b1_e h
  refine hp_rd ok_MO_step rfl rfl e6 ?_
  refine hp_pf ok_MO_step rfl rfl rfl rfl rfl (Nat.le_of_ble_eq_true rfl) rfl ?_
  refine gv_B ok_MO_step 2 rfl ?_
  refine hp_pf ok_MO_step rfl rfl rfl rfl rfl (Nat.le_of_ble_eq_true rfl) rfl ?_
  refine gv_B ok_MO_step 3 rfl ?_
  obtain ⟨v7, e8, h⟩ := b1_e h
  have K9 : gv_go G M_MO_step (d + 6) (.inl none) (hp n acc g cap μr) 86 [some (gR 70), some (gI (μ 70 16)), some (gI (μ 70 17)), some (gI v2), some (gI v4), none, none] [gI v7] (hp n acc g cap (sI (sI (sI (sI μ 70 27 ((μ 70 27) - 1)) 70 49 0) 70 16 v5) 70 17 (-1))) := by
    refine gv_B ok_MO_step 3 rfl ?_
    obtain ⟨μ18, e19, h⟩ := b1_e h
    have K20 : gv_go G M_MO_step (d + 6) (.inl none) (hp n acc g cap μr) 204 [some (gR 70), none, none, none, none, none, none] [] (hp n acc g cap μ18) := by
      refine gv_B ok_MO_step 4 rfl ?_
      by_cases c62 : ¬ (μ18 70 49) = 1
      · rw [if_pos c62] at h
        refine gv_brT c62 ?_
        refine gv_B ok_MO_step 4 rfl ?_
        by_cases c63 : (μ18 70 49) ≤ 1
        · rw [if_pos c63] at h
          refine gv_brT c63 ?_
          refine gv_B ok_MO_step 4 rfl ?_
          obtain ⟨v64, e65, h⟩ := b1_e h
          have K66 : gv_go G M_MO_step (d + 6) (.inl none) (hp n acc g cap μr) 257 [none, none, none, none, none, none, none] [gI v64, gR 70] (hp n acc g cap μ18) := by
            by_cases c68 : (v64 = 0 ∨ v64 = 1)
            rotate_left
            · rw [if_neg c68] at h
              cases h
            rw [if_pos c68] at h
            refine hp_pf ok_MO_step rfl rfl rfl rfl rfl (Nat.le_of_ble_eq_true rfl) (decide_eq_true c68) ?_
            have h9 := Option.some.inj h
            subst h9
            exact gv_Rv ok_MO_step rfl rfl
          clear h
          have h := e65
          clear e65
          by_cases c67 : 0 ≤ (μ18 70 16)
          · rw [if_pos c67] at h
            refine gv_brT c67 ?_
            refine gv_B ok_MO_step 1 rfl ?_
            have h9 := Option.some.inj h
            subst h9
            exact gv_fk K66 trivial
          · rw [if_neg c67] at h
            refine gv_brF c67 ?_
            refine gv_B ok_MO_step 2 rfl ?_
            have h9 := Option.some.inj h
            subst h9
            exact gv_fk K66 trivial
        · rw [if_neg c63] at h
          refine gv_brF c63 ?_
          refine gv_B ok_MO_step 5 rfl ?_
          refine hp_pf ok_MO_step rfl rfl rfl rfl rfl (Nat.le_of_ble_eq_true rfl) rfl ?_
          refine gv_B ok_MO_step 1 rfl ?_
          obtain ⟨μ70, e69, h⟩ := b1_e h
          refine gv_Vc ok_MO_step rfl mk_MO_end rfl (t_MO_end (d := d + 5) e69) rfl rfl (Nat.le_of_ble_eq_true rfl) rfl rfl rfl ?_
          refine gv_B ok_MO_step 1 rfl ?_
          have h9 := Option.some.inj h
          subst h9
          exact gv_Rv ok_MO_step rfl rfl
      · rw [if_neg c62] at h
        refine gv_brF c62 ?_
        refine gv_B ok_MO_step 1 rfl ?_
        obtain ⟨μ73, e72, h⟩ := b1_e h
        refine gv_Vc ok_MO_step rfl mk_MO_fail rfl (t_MO_fail (d := d + 4) e72) rfl rfl (Nat.le_of_ble_eq_true rfl) rfl rfl rfl ?_
        refine gv_B ok_MO_step 1 rfl ?_
        have h9 := Option.some.inj h
        subst h9
        exact gv_Rv ok_MO_step rfl rfl
    clear h
    have h := e19
    clear e19
    by_cases c21 : (μ 70 17) < 0
    · rw [if_pos c21] at h
      refine gv_brT c21 ?_
      refine gv_B ok_MO_step 3 rfl ?_
      by_cases c22 : ¬ v2 = 6
      · rw [if_pos c22] at h
        refine gv_brT c22 ?_
        refine gv_B ok_MO_step 3 rfl ?_
        by_cases c23 : v7 ≤ 23
        · rw [if_pos c23] at h
          refine gv_brT c23 ?_
          refine gv_B ok_MO_step 4 rfl ?_
          obtain ⟨v25, e24, h⟩ := b1_e h
          refine gv_Vc ok_MO_step rfl mk_MO_wordOf rfl (t_MO_wordOf (d := d + 5) e24) rfl rfl (Nat.le_of_ble_eq_true rfl) rfl rfl rfl ?_
          refine gv_B ok_MO_step 1 rfl ?_
          obtain ⟨v27, e26, h⟩ := b1_e h
          refine gv_Vc ok_MO_step rfl mk_MO_ruleFor rfl (t_MO_ruleFor (d := d + 5) e26) rfl rfl (Nat.le_of_ble_eq_true rfl) rfl rfl rfl ?_
          refine gv_B ok_MO_step 4 rfl ?_
          obtain ⟨v28, e29, h⟩ := b1_e h
          have K30 : gv_go G M_MO_step (d + 6) (.inl none) (hp n acc g cap μr) 191 [some (gR 70), some (gI (μ 70 16)), some (gI v27), none, none, none, none] [gI v28, gR 70] (hp n acc g cap (sI (sI (sI (sI μ 70 27 ((μ 70 27) - 1)) 70 49 0) 70 16 v5) 70 17 (-1))) := by
            refine hp_pf ok_MO_step rfl rfl rfl rfl rfl (Nat.le_of_ble_eq_true rfl) rfl ?_
            refine gv_B ok_MO_step 2 rfl ?_
            by_cases c32 : v27 < 0
            · rw [if_pos c32] at h
              refine gv_brT c32 ?_
              have h9 := Option.some.inj h
              subst h9
              exact gv_fk K20 ⟨rfl, trivial⟩
            · rw [if_neg c32] at h
              refine gv_brF c32 ?_
              refine gv_B ok_MO_step 3 rfl ?_
              obtain ⟨μ34, e33, h⟩ := b1_e h
              refine gv_Vc ok_MO_step rfl mk_MO_attempt rfl (t_MO_attempt (d := d) e33) rfl rfl (Nat.le_of_ble_eq_true rfl) rfl rfl rfl ?_
              have h9 := Option.some.inj h
              subst h9
              exact gv_fk K20 ⟨rfl, trivial⟩
          clear h
          have h := e29
          clear e29
          by_cases c31 : 0 ≤ v27
          · rw [if_pos c31] at h
            refine gv_brT c31 ?_
            refine gv_B ok_MO_step 1 rfl ?_
            have h9 := Option.some.inj h
            subst h9
            exact gv_fk K30 ⟨rfl, ⟨rfl, ⟨rfl, trivial⟩⟩⟩
          · rw [if_neg c31] at h
            refine gv_brF c31 ?_
            refine gv_B ok_MO_step 2 rfl ?_
            have h9 := Option.some.inj h
            subst h9
            exact gv_fk K30 ⟨rfl, ⟨rfl, ⟨rfl, trivial⟩⟩⟩
        · rw [if_neg c23] at h
          refine gv_brF c23 ?_
          refine gv_B ok_MO_step 3 rfl ?_
          by_cases c36 : 28 ≤ v7
          · rw [if_pos c36] at h
            refine gv_brT c36 ?_
            refine gv_B ok_MO_step 4 rfl ?_
            obtain ⟨v38, e37, h⟩ := b1_e h
            refine gv_Vc ok_MO_step rfl mk_MO_wordOf rfl (t_MO_wordOf (d := d + 5) e37) rfl rfl (Nat.le_of_ble_eq_true rfl) rfl rfl rfl ?_
            refine gv_B ok_MO_step 1 rfl ?_
            obtain ⟨v40, e39, h⟩ := b1_e h
            refine gv_Vc ok_MO_step rfl mk_MO_ruleFor rfl (t_MO_ruleFor (d := d + 5) e39) rfl rfl (Nat.le_of_ble_eq_true rfl) rfl rfl rfl ?_
            refine gv_B ok_MO_step 4 rfl ?_
            obtain ⟨v41, e42, h⟩ := b1_e h
            have K43 : gv_go G M_MO_step (d + 6) (.inl none) (hp n acc g cap μr) 191 [some (gR 70), some (gI (μ 70 16)), some (gI v40), none, none, none, none] [gI v41, gR 70] (hp n acc g cap (sI (sI (sI (sI μ 70 27 ((μ 70 27) - 1)) 70 49 0) 70 16 v5) 70 17 (-1))) := by
              refine hp_pf ok_MO_step rfl rfl rfl rfl rfl (Nat.le_of_ble_eq_true rfl) rfl ?_
              refine gv_B ok_MO_step 2 rfl ?_
              by_cases c45 : v40 < 0
              · rw [if_pos c45] at h
                refine gv_brT c45 ?_
                have h9 := Option.some.inj h
                subst h9
                exact gv_fk K20 ⟨rfl, trivial⟩
              · rw [if_neg c45] at h
                refine gv_brF c45 ?_
                refine gv_B ok_MO_step 3 rfl ?_
                obtain ⟨μ47, e46, h⟩ := b1_e h
                refine gv_Vc ok_MO_step rfl mk_MO_attempt rfl (t_MO_attempt (d := d) e46) rfl rfl (Nat.le_of_ble_eq_true rfl) rfl rfl rfl ?_
                have h9 := Option.some.inj h
                subst h9
                exact gv_fk K20 ⟨rfl, trivial⟩
            clear h
            have h := e42
            clear e42
            by_cases c44 : 0 ≤ v40
            · rw [if_pos c44] at h
              refine gv_brT c44 ?_
              refine gv_B ok_MO_step 1 rfl ?_
              have h9 := Option.some.inj h
              subst h9
              exact gv_fk K43 ⟨rfl, ⟨rfl, ⟨rfl, trivial⟩⟩⟩
            · rw [if_neg c44] at h
              refine gv_brF c44 ?_
              refine gv_B ok_MO_step 2 rfl ?_
              have h9 := Option.some.inj h
              subst h9
              exact gv_fk K43 ⟨rfl, ⟨rfl, ⟨rfl, trivial⟩⟩⟩
          · rw [if_neg c36] at h
            refine gv_brF c36 ?_
            refine gv_B ok_MO_step 3 rfl ?_
            obtain ⟨μ50, e49, h⟩ := b1_e h
            refine gv_Vc ok_MO_step rfl mk_MO_known rfl (t_MO_known (d := d) e49) rfl rfl (Nat.le_of_ble_eq_true rfl) rfl rfl rfl ?_
            refine gv_B ok_MO_step 1 rfl ?_
            have h9 := Option.some.inj h
            subst h9
            exact gv_fk K20 ⟨rfl, trivial⟩
      · rw [if_neg c22] at h
        refine gv_brF c22 ?_
        refine gv_B ok_MO_step 3 rfl ?_
        obtain ⟨v52, e53, h⟩ := b1_e h
        refine hp_rd ok_MO_step rfl rfl e53 ?_
        refine gv_B ok_MO_step 8 rfl ?_
        obtain ⟨v54, e55, h⟩ := b1_e h
        have K56 : gv_go G M_MO_step (d + 6) (.inl none) (hp n acc g cap μr) 137 [some (gR 70), none, none, none, none, none, none] [gI v54, gR 70] (hp n acc g cap (sI (sI (sI (sI μ 70 27 ((μ 70 27) - 1)) 70 49 0) 70 16 v5) 70 17 (-1))) := by
          refine hp_pf ok_MO_step rfl rfl rfl rfl rfl (Nat.le_of_ble_eq_true rfl) rfl ?_
          refine gv_B ok_MO_step 1 rfl ?_
          have h9 := Option.some.inj h
          subst h9
          exact K20
        clear h
        have h := e55
        clear e55
        by_cases c57 : (μ 70 18) ≤ (v52 >>> ((11 : Int32) &&& 31))
        · rw [if_pos c57] at h
          refine gv_brT c57 ?_
          refine gv_B ok_MO_step 2 rfl ?_
          have h9 := Option.some.inj h
          subst h9
          exact gv_fk K56 ⟨rfl, trivial⟩
        · rw [if_neg c57] at h
          refine gv_brF c57 ?_
          refine gv_B ok_MO_step 2 rfl ?_
          have h9 := Option.some.inj h
          subst h9
          exact gv_fk K56 ⟨rfl, trivial⟩
    · rw [if_neg c21] at h
      refine gv_brF c21 ?_
      refine gv_B ok_MO_step 3 rfl ?_
      obtain ⟨μ59, e58, h⟩ := b1_e h
      refine gv_Vc ok_MO_step rfl mk_MO_attempt rfl (t_MO_attempt (d := d) e58) rfl rfl (Nat.le_of_ble_eq_true rfl) rfl rfl rfl ?_
      refine gv_B ok_MO_step 1 rfl ?_
      have h9 := Option.some.inj h
      subst h9
      exact gv_fk K20 ⟨rfl, trivial⟩
  clear h
  have h := e8
  clear e8
  by_cases c10 : ¬ v2 = 3
  · rw [if_pos c10] at h
    refine gv_brT c10 ?_
    refine gv_B ok_MO_step 1 rfl ?_
    have h9 := Option.some.inj h
    subst h9
    exact K9
  · rw [if_neg c10] at h
    refine gv_brF c10 ?_
    refine gv_B ok_MO_step 4 rfl ?_
    obtain ⟨v11, e12, h⟩ := b1_e h
    refine hp_rd ok_MO_step rfl rfl e12 ?_
    obtain ⟨v14, e13, h⟩ := b1_e h
    refine gv_Vc ok_MO_step rfl mk_MO_arity rfl (t_MO_arity (d := d + 5) e13) rfl rfl (Nat.le_of_ble_eq_true rfl) rfl rfl rfl ?_
    refine gv_B ok_MO_step 2 rfl ?_
    by_cases c15 : ¬ v14 = 2
    · rw [if_pos c15] at h
      refine gv_brT c15 ?_
      refine gv_B ok_MO_step 1 rfl ?_
      have h9 := Option.some.inj h
      subst h9
      exact K9
    · rw [if_neg c15] at h
      refine gv_brF c15 ?_
      refine gv_B ok_MO_step 3 rfl ?_
      obtain ⟨v16, e17, h⟩ := b1_e h
      refine hp_rd ok_MO_step rfl rfl e17 ?_
      refine gv_B ok_MO_step 3 rfl ?_
      have h9 := Option.some.inj h
      subst h9
      exact K9
def f_MO_solve_40 (k1 : Int32) : Nat → Int32 → Mu → Option (Mu)
  | 0, _, _ => none
  | f + 1, y2, μ =>
    (if k1 ≤ y2 then
    some (μ)
    else
    (if ¬ (μ 70 0) = 0 then
    some (μ)
    else
    (if (μ 70 25) = 0 then
    some (μ)
    else
    (if ¬ (μ 70 26) = 0 then
    some (μ)
    else
    (if (μ 70 27) ≤ 0 then
    some (μ)
    else
    (b1 (f_MO_step μ) fun μ14 =>
    f_MO_solve_40 k1 f (y2 + 1) μ14))))))
def f_MO_solve (x0 : Int32) (μ : Mu) : Option (Int32 × Mu) :=
  (b1 (if x0 < 1 then
  some ((1 : Int32))
  else
  (if x0 ≤ 20 then
  (if (μ 70 25) = 0 then
  some ((2 : Int32))
  else
  (if (μ 70 26) = 0 then
  some ((0 : Int32))
  else
  some ((2 : Int32))))
  else
  some ((1 : Int32)))) fun v1 =>
  b1 (f_MO_solve_40 x0 fu 0 (sI μ 70 0 v1)) fun μ16 =>
  if (μ16 70 0) = 0 then
  (if ¬ (μ16 70 25) = 0 then
  (if (μ16 70 26) = 0 then
  some (2, μ16)
  else
  some (1, μ16))
  else
  some (0, μ16))
  else
  some (0, μ16))
theorem t_MO_solve_40 {r : gv_O} {hf : gv_H} {k1 : Int32} (fl : Nat) : ∀ {y2 : Int32} {μ : Mu} {μz : Mu}, f_MO_solve_40 k1 fl y2 μ = some (μz) → gv_go G M_MO_solve (d + 7) r hf 83 [some (gR 70), none, none] [] (hp n acc g cap μz) → gv_go G M_MO_solve (d + 7) r hf 40 [some (gR 70), some (gI k1), some (gI y2)] [] (hp n acc g cap μ) := by
  induction fl with
  | zero => intro _ _ _ h _; cases h
  | succ f ih =>
    intro y2 μ μz h KJ
    unfold f_MO_solve_40 at h
    refine gv_B ok_MO_solve 3 rfl ?_
    by_cases c8 : k1 ≤ y2
    · rw [if_pos c8] at h
      refine gv_brT c8 ?_
      have h9 := Option.some.inj h
      subst h9
      exact gv_fk KJ ⟨rfl, trivial⟩
    · rw [if_neg c8] at h
      refine gv_brF c8 ?_
      refine gv_B ok_MO_solve 3 rfl ?_
      by_cases c9 : ¬ (μ 70 0) = 0
      · rw [if_pos c9] at h
        refine gv_brT c9 ?_
        have h9 := Option.some.inj h
        subst h9
        exact gv_fk KJ ⟨rfl, trivial⟩
      · rw [if_neg c9] at h
        refine gv_brF c9 ?_
        refine gv_B ok_MO_solve 3 rfl ?_
        by_cases c10 : (μ 70 25) = 0
        · rw [if_pos c10] at h
          refine gv_brT c10 ?_
          have h9 := Option.some.inj h
          subst h9
          exact gv_fk KJ ⟨rfl, trivial⟩
        · rw [if_neg c10] at h
          refine gv_brF c10 ?_
          refine gv_B ok_MO_solve 3 rfl ?_
          by_cases c11 : ¬ (μ 70 26) = 0
          · rw [if_pos c11] at h
            refine gv_brT c11 ?_
            have h9 := Option.some.inj h
            subst h9
            exact gv_fk KJ ⟨rfl, trivial⟩
          · rw [if_neg c11] at h
            refine gv_brF c11 ?_
            refine gv_B ok_MO_solve 3 rfl ?_
            by_cases c12 : (μ 70 27) ≤ 0
            · rw [if_pos c12] at h
              refine gv_brT c12 ?_
              have h9 := Option.some.inj h
              subst h9
              exact gv_fk KJ ⟨rfl, trivial⟩
            · rw [if_neg c12] at h
              refine gv_brF c12 ?_
              refine gv_B ok_MO_solve 1 rfl ?_
              obtain ⟨μ14, e13, h⟩ := b1_e h
              refine gv_Vc ok_MO_solve rfl mk_MO_step rfl (t_MO_step (d := d) e13) rfl rfl (Nat.le_of_ble_eq_true rfl) rfl rfl rfl ?_
              refine gv_B ok_MO_solve 2 rfl ?_
              exact ih h KJ
theorem t_MO_solve {x0 : Int32} {μ : Mu} {r : Int32} {μr : Mu} (h : f_MO_solve x0 μ = some (r, μr)) : gv_ev G (d + 7) M_MO_solve [gR 70, gI x0] (hp n acc g cap μ) (.inl (some (gI r))) (hp n acc g cap μr) := by
  unfold f_MO_solve at h
  refine gv_E (ls := [some (gR 70), some (gI x0), none]) (by decide) (fun h => by cases h) (Nat.le_of_ble_eq_true rfl) rfl ?_
  refine gv_B ok_MO_solve 4 rfl ?_
  obtain ⟨v1, e2, h⟩ := b1_e h
  have K3 : gv_go G M_MO_solve (d + 7) (.inl (some (gI r))) (hp n acc g cap μr) 35 [some (gR 70), some (gI x0), none] [gI v1, gR 70] (hp n acc g cap μ) := by
    refine hp_pf ok_MO_solve rfl rfl rfl rfl rfl (Nat.le_of_ble_eq_true rfl) rfl ?_
    refine gv_B ok_MO_solve 2 rfl ?_
    obtain ⟨μ16, e17, h⟩ := b1_e h
    have K18 : gv_go G M_MO_solve (d + 7) (.inl (some (gI r))) (hp n acc g cap μr) 83 [some (gR 70), none, none] [] (hp n acc g cap μ16) := by
      refine gv_B ok_MO_solve 3 rfl ?_
      by_cases c20 : (μ16 70 0) = 0
      · rw [if_pos c20] at h
        refine gv_brT c20 ?_
        refine gv_B ok_MO_solve 3 rfl ?_
        by_cases c21 : ¬ (μ16 70 25) = 0
        · rw [if_pos c21] at h
          refine gv_brT c21 ?_
          refine gv_B ok_MO_solve 3 rfl ?_
          by_cases c22 : (μ16 70 26) = 0
          · rw [if_pos c22] at h
            refine gv_brT c22 ?_
            refine gv_B ok_MO_solve 1 rfl ?_
            have j0 := Option.some.inj h
            obtain ⟨i1, j1⟩ := Prod.mk.inj j0
            subst i1
            subst j1
            exact gv_Ri ok_MO_solve rfl rfl
          · rw [if_neg c22] at h
            refine gv_brF c22 ?_
            refine gv_B ok_MO_solve 2 rfl ?_
            have j0 := Option.some.inj h
            obtain ⟨i1, j1⟩ := Prod.mk.inj j0
            subst i1
            subst j1
            exact gv_Ri ok_MO_solve rfl rfl
        · rw [if_neg c21] at h
          refine gv_brF c21 ?_
          refine gv_B ok_MO_solve 2 rfl ?_
          have j0 := Option.some.inj h
          obtain ⟨i1, j1⟩ := Prod.mk.inj j0
          subst i1
          subst j1
          exact gv_Ri ok_MO_solve rfl rfl
      · rw [if_neg c20] at h
        refine gv_brF c20 ?_
        refine gv_B ok_MO_solve 2 rfl ?_
        have j0 := Option.some.inj h
        obtain ⟨i1, j1⟩ := Prod.mk.inj j0
        subst i1
        subst j1
        exact gv_Ri ok_MO_solve rfl rfl
    exact t_MO_solve_40 _ e17 K18
  clear h
  have h := e2
  clear e2
  by_cases c4 : x0 < 1
  · rw [if_pos c4] at h
    refine gv_brT c4 ?_
    refine gv_B ok_MO_solve 2 rfl ?_
    have h9 := Option.some.inj h
    subst h9
    exact K3
  · rw [if_neg c4] at h
    refine gv_brF c4 ?_
    refine gv_B ok_MO_solve 3 rfl ?_
    by_cases c5 : x0 ≤ 20
    · rw [if_pos c5] at h
      refine gv_brT c5 ?_
      refine gv_B ok_MO_solve 3 rfl ?_
      by_cases c6 : (μ 70 25) = 0
      · rw [if_pos c6] at h
        refine gv_brT c6 ?_
        refine gv_B ok_MO_solve 2 rfl ?_
        have h9 := Option.some.inj h
        subst h9
        exact K3
      · rw [if_neg c6] at h
        refine gv_brF c6 ?_
        refine gv_B ok_MO_solve 3 rfl ?_
        by_cases c7 : (μ 70 26) = 0
        · rw [if_pos c7] at h
          refine gv_brT c7 ?_
          refine gv_B ok_MO_solve 1 rfl ?_
          have h9 := Option.some.inj h
          subst h9
          exact K3
        · rw [if_neg c7] at h
          refine gv_brF c7 ?_
          refine gv_B ok_MO_solve 2 rfl ?_
          have h9 := Option.some.inj h
          subst h9
          exact K3
    · rw [if_neg c5] at h
      refine gv_brF c5 ?_
      refine gv_B ok_MO_solve 2 rfl ?_
      have h9 := Option.some.inj h
      subst h9
      exact K3
def f_MO_next (μ : Mu) : Option (Int32 × Mu) :=
  (b1 (if (μ 70 26) = 0 then
  some ((1 : Int32))
  else
  some ((0 : Int32))) fun v1 =>
  if v1 = 0 then
  (b1 (f_MO_fail (sI (sI μ 70 0 v1) 70 26 0)) fun μ7 =>
  if ((μ7 70 25) = 0 ∨ (μ7 70 25) = 1) then some ((μ7 70 25), μ7) else none)
  else
  some (0, (sI μ 70 0 v1)))
theorem t_MO_next {μ : Mu} {r : Int32} {μr : Mu} (h : f_MO_next μ = some (r, μr)) : gv_ev G (d + 2) M_MO_next [gR 70] (hp n acc g cap μ) (.inl (some (gI r))) (hp n acc g cap μr) := by
  unfold f_MO_next at h
  refine gv_E (ls := [some (gR 70)]) (by decide) (fun h => by cases h) (Nat.le_of_ble_eq_true rfl) rfl ?_
  refine gv_B ok_MO_next 4 rfl ?_
  obtain ⟨v1, e2, h⟩ := b1_e h
  have K3 : gv_go G M_MO_next (d + 2) (.inl (some (gI r))) (hp n acc g cap μr) 13 [some (gR 70)] [gI v1, gR 70] (hp n acc g cap μ) := by
    refine hp_pf ok_MO_next rfl rfl rfl rfl rfl (Nat.le_of_ble_eq_true rfl) rfl ?_
    refine gv_B ok_MO_next 3 rfl ?_
    by_cases c5 : v1 = 0
    · rw [if_pos c5] at h
      refine gv_brT c5 ?_
      refine gv_B ok_MO_next 2 rfl ?_
      refine hp_pf ok_MO_next rfl rfl rfl rfl rfl (Nat.le_of_ble_eq_true rfl) rfl ?_
      refine gv_B ok_MO_next 1 rfl ?_
      obtain ⟨μ7, e6, h⟩ := b1_e h
      refine gv_Vc ok_MO_next rfl mk_MO_fail rfl (t_MO_fail (d := d) e6) rfl rfl (Nat.le_of_ble_eq_true rfl) rfl rfl rfl ?_
      refine gv_B ok_MO_next 2 rfl ?_
      by_cases c9 : ((μ7 70 25) = 0 ∨ (μ7 70 25) = 1)
      · rw [if_pos c9] at h
        have j0 := Option.some.inj h
        obtain ⟨i1, j1⟩ := Prod.mk.inj j0
        subst i1
        subst j1
        exact gv_Rz ok_MO_next rfl rfl c9
      · rw [if_neg c9] at h
        cases h
    · rw [if_neg c5] at h
      refine gv_brF c5 ?_
      refine gv_B ok_MO_next 1 rfl ?_
      have j0 := Option.some.inj h
      obtain ⟨i1, j1⟩ := Prod.mk.inj j0
      subst i1
      subst j1
      exact gv_Rz ok_MO_next rfl rfl (by decide)
  clear h
  have h := e2
  clear e2
  by_cases c4 : (μ 70 26) = 0
  · rw [if_pos c4] at h
    refine gv_brT c4 ?_
    refine gv_B ok_MO_next 1 rfl ?_
    have h9 := Option.some.inj h
    subst h9
    exact K3
  · rw [if_neg c4] at h
    refine gv_brF c4 ?_
    refine gv_B ok_MO_next 2 rfl ?_
    have h9 := Option.some.inj h
    subst h9
    exact K3
def f_MO_stop (μ : Mu) : Option (Mu) :=
  (if (μ 70 25) = 0 then
  some ((sI μ 70 0 0))
  else
  (b1 (f_MO_end (sI μ 70 0 0)) fun μ3 =>
  some (μ3)))
theorem t_MO_stop {μ : Mu} {μr : Mu} (h : f_MO_stop μ = some (μr)) : gv_ev G (d + 1) M_MO_stop [gR 70] (hp n acc g cap μ) (.inl none) (hp n acc g cap μr) := by
  unfold f_MO_stop at h
  refine gv_E (ls := [some (gR 70)]) (by decide) (fun h => by cases h) (Nat.le_of_ble_eq_true rfl) rfl ?_
  refine gv_B ok_MO_stop 2 rfl ?_
  refine hp_pf ok_MO_stop rfl rfl rfl rfl rfl (Nat.le_of_ble_eq_true rfl) rfl ?_
  refine gv_B ok_MO_stop 3 rfl ?_
  by_cases c1 : (μ 70 25) = 0
  · rw [if_pos c1] at h
    refine gv_brT c1 ?_
    have h9 := Option.some.inj h
    subst h9
    exact gv_Rv ok_MO_stop rfl rfl
  · rw [if_neg c1] at h
    refine gv_brF c1 ?_
    refine gv_B ok_MO_stop 1 rfl ?_
    obtain ⟨μ3, e2, h⟩ := b1_e h
    refine gv_Vc ok_MO_stop rfl mk_MO_end rfl (t_MO_end (d := d) e2) rfl rfl (Nat.le_of_ble_eq_true rfl) rfl rfl rfl ?_
    have h9 := Option.some.inj h
    subst h9
    exact gv_Rv ok_MO_stop rfl rfl
def f_MO_collect (μ : Mu) : Option (Int32 × Mu) :=
  (if (μ 70 25) = 0 then
  some (0, (sI μ 70 0 0))
  else
  (b2 (f_MO_free (-1) 0 (sI μ 70 0 0)) fun v3 μ4 =>
  some (v3, μ4)))
theorem t_MO_collect {μ : Mu} {r : Int32} {μr : Mu} (h : f_MO_collect μ = some (r, μr)) : gv_ev G (d + 5) M_MO_collect [gR 70] (hp n acc g cap μ) (.inl (some (gI r))) (hp n acc g cap μr) := by
  unfold f_MO_collect at h
  refine gv_E (ls := [some (gR 70)]) (by decide) (fun h => by cases h) (Nat.le_of_ble_eq_true rfl) rfl ?_
  refine gv_B ok_MO_collect 2 rfl ?_
  refine hp_pf ok_MO_collect rfl rfl rfl rfl rfl (Nat.le_of_ble_eq_true rfl) rfl ?_
  refine gv_B ok_MO_collect 3 rfl ?_
  by_cases c1 : (μ 70 25) = 0
  · rw [if_pos c1] at h
    refine gv_brT c1 ?_
    refine gv_B ok_MO_collect 1 rfl ?_
    have j0 := Option.some.inj h
    obtain ⟨i1, j1⟩ := Prod.mk.inj j0
    subst i1
    subst j1
    exact gv_Ri ok_MO_collect rfl rfl
  · rw [if_neg c1] at h
    refine gv_brF c1 ?_
    refine gv_B ok_MO_collect 3 rfl ?_
    obtain ⟨v3, μ4, e2, h⟩ := b2_e h
    refine gv_Vc ok_MO_collect rfl mk_MO_free rfl (t_MO_free (d := d) e2) rfl rfl (Nat.le_of_ble_eq_true rfl) rfl rfl rfl ?_
    refine gv_B ok_MO_collect 1 rfl ?_
    have j0 := Option.some.inj h
    obtain ⟨i1, j1⟩ := Prod.mk.inj j0
    subst i1
    subst j1
    exact gv_Ri ok_MO_collect rfl rfl
def f_MO_count_26 (k1 : Int32) : Nat → Int32 → Int32 → Mu → Option (Int32)
  | 0, _, _, _ => none
  | f + 1, y2, y3, μ =>
    (if y3 < 0 then
    some (y2)
    else
    (if ¬ k1 = 2 then
    some (y2)
    else
    (b1 (rd (μ 81) 8900 y3) fun v8 =>
    f_MO_count_26 k1 f (y2 + 1) v8 μ)))
def f_MO_count (x0 : Int32) (μ : Mu) : Option (Int32 × Mu) :=
  (b1 (if x0 < 0 then
  some ((1 : Int32))
  else
  (if x0 ≤ 6 then
  some ((0 : Int32))
  else
  some ((1 : Int32)))) fun v1 =>
  b1 (f_MO_count_26 x0 fu 0 (μ 70 16) (sI μ 70 0 v1)) fun l10 =>
  if v1 = 0 then
  (if ¬ x0 = 0 then
  (if ¬ x0 = 1 then
  (if ¬ x0 = 2 then
  (if ¬ x0 = 3 then
  (if ¬ x0 = 4 then
  (if ¬ x0 = 5 then
  some ((μ 70 28), (sI μ 70 0 v1))
  else
  some ((μ 70 1), (sI μ 70 0 v1)))
  else
  some ((μ 70 3), (sI μ 70 0 v1)))
  else
  some ((μ 70 27), (sI μ 70 0 v1)))
  else
  some (l10, (sI μ 70 0 v1)))
  else
  some ((μ 70 18), (sI μ 70 0 v1)))
  else
  (b1 (f_MO_inUse (sI μ 70 0 v1)) fun v21 =>
  some (v21, (sI μ 70 0 v1))))
  else
  some (0, (sI μ 70 0 v1)))
theorem t_MO_count_26 {r : gv_O} {hf : gv_H} {k1 : Int32} (fl : Nat) : ∀ {y2 : Int32} {y3 : Int32} {μ : Mu} {z2 : Int32}, f_MO_count_26 k1 fl y2 y3 μ = some (z2) → gv_go G M_MO_count (d + 1) r hf 48 [some (gR 70), some (gI k1), some (gI z2), none] [] (hp n acc g cap μ) → gv_go G M_MO_count (d + 1) r hf 26 [some (gR 70), some (gI k1), some (gI y2), some (gI y3)] [] (hp n acc g cap μ) := by
  induction fl with
  | zero => intro _ _ _ _ h _; cases h
  | succ f ih =>
    intro y2 y3 μ z2 h KJ
    unfold f_MO_count_26 at h
    refine gv_B ok_MO_count 2 rfl ?_
    by_cases c6 : y3 < 0
    · rw [if_pos c6] at h
      refine gv_brT c6 ?_
      have h9 := Option.some.inj h
      subst h9
      exact gv_fk KJ ⟨rfl, ⟨rfl, ⟨rfl, trivial⟩⟩⟩
    · rw [if_neg c6] at h
      refine gv_brF c6 ?_
      refine gv_B ok_MO_count 3 rfl ?_
      by_cases c7 : ¬ k1 = 2
      · rw [if_pos c7] at h
        refine gv_brT c7 ?_
        have h9 := Option.some.inj h
        subst h9
        exact gv_fk KJ ⟨rfl, ⟨rfl, ⟨rfl, trivial⟩⟩⟩
      · rw [if_neg c7] at h
        refine gv_brF c7 ?_
        refine gv_B ok_MO_count 4 rfl ?_
        obtain ⟨v8, e9, h⟩ := b1_e h
        refine hp_rd ok_MO_count rfl rfl e9 ?_
        refine gv_B ok_MO_count 2 rfl ?_
        exact ih h KJ
theorem t_MO_count {x0 : Int32} {μ : Mu} {r : Int32} {μr : Mu} (h : f_MO_count x0 μ = some (r, μr)) : gv_ev G (d + 1) M_MO_count [gR 70, gI x0] (hp n acc g cap μ) (.inl (some (gI r))) (hp n acc g cap μr) := by
  unfold f_MO_count at h
  refine gv_E (ls := [some (gR 70), some (gI x0), none, none]) (by decide) (fun h => by cases h) (Nat.le_of_ble_eq_true rfl) rfl ?_
  refine gv_B ok_MO_count 3 rfl ?_
  obtain ⟨v1, e2, h⟩ := b1_e h
  have K3 : gv_go G M_MO_count (d + 1) (.inl (some (gI r))) (hp n acc g cap μr) 16 [some (gR 70), some (gI x0), none, none] [gI v1, gR 70] (hp n acc g cap μ) := by
    refine hp_pf ok_MO_count rfl rfl rfl rfl rfl (Nat.le_of_ble_eq_true rfl) rfl ?_
    refine gv_B ok_MO_count 5 rfl ?_
    obtain ⟨l10, e11, h⟩ := b1_e h
    have K12 : gv_go G M_MO_count (d + 1) (.inl (some (gI r))) (hp n acc g cap μr) 48 [some (gR 70), some (gI x0), some (gI l10), none] [] (hp n acc g cap (sI μ 70 0 v1)) := by
      refine gv_B ok_MO_count 3 rfl ?_
      by_cases c13 : v1 = 0
      · rw [if_pos c13] at h
        refine gv_brT c13 ?_
        refine gv_B ok_MO_count 2 rfl ?_
        by_cases c14 : ¬ x0 = 0
        · rw [if_pos c14] at h
          refine gv_brT c14 ?_
          refine gv_B ok_MO_count 3 rfl ?_
          by_cases c15 : ¬ x0 = 1
          · rw [if_pos c15] at h
            refine gv_brT c15 ?_
            refine gv_B ok_MO_count 3 rfl ?_
            by_cases c16 : ¬ x0 = 2
            · rw [if_pos c16] at h
              refine gv_brT c16 ?_
              refine gv_B ok_MO_count 3 rfl ?_
              by_cases c17 : ¬ x0 = 3
              · rw [if_pos c17] at h
                refine gv_brT c17 ?_
                refine gv_B ok_MO_count 3 rfl ?_
                by_cases c18 : ¬ x0 = 4
                · rw [if_pos c18] at h
                  refine gv_brT c18 ?_
                  refine gv_B ok_MO_count 3 rfl ?_
                  by_cases c19 : ¬ x0 = 5
                  · rw [if_pos c19] at h
                    refine gv_brT c19 ?_
                    refine gv_B ok_MO_count 2 rfl ?_
                    have j0 := Option.some.inj h
                    obtain ⟨i1, j1⟩ := Prod.mk.inj j0
                    subst i1
                    subst j1
                    exact gv_Ri ok_MO_count rfl rfl
                  · rw [if_neg c19] at h
                    refine gv_brF c19 ?_
                    refine gv_B ok_MO_count 3 rfl ?_
                    have j0 := Option.some.inj h
                    obtain ⟨i1, j1⟩ := Prod.mk.inj j0
                    subst i1
                    subst j1
                    exact gv_Ri ok_MO_count rfl rfl
                · rw [if_neg c18] at h
                  refine gv_brF c18 ?_
                  refine gv_B ok_MO_count 3 rfl ?_
                  have j0 := Option.some.inj h
                  obtain ⟨i1, j1⟩ := Prod.mk.inj j0
                  subst i1
                  subst j1
                  exact gv_Ri ok_MO_count rfl rfl
              · rw [if_neg c17] at h
                refine gv_brF c17 ?_
                refine gv_B ok_MO_count 3 rfl ?_
                have j0 := Option.some.inj h
                obtain ⟨i1, j1⟩ := Prod.mk.inj j0
                subst i1
                subst j1
                exact gv_Ri ok_MO_count rfl rfl
            · rw [if_neg c16] at h
              refine gv_brF c16 ?_
              refine gv_B ok_MO_count 2 rfl ?_
              have j0 := Option.some.inj h
              obtain ⟨i1, j1⟩ := Prod.mk.inj j0
              subst i1
              subst j1
              exact gv_Ri ok_MO_count rfl rfl
          · rw [if_neg c15] at h
            refine gv_brF c15 ?_
            refine gv_B ok_MO_count 3 rfl ?_
            have j0 := Option.some.inj h
            obtain ⟨i1, j1⟩ := Prod.mk.inj j0
            subst i1
            subst j1
            exact gv_Ri ok_MO_count rfl rfl
        · rw [if_neg c14] at h
          refine gv_brF c14 ?_
          refine gv_B ok_MO_count 1 rfl ?_
          obtain ⟨v21, e20, h⟩ := b1_e h
          refine gv_Vc ok_MO_count rfl mk_MO_inUse rfl (t_MO_inUse (d := d) e20) rfl rfl (Nat.le_of_ble_eq_true rfl) rfl rfl rfl ?_
          refine gv_B ok_MO_count 1 rfl ?_
          have j0 := Option.some.inj h
          obtain ⟨i1, j1⟩ := Prod.mk.inj j0
          subst i1
          subst j1
          exact gv_Ri ok_MO_count rfl rfl
      · rw [if_neg c13] at h
        refine gv_brF c13 ?_
        refine gv_B ok_MO_count 2 rfl ?_
        have j0 := Option.some.inj h
        obtain ⟨i1, j1⟩ := Prod.mk.inj j0
        subst i1
        subst j1
        exact gv_Ri ok_MO_count rfl rfl
    exact t_MO_count_26 _ e11 K12
  clear h
  have h := e2
  clear e2
  by_cases c4 : x0 < 0
  · rw [if_pos c4] at h
    refine gv_brT c4 ?_
    refine gv_B ok_MO_count 2 rfl ?_
    have h9 := Option.some.inj h
    subst h9
    exact K3
  · rw [if_neg c4] at h
    refine gv_brF c4 ?_
    refine gv_B ok_MO_count 3 rfl ?_
    by_cases c5 : x0 ≤ 6
    · rw [if_pos c5] at h
      refine gv_brT c5 ?_
      refine gv_B ok_MO_count 1 rfl ?_
      have h9 := Option.some.inj h
      subst h9
      exact K3
    · rw [if_neg c5] at h
      refine gv_brF c5 ?_
      refine gv_B ok_MO_count 2 rfl ?_
      have h9 := Option.some.inj h
      subst h9
      exact K3
def f_MO_sayTerm_0 : Nat → Mu → Option (Mu)
  | 0, _ => none
  | f + 1, μ =>
    (if (μ 70 30) ≤ 0 then
    some (μ)
    else
    (if 90 ≤ (μ 70 38) then
    some (μ)
    else
    (b1 (rd (μ 88) 1600 ((μ 70 30) - 1)) fun v3 =>
    b1 (rd (μ 89) 1600 ((μ 70 30) - 1)) fun v5 =>
    b1 (f_MO_mean v3 v5 (sI μ 70 30 ((μ 70 30) - 1))) fun μ8 =>
    b1 (if ¬ (μ8 70 40) = 0 then
    (b1 (if ¬ (μ8 70 40) = 3 then
    (if ¬ (μ8 70 40) = 1 then
    some (((8 * (μ8 70 41)) + 2))
    else
    some (((8 * (μ8 70 41)) + 1)))
    else
    (b1 (rd (μ8 78) 240 (μ8 70 41)) fun v19 =>
    some (v19))) fun v14 =>
    b1 (wr μ8 92 90 (μ8 70 38) v14) fun μ21 =>
    if ¬ (μ21 70 40) = 3 then
    some (μ21)
    else
    (b1 (f_MO_pushArguments (μ21 70 41) μ21) fun μ26 =>
    some (μ26)))
    else
    (b1 (rd (μ8 90) 240 (μ8 70 41)) fun v28 =>
    b1 (if ¬ v28 = 0 then
    some (μ8)
    else
    (b1 (wr μ8 90 240 (μ8 70 41) (μ8 70 34)) fun μ34 =>
    some ((sI μ34 70 34 ((μ34 70 34) + 1))))) fun μ30 =>
    b1 (rd (μ30 90) 240 (μ30 70 41)) fun v38 =>
    b1 (wr μ30 92 90 (μ30 70 38) (8 * (v38 - 1))) fun μ40 =>
    some (μ40))) fun μ10 =>
    f_MO_sayTerm_0 f (sI μ10 70 38 ((μ10 70 38) + 1)))))
def f_MO_sayTerm (μ : Mu) : Option (Mu) :=
  (b1 (f_MO_sayTerm_0 fu μ) fun μ44 =>
  some (μ44))
theorem t_MO_sayTerm_0 {r : gv_O} {hf : gv_H} (fl : Nat) : ∀ {μ : Mu} {μz : Mu}, f_MO_sayTerm_0 fl μ = some (μz) → gv_go G M_MO_sayTerm (d + 2) r hf 203 [none] [] (hp n acc g cap μz) → gv_go G M_MO_sayTerm (d + 2) r hf 0 [some (gR 70)] [] (hp n acc g cap μ) := by
  induction fl with
  | zero => intro _ _ h _; cases h
  | succ f ih =>
    intro μ μz h KJ
    unfold f_MO_sayTerm_0 at h
    refine gv_B ok_MO_sayTerm 3 rfl ?_
    by_cases c1 : (μ 70 30) ≤ 0
    · rw [if_pos c1] at h
      refine gv_brT c1 ?_
      have h9 := Option.some.inj h
      subst h9
      exact gv_fk KJ trivial
    · rw [if_neg c1] at h
      refine gv_brF c1 ?_
      refine gv_B ok_MO_sayTerm 4 rfl ?_
      by_cases c2 : 90 ≤ (μ 70 38)
      · rw [if_pos c2] at h
        refine gv_brT c2 ?_
        have h9 := Option.some.inj h
        subst h9
        exact gv_fk KJ trivial
      · rw [if_neg c2] at h
        refine gv_brF c2 ?_
        refine gv_B ok_MO_sayTerm 5 rfl ?_
        refine hp_pf ok_MO_sayTerm rfl rfl rfl rfl rfl (Nat.le_of_ble_eq_true rfl) rfl ?_
        refine gv_B ok_MO_sayTerm 5 rfl ?_
        obtain ⟨v3, e4, h⟩ := b1_e h
        refine hp_rd ok_MO_sayTerm rfl rfl e4 ?_
        refine gv_B ok_MO_sayTerm 4 rfl ?_
        obtain ⟨v5, e6, h⟩ := b1_e h
        refine hp_rd ok_MO_sayTerm rfl rfl e6 ?_
        obtain ⟨μ8, e7, h⟩ := b1_e h
        refine gv_Vc ok_MO_sayTerm rfl mk_MO_mean rfl (t_MO_mean (d := d + 1) e7) rfl rfl (Nat.le_of_ble_eq_true rfl) rfl rfl rfl ?_
        refine gv_B ok_MO_sayTerm 3 rfl ?_
        obtain ⟨μ10, e11, h⟩ := b1_e h
        have K12 : gv_go G M_MO_sayTerm (d + 2) r hf 190 [some (gR 70)] [] (hp n acc g cap μ10) := by
          refine gv_B ok_MO_sayTerm 5 rfl ?_
          refine hp_pf ok_MO_sayTerm rfl rfl rfl rfl rfl (Nat.le_of_ble_eq_true rfl) rfl ?_
          refine gv_B ok_MO_sayTerm 1 rfl ?_
          exact ih h KJ
        clear h
        have h := e11
        clear e11
        by_cases c13 : ¬ (μ8 70 40) = 0
        · rw [if_pos c13] at h
          refine gv_brT c13 ?_
          refine gv_B ok_MO_sayTerm 8 rfl ?_
          obtain ⟨v14, e15, h⟩ := b1_e h
          have K16 : gv_go G M_MO_sayTerm (d + 2) r hf 173 [some (gR 70)] [gI v14, gI (μ8 70 38), gR 92] (hp n acc g cap μ8) := by
            obtain ⟨μ21, e22, h⟩ := b1_e h
            refine hp_wr ok_MO_sayTerm rfl rfl rfl rfl e22 ?_
            refine gv_B ok_MO_sayTerm 4 rfl ?_
            by_cases c24 : ¬ (μ21 70 40) = 3
            · rw [if_pos c24] at h
              refine gv_brT c24 ?_
              have h9 := Option.some.inj h
              subst h9
              exact K12
            · rw [if_neg c24] at h
              refine gv_brF c24 ?_
              refine gv_B ok_MO_sayTerm 3 rfl ?_
              obtain ⟨μ26, e25, h⟩ := b1_e h
              refine gv_Vc ok_MO_sayTerm rfl mk_MO_pushArguments rfl (t_MO_pushArguments (d := d) e25) rfl rfl (Nat.le_of_ble_eq_true rfl) rfl rfl rfl ?_
              have h9 := Option.some.inj h
              subst h9
              exact K12
          clear h
          have h := e15
          clear e15
          by_cases c17 : ¬ (μ8 70 40) = 3
          · rw [if_pos c17] at h
            refine gv_brT c17 ?_
            refine gv_B ok_MO_sayTerm 4 rfl ?_
            by_cases c18 : ¬ (μ8 70 40) = 1
            · rw [if_pos c18] at h
              refine gv_brT c18 ?_
              refine gv_B ok_MO_sayTerm 6 rfl ?_
              have h9 := Option.some.inj h
              subst h9
              exact K16
            · rw [if_neg c18] at h
              refine gv_brF c18 ?_
              refine gv_B ok_MO_sayTerm 7 rfl ?_
              have h9 := Option.some.inj h
              subst h9
              exact K16
          · rw [if_neg c17] at h
            refine gv_brF c17 ?_
            refine gv_B ok_MO_sayTerm 4 rfl ?_
            obtain ⟨v19, e20, h⟩ := b1_e h
            refine hp_rd ok_MO_sayTerm rfl rfl e20 ?_
            refine gv_B ok_MO_sayTerm 1 rfl ?_
            have h9 := Option.some.inj h
            subst h9
            exact K16
        · rw [if_neg c13] at h
          refine gv_brF c13 ?_
          refine gv_B ok_MO_sayTerm 4 rfl ?_
          obtain ⟨v28, e29, h⟩ := b1_e h
          refine hp_rd ok_MO_sayTerm rfl rfl e29 ?_
          refine gv_B ok_MO_sayTerm 1 rfl ?_
          obtain ⟨μ30, e31, h⟩ := b1_e h
          have K32 : gv_go G M_MO_sayTerm (d + 2) r hf 90 [some (gR 70)] [] (hp n acc g cap μ30) := by
            refine gv_B ok_MO_sayTerm 9 rfl ?_
            obtain ⟨v38, e39, h⟩ := b1_e h
            refine hp_rd ok_MO_sayTerm rfl rfl e39 ?_
            refine gv_B ok_MO_sayTerm 3 rfl ?_
            obtain ⟨μ40, e41, h⟩ := b1_e h
            refine hp_wr ok_MO_sayTerm rfl rfl rfl rfl e41 ?_
            refine gv_B ok_MO_sayTerm 1 rfl ?_
            have h9 := Option.some.inj h
            subst h9
            exact K12
          clear h
          have h := e31
          clear e31
          by_cases c33 : ¬ v28 = 0
          · rw [if_pos c33] at h
            refine gv_brT c33 ?_
            have h9 := Option.some.inj h
            subst h9
            exact K32
          · rw [if_neg c33] at h
            refine gv_brF c33 ?_
            refine gv_B ok_MO_sayTerm 6 rfl ?_
            obtain ⟨μ34, e35, h⟩ := b1_e h
            refine hp_wr ok_MO_sayTerm rfl rfl rfl rfl e35 ?_
            refine gv_B ok_MO_sayTerm 5 rfl ?_
            refine hp_pf ok_MO_sayTerm rfl rfl rfl rfl rfl (Nat.le_of_ble_eq_true rfl) rfl ?_
            have h9 := Option.some.inj h
            subst h9
            exact K32
theorem t_MO_sayTerm {μ : Mu} {μr : Mu} (h : f_MO_sayTerm μ = some (μr)) : gv_ev G (d + 2) M_MO_sayTerm [gR 70] (hp n acc g cap μ) (.inl none) (hp n acc g cap μr) := by
  unfold f_MO_sayTerm at h
  refine gv_E (ls := [some (gR 70)]) (by decide) (fun h => by cases h) (Nat.le_of_ble_eq_true rfl) rfl ?_
  obtain ⟨μ44, e45, h⟩ := b1_e h
  have K46 : gv_go G M_MO_sayTerm (d + 2) (.inl none) (hp n acc g cap μr) 203 [none] [] (hp n acc g cap μ44) := by
    have h9 := Option.some.inj h
    subst h9
    exact gv_Rv ok_MO_sayTerm rfl rfl
  exact t_MO_sayTerm_0 _ e45 K46
def f_MO_findAnswer_12 (k1 : Int32) : Nat → Int32 → Mu → Option (Mu)
  | 0, _, _ => none
  | f + 1, y2, μ =>
    (if 240 ≤ y2 then
    some (μ)
    else
    (b1 (wr μ 90 240 y2 0) fun μ2 =>
    f_MO_findAnswer_12 k1 f (y2 + 1) μ2))
def f_MO_findAnswer_39 (k1 : Int32) : Nat → Int32 → Mu → Option (Mu)
  | 0, _, _ => none
  | f + 1, y2, μ =>
    (if 8 ≤ y2 then
    some (μ)
    else
    (if (μ 70 26) = 0 then
    some (μ)
    else
    (b1 (rd (μ 87) 8 y2) fun v11 =>
    b1 (if v11 < 0 then
    some ((sI μ 70 30 0))
    else
    (b1 (rd (μ 87) 8 y2) fun v17 =>
    b1 (f_MO_push 0 v17 (sI μ 70 30 0)) fun μ20 =>
    b1 (f_MO_sayTerm μ20) fun μ23 =>
    some (μ23))) fun μ13 =>
    f_MO_findAnswer_39 k1 f (y2 + 1) μ13)))
def f_MO_findAnswer_89 (k1 : Int32) : Nat → Int32 → Mu → Option (Mu)
  | 0, _, _ => none
  | f + 1, y2, μ =>
    (if 240 ≤ y2 then
    some (μ)
    else
    (b1 (wr μ 90 240 y2 0) fun μ31 =>
    f_MO_findAnswer_89 k1 f (y2 + 1) μ31))
def f_MO_findAnswer (μ : Mu) : Option (Mu) :=
  (b1 (f_MO_findAnswer_12 (μ 70 34) fu 0 (sI μ 70 38 0)) fun μ5 =>
  b1 (f_MO_findAnswer_39 (μ 70 34) fu 0 (sI μ5 70 34 1)) fun μ26 =>
  b1 (f_MO_findAnswer_89 (μ 70 34) fu 0 μ26) fun μ34 =>
  some ((sI μ34 70 34 (μ 70 34))))
theorem t_MO_findAnswer_12 {r : gv_O} {hf : gv_H} {k1 : Int32} (fl : Nat) : ∀ {y2 : Int32} {μ : Mu} {μz : Mu}, f_MO_findAnswer_12 k1 fl y2 μ = some (μz) → gv_go G M_MO_findAnswer (d + 3) r hf 32 [some (gR 70), some (gI k1), none] [] (hp n acc g cap μz) → gv_go G M_MO_findAnswer (d + 3) r hf 12 [some (gR 70), some (gI k1), some (gI y2)] [] (hp n acc g cap μ) := by
  induction fl with
  | zero => intro _ _ _ h _; cases h
  | succ f ih =>
    intro y2 μ μz h KJ
    unfold f_MO_findAnswer_12 at h
    refine gv_B ok_MO_findAnswer 3 rfl ?_
    by_cases c1 : 240 ≤ y2
    · rw [if_pos c1] at h
      refine gv_brT c1 ?_
      have h9 := Option.some.inj h
      subst h9
      exact gv_fk KJ ⟨rfl, ⟨rfl, trivial⟩⟩
    · rw [if_neg c1] at h
      refine gv_brF c1 ?_
      refine gv_B ok_MO_findAnswer 4 rfl ?_
      obtain ⟨μ2, e3, h⟩ := b1_e h
      refine hp_wr ok_MO_findAnswer rfl rfl rfl rfl e3 ?_
      refine gv_B ok_MO_findAnswer 2 rfl ?_
      exact ih h KJ
theorem t_MO_findAnswer_39 {r : gv_O} {hf : gv_H} {k1 : Int32} (fl : Nat) : ∀ {y2 : Int32} {μ : Mu} {μz : Mu}, f_MO_findAnswer_39 k1 fl y2 μ = some (μz) → gv_go G M_MO_findAnswer (d + 3) r hf 87 [some (gR 70), some (gI k1), none] [] (hp n acc g cap μz) → gv_go G M_MO_findAnswer (d + 3) r hf 39 [some (gR 70), some (gI k1), some (gI y2)] [] (hp n acc g cap μ) := by
  induction fl with
  | zero => intro _ _ _ h _; cases h
  | succ f ih =>
    intro y2 μ μz h KJ
    unfold f_MO_findAnswer_39 at h
    refine gv_B ok_MO_findAnswer 3 rfl ?_
    by_cases c9 : 8 ≤ y2
    · rw [if_pos c9] at h
      refine gv_brT c9 ?_
      have h9 := Option.some.inj h
      subst h9
      exact gv_fk KJ ⟨rfl, ⟨rfl, trivial⟩⟩
    · rw [if_neg c9] at h
      refine gv_brF c9 ?_
      refine gv_B ok_MO_findAnswer 3 rfl ?_
      by_cases c10 : (μ 70 26) = 0
      · rw [if_pos c10] at h
        refine gv_brT c10 ?_
        have h9 := Option.some.inj h
        subst h9
        exact gv_fk KJ ⟨rfl, ⟨rfl, trivial⟩⟩
      · rw [if_neg c10] at h
        refine gv_brF c10 ?_
        refine gv_B ok_MO_findAnswer 2 rfl ?_
        refine hp_pf ok_MO_findAnswer rfl rfl rfl rfl rfl (Nat.le_of_ble_eq_true rfl) rfl ?_
        refine gv_B ok_MO_findAnswer 3 rfl ?_
        obtain ⟨v11, e12, h⟩ := b1_e h
        refine hp_rd ok_MO_findAnswer rfl rfl e12 ?_
        refine gv_B ok_MO_findAnswer 1 rfl ?_
        obtain ⟨μ13, e14, h⟩ := b1_e h
        have K15 : gv_go G M_MO_findAnswer (d + 3) r hf 81 [some (gR 70), some (gI k1), some (gI y2)] [] (hp n acc g cap μ13) := by
          refine gv_B ok_MO_findAnswer 2 rfl ?_
          exact ih h KJ
        clear h
        have h := e14
        clear e14
        by_cases c16 : v11 < 0
        · rw [if_pos c16] at h
          refine gv_brT c16 ?_
          have h9 := Option.some.inj h
          subst h9
          exact K15
        · rw [if_neg c16] at h
          refine gv_brF c16 ?_
          refine gv_B ok_MO_findAnswer 5 rfl ?_
          obtain ⟨v17, e18, h⟩ := b1_e h
          refine hp_rd ok_MO_findAnswer rfl rfl e18 ?_
          obtain ⟨μ20, e19, h⟩ := b1_e h
          refine gv_Vc ok_MO_findAnswer rfl mk_MO_push rfl (t_MO_push (d := d + 2) e19) rfl rfl (Nat.le_of_ble_eq_true rfl) rfl rfl rfl ?_
          refine gv_B ok_MO_findAnswer 1 rfl ?_
          obtain ⟨μ23, e22, h⟩ := b1_e h
          refine gv_Vc ok_MO_findAnswer rfl mk_MO_sayTerm rfl (t_MO_sayTerm (d := d) e22) rfl rfl (Nat.le_of_ble_eq_true rfl) rfl rfl rfl ?_
          have h9 := Option.some.inj h
          subst h9
          exact K15
theorem t_MO_findAnswer_89 {r : gv_O} {hf : gv_H} {k1 : Int32} (fl : Nat) : ∀ {y2 : Int32} {μ : Mu} {μz : Mu}, f_MO_findAnswer_89 k1 fl y2 μ = some (μz) → gv_go G M_MO_findAnswer (d + 3) r hf 109 [some (gR 70), some (gI k1), none] [] (hp n acc g cap μz) → gv_go G M_MO_findAnswer (d + 3) r hf 89 [some (gR 70), some (gI k1), some (gI y2)] [] (hp n acc g cap μ) := by
  induction fl with
  | zero => intro _ _ _ h _; cases h
  | succ f ih =>
    intro y2 μ μz h KJ
    unfold f_MO_findAnswer_89 at h
    refine gv_B ok_MO_findAnswer 3 rfl ?_
    by_cases c30 : 240 ≤ y2
    · rw [if_pos c30] at h
      refine gv_brT c30 ?_
      have h9 := Option.some.inj h
      subst h9
      exact gv_fk KJ ⟨rfl, ⟨rfl, trivial⟩⟩
    · rw [if_neg c30] at h
      refine gv_brF c30 ?_
      refine gv_B ok_MO_findAnswer 4 rfl ?_
      obtain ⟨μ31, e32, h⟩ := b1_e h
      refine hp_wr ok_MO_findAnswer rfl rfl rfl rfl e32 ?_
      refine gv_B ok_MO_findAnswer 2 rfl ?_
      exact ih h KJ
theorem t_MO_findAnswer {μ : Mu} {μr : Mu} (h : f_MO_findAnswer μ = some (μr)) : gv_ev G (d + 3) M_MO_findAnswer [gR 70] (hp n acc g cap μ) (.inl none) (hp n acc g cap μr) := by
  unfold f_MO_findAnswer at h
  refine gv_E (ls := [some (gR 70), none, none]) (by decide) (fun h => by cases h) (Nat.le_of_ble_eq_true rfl) rfl ?_
  refine gv_B ok_MO_findAnswer 2 rfl ?_
  refine hp_pf ok_MO_findAnswer rfl rfl rfl rfl rfl (Nat.le_of_ble_eq_true rfl) rfl ?_
  refine gv_B ok_MO_findAnswer 5 rfl ?_
  obtain ⟨μ5, e6, h⟩ := b1_e h
  have K7 : gv_go G M_MO_findAnswer (d + 3) (.inl none) (hp n acc g cap μr) 32 [some (gR 70), some (gI (μ 70 34)), none] [] (hp n acc g cap μ5) := by
    refine gv_B ok_MO_findAnswer 2 rfl ?_
    refine hp_pf ok_MO_findAnswer rfl rfl rfl rfl rfl (Nat.le_of_ble_eq_true rfl) rfl ?_
    refine gv_B ok_MO_findAnswer 2 rfl ?_
    obtain ⟨μ26, e27, h⟩ := b1_e h
    have K28 : gv_go G M_MO_findAnswer (d + 3) (.inl none) (hp n acc g cap μr) 87 [some (gR 70), some (gI (μ 70 34)), none] [] (hp n acc g cap μ26) := by
      refine gv_B ok_MO_findAnswer 2 rfl ?_
      obtain ⟨μ34, e35, h⟩ := b1_e h
      have K36 : gv_go G M_MO_findAnswer (d + 3) (.inl none) (hp n acc g cap μr) 109 [some (gR 70), some (gI (μ 70 34)), none] [] (hp n acc g cap μ34) := by
        refine gv_B ok_MO_findAnswer 2 rfl ?_
        refine hp_pf ok_MO_findAnswer rfl rfl rfl rfl rfl (Nat.le_of_ble_eq_true rfl) rfl ?_
        have h9 := Option.some.inj h
        subst h9
        exact gv_Rv ok_MO_findAnswer rfl rfl
      exact t_MO_findAnswer_89 _ e35 K36
    exact t_MO_findAnswer_39 _ e27 K28
  exact t_MO_findAnswer_12 _ e6 K7
def f_MO_words (μ : Mu) : Option (Int32 × Mu) :=
  (b1 (f_MO_findAnswer (sI μ 70 0 0)) fun μ2 =>
  some ((μ2 70 38), μ2))
theorem t_MO_words {μ : Mu} {r : Int32} {μr : Mu} (h : f_MO_words μ = some (r, μr)) : gv_ev G (d + 4) M_MO_words [gR 70] (hp n acc g cap μ) (.inl (some (gI r))) (hp n acc g cap μr) := by
  unfold f_MO_words at h
  refine gv_E (ls := [some (gR 70)]) (by decide) (fun h => by cases h) (Nat.le_of_ble_eq_true rfl) rfl ?_
  refine gv_B ok_MO_words 2 rfl ?_
  refine hp_pf ok_MO_words rfl rfl rfl rfl rfl (Nat.le_of_ble_eq_true rfl) rfl ?_
  refine gv_B ok_MO_words 1 rfl ?_
  obtain ⟨μ2, e1, h⟩ := b1_e h
  refine gv_Vc ok_MO_words rfl mk_MO_findAnswer rfl (t_MO_findAnswer (d := d) e1) rfl rfl (Nat.le_of_ble_eq_true rfl) rfl rfl rfl ?_
  refine gv_B ok_MO_words 2 rfl ?_
  have j0 := Option.some.inj h
  obtain ⟨i1, j1⟩ := Prod.mk.inj j0
  subst i1
  subst j1
  exact gv_Ri ok_MO_words rfl rfl
def f_MO_word (x0 : Int32) (μ : Mu) : Option (Int32 × Mu) :=
  (b1 (f_MO_findAnswer μ) fun μ2 =>
  b1 (if x0 < 0 then
  some ((1 : Int32))
  else
  (if x0 < (μ2 70 38) then
  some ((0 : Int32))
  else
  some ((1 : Int32)))) fun v4 =>
  if ¬ v4 = 0 then
  some (0, (sI μ2 70 0 v4))
  else
  (b1 (rd (μ2 92) 90 x0) fun v10 =>
  some (v10, (sI μ2 70 0 v4))))
theorem t_MO_word {x0 : Int32} {μ : Mu} {r : Int32} {μr : Mu} (h : f_MO_word x0 μ = some (r, μr)) : gv_ev G (d + 4) M_MO_word [gR 70, gI x0] (hp n acc g cap μ) (.inl (some (gI r))) (hp n acc g cap μr) := by
  unfold f_MO_word at h
  refine gv_E (ls := [some (gR 70), some (gI x0)]) (by decide) (fun h => by cases h) (Nat.le_of_ble_eq_true rfl) rfl ?_
  refine gv_B ok_MO_word 1 rfl ?_
  obtain ⟨μ2, e1, h⟩ := b1_e h
  refine gv_Vc ok_MO_word rfl mk_MO_findAnswer rfl (t_MO_findAnswer (d := d) e1) rfl rfl (Nat.le_of_ble_eq_true rfl) rfl rfl rfl ?_
  refine gv_B ok_MO_word 3 rfl ?_
  obtain ⟨v4, e5, h⟩ := b1_e h
  have K6 : gv_go G M_MO_word (d + 4) (.inl (some (gI r))) (hp n acc g cap μr) 22 [some (gR 70), some (gI x0)] [gI v4, gR 70] (hp n acc g cap μ2) := by
    refine hp_pf ok_MO_word rfl rfl rfl rfl rfl (Nat.le_of_ble_eq_true rfl) rfl ?_
    refine gv_B ok_MO_word 3 rfl ?_
    by_cases c9 : ¬ v4 = 0
    · rw [if_pos c9] at h
      refine gv_brT c9 ?_
      refine gv_B ok_MO_word 1 rfl ?_
      have j0 := Option.some.inj h
      obtain ⟨i1, j1⟩ := Prod.mk.inj j0
      subst i1
      subst j1
      exact gv_Ri ok_MO_word rfl rfl
    · rw [if_neg c9] at h
      refine gv_brF c9 ?_
      refine gv_B ok_MO_word 3 rfl ?_
      obtain ⟨v10, e11, h⟩ := b1_e h
      refine hp_rd ok_MO_word rfl rfl e11 ?_
      refine gv_B ok_MO_word 1 rfl ?_
      have j0 := Option.some.inj h
      obtain ⟨i1, j1⟩ := Prod.mk.inj j0
      subst i1
      subst j1
      exact gv_Ri ok_MO_word rfl rfl
  clear h
  have h := e5
  clear e5
  by_cases c7 : x0 < 0
  · rw [if_pos c7] at h
    refine gv_brT c7 ?_
    refine gv_B ok_MO_word 2 rfl ?_
    have h9 := Option.some.inj h
    subst h9
    exact K6
  · rw [if_neg c7] at h
    refine gv_brF c7 ?_
    refine gv_B ok_MO_word 4 rfl ?_
    by_cases c8 : x0 < (μ2 70 38)
    · rw [if_pos c8] at h
      refine gv_brT c8 ?_
      refine gv_B ok_MO_word 1 rfl ?_
      have h9 := Option.some.inj h
      subst h9
      exact K6
    · rw [if_neg c8] at h
      refine gv_brF c8 ?_
      refine gv_B ok_MO_word 2 rfl ?_
      have h9 := Option.some.inj h
      subst h9
      exact K6
end FNQ
