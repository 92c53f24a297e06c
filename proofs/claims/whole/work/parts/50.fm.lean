/-! methods as functions of the numbers (written by wip/tools/genf.py, mkf.py) -/
section FNM
variable {G : gv_G} {d n g cap : Nat} {acc : Nat × Nat}
def f_MO_arity (x0 : Int32) (μ : Mu) : Option (Int32) :=
  (if (x0 &&& 7) ≤ 1 then
  some (0)
  else
  (if 6 ≤ (x0 &&& 7) then
  some (0)
  else
  some (((x0 &&& 7) - 2))))
theorem t_MO_arity {x0 : Int32} {μ : Mu} {r : Int32} (h : f_MO_arity x0 μ = some (r)) : gv_ev G (d + 0) M_MO_arity [gR 70, gI x0] (hp n acc g cap μ) (.inl (some (gI r))) (hp n acc g cap μ) := by
  unfold f_MO_arity at h
  refine gv_E (ls := [some (gR 70), some (gI x0), none]) (by decide) (fun h => by cases h) (Nat.le_of_ble_eq_true rfl) rfl ?_
  refine gv_B ok_MO_arity 7 rfl ?_
  by_cases c1 : (x0 &&& 7) ≤ 1
  · rw [if_pos c1] at h
    refine gv_brT c1 ?_
    refine gv_B ok_MO_arity 1 rfl ?_
    have h9 := Option.some.inj h
    subst h9
    exact gv_Ri ok_MO_arity rfl rfl
  · rw [if_neg c1] at h
    refine gv_brF c1 ?_
    refine gv_B ok_MO_arity 3 rfl ?_
    by_cases c2 : 6 ≤ (x0 &&& 7)
    · rw [if_pos c2] at h
      refine gv_brT c2 ?_
      refine gv_B ok_MO_arity 1 rfl ?_
      have h9 := Option.some.inj h
      subst h9
      exact gv_Ri ok_MO_arity rfl rfl
    · rw [if_neg c2] at h
      refine gv_brF c2 ?_
      refine gv_B ok_MO_arity 4 rfl ?_
      have h9 := Option.some.inj h
      subst h9
      exact gv_Ri ok_MO_arity rfl rfl
def f_MO_behind_4 : Nat → Int32 → Int32 → Mu → Option (Int32)
  | 0, _, _, _ => none
  | f + 1, y2, y3, μ =>
    (if y3 ≤ 0 then
    some (y2)
    else
    (if (μ 70 1) ≤ y2 then
    some ((-1))
    else
    (b1 (rd (μ 71) 30 y2) fun v3 =>
    if ¬ (v3 &&& 7) = 6 then
    (b1 (rd (μ 71) 30 y2) fun v6 =>
    b1 (f_MO_arity v6 μ) fun v9 =>
    f_MO_behind_4 f (y2 + 1) ((y3 - 1) + v9) μ)
    else
    some ((-1)))))
def f_MO_behind (x0 : Int32) (μ : Mu) : Option (Int32) :=
  f_MO_behind_4 fu x0 1 μ
theorem t_MO_behind_4 (fl : Nat) : ∀ {y2 : Int32} {y3 : Int32} {μ : Mu} {r : Int32}, f_MO_behind_4 fl y2 y3 μ = some (r) → gv_go G M_MO_behind (d + 1) (.inl (some (gI r))) (hp n acc g cap μ) 4 [some (gR 70), none, some (gI y2), some (gI y3)] [] (hp n acc g cap μ) := by
  induction fl with
  | zero => intro _ _ _ _ h; cases h
  | succ f ih =>
    intro y2 y3 μ r h
    unfold f_MO_behind_4 at h
    refine gv_B ok_MO_behind 2 rfl ?_
    by_cases c1 : y3 ≤ 0
    · rw [if_pos c1] at h
      refine gv_brT c1 ?_
      refine gv_B ok_MO_behind 1 rfl ?_
      have h9 := Option.some.inj h
      subst h9
      exact gv_Ri ok_MO_behind rfl rfl
    · rw [if_neg c1] at h
      refine gv_brF c1 ?_
      refine gv_B ok_MO_behind 4 rfl ?_
      by_cases c2 : (μ 70 1) ≤ y2
      · rw [if_pos c2] at h
        refine gv_brT c2 ?_
        refine gv_B ok_MO_behind 1 rfl ?_
        have h9 := Option.some.inj h
        subst h9
        exact gv_Ri ok_MO_behind rfl rfl
      · rw [if_neg c2] at h
        refine gv_brF c2 ?_
        refine gv_B ok_MO_behind 3 rfl ?_
        obtain ⟨v3, e4, h⟩ := b1_e h
        refine hp_rd ok_MO_behind rfl rfl e4 ?_
        refine gv_B ok_MO_behind 4 rfl ?_
        by_cases c5 : ¬ (v3 &&& 7) = 6
        · rw [if_pos c5] at h
          refine gv_brT c5 ?_
          refine gv_B ok_MO_behind 7 rfl ?_
          obtain ⟨v6, e7, h⟩ := b1_e h
          refine hp_rd ok_MO_behind rfl rfl e7 ?_
          obtain ⟨v9, e8, h⟩ := b1_e h
          refine gv_Vc ok_MO_behind rfl mk_MO_arity rfl (t_MO_arity (d := d) e8) rfl rfl (Nat.le_of_ble_eq_true rfl) rfl rfl rfl ?_
          refine gv_B ok_MO_behind 4 rfl ?_
          exact ih h
        · rw [if_neg c5] at h
          refine gv_brF c5 ?_
          refine gv_B ok_MO_behind 1 rfl ?_
          have h9 := Option.some.inj h
          subst h9
          exact gv_Ri ok_MO_behind rfl rfl
theorem t_MO_behind {x0 : Int32} {μ : Mu} {r : Int32} (h : f_MO_behind x0 μ = some (r)) : gv_ev G (d + 1) M_MO_behind [gR 70, gI x0] (hp n acc g cap μ) (.inl (some (gI r))) (hp n acc g cap μ) := by
  unfold f_MO_behind at h
  refine gv_E (ls := [some (gR 70), some (gI x0), none, none]) (by decide) (fun h => by cases h) (Nat.le_of_ble_eq_true rfl) rfl ?_
  refine gv_B ok_MO_behind 4 rfl ?_
  exact gv_fk (t_MO_behind_4 _ h) ⟨rfl, ⟨rfl, ⟨rfl, trivial⟩⟩⟩
def f_MO_areGoals_2 : Nat → Int32 → Mu → Option (Int32)
  | 0, _, _ => none
  | f + 1, y2, μ =>
    (if y2 < 0 then
    (if ¬ y2 = (μ 70 1) then
    some (0)
    else
    some (1))
    else
    (if (μ 70 1) ≤ y2 then
    (if ¬ y2 = (μ 70 1) then
    some (0)
    else
    some (1))
    else
    (b1 (rd (μ 71) 30 y2) fun v5 =>
    if 2 ≤ (v5 &&& 7) then
    (b1 (if ¬ (v5 &&& 7) = 6 then
    (b1 (f_MO_behind y2 μ) fun v13 =>
    some (v13))
    else
    some ((y2 + 1))) fun v8 =>
    f_MO_areGoals_2 f v8 μ)
    else
    some (0))))
def f_MO_areGoals (x0 : Int32) (μ : Mu) : Option (Int32) :=
  f_MO_areGoals_2 fu x0 μ
theorem t_MO_areGoals_2 (fl : Nat) : ∀ {y2 : Int32} {μ : Mu} {r : Int32}, f_MO_areGoals_2 fl y2 μ = some (r) → gv_go G M_MO_areGoals (d + 2) (.inl (some (gI r))) (hp n acc g cap μ) 2 [some (gR 70), none, some (gI y2), none] [] (hp n acc g cap μ) := by
  induction fl with
  | zero => intro _ _ _ h; cases h
  | succ f ih =>
    intro y2 μ r h
    unfold f_MO_areGoals_2 at h
    refine gv_B ok_MO_areGoals 2 rfl ?_
    by_cases c1 : y2 < 0
    · rw [if_pos c1] at h
      refine gv_brT c1 ?_
      refine gv_B ok_MO_areGoals 4 rfl ?_
      by_cases c2 : ¬ y2 = (μ 70 1)
      · rw [if_pos c2] at h
        refine gv_brT c2 ?_
        refine gv_B ok_MO_areGoals 1 rfl ?_
        have h9 := Option.some.inj h
        subst h9
        exact gv_Rz ok_MO_areGoals rfl rfl (by decide)
      · rw [if_neg c2] at h
        refine gv_brF c2 ?_
        refine gv_B ok_MO_areGoals 2 rfl ?_
        have h9 := Option.some.inj h
        subst h9
        exact gv_Rz ok_MO_areGoals rfl rfl (by decide)
    · rw [if_neg c1] at h
      refine gv_brF c1 ?_
      refine gv_B ok_MO_areGoals 4 rfl ?_
      by_cases c3 : (μ 70 1) ≤ y2
      · rw [if_pos c3] at h
        refine gv_brT c3 ?_
        refine gv_B ok_MO_areGoals 4 rfl ?_
        by_cases c4 : ¬ y2 = (μ 70 1)
        · rw [if_pos c4] at h
          refine gv_brT c4 ?_
          refine gv_B ok_MO_areGoals 1 rfl ?_
          have h9 := Option.some.inj h
          subst h9
          exact gv_Rz ok_MO_areGoals rfl rfl (by decide)
        · rw [if_neg c4] at h
          refine gv_brF c4 ?_
          refine gv_B ok_MO_areGoals 2 rfl ?_
          have h9 := Option.some.inj h
          subst h9
          exact gv_Rz ok_MO_areGoals rfl rfl (by decide)
      · rw [if_neg c3] at h
        refine gv_brF c3 ?_
        refine gv_B ok_MO_areGoals 3 rfl ?_
        obtain ⟨v5, e6, h⟩ := b1_e h
        refine hp_rd ok_MO_areGoals rfl rfl e6 ?_
        refine gv_B ok_MO_areGoals 6 rfl ?_
        by_cases c7 : 2 ≤ (v5 &&& 7)
        · rw [if_pos c7] at h
          refine gv_brT c7 ?_
          refine gv_B ok_MO_areGoals 3 rfl ?_
          obtain ⟨v8, e9, h⟩ := b1_e h
          have K10 : gv_go G M_MO_areGoals (d + 2) (.inl (some (gI r))) (hp n acc g cap μ) 48 [some (gR 70), none, none, none] [gI v8] (hp n acc g cap μ) := by
            refine gv_B ok_MO_areGoals 2 rfl ?_
            exact ih h
          clear h
          have h := e9
          clear e9
          by_cases c11 : ¬ (v5 &&& 7) = 6
          · rw [if_pos c11] at h
            refine gv_brT c11 ?_
            refine gv_B ok_MO_areGoals 2 rfl ?_
            obtain ⟨v13, e12, h⟩ := b1_e h
            refine gv_Vc ok_MO_areGoals rfl mk_MO_behind rfl (t_MO_behind (d := d) e12) rfl rfl (Nat.le_of_ble_eq_true rfl) rfl rfl rfl ?_
            have h9 := Option.some.inj h
            subst h9
            exact gv_fk K10 ⟨rfl, trivial⟩
          · rw [if_neg c11] at h
            refine gv_brF c11 ?_
            refine gv_B ok_MO_areGoals 4 rfl ?_
            have h9 := Option.some.inj h
            subst h9
            exact gv_fk K10 ⟨rfl, trivial⟩
        · rw [if_neg c7] at h
          refine gv_brF c7 ?_
          refine gv_B ok_MO_areGoals 1 rfl ?_
          have h9 := Option.some.inj h
          subst h9
          exact gv_Rz ok_MO_areGoals rfl rfl (by decide)
theorem t_MO_areGoals {x0 : Int32} {μ : Mu} {r : Int32} (h : f_MO_areGoals x0 μ = some (r)) : gv_ev G (d + 2) M_MO_areGoals [gR 70, gI x0] (hp n acc g cap μ) (.inl (some (gI r))) (hp n acc g cap μ) := by
  unfold f_MO_areGoals at h
  refine gv_E (ls := [some (gR 70), some (gI x0), none, none]) (by decide) (fun h => by cases h) (Nat.le_of_ble_eq_true rfl) rfl ?_
  refine gv_B ok_MO_areGoals 2 rfl ?_
  exact gv_fk (t_MO_areGoals_2 _ h) ⟨rfl, ⟨rfl, trivial⟩⟩
def f_MO_rule_101 (k1 : Int32) : Nat → Int32 → Mu → Option (Mu)
  | 0, _, _ => none
  | f + 1, y2, μ =>
    (if (μ 70 1) ≤ y2 then
    some (μ)
    else
    (b1 (rd (μ 71) 30 y2) fun v29 =>
    b1 (wr μ 72 480 ((30 * (μ 70 3)) + y2) v29) fun μ31 =>
    f_MO_rule_101 k1 f (y2 + 1) μ31))
def f_MO_rule (μ : Mu) : Option (Int32 × Mu) :=
  (b1 (if (μ 70 3) = 16 then
  some ((1 : Int32))
  else
  (if (μ 70 25) = 0 then
  some ((0 : Int32))
  else
  some ((1 : Int32)))) fun v1 =>
  if v1 = 0 then
  (b1 (if (μ 70 1) ≤ 0 then
  some ((0 : Int32))
  else
  (b1 (rd (μ 71) 30 0) fun v11 =>
  if (v11 &&& 7) = 6 then
  some ((0 : Int32))
  else
  (b1 (rd (μ 71) 30 0) fun v14 =>
  if 24 ≤ (v14 >>> ((3 : Int32) &&& 31)) then
  some ((0 : Int32))
  else
  (b1 (f_MO_areGoals 0 (sI μ 70 0 v1)) fun v18 =>
  if v18 = 0 then
  some ((0 : Int32))
  else
  some ((1 : Int32)))))) fun v7 =>
  b1 (if v7 = 0 then
  some ((2 : Int32))
  else
  some ((0 : Int32))) fun v20 =>
  b1 (if v7 = 0 then
  some ((sI (sI μ 70 0 v1) 70 0 v20))
  else
  (b1 (f_MO_rule_101 v7 fu 0 (sI (sI μ 70 0 v1) 70 0 v20)) fun μ34 =>
  b1 (wr μ34 73 16 (μ34 70 3) (μ34 70 1)) fun μ38 =>
  some ((sI μ38 70 3 ((μ38 70 3) + 1))))) fun μ24 =>
  if v7 = 0 then
  some (0, (sI μ24 70 1 0))
  else
  some ((μ24 70 3), (sI μ24 70 1 0)))
  else
  some (0, (sI μ 70 0 v1)))
theorem t_MO_rule_101 {r : gv_O} {hf : gv_H} {k1 : Int32} (fl : Nat) : ∀ {y2 : Int32} {μ : Mu} {μz : Mu}, f_MO_rule_101 k1 fl y2 μ = some (μz) → gv_go G M_MO_rule (d + 3) r hf 135 [some (gR 70), some (gI k1), none] [] (hp n acc g cap μz) → gv_go G M_MO_rule (d + 3) r hf 101 [some (gR 70), some (gI k1), some (gI y2)] [] (hp n acc g cap μ) := by
  induction fl with
  | zero => intro _ _ _ h _; cases h
  | succ f ih =>
    intro y2 μ μz h KJ
    unfold f_MO_rule_101 at h
    refine gv_B ok_MO_rule 4 rfl ?_
    by_cases c28 : (μ 70 1) ≤ y2
    · rw [if_pos c28] at h
      refine gv_brT c28 ?_
      have h9 := Option.some.inj h
      subst h9
      exact gv_fk KJ ⟨rfl, ⟨rfl, trivial⟩⟩
    · rw [if_neg c28] at h
      refine gv_brF c28 ?_
      refine gv_B ok_MO_rule 11 rfl ?_
      obtain ⟨v29, e30, h⟩ := b1_e h
      refine hp_rd ok_MO_rule rfl rfl e30 ?_
      obtain ⟨μ31, e32, h⟩ := b1_e h
      refine hp_wr ok_MO_rule rfl rfl rfl rfl e32 ?_
      refine gv_B ok_MO_rule 2 rfl ?_
      exact ih h KJ
theorem t_MO_rule {μ : Mu} {r : Int32} {μr : Mu} (h : f_MO_rule μ = some (r, μr)) : gv_ev G (d + 3) M_MO_rule [gR 70] (hp n acc g cap μ) (.inl (some (gI r))) (hp n acc g cap μr) := by
  unfold f_MO_rule at h
  refine gv_E (ls := [some (gR 70), none, none]) (by decide) (fun h => by cases h) (Nat.le_of_ble_eq_true rfl) rfl ?_
  refine gv_B ok_MO_rule 5 rfl ?_
  obtain ⟨v1, e2, h⟩ := b1_e h
  have K3 : gv_go G M_MO_rule (d + 3) (.inl (some (gI r))) (hp n acc g cap μr) 22 [some (gR 70), none, none] [gI v1, gR 70] (hp n acc g cap μ) := by
    refine hp_pf ok_MO_rule rfl rfl rfl rfl rfl (Nat.le_of_ble_eq_true rfl) rfl ?_
    refine gv_B ok_MO_rule 3 rfl ?_
    by_cases c6 : v1 = 0
    · rw [if_pos c6] at h
      refine gv_brT c6 ?_
      refine gv_B ok_MO_rule 3 rfl ?_
      obtain ⟨v7, e8, h⟩ := b1_e h
      have K9 : gv_go G M_MO_rule (d + 3) (.inl (some (gI r))) (hp n acc g cap μr) 81 [some (gR 70), none, none] [gI v7] (hp n acc g cap (sI μ 70 0 v1)) := by
        refine gv_B ok_MO_rule 4 rfl ?_
        obtain ⟨v20, e21, h⟩ := b1_e h
        have K22 : gv_go G M_MO_rule (d + 3) (.inl (some (gI r))) (hp n acc g cap μr) 92 [some (gR 70), some (gI v7), none] [gI v20, gR 70] (hp n acc g cap (sI μ 70 0 v1)) := by
          refine hp_pf ok_MO_rule rfl rfl rfl rfl rfl (Nat.le_of_ble_eq_true rfl) rfl ?_
          refine gv_B ok_MO_rule 2 rfl ?_
          obtain ⟨μ24, e25, h⟩ := b1_e h
          have K26 : gv_go G M_MO_rule (d + 3) (.inl (some (gI r))) (hp n acc g cap μr) 158 [some (gR 70), some (gI v7), none] [] (hp n acc g cap μ24) := by
            refine gv_B ok_MO_rule 2 rfl ?_
            refine hp_pf ok_MO_rule rfl rfl rfl rfl rfl (Nat.le_of_ble_eq_true rfl) rfl ?_
            refine gv_B ok_MO_rule 2 rfl ?_
            by_cases c42 : v7 = 0
            · rw [if_pos c42] at h
              refine gv_brT c42 ?_
              refine gv_B ok_MO_rule 1 rfl ?_
              have j0 := Option.some.inj h
              obtain ⟨i1, j1⟩ := Prod.mk.inj j0
              subst i1
              subst j1
              exact gv_Ri ok_MO_rule rfl rfl
            · rw [if_neg c42] at h
              refine gv_brF c42 ?_
              refine gv_B ok_MO_rule 3 rfl ?_
              have j0 := Option.some.inj h
              obtain ⟨i1, j1⟩ := Prod.mk.inj j0
              subst i1
              subst j1
              exact gv_Ri ok_MO_rule rfl rfl
          clear h
          have h := e25
          clear e25
          by_cases c27 : v7 = 0
          · rw [if_pos c27] at h
            refine gv_brT c27 ?_
            have h9 := Option.some.inj h
            subst h9
            exact K26
          · rw [if_neg c27] at h
            refine gv_brF c27 ?_
            refine gv_B ok_MO_rule 2 rfl ?_
            obtain ⟨μ34, e35, h⟩ := b1_e h
            have K36 : gv_go G M_MO_rule (d + 3) (.inl (some (gI r))) (hp n acc g cap μr) 135 [some (gR 70), some (gI v7), none] [] (hp n acc g cap μ34) := by
              refine gv_B ok_MO_rule 6 rfl ?_
              obtain ⟨μ38, e39, h⟩ := b1_e h
              refine hp_wr ok_MO_rule rfl rfl rfl rfl e39 ?_
              refine gv_B ok_MO_rule 5 rfl ?_
              refine hp_pf ok_MO_rule rfl rfl rfl rfl rfl (Nat.le_of_ble_eq_true rfl) rfl ?_
              have h9 := Option.some.inj h
              subst h9
              exact K26
            exact t_MO_rule_101 _ e35 K36
        clear h
        have h := e21
        clear e21
        by_cases c23 : v7 = 0
        · rw [if_pos c23] at h
          refine gv_brT c23 ?_
          refine gv_B ok_MO_rule 1 rfl ?_
          have h9 := Option.some.inj h
          subst h9
          exact K22
        · rw [if_neg c23] at h
          refine gv_brF c23 ?_
          refine gv_B ok_MO_rule 2 rfl ?_
          have h9 := Option.some.inj h
          subst h9
          exact K22
      clear h
      have h := e8
      clear e8
      by_cases c10 : (μ 70 1) ≤ 0
      · rw [if_pos c10] at h
        refine gv_brT c10 ?_
        refine gv_B ok_MO_rule 1 rfl ?_
        have h9 := Option.some.inj h
        subst h9
        exact K9
      · rw [if_neg c10] at h
        refine gv_brF c10 ?_
        refine gv_B ok_MO_rule 3 rfl ?_
        obtain ⟨v11, e12, h⟩ := b1_e h
        refine hp_rd ok_MO_rule rfl rfl e12 ?_
        refine gv_B ok_MO_rule 4 rfl ?_
        by_cases c13 : (v11 &&& 7) = 6
        · rw [if_pos c13] at h
          refine gv_brT c13 ?_
          refine gv_B ok_MO_rule 1 rfl ?_
          have h9 := Option.some.inj h
          subst h9
          exact K9
        · rw [if_neg c13] at h
          refine gv_brF c13 ?_
          refine gv_B ok_MO_rule 3 rfl ?_
          obtain ⟨v14, e15, h⟩ := b1_e h
          refine hp_rd ok_MO_rule rfl rfl e15 ?_
          refine gv_B ok_MO_rule 4 rfl ?_
          by_cases c16 : 24 ≤ (v14 >>> ((3 : Int32) &&& 31))
          · rw [if_pos c16] at h
            refine gv_brT c16 ?_
            refine gv_B ok_MO_rule 1 rfl ?_
            have h9 := Option.some.inj h
            subst h9
            exact K9
          · rw [if_neg c16] at h
            refine gv_brF c16 ?_
            refine gv_B ok_MO_rule 2 rfl ?_
            obtain ⟨v18, e17, h⟩ := b1_e h
            refine gv_Vc ok_MO_rule rfl mk_MO_areGoals rfl (t_MO_areGoals (d := d) e17) rfl rfl (Nat.le_of_ble_eq_true rfl) rfl rfl rfl ?_
            refine gv_B ok_MO_rule 1 rfl ?_
            by_cases c19 : v18 = 0
            · rw [if_pos c19] at h
              refine gv_brT c19 ?_
              refine gv_B ok_MO_rule 1 rfl ?_
              have h9 := Option.some.inj h
              subst h9
              exact K9
            · rw [if_neg c19] at h
              refine gv_brF c19 ?_
              refine gv_B ok_MO_rule 2 rfl ?_
              have h9 := Option.some.inj h
              subst h9
              exact K9
    · rw [if_neg c6] at h
      refine gv_brF c6 ?_
      refine gv_B ok_MO_rule 1 rfl ?_
      have j0 := Option.some.inj h
      obtain ⟨i1, j1⟩ := Prod.mk.inj j0
      subst i1
      subst j1
      exact gv_Ri ok_MO_rule rfl rfl
  clear h
  have h := e2
  clear e2
  by_cases c4 : (μ 70 3) = 16
  · rw [if_pos c4] at h
    refine gv_brT c4 ?_
    refine gv_B ok_MO_rule 2 rfl ?_
    have h9 := Option.some.inj h
    subst h9
    exact K3
  · rw [if_neg c4] at h
    refine gv_brF c4 ?_
    refine gv_B ok_MO_rule 3 rfl ?_
    by_cases c5 : (μ 70 25) = 0
    · rw [if_pos c5] at h
      refine gv_brT c5 ?_
      refine gv_B ok_MO_rule 1 rfl ?_
      have h9 := Option.some.inj h
      subst h9
      exact K3
    · rw [if_neg c5] at h
      refine gv_brF c5 ?_
      refine gv_B ok_MO_rule 2 rfl ?_
      have h9 := Option.some.inj h
      subst h9
      exact K3
def f_MO_inUse_4 : Nat → Int32 → Int32 → Mu → Option (Int32)
  | 0, _, _, _ => none
  | f + 1, y1, y2, μ =>
    (if 240 ≤ y2 then
    some (y1)
    else
    (b1 (rd (μ 74) 240 y2) fun v2 =>
    b1 (if v2 ≤ 0 then
    some ((0 : Int32))
    else
    some ((1 : Int32))) fun v4 =>
    f_MO_inUse_4 f (y1 + v4) (y2 + 1) μ))
def f_MO_inUse (μ : Mu) : Option (Int32) :=
  (b1 (f_MO_inUse_4 fu 0 0 μ) fun l8 =>
  some (l8))
theorem t_MO_inUse_4 {r : gv_O} {hf : gv_H} (fl : Nat) : ∀ {y1 : Int32} {y2 : Int32} {μ : Mu} {z1 : Int32}, f_MO_inUse_4 fl y1 y2 μ = some (z1) → gv_go G M_MO_inUse (d + 0) r hf 34 [none, some (gI z1), none] [] (hp n acc g cap μ) → gv_go G M_MO_inUse (d + 0) r hf 4 [some (gR 70), some (gI y1), some (gI y2)] [] (hp n acc g cap μ) := by
  induction fl with
  | zero => intro _ _ _ _ h _; cases h
  | succ f ih =>
    intro y1 y2 μ z1 h KJ
    unfold f_MO_inUse_4 at h
    refine gv_B ok_MO_inUse 3 rfl ?_
    by_cases c1 : 240 ≤ y2
    · rw [if_pos c1] at h
      refine gv_brT c1 ?_
      have h9 := Option.some.inj h
      subst h9
      exact gv_fk KJ ⟨rfl, trivial⟩
    · rw [if_neg c1] at h
      refine gv_brF c1 ?_
      refine gv_B ok_MO_inUse 4 rfl ?_
      obtain ⟨v2, e3, h⟩ := b1_e h
      refine hp_rd ok_MO_inUse rfl rfl e3 ?_
      refine gv_B ok_MO_inUse 1 rfl ?_
      obtain ⟨v4, e5, h⟩ := b1_e h
      have K6 : gv_go G M_MO_inUse (d + 0) r hf 26 [some (gR 70), none, some (gI y2)] [gI v4, gI y1] (hp n acc g cap μ) := by
        refine gv_B ok_MO_inUse 4 rfl ?_
        exact ih h KJ
      clear h
      have h := e5
      clear e5
      by_cases c7 : v2 ≤ 0
      · rw [if_pos c7] at h
        refine gv_brT c7 ?_
        refine gv_B ok_MO_inUse 1 rfl ?_
        have h9 := Option.some.inj h
        subst h9
        exact gv_fk K6 ⟨rfl, ⟨rfl, trivial⟩⟩
      · rw [if_neg c7] at h
        refine gv_brF c7 ?_
        refine gv_B ok_MO_inUse 2 rfl ?_
        have h9 := Option.some.inj h
        subst h9
        exact gv_fk K6 ⟨rfl, ⟨rfl, trivial⟩⟩
theorem t_MO_inUse {μ : Mu} {r : Int32} (h : f_MO_inUse μ = some (r)) : gv_ev G (d + 0) M_MO_inUse [gR 70] (hp n acc g cap μ) (.inl (some (gI r))) (hp n acc g cap μ) := by
  unfold f_MO_inUse at h
  refine gv_E (ls := [some (gR 70), none, none]) (by decide) (fun h => by cases h) (Nat.le_of_ble_eq_true rfl) rfl ?_
  refine gv_B ok_MO_inUse 4 rfl ?_
  obtain ⟨l8, e9, h⟩ := b1_e h
  have K10 : gv_go G M_MO_inUse (d + 0) (.inl (some (gI r))) (hp n acc g cap μ) 34 [none, some (gI l8), none] [] (hp n acc g cap μ) := by
    refine gv_B ok_MO_inUse 1 rfl ?_
    have h9 := Option.some.inj h
    subst h9
    exact gv_Ri ok_MO_inUse rfl rfl
  exact t_MO_inUse_4 _ e9 K10
def f_MO_take_2 (k1 : Int32) : Nat → Int32 → Mu → Option (Int32)
  | 0, _, _ => none
  | f + 1, y2, μ =>
    (b1 (rd (μ 74) 240 y2) fun v1 =>
    if v1 ≤ 0 then
    some (y2)
    else
    f_MO_take_2 k1 f (y2 + 1) μ)
def f_MO_take (x0 : Int32) (μ : Mu) : Option (Int32 × Mu) :=
  (b1 (f_MO_take_2 x0 fu 0 μ) fun l4 =>
  b1 (wr μ 74 240 l4 x0) fun μ7 =>
  b1 (wr μ7 75 240 l4 (μ7 70 12)) fun μ10 =>
  b1 (wr (sI μ10 70 12 ((μ10 70 12) + 1)) 76 240 l4 (-1)) fun μ13 =>
  b1 (wr μ13 77 240 l4 0) fun μ16 =>
  some (l4, μ16))
theorem t_MO_take_2 {r : gv_O} {hf : gv_H} {k1 : Int32} (fl : Nat) : ∀ {y2 : Int32} {μ : Mu} {z2 : Int32}, f_MO_take_2 k1 fl y2 μ = some (z2) → gv_go G M_MO_take (d + 0) r hf 17 [some (gR 70), some (gI k1), some (gI z2)] [] (hp n acc g cap μ) → gv_go G M_MO_take (d + 0) r hf 2 [some (gR 70), some (gI k1), some (gI y2)] [] (hp n acc g cap μ) := by
  induction fl with
  | zero => intro _ _ _ h _; cases h
  | succ f ih =>
    intro y2 μ z2 h KJ
    unfold f_MO_take_2 at h
    refine gv_B ok_MO_take 3 rfl ?_
    obtain ⟨v1, e2, h⟩ := b1_e h
    refine hp_rd ok_MO_take rfl rfl e2 ?_
    refine gv_B ok_MO_take 1 rfl ?_
    by_cases c3 : v1 ≤ 0
    · rw [if_pos c3] at h
      refine gv_brT c3 ?_
      have h9 := Option.some.inj h
      subst h9
      exact KJ
    · rw [if_neg c3] at h
      refine gv_brF c3 ?_
      refine gv_B ok_MO_take 2 rfl ?_
      exact ih h KJ
theorem t_MO_take {x0 : Int32} {μ : Mu} {r : Int32} {μr : Mu} (h : f_MO_take x0 μ = some (r, μr)) : gv_ev G (d + 0) M_MO_take [gR 70, gI x0] (hp n acc g cap μ) (.inl (some (gI r))) (hp n acc g cap μr) := by
  unfold f_MO_take at h
  refine gv_E (ls := [some (gR 70), some (gI x0), none]) (by decide) (fun h => by cases h) (Nat.le_of_ble_eq_true rfl) rfl ?_
  refine gv_B ok_MO_take 2 rfl ?_
  obtain ⟨l4, e5, h⟩ := b1_e h
  have K6 : gv_go G M_MO_take (d + 0) (.inl (some (gI r))) (hp n acc g cap μr) 17 [some (gR 70), some (gI x0), some (gI l4)] [] (hp n acc g cap μ) := by
    refine gv_B ok_MO_take 4 rfl ?_
    obtain ⟨μ7, e8, h⟩ := b1_e h
    refine hp_wr ok_MO_take rfl rfl rfl rfl e8 ?_
    refine gv_B ok_MO_take 5 rfl ?_
    obtain ⟨μ10, e11, h⟩ := b1_e h
    refine hp_wr ok_MO_take rfl rfl rfl rfl e11 ?_
    refine gv_B ok_MO_take 5 rfl ?_
    refine hp_pf ok_MO_take rfl rfl rfl rfl rfl (Nat.le_of_ble_eq_true rfl) rfl ?_
    refine gv_B ok_MO_take 4 rfl ?_
    obtain ⟨μ13, e14, h⟩ := b1_e h
    refine hp_wr ok_MO_take rfl rfl rfl rfl e14 ?_
    refine gv_B ok_MO_take 4 rfl ?_
    obtain ⟨μ16, e17, h⟩ := b1_e h
    refine hp_wr ok_MO_take rfl rfl rfl rfl e17 ?_
    refine gv_B ok_MO_take 1 rfl ?_
    have j0 := Option.some.inj h
    obtain ⟨i1, j1⟩ := Prod.mk.inj j0
    subst i1
    subst j1
    exact gv_Ri ok_MO_take rfl rfl
  exact t_MO_take_2 _ e5 K6
def f_MO_hasVariable_6 (of nof : Nat) (k2 : Int32) (k3 : Int32) (k4 : Int32) : Nat → Int32 → Int32 → Mu → Option (Int32)
  | 0, _, _, _ => none
  | f + 1, y5, y6, μ =>
    (if (k2 + k3) ≤ y6 then
    some (y5)
    else
    (b1 (if ¬ y5 = 0 then
    some ((1 : Int32))
    else
    (b1 (rd (μ of) nof y6) fun v6 =>
    if ¬ v6 = (8 * k4) then
    some ((0 : Int32))
    else
    some ((1 : Int32)))) fun v2 =>
    f_MO_hasVariable_6 of nof k2 k3 k4 f v2 (y6 + 1) μ))
def f_MO_hasVariable (of nof : Nat) (x0 : Int32) (x1 : Int32) (x2 : Int32) (μ : Mu) : Option (Int32) :=
  (if ofPb of nof = true then
  (b1 (f_MO_hasVariable_6 of nof x0 x1 x2 fu 0 x0 μ) fun l9 =>
  if (l9 = 0 ∨ l9 = 1) then some (l9) else none)
  else none)
theorem t_MO_hasVariable_6 {r : gv_O} {hf : gv_H} {of nof : Nat} {k2 : Int32} {k3 : Int32} {k4 : Int32} (ho : ofPb of nof = true) (fl : Nat) : ∀ {y5 : Int32} {y6 : Int32} {μ : Mu} {z5 : Int32}, f_MO_hasVariable_6 of nof k2 k3 k4 fl y5 y6 μ = some (z5) → gv_go G M_MO_hasVariable (d + 0) r hf 44 [none, none, none, none, none, some (gI z5), none] [] (hp n acc g cap μ) → gv_go G M_MO_hasVariable (d + 0) r hf 6 [none, some (gR of), some (gI k2), some (gI k3), some (gI k4), some (gI y5), some (gI y6)] [] (hp n acc g cap μ) := by
  induction fl with
  | zero => intro _ _ _ _ h _; cases h
  | succ f ih =>
    intro y5 y6 μ z5 h KJ
    unfold f_MO_hasVariable_6 at h
    refine gv_B ok_MO_hasVariable 5 rfl ?_
    by_cases c1 : (k2 + k3) ≤ y6
    · rw [if_pos c1] at h
      refine gv_brT c1 ?_
      have h9 := Option.some.inj h
      subst h9
      exact gv_fk KJ ⟨rfl, trivial⟩
    · rw [if_neg c1] at h
      refine gv_brF c1 ?_
      refine gv_B ok_MO_hasVariable 2 rfl ?_
      obtain ⟨v2, e3, h⟩ := b1_e h
      have K4 : gv_go G M_MO_hasVariable (d + 0) r hf 36 [none, some (gR of), some (gI k2), some (gI k3), some (gI k4), none, some (gI y6)] [gI v2] (hp n acc g cap μ) := by
        refine gv_B ok_MO_hasVariable 3 rfl ?_
        exact ih h KJ
      clear h
      have h := e3
      clear e3
      by_cases c5 : ¬ y5 = 0
      · rw [if_pos c5] at h
        refine gv_brT c5 ?_
        refine gv_B ok_MO_hasVariable 2 rfl ?_
        have h9 := Option.some.inj h
        subst h9
        exact gv_fk K4 ⟨rfl, ⟨rfl, ⟨rfl, ⟨rfl, ⟨rfl, trivial⟩⟩⟩⟩⟩
      · rw [if_neg c5] at h
        refine gv_brF c5 ?_
        refine gv_B ok_MO_hasVariable 2 rfl ?_
        obtain ⟨v6, e7, h⟩ := b1_e h
        refine hp_rd ok_MO_hasVariable rfl (to_r ho _ _ _) e7 ?_
        refine gv_B ok_MO_hasVariable 4 rfl ?_
        by_cases c8 : ¬ v6 = (8 * k4)
        · rw [if_pos c8] at h
          refine gv_brT c8 ?_
          refine gv_B ok_MO_hasVariable 1 rfl ?_
          have h9 := Option.some.inj h
          subst h9
          exact gv_fk K4 ⟨rfl, ⟨rfl, ⟨rfl, ⟨rfl, ⟨rfl, trivial⟩⟩⟩⟩⟩
        · rw [if_neg c8] at h
          refine gv_brF c8 ?_
          refine gv_B ok_MO_hasVariable 2 rfl ?_
          have h9 := Option.some.inj h
          subst h9
          exact gv_fk K4 ⟨rfl, ⟨rfl, ⟨rfl, ⟨rfl, ⟨rfl, trivial⟩⟩⟩⟩⟩
theorem t_MO_hasVariable {of nof : Nat} {x0 : Int32} {x1 : Int32} {x2 : Int32} {μ : Mu} {r : Int32} (h : f_MO_hasVariable of nof x0 x1 x2 μ = some (r)) : gv_ev G (d + 0) M_MO_hasVariable [gR 70, gR of, gI x0, gI x1, gI x2] (hp n acc g cap μ) (.inl (some (gI r))) (hp n acc g cap μ) := by
  unfold f_MO_hasVariable at h
  by_cases ho : ofPb of nof = true
  rotate_left
  · rw [if_neg ho] at h
    cases h
  rw [if_pos ho] at h
  refine gv_E (ls := [some (gR 70), some (gR of), some (gI x0), some (gI x1), some (gI x2), none, none]) (by decide) (fun h => by cases h) (Nat.le_of_ble_eq_true rfl) rfl ?_
  refine gv_B ok_MO_hasVariable 4 rfl ?_
  obtain ⟨l9, e10, h⟩ := b1_e h
  have K11 : gv_go G M_MO_hasVariable (d + 0) (.inl (some (gI r))) (hp n acc g cap μ) 44 [none, none, none, none, none, some (gI l9), none] [] (hp n acc g cap μ) := by
    refine gv_B ok_MO_hasVariable 1 rfl ?_
    by_cases c12 : (l9 = 0 ∨ l9 = 1)
    · rw [if_pos c12] at h
      have h9 := Option.some.inj h
      subst h9
      exact gv_Rz ok_MO_hasVariable rfl rfl c12
    · rw [if_neg c12] at h
      cases h
  exact gv_fk (t_MO_hasVariable_6 ho _ e10 K11) ⟨rfl, ⟨rfl, ⟨rfl, ⟨rfl, ⟨rfl, ⟨rfl, trivial⟩⟩⟩⟩⟩⟩
def f_MO_needs_6 (of nof : Nat) (k2 : Int32) (k3 : Int32) : Nat → Int32 → Int32 → Mu → Option (Int32)
  | 0, _, _, _ => none
  | f + 1, y4, y5, μ =>
    (if 8 ≤ y5 then
    some (y4)
    else
    (b1 (f_MO_hasVariable of nof k2 k3 y5 μ) fun v3 =>
    b1 (if v3 = 0 then
    some ((0 : Int32))
    else
    some ((1 : Int32))) fun v4 =>
    f_MO_needs_6 of nof k2 k3 f (y4 + v4) (y5 + 1) μ))
def f_MO_needs_44 (of nof : Nat) (k2 : Int32) (k3 : Int32) : Nat → Int32 → Int32 → Mu → Option (Int32)
  | 0, _, _, _ => none
  | f + 1, y4, y5, μ =>
    (if (k2 + k3) ≤ y5 then
    some (y4)
    else
    (b1 (rd (μ of) nof y5) fun v12 =>
    b1 (f_MO_arity v12 μ) fun v15 =>
    b1 (if v15 ≤ 0 then
    some ((0 : Int32))
    else
    (b1 (rd (μ of) nof y5) fun v20 =>
    b1 (f_MO_arity v20 μ) fun v23 =>
    some ((1 + v23)))) fun v16 =>
    f_MO_needs_44 of nof k2 k3 f (y4 + v16) (y5 + 1) μ))
def f_MO_needs (of nof : Nat) (x0 : Int32) (x1 : Int32) (μ : Mu) : Option (Int32) :=
  (if ofPb of nof = true then
  (b1 (f_MO_needs_6 of nof x0 x1 fu 0 0 μ) fun l8 =>
  b1 (f_MO_needs_44 of nof x0 x1 fu l8 x0 μ) fun l24 =>
  some (l24))
  else none)
theorem t_MO_needs_6 {r : gv_O} {hf : gv_H} {of nof : Nat} {k2 : Int32} {k3 : Int32} (ho : ofPb of nof = true) (fl : Nat) : ∀ {y4 : Int32} {y5 : Int32} {μ : Mu} {z4 : Int32}, f_MO_needs_6 of nof k2 k3 fl y4 y5 μ = some (z4) → gv_go G M_MO_needs (d + 1) r hf 41 [some (gR 70), some (gR of), some (gI k2), some (gI k3), some (gI z4), none] [] (hp n acc g cap μ) → gv_go G M_MO_needs (d + 1) r hf 6 [some (gR 70), some (gR of), some (gI k2), some (gI k3), some (gI y4), some (gI y5)] [] (hp n acc g cap μ) := by
  induction fl with
  | zero => intro _ _ _ _ h _; cases h
  | succ f ih =>
    intro y4 y5 μ z4 h KJ
    unfold f_MO_needs_6 at h
    refine gv_B ok_MO_needs 3 rfl ?_
    by_cases c1 : 8 ≤ y5
    · rw [if_pos c1] at h
      refine gv_brT c1 ?_
      have h9 := Option.some.inj h
      subst h9
      exact gv_fk KJ ⟨rfl, ⟨rfl, ⟨rfl, ⟨rfl, ⟨rfl, trivial⟩⟩⟩⟩⟩
    · rw [if_neg c1] at h
      refine gv_brF c1 ?_
      refine gv_B ok_MO_needs 6 rfl ?_
      obtain ⟨v3, e2, h⟩ := b1_e h
      refine gv_Vc ok_MO_needs rfl mk_MO_hasVariable rfl (t_MO_hasVariable (d := d) e2) rfl rfl (Nat.le_of_ble_eq_true rfl) rfl rfl rfl ?_
      refine gv_B ok_MO_needs 1 rfl ?_
      obtain ⟨v4, e5, h⟩ := b1_e h
      have K6 : gv_go G M_MO_needs (d + 1) r hf 32 [some (gR 70), some (gR of), some (gI k2), some (gI k3), none, some (gI y5)] [gI v4, gI y4] (hp n acc g cap μ) := by
        refine gv_B ok_MO_needs 4 rfl ?_
        exact ih h KJ
      clear h
      have h := e5
      clear e5
      by_cases c7 : v3 = 0
      · rw [if_pos c7] at h
        refine gv_brT c7 ?_
        refine gv_B ok_MO_needs 1 rfl ?_
        have h9 := Option.some.inj h
        subst h9
        exact gv_fk K6 ⟨rfl, ⟨rfl, ⟨rfl, ⟨rfl, ⟨rfl, trivial⟩⟩⟩⟩⟩
      · rw [if_neg c7] at h
        refine gv_brF c7 ?_
        refine gv_B ok_MO_needs 2 rfl ?_
        have h9 := Option.some.inj h
        subst h9
        exact gv_fk K6 ⟨rfl, ⟨rfl, ⟨rfl, ⟨rfl, ⟨rfl, trivial⟩⟩⟩⟩⟩
theorem t_MO_needs_44 {r : gv_O} {hf : gv_H} {of nof : Nat} {k2 : Int32} {k3 : Int32} (ho : ofPb of nof = true) (fl : Nat) : ∀ {y4 : Int32} {y5 : Int32} {μ : Mu} {z4 : Int32}, f_MO_needs_44 of nof k2 k3 fl y4 y5 μ = some (z4) → gv_go G M_MO_needs (d + 1) r hf 88 [none, none, none, none, some (gI z4), none] [] (hp n acc g cap μ) → gv_go G M_MO_needs (d + 1) r hf 44 [some (gR 70), some (gR of), some (gI k2), some (gI k3), some (gI y4), some (gI y5)] [] (hp n acc g cap μ) := by
  induction fl with
  | zero => intro _ _ _ _ h _; cases h
  | succ f ih =>
    intro y4 y5 μ z4 h KJ
    unfold f_MO_needs_44 at h
    refine gv_B ok_MO_needs 5 rfl ?_
    by_cases c11 : (k2 + k3) ≤ y5
    · rw [if_pos c11] at h
      refine gv_brT c11 ?_
      have h9 := Option.some.inj h
      subst h9
      exact gv_fk KJ ⟨rfl, trivial⟩
    · rw [if_neg c11] at h
      refine gv_brF c11 ?_
      refine gv_B ok_MO_needs 4 rfl ?_
      obtain ⟨v12, e13, h⟩ := b1_e h
      refine hp_rd ok_MO_needs rfl (to_r ho _ _ _) e13 ?_
      obtain ⟨v15, e14, h⟩ := b1_e h
      refine gv_Vc ok_MO_needs rfl mk_MO_arity rfl (t_MO_arity (d := d) e14) rfl rfl (Nat.le_of_ble_eq_true rfl) rfl rfl rfl ?_
      refine gv_B ok_MO_needs 1 rfl ?_
      obtain ⟨v16, e17, h⟩ := b1_e h
      have K18 : gv_go G M_MO_needs (d + 1) r hf 79 [some (gR 70), some (gR of), some (gI k2), some (gI k3), none, some (gI y5)] [gI v16, gI y4] (hp n acc g cap μ) := by
        refine gv_B ok_MO_needs 4 rfl ?_
        exact ih h KJ
      clear h
      have h := e17
      clear e17
      by_cases c19 : v15 ≤ 0
      · rw [if_pos c19] at h
        refine gv_brT c19 ?_
        refine gv_B ok_MO_needs 1 rfl ?_
        have h9 := Option.some.inj h
        subst h9
        exact gv_fk K18 ⟨rfl, ⟨rfl, ⟨rfl, ⟨rfl, ⟨rfl, trivial⟩⟩⟩⟩⟩
      · rw [if_neg c19] at h
        refine gv_brF c19 ?_
        refine gv_B ok_MO_needs 4 rfl ?_
        obtain ⟨v20, e21, h⟩ := b1_e h
        refine hp_rd ok_MO_needs rfl (to_r ho _ _ _) e21 ?_
        obtain ⟨v23, e22, h⟩ := b1_e h
        refine gv_Vc ok_MO_needs rfl mk_MO_arity rfl (t_MO_arity (d := d) e22) rfl rfl (Nat.le_of_ble_eq_true rfl) rfl rfl rfl ?_
        refine gv_B ok_MO_needs 2 rfl ?_
        have h9 := Option.some.inj h
        subst h9
        exact gv_fk K18 ⟨rfl, ⟨rfl, ⟨rfl, ⟨rfl, ⟨rfl, trivial⟩⟩⟩⟩⟩
theorem t_MO_needs {of nof : Nat} {x0 : Int32} {x1 : Int32} {μ : Mu} {r : Int32} (h : f_MO_needs of nof x0 x1 μ = some (r)) : gv_ev G (d + 1) M_MO_needs [gR 70, gR of, gI x0, gI x1] (hp n acc g cap μ) (.inl (some (gI r))) (hp n acc g cap μ) := by
  unfold f_MO_needs at h
  by_cases ho : ofPb of nof = true
  rotate_left
  · rw [if_neg ho] at h
    cases h
  rw [if_pos ho] at h
  refine gv_E (ls := [some (gR 70), some (gR of), some (gI x0), some (gI x1), none, none]) (by decide) (fun h => by cases h) (Nat.le_of_ble_eq_true rfl) rfl ?_
  refine gv_B ok_MO_needs 4 rfl ?_
  obtain ⟨l8, e9, h⟩ := b1_e h
  have K10 : gv_go G M_MO_needs (d + 1) (.inl (some (gI r))) (hp n acc g cap μ) 41 [some (gR 70), some (gR of), some (gI x0), some (gI x1), some (gI l8), none] [] (hp n acc g cap μ) := by
    refine gv_B ok_MO_needs 2 rfl ?_
    obtain ⟨l24, e25, h⟩ := b1_e h
    have K26 : gv_go G M_MO_needs (d + 1) (.inl (some (gI r))) (hp n acc g cap μ) 88 [none, none, none, none, some (gI l24), none] [] (hp n acc g cap μ) := by
      refine gv_B ok_MO_needs 1 rfl ?_
      have h9 := Option.some.inj h
      subst h9
      exact gv_Ri ok_MO_needs rfl rfl
    exact t_MO_needs_44 ho _ e25 K26
  exact t_MO_needs_6 ho _ e9 K10
def f_MO_place_112 : Nat → Mu → Option (Mu)
  | 0, _ => none
  | f + 1, μ =>
    (if (μ 70 43) ≤ 0 then
    some (μ)
    else
    (b1 (rd (μ 95) 40 ((μ 70 43) - 1)) fun v20 =>
    b1 (rd (μ 94) 40 ((μ 70 43) - 1)) fun v22 =>
    b1 (rd (μ 78) 240 v22) fun v24 =>
    b1 (f_MO_arity v24 μ) fun v27 =>
    if ¬ v20 = v27 then
    some (μ)
    else
    f_MO_place_112 f (sI μ 70 43 ((μ 70 43) - 1))))
def f_MO_place (μ : Mu) : Option (Mu) :=
  (if ¬ (μ 70 43) = 0 then
  (b1 (rd (μ 94) 40 ((μ 70 43) - 1)) fun v2 =>
  b1 (rd (μ 95) 40 ((μ 70 43) - 1)) fun v4 =>
  b1 (rd (μ 79) 720 ((3 * v2) + v4)) fun v6 =>
  b1 (wr μ 76 240 v6 (μ 70 40)) fun μ8 =>
  b1 (wr μ8 77 240 v6 (μ8 70 41)) fun μ11 =>
  b1 (rd (μ11 95) 40 ((μ11 70 43) - 1)) fun v14 =>
  b1 (wr μ11 95 40 ((μ11 70 43) - 1) (v14 + 1)) fun μ16 =>
  b1 (f_MO_place_112 fu μ16) fun μ29 =>
  some (μ29))
  else
  (b1 (wr μ 96 30 (μ 70 46) (μ 70 40)) fun μ33 =>
  b1 (wr μ33 97 30 (μ33 70 46) (μ33 70 41)) fun μ36 =>
  some ((sI μ36 70 46 ((μ36 70 46) + 1)))))
theorem t_MO_place_112 {r : gv_O} {hf : gv_H} (fl : Nat) : ∀ {μ : Mu} {μz : Mu}, f_MO_place_112 fl μ = some (μz) → gv_go G M_MO_place (d + 1) r hf 166 [none, none, none] [] (hp n acc g cap μz) → gv_go G M_MO_place (d + 1) r hf 112 [some (gR 70), none, none] [] (hp n acc g cap μ) := by
  induction fl with
  | zero => intro _ _ h _; cases h
  | succ f ih =>
    intro μ μz h KJ
    unfold f_MO_place_112 at h
    refine gv_B ok_MO_place 3 rfl ?_
    by_cases c19 : (μ 70 43) ≤ 0
    · rw [if_pos c19] at h
      refine gv_brT c19 ?_
      have h9 := Option.some.inj h
      subst h9
      exact gv_fk KJ trivial
    · rw [if_neg c19] at h
      refine gv_brF c19 ?_
      refine gv_B ok_MO_place 6 rfl ?_
      obtain ⟨v20, e21, h⟩ := b1_e h
      refine hp_rd ok_MO_place rfl rfl e21 ?_
      refine gv_B ok_MO_place 9 rfl ?_
      obtain ⟨v22, e23, h⟩ := b1_e h
      refine hp_rd ok_MO_place rfl rfl e23 ?_
      obtain ⟨v24, e25, h⟩ := b1_e h
      refine hp_rd ok_MO_place rfl rfl e25 ?_
      obtain ⟨v27, e26, h⟩ := b1_e h
      refine gv_Vc ok_MO_place rfl mk_MO_arity rfl (t_MO_arity (d := d) e26) rfl rfl (Nat.le_of_ble_eq_true rfl) rfl rfl rfl ?_
      refine gv_B ok_MO_place 1 rfl ?_
      by_cases c28 : ¬ v20 = v27
      · rw [if_pos c28] at h
        refine gv_brT c28 ?_
        have h9 := Option.some.inj h
        subst h9
        exact gv_fk KJ trivial
      · rw [if_neg c28] at h
        refine gv_brF c28 ?_
        refine gv_B ok_MO_place 5 rfl ?_
        refine hp_pf ok_MO_place rfl rfl rfl rfl rfl (Nat.le_of_ble_eq_true rfl) rfl ?_
        refine gv_B ok_MO_place 1 rfl ?_
        exact ih h KJ
theorem t_MO_place {μ : Mu} {μr : Mu} (h : f_MO_place μ = some (μr)) : gv_ev G (d + 1) M_MO_place [gR 70] (hp n acc g cap μ) (.inl none) (hp n acc g cap μr) := by
  unfold f_MO_place at h
  refine gv_E (ls := [some (gR 70), none, none]) (by decide) (fun h => by cases h) (Nat.le_of_ble_eq_true rfl) rfl ?_
  refine gv_B ok_MO_place 3 rfl ?_
  by_cases c1 : ¬ (μ 70 43) = 0
  · rw [if_pos c1] at h
    refine gv_brT c1 ?_
    refine gv_B ok_MO_place 6 rfl ?_
    obtain ⟨v2, e3, h⟩ := b1_e h
    refine hp_rd ok_MO_place rfl rfl e3 ?_
    refine gv_B ok_MO_place 12 rfl ?_
    obtain ⟨v4, e5, h⟩ := b1_e h
    refine hp_rd ok_MO_place rfl rfl e5 ?_
    refine gv_B ok_MO_place 1 rfl ?_
    obtain ⟨v6, e7, h⟩ := b1_e h
    refine hp_rd ok_MO_place rfl rfl e7 ?_
    refine gv_B ok_MO_place 6 rfl ?_
    obtain ⟨μ8, e9, h⟩ := b1_e h
    refine hp_wr ok_MO_place rfl rfl rfl rfl e9 ?_
    refine gv_B ok_MO_place 5 rfl ?_
    obtain ⟨μ11, e12, h⟩ := b1_e h
    refine hp_wr ok_MO_place rfl rfl rfl rfl e12 ?_
    refine gv_B ok_MO_place 7 rfl ?_
    obtain ⟨v14, e15, h⟩ := b1_e h
    refine hp_rd ok_MO_place rfl rfl e15 ?_
    refine gv_B ok_MO_place 2 rfl ?_
    obtain ⟨μ16, e17, h⟩ := b1_e h
    refine hp_wr ok_MO_place rfl rfl rfl rfl e17 ?_
    obtain ⟨μ29, e30, h⟩ := b1_e h
    have K31 : gv_go G M_MO_place (d + 1) (.inl none) (hp n acc g cap μr) 166 [none, none, none] [] (hp n acc g cap μ29) := by
      have h9 := Option.some.inj h
      subst h9
      exact gv_Rv ok_MO_place rfl rfl
    exact gv_fk (t_MO_place_112 _ e30 K31) ⟨rfl, trivial⟩
  · rw [if_neg c1] at h
    refine gv_brF c1 ?_
    refine gv_B ok_MO_place 6 rfl ?_
    obtain ⟨μ33, e34, h⟩ := b1_e h
    refine hp_wr ok_MO_place rfl rfl rfl rfl e34 ?_
    refine gv_B ok_MO_place 6 rfl ?_
    obtain ⟨μ36, e37, h⟩ := b1_e h
    refine hp_wr ok_MO_place rfl rfl rfl rfl e37 ?_
    refine gv_B ok_MO_place 5 rfl ?_
    refine hp_pf ok_MO_place rfl rfl rfl rfl rfl (Nat.le_of_ble_eq_true rfl) rfl ?_
    have h9 := Option.some.inj h
    subst h9
    exact gv_Rv ok_MO_place rfl rfl
def f_MO_copyWord_93 (k3 : Int32) (k4 : Int32) : Nat → Int32 → Mu → Option (Mu)
  | 0, _, _ => none
  | f + 1, y5, μ =>
    (if k3 ≤ y5 then
    some (μ)
    else
    (b2 (f_MO_take 3 μ) fun v13 μ14 =>
    b1 (wr μ14 79 720 ((3 * k4) + y5) v13) fun μ16 =>
    f_MO_copyWord_93 k3 k4 f (y5 + 1) μ16))
def f_MO_copyWord (x0 : Int32) (μ : Mu) : Option (Mu) :=
  (b1 (f_MO_arity x0 μ) fun v2 =>
  if ¬ v2 = 0 then
  (b2 (f_MO_take 2 μ) fun v5 μ6 =>
  b1 (wr μ6 78 240 v5 x0) fun μ8 =>
  b1 (f_MO_copyWord_93 v2 v5 fu 0 μ8) fun μ19 =>
  b1 (if ¬ (μ19 70 43) = 0 then
  (b1 (rd (μ19 94) 40 ((μ19 70 43) - 1)) fun v27 =>
  b1 (rd (μ19 95) 40 ((μ19 70 43) - 1)) fun v29 =>
  b1 (rd (μ19 79) 720 ((3 * v27) + v29)) fun v31 =>
  b1 (wr (sI (sI μ19 70 40 3) 70 41 v5) 76 240 v31 3) fun μ33 =>
  b1 (wr μ33 77 240 v31 v5) fun μ36 =>
  b1 (rd (μ36 95) 40 ((μ36 70 43) - 1)) fun v39 =>
  b1 (wr μ36 95 40 ((μ36 70 43) - 1) (v39 + 1)) fun μ41 =>
  some (μ41))
  else
  (b1 (f_MO_place (sI (sI μ19 70 40 3) 70 41 v5)) fun μ45 =>
  some (μ45))) fun μ23 =>
  b1 (wr μ23 94 40 (μ23 70 43) v5) fun μ48 =>
  b1 (wr μ48 95 40 (μ48 70 43) 0) fun μ51 =>
  some ((sI μ51 70 43 ((μ51 70 43) + 1))))
  else
  (b1 (if ¬ (x0 &&& 7) = 0 then
  (if ¬ (x0 &&& 7) = 1 then
  (if ¬ (x0 &&& 7) = 6 then
  some ((2 : Int32))
  else
  some ((6 : Int32)))
  else
  some ((1 : Int32)))
  else
  some ((0 : Int32))) fun v54 =>
  b1 (if ¬ (x0 &&& 7) = 0 then
  some ((x0 >>> ((3 : Int32) &&& 31)))
  else
  (b1 (rd (μ 93) 8 (x0 >>> ((3 : Int32) &&& 31))) fun v64 =>
  some (v64))) fun v60 =>
  b1 (f_MO_place (sI (sI μ 70 40 v54) 70 41 v60)) fun μ67 =>
  some (μ67)))
theorem t_MO_copyWord_93 {r : gv_O} {hf : gv_H} {k3 : Int32} {k4 : Int32} (fl : Nat) : ∀ {y5 : Int32} {μ : Mu} {μz : Mu}, f_MO_copyWord_93 k3 k4 fl y5 μ = some (μz) → gv_go G M_MO_copyWord (d + 2) r hf 122 [some (gR 70), none, none, none, some (gI k4), none, none] [] (hp n acc g cap μz) → gv_go G M_MO_copyWord (d + 2) r hf 93 [some (gR 70), none, none, some (gI k3), some (gI k4), some (gI y5), none] [] (hp n acc g cap μ) := by
  induction fl with
  | zero => intro _ _ _ h _; cases h
  | succ f ih =>
    intro y5 μ μz h KJ
    unfold f_MO_copyWord_93 at h
    refine gv_B ok_MO_copyWord 3 rfl ?_
    by_cases c11 : k3 ≤ y5
    · rw [if_pos c11] at h
      refine gv_brT c11 ?_
      have h9 := Option.some.inj h
      subst h9
      exact gv_fk KJ ⟨rfl, ⟨rfl, trivial⟩⟩
    · rw [if_neg c11] at h
      refine gv_brF c11 ?_
      refine gv_B ok_MO_copyWord 9 rfl ?_
      obtain ⟨v13, μ14, e12, h⟩ := b2_e h
      refine gv_Vc ok_MO_copyWord rfl mk_MO_take rfl (t_MO_take (d := d + 1) e12) rfl rfl (Nat.le_of_ble_eq_true rfl) rfl rfl rfl ?_
      obtain ⟨μ16, e17, h⟩ := b1_e h
      refine hp_wr ok_MO_copyWord rfl rfl rfl rfl e17 ?_
      refine gv_B ok_MO_copyWord 2 rfl ?_
      exact ih h KJ
theorem t_MO_copyWord {x0 : Int32} {μ : Mu} {μr : Mu} (h : f_MO_copyWord x0 μ = some (μr)) : gv_ev G (d + 2) M_MO_copyWord [gR 70, gI x0] (hp n acc g cap μ) (.inl none) (hp n acc g cap μr) := by
  unfold f_MO_copyWord at h
  refine gv_E (ls := [some (gR 70), some (gI x0), none, none, none, none, none]) (by decide) (fun h => by cases h) (Nat.le_of_ble_eq_true rfl) rfl ?_
  refine gv_B ok_MO_copyWord 6 rfl ?_
  obtain ⟨v2, e1, h⟩ := b1_e h
  refine gv_Vc ok_MO_copyWord rfl mk_MO_arity rfl (t_MO_arity (d := d + 1) e1) rfl rfl (Nat.le_of_ble_eq_true rfl) rfl rfl rfl ?_
  refine gv_B ok_MO_copyWord 3 rfl ?_
  by_cases c3 : ¬ v2 = 0
  · rw [if_pos c3] at h
    refine gv_brT c3 ?_
    refine gv_B ok_MO_copyWord 2 rfl ?_
    obtain ⟨v5, μ6, e4, h⟩ := b2_e h
    refine gv_Vc ok_MO_copyWord rfl mk_MO_take rfl (t_MO_take (d := d + 1) e4) rfl rfl (Nat.le_of_ble_eq_true rfl) rfl rfl rfl ?_
    refine gv_B ok_MO_copyWord 5 rfl ?_
    obtain ⟨μ8, e9, h⟩ := b1_e h
    refine hp_wr ok_MO_copyWord rfl rfl rfl rfl e9 ?_
    refine gv_B ok_MO_copyWord 2 rfl ?_
    obtain ⟨μ19, e20, h⟩ := b1_e h
    have K21 : gv_go G M_MO_copyWord (d + 2) (.inl none) (hp n acc g cap μr) 122 [some (gR 70), none, none, none, some (gI v5), none, none] [] (hp n acc g cap μ19) := by
      refine gv_B ok_MO_copyWord 2 rfl ?_
      refine hp_pf ok_MO_copyWord rfl rfl rfl rfl rfl (Nat.le_of_ble_eq_true rfl) rfl ?_
      refine gv_B ok_MO_copyWord 2 rfl ?_
      refine hp_pf ok_MO_copyWord rfl rfl rfl rfl rfl (Nat.le_of_ble_eq_true rfl) rfl ?_
      refine gv_B ok_MO_copyWord 3 rfl ?_
      obtain ⟨μ23, e24, h⟩ := b1_e h
      have K25 : gv_go G M_MO_copyWord (d + 2) (.inl none) (hp n acc g cap μr) 215 [some (gR 70), none, none, none, some (gI v5), none, none] [] (hp n acc g cap μ23) := by
        refine gv_B ok_MO_copyWord 5 rfl ?_
        obtain ⟨μ48, e49, h⟩ := b1_e h
        refine hp_wr ok_MO_copyWord rfl rfl rfl rfl e49 ?_
        refine gv_B ok_MO_copyWord 5 rfl ?_
        obtain ⟨μ51, e52, h⟩ := b1_e h
        refine hp_wr ok_MO_copyWord rfl rfl rfl rfl e52 ?_
        refine gv_B ok_MO_copyWord 5 rfl ?_
        refine hp_pf ok_MO_copyWord rfl rfl rfl rfl rfl (Nat.le_of_ble_eq_true rfl) rfl ?_
        have h9 := Option.some.inj h
        subst h9
        exact gv_Rv ok_MO_copyWord rfl rfl
      clear h
      have h := e24
      clear e24
      by_cases c26 : ¬ (μ19 70 43) = 0
      · rw [if_pos c26] at h
        refine gv_brT c26 ?_
        refine gv_B ok_MO_copyWord 6 rfl ?_
        obtain ⟨v27, e28, h⟩ := b1_e h
        refine hp_rd ok_MO_copyWord rfl rfl e28 ?_
        refine gv_B ok_MO_copyWord 12 rfl ?_
        obtain ⟨v29, e30, h⟩ := b1_e h
        refine hp_rd ok_MO_copyWord rfl rfl e30 ?_
        refine gv_B ok_MO_copyWord 1 rfl ?_
        obtain ⟨v31, e32, h⟩ := b1_e h
        refine hp_rd ok_MO_copyWord rfl rfl e32 ?_
        refine gv_B ok_MO_copyWord 5 rfl ?_
        obtain ⟨μ33, e34, h⟩ := b1_e h
        refine hp_wr ok_MO_copyWord rfl rfl rfl rfl e34 ?_
        refine gv_B ok_MO_copyWord 4 rfl ?_
        obtain ⟨μ36, e37, h⟩ := b1_e h
        refine hp_wr ok_MO_copyWord rfl rfl rfl rfl e37 ?_
        refine gv_B ok_MO_copyWord 7 rfl ?_
        obtain ⟨v39, e40, h⟩ := b1_e h
        refine hp_rd ok_MO_copyWord rfl rfl e40 ?_
        refine gv_B ok_MO_copyWord 2 rfl ?_
        obtain ⟨μ41, e42, h⟩ := b1_e h
        refine hp_wr ok_MO_copyWord rfl rfl rfl rfl e42 ?_
        have h9 := Option.some.inj h
        subst h9
        exact gv_fk K25 ⟨rfl, ⟨rfl, trivial⟩⟩
      · rw [if_neg c26] at h
        refine gv_brF c26 ?_
        refine gv_B ok_MO_copyWord 1 rfl ?_
        obtain ⟨μ45, e44, h⟩ := b1_e h
        refine gv_Vc ok_MO_copyWord rfl mk_MO_place rfl (t_MO_place (d := d) e44) rfl rfl (Nat.le_of_ble_eq_true rfl) rfl rfl rfl ?_
        refine gv_B ok_MO_copyWord 1 rfl ?_
        have h9 := Option.some.inj h
        subst h9
        exact K25
    exact gv_fk (t_MO_copyWord_93 _ e20 K21) ⟨rfl, ⟨rfl, ⟨rfl, ⟨rfl, trivial⟩⟩⟩⟩
  · rw [if_neg c3] at h
    refine gv_brF c3 ?_
    refine gv_B ok_MO_copyWord 3 rfl ?_
    obtain ⟨v54, e55, h⟩ := b1_e h
    have K56 : gv_go G M_MO_copyWord (d + 2) (.inl none) (hp n acc g cap μr) 45 [some (gR 70), some (gI x0), some (gI (x0 &&& 7)), none, none, none, none] [gI v54, gR 70] (hp n acc g cap μ) := by
      refine hp_pf ok_MO_copyWord rfl rfl rfl rfl rfl (Nat.le_of_ble_eq_true rfl) rfl ?_
      refine gv_B ok_MO_copyWord 3 rfl ?_
      obtain ⟨v60, e61, h⟩ := b1_e h
      have K62 : gv_go G M_MO_copyWord (d + 2) (.inl none) (hp n acc g cap μr) 67 [some (gR 70), none, none, none, none, none, none] [gI v60, gR 70] (hp n acc g cap (sI μ 70 40 v54)) := by
        refine hp_pf ok_MO_copyWord rfl rfl rfl rfl rfl (Nat.le_of_ble_eq_true rfl) rfl ?_
        refine gv_B ok_MO_copyWord 1 rfl ?_
        obtain ⟨μ67, e66, h⟩ := b1_e h
        refine gv_Vc ok_MO_copyWord rfl mk_MO_place rfl (t_MO_place (d := d) e66) rfl rfl (Nat.le_of_ble_eq_true rfl) rfl rfl rfl ?_
        have h9 := Option.some.inj h
        subst h9
        exact gv_Rv ok_MO_copyWord rfl rfl
      clear h
      have h := e61
      clear e61
      by_cases c63 : ¬ (x0 &&& 7) = 0
      · rw [if_pos c63] at h
        refine gv_brT c63 ?_
        refine gv_B ok_MO_copyWord 3 rfl ?_
        have h9 := Option.some.inj h
        subst h9
        exact gv_fk K62 ⟨rfl, trivial⟩
      · rw [if_neg c63] at h
        refine gv_brF c63 ?_
        refine gv_B ok_MO_copyWord 5 rfl ?_
        obtain ⟨v64, e65, h⟩ := b1_e h
        refine hp_rd ok_MO_copyWord rfl rfl e65 ?_
        refine gv_B ok_MO_copyWord 1 rfl ?_
        have h9 := Option.some.inj h
        subst h9
        exact gv_fk K62 ⟨rfl, trivial⟩
    clear h
    have h := e55
    clear e55
    by_cases c57 : ¬ (x0 &&& 7) = 0
    · rw [if_pos c57] at h
      refine gv_brT c57 ?_
      refine gv_B ok_MO_copyWord 3 rfl ?_
      by_cases c58 : ¬ (x0 &&& 7) = 1
      · rw [if_pos c58] at h
        refine gv_brT c58 ?_
        refine gv_B ok_MO_copyWord 3 rfl ?_
        by_cases c59 : ¬ (x0 &&& 7) = 6
        · rw [if_pos c59] at h
          refine gv_brT c59 ?_
          refine gv_B ok_MO_copyWord 1 rfl ?_
          have h9 := Option.some.inj h
          subst h9
          exact gv_fk K56 ⟨rfl, ⟨rfl, ⟨rfl, trivial⟩⟩⟩
        · rw [if_neg c59] at h
          refine gv_brF c59 ?_
          refine gv_B ok_MO_copyWord 2 rfl ?_
          have h9 := Option.some.inj h
          subst h9
          exact gv_fk K56 ⟨rfl, ⟨rfl, ⟨rfl, trivial⟩⟩⟩
      · rw [if_neg c58] at h
        refine gv_brF c58 ?_
        refine gv_B ok_MO_copyWord 2 rfl ?_
        have h9 := Option.some.inj h
        subst h9
        exact gv_fk K56 ⟨rfl, ⟨rfl, ⟨rfl, trivial⟩⟩⟩
    · rw [if_neg c57] at h
      refine gv_brF c57 ?_
      refine gv_B ok_MO_copyWord 2 rfl ?_
      have h9 := Option.some.inj h
      subst h9
      exact gv_fk K56 ⟨rfl, ⟨rfl, ⟨rfl, trivial⟩⟩⟩
def f_MO_copy_13 (of nof : Nat) (k2 : Int32) (k3 : Int32) : Nat → Int32 → Mu → Option (Mu)
  | 0, _, _ => none
  | f + 1, y4, μ =>
    (if 8 ≤ y4 then
    some (μ)
    else
    (b1 (f_MO_hasVariable of nof k2 k3 y4 μ) fun v3 =>
    b2 (if v3 = 0 then
    some ((-1 : Int32), μ)
    else
    (b2 (f_MO_take 1 μ) fun v10 μ11 =>
    some (v10, μ11))) fun v4 μ5 =>
    b1 (wr μ5 93 8 y4 v4) fun μ14 =>
    f_MO_copy_13 of nof k2 k3 f (y4 + 1) μ14))
def f_MO_copy_57 (of nof : Nat) (k2 : Int32) (k3 : Int32) : Nat → Int32 → Mu → Option (Mu)
  | 0, _, _ => none
  | f + 1, y4, μ =>
    (if (k2 + k3) ≤ y4 then
    some (μ)
    else
    (b1 (rd (μ of) nof y4) fun v22 =>
    b1 (f_MO_copyWord v22 μ) fun μ25 =>
    f_MO_copy_57 of nof k2 k3 f (y4 + 1) μ25))
def f_MO_copy (of nof : Nat) (x0 : Int32) (x1 : Int32) (μ : Mu) : Option (Mu) :=
  (if ofPb of nof = true then
  (b1 (f_MO_copy_13 of nof x0 x1 fu 0 (sI (sI μ 70 46 0) 70 43 0)) fun μ17 =>
  b1 (f_MO_copy_57 of nof x0 x1 fu x0 μ17) fun μ27 =>
  some (μ27))
  else none)
theorem t_MO_copy_13 {r : gv_O} {hf : gv_H} {of nof : Nat} {k2 : Int32} {k3 : Int32} (ho : ofPb of nof = true) (fl : Nat) : ∀ {y4 : Int32} {μ : Mu} {μz : Mu}, f_MO_copy_13 of nof k2 k3 fl y4 μ = some (μz) → gv_go G M_MO_copy (d + 3) r hf 54 [some (gR 70), some (gR of), some (gI k2), some (gI k3), none] [] (hp n acc g cap μz) → gv_go G M_MO_copy (d + 3) r hf 13 [some (gR 70), some (gR of), some (gI k2), some (gI k3), some (gI y4)] [] (hp n acc g cap μ) := by
  induction fl with
  | zero => intro _ _ _ h _; cases h
  | succ f ih =>
    intro y4 μ μz h KJ
    unfold f_MO_copy_13 at h
    refine gv_B ok_MO_copy 3 rfl ?_
    by_cases c1 : 8 ≤ y4
    · rw [if_pos c1] at h
      refine gv_brT c1 ?_
      have h9 := Option.some.inj h
      subst h9
      exact gv_fk KJ ⟨rfl, ⟨rfl, ⟨rfl, ⟨rfl, trivial⟩⟩⟩⟩
    · rw [if_neg c1] at h
      refine gv_brF c1 ?_
      refine gv_B ok_MO_copy 8 rfl ?_
      obtain ⟨v3, e2, h⟩ := b1_e h
      refine gv_Vc ok_MO_copy rfl mk_MO_hasVariable rfl (t_MO_hasVariable (d := d + 2) e2) rfl rfl (Nat.le_of_ble_eq_true rfl) rfl rfl rfl ?_
      refine gv_B ok_MO_copy 1 rfl ?_
      obtain ⟨v4, μ5, e6, h⟩ := b2_e h
      have K7 : gv_go G M_MO_copy (d + 3) r hf 47 [some (gR 70), some (gR of), some (gI k2), some (gI k3), some (gI y4)] [gI v4, gI y4, gR 93] (hp n acc g cap μ5) := by
        obtain ⟨μ14, e15, h⟩ := b1_e h
        refine hp_wr ok_MO_copy rfl rfl rfl rfl e15 ?_
        refine gv_B ok_MO_copy 2 rfl ?_
        exact ih h KJ
      clear h
      have h := e6
      clear e6
      by_cases c8 : v3 = 0
      · rw [if_pos c8] at h
        refine gv_brT c8 ?_
        refine gv_B ok_MO_copy 1 rfl ?_
        have j0 := Option.some.inj h
        obtain ⟨i1, j1⟩ := Prod.mk.inj j0
        subst i1
        subst j1
        exact K7
      · rw [if_neg c8] at h
        refine gv_brF c8 ?_
        refine gv_B ok_MO_copy 2 rfl ?_
        obtain ⟨v10, μ11, e9, h⟩ := b2_e h
        refine gv_Vc ok_MO_copy rfl mk_MO_take rfl (t_MO_take (d := d + 2) e9) rfl rfl (Nat.le_of_ble_eq_true rfl) rfl rfl rfl ?_
        refine gv_B ok_MO_copy 1 rfl ?_
        have j0 := Option.some.inj h
        obtain ⟨i1, j1⟩ := Prod.mk.inj j0
        subst i1
        subst j1
        exact K7
theorem t_MO_copy_57 {r : gv_O} {hf : gv_H} {of nof : Nat} {k2 : Int32} {k3 : Int32} (ho : ofPb of nof = true) (fl : Nat) : ∀ {y4 : Int32} {μ : Mu} {μz : Mu}, f_MO_copy_57 of nof k2 k3 fl y4 μ = some (μz) → gv_go G M_MO_copy (d + 3) r hf 79 [none, none, none, none, none] [] (hp n acc g cap μz) → gv_go G M_MO_copy (d + 3) r hf 57 [some (gR 70), some (gR of), some (gI k2), some (gI k3), some (gI y4)] [] (hp n acc g cap μ) := by
  induction fl with
  | zero => intro _ _ _ h _; cases h
  | succ f ih =>
    intro y4 μ μz h KJ
    unfold f_MO_copy_57 at h
    refine gv_B ok_MO_copy 5 rfl ?_
    by_cases c21 : (k2 + k3) ≤ y4
    · rw [if_pos c21] at h
      refine gv_brT c21 ?_
      have h9 := Option.some.inj h
      subst h9
      exact gv_fk KJ trivial
    · rw [if_neg c21] at h
      refine gv_brF c21 ?_
      refine gv_B ok_MO_copy 3 rfl ?_
      obtain ⟨v22, e23, h⟩ := b1_e h
      refine hp_rd ok_MO_copy rfl (to_r ho _ _ _) e23 ?_
      obtain ⟨μ25, e24, h⟩ := b1_e h
      refine gv_Vc ok_MO_copy rfl mk_MO_copyWord rfl (t_MO_copyWord (d := d) e24) rfl rfl (Nat.le_of_ble_eq_true rfl) rfl rfl rfl ?_
      refine gv_B ok_MO_copy 2 rfl ?_
      exact ih h KJ
theorem t_MO_copy {of nof : Nat} {x0 : Int32} {x1 : Int32} {μ : Mu} {μr : Mu} (h : f_MO_copy of nof x0 x1 μ = some (μr)) : gv_ev G (d + 3) M_MO_copy [gR 70, gR of, gI x0, gI x1] (hp n acc g cap μ) (.inl none) (hp n acc g cap μr) := by
  unfold f_MO_copy at h
  by_cases ho : ofPb of nof = true
  rotate_left
  · rw [if_neg ho] at h
    cases h
  rw [if_pos ho] at h
  refine gv_E (ls := [some (gR 70), some (gR of), some (gI x0), some (gI x1), none]) (by decide) (fun h => by cases h) (Nat.le_of_ble_eq_true rfl) rfl ?_
  refine gv_B ok_MO_copy 2 rfl ?_
  refine hp_pf ok_MO_copy rfl rfl rfl rfl rfl (Nat.le_of_ble_eq_true rfl) rfl ?_
  refine gv_B ok_MO_copy 2 rfl ?_
  refine hp_pf ok_MO_copy rfl rfl rfl rfl rfl (Nat.le_of_ble_eq_true rfl) rfl ?_
  refine gv_B ok_MO_copy 2 rfl ?_
  obtain ⟨μ17, e18, h⟩ := b1_e h
  have K19 : gv_go G M_MO_copy (d + 3) (.inl none) (hp n acc g cap μr) 54 [some (gR 70), some (gR of), some (gI x0), some (gI x1), none] [] (hp n acc g cap μ17) := by
    refine gv_B ok_MO_copy 2 rfl ?_
    obtain ⟨μ27, e28, h⟩ := b1_e h
    have K29 : gv_go G M_MO_copy (d + 3) (.inl none) (hp n acc g cap μr) 79 [none, none, none, none, none] [] (hp n acc g cap μ27) := by
      have h9 := Option.some.inj h
      subst h9
      exact gv_Rv ok_MO_copy rfl rfl
    exact t_MO_copy_57 ho _ e28 K29
  exact t_MO_copy_13 ho _ e18 K19
end FNM
