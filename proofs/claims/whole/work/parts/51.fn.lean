/-! methods as functions of the numbers (written by wip/tools/genf.py, mkf.py) -/
section FNN
variable {G : gv_G} {d n g cap : Nat} {acc : Nat × Nat}
def f_MO_mean_10 : Nat → Mu → Option (Mu)
  | 0, _ => none
  | f + 1, μ =>
    (if ¬ (μ 70 40) = 0 then
    some (μ)
    else
    (b1 (rd (μ 76) 240 (μ 70 41)) fun v2 =>
    if v2 < 0 then
    some (μ)
    else
    (b1 (rd (μ 76) 240 (μ 70 41)) fun v5 =>
    b1 (rd (μ 77) 240 (μ 70 41)) fun v7 =>
    f_MO_mean_10 f (sI (sI μ 70 40 v5) 70 41 v7))))
def f_MO_mean (x0 : Int32) (x1 : Int32) (μ : Mu) : Option (Mu) :=
  (b1 (f_MO_mean_10 fu (sI (sI μ 70 40 x0) 70 41 x1)) fun μ9 =>
  some (μ9))
theorem t_MO_mean_10 {r : gv_O} {hf : gv_H} (fl : Nat) : ∀ {μ : Mu} {μz : Mu}, f_MO_mean_10 fl μ = some (μz) → gv_go G M_MO_mean (d + 0) r hf 57 [none, none, none, none] [] (hp n acc g cap μz) → gv_go G M_MO_mean (d + 0) r hf 10 [some (gR 70), none, none, none] [] (hp n acc g cap μ) := by
  induction fl with
  | zero => intro _ _ h _; cases h
  | succ f ih =>
    intro μ μz h KJ
    unfold f_MO_mean_10 at h
    refine gv_B ok_MO_mean 3 rfl ?_
    by_cases c1 : ¬ (μ 70 40) = 0
    · rw [if_pos c1] at h
      refine gv_brT c1 ?_
      have h9 := Option.some.inj h
      subst h9
      exact gv_fk KJ trivial
    · rw [if_neg c1] at h
      refine gv_brF c1 ?_
      refine gv_B ok_MO_mean 4 rfl ?_
      obtain ⟨v2, e3, h⟩ := b1_e h
      refine hp_rd ok_MO_mean rfl rfl e3 ?_
      refine gv_B ok_MO_mean 1 rfl ?_
      by_cases c4 : v2 < 0
      · rw [if_pos c4] at h
        refine gv_brT c4 ?_
        have h9 := Option.some.inj h
        subst h9
        exact gv_fk KJ trivial
      · rw [if_neg c4] at h
        refine gv_brF c4 ?_
        refine gv_B ok_MO_mean 7 rfl ?_
        obtain ⟨v5, e6, h⟩ := b1_e h
        refine hp_rd ok_MO_mean rfl rfl e6 ?_
        refine hp_pf ok_MO_mean rfl rfl rfl rfl rfl (Nat.le_of_ble_eq_true rfl) rfl ?_
        refine gv_B ok_MO_mean 4 rfl ?_
        obtain ⟨v7, e8, h⟩ := b1_e h
        refine hp_rd ok_MO_mean rfl rfl e8 ?_
        refine hp_pf ok_MO_mean rfl rfl rfl rfl rfl (Nat.le_of_ble_eq_true rfl) rfl ?_
        refine gv_B ok_MO_mean 1 rfl ?_
        exact gv_fk (ih h KJ) ⟨rfl, trivial⟩
theorem t_MO_mean {x0 : Int32} {x1 : Int32} {μ : Mu} {μr : Mu} (h : f_MO_mean x0 x1 μ = some (μr)) : gv_ev G (d + 0) M_MO_mean [gR 70, gI x0, gI x1] (hp n acc g cap μ) (.inl none) (hp n acc g cap μr) := by
  unfold f_MO_mean at h
  refine gv_E (ls := [some (gR 70), some (gI x0), some (gI x1), none]) (by decide) (fun h => by cases h) (Nat.le_of_ble_eq_true rfl) rfl ?_
  refine gv_B ok_MO_mean 2 rfl ?_
  refine hp_pf ok_MO_mean rfl rfl rfl rfl rfl (Nat.le_of_ble_eq_true rfl) rfl ?_
  refine gv_B ok_MO_mean 2 rfl ?_
  refine hp_pf ok_MO_mean rfl rfl rfl rfl rfl (Nat.le_of_ble_eq_true rfl) rfl ?_
  obtain ⟨μ9, e10, h⟩ := b1_e h
  have K11 : gv_go G M_MO_mean (d + 0) (.inl none) (hp n acc g cap μr) 57 [none, none, none, none] [] (hp n acc g cap μ9) := by
    have h9 := Option.some.inj h
    subst h9
    exact gv_Rv ok_MO_mean rfl rfl
  exact gv_fk (t_MO_mean_10 _ e10 K11) ⟨rfl, trivial⟩
def f_MO_push (x0 : Int32) (x1 : Int32) (μ : Mu) : Option (Mu) :=
  (b1 (wr μ 88 1600 (μ 70 30) x0) fun μ1 =>
  b1 (wr μ1 89 1600 (μ1 70 30) x1) fun μ4 =>
  some ((sI μ4 70 30 ((μ4 70 30) + 1))))
theorem t_MO_push {x0 : Int32} {x1 : Int32} {μ : Mu} {μr : Mu} (h : f_MO_push x0 x1 μ = some (μr)) : gv_ev G (d + 0) M_MO_push [gR 70, gI x0, gI x1] (hp n acc g cap μ) (.inl none) (hp n acc g cap μr) := by
  unfold f_MO_push at h
  refine gv_E (ls := [some (gR 70), some (gI x0), some (gI x1)]) (by decide) (fun h => by cases h) (Nat.le_of_ble_eq_true rfl) rfl ?_
  refine gv_B ok_MO_push 5 rfl ?_
  obtain ⟨μ1, e2, h⟩ := b1_e h
  refine hp_wr ok_MO_push rfl rfl rfl rfl e2 ?_
  refine gv_B ok_MO_push 5 rfl ?_
  obtain ⟨μ4, e5, h⟩ := b1_e h
  refine hp_wr ok_MO_push rfl rfl rfl rfl e5 ?_
  refine gv_B ok_MO_push 5 rfl ?_
  refine hp_pf ok_MO_push rfl rfl rfl rfl rfl (Nat.le_of_ble_eq_true rfl) rfl ?_
  have h9 := Option.some.inj h
  subst h9
  exact gv_Rv ok_MO_push rfl rfl
def f_MO_pushArguments_13 (k1 : Int32) : Nat → Int32 → Mu → Option (Mu)
  | 0, _, _ => none
  | f + 1, y2, μ =>
    (if y2 < 0 then
    some (μ)
    else
    (b1 (rd (μ 79) 720 ((3 * k1) + y2)) fun v6 =>
    b1 (rd (μ 76) 240 v6) fun v8 =>
    b1 (rd (μ 77) 240 v6) fun v10 =>
    b1 (f_MO_push v8 v10 μ) fun μ13 =>
    f_MO_pushArguments_13 k1 f (y2 + (-1)) μ13))
def f_MO_pushArguments (x0 : Int32) (μ : Mu) : Option (Mu) :=
  (b1 (rd (μ 78) 240 x0) fun v1 =>
  b1 (f_MO_arity v1 μ) fun v4 =>
  b1 (f_MO_pushArguments_13 x0 fu (v4 - 1) μ) fun μ15 =>
  some (μ15))
theorem t_MO_pushArguments_13 {r : gv_O} {hf : gv_H} {k1 : Int32} (fl : Nat) : ∀ {y2 : Int32} {μ : Mu} {μz : Mu}, f_MO_pushArguments_13 k1 fl y2 μ = some (μz) → gv_go G M_MO_pushArguments (d + 1) r hf 50 [none, none, none, none] [] (hp n acc g cap μz) → gv_go G M_MO_pushArguments (d + 1) r hf 13 [some (gR 70), some (gI k1), some (gI y2), none] [] (hp n acc g cap μ) := by
  induction fl with
  | zero => intro _ _ _ h _; cases h
  | succ f ih =>
    intro y2 μ μz h KJ
    unfold f_MO_pushArguments_13 at h
    refine gv_B ok_MO_pushArguments 2 rfl ?_
    by_cases c5 : y2 < 0
    · rw [if_pos c5] at h
      refine gv_brT c5 ?_
      have h9 := Option.some.inj h
      subst h9
      exact gv_fk KJ trivial
    · rw [if_neg c5] at h
      refine gv_brF c5 ?_
      refine gv_B ok_MO_pushArguments 7 rfl ?_
      obtain ⟨v6, e7, h⟩ := b1_e h
      refine hp_rd ok_MO_pushArguments rfl rfl e7 ?_
      refine gv_B ok_MO_pushArguments 5 rfl ?_
      obtain ⟨v8, e9, h⟩ := b1_e h
      refine hp_rd ok_MO_pushArguments rfl rfl e9 ?_
      refine gv_B ok_MO_pushArguments 3 rfl ?_
      obtain ⟨v10, e11, h⟩ := b1_e h
      refine hp_rd ok_MO_pushArguments rfl rfl e11 ?_
      obtain ⟨μ13, e12, h⟩ := b1_e h
      refine gv_Vc ok_MO_pushArguments rfl mk_MO_push rfl (t_MO_push (d := d) e12) rfl rfl (Nat.le_of_ble_eq_true rfl) rfl rfl rfl ?_
      refine gv_B ok_MO_pushArguments 2 rfl ?_
      exact gv_fk (ih h KJ) ⟨rfl, ⟨rfl, ⟨rfl, trivial⟩⟩⟩
theorem t_MO_pushArguments {x0 : Int32} {μ : Mu} {μr : Mu} (h : f_MO_pushArguments x0 μ = some (μr)) : gv_ev G (d + 1) M_MO_pushArguments [gR 70, gI x0] (hp n acc g cap μ) (.inl none) (hp n acc g cap μr) := by
  unfold f_MO_pushArguments at h
  refine gv_E (ls := [some (gR 70), some (gI x0), none, none]) (by decide) (fun h => by cases h) (Nat.le_of_ble_eq_true rfl) rfl ?_
  refine gv_B ok_MO_pushArguments 4 rfl ?_
  obtain ⟨v1, e2, h⟩ := b1_e h
  refine hp_rd ok_MO_pushArguments rfl rfl e2 ?_
  obtain ⟨v4, e3, h⟩ := b1_e h
  refine gv_Vc ok_MO_pushArguments rfl mk_MO_arity rfl (t_MO_arity (d := d) e3) rfl rfl (Nat.le_of_ble_eq_true rfl) rfl rfl rfl ?_
  refine gv_B ok_MO_pushArguments 3 rfl ?_
  obtain ⟨μ15, e16, h⟩ := b1_e h
  have K17 : gv_go G M_MO_pushArguments (d + 1) (.inl none) (hp n acc g cap μr) 50 [none, none, none, none] [] (hp n acc g cap μ15) := by
    have h9 := Option.some.inj h
    subst h9
    exact gv_Rv ok_MO_pushArguments rfl rfl
  exact t_MO_pushArguments_13 _ e16 K17
def f_MO_occurs_25 (k1 : Int32) (k4 : Int32) : Nat → Int32 → Mu → Option (Int32 × Mu)
  | 0, _, _ => none
  | f + 1, y5, μ =>
    (if (μ 70 30) ≤ k4 then
    some (y5, μ)
    else
    (b1 (rd (μ 88) 1600 ((μ 70 30) - 1)) fun v5 =>
    b1 (rd (μ 89) 1600 ((μ 70 30) - 1)) fun v7 =>
    b1 (f_MO_mean v5 v7 (sI μ 70 30 ((μ 70 30) - 1))) fun μ10 =>
    if ¬ (μ10 70 40) = 0 then
    (if ¬ (μ10 70 40) = 3 then
    f_MO_occurs_25 k1 k4 f y5 μ10
    else
    (b1 (rd (μ10 90) 240 (μ10 70 41)) fun v14 =>
    if v14 = (μ10 70 34) then
    f_MO_occurs_25 k1 k4 f y5 μ10
    else
    (b1 (wr μ10 90 240 (μ10 70 41) (μ10 70 34)) fun μ17 =>
    b1 (f_MO_pushArguments (μ17 70 41) μ17) fun μ21 =>
    f_MO_occurs_25 k1 k4 f y5 μ21)))
    else
    (b1 (if ¬ y5 = 0 then
    some ((1 : Int32))
    else
    (if ¬ (μ10 70 41) = k1 then
    some ((0 : Int32))
    else
    some ((1 : Int32)))) fun v23 =>
    f_MO_occurs_25 k1 k4 f v23 μ10)))
def f_MO_occurs (x0 : Int32) (x1 : Int32) (x2 : Int32) (μ : Mu) : Option (Int32 × Mu) :=
  (b1 (f_MO_push x1 x2 (sI μ 70 34 ((μ 70 34) + 1))) fun μ2 =>
  b2 (f_MO_occurs_25 x0 (μ 70 30) fu 0 μ2) fun l28 μ29 =>
  if (l28 = 0 ∨ l28 = 1) then some (l28, μ29) else none)
theorem t_MO_occurs_25 {r : gv_O} {hf : gv_H} {k1 : Int32} {k4 : Int32} (fl : Nat) : ∀ {y5 : Int32} {μ : Mu} {z5 : Int32} {μz : Mu}, f_MO_occurs_25 k1 k4 fl y5 μ = some (z5, μz) → gv_go G M_MO_occurs (d + 2) r hf 144 [none, none, none, none, none, some (gI z5)] [] (hp n acc g cap μz) → gv_go G M_MO_occurs (d + 2) r hf 25 [some (gR 70), some (gI k1), none, none, some (gI k4), some (gI y5)] [] (hp n acc g cap μ) := by
  induction fl with
  | zero => intro _ _ _ _ h _; cases h
  | succ f ih =>
    intro y5 μ z5 μz h KJ
    unfold f_MO_occurs_25 at h
    refine gv_B ok_MO_occurs 4 rfl ?_
    by_cases c4 : (μ 70 30) ≤ k4
    · rw [if_pos c4] at h
      refine gv_brT c4 ?_
      have j0 := Option.some.inj h
      obtain ⟨i1, j1⟩ := Prod.mk.inj j0
      subst i1
      subst j1
      exact gv_fk KJ ⟨rfl, trivial⟩
    · rw [if_neg c4] at h
      refine gv_brF c4 ?_
      refine gv_B ok_MO_occurs 5 rfl ?_
      refine hp_pf ok_MO_occurs rfl rfl rfl rfl rfl (Nat.le_of_ble_eq_true rfl) rfl ?_
      refine gv_B ok_MO_occurs 5 rfl ?_
      obtain ⟨v5, e6, h⟩ := b1_e h
      refine hp_rd ok_MO_occurs rfl rfl e6 ?_
      refine gv_B ok_MO_occurs 4 rfl ?_
      obtain ⟨v7, e8, h⟩ := b1_e h
      refine hp_rd ok_MO_occurs rfl rfl e8 ?_
      obtain ⟨μ10, e9, h⟩ := b1_e h
      refine gv_Vc ok_MO_occurs rfl mk_MO_mean rfl (t_MO_mean (d := d + 1) e9) rfl rfl (Nat.le_of_ble_eq_true rfl) rfl rfl rfl ?_
      refine gv_B ok_MO_occurs 3 rfl ?_
      by_cases c12 : ¬ (μ10 70 40) = 0
      · rw [if_pos c12] at h
        refine gv_brT c12 ?_
        refine gv_B ok_MO_occurs 4 rfl ?_
        by_cases c13 : ¬ (μ10 70 40) = 3
        · rw [if_pos c13] at h
          refine gv_brT c13 ?_
          exact ih h KJ
        · rw [if_neg c13] at h
          refine gv_brF c13 ?_
          refine gv_B ok_MO_occurs 4 rfl ?_
          obtain ⟨v14, e15, h⟩ := b1_e h
          refine hp_rd ok_MO_occurs rfl rfl e15 ?_
          refine gv_B ok_MO_occurs 3 rfl ?_
          by_cases c16 : v14 = (μ10 70 34)
          · rw [if_pos c16] at h
            refine gv_brT c16 ?_
            exact ih h KJ
          · rw [if_neg c16] at h
            refine gv_brF c16 ?_
            refine gv_B ok_MO_occurs 6 rfl ?_
            obtain ⟨μ17, e18, h⟩ := b1_e h
            refine hp_wr ok_MO_occurs rfl rfl rfl rfl e18 ?_
            refine gv_B ok_MO_occurs 3 rfl ?_
            obtain ⟨μ21, e20, h⟩ := b1_e h
            refine gv_Vc ok_MO_occurs rfl mk_MO_pushArguments rfl (t_MO_pushArguments (d := d) e20) rfl rfl (Nat.le_of_ble_eq_true rfl) rfl rfl rfl ?_
            refine gv_B ok_MO_occurs 1 rfl ?_
            exact ih h KJ
      · rw [if_neg c12] at h
        refine gv_brF c12 ?_
        refine gv_B ok_MO_occurs 2 rfl ?_
        obtain ⟨v23, e24, h⟩ := b1_e h
        have K25 : gv_go G M_MO_occurs (d + 2) r hf 91 [some (gR 70), some (gI k1), none, none, some (gI k4), none] [gI v23] (hp n acc g cap μ10) := by
          refine gv_B ok_MO_occurs 2 rfl ?_
          exact ih h KJ
        clear h
        have h := e24
        clear e24
        by_cases c26 : ¬ y5 = 0
        · rw [if_pos c26] at h
          refine gv_brT c26 ?_
          refine gv_B ok_MO_occurs 2 rfl ?_
          have h9 := Option.some.inj h
          subst h9
          exact gv_fk K25 ⟨rfl, ⟨rfl, ⟨rfl, trivial⟩⟩⟩
        · rw [if_neg c26] at h
          refine gv_brF c26 ?_
          refine gv_B ok_MO_occurs 4 rfl ?_
          by_cases c27 : ¬ (μ10 70 41) = k1
          · rw [if_pos c27] at h
            refine gv_brT c27 ?_
            refine gv_B ok_MO_occurs 1 rfl ?_
            have h9 := Option.some.inj h
            subst h9
            exact gv_fk K25 ⟨rfl, ⟨rfl, ⟨rfl, trivial⟩⟩⟩
          · rw [if_neg c27] at h
            refine gv_brF c27 ?_
            refine gv_B ok_MO_occurs 2 rfl ?_
            have h9 := Option.some.inj h
            subst h9
            exact gv_fk K25 ⟨rfl, ⟨rfl, ⟨rfl, trivial⟩⟩⟩
theorem t_MO_occurs {x0 : Int32} {x1 : Int32} {x2 : Int32} {μ : Mu} {r : Int32} {μr : Mu} (h : f_MO_occurs x0 x1 x2 μ = some (r, μr)) : gv_ev G (d + 2) M_MO_occurs [gR 70, gI x0, gI x1, gI x2] (hp n acc g cap μ) (.inl (some (gI r))) (hp n acc g cap μr) := by
  unfold f_MO_occurs at h
  refine gv_E (ls := [some (gR 70), some (gI x0), some (gI x1), some (gI x2), none, none]) (by decide) (fun h => by cases h) (Nat.le_of_ble_eq_true rfl) rfl ?_
  refine gv_B ok_MO_occurs 8 rfl ?_
  refine hp_pf ok_MO_occurs rfl rfl rfl rfl rfl (Nat.le_of_ble_eq_true rfl) rfl ?_
  refine gv_B ok_MO_occurs 5 rfl ?_
  obtain ⟨μ2, e1, h⟩ := b1_e h
  refine gv_Vc ok_MO_occurs rfl mk_MO_push rfl (t_MO_push (d := d + 1) e1) rfl rfl (Nat.le_of_ble_eq_true rfl) rfl rfl rfl ?_
  obtain ⟨l28, μ29, e30, h⟩ := b2_e h
  have K31 : gv_go G M_MO_occurs (d + 2) (.inl (some (gI r))) (hp n acc g cap μr) 144 [none, none, none, none, none, some (gI l28)] [] (hp n acc g cap μ29) := by
    refine gv_B ok_MO_occurs 1 rfl ?_
    by_cases c33 : (l28 = 0 ∨ l28 = 1)
    · rw [if_pos c33] at h
      have j0 := Option.some.inj h
      obtain ⟨i1, j1⟩ := Prod.mk.inj j0
      subst i1
      subst j1
      exact gv_Rz ok_MO_occurs rfl rfl c33
    · rw [if_neg c33] at h
      cases h
  exact gv_fk (t_MO_occurs_25 _ e30 K31) ⟨rfl, ⟨rfl, ⟨rfl, ⟨rfl, trivial⟩⟩⟩⟩
def f_MO_bind (x0 : Int32) (x1 : Int32) (x2 : Int32) (μ : Mu) : Option (Mu) :=
  (b1 (wr μ 76 240 x0 x1) fun μ1 =>
  b1 (wr μ1 77 240 x0 x2) fun μ4 =>
  b1 (wr μ4 86 2600 (μ4 70 23) x0) fun μ7 =>
  some ((sI μ7 70 23 ((μ7 70 23) + 1))))
theorem t_MO_bind {x0 : Int32} {x1 : Int32} {x2 : Int32} {μ : Mu} {μr : Mu} (h : f_MO_bind x0 x1 x2 μ = some (μr)) : gv_ev G (d + 0) M_MO_bind [gR 70, gI x0, gI x1, gI x2] (hp n acc g cap μ) (.inl none) (hp n acc g cap μr) := by
  unfold f_MO_bind at h
  refine gv_E (ls := [some (gR 70), some (gI x0), some (gI x1), some (gI x2)]) (by decide) (fun h => by cases h) (Nat.le_of_ble_eq_true rfl) rfl ?_
  refine gv_B ok_MO_bind 4 rfl ?_
  obtain ⟨μ1, e2, h⟩ := b1_e h
  refine hp_wr ok_MO_bind rfl rfl rfl rfl e2 ?_
  refine gv_B ok_MO_bind 4 rfl ?_
  obtain ⟨μ4, e5, h⟩ := b1_e h
  refine hp_wr ok_MO_bind rfl rfl rfl rfl e5 ?_
  refine gv_B ok_MO_bind 5 rfl ?_
  obtain ⟨μ7, e8, h⟩ := b1_e h
  refine hp_wr ok_MO_bind rfl rfl rfl rfl e8 ?_
  refine gv_B ok_MO_bind 5 rfl ?_
  refine hp_pf ok_MO_bind rfl rfl rfl rfl rfl (Nat.le_of_ble_eq_true rfl) rfl ?_
  have h9 := Option.some.inj h
  subst h9
  exact gv_Rv ok_MO_bind rfl rfl
def f_MO_pushPairs_13 (k1 : Int32) (k2 : Int32) : Nat → Int32 → Mu → Option (Mu)
  | 0, _, _ => none
  | f + 1, y3, μ =>
    (if y3 < 0 then
    some (μ)
    else
    (b1 (rd (μ 79) 720 ((3 * k1) + y3)) fun v6 =>
    b1 (rd (μ 79) 720 ((3 * k2) + y3)) fun v8 =>
    b1 (rd (μ 76) 240 v8) fun v10 =>
    b1 (rd (μ 77) 240 v8) fun v12 =>
    b1 (f_MO_push v10 v12 μ) fun μ15 =>
    b1 (rd (μ15 76) 240 v6) fun v17 =>
    b1 (rd (μ15 77) 240 v6) fun v19 =>
    b1 (f_MO_push v17 v19 μ15) fun μ22 =>
    f_MO_pushPairs_13 k1 k2 f (y3 + (-1)) μ22))
def f_MO_pushPairs (x0 : Int32) (x1 : Int32) (μ : Mu) : Option (Mu) :=
  (b1 (rd (μ 78) 240 x0) fun v1 =>
  b1 (f_MO_arity v1 μ) fun v4 =>
  b1 (f_MO_pushPairs_13 x0 x1 fu (v4 - 1) μ) fun μ24 =>
  some (μ24))
theorem t_MO_pushPairs_13 {r : gv_O} {hf : gv_H} {k1 : Int32} {k2 : Int32} (fl : Nat) : ∀ {y3 : Int32} {μ : Mu} {μz : Mu}, f_MO_pushPairs_13 k1 k2 fl y3 μ = some (μz) → gv_go G M_MO_pushPairs (d + 1) r hf 83 [none, none, none, none, none, none] [] (hp n acc g cap μz) → gv_go G M_MO_pushPairs (d + 1) r hf 13 [some (gR 70), some (gI k1), some (gI k2), some (gI y3), none, none] [] (hp n acc g cap μ) := by
  induction fl with
  | zero => intro _ _ _ h _; cases h
  | succ f ih =>
    intro y3 μ μz h KJ
    unfold f_MO_pushPairs_13 at h
    refine gv_B ok_MO_pushPairs 2 rfl ?_
    by_cases c5 : y3 < 0
    · rw [if_pos c5] at h
      refine gv_brT c5 ?_
      have h9 := Option.some.inj h
      subst h9
      exact gv_fk KJ trivial
    · rw [if_neg c5] at h
      refine gv_brF c5 ?_
      refine gv_B ok_MO_pushPairs 7 rfl ?_
      obtain ⟨v6, e7, h⟩ := b1_e h
      refine hp_rd ok_MO_pushPairs rfl rfl e7 ?_
      refine gv_B ok_MO_pushPairs 8 rfl ?_
      obtain ⟨v8, e9, h⟩ := b1_e h
      refine hp_rd ok_MO_pushPairs rfl rfl e9 ?_
      refine gv_B ok_MO_pushPairs 5 rfl ?_
      obtain ⟨v10, e11, h⟩ := b1_e h
      refine hp_rd ok_MO_pushPairs rfl rfl e11 ?_
      refine gv_B ok_MO_pushPairs 3 rfl ?_
      obtain ⟨v12, e13, h⟩ := b1_e h
      refine hp_rd ok_MO_pushPairs rfl rfl e13 ?_
      obtain ⟨μ15, e14, h⟩ := b1_e h
      refine gv_Vc ok_MO_pushPairs rfl mk_MO_push rfl (t_MO_push (d := d) e14) rfl rfl (Nat.le_of_ble_eq_true rfl) rfl rfl rfl ?_
      refine gv_B ok_MO_pushPairs 4 rfl ?_
      obtain ⟨v17, e18, h⟩ := b1_e h
      refine hp_rd ok_MO_pushPairs rfl rfl e18 ?_
      refine gv_B ok_MO_pushPairs 3 rfl ?_
      obtain ⟨v19, e20, h⟩ := b1_e h
      refine hp_rd ok_MO_pushPairs rfl rfl e20 ?_
      obtain ⟨μ22, e21, h⟩ := b1_e h
      refine gv_Vc ok_MO_pushPairs rfl mk_MO_push rfl (t_MO_push (d := d) e21) rfl rfl (Nat.le_of_ble_eq_true rfl) rfl rfl rfl ?_
      refine gv_B ok_MO_pushPairs 2 rfl ?_
      exact gv_fk (ih h KJ) ⟨rfl, ⟨rfl, ⟨rfl, ⟨rfl, trivial⟩⟩⟩⟩
theorem t_MO_pushPairs {x0 : Int32} {x1 : Int32} {μ : Mu} {μr : Mu} (h : f_MO_pushPairs x0 x1 μ = some (μr)) : gv_ev G (d + 1) M_MO_pushPairs [gR 70, gI x0, gI x1] (hp n acc g cap μ) (.inl none) (hp n acc g cap μr) := by
  unfold f_MO_pushPairs at h
  refine gv_E (ls := [some (gR 70), some (gI x0), some (gI x1), none, none, none]) (by decide) (fun h => by cases h) (Nat.le_of_ble_eq_true rfl) rfl ?_
  refine gv_B ok_MO_pushPairs 4 rfl ?_
  obtain ⟨v1, e2, h⟩ := b1_e h
  refine hp_rd ok_MO_pushPairs rfl rfl e2 ?_
  obtain ⟨v4, e3, h⟩ := b1_e h
  refine gv_Vc ok_MO_pushPairs rfl mk_MO_arity rfl (t_MO_arity (d := d) e3) rfl rfl (Nat.le_of_ble_eq_true rfl) rfl rfl rfl ?_
  refine gv_B ok_MO_pushPairs 3 rfl ?_
  obtain ⟨μ24, e25, h⟩ := b1_e h
  have K26 : gv_go G M_MO_pushPairs (d + 1) (.inl none) (hp n acc g cap μr) 83 [none, none, none, none, none, none] [] (hp n acc g cap μ24) := by
    have h9 := Option.some.inj h
    subst h9
    exact gv_Rv ok_MO_pushPairs rfl rfl
  exact t_MO_pushPairs_13 _ e25 K26
def f_MO_meet (x0 : Int32) (x1 : Int32) (x2 : Int32) (x3 : Int32) (μ : Mu) : Option (Mu) :=
  (if ¬ x0 = 0 then
  (if x0 = 0 then
  (b1 (if ¬ x0 = 0 then
  some (x3)
  else
  some (x1)) fun v3 =>
  b1 (if ¬ x0 = 0 then
  some (x0)
  else
  some (x2)) fun v7 =>
  b1 (if ¬ x0 = 0 then
  some (x1)
  else
  some (x3)) fun v11 =>
  b2 (f_MO_occurs v3 v7 v11 μ) fun v16 μ17 =>
  b1 (if v16 = 0 then
  (b1 (f_MO_bind v3 v7 v11 μ17) fun μ24 =>
  some (μ24))
  else
  some ((sI μ17 70 49 1))) fun μ19 =>
  some (μ19))
  else
  (if ¬ x2 = 0 then
  (if ¬ x0 = x2 then
  some ((sI μ 70 49 1))
  else
  (if x0 = 3 then
  (if ¬ x0 = 3 then
  (if ¬ x0 = 3 then
  some (μ)
  else
  (b1 (f_MO_pushPairs x1 x3 μ) fun μ33 =>
  some (μ33)))
  else
  (b1 (rd (μ 78) 240 x1) fun v35 =>
  b1 (rd (μ 78) 240 x3) fun v37 =>
  if v35 = v37 then
  (if ¬ x0 = 3 then
  some (μ)
  else
  (b1 (f_MO_pushPairs x1 x3 μ) fun μ42 =>
  some (μ42)))
  else
  some ((sI μ 70 49 1))))
  else
  (if ¬ x1 = x3 then
  some ((sI μ 70 49 1))
  else
  (if ¬ x0 = 3 then
  (if ¬ x0 = 3 then
  some (μ)
  else
  (b1 (f_MO_pushPairs x1 x3 μ) fun μ48 =>
  some (μ48)))
  else
  (b1 (rd (μ 78) 240 x1) fun v50 =>
  b1 (rd (μ 78) 240 x3) fun v52 =>
  if v50 = v52 then
  (if ¬ x0 = 3 then
  some (μ)
  else
  (b1 (f_MO_pushPairs x1 x3 μ) fun μ57 =>
  some (μ57)))
  else
  some ((sI μ 70 49 1)))))))
  else
  (b1 (if ¬ x0 = 0 then
  some (x3)
  else
  some (x1)) fun v59 =>
  b1 (if ¬ x0 = 0 then
  some (x0)
  else
  some (x2)) fun v63 =>
  b1 (if ¬ x0 = 0 then
  some (x1)
  else
  some (x3)) fun v67 =>
  b2 (f_MO_occurs v59 v63 v67 μ) fun v72 μ73 =>
  b1 (if v72 = 0 then
  (b1 (f_MO_bind v59 v63 v67 μ73) fun μ80 =>
  some (μ80))
  else
  some ((sI μ73 70 49 1))) fun μ75 =>
  some (μ75))))
  else
  (if ¬ x2 = 0 then
  (if x0 = 0 then
  (b1 (if ¬ x0 = 0 then
  some (x3)
  else
  some (x1)) fun v85 =>
  b1 (if ¬ x0 = 0 then
  some (x0)
  else
  some (x2)) fun v89 =>
  b1 (if ¬ x0 = 0 then
  some (x1)
  else
  some (x3)) fun v93 =>
  b2 (f_MO_occurs v85 v89 v93 μ) fun v98 μ99 =>
  b1 (if v98 = 0 then
  (b1 (f_MO_bind v85 v89 v93 μ99) fun μ106 =>
  some (μ106))
  else
  some ((sI μ99 70 49 1))) fun μ101 =>
  some (μ101))
  else
  (if ¬ x2 = 0 then
  (if ¬ x0 = x2 then
  some ((sI μ 70 49 1))
  else
  (if x0 = 3 then
  (if ¬ x0 = 3 then
  (if ¬ x0 = 3 then
  some (μ)
  else
  (b1 (f_MO_pushPairs x1 x3 μ) fun μ115 =>
  some (μ115)))
  else
  (b1 (rd (μ 78) 240 x1) fun v117 =>
  b1 (rd (μ 78) 240 x3) fun v119 =>
  if v117 = v119 then
  (if ¬ x0 = 3 then
  some (μ)
  else
  (b1 (f_MO_pushPairs x1 x3 μ) fun μ124 =>
  some (μ124)))
  else
  some ((sI μ 70 49 1))))
  else
  (if ¬ x1 = x3 then
  some ((sI μ 70 49 1))
  else
  (if ¬ x0 = 3 then
  (if ¬ x0 = 3 then
  some (μ)
  else
  (b1 (f_MO_pushPairs x1 x3 μ) fun μ130 =>
  some (μ130)))
  else
  (b1 (rd (μ 78) 240 x1) fun v132 =>
  b1 (rd (μ 78) 240 x3) fun v134 =>
  if v132 = v134 then
  (if ¬ x0 = 3 then
  some (μ)
  else
  (b1 (f_MO_pushPairs x1 x3 μ) fun μ139 =>
  some (μ139)))
  else
  some ((sI μ 70 49 1)))))))
  else
  (b1 (if ¬ x0 = 0 then
  some (x3)
  else
  some (x1)) fun v141 =>
  b1 (if ¬ x0 = 0 then
  some (x0)
  else
  some (x2)) fun v145 =>
  b1 (if ¬ x0 = 0 then
  some (x1)
  else
  some (x3)) fun v149 =>
  b2 (f_MO_occurs v141 v145 v149 μ) fun v154 μ155 =>
  b1 (if v154 = 0 then
  (b1 (f_MO_bind v141 v145 v149 μ155) fun μ162 =>
  some (μ162))
  else
  some ((sI μ155 70 49 1))) fun μ157 =>
  some (μ157))))
  else
  (if x1 = x3 then
  some (μ)
  else
  (b1 (rd (μ 75) 240 x1) fun v166 =>
  b1 (rd (μ 75) 240 x3) fun v168 =>
  b1 (if v166 ≤ v168 then
  some ((0 : Int32))
  else
  some ((1 : Int32))) fun v170 =>
  b1 (if v170 = 0 then
  some (x3)
  else
  some (x1)) fun v174 =>
  b1 (if v170 = 0 then
  some (x1)
  else
  some (x3)) fun v178 =>
  b1 (f_MO_bind v174 0 v178 μ) fun μ183 =>
  some (μ183)))))
theorem t_MO_meet {x0 : Int32} {x1 : Int32} {x2 : Int32} {x3 : Int32} {μ : Mu} {μr : Mu} (h : f_MO_meet x0 x1 x2 x3 μ = some (μr)) : gv_ev G (d + 3) M_MO_meet [gR 70, gI x0, gI x1, gI x2, gI x3] (hp n acc g cap μ) (.inl none) (hp n acc g cap μr) := by
  unfold f_MO_meet at h
  refine gv_E (ls := [some (gR 70), some (gI x0), some (gI x1), some (gI x2), some (gI x3), none, none, none]) (by decide) (fun h => by cases h) (Nat.le_of_ble_eq_true rfl) rfl ?_
  refine gv_B ok_MO_meet 2 rfl ?_
  by_cases c1 : ¬ x0 = 0
  · rw [if_pos c1] at h
    refine gv_brT c1 ?_
    refine gv_B ok_MO_meet 2 rfl ?_
    by_cases c2 : x0 = 0
    · rw [if_pos c2] at h
      refine gv_brT c2 ?_
      refine gv_B ok_MO_meet 2 rfl ?_
      obtain ⟨v3, e4, h⟩ := b1_e h
      have K5 : gv_go G M_MO_meet (d + 3) (.inl none) (hp n acc g cap μr) 85 [some (gR 70), some (gI x0), some (gI x1), some (gI x2), some (gI x3), none, none, none] [gI v3] (hp n acc g cap μ) := by
        refine gv_B ok_MO_meet 3 rfl ?_
        obtain ⟨v7, e8, h⟩ := b1_e h
        have K9 : gv_go G M_MO_meet (d + 3) (.inl none) (hp n acc g cap μr) 96 [some (gR 70), some (gI x0), some (gI x1), none, some (gI x3), some (gI v3), none, none] [gI v7] (hp n acc g cap μ) := by
          refine gv_B ok_MO_meet 3 rfl ?_
          obtain ⟨v11, e12, h⟩ := b1_e h
          have K13 : gv_go G M_MO_meet (d + 3) (.inl none) (hp n acc g cap μr) 108 [some (gR 70), none, none, none, none, some (gI v3), some (gI v7), none] [gI v11] (hp n acc g cap μ) := by
            refine gv_B ok_MO_meet 5 rfl ?_
            obtain ⟨v16, μ17, e15, h⟩ := b2_e h
            refine gv_Vc ok_MO_meet rfl mk_MO_occurs rfl (t_MO_occurs (d := d) e15) rfl rfl (Nat.le_of_ble_eq_true rfl) rfl rfl rfl ?_
            refine gv_B ok_MO_meet 1 rfl ?_
            obtain ⟨μ19, e20, h⟩ := b1_e h
            have K21 : gv_go G M_MO_meet (d + 3) (.inl none) (hp n acc g cap μr) 141 [none, none, none, none, none, none, none, none] [] (hp n acc g cap μ19) := by
              refine gv_B ok_MO_meet 1 rfl ?_
              have h9 := Option.some.inj h
              subst h9
              exact gv_Rv ok_MO_meet rfl rfl
            clear h
            have h := e20
            clear e20
            by_cases c22 : v16 = 0
            · rw [if_pos c22] at h
              refine gv_brT c22 ?_
              refine gv_B ok_MO_meet 4 rfl ?_
              obtain ⟨μ24, e23, h⟩ := b1_e h
              refine gv_Vc ok_MO_meet rfl mk_MO_bind rfl (t_MO_bind (d := d + 2) e23) rfl rfl (Nat.le_of_ble_eq_true rfl) rfl rfl rfl ?_
              have h9 := Option.some.inj h
              subst h9
              exact gv_fk K21 trivial
            · rw [if_neg c22] at h
              refine gv_brF c22 ?_
              refine gv_B ok_MO_meet 2 rfl ?_
              refine hp_pf ok_MO_meet rfl rfl rfl rfl rfl (Nat.le_of_ble_eq_true rfl) rfl ?_
              refine gv_B ok_MO_meet 1 rfl ?_
              have h9 := Option.some.inj h
              subst h9
              exact gv_fk K21 trivial
          clear h
          have h := e12
          clear e12
          by_cases c14 : ¬ x0 = 0
          · rw [if_pos c14] at h
            refine gv_brT c14 ?_
            refine gv_B ok_MO_meet 1 rfl ?_
            have h9 := Option.some.inj h
            subst h9
            exact gv_fk K13 ⟨rfl, ⟨rfl, ⟨rfl, trivial⟩⟩⟩
          · rw [if_neg c14] at h
            refine gv_brF c14 ?_
            refine gv_B ok_MO_meet 2 rfl ?_
            have h9 := Option.some.inj h
            subst h9
            exact gv_fk K13 ⟨rfl, ⟨rfl, ⟨rfl, trivial⟩⟩⟩
        clear h
        have h := e8
        clear e8
        by_cases c10 : ¬ x0 = 0
        · rw [if_pos c10] at h
          refine gv_brT c10 ?_
          refine gv_B ok_MO_meet 1 rfl ?_
          have h9 := Option.some.inj h
          subst h9
          exact gv_fk K9 ⟨rfl, ⟨rfl, ⟨rfl, ⟨rfl, ⟨rfl, trivial⟩⟩⟩⟩⟩
        · rw [if_neg c10] at h
          refine gv_brF c10 ?_
          refine gv_B ok_MO_meet 2 rfl ?_
          have h9 := Option.some.inj h
          subst h9
          exact gv_fk K9 ⟨rfl, ⟨rfl, ⟨rfl, ⟨rfl, ⟨rfl, trivial⟩⟩⟩⟩⟩
      clear h
      have h := e4
      clear e4
      by_cases c6 : ¬ x0 = 0
      · rw [if_pos c6] at h
        refine gv_brT c6 ?_
        refine gv_B ok_MO_meet 1 rfl ?_
        have h9 := Option.some.inj h
        subst h9
        exact K5
      · rw [if_neg c6] at h
        refine gv_brF c6 ?_
        refine gv_B ok_MO_meet 2 rfl ?_
        have h9 := Option.some.inj h
        subst h9
        exact K5
    · rw [if_neg c2] at h
      refine gv_brF c2 ?_
      refine gv_B ok_MO_meet 2 rfl ?_
      by_cases c27 : ¬ x2 = 0
      · rw [if_pos c27] at h
        refine gv_brT c27 ?_
        refine gv_B ok_MO_meet 3 rfl ?_
        by_cases c28 : ¬ x0 = x2
        · rw [if_pos c28] at h
          refine gv_brT c28 ?_
          refine gv_B ok_MO_meet 2 rfl ?_
          refine hp_pf ok_MO_meet rfl rfl rfl rfl rfl (Nat.le_of_ble_eq_true rfl) rfl ?_
          refine gv_B ok_MO_meet 1 rfl ?_
          have h9 := Option.some.inj h
          subst h9
          exact gv_Rv ok_MO_meet rfl rfl
        · rw [if_neg c28] at h
          refine gv_brF c28 ?_
          refine gv_B ok_MO_meet 3 rfl ?_
          by_cases c29 : x0 = 3
          · rw [if_pos c29] at h
            refine gv_brT c29 ?_
            refine gv_B ok_MO_meet 3 rfl ?_
            by_cases c30 : ¬ x0 = 3
            · rw [if_pos c30] at h
              refine gv_brT c30 ?_
              refine gv_B ok_MO_meet 3 rfl ?_
              by_cases c31 : ¬ x0 = 3
              · rw [if_pos c31] at h
                refine gv_brT c31 ?_
                have h9 := Option.some.inj h
                subst h9
                exact gv_Rv ok_MO_meet rfl rfl
              · rw [if_neg c31] at h
                refine gv_brF c31 ?_
                refine gv_B ok_MO_meet 3 rfl ?_
                obtain ⟨μ33, e32, h⟩ := b1_e h
                refine gv_Vc ok_MO_meet rfl mk_MO_pushPairs rfl (t_MO_pushPairs (d := d + 1) e32) rfl rfl (Nat.le_of_ble_eq_true rfl) rfl rfl rfl ?_
                have h9 := Option.some.inj h
                subst h9
                exact gv_Rv ok_MO_meet rfl rfl
            · rw [if_neg c30] at h
              refine gv_brF c30 ?_
              refine gv_B ok_MO_meet 3 rfl ?_
              obtain ⟨v35, e36, h⟩ := b1_e h
              refine hp_rd ok_MO_meet rfl rfl e36 ?_
              refine gv_B ok_MO_meet 3 rfl ?_
              obtain ⟨v37, e38, h⟩ := b1_e h
              refine hp_rd ok_MO_meet rfl rfl e38 ?_
              refine gv_B ok_MO_meet 1 rfl ?_
              by_cases c39 : v35 = v37
              · rw [if_pos c39] at h
                refine gv_brT c39 ?_
                refine gv_B ok_MO_meet 3 rfl ?_
                by_cases c40 : ¬ x0 = 3
                · rw [if_pos c40] at h
                  refine gv_brT c40 ?_
                  have h9 := Option.some.inj h
                  subst h9
                  exact gv_Rv ok_MO_meet rfl rfl
                · rw [if_neg c40] at h
                  refine gv_brF c40 ?_
                  refine gv_B ok_MO_meet 3 rfl ?_
                  obtain ⟨μ42, e41, h⟩ := b1_e h
                  refine gv_Vc ok_MO_meet rfl mk_MO_pushPairs rfl (t_MO_pushPairs (d := d + 1) e41) rfl rfl (Nat.le_of_ble_eq_true rfl) rfl rfl rfl ?_
                  have h9 := Option.some.inj h
                  subst h9
                  exact gv_Rv ok_MO_meet rfl rfl
              · rw [if_neg c39] at h
                refine gv_brF c39 ?_
                refine gv_B ok_MO_meet 2 rfl ?_
                refine hp_pf ok_MO_meet rfl rfl rfl rfl rfl (Nat.le_of_ble_eq_true rfl) rfl ?_
                refine gv_B ok_MO_meet 1 rfl ?_
                have h9 := Option.some.inj h
                subst h9
                exact gv_Rv ok_MO_meet rfl rfl
          · rw [if_neg c29] at h
            refine gv_brF c29 ?_
            refine gv_B ok_MO_meet 3 rfl ?_
            by_cases c44 : ¬ x1 = x3
            · rw [if_pos c44] at h
              refine gv_brT c44 ?_
              refine gv_B ok_MO_meet 2 rfl ?_
              refine hp_pf ok_MO_meet rfl rfl rfl rfl rfl (Nat.le_of_ble_eq_true rfl) rfl ?_
              refine gv_B ok_MO_meet 1 rfl ?_
              have h9 := Option.some.inj h
              subst h9
              exact gv_Rv ok_MO_meet rfl rfl
            · rw [if_neg c44] at h
              refine gv_brF c44 ?_
              refine gv_B ok_MO_meet 3 rfl ?_
              by_cases c45 : ¬ x0 = 3
              · rw [if_pos c45] at h
                refine gv_brT c45 ?_
                refine gv_B ok_MO_meet 3 rfl ?_
                by_cases c46 : ¬ x0 = 3
                · rw [if_pos c46] at h
                  refine gv_brT c46 ?_
                  have h9 := Option.some.inj h
                  subst h9
                  exact gv_Rv ok_MO_meet rfl rfl
                · rw [if_neg c46] at h
                  refine gv_brF c46 ?_
                  refine gv_B ok_MO_meet 3 rfl ?_
                  obtain ⟨μ48, e47, h⟩ := b1_e h
                  refine gv_Vc ok_MO_meet rfl mk_MO_pushPairs rfl (t_MO_pushPairs (d := d + 1) e47) rfl rfl (Nat.le_of_ble_eq_true rfl) rfl rfl rfl ?_
                  have h9 := Option.some.inj h
                  subst h9
                  exact gv_Rv ok_MO_meet rfl rfl
              · rw [if_neg c45] at h
                refine gv_brF c45 ?_
                refine gv_B ok_MO_meet 3 rfl ?_
                obtain ⟨v50, e51, h⟩ := b1_e h
                refine hp_rd ok_MO_meet rfl rfl e51 ?_
                refine gv_B ok_MO_meet 3 rfl ?_
                obtain ⟨v52, e53, h⟩ := b1_e h
                refine hp_rd ok_MO_meet rfl rfl e53 ?_
                refine gv_B ok_MO_meet 1 rfl ?_
                by_cases c54 : v50 = v52
                · rw [if_pos c54] at h
                  refine gv_brT c54 ?_
                  refine gv_B ok_MO_meet 3 rfl ?_
                  by_cases c55 : ¬ x0 = 3
                  · rw [if_pos c55] at h
                    refine gv_brT c55 ?_
                    have h9 := Option.some.inj h
                    subst h9
                    exact gv_Rv ok_MO_meet rfl rfl
                  · rw [if_neg c55] at h
                    refine gv_brF c55 ?_
                    refine gv_B ok_MO_meet 3 rfl ?_
                    obtain ⟨μ57, e56, h⟩ := b1_e h
                    refine gv_Vc ok_MO_meet rfl mk_MO_pushPairs rfl (t_MO_pushPairs (d := d + 1) e56) rfl rfl (Nat.le_of_ble_eq_true rfl) rfl rfl rfl ?_
                    have h9 := Option.some.inj h
                    subst h9
                    exact gv_Rv ok_MO_meet rfl rfl
                · rw [if_neg c54] at h
                  refine gv_brF c54 ?_
                  refine gv_B ok_MO_meet 2 rfl ?_
                  refine hp_pf ok_MO_meet rfl rfl rfl rfl rfl (Nat.le_of_ble_eq_true rfl) rfl ?_
                  refine gv_B ok_MO_meet 1 rfl ?_
                  have h9 := Option.some.inj h
                  subst h9
                  exact gv_Rv ok_MO_meet rfl rfl
      · rw [if_neg c27] at h
        refine gv_brF c27 ?_
        refine gv_B ok_MO_meet 2 rfl ?_
        obtain ⟨v59, e60, h⟩ := b1_e h
        have K61 : gv_go G M_MO_meet (d + 3) (.inl none) (hp n acc g cap μr) 85 [some (gR 70), some (gI x0), some (gI x1), some (gI x2), some (gI x3), none, none, none] [gI v59] (hp n acc g cap μ) := by
          refine gv_B ok_MO_meet 3 rfl ?_
          obtain ⟨v63, e64, h⟩ := b1_e h
          have K65 : gv_go G M_MO_meet (d + 3) (.inl none) (hp n acc g cap μr) 96 [some (gR 70), some (gI x0), some (gI x1), none, some (gI x3), some (gI v59), none, none] [gI v63] (hp n acc g cap μ) := by
            refine gv_B ok_MO_meet 3 rfl ?_
            obtain ⟨v67, e68, h⟩ := b1_e h
            have K69 : gv_go G M_MO_meet (d + 3) (.inl none) (hp n acc g cap μr) 108 [some (gR 70), none, none, none, none, some (gI v59), some (gI v63), none] [gI v67] (hp n acc g cap μ) := by
              refine gv_B ok_MO_meet 5 rfl ?_
              obtain ⟨v72, μ73, e71, h⟩ := b2_e h
              refine gv_Vc ok_MO_meet rfl mk_MO_occurs rfl (t_MO_occurs (d := d) e71) rfl rfl (Nat.le_of_ble_eq_true rfl) rfl rfl rfl ?_
              refine gv_B ok_MO_meet 1 rfl ?_
              obtain ⟨μ75, e76, h⟩ := b1_e h
              have K77 : gv_go G M_MO_meet (d + 3) (.inl none) (hp n acc g cap μr) 141 [none, none, none, none, none, none, none, none] [] (hp n acc g cap μ75) := by
                refine gv_B ok_MO_meet 1 rfl ?_
                have h9 := Option.some.inj h
                subst h9
                exact gv_Rv ok_MO_meet rfl rfl
              clear h
              have h := e76
              clear e76
              by_cases c78 : v72 = 0
              · rw [if_pos c78] at h
                refine gv_brT c78 ?_
                refine gv_B ok_MO_meet 4 rfl ?_
                obtain ⟨μ80, e79, h⟩ := b1_e h
                refine gv_Vc ok_MO_meet rfl mk_MO_bind rfl (t_MO_bind (d := d + 2) e79) rfl rfl (Nat.le_of_ble_eq_true rfl) rfl rfl rfl ?_
                have h9 := Option.some.inj h
                subst h9
                exact gv_fk K77 trivial
              · rw [if_neg c78] at h
                refine gv_brF c78 ?_
                refine gv_B ok_MO_meet 2 rfl ?_
                refine hp_pf ok_MO_meet rfl rfl rfl rfl rfl (Nat.le_of_ble_eq_true rfl) rfl ?_
                refine gv_B ok_MO_meet 1 rfl ?_
                have h9 := Option.some.inj h
                subst h9
                exact gv_fk K77 trivial
            clear h
            have h := e68
            clear e68
            by_cases c70 : ¬ x0 = 0
            · rw [if_pos c70] at h
              refine gv_brT c70 ?_
              refine gv_B ok_MO_meet 1 rfl ?_
              have h9 := Option.some.inj h
              subst h9
              exact gv_fk K69 ⟨rfl, ⟨rfl, ⟨rfl, trivial⟩⟩⟩
            · rw [if_neg c70] at h
              refine gv_brF c70 ?_
              refine gv_B ok_MO_meet 2 rfl ?_
              have h9 := Option.some.inj h
              subst h9
              exact gv_fk K69 ⟨rfl, ⟨rfl, ⟨rfl, trivial⟩⟩⟩
          clear h
          have h := e64
          clear e64
          by_cases c66 : ¬ x0 = 0
          · rw [if_pos c66] at h
            refine gv_brT c66 ?_
            refine gv_B ok_MO_meet 1 rfl ?_
            have h9 := Option.some.inj h
            subst h9
            exact gv_fk K65 ⟨rfl, ⟨rfl, ⟨rfl, ⟨rfl, ⟨rfl, trivial⟩⟩⟩⟩⟩
          · rw [if_neg c66] at h
            refine gv_brF c66 ?_
            refine gv_B ok_MO_meet 2 rfl ?_
            have h9 := Option.some.inj h
            subst h9
            exact gv_fk K65 ⟨rfl, ⟨rfl, ⟨rfl, ⟨rfl, ⟨rfl, trivial⟩⟩⟩⟩⟩
        clear h
        have h := e60
        clear e60
        by_cases c62 : ¬ x0 = 0
        · rw [if_pos c62] at h
          refine gv_brT c62 ?_
          refine gv_B ok_MO_meet 1 rfl ?_
          have h9 := Option.some.inj h
          subst h9
          exact K61
        · rw [if_neg c62] at h
          refine gv_brF c62 ?_
          refine gv_B ok_MO_meet 2 rfl ?_
          have h9 := Option.some.inj h
          subst h9
          exact K61
  · rw [if_neg c1] at h
    refine gv_brF c1 ?_
    refine gv_B ok_MO_meet 2 rfl ?_
    by_cases c83 : ¬ x2 = 0
    · rw [if_pos c83] at h
      refine gv_brT c83 ?_
      refine gv_B ok_MO_meet 2 rfl ?_
      by_cases c84 : x0 = 0
      · rw [if_pos c84] at h
        refine gv_brT c84 ?_
        refine gv_B ok_MO_meet 2 rfl ?_
        obtain ⟨v85, e86, h⟩ := b1_e h
        have K87 : gv_go G M_MO_meet (d + 3) (.inl none) (hp n acc g cap μr) 85 [some (gR 70), some (gI x0), some (gI x1), some (gI x2), some (gI x3), none, none, none] [gI v85] (hp n acc g cap μ) := by
          refine gv_B ok_MO_meet 3 rfl ?_
          obtain ⟨v89, e90, h⟩ := b1_e h
          have K91 : gv_go G M_MO_meet (d + 3) (.inl none) (hp n acc g cap μr) 96 [some (gR 70), some (gI x0), some (gI x1), none, some (gI x3), some (gI v85), none, none] [gI v89] (hp n acc g cap μ) := by
            refine gv_B ok_MO_meet 3 rfl ?_
            obtain ⟨v93, e94, h⟩ := b1_e h
            have K95 : gv_go G M_MO_meet (d + 3) (.inl none) (hp n acc g cap μr) 108 [some (gR 70), none, none, none, none, some (gI v85), some (gI v89), none] [gI v93] (hp n acc g cap μ) := by
              refine gv_B ok_MO_meet 5 rfl ?_
              obtain ⟨v98, μ99, e97, h⟩ := b2_e h
              refine gv_Vc ok_MO_meet rfl mk_MO_occurs rfl (t_MO_occurs (d := d) e97) rfl rfl (Nat.le_of_ble_eq_true rfl) rfl rfl rfl ?_
              refine gv_B ok_MO_meet 1 rfl ?_
              obtain ⟨μ101, e102, h⟩ := b1_e h
              have K103 : gv_go G M_MO_meet (d + 3) (.inl none) (hp n acc g cap μr) 141 [none, none, none, none, none, none, none, none] [] (hp n acc g cap μ101) := by
                refine gv_B ok_MO_meet 1 rfl ?_
                have h9 := Option.some.inj h
                subst h9
                exact gv_Rv ok_MO_meet rfl rfl
              clear h
              have h := e102
              clear e102
              by_cases c104 : v98 = 0
              · rw [if_pos c104] at h
                refine gv_brT c104 ?_
                refine gv_B ok_MO_meet 4 rfl ?_
                obtain ⟨μ106, e105, h⟩ := b1_e h
                refine gv_Vc ok_MO_meet rfl mk_MO_bind rfl (t_MO_bind (d := d + 2) e105) rfl rfl (Nat.le_of_ble_eq_true rfl) rfl rfl rfl ?_
                have h9 := Option.some.inj h
                subst h9
                exact gv_fk K103 trivial
              · rw [if_neg c104] at h
                refine gv_brF c104 ?_
                refine gv_B ok_MO_meet 2 rfl ?_
                refine hp_pf ok_MO_meet rfl rfl rfl rfl rfl (Nat.le_of_ble_eq_true rfl) rfl ?_
                refine gv_B ok_MO_meet 1 rfl ?_
                have h9 := Option.some.inj h
                subst h9
                exact gv_fk K103 trivial
            clear h
            have h := e94
            clear e94
            by_cases c96 : ¬ x0 = 0
            · rw [if_pos c96] at h
              refine gv_brT c96 ?_
              refine gv_B ok_MO_meet 1 rfl ?_
              have h9 := Option.some.inj h
              subst h9
              exact gv_fk K95 ⟨rfl, ⟨rfl, ⟨rfl, trivial⟩⟩⟩
            · rw [if_neg c96] at h
              refine gv_brF c96 ?_
              refine gv_B ok_MO_meet 2 rfl ?_
              have h9 := Option.some.inj h
              subst h9
              exact gv_fk K95 ⟨rfl, ⟨rfl, ⟨rfl, trivial⟩⟩⟩
          clear h
          have h := e90
          clear e90
          by_cases c92 : ¬ x0 = 0
          · rw [if_pos c92] at h
            refine gv_brT c92 ?_
            refine gv_B ok_MO_meet 1 rfl ?_
            have h9 := Option.some.inj h
            subst h9
            exact gv_fk K91 ⟨rfl, ⟨rfl, ⟨rfl, ⟨rfl, ⟨rfl, trivial⟩⟩⟩⟩⟩
          · rw [if_neg c92] at h
            refine gv_brF c92 ?_
            refine gv_B ok_MO_meet 2 rfl ?_
            have h9 := Option.some.inj h
            subst h9
            exact gv_fk K91 ⟨rfl, ⟨rfl, ⟨rfl, ⟨rfl, ⟨rfl, trivial⟩⟩⟩⟩⟩
        clear h
        have h := e86
        clear e86
        by_cases c88 : ¬ x0 = 0
        · rw [if_pos c88] at h
          refine gv_brT c88 ?_
          refine gv_B ok_MO_meet 1 rfl ?_
          have h9 := Option.some.inj h
          subst h9
          exact K87
        · rw [if_neg c88] at h
          refine gv_brF c88 ?_
          refine gv_B ok_MO_meet 2 rfl ?_
          have h9 := Option.some.inj h
          subst h9
          exact K87
      · rw [if_neg c84] at h
        refine gv_brF c84 ?_
        refine gv_B ok_MO_meet 2 rfl ?_
        by_cases c109 : ¬ x2 = 0
        · rw [if_pos c109] at h
          refine gv_brT c109 ?_
          refine gv_B ok_MO_meet 3 rfl ?_
          by_cases c110 : ¬ x0 = x2
          · rw [if_pos c110] at h
            refine gv_brT c110 ?_
            refine gv_B ok_MO_meet 2 rfl ?_
            refine hp_pf ok_MO_meet rfl rfl rfl rfl rfl (Nat.le_of_ble_eq_true rfl) rfl ?_
            refine gv_B ok_MO_meet 1 rfl ?_
            have h9 := Option.some.inj h
            subst h9
            exact gv_Rv ok_MO_meet rfl rfl
          · rw [if_neg c110] at h
            refine gv_brF c110 ?_
            refine gv_B ok_MO_meet 3 rfl ?_
            by_cases c111 : x0 = 3
            · rw [if_pos c111] at h
              refine gv_brT c111 ?_
              refine gv_B ok_MO_meet 3 rfl ?_
              by_cases c112 : ¬ x0 = 3
              · rw [if_pos c112] at h
                refine gv_brT c112 ?_
                refine gv_B ok_MO_meet 3 rfl ?_
                by_cases c113 : ¬ x0 = 3
                · rw [if_pos c113] at h
                  refine gv_brT c113 ?_
                  have h9 := Option.some.inj h
                  subst h9
                  exact gv_Rv ok_MO_meet rfl rfl
                · rw [if_neg c113] at h
                  refine gv_brF c113 ?_
                  refine gv_B ok_MO_meet 3 rfl ?_
                  obtain ⟨μ115, e114, h⟩ := b1_e h
                  refine gv_Vc ok_MO_meet rfl mk_MO_pushPairs rfl (t_MO_pushPairs (d := d + 1) e114) rfl rfl (Nat.le_of_ble_eq_true rfl) rfl rfl rfl ?_
                  have h9 := Option.some.inj h
                  subst h9
                  exact gv_Rv ok_MO_meet rfl rfl
              · rw [if_neg c112] at h
                refine gv_brF c112 ?_
                refine gv_B ok_MO_meet 3 rfl ?_
                obtain ⟨v117, e118, h⟩ := b1_e h
                refine hp_rd ok_MO_meet rfl rfl e118 ?_
                refine gv_B ok_MO_meet 3 rfl ?_
                obtain ⟨v119, e120, h⟩ := b1_e h
                refine hp_rd ok_MO_meet rfl rfl e120 ?_
                refine gv_B ok_MO_meet 1 rfl ?_
                by_cases c121 : v117 = v119
                · rw [if_pos c121] at h
                  refine gv_brT c121 ?_
                  refine gv_B ok_MO_meet 3 rfl ?_
                  by_cases c122 : ¬ x0 = 3
                  · rw [if_pos c122] at h
                    refine gv_brT c122 ?_
                    have h9 := Option.some.inj h
                    subst h9
                    exact gv_Rv ok_MO_meet rfl rfl
                  · rw [if_neg c122] at h
                    refine gv_brF c122 ?_
                    refine gv_B ok_MO_meet 3 rfl ?_
                    obtain ⟨μ124, e123, h⟩ := b1_e h
                    refine gv_Vc ok_MO_meet rfl mk_MO_pushPairs rfl (t_MO_pushPairs (d := d + 1) e123) rfl rfl (Nat.le_of_ble_eq_true rfl) rfl rfl rfl ?_
                    have h9 := Option.some.inj h
                    subst h9
                    exact gv_Rv ok_MO_meet rfl rfl
                · rw [if_neg c121] at h
                  refine gv_brF c121 ?_
                  refine gv_B ok_MO_meet 2 rfl ?_
                  refine hp_pf ok_MO_meet rfl rfl rfl rfl rfl (Nat.le_of_ble_eq_true rfl) rfl ?_
                  refine gv_B ok_MO_meet 1 rfl ?_
                  have h9 := Option.some.inj h
                  subst h9
                  exact gv_Rv ok_MO_meet rfl rfl
            · rw [if_neg c111] at h
              refine gv_brF c111 ?_
              refine gv_B ok_MO_meet 3 rfl ?_
              by_cases c126 : ¬ x1 = x3
              · rw [if_pos c126] at h
                refine gv_brT c126 ?_
                refine gv_B ok_MO_meet 2 rfl ?_
                refine hp_pf ok_MO_meet rfl rfl rfl rfl rfl (Nat.le_of_ble_eq_true rfl) rfl ?_
                refine gv_B ok_MO_meet 1 rfl ?_
                have h9 := Option.some.inj h
                subst h9
                exact gv_Rv ok_MO_meet rfl rfl
              · rw [if_neg c126] at h
                refine gv_brF c126 ?_
                refine gv_B ok_MO_meet 3 rfl ?_
                by_cases c127 : ¬ x0 = 3
                · rw [if_pos c127] at h
                  refine gv_brT c127 ?_
                  refine gv_B ok_MO_meet 3 rfl ?_
                  by_cases c128 : ¬ x0 = 3
                  · rw [if_pos c128] at h
                    refine gv_brT c128 ?_
                    have h9 := Option.some.inj h
                    subst h9
                    exact gv_Rv ok_MO_meet rfl rfl
                  · rw [if_neg c128] at h
                    refine gv_brF c128 ?_
                    refine gv_B ok_MO_meet 3 rfl ?_
                    obtain ⟨μ130, e129, h⟩ := b1_e h
                    refine gv_Vc ok_MO_meet rfl mk_MO_pushPairs rfl (t_MO_pushPairs (d := d + 1) e129) rfl rfl (Nat.le_of_ble_eq_true rfl) rfl rfl rfl ?_
                    have h9 := Option.some.inj h
                    subst h9
                    exact gv_Rv ok_MO_meet rfl rfl
                · rw [if_neg c127] at h
                  refine gv_brF c127 ?_
                  refine gv_B ok_MO_meet 3 rfl ?_
                  obtain ⟨v132, e133, h⟩ := b1_e h
                  refine hp_rd ok_MO_meet rfl rfl e133 ?_
                  refine gv_B ok_MO_meet 3 rfl ?_
                  obtain ⟨v134, e135, h⟩ := b1_e h
                  refine hp_rd ok_MO_meet rfl rfl e135 ?_
                  refine gv_B ok_MO_meet 1 rfl ?_
                  by_cases c136 : v132 = v134
                  · rw [if_pos c136] at h
                    refine gv_brT c136 ?_
                    refine gv_B ok_MO_meet 3 rfl ?_
                    by_cases c137 : ¬ x0 = 3
                    · rw [if_pos c137] at h
                      refine gv_brT c137 ?_
                      have h9 := Option.some.inj h
                      subst h9
                      exact gv_Rv ok_MO_meet rfl rfl
                    · rw [if_neg c137] at h
                      refine gv_brF c137 ?_
                      refine gv_B ok_MO_meet 3 rfl ?_
                      obtain ⟨μ139, e138, h⟩ := b1_e h
                      refine gv_Vc ok_MO_meet rfl mk_MO_pushPairs rfl (t_MO_pushPairs (d := d + 1) e138) rfl rfl (Nat.le_of_ble_eq_true rfl) rfl rfl rfl ?_
                      have h9 := Option.some.inj h
                      subst h9
                      exact gv_Rv ok_MO_meet rfl rfl
                  · rw [if_neg c136] at h
                    refine gv_brF c136 ?_
                    refine gv_B ok_MO_meet 2 rfl ?_
                    refine hp_pf ok_MO_meet rfl rfl rfl rfl rfl (Nat.le_of_ble_eq_true rfl) rfl ?_
                    refine gv_B ok_MO_meet 1 rfl ?_
                    have h9 := Option.some.inj h
                    subst h9
                    exact gv_Rv ok_MO_meet rfl rfl
        · rw [if_neg c109] at h
          refine gv_brF c109 ?_
          refine gv_B ok_MO_meet 2 rfl ?_
          obtain ⟨v141, e142, h⟩ := b1_e h
          have K143 : gv_go G M_MO_meet (d + 3) (.inl none) (hp n acc g cap μr) 85 [some (gR 70), some (gI x0), some (gI x1), some (gI x2), some (gI x3), none, none, none] [gI v141] (hp n acc g cap μ) := by
            refine gv_B ok_MO_meet 3 rfl ?_
            obtain ⟨v145, e146, h⟩ := b1_e h
            have K147 : gv_go G M_MO_meet (d + 3) (.inl none) (hp n acc g cap μr) 96 [some (gR 70), some (gI x0), some (gI x1), none, some (gI x3), some (gI v141), none, none] [gI v145] (hp n acc g cap μ) := by
              refine gv_B ok_MO_meet 3 rfl ?_
              obtain ⟨v149, e150, h⟩ := b1_e h
              have K151 : gv_go G M_MO_meet (d + 3) (.inl none) (hp n acc g cap μr) 108 [some (gR 70), none, none, none, none, some (gI v141), some (gI v145), none] [gI v149] (hp n acc g cap μ) := by
                refine gv_B ok_MO_meet 5 rfl ?_
                obtain ⟨v154, μ155, e153, h⟩ := b2_e h
                refine gv_Vc ok_MO_meet rfl mk_MO_occurs rfl (t_MO_occurs (d := d) e153) rfl rfl (Nat.le_of_ble_eq_true rfl) rfl rfl rfl ?_
                refine gv_B ok_MO_meet 1 rfl ?_
                obtain ⟨μ157, e158, h⟩ := b1_e h
                have K159 : gv_go G M_MO_meet (d + 3) (.inl none) (hp n acc g cap μr) 141 [none, none, none, none, none, none, none, none] [] (hp n acc g cap μ157) := by
                  refine gv_B ok_MO_meet 1 rfl ?_
                  have h9 := Option.some.inj h
                  subst h9
                  exact gv_Rv ok_MO_meet rfl rfl
                clear h
                have h := e158
                clear e158
                by_cases c160 : v154 = 0
                · rw [if_pos c160] at h
                  refine gv_brT c160 ?_
                  refine gv_B ok_MO_meet 4 rfl ?_
                  obtain ⟨μ162, e161, h⟩ := b1_e h
                  refine gv_Vc ok_MO_meet rfl mk_MO_bind rfl (t_MO_bind (d := d + 2) e161) rfl rfl (Nat.le_of_ble_eq_true rfl) rfl rfl rfl ?_
                  have h9 := Option.some.inj h
                  subst h9
                  exact gv_fk K159 trivial
                · rw [if_neg c160] at h
                  refine gv_brF c160 ?_
                  refine gv_B ok_MO_meet 2 rfl ?_
                  refine hp_pf ok_MO_meet rfl rfl rfl rfl rfl (Nat.le_of_ble_eq_true rfl) rfl ?_
                  refine gv_B ok_MO_meet 1 rfl ?_
                  have h9 := Option.some.inj h
                  subst h9
                  exact gv_fk K159 trivial
              clear h
              have h := e150
              clear e150
              by_cases c152 : ¬ x0 = 0
              · rw [if_pos c152] at h
                refine gv_brT c152 ?_
                refine gv_B ok_MO_meet 1 rfl ?_
                have h9 := Option.some.inj h
                subst h9
                exact gv_fk K151 ⟨rfl, ⟨rfl, ⟨rfl, trivial⟩⟩⟩
              · rw [if_neg c152] at h
                refine gv_brF c152 ?_
                refine gv_B ok_MO_meet 2 rfl ?_
                have h9 := Option.some.inj h
                subst h9
                exact gv_fk K151 ⟨rfl, ⟨rfl, ⟨rfl, trivial⟩⟩⟩
            clear h
            have h := e146
            clear e146
            by_cases c148 : ¬ x0 = 0
            · rw [if_pos c148] at h
              refine gv_brT c148 ?_
              refine gv_B ok_MO_meet 1 rfl ?_
              have h9 := Option.some.inj h
              subst h9
              exact gv_fk K147 ⟨rfl, ⟨rfl, ⟨rfl, ⟨rfl, ⟨rfl, trivial⟩⟩⟩⟩⟩
            · rw [if_neg c148] at h
              refine gv_brF c148 ?_
              refine gv_B ok_MO_meet 2 rfl ?_
              have h9 := Option.some.inj h
              subst h9
              exact gv_fk K147 ⟨rfl, ⟨rfl, ⟨rfl, ⟨rfl, ⟨rfl, trivial⟩⟩⟩⟩⟩
          clear h
          have h := e142
          clear e142
          by_cases c144 : ¬ x0 = 0
          · rw [if_pos c144] at h
            refine gv_brT c144 ?_
            refine gv_B ok_MO_meet 1 rfl ?_
            have h9 := Option.some.inj h
            subst h9
            exact K143
          · rw [if_neg c144] at h
            refine gv_brF c144 ?_
            refine gv_B ok_MO_meet 2 rfl ?_
            have h9 := Option.some.inj h
            subst h9
            exact K143
    · rw [if_neg c83] at h
      refine gv_brF c83 ?_
      refine gv_B ok_MO_meet 3 rfl ?_
      by_cases c165 : x1 = x3
      · rw [if_pos c165] at h
        refine gv_brT c165 ?_
        have h9 := Option.some.inj h
        subst h9
        exact gv_Rv ok_MO_meet rfl rfl
      · rw [if_neg c165] at h
        refine gv_brF c165 ?_
        refine gv_B ok_MO_meet 3 rfl ?_
        obtain ⟨v166, e167, h⟩ := b1_e h
        refine hp_rd ok_MO_meet rfl rfl e167 ?_
        refine gv_B ok_MO_meet 3 rfl ?_
        obtain ⟨v168, e169, h⟩ := b1_e h
        refine hp_rd ok_MO_meet rfl rfl e169 ?_
        refine gv_B ok_MO_meet 1 rfl ?_
        obtain ⟨v170, e171, h⟩ := b1_e h
        have K172 : gv_go G M_MO_meet (d + 3) (.inl none) (hp n acc g cap μr) 35 [some (gR 70), none, some (gI x1), none, some (gI x3), none, none, none] [gI v170] (hp n acc g cap μ) := by
          refine gv_B ok_MO_meet 4 rfl ?_
          obtain ⟨v174, e175, h⟩ := b1_e h
          have K176 : gv_go G M_MO_meet (d + 3) (.inl none) (hp n acc g cap μr) 49 [none, none, some (gI x1), none, some (gI x3), some (gI v170), none, none] [gI v174, gR 70] (hp n acc g cap μ) := by
            refine gv_B ok_MO_meet 3 rfl ?_
            obtain ⟨v178, e179, h⟩ := b1_e h
            have K180 : gv_go G M_MO_meet (d + 3) (.inl none) (hp n acc g cap μr) 61 [none, none, none, none, none, none, none, none] [gI v178, gI 0, gI v174, gR 70] (hp n acc g cap μ) := by
              obtain ⟨μ183, e182, h⟩ := b1_e h
              refine gv_Vc ok_MO_meet rfl mk_MO_bind rfl (t_MO_bind (d := d + 2) e182) rfl rfl (Nat.le_of_ble_eq_true rfl) rfl rfl rfl ?_
              refine gv_B ok_MO_meet 1 rfl ?_
              have h9 := Option.some.inj h
              subst h9
              exact gv_Rv ok_MO_meet rfl rfl
            clear h
            have h := e179
            clear e179
            by_cases c181 : v170 = 0
            · rw [if_pos c181] at h
              refine gv_brT c181 ?_
              refine gv_B ok_MO_meet 1 rfl ?_
              have h9 := Option.some.inj h
              subst h9
              exact gv_fk K180 trivial
            · rw [if_neg c181] at h
              refine gv_brF c181 ?_
              refine gv_B ok_MO_meet 2 rfl ?_
              have h9 := Option.some.inj h
              subst h9
              exact gv_fk K180 trivial
          clear h
          have h := e175
          clear e175
          by_cases c177 : v170 = 0
          · rw [if_pos c177] at h
            refine gv_brT c177 ?_
            refine gv_B ok_MO_meet 1 rfl ?_
            have h9 := Option.some.inj h
            subst h9
            exact gv_fk K176 ⟨rfl, ⟨rfl, ⟨rfl, trivial⟩⟩⟩
          · rw [if_neg c177] at h
            refine gv_brF c177 ?_
            refine gv_B ok_MO_meet 2 rfl ?_
            have h9 := Option.some.inj h
            subst h9
            exact gv_fk K176 ⟨rfl, ⟨rfl, ⟨rfl, trivial⟩⟩⟩
        clear h
        have h := e171
        clear e171
        by_cases c173 : v166 ≤ v168
        · rw [if_pos c173] at h
          refine gv_brT c173 ?_
          refine gv_B ok_MO_meet 1 rfl ?_
          have h9 := Option.some.inj h
          subst h9
          exact gv_fk K172 ⟨rfl, ⟨rfl, ⟨rfl, trivial⟩⟩⟩
        · rw [if_neg c173] at h
          refine gv_brF c173 ?_
          refine gv_B ok_MO_meet 2 rfl ?_
          have h9 := Option.some.inj h
          subst h9
          exact gv_fk K172 ⟨rfl, ⟨rfl, ⟨rfl, trivial⟩⟩⟩
def f_MO_unify_28 : Nat → Mu → Option (Mu)
  | 0, _ => none
  | f + 1, μ =>
    (if (μ 70 30) ≤ 0 then
    some (μ)
    else
    (if ¬ (μ 70 49) = 0 then
    some (μ)
    else
    (if ((μ 70 35) + 1) ≤ 300 then
    (b1 (rd (μ 88) 1600 (((μ 70 30) - 2) + 1)) fun v10 =>
    b1 (rd (μ 89) 1600 (((μ 70 30) - 2) + 1)) fun v12 =>
    b1 (f_MO_mean v10 v12 (sI (sI μ 70 30 ((μ 70 30) - 2)) 70 35 ((μ 70 35) + 1))) fun μ15 =>
    b1 (rd (μ15 88) 1600 (μ15 70 30)) fun v17 =>
    b1 (rd (μ15 89) 1600 (μ15 70 30)) fun v19 =>
    b1 (f_MO_mean v17 v19 μ15) fun μ22 =>
    b1 (f_MO_meet (μ15 70 40) (μ15 70 41) (μ22 70 40) (μ22 70 41) μ22) fun μ25 =>
    f_MO_unify_28 f μ25)
    else
    f_MO_unify_28 f (sI (sI (sI μ 70 30 ((μ 70 30) - 2)) 70 35 ((μ 70 35) + 1)) 70 49 3))))
def f_MO_unify (x0 : Int32) (x1 : Int32) (x2 : Int32) (x3 : Int32) (μ : Mu) : Option (Mu) :=
  (b1 (f_MO_push x2 x3 (sI (sI (sI μ 70 49 0) 70 35 0) 70 30 0)) fun μ2 =>
  b1 (f_MO_push x0 x1 μ2) fun μ5 =>
  b1 (f_MO_unify_28 fu μ5) fun μ27 =>
  some (μ27))
theorem t_MO_unify_28 {r : gv_O} {hf : gv_H} (fl : Nat) : ∀ {μ : Mu} {μz : Mu}, f_MO_unify_28 fl μ = some (μz) → gv_go G M_MO_unify (d + 4) r hf 159 [none, none, none, none, none, none, none] [] (hp n acc g cap μz) → gv_go G M_MO_unify (d + 4) r hf 28 [some (gR 70), none, none, none, none, none, none] [] (hp n acc g cap μ) := by
  induction fl with
  | zero => intro _ _ h _; cases h
  | succ f ih =>
    intro μ μz h KJ
    unfold f_MO_unify_28 at h
    refine gv_B ok_MO_unify 3 rfl ?_
    by_cases c7 : (μ 70 30) ≤ 0
    · rw [if_pos c7] at h
      refine gv_brT c7 ?_
      have h9 := Option.some.inj h
      subst h9
      exact gv_fk KJ trivial
    · rw [if_neg c7] at h
      refine gv_brF c7 ?_
      refine gv_B ok_MO_unify 3 rfl ?_
      by_cases c8 : ¬ (μ 70 49) = 0
      · rw [if_pos c8] at h
        refine gv_brT c8 ?_
        have h9 := Option.some.inj h
        subst h9
        exact gv_fk KJ trivial
      · rw [if_neg c8] at h
        refine gv_brF c8 ?_
        refine gv_B ok_MO_unify 5 rfl ?_
        refine hp_pf ok_MO_unify rfl rfl rfl rfl rfl (Nat.le_of_ble_eq_true rfl) rfl ?_
        refine gv_B ok_MO_unify 5 rfl ?_
        refine hp_pf ok_MO_unify rfl rfl rfl rfl rfl (Nat.le_of_ble_eq_true rfl) rfl ?_
        refine gv_B ok_MO_unify 4 rfl ?_
        by_cases c9 : ((μ 70 35) + 1) ≤ 300
        · rw [if_pos c9] at h
          refine gv_brT c9 ?_
          refine gv_B ok_MO_unify 7 rfl ?_
          obtain ⟨v10, e11, h⟩ := b1_e h
          refine hp_rd ok_MO_unify rfl rfl e11 ?_
          refine gv_B ok_MO_unify 6 rfl ?_
          obtain ⟨v12, e13, h⟩ := b1_e h
          refine hp_rd ok_MO_unify rfl rfl e13 ?_
          obtain ⟨μ15, e14, h⟩ := b1_e h
          refine gv_Vc ok_MO_unify rfl mk_MO_mean rfl (t_MO_mean (d := d + 3) e14) rfl rfl (Nat.le_of_ble_eq_true rfl) rfl rfl rfl ?_
          refine gv_B ok_MO_unify 11 rfl ?_
          obtain ⟨v17, e18, h⟩ := b1_e h
          refine hp_rd ok_MO_unify rfl rfl e18 ?_
          refine gv_B ok_MO_unify 4 rfl ?_
          obtain ⟨v19, e20, h⟩ := b1_e h
          refine hp_rd ok_MO_unify rfl rfl e20 ?_
          obtain ⟨μ22, e21, h⟩ := b1_e h
          refine gv_Vc ok_MO_unify rfl mk_MO_mean rfl (t_MO_mean (d := d + 3) e21) rfl rfl (Nat.le_of_ble_eq_true rfl) rfl rfl rfl ?_
          refine gv_B ok_MO_unify 7 rfl ?_
          obtain ⟨μ25, e24, h⟩ := b1_e h
          refine gv_Vc ok_MO_unify rfl mk_MO_meet rfl (t_MO_meet (d := d) e24) rfl rfl (Nat.le_of_ble_eq_true rfl) rfl rfl rfl ?_
          refine gv_B ok_MO_unify 1 rfl ?_
          exact gv_fk (ih h KJ) ⟨rfl, trivial⟩
        · rw [if_neg c9] at h
          refine gv_brF c9 ?_
          refine gv_B ok_MO_unify 2 rfl ?_
          refine hp_pf ok_MO_unify rfl rfl rfl rfl rfl (Nat.le_of_ble_eq_true rfl) rfl ?_
          refine gv_B ok_MO_unify 1 rfl ?_
          exact ih h KJ
theorem t_MO_unify {x0 : Int32} {x1 : Int32} {x2 : Int32} {x3 : Int32} {μ : Mu} {μr : Mu} (h : f_MO_unify x0 x1 x2 x3 μ = some (μr)) : gv_ev G (d + 4) M_MO_unify [gR 70, gI x0, gI x1, gI x2, gI x3] (hp n acc g cap μ) (.inl none) (hp n acc g cap μr) := by
  unfold f_MO_unify at h
  refine gv_E (ls := [some (gR 70), some (gI x0), some (gI x1), some (gI x2), some (gI x3), none, none]) (by decide) (fun h => by cases h) (Nat.le_of_ble_eq_true rfl) rfl ?_
  refine gv_B ok_MO_unify 2 rfl ?_
  refine hp_pf ok_MO_unify rfl rfl rfl rfl rfl (Nat.le_of_ble_eq_true rfl) rfl ?_
  refine gv_B ok_MO_unify 2 rfl ?_
  refine hp_pf ok_MO_unify rfl rfl rfl rfl rfl (Nat.le_of_ble_eq_true rfl) rfl ?_
  refine gv_B ok_MO_unify 2 rfl ?_
  refine hp_pf ok_MO_unify rfl rfl rfl rfl rfl (Nat.le_of_ble_eq_true rfl) rfl ?_
  refine gv_B ok_MO_unify 3 rfl ?_
  obtain ⟨μ2, e1, h⟩ := b1_e h
  refine gv_Vc ok_MO_unify rfl mk_MO_push rfl (t_MO_push (d := d + 3) e1) rfl rfl (Nat.le_of_ble_eq_true rfl) rfl rfl rfl ?_
  refine gv_B ok_MO_unify 3 rfl ?_
  obtain ⟨μ5, e4, h⟩ := b1_e h
  refine gv_Vc ok_MO_unify rfl mk_MO_push rfl (t_MO_push (d := d + 3) e4) rfl rfl (Nat.le_of_ble_eq_true rfl) rfl rfl rfl ?_
  obtain ⟨μ27, e28, h⟩ := b1_e h
  have K29 : gv_go G M_MO_unify (d + 4) (.inl none) (hp n acc g cap μr) 159 [none, none, none, none, none, none, none] [] (hp n acc g cap μ27) := by
    have h9 := Option.some.inj h
    subst h9
    exact gv_Rv ok_MO_unify rfl rfl
  exact gv_fk (t_MO_unify_28 _ e28 K29) ⟨rfl, trivial⟩
def f_MO_round (x0 : Int64) (μ : Mu) : Option (Int32) :=
  some ((Int64.toInt32 ((x0 <<< (Int32.toInt64 35 &&& 63)) >>> (Int32.toInt64 35 &&& 63))))
theorem t_MO_round {x0 : Int64} {μ : Mu} {r : Int32} (h : f_MO_round x0 μ = some (r)) : gv_ev G (d + 0) M_MO_round [gR 70, gL x0] (hp n acc g cap μ) (.inl (some (gI r))) (hp n acc g cap μ) := by
  unfold f_MO_round at h
  refine gv_E (ls := [some (gR 70), some (gL x0), none]) (by decide) (fun h => by cases h) (Nat.le_of_ble_eq_true rfl) rfl ?_
  refine gv_B ok_MO_round 6 rfl ?_
  have h9 := Option.some.inj h
  subst h9
  exact gv_Ri ok_MO_round rfl rfl
def f_MO_apply (x0 : Int32) (μ : Mu) : Option (Mu) :=
  (b1 (rd (μ 91) 100 ((μ 70 36) - 2)) fun v1 =>
  b1 (rd (μ 91) 100 (((μ 70 36) - 2) + 1)) fun v3 =>
  if ¬ x0 = 31 then
  (b1 (if ¬ x0 = 28 then
  (if ¬ x0 = 29 then
  (if ¬ x0 = 30 then
  if (Int32.toInt64 v3) = (0 : Int64) then none else some (((Int32.toInt64 v1) / (Int32.toInt64 v3)))
  else
  some (((Int32.toInt64 v1) * (Int32.toInt64 v3))))
  else
  some (((Int32.toInt64 v1) - (Int32.toInt64 v3))))
  else
  some (((Int32.toInt64 v1) + (Int32.toInt64 v3)))) fun v6 =>
  b1 (f_MO_round v6 (sI μ 70 36 ((μ 70 36) - 2))) fun v14 =>
  b1 (wr (sI μ 70 36 ((μ 70 36) - 2)) 91 100 ((μ 70 36) - 2) v14) fun μ15 =>
  some ((sI μ15 70 36 ((μ15 70 36) + 1))))
  else
  (if ¬ v3 = 0 then
  (b1 (if ¬ x0 = 28 then
  (if ¬ x0 = 29 then
  (if ¬ x0 = 30 then
  if (Int32.toInt64 v3) = (0 : Int64) then none else some (((Int32.toInt64 v1) / (Int32.toInt64 v3)))
  else
  some (((Int32.toInt64 v1) * (Int32.toInt64 v3))))
  else
  some (((Int32.toInt64 v1) - (Int32.toInt64 v3))))
  else
  some (((Int32.toInt64 v1) + (Int32.toInt64 v3)))) fun v19 =>
  b1 (f_MO_round v19 (sI μ 70 36 ((μ 70 36) - 2))) fun v27 =>
  b1 (wr (sI μ 70 36 ((μ 70 36) - 2)) 91 100 ((μ 70 36) - 2) v27) fun μ28 =>
  some ((sI μ28 70 36 ((μ28 70 36) + 1))))
  else
  some ((sI (sI μ 70 36 ((μ 70 36) - 2)) 70 49 2))))
theorem t_MO_apply {x0 : Int32} {μ : Mu} {μr : Mu} (h : f_MO_apply x0 μ = some (μr)) : gv_ev G (d + 1) M_MO_apply [gR 70, gI x0] (hp n acc g cap μ) (.inl none) (hp n acc g cap μr) := by
  unfold f_MO_apply at h
  refine gv_E (ls := [some (gR 70), some (gI x0), none, none, none, none]) (by decide) (fun h => by cases h) (Nat.le_of_ble_eq_true rfl) rfl ?_
  refine gv_B ok_MO_apply 5 rfl ?_
  refine hp_pf ok_MO_apply rfl rfl rfl rfl rfl (Nat.le_of_ble_eq_true rfl) rfl ?_
  refine gv_B ok_MO_apply 4 rfl ?_
  obtain ⟨v1, e2, h⟩ := b1_e h
  refine hp_rd ok_MO_apply rfl rfl e2 ?_
  refine gv_B ok_MO_apply 7 rfl ?_
  obtain ⟨v3, e4, h⟩ := b1_e h
  refine hp_rd ok_MO_apply rfl rfl e4 ?_
  refine gv_B ok_MO_apply 4 rfl ?_
  by_cases c5 : ¬ x0 = 31
  · rw [if_pos c5] at h
    refine gv_brT c5 ?_
    refine gv_B ok_MO_apply 3 rfl ?_
    obtain ⟨v6, e7, h⟩ := b1_e h
    have K8 : gv_go G M_MO_apply (d + 1) (.inl none) (hp n acc g cap μr) 95 [some (gR 70), none, none, none, none, none] [gL v6] (hp n acc g cap (sI μ 70 36 ((μ 70 36) - 2))) := by
      refine gv_B ok_MO_apply 7 rfl ?_
      obtain ⟨v14, e13, h⟩ := b1_e h
      refine gv_Vc ok_MO_apply rfl mk_MO_round rfl (t_MO_round (d := d) e13) rfl rfl (Nat.le_of_ble_eq_true rfl) rfl rfl rfl ?_
      obtain ⟨μ15, e16, h⟩ := b1_e h
      refine hp_wr ok_MO_apply rfl rfl rfl rfl e16 ?_
      refine gv_B ok_MO_apply 5 rfl ?_
      refine hp_pf ok_MO_apply rfl rfl rfl rfl rfl (Nat.le_of_ble_eq_true rfl) rfl ?_
      have h9 := Option.some.inj h
      subst h9
      exact gv_Rv ok_MO_apply rfl rfl
    clear h
    have h := e7
    clear e7
    by_cases c9 : ¬ x0 = 28
    · rw [if_pos c9] at h
      refine gv_brT c9 ?_
      refine gv_B ok_MO_apply 3 rfl ?_
      by_cases c10 : ¬ x0 = 29
      · rw [if_pos c10] at h
        refine gv_brT c10 ?_
        refine gv_B ok_MO_apply 3 rfl ?_
        by_cases c11 : ¬ x0 = 30
        · rw [if_pos c11] at h
          refine gv_brT c11 ?_
          refine gv_B ok_MO_apply 4 rfl ?_
          by_cases c12 : (Int32.toInt64 v3) = (0 : Int64)
          · rw [if_pos c12] at h
            cases h
          rw [if_neg c12] at h
          refine gv_ldv ok_MO_apply rfl c12 ?_
          have h9 := Option.some.inj h
          subst h9
          exact gv_fk K8 ⟨rfl, trivial⟩
        · rw [if_neg c11] at h
          refine gv_brF c11 ?_
          refine gv_B ok_MO_apply 6 rfl ?_
          have h9 := Option.some.inj h
          subst h9
          exact gv_fk K8 ⟨rfl, trivial⟩
      · rw [if_neg c10] at h
        refine gv_brF c10 ?_
        refine gv_B ok_MO_apply 6 rfl ?_
        have h9 := Option.some.inj h
        subst h9
        exact gv_fk K8 ⟨rfl, trivial⟩
    · rw [if_neg c9] at h
      refine gv_brF c9 ?_
      refine gv_B ok_MO_apply 6 rfl ?_
      have h9 := Option.some.inj h
      subst h9
      exact gv_fk K8 ⟨rfl, trivial⟩
  · rw [if_neg c5] at h
    refine gv_brF c5 ?_
    refine gv_B ok_MO_apply 2 rfl ?_
    by_cases c18 : ¬ v3 = 0
    · rw [if_pos c18] at h
      refine gv_brT c18 ?_
      refine gv_B ok_MO_apply 3 rfl ?_
      obtain ⟨v19, e20, h⟩ := b1_e h
      have K21 : gv_go G M_MO_apply (d + 1) (.inl none) (hp n acc g cap μr) 95 [some (gR 70), none, none, none, none, none] [gL v19] (hp n acc g cap (sI μ 70 36 ((μ 70 36) - 2))) := by
        refine gv_B ok_MO_apply 7 rfl ?_
        obtain ⟨v27, e26, h⟩ := b1_e h
        refine gv_Vc ok_MO_apply rfl mk_MO_round rfl (t_MO_round (d := d) e26) rfl rfl (Nat.le_of_ble_eq_true rfl) rfl rfl rfl ?_
        obtain ⟨μ28, e29, h⟩ := b1_e h
        refine hp_wr ok_MO_apply rfl rfl rfl rfl e29 ?_
        refine gv_B ok_MO_apply 5 rfl ?_
        refine hp_pf ok_MO_apply rfl rfl rfl rfl rfl (Nat.le_of_ble_eq_true rfl) rfl ?_
        have h9 := Option.some.inj h
        subst h9
        exact gv_Rv ok_MO_apply rfl rfl
      clear h
      have h := e20
      clear e20
      by_cases c22 : ¬ x0 = 28
      · rw [if_pos c22] at h
        refine gv_brT c22 ?_
        refine gv_B ok_MO_apply 3 rfl ?_
        by_cases c23 : ¬ x0 = 29
        · rw [if_pos c23] at h
          refine gv_brT c23 ?_
          refine gv_B ok_MO_apply 3 rfl ?_
          by_cases c24 : ¬ x0 = 30
          · rw [if_pos c24] at h
            refine gv_brT c24 ?_
            refine gv_B ok_MO_apply 4 rfl ?_
            by_cases c25 : (Int32.toInt64 v3) = (0 : Int64)
            · rw [if_pos c25] at h
              cases h
            rw [if_neg c25] at h
            refine gv_ldv ok_MO_apply rfl c25 ?_
            have h9 := Option.some.inj h
            subst h9
            exact gv_fk K21 ⟨rfl, trivial⟩
          · rw [if_neg c24] at h
            refine gv_brF c24 ?_
            refine gv_B ok_MO_apply 6 rfl ?_
            have h9 := Option.some.inj h
            subst h9
            exact gv_fk K21 ⟨rfl, trivial⟩
        · rw [if_neg c23] at h
          refine gv_brF c23 ?_
          refine gv_B ok_MO_apply 6 rfl ?_
          have h9 := Option.some.inj h
          subst h9
          exact gv_fk K21 ⟨rfl, trivial⟩
      · rw [if_neg c22] at h
        refine gv_brF c22 ?_
        refine gv_B ok_MO_apply 6 rfl ?_
        have h9 := Option.some.inj h
        subst h9
        exact gv_fk K21 ⟨rfl, trivial⟩
    · rw [if_neg c18] at h
      refine gv_brF c18 ?_
      refine gv_B ok_MO_apply 2 rfl ?_
      refine hp_pf ok_MO_apply rfl rfl rfl rfl rfl (Nat.le_of_ble_eq_true rfl) rfl ?_
      have h9 := Option.some.inj h
      subst h9
      exact gv_Rv ok_MO_apply rfl rfl
def f_MO_calculate_23 : Nat → Int32 → Mu → Option (Mu)
  | 0, _, _ => none
  | f + 1, y3, μ =>
    (if (μ 70 30) ≤ 0 then
    some (μ)
    else
    (if ¬ (μ 70 49) = 0 then
    some (μ)
    else
    (b1 (rd (μ 88) 1600 ((μ 70 30) - 1)) fun v6 =>
    if ¬ v6 = 9 then
    (b1 (rd (μ 88) 1600 ((μ 70 30) - 1)) fun v9 =>
    b1 (rd (μ 89) 1600 ((μ 70 30) - 1)) fun v11 =>
    b1 (f_MO_mean v9 v11 (sI μ 70 30 ((μ 70 30) - 1))) fun μ14 =>
    b1 (if ¬ (μ14 70 40) = 3 then
    some ((0 : Int32))
    else
    (b1 (rd (μ14 78) 240 (μ14 70 41)) fun v20 =>
    b1 (f_MO_arity v20 μ14) fun v23 =>
    if ¬ v23 = 2 then
    some ((0 : Int32))
    else
    (b1 (rd (μ14 78) 240 (μ14 70 41)) fun v25 =>
    if (v25 >>> ((3 : Int32) &&& 31)) ≤ 27 then
    some ((0 : Int32))
    else
    some ((1 : Int32))))) fun v16 =>
    b2 (if ¬ (μ14 70 40) = 1 then
    (if v16 = 0 then
    some (y3, (sI μ14 70 49 2))
    else
    (if 30 ≤ y3 then
    some (y3, (sI μ14 70 49 2))
    else
    (b1 (rd (μ14 78) 240 (μ14 70 41)) fun v35 =>
    b1 (f_MO_push 9 (v35 >>> ((3 : Int32) &&& 31)) μ14) fun μ38 =>
    b1 (f_MO_pushArguments (μ38 70 41) μ38) fun μ41 =>
    some ((y3 + 1), μ41))))
    else
    (b1 (wr μ14 91 100 (μ14 70 36) (μ14 70 41)) fun μ43 =>
    some (y3, (sI μ43 70 36 ((μ43 70 36) + 1))))) fun l28 μ29 =>
    f_MO_calculate_23 f l28 μ29)
    else
    (b1 (rd (μ 89) 1600 ((μ 70 30) - 1)) fun v47 =>
    b1 (f_MO_apply v47 (sI μ 70 30 ((μ 70 30) - 1))) fun μ50 =>
    f_MO_calculate_23 f y3 μ50))))
def f_MO_calculate (x0 : Int32) (x1 : Int32) (μ : Mu) : Option (Int32 × Mu) :=
  (b1 (f_MO_push x0 x1 (sI (sI (sI μ 70 49 0) 70 30 0) 70 36 0)) fun μ2 =>
  b1 (f_MO_calculate_23 fu 0 μ2) fun μ52 =>
  if ¬ (μ52 70 49) = 0 then
  some (0, μ52)
  else
  (b1 (rd (μ52 91) 100 0) fun v57 =>
  some (v57, μ52)))
theorem t_MO_calculate_23 {r : gv_O} {hf : gv_H} (fl : Nat) : ∀ {y3 : Int32} {μ : Mu} {μz : Mu}, f_MO_calculate_23 fl y3 μ = some (μz) → gv_go G M_MO_calculate (d + 2) r hf 231 [some (gR 70), none, none, none, none] [] (hp n acc g cap μz) → gv_go G M_MO_calculate (d + 2) r hf 23 [some (gR 70), none, none, some (gI y3), none] [] (hp n acc g cap μ) := by
  induction fl with
  | zero => intro _ _ _ h _; cases h
  | succ f ih =>
    intro y3 μ μz h KJ
    unfold f_MO_calculate_23 at h
    refine gv_B ok_MO_calculate 3 rfl ?_
    by_cases c4 : (μ 70 30) ≤ 0
    · rw [if_pos c4] at h
      refine gv_brT c4 ?_
      have h9 := Option.some.inj h
      subst h9
      exact gv_fk KJ ⟨rfl, trivial⟩
    · rw [if_neg c4] at h
      refine gv_brF c4 ?_
      refine gv_B ok_MO_calculate 3 rfl ?_
      by_cases c5 : ¬ (μ 70 49) = 0
      · rw [if_pos c5] at h
        refine gv_brT c5 ?_
        have h9 := Option.some.inj h
        subst h9
        exact gv_fk KJ ⟨rfl, trivial⟩
      · rw [if_neg c5] at h
        refine gv_brF c5 ?_
        refine gv_B ok_MO_calculate 5 rfl ?_
        refine hp_pf ok_MO_calculate rfl rfl rfl rfl rfl (Nat.le_of_ble_eq_true rfl) rfl ?_
        refine gv_B ok_MO_calculate 4 rfl ?_
        obtain ⟨v6, e7, h⟩ := b1_e h
        refine hp_rd ok_MO_calculate rfl rfl e7 ?_
        refine gv_B ok_MO_calculate 2 rfl ?_
        by_cases c8 : ¬ v6 = 9
        · rw [if_pos c8] at h
          refine gv_brT c8 ?_
          refine gv_B ok_MO_calculate 5 rfl ?_
          obtain ⟨v9, e10, h⟩ := b1_e h
          refine hp_rd ok_MO_calculate rfl rfl e10 ?_
          refine gv_B ok_MO_calculate 4 rfl ?_
          obtain ⟨v11, e12, h⟩ := b1_e h
          refine hp_rd ok_MO_calculate rfl rfl e12 ?_
          obtain ⟨μ14, e13, h⟩ := b1_e h
          refine gv_Vc ok_MO_calculate rfl mk_MO_mean rfl (t_MO_mean (d := d + 1) e13) rfl rfl (Nat.le_of_ble_eq_true rfl) rfl rfl rfl ?_
          refine gv_B ok_MO_calculate 4 rfl ?_
          obtain ⟨v16, e17, h⟩ := b1_e h
          have K18 : gv_go G M_MO_calculate (d + 2) r hf 145 [some (gR 70), none, none, some (gI y3), none] [gI v16] (hp n acc g cap μ14) := by
            refine gv_B ok_MO_calculate 5 rfl ?_
            obtain ⟨l28, μ29, e30, h⟩ := b2_e h
            have K31 : gv_go G M_MO_calculate (d + 2) r hf 228 [some (gR 70), none, none, some (gI l28), none] [] (hp n acc g cap μ29) := by
              refine gv_B ok_MO_calculate 1 rfl ?_
              exact ih h KJ
            clear h
            have h := e30
            clear e30
            by_cases c32 : ¬ (μ14 70 40) = 1
            · rw [if_pos c32] at h
              refine gv_brT c32 ?_
              refine gv_B ok_MO_calculate 2 rfl ?_
              by_cases c33 : v16 = 0
              · rw [if_pos c33] at h
                refine gv_brT c33 ?_
                refine gv_B ok_MO_calculate 2 rfl ?_
                refine hp_pf ok_MO_calculate rfl rfl rfl rfl rfl (Nat.le_of_ble_eq_true rfl) rfl ?_
                have j0 := Option.some.inj h
                obtain ⟨i1, j1⟩ := Prod.mk.inj j0
                subst i1
                subst j1
                exact gv_fk K31 ⟨rfl, ⟨rfl, trivial⟩⟩
              · rw [if_neg c33] at h
                refine gv_brF c33 ?_
                refine gv_B ok_MO_calculate 3 rfl ?_
                by_cases c34 : 30 ≤ y3
                · rw [if_pos c34] at h
                  refine gv_brT c34 ?_
                  refine gv_B ok_MO_calculate 2 rfl ?_
                  refine hp_pf ok_MO_calculate rfl rfl rfl rfl rfl (Nat.le_of_ble_eq_true rfl) rfl ?_
                  have j0 := Option.some.inj h
                  obtain ⟨i1, j1⟩ := Prod.mk.inj j0
                  subst i1
                  subst j1
                  exact gv_fk K31 ⟨rfl, ⟨rfl, trivial⟩⟩
                · rw [if_neg c34] at h
                  refine gv_brF c34 ?_
                  refine gv_B ok_MO_calculate 7 rfl ?_
                  obtain ⟨v35, e36, h⟩ := b1_e h
                  refine hp_rd ok_MO_calculate rfl rfl e36 ?_
                  refine gv_B ok_MO_calculate 2 rfl ?_
                  obtain ⟨μ38, e37, h⟩ := b1_e h
                  refine gv_Vc ok_MO_calculate rfl mk_MO_push rfl (t_MO_push (d := d + 1) e37) rfl rfl (Nat.le_of_ble_eq_true rfl) rfl rfl rfl ?_
                  refine gv_B ok_MO_calculate 3 rfl ?_
                  obtain ⟨μ41, e40, h⟩ := b1_e h
                  refine gv_Vc ok_MO_calculate rfl mk_MO_pushArguments rfl (t_MO_pushArguments (d := d) e40) rfl rfl (Nat.le_of_ble_eq_true rfl) rfl rfl rfl ?_
                  refine gv_B ok_MO_calculate 1 rfl ?_
                  have j0 := Option.some.inj h
                  obtain ⟨i1, j1⟩ := Prod.mk.inj j0
                  subst i1
                  subst j1
                  exact gv_fk K31 ⟨rfl, ⟨rfl, trivial⟩⟩
            · rw [if_neg c32] at h
              refine gv_brF c32 ?_
              refine gv_B ok_MO_calculate 6 rfl ?_
              obtain ⟨μ43, e44, h⟩ := b1_e h
              refine hp_wr ok_MO_calculate rfl rfl rfl rfl e44 ?_
              refine gv_B ok_MO_calculate 5 rfl ?_
              refine hp_pf ok_MO_calculate rfl rfl rfl rfl rfl (Nat.le_of_ble_eq_true rfl) rfl ?_
              refine gv_B ok_MO_calculate 1 rfl ?_
              have j0 := Option.some.inj h
              obtain ⟨i1, j1⟩ := Prod.mk.inj j0
              subst i1
              subst j1
              exact gv_fk K31 ⟨rfl, ⟨rfl, trivial⟩⟩
          clear h
          have h := e17
          clear e17
          by_cases c19 : ¬ (μ14 70 40) = 3
          · rw [if_pos c19] at h
            refine gv_brT c19 ?_
            refine gv_B ok_MO_calculate 1 rfl ?_
            have h9 := Option.some.inj h
            subst h9
            exact K18
          · rw [if_neg c19] at h
            refine gv_brF c19 ?_
            refine gv_B ok_MO_calculate 5 rfl ?_
            obtain ⟨v20, e21, h⟩ := b1_e h
            refine hp_rd ok_MO_calculate rfl rfl e21 ?_
            obtain ⟨v23, e22, h⟩ := b1_e h
            refine gv_Vc ok_MO_calculate rfl mk_MO_arity rfl (t_MO_arity (d := d + 1) e22) rfl rfl (Nat.le_of_ble_eq_true rfl) rfl rfl rfl ?_
            refine gv_B ok_MO_calculate 2 rfl ?_
            by_cases c24 : ¬ v23 = 2
            · rw [if_pos c24] at h
              refine gv_brT c24 ?_
              refine gv_B ok_MO_calculate 1 rfl ?_
              have h9 := Option.some.inj h
              subst h9
              exact K18
            · rw [if_neg c24] at h
              refine gv_brF c24 ?_
              refine gv_B ok_MO_calculate 4 rfl ?_
              obtain ⟨v25, e26, h⟩ := b1_e h
              refine hp_rd ok_MO_calculate rfl rfl e26 ?_
              refine gv_B ok_MO_calculate 4 rfl ?_
              by_cases c27 : (v25 >>> ((3 : Int32) &&& 31)) ≤ 27
              · rw [if_pos c27] at h
                refine gv_brT c27 ?_
                refine gv_B ok_MO_calculate 1 rfl ?_
                have h9 := Option.some.inj h
                subst h9
                exact K18
              · rw [if_neg c27] at h
                refine gv_brF c27 ?_
                refine gv_B ok_MO_calculate 2 rfl ?_
                have h9 := Option.some.inj h
                subst h9
                exact K18
        · rw [if_neg c8] at h
          refine gv_brF c8 ?_
          refine gv_B ok_MO_calculate 5 rfl ?_
          obtain ⟨v47, e48, h⟩ := b1_e h
          refine hp_rd ok_MO_calculate rfl rfl e48 ?_
          obtain ⟨μ50, e49, h⟩ := b1_e h
          refine gv_Vc ok_MO_calculate rfl mk_MO_apply rfl (t_MO_apply (d := d) e49) rfl rfl (Nat.le_of_ble_eq_true rfl) rfl rfl rfl ?_
          refine gv_B ok_MO_calculate 1 rfl ?_
          exact ih h KJ
theorem t_MO_calculate {x0 : Int32} {x1 : Int32} {μ : Mu} {r : Int32} {μr : Mu} (h : f_MO_calculate x0 x1 μ = some (r, μr)) : gv_ev G (d + 2) M_MO_calculate [gR 70, gI x0, gI x1] (hp n acc g cap μ) (.inl (some (gI r))) (hp n acc g cap μr) := by
  unfold f_MO_calculate at h
  refine gv_E (ls := [some (gR 70), some (gI x0), some (gI x1), none, none]) (by decide) (fun h => by cases h) (Nat.le_of_ble_eq_true rfl) rfl ?_
  refine gv_B ok_MO_calculate 2 rfl ?_
  refine hp_pf ok_MO_calculate rfl rfl rfl rfl rfl (Nat.le_of_ble_eq_true rfl) rfl ?_
  refine gv_B ok_MO_calculate 2 rfl ?_
  refine hp_pf ok_MO_calculate rfl rfl rfl rfl rfl (Nat.le_of_ble_eq_true rfl) rfl ?_
  refine gv_B ok_MO_calculate 2 rfl ?_
  refine hp_pf ok_MO_calculate rfl rfl rfl rfl rfl (Nat.le_of_ble_eq_true rfl) rfl ?_
  refine gv_B ok_MO_calculate 5 rfl ?_
  obtain ⟨μ2, e1, h⟩ := b1_e h
  refine gv_Vc ok_MO_calculate rfl mk_MO_push rfl (t_MO_push (d := d + 1) e1) rfl rfl (Nat.le_of_ble_eq_true rfl) rfl rfl rfl ?_
  obtain ⟨μ52, e53, h⟩ := b1_e h
  have K54 : gv_go G M_MO_calculate (d + 2) (.inl (some (gI r))) (hp n acc g cap μr) 231 [some (gR 70), none, none, none, none] [] (hp n acc g cap μ52) := by
    refine gv_B ok_MO_calculate 3 rfl ?_
    by_cases c56 : ¬ (μ52 70 49) = 0
    · rw [if_pos c56] at h
      refine gv_brT c56 ?_
      refine gv_B ok_MO_calculate 1 rfl ?_
      have j0 := Option.some.inj h
      obtain ⟨i1, j1⟩ := Prod.mk.inj j0
      subst i1
      subst j1
      exact gv_Ri ok_MO_calculate rfl rfl
    · rw [if_neg c56] at h
      refine gv_brF c56 ?_
      refine gv_B ok_MO_calculate 3 rfl ?_
      obtain ⟨v57, e58, h⟩ := b1_e h
      refine hp_rd ok_MO_calculate rfl rfl e58 ?_
      refine gv_B ok_MO_calculate 1 rfl ?_
      have j0 := Option.some.inj h
      obtain ⟨i1, j1⟩ := Prod.mk.inj j0
      subst i1
      subst j1
      exact gv_Ri ok_MO_calculate rfl rfl
  exact gv_fk (t_MO_calculate_23 _ e53 K54) ⟨rfl, ⟨rfl, trivial⟩⟩
end FNN
