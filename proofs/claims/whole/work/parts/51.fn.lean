/-! methods as functions of the numbers (written by wip/tools/genf.py, mkf.py) -/
section FNN
variable {G : gv_G} {d n g cap : Nat} {acc : Nat × Nat}
def f_MO_mean_10 : Nat → Mu → Option (Mu)
  | 0, _ => none
  | f + 1, μ =>
    (if ¬ (μ 70 40) = 0 then
    some (μ)
    else
    (b1 (rd (μ 76) 240 (μ 70 41)) fun v2 =>
    if v2 < 0 then
    some (μ)
    else
    (b1 (rd (μ 76) 240 (μ 70 41)) fun v5 =>
    b1 (rd (μ 77) 240 (μ 70 41)) fun v7 =>
    f_MO_mean_10 f (sI (sI μ 70 40 v5) 70 41 v7))))
def f_MO_mean (x0 : Int32) (x1 : Int32) (μ : Mu) : Option (Mu) :=
  (b1 (f_MO_mean_10 fu (sI (sI μ 70 40 x0) 70 41 x1)) fun μ9 =>
  some (μ9))
theorem t_MO_mean_10 {r : gv_O} {hf : gv_H} (fl : Nat) : ∀ {μ : Mu} {μz : Mu}, f_MO_mean_10 fl μ = some (μz) → gv_go G M_MO_mean (d + 0) r hf 57 [none, none, none, none] [] (hp n acc g cap μz) → gv_go G M_MO_mean (d + 0) r hf 10 [some (gR 70), none, none, none] [] (hp n acc g cap μ) := by
  induction fl with
  | zero => intro _ _ h _; cases h
  | succ f ih =>
    intro μ μz h KJ
    unfold f_MO_mean_10 at h
    refine gv_B ok_MO_mean 3 rfl ?_
    by_cases c1 : ¬ (μ 70 40) = 0
    · rw [if_pos c1] at h
      refine gv_brT c1 ?_
      have h9 := Option.some.inj h
      subst h9
      exact gv_fk KJ trivial
    · rw [if_neg c1] at h
      refine gv_brF c1 ?_
      refine gv_B ok_MO_mean 4 rfl ?_
      obtain ⟨v2, e3, h⟩ := b1_e h
      refine hp_rd ok_MO_mean rfl rfl e3 ?_
      refine gv_B ok_MO_mean 1 rfl ?_
      by_cases c4 : v2 < 0
      · rw [if_pos c4] at h
        refine gv_brT c4 ?_
        have h9 := Option.some.inj h
        subst h9
        exact gv_fk KJ trivial
      · rw [if_neg c4] at h
        refine gv_brF c4 ?_
        refine gv_B ok_MO_mean 7 rfl ?_
        obtain ⟨v5, e6, h⟩ := b1_e h
        refine hp_rd ok_MO_mean rfl rfl e6 ?_
        refine hp_pf ok_MO_mean rfl rfl rfl rfl rfl (Nat.le_of_ble_eq_true rfl) rfl ?_
        refine gv_B ok_MO_mean 4 rfl ?_
        obtain ⟨v7, e8, h⟩ := b1_e h
        refine hp_rd ok_MO_mean rfl rfl e8 ?_
        refine hp_pf ok_MO_mean rfl rfl rfl rfl rfl (Nat.le_of_ble_eq_true rfl) rfl ?_
        refine gv_B ok_MO_mean 1 rfl ?_
        exact gv_fk (ih h KJ) ⟨rfl, trivial⟩
theorem t_MO_mean {x0 : Int32} {x1 : Int32} {μ : Mu} {μr : Mu} (h : f_MO_mean x0 x1 μ = some (μr)) : gv_ev G (d + 0) M_MO_mean [gR 70, gI x0, gI x1] (hp n acc g cap μ) (.inl none) (hp n acc g cap μr) := by
  unfold f_MO_mean at h
  refine gv_E (ls := [some (gR 70), some (gI x0), some (gI x1), none]) (by decide) (fun h => by cases h) (Nat.le_of_ble_eq_true rfl) rfl ?_
  refine gv_B ok_MO_mean 2 rfl ?_
  refine hp_pf ok_MO_mean rfl rfl rfl rfl rfl (Nat.le_of_ble_eq_true rfl) rfl ?_
  refine gv_B ok_MO_mean 2 rfl ?_
  refine hp_pf ok_MO_mean rfl rfl rfl rfl rfl (Nat.le_of_ble_eq_true rfl) rfl ?_
  obtain ⟨μ9, e10, h⟩ := b1_e h
  have K11 : gv_go G M_MO_mean (d + 0) (.inl none) (hp n acc g cap μr) 57 [none, none, none, none] [] (hp n acc g cap μ9) := by
    have h9 := Option.some.inj h
    subst h9
    exact gv_Rv ok_MO_mean rfl rfl
  exact gv_fk (t_MO_mean_10 _ e10 K11) ⟨rfl, trivial⟩
def f_MO_push (x0 : Int32) (x1 : Int32) (μ : Mu) : Option (Mu) :=
  (b1 (wr μ 88 1600 (μ 70 30) x0) fun μ1 =>
  b1 (wr μ1 89 1600 (μ1 70 30) x1) fun μ3 =>
  some ((sI μ3 70 30 ((μ3 70 30) + 1))))
theorem t_MO_push {x0 : Int32} {x1 : Int32} {μ : Mu} {μr : Mu} (h : f_MO_push x0 x1 μ = some (μr)) : gv_ev G (d + 0) M_MO_push [gR 70, gI x0, gI x1] (hp n acc g cap μ) (.inl none) (hp n acc g cap μr) := by
  unfold f_MO_push at h
  refine gv_E (ls := [some (gR 70), some (gI x0), some (gI x1)]) (by decide) (fun h => by cases h) (Nat.le_of_ble_eq_true rfl) rfl ?_
  refine gv_B ok_MO_push 5 rfl ?_
  obtain ⟨μ1, e2, h⟩ := b1_e h
  refine hp_wr ok_MO_push rfl rfl rfl rfl e2 ?_
  refine gv_B ok_MO_push 5 rfl ?_
  obtain ⟨μ3, e4, h⟩ := b1_e h
  refine hp_wr ok_MO_push rfl rfl rfl rfl e4 ?_
  refine gv_B ok_MO_push 5 rfl ?_
  refine hp_pf ok_MO_push rfl rfl rfl rfl rfl (Nat.le_of_ble_eq_true rfl) rfl ?_
  have h9 := Option.some.inj h
  subst h9
  exact gv_Rv ok_MO_push rfl rfl
def f_MO_pushArguments_13 (k1 : Int32) : Nat → Int32 → Mu → Option (Mu)
  | 0, _, _ => none
  | f + 1, y2, μ =>
    (if y2 < 0 then
    some (μ)
    else
    (b1 (rd (μ 79) 720 ((3 * k1) + y2)) fun v6 =>
    b1 (rd (μ 76) 240 v6) fun v8 =>
    b1 (rd (μ 77) 240 v6) fun v10 =>
    b1 (f_MO_push v8 v10 μ) fun μ13 =>
    f_MO_pushArguments_13 k1 f (y2 + (-1)) μ13))
def f_MO_pushArguments (x0 : Int32) (μ : Mu) : Option (Mu) :=
  (b1 (rd (μ 78) 240 x0) fun v1 =>
  b1 (f_MO_arity v1 μ) fun v4 =>
  b1 (f_MO_pushArguments_13 x0 fu (v4 - 1) μ) fun μ14 =>
  some (μ14))
theorem t_MO_pushArguments_13 {r : gv_O} {hf : gv_H} {k1 : Int32} (fl : Nat) : ∀ {y2 : Int32} {μ : Mu} {μz : Mu}, f_MO_pushArguments_13 k1 fl y2 μ = some (μz) → gv_go G M_MO_pushArguments (d + 1) r hf 50 [none, none, none, none] [] (hp n acc g cap μz) → gv_go G M_MO_pushArguments (d + 1) r hf 13 [some (gR 70), some (gI k1), some (gI y2), none] [] (hp n acc g cap μ) := by
  induction fl with
  | zero => intro _ _ _ h _; cases h
  | succ f ih =>
    intro y2 μ μz h KJ
    unfold f_MO_pushArguments_13 at h
    refine gv_B ok_MO_pushArguments 2 rfl ?_
    by_cases c5 : y2 < 0
    · rw [if_pos c5] at h
      refine gv_brT c5 ?_
      have h9 := Option.some.inj h
      subst h9
      exact gv_fk KJ trivial
    · rw [if_neg c5] at h
      refine gv_brF c5 ?_
      refine gv_B ok_MO_pushArguments 7 rfl ?_
      obtain ⟨v6, e7, h⟩ := b1_e h
      refine hp_rd ok_MO_pushArguments rfl rfl e7 ?_
      refine gv_B ok_MO_pushArguments 5 rfl ?_
      obtain ⟨v8, e9, h⟩ := b1_e h
      refine hp_rd ok_MO_pushArguments rfl rfl e9 ?_
      refine gv_B ok_MO_pushArguments 3 rfl ?_
      obtain ⟨v10, e11, h⟩ := b1_e h
      refine hp_rd ok_MO_pushArguments rfl rfl e11 ?_
      obtain ⟨μ13, e12, h⟩ := b1_e h
      refine gv_Vc ok_MO_pushArguments rfl mk_MO_push rfl (t_MO_push (d := d) e12) rfl rfl (Nat.le_of_ble_eq_true rfl) rfl rfl rfl ?_
      refine gv_B ok_MO_pushArguments 2 rfl ?_
      exact gv_fk (ih h KJ) ⟨rfl, ⟨rfl, ⟨rfl, trivial⟩⟩⟩
theorem t_MO_pushArguments {x0 : Int32} {μ : Mu} {μr : Mu} (h : f_MO_pushArguments x0 μ = some (μr)) : gv_ev G (d + 1) M_MO_pushArguments [gR 70, gI x0] (hp n acc g cap μ) (.inl none) (hp n acc g cap μr) := by
  unfold f_MO_pushArguments at h
  refine gv_E (ls := [some (gR 70), some (gI x0), none, none]) (by decide) (fun h => by cases h) (Nat.le_of_ble_eq_true rfl) rfl ?_
  refine gv_B ok_MO_pushArguments 4 rfl ?_
  obtain ⟨v1, e2, h⟩ := b1_e h
  refine hp_rd ok_MO_pushArguments rfl rfl e2 ?_
  obtain ⟨v4, e3, h⟩ := b1_e h
  refine gv_Vc ok_MO_pushArguments rfl mk_MO_arity rfl (t_MO_arity (d := d) e3) rfl rfl (Nat.le_of_ble_eq_true rfl) rfl rfl rfl ?_
  refine gv_B ok_MO_pushArguments 3 rfl ?_
  obtain ⟨μ14, e15, h⟩ := b1_e h
  have K16 : gv_go G M_MO_pushArguments (d + 1) (.inl none) (hp n acc g cap μr) 50 [none, none, none, none] [] (hp n acc g cap μ14) := by
    have h9 := Option.some.inj h
    subst h9
    exact gv_Rv ok_MO_pushArguments rfl rfl
  exact t_MO_pushArguments_13 _ e15 K16
def f_MO_occurs_25 (k1 : Int32) (k4 : Int32) : Nat → Int32 → Mu → Option (Int32 × Mu)
  | 0, _, _ => none
  | f + 1, y5, μ =>
    (if (μ 70 30) ≤ k4 then
    some (y5, μ)
    else
    (b1 (rd (μ 88) 1600 ((μ 70 30) - 1)) fun v4 =>
    b1 (rd (μ 89) 1600 ((μ 70 30) - 1)) fun v6 =>
    b1 (f_MO_mean v4 v6 (sI μ 70 30 ((μ 70 30) - 1))) fun μ9 =>
    if ¬ (μ9 70 40) = 0 then
    (if ¬ (μ9 70 40) = 3 then
    f_MO_occurs_25 k1 k4 f y5 μ9
    else
    (b1 (rd (μ9 90) 240 (μ9 70 41)) fun v12 =>
    if v12 = (μ9 70 34) then
    f_MO_occurs_25 k1 k4 f y5 μ9
    else
    (b1 (wr μ9 90 240 (μ9 70 41) (μ9 70 34)) fun μ15 =>
    b1 (f_MO_pushArguments (μ15 70 41) μ15) fun μ18 =>
    f_MO_occurs_25 k1 k4 f y5 μ18)))
    else
    (b1 (if ¬ y5 = 0 then
    some ((1 : Int32))
    else
    (if ¬ (μ9 70 41) = k1 then
    some ((0 : Int32))
    else
    some ((1 : Int32)))) fun v19 =>
    f_MO_occurs_25 k1 k4 f v19 μ9)))
def f_MO_occurs (x0 : Int32) (x1 : Int32) (x2 : Int32) (μ : Mu) : Option (Int32 × Mu) :=
  (b1 (f_MO_push x1 x2 (sI μ 70 34 ((μ 70 34) + 1))) fun μ2 =>
  b2 (f_MO_occurs_25 x0 (μ 70 30) fu 0 μ2) fun l24 μ25 =>
  if (l24 = 0 ∨ l24 = 1) then some (l24, μ25) else none)
theorem t_MO_occurs_25 {r : gv_O} {hf : gv_H} {k1 : Int32} {k4 : Int32} (fl : Nat) : ∀ {y5 : Int32} {μ : Mu} {z5 : Int32} {μz : Mu}, f_MO_occurs_25 k1 k4 fl y5 μ = some (z5, μz) → gv_go G M_MO_occurs (d + 2) r hf 144 [none, none, none, none, none, some (gI z5)] [] (hp n acc g cap μz) → gv_go G M_MO_occurs (d + 2) r hf 25 [some (gR 70), some (gI k1), none, none, some (gI k4), some (gI y5)] [] (hp n acc g cap μ) := by
  induction fl with
  | zero => intro _ _ _ _ h _; cases h
  | succ f ih =>
    intro y5 μ z5 μz h KJ
    unfold f_MO_occurs_25 at h
    refine gv_B ok_MO_occurs 4 rfl ?_
    by_cases c3 : (μ 70 30) ≤ k4
    · rw [if_pos c3] at h
      refine gv_brT c3 ?_
      have j0 := Option.some.inj h
      obtain ⟨i1, j1⟩ := Prod.mk.inj j0
      subst i1
      subst j1
      exact gv_fk KJ ⟨rfl, trivial⟩
    · rw [if_neg c3] at h
      refine gv_brF c3 ?_
      refine gv_B ok_MO_occurs 5 rfl ?_
      refine hp_pf ok_MO_occurs rfl rfl rfl rfl rfl (Nat.le_of_ble_eq_true rfl) rfl ?_
      refine gv_B ok_MO_occurs 5 rfl ?_
      obtain ⟨v4, e5, h⟩ := b1_e h
      refine hp_rd ok_MO_occurs rfl rfl e5 ?_
      refine gv_B ok_MO_occurs 4 rfl ?_
      obtain ⟨v6, e7, h⟩ := b1_e h
      refine hp_rd ok_MO_occurs rfl rfl e7 ?_
      obtain ⟨μ9, e8, h⟩ := b1_e h
      refine gv_Vc ok_MO_occurs rfl mk_MO_mean rfl (t_MO_mean (d := d + 1) e8) rfl rfl (Nat.le_of_ble_eq_true rfl) rfl rfl rfl ?_
      refine gv_B ok_MO_occurs 3 rfl ?_
      by_cases c10 : ¬ (μ9 70 40) = 0
      · rw [if_pos c10] at h
        refine gv_brT c10 ?_
        refine gv_B ok_MO_occurs 4 rfl ?_
        by_cases c11 : ¬ (μ9 70 40) = 3
        · rw [if_pos c11] at h
          refine gv_brT c11 ?_
          exact ih h KJ
        · rw [if_neg c11] at h
          refine gv_brF c11 ?_
          refine gv_B ok_MO_occurs 4 rfl ?_
          obtain ⟨v12, e13, h⟩ := b1_e h
          refine hp_rd ok_MO_occurs rfl rfl e13 ?_
          refine gv_B ok_MO_occurs 3 rfl ?_
          by_cases c14 : v12 = (μ9 70 34)
          · rw [if_pos c14] at h
            refine gv_brT c14 ?_
            exact ih h KJ
          · rw [if_neg c14] at h
            refine gv_brF c14 ?_
            refine gv_B ok_MO_occurs 6 rfl ?_
            obtain ⟨μ15, e16, h⟩ := b1_e h
            refine hp_wr ok_MO_occurs rfl rfl rfl rfl e16 ?_
            refine gv_B ok_MO_occurs 3 rfl ?_
            obtain ⟨μ18, e17, h⟩ := b1_e h
            refine gv_Vc ok_MO_occurs rfl mk_MO_pushArguments rfl (t_MO_pushArguments (d := d) e17) rfl rfl (Nat.le_of_ble_eq_true rfl) rfl rfl rfl ?_
            refine gv_B ok_MO_occurs 1 rfl ?_
            exact ih h KJ
      · rw [if_neg c10] at h
        refine gv_brF c10 ?_
        refine gv_B ok_MO_occurs 2 rfl ?_
        obtain ⟨v19, e20, h⟩ := b1_e h
        have K21 : gv_go G M_MO_occurs (d + 2) r hf 91 [some (gR 70), some (gI k1), none, none, some (gI k4), none] [gI v19] (hp n acc g cap μ9) := by
          refine gv_B ok_MO_occurs 2 rfl ?_
          exact ih h KJ
        clear h
        have h := e20
        clear e20
        by_cases c22 : ¬ y5 = 0
        · rw [if_pos c22] at h
          refine gv_brT c22 ?_
          refine gv_B ok_MO_occurs 2 rfl ?_
          have h9 := Option.some.inj h
          subst h9
          exact gv_fk K21 ⟨rfl, ⟨rfl, ⟨rfl, trivial⟩⟩⟩
        · rw [if_neg c22] at h
          refine gv_brF c22 ?_
          refine gv_B ok_MO_occurs 4 rfl ?_
          by_cases c23 : ¬ (μ9 70 41) = k1
          · rw [if_pos c23] at h
            refine gv_brT c23 ?_
            refine gv_B ok_MO_occurs 1 rfl ?_
            have h9 := Option.some.inj h
            subst h9
            exact gv_fk K21 ⟨rfl, ⟨rfl, ⟨rfl, trivial⟩⟩⟩
          · rw [if_neg c23] at h
            refine gv_brF c23 ?_
            refine gv_B ok_MO_occurs 2 rfl ?_
            have h9 := Option.some.inj h
            subst h9
            exact gv_fk K21 ⟨rfl, ⟨rfl, ⟨rfl, trivial⟩⟩⟩
theorem t_MO_occurs {x0 : Int32} {x1 : Int32} {x2 : Int32} {μ : Mu} {r : Int32} {μr : Mu} (h : f_MO_occurs x0 x1 x2 μ = some (r, μr)) : gv_ev G (d + 2) M_MO_occurs [gR 70, gI x0, gI x1, gI x2] (hp n acc g cap μ) (.inl (some (gI r))) (hp n acc g cap μr) := by
  unfold f_MO_occurs at h
  refine gv_E (ls := [some (gR 70), some (gI x0), some (gI x1), some (gI x2), none, none]) (by decide) (fun h => by cases h) (Nat.le_of_ble_eq_true rfl) rfl ?_
  refine gv_B ok_MO_occurs 8 rfl ?_
  refine hp_pf ok_MO_occurs rfl rfl rfl rfl rfl (Nat.le_of_ble_eq_true rfl) rfl ?_
  refine gv_B ok_MO_occurs 5 rfl ?_
  obtain ⟨μ2, e1, h⟩ := b1_e h
  refine gv_Vc ok_MO_occurs rfl mk_MO_push rfl (t_MO_push (d := d + 1) e1) rfl rfl (Nat.le_of_ble_eq_true rfl) rfl rfl rfl ?_
  obtain ⟨l24, μ25, e26, h⟩ := b2_e h
  have K27 : gv_go G M_MO_occurs (d + 2) (.inl (some (gI r))) (hp n acc g cap μr) 144 [none, none, none, none, none, some (gI l24)] [] (hp n acc g cap μ25) := by
    refine gv_B ok_MO_occurs 1 rfl ?_
    by_cases c28 : (l24 = 0 ∨ l24 = 1)
    · rw [if_pos c28] at h
      have j0 := Option.some.inj h
      obtain ⟨i1, j1⟩ := Prod.mk.inj j0
      subst i1
      subst j1
      exact gv_Rz ok_MO_occurs rfl rfl c28
    · rw [if_neg c28] at h
      cases h
  exact gv_fk (t_MO_occurs_25 _ e26 K27) ⟨rfl, ⟨rfl, ⟨rfl, ⟨rfl, trivial⟩⟩⟩⟩
def f_MO_bind (x0 : Int32) (x1 : Int32) (x2 : Int32) (μ : Mu) : Option (Mu) :=
  (b1 (wr μ 76 240 x0 x1) fun μ1 =>
  b1 (wr μ1 77 240 x0 x2) fun μ3 =>
  b1 (wr μ3 86 2600 (μ3 70 23) x0) fun μ5 =>
  some ((sI μ5 70 23 ((μ5 70 23) + 1))))
theorem t_MO_bind {x0 : Int32} {x1 : Int32} {x2 : Int32} {μ : Mu} {μr : Mu} (h : f_MO_bind x0 x1 x2 μ = some (μr)) : gv_ev G (d + 0) M_MO_bind [gR 70, gI x0, gI x1, gI x2] (hp n acc g cap μ) (.inl none) (hp n acc g cap μr) := by
  unfold f_MO_bind at h
  refine gv_E (ls := [some (gR 70), some (gI x0), some (gI x1), some (gI x2)]) (by decide) (fun h => by cases h) (Nat.le_of_ble_eq_true rfl) rfl ?_
  refine gv_B ok_MO_bind 4 rfl ?_
  obtain ⟨μ1, e2, h⟩ := b1_e h
  refine hp_wr ok_MO_bind rfl rfl rfl rfl e2 ?_
  refine gv_B ok_MO_bind 4 rfl ?_
  obtain ⟨μ3, e4, h⟩ := b1_e h
  refine hp_wr ok_MO_bind rfl rfl rfl rfl e4 ?_
  refine gv_B ok_MO_bind 5 rfl ?_
  obtain ⟨μ5, e6, h⟩ := b1_e h
  refine hp_wr ok_MO_bind rfl rfl rfl rfl e6 ?_
  refine gv_B ok_MO_bind 5 rfl ?_
  refine hp_pf ok_MO_bind rfl rfl rfl rfl rfl (Nat.le_of_ble_eq_true rfl) rfl ?_
  have h9 := Option.some.inj h
  subst h9
  exact gv_Rv ok_MO_bind rfl rfl
def f_MO_pushPairs_13 (k1 : Int32) (k2 : Int32) : Nat → Int32 → Mu → Option (Mu)
  | 0, _, _ => none
  | f + 1, y3, μ =>
    (if y3 < 0 then
    some (μ)
    else
    (b1 (rd (μ 79) 720 ((3 * k1) + y3)) fun v6 =>
    b1 (rd (μ 79) 720 ((3 * k2) + y3)) fun v8 =>
    b1 (rd (μ 76) 240 v8) fun v10 =>
    b1 (rd (μ 77) 240 v8) fun v12 =>
    b1 (f_MO_push v10 v12 μ) fun μ15 =>
    b1 (rd (μ15 76) 240 v6) fun v16 =>
    b1 (rd (μ15 77) 240 v6) fun v18 =>
    b1 (f_MO_push v16 v18 μ15) fun μ21 =>
    f_MO_pushPairs_13 k1 k2 f (y3 + (-1)) μ21))
def f_MO_pushPairs (x0 : Int32) (x1 : Int32) (μ : Mu) : Option (Mu) :=
  (b1 (rd (μ 78) 240 x0) fun v1 =>
  b1 (f_MO_arity v1 μ) fun v4 =>
  b1 (f_MO_pushPairs_13 x0 x1 fu (v4 - 1) μ) fun μ22 =>
  some (μ22))
theorem t_MO_pushPairs_13 {r : gv_O} {hf : gv_H} {k1 : Int32} {k2 : Int32} (fl : Nat) : ∀ {y3 : Int32} {μ : Mu} {μz : Mu}, f_MO_pushPairs_13 k1 k2 fl y3 μ = some (μz) → gv_go G M_MO_pushPairs (d + 1) r hf 83 [none, none, none, none, none, none] [] (hp n acc g cap μz) → gv_go G M_MO_pushPairs (d + 1) r hf 13 [some (gR 70), some (gI k1), some (gI k2), some (gI y3), none, none] [] (hp n acc g cap μ) := by
  induction fl with
  | zero => intro _ _ _ h _; cases h
  | succ f ih =>
    intro y3 μ μz h KJ
    unfold f_MO_pushPairs_13 at h
    refine gv_B ok_MO_pushPairs 2 rfl ?_
    by_cases c5 : y3 < 0
    · rw [if_pos c5] at h
      refine gv_brT c5 ?_
      have h9 := Option.some.inj h
      subst h9
      exact gv_fk KJ trivial
    · rw [if_neg c5] at h
      refine gv_brF c5 ?_
      refine gv_B ok_MO_pushPairs 7 rfl ?_
      obtain ⟨v6, e7, h⟩ := b1_e h
      refine hp_rd ok_MO_pushPairs rfl rfl e7 ?_
      refine gv_B ok_MO_pushPairs 8 rfl ?_
      obtain ⟨v8, e9, h⟩ := b1_e h
      refine hp_rd ok_MO_pushPairs rfl rfl e9 ?_
      refine gv_B ok_MO_pushPairs 5 rfl ?_
      obtain ⟨v10, e11, h⟩ := b1_e h
      refine hp_rd ok_MO_pushPairs rfl rfl e11 ?_
      refine gv_B ok_MO_pushPairs 3 rfl ?_
      obtain ⟨v12, e13, h⟩ := b1_e h
      refine hp_rd ok_MO_pushPairs rfl rfl e13 ?_
      obtain ⟨μ15, e14, h⟩ := b1_e h
      refine gv_Vc ok_MO_pushPairs rfl mk_MO_push rfl (t_MO_push (d := d) e14) rfl rfl (Nat.le_of_ble_eq_true rfl) rfl rfl rfl ?_
      refine gv_B ok_MO_pushPairs 4 rfl ?_
      obtain ⟨v16, e17, h⟩ := b1_e h
      refine hp_rd ok_MO_pushPairs rfl rfl e17 ?_
      refine gv_B ok_MO_pushPairs 3 rfl ?_
      obtain ⟨v18, e19, h⟩ := b1_e h
      refine hp_rd ok_MO_pushPairs rfl rfl e19 ?_
      obtain ⟨μ21, e20, h⟩ := b1_e h
      refine gv_Vc ok_MO_pushPairs rfl mk_MO_push rfl (t_MO_push (d := d) e20) rfl rfl (Nat.le_of_ble_eq_true rfl) rfl rfl rfl ?_
      refine gv_B ok_MO_pushPairs 2 rfl ?_
      exact gv_fk (ih h KJ) ⟨rfl, ⟨rfl, ⟨rfl, ⟨rfl, trivial⟩⟩⟩⟩
theorem t_MO_pushPairs {x0 : Int32} {x1 : Int32} {μ : Mu} {μr : Mu} (h : f_MO_pushPairs x0 x1 μ = some (μr)) : gv_ev G (d + 1) M_MO_pushPairs [gR 70, gI x0, gI x1] (hp n acc g cap μ) (.inl none) (hp n acc g cap μr) := by
  unfold f_MO_pushPairs at h
  refine gv_E (ls := [some (gR 70), some (gI x0), some (gI x1), none, none, none]) (by decide) (fun h => by cases h) (Nat.le_of_ble_eq_true rfl) rfl ?_
  refine gv_B ok_MO_pushPairs 4 rfl ?_
  obtain ⟨v1, e2, h⟩ := b1_e h
  refine hp_rd ok_MO_pushPairs rfl rfl e2 ?_
  obtain ⟨v4, e3, h⟩ := b1_e h
  refine gv_Vc ok_MO_pushPairs rfl mk_MO_arity rfl (t_MO_arity (d := d) e3) rfl rfl (Nat.le_of_ble_eq_true rfl) rfl rfl rfl ?_
  refine gv_B ok_MO_pushPairs 3 rfl ?_
  obtain ⟨μ22, e23, h⟩ := b1_e h
  have K24 : gv_go G M_MO_pushPairs (d + 1) (.inl none) (hp n acc g cap μr) 83 [none, none, none, none, none, none] [] (hp n acc g cap μ22) := by
    have h9 := Option.some.inj h
    subst h9
    exact gv_Rv ok_MO_pushPairs rfl rfl
  exact t_MO_pushPairs_13 _ e23 K24
def f_MO_meet (x0 : Int32) (x1 : Int32) (x2 : Int32) (x3 : Int32) (μ : Mu) : Option (Mu) :=
  (if ¬ x0 = 0 then
  (if x0 = 0 then
  (b1 (if ¬ x0 = 0 then
  some (x3)
  else
  some (x1)) fun v3 =>
  b1 (if ¬ x0 = 0 then
  some (x0)
  else
  some (x2)) fun v7 =>
  b1 (if ¬ x0 = 0 then
  some (x1)
  else
  some (x3)) fun v11 =>
  b2 (f_MO_occurs v3 v7 v11 μ) fun v16 μ17 =>
  b1 (if v16 = 0 then
  (b1 (f_MO_bind v3 v7 v11 μ17) fun μ23 =>
  some (μ23))
  else
  some ((sI μ17 70 49 1))) fun μ18 =>
  some (μ18))
  else
  (if ¬ x2 = 0 then
  (if ¬ x0 = x2 then
  some ((sI μ 70 49 1))
  else
  (if x0 = 3 then
  (if ¬ x0 = 3 then
  (if ¬ x0 = 3 then
  some (μ)
  else
  (b1 (f_MO_pushPairs x1 x3 μ) fun μ30 =>
  some (μ30)))
  else
  (b1 (rd (μ 78) 240 x1) fun v31 =>
  b1 (rd (μ 78) 240 x3) fun v33 =>
  if v31 = v33 then
  (if ¬ x0 = 3 then
  some (μ)
  else
  (b1 (f_MO_pushPairs x1 x3 μ) fun μ38 =>
  some (μ38)))
  else
  some ((sI μ 70 49 1))))
  else
  (if ¬ x1 = x3 then
  some ((sI μ 70 49 1))
  else
  (if ¬ x0 = 3 then
  (if ¬ x0 = 3 then
  some (μ)
  else
  (b1 (f_MO_pushPairs x1 x3 μ) fun μ43 =>
  some (μ43)))
  else
  (b1 (rd (μ 78) 240 x1) fun v44 =>
  b1 (rd (μ 78) 240 x3) fun v46 =>
  if v44 = v46 then
  (if ¬ x0 = 3 then
  some (μ)
  else
  (b1 (f_MO_pushPairs x1 x3 μ) fun μ51 =>
  some (μ51)))
  else
  some ((sI μ 70 49 1)))))))
  else
  (b1 (if ¬ x0 = 0 then
  some (x3)
  else
  some (x1)) fun v52 =>
  b1 (if ¬ x0 = 0 then
  some (x0)
  else
  some (x2)) fun v56 =>
  b1 (if ¬ x0 = 0 then
  some (x1)
  else
  some (x3)) fun v60 =>
  b2 (f_MO_occurs v52 v56 v60 μ) fun v65 μ66 =>
  b1 (if v65 = 0 then
  (b1 (f_MO_bind v52 v56 v60 μ66) fun μ72 =>
  some (μ72))
  else
  some ((sI μ66 70 49 1))) fun μ67 =>
  some (μ67))))
  else
  (if ¬ x2 = 0 then
  (if x0 = 0 then
  (b1 (if ¬ x0 = 0 then
  some (x3)
  else
  some (x1)) fun v75 =>
  b1 (if ¬ x0 = 0 then
  some (x0)
  else
  some (x2)) fun v79 =>
  b1 (if ¬ x0 = 0 then
  some (x1)
  else
  some (x3)) fun v83 =>
  b2 (f_MO_occurs v75 v79 v83 μ) fun v88 μ89 =>
  b1 (if v88 = 0 then
  (b1 (f_MO_bind v75 v79 v83 μ89) fun μ95 =>
  some (μ95))
  else
  some ((sI μ89 70 49 1))) fun μ90 =>
  some (μ90))
  else
  (if ¬ x2 = 0 then
  (if ¬ x0 = x2 then
  some ((sI μ 70 49 1))
  else
  (if x0 = 3 then
  (if ¬ x0 = 3 then
  (if ¬ x0 = 3 then
  some (μ)
  else
  (b1 (f_MO_pushPairs x1 x3 μ) fun μ102 =>
  some (μ102)))
  else
  (b1 (rd (μ 78) 240 x1) fun v103 =>
  b1 (rd (μ 78) 240 x3) fun v105 =>
  if v103 = v105 then
  (if ¬ x0 = 3 then
  some (μ)
  else
  (b1 (f_MO_pushPairs x1 x3 μ) fun μ110 =>
  some (μ110)))
  else
  some ((sI μ 70 49 1))))
  else
  (if ¬ x1 = x3 then
  some ((sI μ 70 49 1))
  else
  (if ¬ x0 = 3 then
  (if ¬ x0 = 3 then
  some (μ)
  else
  (b1 (f_MO_pushPairs x1 x3 μ) fun μ115 =>
  some (μ115)))
  else
  (b1 (rd (μ 78) 240 x1) fun v116 =>
  b1 (rd (μ 78) 240 x3) fun v118 =>
  if v116 = v118 then
  (if ¬ x0 = 3 then
  some (μ)
  else
  (b1 (f_MO_pushPairs x1 x3 μ) fun μ123 =>
  some (μ123)))
  else
  some ((sI μ 70 49 1)))))))
  else
  (b1 (if ¬ x0 = 0 then
  some (x3)
  else
  some (x1)) fun v124 =>
  b1 (if ¬ x0 = 0 then
  some (x0)
  else
  some (x2)) fun v128 =>
  b1 (if ¬ x0 = 0 then
  some (x1)
  else
  some (x3)) fun v132 =>
  b2 (f_MO_occurs v124 v128 v132 μ) fun v137 μ138 =>
  b1 (if v137 = 0 then
  (b1 (f_MO_bind v124 v128 v132 μ138) fun μ144 =>
  some (μ144))
  else
  some ((sI μ138 70 49 1))) fun μ139 =>
  some (μ139))))
  else
  (if x1 = x3 then
  some (μ)
  else
  (b1 (rd (μ 75) 240 x1) fun v146 =>
  b1 (rd (μ 75) 240 x3) fun v148 =>
  b1 (if v146 ≤ v148 then
  some ((0 : Int32))
  else
  some ((1 : Int32))) fun v150 =>
  b1 (if v150 = 0 then
  some (x3)
  else
  some (x1)) fun v154 =>
  b1 (if v150 = 0 then
  some (x1)
  else
  some (x3)) fun v158 =>
  b1 (f_MO_bind v154 0 v158 μ) fun μ163 =>
  some (μ163)))))
theorem t_MO_meet {x0 : Int32} {x1 : Int32} {x2 : Int32} {x3 : Int32} {μ : Mu} {μr : Mu} (h : f_MO_meet x0 x1 x2 x3 μ = some (μr)) : gv_ev G (d + 3) M_MO_meet [gR 70, gI x0, gI x1, gI x2, gI x3] (hp n acc g cap μ) (.inl none) (hp n acc g cap μr) := by
  unfold f_MO_meet at h
  refine gv_E (ls := [some (gR 70), some (gI x0), some (gI x1), some (gI x2), some (gI x3), none, none, none]) (by decide) (fun h => by cases h) (Nat.le_of_ble_eq_true rfl) rfl ?_
  refine gv_B ok_MO_meet 2 rfl ?_
  by_cases c1 : ¬ x0 = 0
  · rw [if_pos c1] at h
    refine gv_brT c1 ?_
    refine gv_B ok_MO_meet 2 rfl ?_
    by_cases c2 : x0 = 0
    · rw [if_pos c2] at h
      refine gv_brT c2 ?_
      refine gv_B ok_MO_meet 2 rfl ?_
      obtain ⟨v3, e4, h⟩ := b1_e h
      have K5 : gv_go G M_MO_meet (d + 3) (.inl none) (hp n acc g cap μr) 85 [some (gR 70), some (gI x0), some (gI x1), some (gI x2), some (gI x3), none, none, none] [gI v3] (hp n acc g cap μ) := by
        refine gv_B ok_MO_meet 3 rfl ?_
        obtain ⟨v7, e8, h⟩ := b1_e h
        have K9 : gv_go G M_MO_meet (d + 3) (.inl none) (hp n acc g cap μr) 96 [some (gR 70), some (gI x0), some (gI x1), none, some (gI x3), some (gI v3), none, none] [gI v7] (hp n acc g cap μ) := by
          refine gv_B ok_MO_meet 3 rfl ?_
          obtain ⟨v11, e12, h⟩ := b1_e h
          have K13 : gv_go G M_MO_meet (d + 3) (.inl none) (hp n acc g cap μr) 108 [some (gR 70), none, none, none, none, some (gI v3), some (gI v7), none] [gI v11] (hp n acc g cap μ) := by
            refine gv_B ok_MO_meet 5 rfl ?_
            obtain ⟨v16, μ17, e15, h⟩ := b2_e h
            refine gv_Vc ok_MO_meet rfl mk_MO_occurs rfl (t_MO_occurs (d := d) e15) rfl rfl (Nat.le_of_ble_eq_true rfl) rfl rfl rfl ?_
            refine gv_B ok_MO_meet 1 rfl ?_
            obtain ⟨μ18, e19, h⟩ := b1_e h
            have K20 : gv_go G M_MO_meet (d + 3) (.inl none) (hp n acc g cap μr) 141 [none, none, none, none, none, none, none, none] [] (hp n acc g cap μ18) := by
              refine gv_B ok_MO_meet 1 rfl ?_
              have h9 := Option.some.inj h
              subst h9
              exact gv_Rv ok_MO_meet rfl rfl
            clear h
            have h := e19
            clear e19
            by_cases c21 : v16 = 0
            · rw [if_pos c21] at h
              refine gv_brT c21 ?_
              refine gv_B ok_MO_meet 4 rfl ?_
              obtain ⟨μ23, e22, h⟩ := b1_e h
              refine gv_Vc ok_MO_meet rfl mk_MO_bind rfl (t_MO_bind (d := d + 2) e22) rfl rfl (Nat.le_of_ble_eq_true rfl) rfl rfl rfl ?_
              have h9 := Option.some.inj h
              subst h9
              exact gv_fk K20 trivial
            · rw [if_neg c21] at h
              refine gv_brF c21 ?_
              refine gv_B ok_MO_meet 2 rfl ?_
              refine hp_pf ok_MO_meet rfl rfl rfl rfl rfl (Nat.le_of_ble_eq_true rfl) rfl ?_
              refine gv_B ok_MO_meet 1 rfl ?_
              have h9 := Option.some.inj h
              subst h9
              exact gv_fk K20 trivial
          clear h
          have h := e12
          clear e12
          by_cases c14 : ¬ x0 = 0
          · rw [if_pos c14] at h
            refine gv_brT c14 ?_
            refine gv_B ok_MO_meet 1 rfl ?_
            have h9 := Option.some.inj h
            subst h9
            exact gv_fk K13 ⟨rfl, ⟨rfl, ⟨rfl, trivial⟩⟩⟩
          · rw [if_neg c14] at h
            refine gv_brF c14 ?_
            refine gv_B ok_MO_meet 2 rfl ?_
            have h9 := Option.some.inj h
            subst h9
            exact gv_fk K13 ⟨rfl, ⟨rfl, ⟨rfl, trivial⟩⟩⟩
        clear h
        have h := e8
        clear e8
        by_cases c10 : ¬ x0 = 0
        · rw [if_pos c10] at h
          refine gv_brT c10 ?_
          refine gv_B ok_MO_meet 1 rfl ?_
          have h9 := Option.some.inj h
          subst h9
          exact gv_fk K9 ⟨rfl, ⟨rfl, ⟨rfl, ⟨rfl, ⟨rfl, trivial⟩⟩⟩⟩⟩
        · rw [if_neg c10] at h
          refine gv_brF c10 ?_
          refine gv_B ok_MO_meet 2 rfl ?_
          have h9 := Option.some.inj h
          subst h9
          exact gv_fk K9 ⟨rfl, ⟨rfl, ⟨rfl, ⟨rfl, ⟨rfl, trivial⟩⟩⟩⟩⟩
      clear h
      have h := e4
      clear e4
      by_cases c6 : ¬ x0 = 0
      · rw [if_pos c6] at h
        refine gv_brT c6 ?_
        refine gv_B ok_MO_meet 1 rfl ?_
        have h9 := Option.some.inj h
        subst h9
        exact K5
      · rw [if_neg c6] at h
        refine gv_brF c6 ?_
        refine gv_B ok_MO_meet 2 rfl ?_
        have h9 := Option.some.inj h
        subst h9
        exact K5
    · rw [if_neg c2] at h
      refine gv_brF c2 ?_
      refine gv_B ok_MO_meet 2 rfl ?_
      by_cases c24 : ¬ x2 = 0
      · rw [if_pos c24] at h
        refine gv_brT c24 ?_
        refine gv_B ok_MO_meet 3 rfl ?_
        by_cases c25 : ¬ x0 = x2
        · rw [if_pos c25] at h
          refine gv_brT c25 ?_
          refine gv_B ok_MO_meet 2 rfl ?_
          refine hp_pf ok_MO_meet rfl rfl rfl rfl rfl (Nat.le_of_ble_eq_true rfl) rfl ?_
          refine gv_B ok_MO_meet 1 rfl ?_
          have h9 := Option.some.inj h
          subst h9
          exact gv_Rv ok_MO_meet rfl rfl
        · rw [if_neg c25] at h
          refine gv_brF c25 ?_
          refine gv_B ok_MO_meet 3 rfl ?_
          by_cases c26 : x0 = 3
          · rw [if_pos c26] at h
            refine gv_brT c26 ?_
            refine gv_B ok_MO_meet 3 rfl ?_
            by_cases c27 : ¬ x0 = 3
            · rw [if_pos c27] at h
              refine gv_brT c27 ?_
              refine gv_B ok_MO_meet 3 rfl ?_
              by_cases c28 : ¬ x0 = 3
              · rw [if_pos c28] at h
                refine gv_brT c28 ?_
                have h9 := Option.some.inj h
                subst h9
                exact gv_Rv ok_MO_meet rfl rfl
              · rw [if_neg c28] at h
                refine gv_brF c28 ?_
                refine gv_B ok_MO_meet 3 rfl ?_
                obtain ⟨μ30, e29, h⟩ := b1_e h
                refine gv_Vc ok_MO_meet rfl mk_MO_pushPairs rfl (t_MO_pushPairs (d := d + 1) e29) rfl rfl (Nat.le_of_ble_eq_true rfl) rfl rfl rfl ?_
                have h9 := Option.some.inj h
                subst h9
                exact gv_Rv ok_MO_meet rfl rfl
            · rw [if_neg c27] at h
              refine gv_brF c27 ?_
              refine gv_B ok_MO_meet 3 rfl ?_
              obtain ⟨v31, e32, h⟩ := b1_e h
              refine hp_rd ok_MO_meet rfl rfl e32 ?_
              refine gv_B ok_MO_meet 3 rfl ?_
              obtain ⟨v33, e34, h⟩ := b1_e h
              refine hp_rd ok_MO_meet rfl rfl e34 ?_
              refine gv_B ok_MO_meet 1 rfl ?_
              by_cases c35 : v31 = v33
              · rw [if_pos c35] at h
                refine gv_brT c35 ?_
                refine gv_B ok_MO_meet 3 rfl ?_
                by_cases c36 : ¬ x0 = 3
                · rw [if_pos c36] at h
                  refine gv_brT c36 ?_
                  have h9 := Option.some.inj h
                  subst h9
                  exact gv_Rv ok_MO_meet rfl rfl
                · rw [if_neg c36] at h
                  refine gv_brF c36 ?_
                  refine gv_B ok_MO_meet 3 rfl ?_
                  obtain ⟨μ38, e37, h⟩ := b1_e h
                  refine gv_Vc ok_MO_meet rfl mk_MO_pushPairs rfl (t_MO_pushPairs (d := d + 1) e37) rfl rfl (Nat.le_of_ble_eq_true rfl) rfl rfl rfl ?_
                  have h9 := Option.some.inj h
                  subst h9
                  exact gv_Rv ok_MO_meet rfl rfl
              · rw [if_neg c35] at h
                refine gv_brF c35 ?_
                refine gv_B ok_MO_meet 2 rfl ?_
                refine hp_pf ok_MO_meet rfl rfl rfl rfl rfl (Nat.le_of_ble_eq_true rfl) rfl ?_
                refine gv_B ok_MO_meet 1 rfl ?_
                have h9 := Option.some.inj h
                subst h9
                exact gv_Rv ok_MO_meet rfl rfl
          · rw [if_neg c26] at h
            refine gv_brF c26 ?_
            refine gv_B ok_MO_meet 3 rfl ?_
            by_cases c39 : ¬ x1 = x3
            · rw [if_pos c39] at h
              refine gv_brT c39 ?_
              refine gv_B ok_MO_meet 2 rfl ?_
              refine hp_pf ok_MO_meet rfl rfl rfl rfl rfl (Nat.le_of_ble_eq_true rfl) rfl ?_
              refine gv_B ok_MO_meet 1 rfl ?_
              have h9 := Option.some.inj h
              subst h9
              exact gv_Rv ok_MO_meet rfl rfl
            · rw [if_neg c39] at h
              refine gv_brF c39 ?_
              refine gv_B ok_MO_meet 3 rfl ?_
              by_cases c40 : ¬ x0 = 3
              · rw [if_pos c40] at h
                refine gv_brT c40 ?_
                refine gv_B ok_MO_meet 3 rfl ?_
                by_cases c41 : ¬ x0 = 3
                · rw [if_pos c41] at h
                  refine gv_brT c41 ?_
                  have h9 := Option.some.inj h
                  subst h9
                  exact gv_Rv ok_MO_meet rfl rfl
                · rw [if_neg c41] at h
                  refine gv_brF c41 ?_
                  refine gv_B ok_MO_meet 3 rfl ?_
                  obtain ⟨μ43, e42, h⟩ := b1_e h
                  refine gv_Vc ok_MO_meet rfl mk_MO_pushPairs rfl (t_MO_pushPairs (d := d + 1) e42) rfl rfl (Nat.le_of_ble_eq_true rfl) rfl rfl rfl ?_
                  have h9 := Option.some.inj h
                  subst h9
                  exact gv_Rv ok_MO_meet rfl rfl
              · rw [if_neg c40] at h
                refine gv_brF c40 ?_
                refine gv_B ok_MO_meet 3 rfl ?_
                obtain ⟨v44, e45, h⟩ := b1_e h
                refine hp_rd ok_MO_meet rfl rfl e45 ?_
                refine gv_B ok_MO_meet 3 rfl ?_
                obtain ⟨v46, e47, h⟩ := b1_e h
                refine hp_rd ok_MO_meet rfl rfl e47 ?_
                refine gv_B ok_MO_meet 1 rfl ?_
                by_cases c48 : v44 = v46
                · rw [if_pos c48] at h
                  refine gv_brT c48 ?_
                  refine gv_B ok_MO_meet 3 rfl ?_
                  by_cases c49 : ¬ x0 = 3
                  · rw [if_pos c49] at h
                    refine gv_brT c49 ?_
                    have h9 := Option.some.inj h
                    subst h9
                    exact gv_Rv ok_MO_meet rfl rfl
                  · rw [if_neg c49] at h
                    refine gv_brF c49 ?_
                    refine gv_B ok_MO_meet 3 rfl ?_
                    obtain ⟨μ51, e50, h⟩ := b1_e h
                    refine gv_Vc ok_MO_meet rfl mk_MO_pushPairs rfl (t_MO_pushPairs (d := d + 1) e50) rfl rfl (Nat.le_of_ble_eq_true rfl) rfl rfl rfl ?_
                    have h9 := Option.some.inj h
                    subst h9
                    exact gv_Rv ok_MO_meet rfl rfl
                · rw [if_neg c48] at h
                  refine gv_brF c48 ?_
                  refine gv_B ok_MO_meet 2 rfl ?_
                  refine hp_pf ok_MO_meet rfl rfl rfl rfl rfl (Nat.le_of_ble_eq_true rfl) rfl ?_
                  refine gv_B ok_MO_meet 1 rfl ?_
                  have h9 := Option.some.inj h
                  subst h9
                  exact gv_Rv ok_MO_meet rfl rfl
      · rw [if_neg c24] at h
        refine gv_brF c24 ?_
        refine gv_B ok_MO_meet 2 rfl ?_
        obtain ⟨v52, e53, h⟩ := b1_e h
        have K54 : gv_go G M_MO_meet (d + 3) (.inl none) (hp n acc g cap μr) 85 [some (gR 70), some (gI x0), some (gI x1), some (gI x2), some (gI x3), none, none, none] [gI v52] (hp n acc g cap μ) := by
          refine gv_B ok_MO_meet 3 rfl ?_
          obtain ⟨v56, e57, h⟩ := b1_e h
          have K58 : gv_go G M_MO_meet (d + 3) (.inl none) (hp n acc g cap μr) 96 [some (gR 70), some (gI x0), some (gI x1), none, some (gI x3), some (gI v52), none, none] [gI v56] (hp n acc g cap μ) := by
            refine gv_B ok_MO_meet 3 rfl ?_
            obtain ⟨v60, e61, h⟩ := b1_e h
            have K62 : gv_go G M_MO_meet (d + 3) (.inl none) (hp n acc g cap μr) 108 [some (gR 70), none, none, none, none, some (gI v52), some (gI v56), none] [gI v60] (hp n acc g cap μ) := by
              refine gv_B ok_MO_meet 5 rfl ?_
              obtain ⟨v65, μ66, e64, h⟩ := b2_e h
              refine gv_Vc ok_MO_meet rfl mk_MO_occurs rfl (t_MO_occurs (d := d) e64) rfl rfl (Nat.le_of_ble_eq_true rfl) rfl rfl rfl ?_
              refine gv_B ok_MO_meet 1 rfl ?_
              obtain ⟨μ67, e68, h⟩ := b1_e h
              have K69 : gv_go G M_MO_meet (d + 3) (.inl none) (hp n acc g cap μr) 141 [none, none, none, none, none, none, none, none] [] (hp n acc g cap μ67) := by
                refine gv_B ok_MO_meet 1 rfl ?_
                have h9 := Option.some.inj h
                subst h9
                exact gv_Rv ok_MO_meet rfl rfl
              clear h
              have h := e68
              clear e68
              by_cases c70 : v65 = 0
              · rw [if_pos c70] at h
                refine gv_brT c70 ?_
                refine gv_B ok_MO_meet 4 rfl ?_
                obtain ⟨μ72, e71, h⟩ := b1_e h
                refine gv_Vc ok_MO_meet rfl mk_MO_bind rfl (t_MO_bind (d := d + 2) e71) rfl rfl (Nat.le_of_ble_eq_true rfl) rfl rfl rfl ?_
                have h9 := Option.some.inj h
                subst h9
                exact gv_fk K69 trivial
              · rw [if_neg c70] at h
                refine gv_brF c70 ?_
                refine gv_B ok_MO_meet 2 rfl ?_
                refine hp_pf ok_MO_meet rfl rfl rfl rfl rfl (Nat.le_of_ble_eq_true rfl) rfl ?_
                refine gv_B ok_MO_meet 1 rfl ?_
                have h9 := Option.some.inj h
                subst h9
                exact gv_fk K69 trivial
            clear h
            have h := e61
            clear e61
            by_cases c63 : ¬ x0 = 0
            · rw [if_pos c63] at h
              refine gv_brT c63 ?_
              refine gv_B ok_MO_meet 1 rfl ?_
              have h9 := Option.some.inj h
              subst h9
              exact gv_fk K62 ⟨rfl, ⟨rfl, ⟨rfl, trivial⟩⟩⟩
            · rw [if_neg c63] at h
              refine gv_brF c63 ?_
              refine gv_B ok_MO_meet 2 rfl ?_
              have h9 := Option.some.inj h
              subst h9
              exact gv_fk K62 ⟨rfl, ⟨rfl, ⟨rfl, trivial⟩⟩⟩
          clear h
          have h := e57
          clear e57
          by_cases c59 : ¬ x0 = 0
          · rw [if_pos c59] at h
            refine gv_brT c59 ?_
            refine gv_B ok_MO_meet 1 rfl ?_
            have h9 := Option.some.inj h
            subst h9
            exact gv_fk K58 ⟨rfl, ⟨rfl, ⟨rfl, ⟨rfl, ⟨rfl, trivial⟩⟩⟩⟩⟩
          · rw [if_neg c59] at h
            refine gv_brF c59 ?_
            refine gv_B ok_MO_meet 2 rfl ?_
            have h9 := Option.some.inj h
            subst h9
            exact gv_fk K58 ⟨rfl, ⟨rfl, ⟨rfl, ⟨rfl, ⟨rfl, trivial⟩⟩⟩⟩⟩
        clear h
        have h := e53
        clear e53
        by_cases c55 : ¬ x0 = 0
        · rw [if_pos c55] at h
          refine gv_brT c55 ?_
          refine gv_B ok_MO_meet 1 rfl ?_
          have h9 := Option.some.inj h
          subst h9
          exact K54
        · rw [if_neg c55] at h
          refine gv_brF c55 ?_
          refine gv_B ok_MO_meet 2 rfl ?_
          have h9 := Option.some.inj h
          subst h9
          exact K54
  · rw [if_neg c1] at h
    refine gv_brF c1 ?_
    refine gv_B ok_MO_meet 2 rfl ?_
    by_cases c73 : ¬ x2 = 0
    · rw [if_pos c73] at h
      refine gv_brT c73 ?_
      refine gv_B ok_MO_meet 2 rfl ?_
      by_cases c74 : x0 = 0
      · rw [if_pos c74] at h
        refine gv_brT c74 ?_
        refine gv_B ok_MO_meet 2 rfl ?_
        obtain ⟨v75, e76, h⟩ := b1_e h
        have K77 : gv_go G M_MO_meet (d + 3) (.inl none) (hp n acc g cap μr) 85 [some (gR 70), some (gI x0), some (gI x1), some (gI x2), some (gI x3), none, none, none] [gI v75] (hp n acc g cap μ) := by
          refine gv_B ok_MO_meet 3 rfl ?_
          obtain ⟨v79, e80, h⟩ := b1_e h
          have K81 : gv_go G M_MO_meet (d + 3) (.inl none) (hp n acc g cap μr) 96 [some (gR 70), some (gI x0), some (gI x1), none, some (gI x3), some (gI v75), none, none] [gI v79] (hp n acc g cap μ) := by
            refine gv_B ok_MO_meet 3 rfl ?_
            obtain ⟨v83, e84, h⟩ := b1_e h
            have K85 : gv_go G M_MO_meet (d + 3) (.inl none) (hp n acc g cap μr) 108 [some (gR 70), none, none, none, none, some (gI v75), some (gI v79), none] [gI v83] (hp n acc g cap μ) := by
              refine gv_B ok_MO_meet 5 rfl ?_
              obtain ⟨v88, μ89, e87, h⟩ := b2_e h
              refine gv_Vc ok_MO_meet rfl mk_MO_occurs rfl (t_MO_occurs (d := d) e87) rfl rfl (Nat.le_of_ble_eq_true rfl) rfl rfl rfl ?_
              refine gv_B ok_MO_meet 1 rfl ?_
              obtain ⟨μ90, e91, h⟩ := b1_e h
              have K92 : gv_go G M_MO_meet (d + 3) (.inl none) (hp n acc g cap μr) 141 [none, none, none, none, none, none, none, none] [] (hp n acc g cap μ90) := by
                refine gv_B ok_MO_meet 1 rfl ?_
                have h9 := Option.some.inj h
                subst h9
                exact gv_Rv ok_MO_meet rfl rfl
              clear h
              have h := e91
              clear e91
              by_cases c93 : v88 = 0
              · rw [if_pos c93] at h
                refine gv_brT c93 ?_
                refine gv_B ok_MO_meet 4 rfl ?_
                obtain ⟨μ95, e94, h⟩ := b1_e h
                refine gv_Vc ok_MO_meet rfl mk_MO_bind rfl (t_MO_bind (d := d + 2) e94) rfl rfl (Nat.le_of_ble_eq_true rfl) rfl rfl rfl ?_
                have h9 := Option.some.inj h
                subst h9
                exact gv_fk K92 trivial
              · rw [if_neg c93] at h
                refine gv_brF c93 ?_
                refine gv_B ok_MO_meet 2 rfl ?_
                refine hp_pf ok_MO_meet rfl rfl rfl rfl rfl (Nat.le_of_ble_eq_true rfl) rfl ?_
                refine gv_B ok_MO_meet 1 rfl ?_
                have h9 := Option.some.inj h
                subst h9
                exact gv_fk K92 trivial
            clear h
            have h := e84
            clear e84
            by_cases c86 : ¬ x0 = 0
            · rw [if_pos c86] at h
              refine gv_brT c86 ?_
              refine gv_B ok_MO_meet 1 rfl ?_
              have h9 := Option.some.inj h
              subst h9
              exact gv_fk K85 ⟨rfl, ⟨rfl, ⟨rfl, trivial⟩⟩⟩
            · rw [if_neg c86] at h
              refine gv_brF c86 ?_
              refine gv_B ok_MO_meet 2 rfl ?_
              have h9 := Option.some.inj h
              subst h9
              exact gv_fk K85 ⟨rfl, ⟨rfl, ⟨rfl, trivial⟩⟩⟩
          clear h
          have h := e80
          clear e80
          by_cases c82 : ¬ x0 = 0
          · rw [if_pos c82] at h
            refine gv_brT c82 ?_
            refine gv_B ok_MO_meet 1 rfl ?_
            have h9 := Option.some.inj h
            subst h9
            exact gv_fk K81 ⟨rfl, ⟨rfl, ⟨rfl, ⟨rfl, ⟨rfl, trivial⟩⟩⟩⟩⟩
          · rw [if_neg c82] at h
            refine gv_brF c82 ?_
            refine gv_B ok_MO_meet 2 rfl ?_
            have h9 := Option.some.inj h
            subst h9
            exact gv_fk K81 ⟨rfl, ⟨rfl, ⟨rfl, ⟨rfl, ⟨rfl, trivial⟩⟩⟩⟩⟩
        clear h
        have h := e76
        clear e76
        by_cases c78 : ¬ x0 = 0
        · rw [if_pos c78] at h
          refine gv_brT c78 ?_
          refine gv_B ok_MO_meet 1 rfl ?_
          have h9 := Option.some.inj h
          subst h9
          exact K77
        · rw [if_neg c78] at h
          refine gv_brF c78 ?_
          refine gv_B ok_MO_meet 2 rfl ?_
          have h9 := Option.some.inj h
          subst h9
          exact K77
      · rw [if_neg c74] at h
        refine gv_brF c74 ?_
        refine gv_B ok_MO_meet 2 rfl ?_
        by_cases c96 : ¬ x2 = 0
        · rw [if_pos c96] at h
          refine gv_brT c96 ?_
          refine gv_B ok_MO_meet 3 rfl ?_
          by_cases c97 : ¬ x0 = x2
          · rw [if_pos c97] at h
            refine gv_brT c97 ?_
            refine gv_B ok_MO_meet 2 rfl ?_
            refine hp_pf ok_MO_meet rfl rfl rfl rfl rfl (Nat.le_of_ble_eq_true rfl) rfl ?_
            refine gv_B ok_MO_meet 1 rfl ?_
            have h9 := Option.some.inj h
            subst h9
            exact gv_Rv ok_MO_meet rfl rfl
          · rw [if_neg c97] at h
            refine gv_brF c97 ?_
            refine gv_B ok_MO_meet 3 rfl ?_
            by_cases c98 : x0 = 3
            · rw [if_pos c98] at h
              refine gv_brT c98 ?_
              refine gv_B ok_MO_meet 3 rfl ?_
              by_cases c99 : ¬ x0 = 3
              · rw [if_pos c99] at h
                refine gv_brT c99 ?_
                refine gv_B ok_MO_meet 3 rfl ?_
                by_cases c100 : ¬ x0 = 3
                · rw [if_pos c100] at h
                  refine gv_brT c100 ?_
                  have h9 := Option.some.inj h
                  subst h9
                  exact gv_Rv ok_MO_meet rfl rfl
                · rw [if_neg c100] at h
                  refine gv_brF c100 ?_
                  refine gv_B ok_MO_meet 3 rfl ?_
                  obtain ⟨μ102, e101, h⟩ := b1_e h
                  refine gv_Vc ok_MO_meet rfl mk_MO_pushPairs rfl (t_MO_pushPairs (d := d + 1) e101) rfl rfl (Nat.le_of_ble_eq_true rfl) rfl rfl rfl ?_
                  have h9 := Option.some.inj h
                  subst h9
                  exact gv_Rv ok_MO_meet rfl rfl
              · rw [if_neg c99] at h
                refine gv_brF c99 ?_
                refine gv_B ok_MO_meet 3 rfl ?_
                obtain ⟨v103, e104, h⟩ := b1_e h
                refine hp_rd ok_MO_meet rfl rfl e104 ?_
                refine gv_B ok_MO_meet 3 rfl ?_
                obtain ⟨v105, e106, h⟩ := b1_e h
                refine hp_rd ok_MO_meet rfl rfl e106 ?_
                refine gv_B ok_MO_meet 1 rfl ?_
                by_cases c107 : v103 = v105
                · rw [if_pos c107] at h
                  refine gv_brT c107 ?_
                  refine gv_B ok_MO_meet 3 rfl ?_
                  by_cases c108 : ¬ x0 = 3
                  · rw [if_pos c108] at h
                    refine gv_brT c108 ?_
                    have h9 := Option.some.inj h
                    subst h9
                    exact gv_Rv ok_MO_meet rfl rfl
                  · rw [if_neg c108] at h
                    refine gv_brF c108 ?_
                    refine gv_B ok_MO_meet 3 rfl ?_
                    obtain ⟨μ110, e109, h⟩ := b1_e h
                    refine gv_Vc ok_MO_meet rfl mk_MO_pushPairs rfl (t_MO_pushPairs (d := d + 1) e109) rfl rfl (Nat.le_of_ble_eq_true rfl) rfl rfl rfl ?_
                    have h9 := Option.some.inj h
                    subst h9
                    exact gv_Rv ok_MO_meet rfl rfl
                · rw [if_neg c107] at h
                  refine gv_brF c107 ?_
                  refine gv_B ok_MO_meet 2 rfl ?_
                  refine hp_pf ok_MO_meet rfl rfl rfl rfl rfl (Nat.le_of_ble_eq_true rfl) rfl ?_
                  refine gv_B ok_MO_meet 1 rfl ?_
                  have h9 := Option.some.inj h
                  subst h9
                  exact gv_Rv ok_MO_meet rfl rfl
            · rw [if_neg c98] at h
              refine gv_brF c98 ?_
              refine gv_B ok_MO_meet 3 rfl ?_
              by_cases c111 : ¬ x1 = x3
              · rw [if_pos c111] at h
                refine gv_brT c111 ?_
                refine gv_B ok_MO_meet 2 rfl ?_
                refine hp_pf ok_MO_meet rfl rfl rfl rfl rfl (Nat.le_of_ble_eq_true rfl) rfl ?_
                refine gv_B ok_MO_meet 1 rfl ?_
                have h9 := Option.some.inj h
                subst h9
                exact gv_Rv ok_MO_meet rfl rfl
              · rw [if_neg c111] at h
                refine gv_brF c111 ?_
                refine gv_B ok_MO_meet 3 rfl ?_
                by_cases c112 : ¬ x0 = 3
                · rw [if_pos c112] at h
                  refine gv_brT c112 ?_
                  refine gv_B ok_MO_meet 3 rfl ?_
                  by_cases c113 : ¬ x0 = 3
                  · rw [if_pos c113] at h
                    refine gv_brT c113 ?_
                    have h9 := Option.some.inj h
                    subst h9
                    exact gv_Rv ok_MO_meet rfl rfl
                  · rw [if_neg c113] at h
                    refine gv_brF c113 ?_
                    refine gv_B ok_MO_meet 3 rfl ?_
                    obtain ⟨μ115, e114, h⟩ := b1_e h
                    refine gv_Vc ok_MO_meet rfl mk_MO_pushPairs rfl (t_MO_pushPairs (d := d + 1) e114) rfl rfl (Nat.le_of_ble_eq_true rfl) rfl rfl rfl ?_
                    have h9 := Option.some.inj h
                    subst h9
                    exact gv_Rv ok_MO_meet rfl rfl
                · rw [if_neg c112] at h
                  refine gv_brF c112 ?_
                  refine gv_B ok_MO_meet 3 rfl ?_
                  obtain ⟨v116, e117, h⟩ := b1_e h
                  refine hp_rd ok_MO_meet rfl rfl e117 ?_
                  refine gv_B ok_MO_meet 3 rfl ?_
                  obtain ⟨v118, e119, h⟩ := b1_e h
                  refine hp_rd ok_MO_meet rfl rfl e119 ?_
                  refine gv_B ok_MO_meet 1 rfl ?_
                  by_cases c120 : v116 = v118
                  · rw [if_pos c120] at h
                    refine gv_brT c120 ?_
                    refine gv_B ok_MO_meet 3 rfl ?_
                    by_cases c121 : ¬ x0 = 3
                    · rw [if_pos c121] at h
                      refine gv_brT c121 ?_
                      have h9 := Option.some.inj h
                      subst h9
                      exact gv_Rv ok_MO_meet rfl rfl
                    · rw [if_neg c121] at h
                      refine gv_brF c121 ?_
                      refine gv_B ok_MO_meet 3 rfl ?_
                      obtain ⟨μ123, e122, h⟩ := b1_e h
                      refine gv_Vc ok_MO_meet rfl mk_MO_pushPairs rfl (t_MO_pushPairs (d := d + 1) e122) rfl rfl (Nat.le_of_ble_eq_true rfl) rfl rfl rfl ?_
                      have h9 := Option.some.inj h
                      subst h9
                      exact gv_Rv ok_MO_meet rfl rfl
                  · rw [if_neg c120] at h
                    refine gv_brF c120 ?_
                    refine gv_B ok_MO_meet 2 rfl ?_
                    refine hp_pf ok_MO_meet rfl rfl rfl rfl rfl (Nat.le_of_ble_eq_true rfl) rfl ?_
                    refine gv_B ok_MO_meet 1 rfl ?_
                    have h9 := Option.some.inj h
                    subst h9
                    exact gv_Rv ok_MO_meet rfl rfl
        · rw [if_neg c96] at h
          refine gv_brF c96 ?_
          refine gv_B ok_MO_meet 2 rfl ?_
          obtain ⟨v124, e125, h⟩ := b1_e h
          have K126 : gv_go G M_MO_meet (d + 3) (.inl none) (hp n acc g cap μr) 85 [some (gR 70), some (gI x0), some (gI x1), some (gI x2), some (gI x3), none, none, none] [gI v124] (hp n acc g cap μ) := by
            refine gv_B ok_MO_meet 3 rfl ?_
            obtain ⟨v128, e129, h⟩ := b1_e h
            have K130 : gv_go G M_MO_meet (d + 3) (.inl none) (hp n acc g cap μr) 96 [some (gR 70), some (gI x0), some (gI x1), none, some (gI x3), some (gI v124), none, none] [gI v128] (hp n acc g cap μ) := by
              refine gv_B ok_MO_meet 3 rfl ?_
              obtain ⟨v132, e133, h⟩ := b1_e h
              have K134 : gv_go G M_MO_meet (d + 3) (.inl none) (hp n acc g cap μr) 108 [some (gR 70), none, none, none, none, some (gI v124), some (gI v128), none] [gI v132] (hp n acc g cap μ) := by
                refine gv_B ok_MO_meet 5 rfl ?_
                obtain ⟨v137, μ138, e136, h⟩ := b2_e h
                refine gv_Vc ok_MO_meet rfl mk_MO_occurs rfl (t_MO_occurs (d := d) e136) rfl rfl (Nat.le_of_ble_eq_true rfl) rfl rfl rfl ?_
                refine gv_B ok_MO_meet 1 rfl ?_
                obtain ⟨μ139, e140, h⟩ := b1_e h
                have K141 : gv_go G M_MO_meet (d + 3) (.inl none) (hp n acc g cap μr) 141 [none, none, none, none, none, none, none, none] [] (hp n acc g cap μ139) := by
                  refine gv_B ok_MO_meet 1 rfl ?_
                  have h9 := Option.some.inj h
                  subst h9
                  exact gv_Rv ok_MO_meet rfl rfl
                clear h
                have h := e140
                clear e140
                by_cases c142 : v137 = 0
                · rw [if_pos c142] at h
                  refine gv_brT c142 ?_
                  refine gv_B ok_MO_meet 4 rfl ?_
                  obtain ⟨μ144, e143, h⟩ := b1_e h
                  refine gv_Vc ok_MO_meet rfl mk_MO_bind rfl (t_MO_bind (d := d + 2) e143) rfl rfl (Nat.le_of_ble_eq_true rfl) rfl rfl rfl ?_
                  have h9 := Option.some.inj h
                  subst h9
                  exact gv_fk K141 trivial
                · rw [if_neg c142] at h
                  refine gv_brF c142 ?_
                  refine gv_B ok_MO_meet 2 rfl ?_
                  refine hp_pf ok_MO_meet rfl rfl rfl rfl rfl (Nat.le_of_ble_eq_true rfl) rfl ?_
                  refine gv_B ok_MO_meet 1 rfl ?_
                  have h9 := Option.some.inj h
                  subst h9
                  exact gv_fk K141 trivial
              clear h
              have h := e133
              clear e133
              by_cases c135 : ¬ x0 = 0
              · rw [if_pos c135] at h
                refine gv_brT c135 ?_
                refine gv_B ok_MO_meet 1 rfl ?_
                have h9 := Option.some.inj h
                subst h9
                exact gv_fk K134 ⟨rfl, ⟨rfl, ⟨rfl, trivial⟩⟩⟩
              · rw [if_neg c135] at h
                refine gv_brF c135 ?_
                refine gv_B ok_MO_meet 2 rfl ?_
                have h9 := Option.some.inj h
                subst h9
                exact gv_fk K134 ⟨rfl, ⟨rfl, ⟨rfl, trivial⟩⟩⟩
            clear h
            have h := e129
            clear e129
            by_cases c131 : ¬ x0 = 0
            · rw [if_pos c131] at h
              refine gv_brT c131 ?_
              refine gv_B ok_MO_meet 1 rfl ?_
              have h9 := Option.some.inj h
              subst h9
              exact gv_fk K130 ⟨rfl, ⟨rfl, ⟨rfl, ⟨rfl, ⟨rfl, trivial⟩⟩⟩⟩⟩
            · rw [if_neg c131] at h
              refine gv_brF c131 ?_
              refine gv_B ok_MO_meet 2 rfl ?_
              have h9 := Option.some.inj h
              subst h9
              exact gv_fk K130 ⟨rfl, ⟨rfl, ⟨rfl, ⟨rfl, ⟨rfl, trivial⟩⟩⟩⟩⟩
          clear h
          have h := e125
          clear e125
          by_cases c127 : ¬ x0 = 0
          · rw [if_pos c127] at h
            refine gv_brT c127 ?_
            refine gv_B ok_MO_meet 1 rfl ?_
            have h9 := Option.some.inj h
            subst h9
            exact K126
          · rw [if_neg c127] at h
            refine gv_brF c127 ?_
            refine gv_B ok_MO_meet 2 rfl ?_
            have h9 := Option.some.inj h
            subst h9
            exact K126
    · rw [if_neg c73] at h
      refine gv_brF c73 ?_
      refine gv_B ok_MO_meet 3 rfl ?_
      by_cases c145 : x1 = x3
      · rw [if_pos c145] at h
        refine gv_brT c145 ?_
        have h9 := Option.some.inj h
        subst h9
        exact gv_Rv ok_MO_meet rfl rfl
      · rw [if_neg c145] at h
        refine gv_brF c145 ?_
        refine gv_B ok_MO_meet 3 rfl ?_
        obtain ⟨v146, e147, h⟩ := b1_e h
        refine hp_rd ok_MO_meet rfl rfl e147 ?_
        refine gv_B ok_MO_meet 3 rfl ?_
        obtain ⟨v148, e149, h⟩ := b1_e h
        refine hp_rd ok_MO_meet rfl rfl e149 ?_
        refine gv_B ok_MO_meet 1 rfl ?_
        obtain ⟨v150, e151, h⟩ := b1_e h
        have K152 : gv_go G M_MO_meet (d + 3) (.inl none) (hp n acc g cap μr) 35 [some (gR 70), none, some (gI x1), none, some (gI x3), none, none, none] [gI v150] (hp n acc g cap μ) := by
          refine gv_B ok_MO_meet 4 rfl ?_
          obtain ⟨v154, e155, h⟩ := b1_e h
          have K156 : gv_go G M_MO_meet (d + 3) (.inl none) (hp n acc g cap μr) 49 [none, none, some (gI x1), none, some (gI x3), some (gI v150), none, none] [gI v154, gR 70] (hp n acc g cap μ) := by
            refine gv_B ok_MO_meet 3 rfl ?_
            obtain ⟨v158, e159, h⟩ := b1_e h
            have K160 : gv_go G M_MO_meet (d + 3) (.inl none) (hp n acc g cap μr) 61 [none, none, none, none, none, none, none, none] [gI v158, gI 0, gI v154, gR 70] (hp n acc g cap μ) := by
              obtain ⟨μ163, e162, h⟩ := b1_e h
              refine gv_Vc ok_MO_meet rfl mk_MO_bind rfl (t_MO_bind (d := d + 2) e162) rfl rfl (Nat.le_of_ble_eq_true rfl) rfl rfl rfl ?_
              refine gv_B ok_MO_meet 1 rfl ?_
              have h9 := Option.some.inj h
              subst h9
              exact gv_Rv ok_MO_meet rfl rfl
            clear h
            have h := e159
            clear e159
            by_cases c161 : v150 = 0
            · rw [if_pos c161] at h
              refine gv_brT c161 ?_
              refine gv_B ok_MO_meet 1 rfl ?_
              have h9 := Option.some.inj h
              subst h9
              exact gv_fk K160 trivial
            · rw [if_neg c161] at h
              refine gv_brF c161 ?_
              refine gv_B ok_MO_meet 2 rfl ?_
              have h9 := Option.some.inj h
              subst h9
              exact gv_fk K160 trivial
          clear h
          have h := e155
          clear e155
          by_cases c157 : v150 = 0
          · rw [if_pos c157] at h
            refine gv_brT c157 ?_
            refine gv_B ok_MO_meet 1 rfl ?_
            have h9 := Option.some.inj h
            subst h9
            exact gv_fk K156 ⟨rfl, ⟨rfl, ⟨rfl, trivial⟩⟩⟩
          · rw [if_neg c157] at h
            refine gv_brF c157 ?_
            refine gv_B ok_MO_meet 2 rfl ?_
            have h9 := Option.some.inj h
            subst h9
            exact gv_fk K156 ⟨rfl, ⟨rfl, ⟨rfl, trivial⟩⟩⟩
        clear h
        have h := e151
        clear e151
        by_cases c153 : v146 ≤ v148
        · rw [if_pos c153] at h
          refine gv_brT c153 ?_
          refine gv_B ok_MO_meet 1 rfl ?_
          have h9 := Option.some.inj h
          subst h9
          exact gv_fk K152 ⟨rfl, ⟨rfl, ⟨rfl, trivial⟩⟩⟩
        · rw [if_neg c153] at h
          refine gv_brF c153 ?_
          refine gv_B ok_MO_meet 2 rfl ?_
          have h9 := Option.some.inj h
          subst h9
          exact gv_fk K152 ⟨rfl, ⟨rfl, ⟨rfl, trivial⟩⟩⟩
def f_MO_unify_28 : Nat → Mu → Option (Mu)
  | 0, _ => none
  | f + 1, μ =>
    (if (μ 70 30) ≤ 0 then
    some (μ)
    else
    (if ¬ (μ 70 49) = 0 then
    some (μ)
    else
    (if ((μ 70 35) + 1) ≤ 300 then
    (b1 (rd (μ 88) 1600 (((μ 70 30) - 2) + 1)) fun v8 =>
    b1 (rd (μ 89) 1600 (((μ 70 30) - 2) + 1)) fun v10 =>
    b1 (f_MO_mean v8 v10 (sI (sI μ 70 30 ((μ 70 30) - 2)) 70 35 ((μ 70 35) + 1))) fun μ13 =>
    b1 (rd (μ13 88) 1600 (μ13 70 30)) fun v14 =>
    b1 (rd (μ13 89) 1600 (μ13 70 30)) fun v16 =>
    b1 (f_MO_mean v14 v16 μ13) fun μ19 =>
    b1 (f_MO_meet (μ13 70 40) (μ13 70 41) (μ19 70 40) (μ19 70 41) μ19) fun μ21 =>
    f_MO_unify_28 f μ21)
    else
    f_MO_unify_28 f (sI (sI (sI μ 70 30 ((μ 70 30) - 2)) 70 35 ((μ 70 35) + 1)) 70 49 3))))
def f_MO_unify (x0 : Int32) (x1 : Int32) (x2 : Int32) (x3 : Int32) (μ : Mu) : Option (Mu) :=
  (b1 (f_MO_push x2 x3 (sI (sI (sI μ 70 49 0) 70 35 0) 70 30 0)) fun μ2 =>
  b1 (f_MO_push x0 x1 μ2) fun μ4 =>
  b1 (f_MO_unify_28 fu μ4) fun μ22 =>
  some (μ22))
theorem t_MO_unify_28 {r : gv_O} {hf : gv_H} (fl : Nat) : ∀ {μ : Mu} {μz : Mu}, f_MO_unify_28 fl μ = some (μz) → gv_go G M_MO_unify (d + 4) r hf 159 [none, none, none, none, none, none, none] [] (hp n acc g cap μz) → gv_go G M_MO_unify (d + 4) r hf 28 [some (gR 70), none, none, none, none, none, none] [] (hp n acc g cap μ) := by
  induction fl with
  | zero => intro _ _ h _; cases h
  | succ f ih =>
    intro μ μz h KJ
    unfold f_MO_unify_28 at h
    refine gv_B ok_MO_unify 3 rfl ?_
    by_cases c5 : (μ 70 30) ≤ 0
    · rw [if_pos c5] at h
      refine gv_brT c5 ?_
      have h9 := Option.some.inj h
      subst h9
      exact gv_fk KJ trivial
    · rw [if_neg c5] at h
      refine gv_brF c5 ?_
      refine gv_B ok_MO_unify 3 rfl ?_
      by_cases c6 : ¬ (μ 70 49) = 0
      · rw [if_pos c6] at h
        refine gv_brT c6 ?_
        have h9 := Option.some.inj h
        subst h9
        exact gv_fk KJ trivial
      · rw [if_neg c6] at h
        refine gv_brF c6 ?_
        refine gv_B ok_MO_unify 5 rfl ?_
        refine hp_pf ok_MO_unify rfl rfl rfl rfl rfl (Nat.le_of_ble_eq_true rfl) rfl ?_
        refine gv_B ok_MO_unify 5 rfl ?_
        refine hp_pf ok_MO_unify rfl rfl rfl rfl rfl (Nat.le_of_ble_eq_true rfl) rfl ?_
        refine gv_B ok_MO_unify 4 rfl ?_
        by_cases c7 : ((μ 70 35) + 1) ≤ 300
        · rw [if_pos c7] at h
          refine gv_brT c7 ?_
          refine gv_B ok_MO_unify 7 rfl ?_
          obtain ⟨v8, e9, h⟩ := b1_e h
          refine hp_rd ok_MO_unify rfl rfl e9 ?_
          refine gv_B ok_MO_unify 6 rfl ?_
          obtain ⟨v10, e11, h⟩ := b1_e h
          refine hp_rd ok_MO_unify rfl rfl e11 ?_
          obtain ⟨μ13, e12, h⟩ := b1_e h
          refine gv_Vc ok_MO_unify rfl mk_MO_mean rfl (t_MO_mean (d := d + 3) e12) rfl rfl (Nat.le_of_ble_eq_true rfl) rfl rfl rfl ?_
          refine gv_B ok_MO_unify 11 rfl ?_
          obtain ⟨v14, e15, h⟩ := b1_e h
          refine hp_rd ok_MO_unify rfl rfl e15 ?_
          refine gv_B ok_MO_unify 4 rfl ?_
          obtain ⟨v16, e17, h⟩ := b1_e h
          refine hp_rd ok_MO_unify rfl rfl e17 ?_
          obtain ⟨μ19, e18, h⟩ := b1_e h
          refine gv_Vc ok_MO_unify rfl mk_MO_mean rfl (t_MO_mean (d := d + 3) e18) rfl rfl (Nat.le_of_ble_eq_true rfl) rfl rfl rfl ?_
          refine gv_B ok_MO_unify 7 rfl ?_
          obtain ⟨μ21, e20, h⟩ := b1_e h
          refine gv_Vc ok_MO_unify rfl mk_MO_meet rfl (t_MO_meet (d := d) e20) rfl rfl (Nat.le_of_ble_eq_true rfl) rfl rfl rfl ?_
          refine gv_B ok_MO_unify 1 rfl ?_
          exact gv_fk (ih h KJ) ⟨rfl, trivial⟩
        · rw [if_neg c7] at h
          refine gv_brF c7 ?_
          refine gv_B ok_MO_unify 2 rfl ?_
          refine hp_pf ok_MO_unify rfl rfl rfl rfl rfl (Nat.le_of_ble_eq_true rfl) rfl ?_
          refine gv_B ok_MO_unify 1 rfl ?_
          exact ih h KJ
theorem t_MO_unify {x0 : Int32} {x1 : Int32} {x2 : Int32} {x3 : Int32} {μ : Mu} {μr : Mu} (h : f_MO_unify x0 x1 x2 x3 μ = some (μr)) : gv_ev G (d + 4) M_MO_unify [gR 70, gI x0, gI x1, gI x2, gI x3] (hp n acc g cap μ) (.inl none) (hp n acc g cap μr) := by
  unfold f_MO_unify at h
  refine gv_E (ls := [some (gR 70), some (gI x0), some (gI x1), some (gI x2), some (gI x3), none, none]) (by decide) (fun h => by cases h) (Nat.le_of_ble_eq_true rfl) rfl ?_
  refine gv_B ok_MO_unify 2 rfl ?_
  refine hp_pf ok_MO_unify rfl rfl rfl rfl rfl (Nat.le_of_ble_eq_true rfl) rfl ?_
  refine gv_B ok_MO_unify 2 rfl ?_
  refine hp_pf ok_MO_unify rfl rfl rfl rfl rfl (Nat.le_of_ble_eq_true rfl) rfl ?_
  refine gv_B ok_MO_unify 2 rfl ?_
  refine hp_pf ok_MO_unify rfl rfl rfl rfl rfl (Nat.le_of_ble_eq_true rfl) rfl ?_
  refine gv_B ok_MO_unify 3 rfl ?_
  obtain ⟨μ2, e1, h⟩ := b1_e h
  refine gv_Vc ok_MO_unify rfl mk_MO_push rfl (t_MO_push (d := d + 3) e1) rfl rfl (Nat.le_of_ble_eq_true rfl) rfl rfl rfl ?_
  refine gv_B ok_MO_unify 3 rfl ?_
  obtain ⟨μ4, e3, h⟩ := b1_e h
  refine gv_Vc ok_MO_unify rfl mk_MO_push rfl (t_MO_push (d := d + 3) e3) rfl rfl (Nat.le_of_ble_eq_true rfl) rfl rfl rfl ?_
  obtain ⟨μ22, e23, h⟩ := b1_e h
  have K24 : gv_go G M_MO_unify (d + 4) (.inl none) (hp n acc g cap μr) 159 [none, none, none, none, none, none, none] [] (hp n acc g cap μ22) := by
    have h9 := Option.some.inj h
    subst h9
    exact gv_Rv ok_MO_unify rfl rfl
  exact gv_fk (t_MO_unify_28 _ e23 K24) ⟨rfl, trivial⟩
def f_MO_round (x0 : Int64) (μ : Mu) : Option (Int32) :=
  some ((Int64.toInt32 ((x0 <<< (Int32.toInt64 35 &&& 63)) >>> (Int32.toInt64 35 &&& 63))))
theorem t_MO_round {x0 : Int64} {μ : Mu} {r : Int32} (h : f_MO_round x0 μ = some (r)) : gv_ev G (d + 0) M_MO_round [gR 70, gL x0] (hp n acc g cap μ) (.inl (some (gI r))) (hp n acc g cap μ) := by
  unfold f_MO_round at h
  refine gv_E (ls := [some (gR 70), some (gL x0), none]) (by decide) (fun h => by cases h) (Nat.le_of_ble_eq_true rfl) rfl ?_
  refine gv_B ok_MO_round 6 rfl ?_
  have h9 := Option.some.inj h
  subst h9
  exact gv_Ri ok_MO_round rfl rfl
def f_MO_apply (x0 : Int32) (μ : Mu) : Option (Mu) :=
  (b1 (rd (μ 91) 100 ((μ 70 36) - 2)) fun v1 =>
  b1 (rd (μ 91) 100 (((μ 70 36) - 2) + 1)) fun v3 =>
  if ¬ x0 = 31 then
  (b1 (if ¬ x0 = 28 then
  (if ¬ x0 = 29 then
  (if ¬ x0 = 30 then
  if (Int32.toInt64 v3) = (0 : Int64) then none else some (((Int32.toInt64 v1) / (Int32.toInt64 v3)))
  else
  some (((Int32.toInt64 v1) * (Int32.toInt64 v3))))
  else
  some (((Int32.toInt64 v1) - (Int32.toInt64 v3))))
  else
  some (((Int32.toInt64 v1) + (Int32.toInt64 v3)))) fun v6 =>
  b1 (f_MO_round v6 (sI μ 70 36 ((μ 70 36) - 2))) fun v14 =>
  b1 (wr (sI μ 70 36 ((μ 70 36) - 2)) 91 100 ((μ 70 36) - 2) v14) fun μ15 =>
  some ((sI μ15 70 36 ((μ15 70 36) + 1))))
  else
  (if ¬ v3 = 0 then
  (b1 (if ¬ x0 = 28 then
  (if ¬ x0 = 29 then
  (if ¬ x0 = 30 then
  if (Int32.toInt64 v3) = (0 : Int64) then none else some (((Int32.toInt64 v1) / (Int32.toInt64 v3)))
  else
  some (((Int32.toInt64 v1) * (Int32.toInt64 v3))))
  else
  some (((Int32.toInt64 v1) - (Int32.toInt64 v3))))
  else
  some (((Int32.toInt64 v1) + (Int32.toInt64 v3)))) fun v18 =>
  b1 (f_MO_round v18 (sI μ 70 36 ((μ 70 36) - 2))) fun v26 =>
  b1 (wr (sI μ 70 36 ((μ 70 36) - 2)) 91 100 ((μ 70 36) - 2) v26) fun μ27 =>
  some ((sI μ27 70 36 ((μ27 70 36) + 1))))
  else
  some ((sI (sI μ 70 36 ((μ 70 36) - 2)) 70 49 2))))
theorem t_MO_apply {x0 : Int32} {μ : Mu} {μr : Mu} (h : f_MO_apply x0 μ = some (μr)) : gv_ev G (d + 1) M_MO_apply [gR 70, gI x0] (hp n acc g cap μ) (.inl none) (hp n acc g cap μr) := by
  unfold f_MO_apply at h
  refine gv_E (ls := [some (gR 70), some (gI x0), none, none, none, none]) (by decide) (fun h => by cases h) (Nat.le_of_ble_eq_true rfl) rfl ?_
  refine gv_B ok_MO_apply 5 rfl ?_
  refine hp_pf ok_MO_apply rfl rfl rfl rfl rfl (Nat.le_of_ble_eq_true rfl) rfl ?_
  refine gv_B ok_MO_apply 4 rfl ?_
  obtain ⟨v1, e2, h⟩ := b1_e h
  refine hp_rd ok_MO_apply rfl rfl e2 ?_
  refine gv_B ok_MO_apply 7 rfl ?_
  obtain ⟨v3, e4, h⟩ := b1_e h
  refine hp_rd ok_MO_apply rfl rfl e4 ?_
  refine gv_B ok_MO_apply 4 rfl ?_
  by_cases c5 : ¬ x0 = 31
  · rw [if_pos c5] at h
    refine gv_brT c5 ?_
    refine gv_B ok_MO_apply 3 rfl ?_
    obtain ⟨v6, e7, h⟩ := b1_e h
    have K8 : gv_go G M_MO_apply (d + 1) (.inl none) (hp n acc g cap μr) 95 [some (gR 70), none, none, none, none, none] [gL v6] (hp n acc g cap (sI μ 70 36 ((μ 70 36) - 2))) := by
      refine gv_B ok_MO_apply 7 rfl ?_
      obtain ⟨v14, e13, h⟩ := b1_e h
      refine gv_Vc ok_MO_apply rfl mk_MO_round rfl (t_MO_round (d := d) e13) rfl rfl (Nat.le_of_ble_eq_true rfl) rfl rfl rfl ?_
      obtain ⟨μ15, e16, h⟩ := b1_e h
      refine hp_wr ok_MO_apply rfl rfl rfl rfl e16 ?_
      refine gv_B ok_MO_apply 5 rfl ?_
      refine hp_pf ok_MO_apply rfl rfl rfl rfl rfl (Nat.le_of_ble_eq_true rfl) rfl ?_
      have h9 := Option.some.inj h
      subst h9
      exact gv_Rv ok_MO_apply rfl rfl
    clear h
    have h := e7
    clear e7
    by_cases c9 : ¬ x0 = 28
    · rw [if_pos c9] at h
      refine gv_brT c9 ?_
      refine gv_B ok_MO_apply 3 rfl ?_
      by_cases c10 : ¬ x0 = 29
      · rw [if_pos c10] at h
        refine gv_brT c10 ?_
        refine gv_B ok_MO_apply 3 rfl ?_
        by_cases c11 : ¬ x0 = 30
        · rw [if_pos c11] at h
          refine gv_brT c11 ?_
          refine gv_B ok_MO_apply 4 rfl ?_
          by_cases c12 : (Int32.toInt64 v3) = (0 : Int64)
          · rw [if_pos c12] at h
            cases h
          rw [if_neg c12] at h
          refine gv_ldv ok_MO_apply rfl c12 ?_
          have h9 := Option.some.inj h
          subst h9
          exact gv_fk K8 ⟨rfl, trivial⟩
        · rw [if_neg c11] at h
          refine gv_brF c11 ?_
          refine gv_B ok_MO_apply 6 rfl ?_
          have h9 := Option.some.inj h
          subst h9
          exact gv_fk K8 ⟨rfl, trivial⟩
      · rw [if_neg c10] at h
        refine gv_brF c10 ?_
        refine gv_B ok_MO_apply 6 rfl ?_
        have h9 := Option.some.inj h
        subst h9
        exact gv_fk K8 ⟨rfl, trivial⟩
    · rw [if_neg c9] at h
      refine gv_brF c9 ?_
      refine gv_B ok_MO_apply 6 rfl ?_
      have h9 := Option.some.inj h
      subst h9
      exact gv_fk K8 ⟨rfl, trivial⟩
  · rw [if_neg c5] at h
    refine gv_brF c5 ?_
    refine gv_B ok_MO_apply 2 rfl ?_
    by_cases c17 : ¬ v3 = 0
    · rw [if_pos c17] at h
      refine gv_brT c17 ?_
      refine gv_B ok_MO_apply 3 rfl ?_
      obtain ⟨v18, e19, h⟩ := b1_e h
      have K20 : gv_go G M_MO_apply (d + 1) (.inl none) (hp n acc g cap μr) 95 [some (gR 70), none, none, none, none, none] [gL v18] (hp n acc g cap (sI μ 70 36 ((μ 70 36) - 2))) := by
        refine gv_B ok_MO_apply 7 rfl ?_
        obtain ⟨v26, e25, h⟩ := b1_e h
        refine gv_Vc ok_MO_apply rfl mk_MO_round rfl (t_MO_round (d := d) e25) rfl rfl (Nat.le_of_ble_eq_true rfl) rfl rfl rfl ?_
        obtain ⟨μ27, e28, h⟩ := b1_e h
        refine hp_wr ok_MO_apply rfl rfl rfl rfl e28 ?_
        refine gv_B ok_MO_apply 5 rfl ?_
        refine hp_pf ok_MO_apply rfl rfl rfl rfl rfl (Nat.le_of_ble_eq_true rfl) rfl ?_
        have h9 := Option.some.inj h
        subst h9
        exact gv_Rv ok_MO_apply rfl rfl
      clear h
      have h := e19
      clear e19
      by_cases c21 : ¬ x0 = 28
      · rw [if_pos c21] at h
        refine gv_brT c21 ?_
        refine gv_B ok_MO_apply 3 rfl ?_
        by_cases c22 : ¬ x0 = 29
        · rw [if_pos c22] at h
          refine gv_brT c22 ?_
          refine gv_B ok_MO_apply 3 rfl ?_
          by_cases c23 : ¬ x0 = 30
          · rw [if_pos c23] at h
            refine gv_brT c23 ?_
            refine gv_B ok_MO_apply 4 rfl ?_
            by_cases c24 : (Int32.toInt64 v3) = (0 : Int64)
            · rw [if_pos c24] at h
              cases h
            rw [if_neg c24] at h
            refine gv_ldv ok_MO_apply rfl c24 ?_
            have h9 := Option.some.inj h
            subst h9
            exact gv_fk K20 ⟨rfl, trivial⟩
          · rw [if_neg c23] at h
            refine gv_brF c23 ?_
            refine gv_B ok_MO_apply 6 rfl ?_
            have h9 := Option.some.inj h
            subst h9
            exact gv_fk K20 ⟨rfl, trivial⟩
        · rw [if_neg c22] at h
          refine gv_brF c22 ?_
          refine gv_B ok_MO_apply 6 rfl ?_
          have h9 := Option.some.inj h
          subst h9
          exact gv_fk K20 ⟨rfl, trivial⟩
      · rw [if_neg c21] at h
        refine gv_brF c21 ?_
        refine gv_B ok_MO_apply 6 rfl ?_
        have h9 := Option.some.inj h
        subst h9
        exact gv_fk K20 ⟨rfl, trivial⟩
    · rw [if_neg c17] at h
      refine gv_brF c17 ?_
      refine gv_B ok_MO_apply 2 rfl ?_
      refine hp_pf ok_MO_apply rfl rfl rfl rfl rfl (Nat.le_of_ble_eq_true rfl) rfl ?_
      have h9 := Option.some.inj h
      subst h9
      exact gv_Rv ok_MO_apply rfl rfl
def f_MO_calculate_23 : Nat → Int32 → Mu → Option (Mu)
  | 0, _, _ => none
  | f + 1, y3, μ =>
    (if (μ 70 30) ≤ 0 then
    some (μ)
    else
    (if ¬ (μ 70 49) = 0 then
    some (μ)
    else
    (b1 (rd (μ 88) 1600 ((μ 70 30) - 1)) fun v5 =>
    if ¬ v5 = 9 then
    (b1 (rd (μ 88) 1600 ((μ 70 30) - 1)) fun v8 =>
    b1 (rd (μ 89) 1600 ((μ 70 30) - 1)) fun v10 =>
    b1 (f_MO_mean v8 v10 (sI μ 70 30 ((μ 70 30) - 1))) fun μ13 =>
    b1 (if ¬ (μ13 70 40) = 3 then
    some ((0 : Int32))
    else
    (b1 (rd (μ13 78) 240 (μ13 70 41)) fun v18 =>
    b1 (f_MO_arity v18 μ13) fun v21 =>
    if ¬ v21 = 2 then
    some ((0 : Int32))
    else
    (b1 (rd (μ13 78) 240 (μ13 70 41)) fun v23 =>
    if (v23 >>> ((3 : Int32) &&& 31)) ≤ 27 then
    some ((0 : Int32))
    else
    some ((1 : Int32))))) fun v14 =>
    b2 (if ¬ (μ13 70 40) = 1 then
    (if v14 = 0 then
    some (y3, (sI μ13 70 49 2))
    else
    (if 30 ≤ y3 then
    some (y3, (sI μ13 70 49 2))
    else
    (b1 (rd (μ13 78) 240 (μ13 70 41)) fun v33 =>
    b1 (f_MO_push 9 (v33 >>> ((3 : Int32) &&& 31)) μ13) fun μ36 =>
    b1 (f_MO_pushArguments (μ36 70 41) μ36) fun μ38 =>
    some ((y3 + 1), μ38))))
    else
    (b1 (wr μ13 91 100 (μ13 70 36) (μ13 70 41)) fun μ39 =>
    some (y3, (sI μ39 70 36 ((μ39 70 36) + 1))))) fun l26 μ27 =>
    f_MO_calculate_23 f l26 μ27)
    else
    (b1 (rd (μ 89) 1600 ((μ 70 30) - 1)) fun v41 =>
    b1 (f_MO_apply v41 (sI μ 70 30 ((μ 70 30) - 1))) fun μ44 =>
    f_MO_calculate_23 f y3 μ44))))
def f_MO_calculate (x0 : Int32) (x1 : Int32) (μ : Mu) : Option (Int32 × Mu) :=
  (b1 (f_MO_push x0 x1 (sI (sI (sI μ 70 49 0) 70 30 0) 70 36 0)) fun μ2 =>
  b1 (f_MO_calculate_23 fu 0 μ2) fun μ45 =>
  if ¬ (μ45 70 49) = 0 then
  some (0, μ45)
  else
  (b1 (rd (μ45 91) 100 0) fun v49 =>
  some (v49, μ45)))
theorem t_MO_calculate_23 {r : gv_O} {hf : gv_H} (fl : Nat) : ∀ {y3 : Int32} {μ : Mu} {μz : Mu}, f_MO_calculate_23 fl y3 μ = some (μz) → gv_go G M_MO_calculate (d + 2) r hf 231 [some (gR 70), none, none, none, none] [] (hp n acc g cap μz) → gv_go G M_MO_calculate (d + 2) r hf 23 [some (gR 70), none, none, some (gI y3), none] [] (hp n acc g cap μ) := by
  induction fl with
  | zero => intro _ _ _ h _; cases h
  | succ f ih =>
    intro y3 μ μz h KJ
    unfold f_MO_calculate_23 at h
    refine gv_B ok_MO_calculate 3 rfl ?_
    by_cases c3 : (μ 70 30) ≤ 0
    · rw [if_pos c3] at h
      refine gv_brT c3 ?_
      have h9 := Option.some.inj h
      subst h9
      exact gv_fk KJ ⟨rfl, trivial⟩
    · rw [if_neg c3] at h
      refine gv_brF c3 ?_
      refine gv_B ok_MO_calculate 3 rfl ?_
      by_cases c4 : ¬ (μ 70 49) = 0
      · rw [if_pos c4] at h
        refine gv_brT c4 ?_
        have h9 := Option.some.inj h
        subst h9
        exact gv_fk KJ ⟨rfl, trivial⟩
      · rw [if_neg c4] at h
        refine gv_brF c4 ?_
        refine gv_B ok_MO_calculate 5 rfl ?_
        refine hp_pf ok_MO_calculate rfl rfl rfl rfl rfl (Nat.le_of_ble_eq_true rfl) rfl ?_
        refine gv_B ok_MO_calculate 4 rfl ?_
        obtain ⟨v5, e6, h⟩ := b1_e h
        refine hp_rd ok_MO_calculate rfl rfl e6 ?_
        refine gv_B ok_MO_calculate 2 rfl ?_
        by_cases c7 : ¬ v5 = 9
        · rw [if_pos c7] at h
          refine gv_brT c7 ?_
          refine gv_B ok_MO_calculate 5 rfl ?_
          obtain ⟨v8, e9, h⟩ := b1_e h
          refine hp_rd ok_MO_calculate rfl rfl e9 ?_
          refine gv_B ok_MO_calculate 4 rfl ?_
          obtain ⟨v10, e11, h⟩ := b1_e h
          refine hp_rd ok_MO_calculate rfl rfl e11 ?_
          obtain ⟨μ13, e12, h⟩ := b1_e h
          refine gv_Vc ok_MO_calculate rfl mk_MO_mean rfl (t_MO_mean (d := d + 1) e12) rfl rfl (Nat.le_of_ble_eq_true rfl) rfl rfl rfl ?_
          refine gv_B ok_MO_calculate 4 rfl ?_
          obtain ⟨v14, e15, h⟩ := b1_e h
          have K16 : gv_go G M_MO_calculate (d + 2) r hf 145 [some (gR 70), none, none, some (gI y3), none] [gI v14] (hp n acc g cap μ13) := by
            refine gv_B ok_MO_calculate 5 rfl ?_
            obtain ⟨l26, μ27, e28, h⟩ := b2_e h
            have K29 : gv_go G M_MO_calculate (d + 2) r hf 228 [some (gR 70), none, none, some (gI l26), none] [] (hp n acc g cap μ27) := by
              refine gv_B ok_MO_calculate 1 rfl ?_
              exact ih h KJ
            clear h
            have h := e28
            clear e28
            by_cases c30 : ¬ (μ13 70 40) = 1
            · rw [if_pos c30] at h
              refine gv_brT c30 ?_
              refine gv_B ok_MO_calculate 2 rfl ?_
              by_cases c31 : v14 = 0
              · rw [if_pos c31] at h
                refine gv_brT c31 ?_
                refine gv_B ok_MO_calculate 2 rfl ?_
                refine hp_pf ok_MO_calculate rfl rfl rfl rfl rfl (Nat.le_of_ble_eq_true rfl) rfl ?_
                have j0 := Option.some.inj h
                obtain ⟨i1, j1⟩ := Prod.mk.inj j0
                subst i1
                subst j1
                exact gv_fk K29 ⟨rfl, ⟨rfl, trivial⟩⟩
              · rw [if_neg c31] at h
                refine gv_brF c31 ?_
                refine gv_B ok_MO_calculate 3 rfl ?_
                by_cases c32 : 30 ≤ y3
                · rw [if_pos c32] at h
                  refine gv_brT c32 ?_
                  refine gv_B ok_MO_calculate 2 rfl ?_
                  refine hp_pf ok_MO_calculate rfl rfl rfl rfl rfl (Nat.le_of_ble_eq_true rfl) rfl ?_
                  have j0 := Option.some.inj h
                  obtain ⟨i1, j1⟩ := Prod.mk.inj j0
                  subst i1
                  subst j1
                  exact gv_fk K29 ⟨rfl, ⟨rfl, trivial⟩⟩
                · rw [if_neg c32] at h
                  refine gv_brF c32 ?_
                  refine gv_B ok_MO_calculate 7 rfl ?_
                  obtain ⟨v33, e34, h⟩ := b1_e h
                  refine hp_rd ok_MO_calculate rfl rfl e34 ?_
                  refine gv_B ok_MO_calculate 2 rfl ?_
                  obtain ⟨μ36, e35, h⟩ := b1_e h
                  refine gv_Vc ok_MO_calculate rfl mk_MO_push rfl (t_MO_push (d := d + 1) e35) rfl rfl (Nat.le_of_ble_eq_true rfl) rfl rfl rfl ?_
                  refine gv_B ok_MO_calculate 3 rfl ?_
                  obtain ⟨μ38, e37, h⟩ := b1_e h
                  refine gv_Vc ok_MO_calculate rfl mk_MO_pushArguments rfl (t_MO_pushArguments (d := d) e37) rfl rfl (Nat.le_of_ble_eq_true rfl) rfl rfl rfl ?_
                  refine gv_B ok_MO_calculate 1 rfl ?_
                  have j0 := Option.some.inj h
                  obtain ⟨i1, j1⟩ := Prod.mk.inj j0
                  subst i1
                  subst j1
                  exact gv_fk K29 ⟨rfl, ⟨rfl, trivial⟩⟩
            · rw [if_neg c30] at h
              refine gv_brF c30 ?_
              refine gv_B ok_MO_calculate 6 rfl ?_
              obtain ⟨μ39, e40, h⟩ := b1_e h
              refine hp_wr ok_MO_calculate rfl rfl rfl rfl e40 ?_
              refine gv_B ok_MO_calculate 5 rfl ?_
              refine hp_pf ok_MO_calculate rfl rfl rfl rfl rfl (Nat.le_of_ble_eq_true rfl) rfl ?_
              refine gv_B ok_MO_calculate 1 rfl ?_
              have j0 := Option.some.inj h
              obtain ⟨i1, j1⟩ := Prod.mk.inj j0
              subst i1
              subst j1
              exact gv_fk K29 ⟨rfl, ⟨rfl, trivial⟩⟩
          clear h
          have h := e15
          clear e15
          by_cases c17 : ¬ (μ13 70 40) = 3
          · rw [if_pos c17] at h
            refine gv_brT c17 ?_
            refine gv_B ok_MO_calculate 1 rfl ?_
            have h9 := Option.some.inj h
            subst h9
            exact K16
          · rw [if_neg c17] at h
            refine gv_brF c17 ?_
            refine gv_B ok_MO_calculate 5 rfl ?_
            obtain ⟨v18, e19, h⟩ := b1_e h
            refine hp_rd ok_MO_calculate rfl rfl e19 ?_
            obtain ⟨v21, e20, h⟩ := b1_e h
            refine gv_Vc ok_MO_calculate rfl mk_MO_arity rfl (t_MO_arity (d := d + 1) e20) rfl rfl (Nat.le_of_ble_eq_true rfl) rfl rfl rfl ?_
            refine gv_B ok_MO_calculate 2 rfl ?_
            by_cases c22 : ¬ v21 = 2
            · rw [if_pos c22] at h
              refine gv_brT c22 ?_
              refine gv_B ok_MO_calculate 1 rfl ?_
              have h9 := Option.some.inj h
              subst h9
              exact K16
            · rw [if_neg c22] at h
              refine gv_brF c22 ?_
              refine gv_B ok_MO_calculate 4 rfl ?_
              obtain ⟨v23, e24, h⟩ := b1_e h
              refine hp_rd ok_MO_calculate rfl rfl e24 ?_
              refine gv_B ok_MO_calculate 4 rfl ?_
              by_cases c25 : (v23 >>> ((3 : Int32) &&& 31)) ≤ 27
              · rw [if_pos c25] at h
                refine gv_brT c25 ?_
                refine gv_B ok_MO_calculate 1 rfl ?_
                have h9 := Option.some.inj h
                subst h9
                exact K16
              · rw [if_neg c25] at h
                refine gv_brF c25 ?_
                refine gv_B ok_MO_calculate 2 rfl ?_
                have h9 := Option.some.inj h
                subst h9
                exact K16
        · rw [if_neg c7] at h
          refine gv_brF c7 ?_
          refine gv_B ok_MO_calculate 5 rfl ?_
          obtain ⟨v41, e42, h⟩ := b1_e h
          refine hp_rd ok_MO_calculate rfl rfl e42 ?_
          obtain ⟨μ44, e43, h⟩ := b1_e h
          refine gv_Vc ok_MO_calculate rfl mk_MO_apply rfl (t_MO_apply (d := d) e43) rfl rfl (Nat.le_of_ble_eq_true rfl) rfl rfl rfl ?_
          refine gv_B ok_MO_calculate 1 rfl ?_
          exact ih h KJ
theorem t_MO_calculate {x0 : Int32} {x1 : Int32} {μ : Mu} {r : Int32} {μr : Mu} (h : f_MO_calculate x0 x1 μ = some (r, μr)) : gv_ev G (d + 2) M_MO_calculate [gR 70, gI x0, gI x1] (hp n acc g cap μ) (.inl (some (gI r))) (hp n acc g cap μr) := by
  unfold f_MO_calculate at h
  refine gv_E (ls := [some (gR 70), some (gI x0), some (gI x1), none, none]) (by decide) (fun h => by cases h) (Nat.le_of_ble_eq_true rfl) rfl ?_
  refine gv_B ok_MO_calculate 2 rfl ?_
  refine hp_pf ok_MO_calculate rfl rfl rfl rfl rfl (Nat.le_of_ble_eq_true rfl) rfl ?_
  refine gv_B ok_MO_calculate 2 rfl ?_
  refine hp_pf ok_MO_calculate rfl rfl rfl rfl rfl (Nat.le_of_ble_eq_true rfl) rfl ?_
  refine gv_B ok_MO_calculate 2 rfl ?_
  refine hp_pf ok_MO_calculate rfl rfl rfl rfl rfl (Nat.le_of_ble_eq_true rfl) rfl ?_
  refine gv_B ok_MO_calculate 5 rfl ?_
  obtain ⟨μ2, e1, h⟩ := b1_e h
  refine gv_Vc ok_MO_calculate rfl mk_MO_push rfl (t_MO_push (d := d + 1) e1) rfl rfl (Nat.le_of_ble_eq_true rfl) rfl rfl rfl ?_
  obtain ⟨μ45, e46, h⟩ := b1_e h
  have K47 : gv_go G M_MO_calculate (d + 2) (.inl (some (gI r))) (hp n acc g cap μr) 231 [some (gR 70), none, none, none, none] [] (hp n acc g cap μ45) := by
    refine gv_B ok_MO_calculate 3 rfl ?_
    by_cases c48 : ¬ (μ45 70 49) = 0
    · rw [if_pos c48] at h
      refine gv_brT c48 ?_
      refine gv_B ok_MO_calculate 1 rfl ?_
      have j0 := Option.some.inj h
      obtain ⟨i1, j1⟩ := Prod.mk.inj j0
      subst i1
      subst j1
      exact gv_Ri ok_MO_calculate rfl rfl
    · rw [if_neg c48] at h
      refine gv_brF c48 ?_
      refine gv_B ok_MO_calculate 3 rfl ?_
      obtain ⟨v49, e50, h⟩ := b1_e h
      refine hp_rd ok_MO_calculate rfl rfl e50 ?_
      refine gv_B ok_MO_calculate 1 rfl ?_
      have j0 := Option.some.inj h
      obtain ⟨i1, j1⟩ := Prod.mk.inj j0
      subst i1
      subst j1
      exact gv_Ri ok_MO_calculate rfl rfl
  exact gv_fk (t_MO_calculate_23 _ e46 K47) ⟨rfl, ⟨rfl, trivial⟩⟩
end FNN
