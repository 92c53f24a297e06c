/-! methods as functions of the numbers (written by wip/tools/genf.py, mkf.py) -/
section FNS
variable {G : gv_G} {d n g cap : Nat} {acc : Nat × Nat}
def f_AN_wordOf_18 (k1 : Int32) : Nat → Int32 → Mu → Option (Int32 × Mu)
  | 0, _, _ => none
  | f + 1, y2, μ =>
    (if (μ 66 4) ≤ y2 then
    (b1 (wr μ 68 90 (μ 66 4) k1) fun μ3 =>
    some (((((μ3 66 4) + 1) - 1) <<< ((3 : Int32) &&& 31)), (sI μ3 66 4 ((μ3 66 4) + 1))))
    else
    (b1 (rd (μ 68) 90 y2) fun v6 =>
    if ¬ v6 = k1 then
    f_AN_wordOf_18 k1 f (y2 + 1) μ
    else
    some ((y2 <<< ((3 : Int32) &&& 31)), μ)))
def f_AN_wordOf (x0 : Int32) (μ : Mu) : Option (Int32 × Mu) :=
  (if (x0 &&& 7) = 0 then
  f_AN_wordOf_18 x0 fu 0 μ
  else
  (b1 (f_CE_nameOf x0 μ) fun v10 =>
  some (v10, μ)))
theorem t_AN_wordOf_18 {k1 : Int32} (fl : Nat) : ∀ {y2 : Int32} {μ : Mu} {r : Int32} {μr : Mu}, f_AN_wordOf_18 k1 fl y2 μ = some (r, μr) → gv_go G M_AN_wordOf (d + 1) (.inl (some (gI r))) (hp n acc g cap μr) 18 [some (gR 66), some (gI k1), some (gI y2)] [] (hp n acc g cap μ) := by
  induction fl with
  | zero => intro _ _ _ _ h; cases h
  | succ f ih =>
    intro y2 μ r μr h
    unfold f_AN_wordOf_18 at h
    refine gv_B ok_AN_wordOf 4 rfl ?_
    by_cases c2 : (μ 66 4) ≤ y2
    · rw [if_pos c2] at h
      refine gv_brT c2 ?_
      refine gv_B ok_AN_wordOf 5 rfl ?_
      obtain ⟨μ3, e4, h⟩ := b1_e h
      refine hp_wr ok_AN_wordOf rfl rfl rfl rfl e4 ?_
      refine gv_B ok_AN_wordOf 5 rfl ?_
      refine hp_pf ok_AN_wordOf rfl rfl rfl rfl rfl (Nat.le_of_ble_eq_true rfl) rfl ?_
      refine gv_B ok_AN_wordOf 6 rfl ?_
      have j0 := Option.some.inj h
      obtain ⟨i1, j1⟩ := Prod.mk.inj j0
      subst i1
      subst j1
      exact gv_Ri ok_AN_wordOf rfl rfl
    · rw [if_neg c2] at h
      refine gv_brF c2 ?_
      refine gv_B ok_AN_wordOf 3 rfl ?_
      obtain ⟨v6, e7, h⟩ := b1_e h
      refine hp_rd ok_AN_wordOf rfl rfl e7 ?_
      refine gv_B ok_AN_wordOf 2 rfl ?_
      by_cases c8 : ¬ v6 = k1
      · rw [if_pos c8] at h
        refine gv_brT c8 ?_
        refine gv_B ok_AN_wordOf 2 rfl ?_
        exact ih h
      · rw [if_neg c8] at h
        refine gv_brF c8 ?_
        refine gv_B ok_AN_wordOf 3 rfl ?_
        have j0 := Option.some.inj h
        obtain ⟨i1, j1⟩ := Prod.mk.inj j0
        subst i1
        subst j1
        exact gv_Ri ok_AN_wordOf rfl rfl
theorem t_AN_wordOf {x0 : Int32} {μ : Mu} {r : Int32} {μr : Mu} (h : f_AN_wordOf x0 μ = some (r, μr)) : gv_ev G (d + 1) M_AN_wordOf [gR 66, gI x0] (hp n acc g cap μ) (.inl (some (gI r))) (hp n acc g cap μr) := by
  unfold f_AN_wordOf at h
  refine gv_E (ls := [some (gR 66), some (gI x0), none]) (by decide) (fun h => by cases h) (Nat.le_of_ble_eq_true rfl) rfl ?_
  refine gv_B ok_AN_wordOf 4 rfl ?_
  by_cases c1 : (x0 &&& 7) = 0
  · rw [if_pos c1] at h
    refine gv_brT c1 ?_
    refine gv_B ok_AN_wordOf 2 rfl ?_
    exact t_AN_wordOf_18 _ h
  · rw [if_neg c1] at h
    refine gv_brF c1 ?_
    refine gv_B ok_AN_wordOf 3 rfl ?_
    obtain ⟨v10, e9, h⟩ := b1_e h
    refine gv_Vc ok_AN_wordOf rfl mk_CE_nameOf rfl (t_CE_nameOf (d := d) e9) rfl rfl (Nat.le_of_ble_eq_true rfl) rfl rfl rfl ?_
    have j0 := Option.some.inj h
    obtain ⟨i1, j1⟩ := Prod.mk.inj j0
    subst i1
    subst j1
    exact gv_Ri ok_AN_wordOf rfl rfl
def f_AN_openArguments_22 (k1 : Int32) : Nat → Int32 → Mu → Option (Mu)
  | 0, _, _ => none
  | f + 1, y2, μ =>
    (if y2 < 1 then
    some (μ)
    else
    (b1 (f_CE_argument k1 y2 μ) fun v8 =>
    b1 (wr μ 69 181 (μ 66 6) v8) fun μ9 =>
    f_AN_openArguments_22 k1 f (y2 + (-1)) (sI μ9 66 6 ((μ9 66 6) + 1))))
def f_AN_openArguments (x0 : Int32) (μ : Mu) : Option (Mu) :=
  (if (x0 &&& 7) = 7 then
  (b1 (f_CE_nameOf x0 μ) fun v3 =>
  b1 (f_GE_argumentsOf v3 μ) fun v5 =>
  b1 (f_AN_openArguments_22 x0 fu v5 μ) fun μ12 =>
  some (μ12))
  else
  some (μ))
theorem t_AN_openArguments_22 {r : gv_O} {hf : gv_H} {k1 : Int32} (fl : Nat) : ∀ {y2 : Int32} {μ : Mu} {μz : Mu}, f_AN_openArguments_22 k1 fl y2 μ = some (μz) → gv_go G M_AN_openArguments (d + 1) r hf 61 [none, none, none] [] (hp n acc g cap μz) → gv_go G M_AN_openArguments (d + 1) r hf 22 [some (gR 66), some (gI k1), some (gI y2)] [] (hp n acc g cap μ) := by
  induction fl with
  | zero => intro _ _ _ h _; cases h
  | succ f ih =>
    intro y2 μ μz h KJ
    unfold f_AN_openArguments_22 at h
    refine gv_B ok_AN_openArguments 3 rfl ?_
    by_cases c6 : y2 < 1
    · rw [if_pos c6] at h
      refine gv_brT c6 ?_
      have h9 := Option.some.inj h
      subst h9
      exact gv_fk KJ trivial
    · rw [if_neg c6] at h
      refine gv_brF c6 ?_
      refine gv_B ok_AN_openArguments 8 rfl ?_
      obtain ⟨v8, e7, h⟩ := b1_e h
      refine gv_Vc ok_AN_openArguments rfl mk_CE_argument rfl (t_CE_argument (d := d) e7) rfl rfl (Nat.le_of_ble_eq_true rfl) rfl rfl rfl ?_
      obtain ⟨μ9, e10, h⟩ := b1_e h
      refine hp_wr ok_AN_openArguments rfl rfl rfl rfl e10 ?_
      refine gv_B ok_AN_openArguments 5 rfl ?_
      refine hp_pf ok_AN_openArguments rfl rfl rfl rfl rfl (Nat.le_of_ble_eq_true rfl) rfl ?_
      refine gv_B ok_AN_openArguments 2 rfl ?_
      exact ih h KJ
theorem t_AN_openArguments {x0 : Int32} {μ : Mu} {μr : Mu} (h : f_AN_openArguments x0 μ = some (μr)) : gv_ev G (d + 1) M_AN_openArguments [gR 66, gI x0] (hp n acc g cap μ) (.inl none) (hp n acc g cap μr) := by
  unfold f_AN_openArguments at h
  refine gv_E (ls := [some (gR 66), some (gI x0), none]) (by decide) (fun h => by cases h) (Nat.le_of_ble_eq_true rfl) rfl ?_
  refine gv_B ok_AN_openArguments 5 rfl ?_
  by_cases c1 : (x0 &&& 7) = 7
  · rw [if_pos c1] at h
    refine gv_brT c1 ?_
    refine gv_B ok_AN_openArguments 3 rfl ?_
    obtain ⟨v3, e2, h⟩ := b1_e h
    refine gv_Vc ok_AN_openArguments rfl mk_CE_nameOf rfl (t_CE_nameOf (d := d) e2) rfl rfl (Nat.le_of_ble_eq_true rfl) rfl rfl rfl ?_
    obtain ⟨v5, e4, h⟩ := b1_e h
    refine gv_Sc ok_AN_openArguments rfl mk_GE_argumentsOf rfl (t_GE_argumentsOf (d := d) e4) rfl rfl (Nat.le_of_ble_eq_true rfl)  ?_
    refine gv_B ok_AN_openArguments 1 rfl ?_
    obtain ⟨μ12, e13, h⟩ := b1_e h
    have K14 : gv_go G M_AN_openArguments (d + 1) (.inl none) (hp n acc g cap μr) 61 [none, none, none] [] (hp n acc g cap μ12) := by
      have h9 := Option.some.inj h
      subst h9
      exact gv_Rv ok_AN_openArguments rfl rfl
    exact t_AN_openArguments_22 _ e13 K14
  · rw [if_neg c1] at h
    refine gv_brF c1 ?_
    have h9 := Option.some.inj h
    subst h9
    exact gv_Rv ok_AN_openArguments rfl rfl
def f_AN_writeTerm_12 : Nat → Mu → Option (Mu)
  | 0, _ => none
  | f + 1, μ =>
    (if (μ 66 6) ≤ 0 then
    some (μ)
    else
    (if 90 ≤ (μ 66 2) then
    some (μ)
    else
    (b1 (rd (μ 69) 181 ((μ 66 6) - 1)) fun v6 =>
    b1 (f_CE_follow v6 (sI μ 66 6 ((μ 66 6) - 1))) fun v9 =>
    b2 (f_AN_wordOf v9 (sI μ 66 6 ((μ 66 6) - 1))) fun v11 μ12 =>
    b1 (wr μ12 67 90 (μ 66 2) v11) fun μ14 =>
    b1 (f_AN_openArguments v9 (sI μ14 66 2 ((μ14 66 2) + 1))) fun μ18 =>
    f_AN_writeTerm_12 f μ18)))
def f_AN_writeTerm (x0 : Int32) (μ : Mu) : Option (Mu) :=
  (b1 (wr μ 69 181 0 x0) fun μ1 =>
  b1 (f_AN_writeTerm_12 fu (sI μ1 66 6 1)) fun μ20 =>
  some (μ20))
theorem t_AN_writeTerm_12 {r : gv_O} {hf : gv_H} (fl : Nat) : ∀ {μ : Mu} {μz : Mu}, f_AN_writeTerm_12 fl μ = some (μz) → gv_go G M_AN_writeTerm (d + 2) r hf 87 [none, none, none] [] (hp n acc g cap μz) → gv_go G M_AN_writeTerm (d + 2) r hf 12 [some (gR 66), none, none] [] (hp n acc g cap μ) := by
  induction fl with
  | zero => intro _ _ h _; cases h
  | succ f ih =>
    intro μ μz h KJ
    unfold f_AN_writeTerm_12 at h
    refine gv_B ok_AN_writeTerm 3 rfl ?_
    by_cases c4 : (μ 66 6) ≤ 0
    · rw [if_pos c4] at h
      refine gv_brT c4 ?_
      have h9 := Option.some.inj h
      subst h9
      exact gv_fk KJ trivial
    · rw [if_neg c4] at h
      refine gv_brF c4 ?_
      refine gv_B ok_AN_writeTerm 4 rfl ?_
      by_cases c5 : 90 ≤ (μ 66 2)
      · rw [if_pos c5] at h
        refine gv_brT c5 ?_
        have h9 := Option.some.inj h
        subst h9
        exact gv_fk KJ trivial
      · rw [if_neg c5] at h
        refine gv_brF c5 ?_
        refine gv_B ok_AN_writeTerm 5 rfl ?_
        refine hp_pf ok_AN_writeTerm rfl rfl rfl rfl rfl (Nat.le_of_ble_eq_true rfl) rfl ?_
        refine gv_B ok_AN_writeTerm 6 rfl ?_
        obtain ⟨v6, e7, h⟩ := b1_e h
        refine hp_rd ok_AN_writeTerm rfl rfl e7 ?_
        obtain ⟨v9, e8, h⟩ := b1_e h
        refine gv_Vc ok_AN_writeTerm rfl mk_CE_follow rfl (t_CE_follow (d := d + 1) e8) rfl rfl (Nat.le_of_ble_eq_true rfl) rfl rfl rfl ?_
        refine gv_B ok_AN_writeTerm 7 rfl ?_
        obtain ⟨v11, μ12, e10, h⟩ := b2_e h
        refine gv_Vc ok_AN_writeTerm rfl mk_AN_wordOf rfl (t_AN_wordOf (d := d) e10) rfl rfl (Nat.le_of_ble_eq_true rfl) rfl rfl rfl ?_
        obtain ⟨μ14, e15, h⟩ := b1_e h
        refine hp_wr ok_AN_writeTerm rfl rfl rfl rfl e15 ?_
        refine gv_B ok_AN_writeTerm 5 rfl ?_
        refine hp_pf ok_AN_writeTerm rfl rfl rfl rfl rfl (Nat.le_of_ble_eq_true rfl) rfl ?_
        refine gv_B ok_AN_writeTerm 2 rfl ?_
        obtain ⟨μ18, e17, h⟩ := b1_e h
        refine gv_Vc ok_AN_writeTerm rfl mk_AN_openArguments rfl (t_AN_openArguments (d := d) e17) rfl rfl (Nat.le_of_ble_eq_true rfl) rfl rfl rfl ?_
        refine gv_B ok_AN_writeTerm 1 rfl ?_
        exact gv_fk (ih h KJ) ⟨rfl, trivial⟩
theorem t_AN_writeTerm {x0 : Int32} {μ : Mu} {μr : Mu} (h : f_AN_writeTerm x0 μ = some (μr)) : gv_ev G (d + 2) M_AN_writeTerm [gR 66, gI x0] (hp n acc g cap μ) (.inl none) (hp n acc g cap μr) := by
  unfold f_AN_writeTerm at h
  refine gv_E (ls := [some (gR 66), some (gI x0), none]) (by decide) (fun h => by cases h) (Nat.le_of_ble_eq_true rfl) rfl ?_
  refine gv_B ok_AN_writeTerm 4 rfl ?_
  obtain ⟨μ1, e2, h⟩ := b1_e h
  refine hp_wr ok_AN_writeTerm rfl rfl rfl rfl e2 ?_
  refine gv_B ok_AN_writeTerm 2 rfl ?_
  refine hp_pf ok_AN_writeTerm rfl rfl rfl rfl rfl (Nat.le_of_ble_eq_true rfl) rfl ?_
  obtain ⟨μ20, e21, h⟩ := b1_e h
  have K22 : gv_go G M_AN_writeTerm (d + 2) (.inl none) (hp n acc g cap μr) 87 [none, none, none] [] (hp n acc g cap μ20) := by
    have h9 := Option.some.inj h
    subst h9
    exact gv_Rv ok_AN_writeTerm rfl rfl
  exact gv_fk (t_AN_writeTerm_12 _ e21 K22) ⟨rfl, trivial⟩
def f_AN_write_12 (k1 : Int32) : Nat → Int32 → Mu → Option (Mu)
  | 0, _, _ => none
  | f + 1, y2, μ =>
    (if k1 ≤ y2 then
    some (μ)
    else
    (b1 (f_AN_writeTerm (y2 <<< ((3 : Int32) &&& 31)) μ) fun μ3 =>
    f_AN_write_12 k1 f (y2 + 1) μ3))
def f_AN_write (x0 : Int32) (μ : Mu) : Option (Int32 × Mu) :=
  (b1 (f_AN_write_12 x0 fu 0 (sI (sI μ 66 2 0) 66 4 0)) fun μ5 =>
  some ((μ5 66 2), μ5))
theorem t_AN_write_12 {r : gv_O} {hf : gv_H} {k1 : Int32} (fl : Nat) : ∀ {y2 : Int32} {μ : Mu} {μz : Mu}, f_AN_write_12 k1 fl y2 μ = some (μz) → gv_go G M_AN_write (d + 3) r hf 30 [some (gR 66), none, none] [] (hp n acc g cap μz) → gv_go G M_AN_write (d + 3) r hf 12 [some (gR 66), some (gI k1), some (gI y2)] [] (hp n acc g cap μ) := by
  induction fl with
  | zero => intro _ _ _ h _; cases h
  | succ f ih =>
    intro y2 μ μz h KJ
    unfold f_AN_write_12 at h
    refine gv_B ok_AN_write 3 rfl ?_
    by_cases c1 : k1 ≤ y2
    · rw [if_pos c1] at h
      refine gv_brT c1 ?_
      have h9 := Option.some.inj h
      subst h9
      exact gv_fk KJ ⟨rfl, trivial⟩
    · rw [if_neg c1] at h
      refine gv_brF c1 ?_
      refine gv_B ok_AN_write 4 rfl ?_
      obtain ⟨μ3, e2, h⟩ := b1_e h
      refine gv_Vc ok_AN_write rfl mk_AN_writeTerm rfl (t_AN_writeTerm (d := d) e2) rfl rfl (Nat.le_of_ble_eq_true rfl) rfl rfl rfl ?_
      refine gv_B ok_AN_write 2 rfl ?_
      exact ih h KJ
theorem t_AN_write {x0 : Int32} {μ : Mu} {r : Int32} {μr : Mu} (h : f_AN_write x0 μ = some (r, μr)) : gv_ev G (d + 3) M_AN_write [gR 66, gI x0] (hp n acc g cap μ) (.inl (some (gI r))) (hp n acc g cap μr) := by
  unfold f_AN_write at h
  refine gv_E (ls := [some (gR 66), some (gI x0), none]) (by decide) (fun h => by cases h) (Nat.le_of_ble_eq_true rfl) rfl ?_
  refine gv_B ok_AN_write 2 rfl ?_
  refine hp_pf ok_AN_write rfl rfl rfl rfl rfl (Nat.le_of_ble_eq_true rfl) rfl ?_
  refine gv_B ok_AN_write 2 rfl ?_
  refine hp_pf ok_AN_write rfl rfl rfl rfl rfl (Nat.le_of_ble_eq_true rfl) rfl ?_
  refine gv_B ok_AN_write 2 rfl ?_
  obtain ⟨μ5, e6, h⟩ := b1_e h
  have K7 : gv_go G M_AN_write (d + 3) (.inl (some (gI r))) (hp n acc g cap μr) 30 [some (gR 66), none, none] [] (hp n acc g cap μ5) := by
    refine gv_B ok_AN_write 2 rfl ?_
    have j0 := Option.some.inj h
    obtain ⟨i1, j1⟩ := Prod.mk.inj j0
    subst i1
    subst j1
    exact gv_Ri ok_AN_write rfl rfl
  exact t_AN_write_12 _ e6 K7
def f_AN_at (x0 : Int32) (μ : Mu) : Option (Int32) :=
  (b1 (rd (μ 67) 90 x0) fun v1 =>
  some (v1))
theorem t_AN_at {x0 : Int32} {μ : Mu} {r : Int32} (h : f_AN_at x0 μ = some (r)) : gv_ev G (d + 0) M_AN_at [gR 66, gI x0] (hp n acc g cap μ) (.inl (some (gI r))) (hp n acc g cap μ) := by
  unfold f_AN_at at h
  refine gv_E (ls := [some (gR 66), some (gI x0)]) (by decide) (fun h => by cases h) (Nat.le_of_ble_eq_true rfl) rfl ?_
  refine gv_B ok_AN_at 3 rfl ?_
  obtain ⟨v1, e2, h⟩ := b1_e h
  refine hp_rd ok_AN_at rfl rfl e2 ?_
  have h9 := Option.some.inj h
  subst h9
  exact gv_Ri ok_AN_at rfl rfl
def f_SE_canStep (μ : Mu) : Option (Int32) :=
  (if ¬ (μ 37 11) = 1 then
  some (0)
  else
  (if (μ 37 12) ≤ 0 then
  some (0)
  else
  some (1)))
theorem t_SE_canStep {μ : Mu} {r : Int32} (h : f_SE_canStep μ = some (r)) : gv_ev G (d + 0) M_SE_canStep [gR 37] (hp n acc g cap μ) (.inl (some (gI r))) (hp n acc g cap μ) := by
  unfold f_SE_canStep at h
  refine gv_E (ls := [some (gR 37)]) (by decide) (fun h => by cases h) (Nat.le_of_ble_eq_true rfl) rfl ?_
  refine gv_B ok_SE_canStep 4 rfl ?_
  by_cases c1 : ¬ (μ 37 11) = 1
  · rw [if_pos c1] at h
    refine gv_brT c1 ?_
    refine gv_B ok_SE_canStep 1 rfl ?_
    have h9 := Option.some.inj h
    subst h9
    exact gv_Rz ok_SE_canStep rfl rfl (by decide)
  · rw [if_neg c1] at h
    refine gv_brF c1 ?_
    refine gv_B ok_SE_canStep 3 rfl ?_
    by_cases c2 : (μ 37 12) ≤ 0
    · rw [if_pos c2] at h
      refine gv_brT c2 ?_
      refine gv_B ok_SE_canStep 1 rfl ?_
      have h9 := Option.some.inj h
      subst h9
      exact gv_Rz ok_SE_canStep rfl rfl (by decide)
    · rw [if_neg c2] at h
      refine gv_brF c2 ?_
      refine gv_B ok_SE_canStep 2 rfl ?_
      have h9 := Option.some.inj h
      subst h9
      exact gv_Rz ok_SE_canStep rfl rfl (by decide)
def f_SE_tryOtherWay (μ : Mu) : Option (Mu) :=
  (if ¬ (μ 58 5) = 0 then
  (b1 (f_CH_cutTo ((μ 58 5) - 1) μ) fun μ3 =>
  b1 (rd (μ3 61) 300 ((μ 58 5) - 1)) fun v5 =>
  b1 (rd (μ3 62) 300 ((μ 58 5) - 1)) fun v7 =>
  b1 (f_CE_goBack v5 v7 μ3) fun μ10 =>
  b1 (rd (μ10 59) 300 ((μ 58 5) - 1)) fun v12 =>
  b1 (rd (μ10 60) 300 ((μ 58 5) - 1)) fun v14 =>
  some ((sI (sI (sI μ10 37 9 v12) 37 10 v14) 37 11 1)))
  else
  some ((sI μ 37 11 0)))
theorem t_SE_tryOtherWay {μ : Mu} {μr : Mu} (h : f_SE_tryOtherWay μ = some (μr)) : gv_ev G (d + 1) M_SE_tryOtherWay [gR 37] (hp n acc g cap μ) (.inl none) (hp n acc g cap μr) := by
  unfold f_SE_tryOtherWay at h
  refine gv_E (ls := [some (gR 37), none]) (by decide) (fun h => by cases h) (Nat.le_of_ble_eq_true rfl) rfl ?_
  refine gv_B ok_SE_tryOtherWay 4 rfl ?_
  by_cases c1 : ¬ (μ 58 5) = 0
  · rw [if_pos c1] at h
    refine gv_brT c1 ?_
    refine gv_B ok_SE_tryOtherWay 9 rfl ?_
    obtain ⟨μ3, e2, h⟩ := b1_e h
    refine gv_Vc ok_SE_tryOtherWay rfl mk_CH_cutTo rfl (t_CH_cutTo (d := d) e2) rfl rfl (Nat.le_of_ble_eq_true rfl) rfl rfl rfl ?_
    refine gv_B ok_SE_tryOtherWay 6 rfl ?_
    obtain ⟨v5, e6, h⟩ := b1_e h
    refine hp_rd ok_SE_tryOtherWay rfl rfl e6 ?_
    refine gv_B ok_SE_tryOtherWay 4 rfl ?_
    obtain ⟨v7, e8, h⟩ := b1_e h
    refine hp_rd ok_SE_tryOtherWay rfl rfl e8 ?_
    obtain ⟨μ10, e9, h⟩ := b1_e h
    refine gv_Vc ok_SE_tryOtherWay rfl mk_CE_goBack rfl (t_CE_goBack (d := d) e9) rfl rfl (Nat.le_of_ble_eq_true rfl) rfl rfl rfl ?_
    refine gv_B ok_SE_tryOtherWay 5 rfl ?_
    obtain ⟨v12, e13, h⟩ := b1_e h
    refine hp_rd ok_SE_tryOtherWay rfl rfl e13 ?_
    refine hp_pf ok_SE_tryOtherWay rfl rfl rfl rfl rfl (Nat.le_of_ble_eq_true rfl) rfl ?_
    refine gv_B ok_SE_tryOtherWay 5 rfl ?_
    obtain ⟨v14, e15, h⟩ := b1_e h
    refine hp_rd ok_SE_tryOtherWay rfl rfl e15 ?_
    refine hp_pf ok_SE_tryOtherWay rfl rfl rfl rfl rfl (Nat.le_of_ble_eq_true rfl) rfl ?_
    refine gv_B ok_SE_tryOtherWay 2 rfl ?_
    refine hp_pf ok_SE_tryOtherWay rfl rfl rfl rfl rfl (Nat.le_of_ble_eq_true rfl) rfl ?_
    have h9 := Option.some.inj h
    subst h9
    exact gv_Rv ok_SE_tryOtherWay rfl rfl
  · rw [if_neg c1] at h
    refine gv_brF c1 ?_
    refine gv_B ok_SE_tryOtherWay 2 rfl ?_
    refine hp_pf ok_SE_tryOtherWay rfl rfl rfl rfl rfl (Nat.le_of_ble_eq_true rfl) rfl ?_
    have h9 := Option.some.inj h
    subst h9
    exact gv_Rv ok_SE_tryOtherWay rfl rfl
def f_SE_settle (x0 : Int32) (μ : Mu) : Option (Mu) :=
  (if ¬ x0 = 1 then
  (if x0 = 0 then
  (if ¬ (μ 37 9) = (-1) then
  some (μ)
  else
  some ((sI μ 37 11 2)))
  else
  some ((sI μ 37 11 0)))
  else
  (b1 (f_SE_tryOtherWay μ) fun μ5 =>
  some (μ5)))
theorem t_SE_settle {x0 : Int32} {μ : Mu} {μr : Mu} (h : f_SE_settle x0 μ = some (μr)) : gv_ev G (d + 2) M_SE_settle [gR 37, gI x0] (hp n acc g cap μ) (.inl none) (hp n acc g cap μr) := by
  unfold f_SE_settle at h
  refine gv_E (ls := [some (gR 37), some (gI x0)]) (by decide) (fun h => by cases h) (Nat.le_of_ble_eq_true rfl) rfl ?_
  refine gv_B ok_SE_settle 3 rfl ?_
  by_cases c1 : ¬ x0 = 1
  · rw [if_pos c1] at h
    refine gv_brT c1 ?_
    refine gv_B ok_SE_settle 2 rfl ?_
    by_cases c2 : x0 = 0
    · rw [if_pos c2] at h
      refine gv_brT c2 ?_
      refine gv_B ok_SE_settle 4 rfl ?_
      by_cases c3 : ¬ (μ 37 9) = (-1)
      · rw [if_pos c3] at h
        refine gv_brT c3 ?_
        have h9 := Option.some.inj h
        subst h9
        exact gv_Rv ok_SE_settle rfl rfl
      · rw [if_neg c3] at h
        refine gv_brF c3 ?_
        refine gv_B ok_SE_settle 2 rfl ?_
        refine hp_pf ok_SE_settle rfl rfl rfl rfl rfl (Nat.le_of_ble_eq_true rfl) rfl ?_
        have h9 := Option.some.inj h
        subst h9
        exact gv_Rv ok_SE_settle rfl rfl
    · rw [if_neg c2] at h
      refine gv_brF c2 ?_
      refine gv_B ok_SE_settle 2 rfl ?_
      refine hp_pf ok_SE_settle rfl rfl rfl rfl rfl (Nat.le_of_ble_eq_true rfl) rfl ?_
      refine gv_B ok_SE_settle 1 rfl ?_
      have h9 := Option.some.inj h
      subst h9
      exact gv_Rv ok_SE_settle rfl rfl
  · rw [if_neg c1] at h
    refine gv_brF c1 ?_
    refine gv_B ok_SE_settle 1 rfl ?_
    obtain ⟨μ5, e4, h⟩ := b1_e h
    refine gv_Vc ok_SE_settle rfl mk_SE_tryOtherWay rfl (t_SE_tryOtherWay (d := d) e4) rfl rfl (Nat.le_of_ble_eq_true rfl) rfl rfl rfl ?_
    refine gv_B ok_SE_settle 1 rfl ?_
    have h9 := Option.some.inj h
    subst h9
    exact gv_Rv ok_SE_settle rfl rfl
def f_SE_compare (x0 : Int32) (x1 : Int64) (x2 : Int64) (μ : Mu) : Option (Int32) :=
  (if (lg_cmp x1 4294967296) = 0 then
  some (2)
  else
  (if ¬ (lg_cmp x2 4294967296) = 0 then
  (b1 (if ¬ x0 = 26 then
  (if ¬ (lg_cmp x1 x2) = 0 then
  some ((0 : Int32))
  else
  some ((1 : Int32)))
  else
  (if 0 ≤ (lg_cmp x1 x2) then
  some ((0 : Int32))
  else
  some ((1 : Int32)))) fun v3 =>
  if v3 = 0 then
  some (1)
  else
  some (0))
  else
  some (2)))
theorem t_SE_compare {x0 : Int32} {x1 : Int64} {x2 : Int64} {μ : Mu} {r : Int32} (h : f_SE_compare x0 x1 x2 μ = some (r)) : gv_ev G (d + 0) M_SE_compare [gI x0, gL x1, gL x2] (hp n acc g cap μ) (.inl (some (gI r))) (hp n acc g cap μ) := by
  unfold f_SE_compare at h
  refine gv_E (ls := [some (gI x0), some (gL x1), none, some (gL x2), none, none]) (by decide) (fun h => by cases h) (Nat.le_of_ble_eq_true rfl) rfl ?_
  refine gv_B ok_SE_compare 4 rfl ?_
  by_cases c1 : (lg_cmp x1 4294967296) = 0
  · rw [if_pos c1] at h
    refine gv_brT c1 ?_
    refine gv_B ok_SE_compare 1 rfl ?_
    have h9 := Option.some.inj h
    subst h9
    exact gv_Ri ok_SE_compare rfl rfl
  · rw [if_neg c1] at h
    refine gv_brF c1 ?_
    refine gv_B ok_SE_compare 4 rfl ?_
    by_cases c2 : ¬ (lg_cmp x2 4294967296) = 0
    · rw [if_pos c2] at h
      refine gv_brT c2 ?_
      refine gv_B ok_SE_compare 3 rfl ?_
      obtain ⟨v3, e4, h⟩ := b1_e h
      have K5 : gv_go G M_SE_compare (d + 0) (.inl (some (gI r))) (hp n acc g cap μ) 49 [none, none, none, none, none, none] [gI v3] (hp n acc g cap μ) := by
        refine gv_B ok_SE_compare 3 rfl ?_
        by_cases c9 : v3 = 0
        · rw [if_pos c9] at h
          refine gv_brT c9 ?_
          refine gv_B ok_SE_compare 1 rfl ?_
          have h9 := Option.some.inj h
          subst h9
          exact gv_Ri ok_SE_compare rfl rfl
        · rw [if_neg c9] at h
          refine gv_brF c9 ?_
          refine gv_B ok_SE_compare 2 rfl ?_
          have h9 := Option.some.inj h
          subst h9
          exact gv_Ri ok_SE_compare rfl rfl
      clear h
      have h := e4
      clear e4
      by_cases c6 : ¬ x0 = 26
      · rw [if_pos c6] at h
        refine gv_brT c6 ?_
        refine gv_B ok_SE_compare 4 rfl ?_
        by_cases c7 : ¬ (lg_cmp x1 x2) = 0
        · rw [if_pos c7] at h
          refine gv_brT c7 ?_
          refine gv_B ok_SE_compare 1 rfl ?_
          have h9 := Option.some.inj h
          subst h9
          exact gv_fk K5 trivial
        · rw [if_neg c7] at h
          refine gv_brF c7 ?_
          refine gv_B ok_SE_compare 2 rfl ?_
          have h9 := Option.some.inj h
          subst h9
          exact gv_fk K5 trivial
      · rw [if_neg c6] at h
        refine gv_brF c6 ?_
        refine gv_B ok_SE_compare 4 rfl ?_
        by_cases c8 : 0 ≤ (lg_cmp x1 x2)
        · rw [if_pos c8] at h
          refine gv_brT c8 ?_
          refine gv_B ok_SE_compare 2 rfl ?_
          have h9 := Option.some.inj h
          subst h9
          exact gv_fk K5 trivial
        · rw [if_neg c8] at h
          refine gv_brF c8 ?_
          refine gv_B ok_SE_compare 2 rfl ?_
          have h9 := Option.some.inj h
          subst h9
          exact gv_fk K5 trivial
    · rw [if_neg c2] at h
      refine gv_brF c2 ?_
      refine gv_B ok_SE_compare 1 rfl ?_
      have h9 := Option.some.inj h
      subst h9
      exact gv_Ri ok_SE_compare rfl rfl
def f_SE_meet (x0 : Int32) (x1 : Int32) (x2 : Int32) (μ : Mu) : Option (Int32 × Mu) :=
  (if x0 = 24 then
  (b2 (f_UN_unify x1 x2 μ) fun v3 μ4 =>
  some (v3, μ4))
  else
  (if x0 = 25 then
  (b2 (f_CA_calculate x2 μ) fun v8 μ9 =>
  if ¬ (lg_cmp v8 4294967296) = 0 then
  (b2 (f_UN_unify x1 (((Int64.toInt32 v8) <<< ((3 : Int32) &&& 31)) ||| 1) μ9) fun v13 μ14 =>
  some (v13, μ14))
  else
  some (2, μ9))
  else
  (if x0 = 26 then
  (b2 (f_CA_calculate x1 μ) fun v18 μ19 =>
  b2 (f_CA_calculate x2 μ19) fun v22 μ23 =>
  b1 (f_SE_compare x0 v18 v22 μ23) fun v26 =>
  some (v26, μ23))
  else
  (if x0 = 27 then
  (b2 (f_CA_calculate x1 μ) fun v29 μ30 =>
  b2 (f_CA_calculate x2 μ30) fun v33 μ34 =>
  b1 (f_SE_compare x0 v29 v33 μ34) fun v37 =>
  some (v37, μ34))
  else
  some (1, μ)))))
theorem t_SE_meet {x0 : Int32} {x1 : Int32} {x2 : Int32} {μ : Mu} {r : Int32} {μr : Mu} (h : f_SE_meet x0 x1 x2 μ = some (r, μr)) : gv_ev G (d + 35) M_SE_meet [gR 37, gI x0, gI x1, gI x2] (hp n acc g cap μ) (.inl (some (gI r))) (hp n acc g cap μr) := by
  unfold f_SE_meet at h
  refine gv_E (ls := [some (gR 37), some (gI x0), some (gI x1), some (gI x2), none, none]) (by decide) (fun h => by cases h) (Nat.le_of_ble_eq_true rfl) rfl ?_
  refine gv_B ok_SE_meet 2 rfl ?_
  refine gv_pce (p2 := if x0 = 24 then 32 else if x0 = 25 then 42 else if x0 = 26 then 81 else if x0 = 27 then 81 else 102) rfl ?_
  by_cases c1 : x0 = 24
  · rw [if_pos c1] at h
    refine gv_brT c1 ?_
    refine gv_B ok_SE_meet 4 rfl ?_
    obtain ⟨v3, μ4, e2, h⟩ := b2_e h
    refine gv_Vc ok_SE_meet rfl mk_UN_unify rfl (t_UN_unify (d := d + 30) e2) rfl rfl (Nat.le_of_ble_eq_true rfl) rfl rfl rfl ?_
    have j0 := Option.some.inj h
    obtain ⟨i1, j1⟩ := Prod.mk.inj j0
    subst i1
    subst j1
    exact gv_Ri ok_SE_meet rfl rfl
  · rw [if_neg c1] at h
    refine gv_brF c1 ?_
    by_cases c6 : x0 = 25
    · rw [if_pos c6] at h
      refine gv_brT c6 ?_
      refine gv_B ok_SE_meet 3 rfl ?_
      obtain ⟨v8, μ9, e7, h⟩ := b2_e h
      refine gv_Vc ok_SE_meet rfl mk_CA_calculate rfl (t_CA_calculate (d := d) e7) rfl rfl (Nat.le_of_ble_eq_true rfl) rfl rfl rfl ?_
      refine gv_B ok_SE_meet 5 rfl ?_
      by_cases c11 : ¬ (lg_cmp v8 4294967296) = 0
      · rw [if_pos c11] at h
        refine gv_brT c11 ?_
        refine gv_B ok_SE_meet 9 rfl ?_
        obtain ⟨v13, μ14, e12, h⟩ := b2_e h
        refine gv_Vc ok_SE_meet rfl mk_UN_unify rfl (t_UN_unify (d := d + 30) e12) rfl rfl (Nat.le_of_ble_eq_true rfl) rfl rfl rfl ?_
        have j0 := Option.some.inj h
        obtain ⟨i1, j1⟩ := Prod.mk.inj j0
        subst i1
        subst j1
        exact gv_Ri ok_SE_meet rfl rfl
      · rw [if_neg c11] at h
        refine gv_brF c11 ?_
        refine gv_B ok_SE_meet 2 rfl ?_
        have j0 := Option.some.inj h
        obtain ⟨i1, j1⟩ := Prod.mk.inj j0
        subst i1
        subst j1
        exact gv_Ri ok_SE_meet rfl rfl
    · rw [if_neg c6] at h
      refine gv_brF c6 ?_
      by_cases c16 : x0 = 26
      · rw [if_pos c16] at h
        refine gv_brT c16 ?_
        refine gv_B ok_SE_meet 4 rfl ?_
        obtain ⟨v18, μ19, e17, h⟩ := b2_e h
        refine gv_Vc ok_SE_meet rfl mk_CA_calculate rfl (t_CA_calculate (d := d) e17) rfl rfl (Nat.le_of_ble_eq_true rfl) rfl rfl rfl ?_
        refine gv_B ok_SE_meet 3 rfl ?_
        obtain ⟨v22, μ23, e21, h⟩ := b2_e h
        refine gv_Vc ok_SE_meet rfl mk_CA_calculate rfl (t_CA_calculate (d := d) e21) rfl rfl (Nat.le_of_ble_eq_true rfl) rfl rfl rfl ?_
        obtain ⟨v26, e25, h⟩ := b1_e h
        refine gv_Sc ok_SE_meet rfl mk_SE_compare rfl (t_SE_compare (d := d + 34) e25) rfl rfl (Nat.le_of_ble_eq_true rfl)  ?_
        have j0 := Option.some.inj h
        obtain ⟨i1, j1⟩ := Prod.mk.inj j0
        subst i1
        subst j1
        exact gv_Ri ok_SE_meet rfl rfl
      · rw [if_neg c16] at h
        refine gv_brF c16 ?_
        by_cases c27 : x0 = 27
        · rw [if_pos c27] at h
          refine gv_brT c27 ?_
          refine gv_B ok_SE_meet 4 rfl ?_
          obtain ⟨v29, μ30, e28, h⟩ := b2_e h
          refine gv_Vc ok_SE_meet rfl mk_CA_calculate rfl (t_CA_calculate (d := d) e28) rfl rfl (Nat.le_of_ble_eq_true rfl) rfl rfl rfl ?_
          refine gv_B ok_SE_meet 3 rfl ?_
          obtain ⟨v33, μ34, e32, h⟩ := b2_e h
          refine gv_Vc ok_SE_meet rfl mk_CA_calculate rfl (t_CA_calculate (d := d) e32) rfl rfl (Nat.le_of_ble_eq_true rfl) rfl rfl rfl ?_
          obtain ⟨v37, e36, h⟩ := b1_e h
          refine gv_Sc ok_SE_meet rfl mk_SE_compare rfl (t_SE_compare (d := d + 34) e36) rfl rfl (Nat.le_of_ble_eq_true rfl)  ?_
          have j0 := Option.some.inj h
          obtain ⟨i1, j1⟩ := Prod.mk.inj j0
          subst i1
          subst j1
          exact gv_Ri ok_SE_meet rfl rfl
        · rw [if_neg c27] at h
          refine gv_brF c27 ?_
          refine gv_B ok_SE_meet 1 rfl ?_
          have j0 := Option.some.inj h
          obtain ⟨i1, j1⟩ := Prod.mk.inj j0
          subst i1
          subst j1
          exact gv_Ri ok_SE_meet rfl rfl
def f_SE_hasRoomFor (q : Nat) (μ : Mu) : Option (Int32) :=
  (if clPb q = true then
  (if 240 < ((μ 40 1) + (μ q 3)) then
  some (0)
  else
  some (1))
  else none)
theorem t_SE_hasRoomFor {q : Nat} {μ : Mu} {r : Int32} (h : f_SE_hasRoomFor q μ = some (r)) : gv_ev G (d + 0) M_SE_hasRoomFor [gR 37, gR q] (hp n acc g cap μ) (.inl (some (gI r))) (hp n acc g cap μ) := by
  unfold f_SE_hasRoomFor at h
  by_cases hq : clPb q = true
  rotate_left
  · rw [if_neg hq] at h
    cases h
  rw [if_pos hq] at h
  refine gv_E (ls := [some (gR 37), some (gR q)]) (by decide) (fun h => by cases h) (Nat.le_of_ble_eq_true rfl) rfl ?_
  refine gv_B ok_SE_hasRoomFor 4 rfl ?_
  refine gv_gf ok_SE_hasRoomFor rfl (tc_o hq _ _ _) rfl ?_
  refine gv_B ok_SE_hasRoomFor 3 rfl ?_
  by_cases c1 : 240 < ((μ 40 1) + (μ q 3))
  · rw [if_pos c1] at h
    refine gv_brT c1 ?_
    refine gv_B ok_SE_hasRoomFor 1 rfl ?_
    have h9 := Option.some.inj h
    subst h9
    exact gv_Rz ok_SE_hasRoomFor rfl rfl (by decide)
  · rw [if_neg c1] at h
    refine gv_brF c1 ?_
    refine gv_B ok_SE_hasRoomFor 2 rfl ?_
    have h9 := Option.some.inj h
    subst h9
    exact gv_Rz ok_SE_hasRoomFor rfl rfl (by decide)
def f_SE_freeCells (g cap : Nat) (μ : Mu) : Option (Int32 × Mu) :=
  (b2 (f_CO_run g cap (μ 37 9) (jbit (μ 38 2)) μ) fun v2 μ3 =>
  some (v2, μ3))
theorem t_SE_freeCells {μ : Mu} {r : Int32} {μr : Mu} (h : f_SE_freeCells g cap μ = some (r, μr)) : gv_ev G (d + 5) M_SE_freeCells [gR 37] (hp n acc g cap μ) (.inl (some (gI r))) (hp n acc g cap μr) := by
  unfold f_SE_freeCells at h
  refine gv_E (ls := [some (gR 37)]) (by decide) (fun h => by cases h) (Nat.le_of_ble_eq_true rfl) rfl ?_
  refine gv_B ok_SE_freeCells 7 rfl ?_
  refine gv_Sx (wp := 431) (x9 := 176) (by decide +kernel) (by decide +kernel) mk_J_jbit (t_jbit (d := d + 4)) rfl rfl (Nat.le_of_ble_eq_true rfl) ?_
  obtain ⟨v2, μ3, e1, h⟩ := b2_e h
  refine gv_Vc ok_SE_freeCells rfl mk_CO_run rfl (t_CO_run (d := d) e1) rfl rfl (Nat.le_of_ble_eq_true rfl) rfl rfl rfl ?_
  have j0 := Option.some.inj h
  obtain ⟨i1, j1⟩ := Prod.mk.inj j0
  subst i1
  subst j1
  exact gv_Ri ok_SE_freeCells rfl rfl
def f_SE_cellsInUse (μ : Mu) : Option (Int32) :=
  (if ¬ (μ 37 11) = 0 then
  some ((μ 40 1))
  else
  some (0))
theorem t_SE_cellsInUse {μ : Mu} {r : Int32} (h : f_SE_cellsInUse μ = some (r)) : gv_ev G (d + 0) M_SE_cellsInUse [gR 37] (hp n acc g cap μ) (.inl (some (gI r))) (hp n acc g cap μ) := by
  unfold f_SE_cellsInUse at h
  refine gv_E (ls := [some (gR 37)]) (by decide) (fun h => by cases h) (Nat.le_of_ble_eq_true rfl) rfl ?_
  refine gv_B ok_SE_cellsInUse 3 rfl ?_
  by_cases c1 : ¬ (μ 37 11) = 0
  · rw [if_pos c1] at h
    refine gv_brT c1 ?_
    refine gv_B ok_SE_cellsInUse 3 rfl ?_
    have h9 := Option.some.inj h
    subst h9
    exact gv_Ri ok_SE_cellsInUse rfl rfl
  · rw [if_neg c1] at h
    refine gv_brF c1 ?_
    refine gv_B ok_SE_cellsInUse 2 rfl ?_
    have h9 := Option.some.inj h
    subst h9
    exact gv_Ri ok_SE_cellsInUse rfl rfl
def f_SE_choicesLeft (μ : Mu) : Option (Int32) :=
  (if ¬ (μ 37 11) = 0 then
  some ((μ 58 5))
  else
  some (0))
theorem t_SE_choicesLeft {μ : Mu} {r : Int32} (h : f_SE_choicesLeft μ = some (r)) : gv_ev G (d + 0) M_SE_choicesLeft [gR 37] (hp n acc g cap μ) (.inl (some (gI r))) (hp n acc g cap μ) := by
  unfold f_SE_choicesLeft at h
  refine gv_E (ls := [some (gR 37)]) (by decide) (fun h => by cases h) (Nat.le_of_ble_eq_true rfl) rfl ?_
  refine gv_B ok_SE_choicesLeft 3 rfl ?_
  by_cases c1 : ¬ (μ 37 11) = 0
  · rw [if_pos c1] at h
    refine gv_brT c1 ?_
    refine gv_B ok_SE_choicesLeft 3 rfl ?_
    have h9 := Option.some.inj h
    subst h9
    exact gv_Ri ok_SE_choicesLeft rfl rfl
  · rw [if_neg c1] at h
    refine gv_brF c1 ?_
    refine gv_B ok_SE_choicesLeft 2 rfl ?_
    have h9 := Option.some.inj h
    subst h9
    exact gv_Ri ok_SE_choicesLeft rfl rfl
def f_SE_goalsAtHand (g cap : Nat) (μ : Mu) : Option (Int32) :=
  (if ¬ (μ 37 11) = 0 then
  (b1 (f_GO_lengthFrom g cap (μ 37 9) μ) fun v3 =>
  some (v3))
  else
  some (0))
theorem t_SE_goalsAtHand {μ : Mu} {r : Int32} (h : f_SE_goalsAtHand g cap μ = some (r)) : gv_ev G (d + 1) M_SE_goalsAtHand [gR 37] (hp n acc g cap μ) (.inl (some (gI r))) (hp n acc g cap μ) := by
  unfold f_SE_goalsAtHand at h
  refine gv_E (ls := [some (gR 37)]) (by decide) (fun h => by cases h) (Nat.le_of_ble_eq_true rfl) rfl ?_
  refine gv_B ok_SE_goalsAtHand 3 rfl ?_
  by_cases c1 : ¬ (μ 37 11) = 0
  · rw [if_pos c1] at h
    refine gv_brT c1 ?_
    refine gv_B ok_SE_goalsAtHand 4 rfl ?_
    obtain ⟨v3, e2, h⟩ := b1_e h
    refine gv_Vc ok_SE_goalsAtHand rfl mk_GO_lengthFrom rfl (t_GO_lengthFrom (d := d) e2) rfl rfl (Nat.le_of_ble_eq_true rfl) rfl rfl rfl ?_
    have h9 := Option.some.inj h
    subst h9
    exact gv_Ri ok_SE_goalsAtHand rfl rfl
  · rw [if_neg c1] at h
    refine gv_brF c1 ?_
    refine gv_B ok_SE_goalsAtHand 2 rfl ?_
    have h9 := Option.some.inj h
    subst h9
    exact gv_Ri ok_SE_goalsAtHand rfl rfl
def f_SE_collections (μ : Mu) : Option (Int32) :=
  some ((μ 64 5))
theorem t_SE_collections {μ : Mu} {r : Int32} (h : f_SE_collections μ = some (r)) : gv_ev G (d + 0) M_SE_collections [gR 37] (hp n acc g cap μ) (.inl (some (gI r))) (hp n acc g cap μ) := by
  unfold f_SE_collections at h
  refine gv_E (ls := [some (gR 37)]) (by decide) (fun h => by cases h) (Nat.le_of_ble_eq_true rfl) rfl ?_
  refine gv_B ok_SE_collections 3 rfl ?_
  have h9 := Option.some.inj h
  subst h9
  exact gv_Ri ok_SE_collections rfl rfl
def f_SE_answerLength (μ : Mu) : Option (Int32 × Mu) :=
  (if ¬ (μ 37 11) = 2 then
  some (0, μ)
  else
  (b2 (f_AN_write (jbit (μ 38 2)) μ) fun v3 μ4 =>
  some (v3, μ4)))
theorem t_SE_answerLength {μ : Mu} {r : Int32} {μr : Mu} (h : f_SE_answerLength μ = some (r, μr)) : gv_ev G (d + 4) M_SE_answerLength [gR 37] (hp n acc g cap μ) (.inl (some (gI r))) (hp n acc g cap μr) := by
  unfold f_SE_answerLength at h
  refine gv_E (ls := [some (gR 37)]) (by decide) (fun h => by cases h) (Nat.le_of_ble_eq_true rfl) rfl ?_
  refine gv_B ok_SE_answerLength 4 rfl ?_
  by_cases c1 : ¬ (μ 37 11) = 2
  · rw [if_pos c1] at h
    refine gv_brT c1 ?_
    refine gv_B ok_SE_answerLength 1 rfl ?_
    have j0 := Option.some.inj h
    obtain ⟨i1, j1⟩ := Prod.mk.inj j0
    subst i1
    subst j1
    exact gv_Ri ok_SE_answerLength rfl rfl
  · rw [if_neg c1] at h
    refine gv_brF c1 ?_
    refine gv_B ok_SE_answerLength 5 rfl ?_
    refine gv_Sx (wp := 431) (x9 := 176) (by decide +kernel) (by decide +kernel) mk_J_jbit (t_jbit (d := d + 3)) rfl rfl (Nat.le_of_ble_eq_true rfl) ?_
    obtain ⟨v3, μ4, e2, h⟩ := b2_e h
    refine gv_Vc ok_SE_answerLength rfl mk_AN_write rfl (t_AN_write (d := d) e2) rfl rfl (Nat.le_of_ble_eq_true rfl) rfl rfl rfl ?_
    refine gv_B ok_SE_answerLength 1 rfl ?_
    have j0 := Option.some.inj h
    obtain ⟨i1, j1⟩ := Prod.mk.inj j0
    subst i1
    subst j1
    exact gv_Ri ok_SE_answerLength rfl rfl
def f_SE_answerWord (x0 : Int32) (μ : Mu) : Option (Int32) :=
  (b1 (f_AN_at x0 μ) fun v2 =>
  some (v2))
theorem t_SE_answerWord {x0 : Int32} {μ : Mu} {r : Int32} (h : f_SE_answerWord x0 μ = some (r)) : gv_ev G (d + 1) M_SE_answerWord [gR 37, gI x0] (hp n acc g cap μ) (.inl (some (gI r))) (hp n acc g cap μ) := by
  unfold f_SE_answerWord at h
  refine gv_E (ls := [some (gR 37), some (gI x0)]) (by decide) (fun h => by cases h) (Nat.le_of_ble_eq_true rfl) rfl ?_
  refine gv_B ok_SE_answerWord 3 rfl ?_
  obtain ⟨v2, e1, h⟩ := b1_e h
  refine gv_Vc ok_SE_answerWord rfl mk_AN_at rfl (t_AN_at (d := d) e1) rfl rfl (Nat.le_of_ble_eq_true rfl) rfl rfl rfl ?_
  have h9 := Option.some.inj h
  subst h9
  exact gv_Ri ok_SE_answerWord rfl rfl
end FNS
