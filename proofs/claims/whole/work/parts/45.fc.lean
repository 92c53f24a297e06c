/-! methods as functions of the numbers (written by wip/tools/genf.py, mkf.py) -/
section FNC
variable {G : gv_G} {d n g cap : Nat} {acc : Nat × Nat}
def f_CE_follow_4 : Nat → Int32 → Int32 → Mu → Option (Int32)
  | 0, _, _, _ => none
  | f + 1, y2, y3, μ =>
    (if 240 ≤ y3 then
    some (y2)
    else
    (if ¬ (y2 &&& 7) = 0 then
    some (y2)
    else
    (b1 (rd (μ 41) 240 (y2 >>> ((3 : Int32) &&& 31))) fun v3 =>
    if ¬ v3 = y2 then
    f_CE_follow_4 f v3 (y3 + 1) μ
    else
    some (y2))))
def f_CE_follow (x0 : Int32) (μ : Mu) : Option (Int32) :=
  f_CE_follow_4 fu x0 0 μ
theorem t_CE_follow_4 (fl : Nat) : ∀ {y2 : Int32} {y3 : Int32} {μ : Mu} {r : Int32}, f_CE_follow_4 fl y2 y3 μ = some (r) → gv_go G M_CE_follow (d + 0) (.inl (some (gI r))) (hp n acc g cap μ) 4 [some (gR 40), none, some (gI y2), some (gI y3), none] [] (hp n acc g cap μ) := by
  induction fl with
  | zero => intro _ _ _ _ h; cases h
  | succ f ih =>
    intro y2 y3 μ r h
    unfold f_CE_follow_4 at h
    refine gv_B ok_CE_follow 3 rfl ?_
    by_cases c1 : 240 ≤ y3
    · rw [if_pos c1] at h
      refine gv_brT c1 ?_
      refine gv_B ok_CE_follow 1 rfl ?_
      have h9 := Option.some.inj h
      subst h9
      exact gv_Ri ok_CE_follow rfl rfl
    · rw [if_neg c1] at h
      refine gv_brF c1 ?_
      refine gv_B ok_CE_follow 4 rfl ?_
      by_cases c2 : ¬ (y2 &&& 7) = 0
      · rw [if_pos c2] at h
        refine gv_brT c2 ?_
        refine gv_B ok_CE_follow 1 rfl ?_
        have h9 := Option.some.inj h
        subst h9
        exact gv_Ri ok_CE_follow rfl rfl
      · rw [if_neg c2] at h
        refine gv_brF c2 ?_
        refine gv_B ok_CE_follow 5 rfl ?_
        obtain ⟨v3, e4, h⟩ := b1_e h
        refine hp_rd ok_CE_follow rfl rfl e4 ?_
        refine gv_B ok_CE_follow 4 rfl ?_
        by_cases c5 : ¬ v3 = y2
        · rw [if_pos c5] at h
          refine gv_brT c5 ?_
          refine gv_B ok_CE_follow 4 rfl ?_
          exact gv_fk (ih h) ⟨rfl, ⟨rfl, ⟨rfl, trivial⟩⟩⟩
        · rw [if_neg c5] at h
          refine gv_brF c5 ?_
          refine gv_B ok_CE_follow 1 rfl ?_
          have h9 := Option.some.inj h
          subst h9
          exact gv_Ri ok_CE_follow rfl rfl
theorem t_CE_follow {x0 : Int32} {μ : Mu} {r : Int32} (h : f_CE_follow x0 μ = some (r)) : gv_ev G (d + 0) M_CE_follow [gR 40, gI x0] (hp n acc g cap μ) (.inl (some (gI r))) (hp n acc g cap μ) := by
  unfold f_CE_follow at h
  refine gv_E (ls := [some (gR 40), some (gI x0), none, none, none]) (by decide) (fun h => by cases h) (Nat.le_of_ble_eq_true rfl) rfl ?_
  refine gv_B ok_CE_follow 4 rfl ?_
  exact gv_fk (t_CE_follow_4 _ h) ⟨rfl, ⟨rfl, ⟨rfl, trivial⟩⟩⟩
def f_CE_nameOf (x0 : Int32) (μ : Mu) : Option (Int32) :=
  (if ¬ (x0 &&& 7) = 7 then
  some (x0)
  else
  (b1 (rd (μ 41) 240 (x0 >>> ((3 : Int32) &&& 31))) fun v2 =>
  some (v2)))
theorem t_CE_nameOf {x0 : Int32} {μ : Mu} {r : Int32} (h : f_CE_nameOf x0 μ = some (r)) : gv_ev G (d + 0) M_CE_nameOf [gR 40, gI x0] (hp n acc g cap μ) (.inl (some (gI r))) (hp n acc g cap μ) := by
  unfold f_CE_nameOf at h
  refine gv_E (ls := [some (gR 40), some (gI x0)]) (by decide) (fun h => by cases h) (Nat.le_of_ble_eq_true rfl) rfl ?_
  refine gv_B ok_CE_nameOf 5 rfl ?_
  by_cases c1 : ¬ (x0 &&& 7) = 7
  · rw [if_pos c1] at h
    refine gv_brT c1 ?_
    refine gv_B ok_CE_nameOf 1 rfl ?_
    have h9 := Option.some.inj h
    subst h9
    exact gv_Ri ok_CE_nameOf rfl rfl
  · rw [if_neg c1] at h
    refine gv_brF c1 ?_
    refine gv_B ok_CE_nameOf 5 rfl ?_
    obtain ⟨v2, e3, h⟩ := b1_e h
    refine hp_rd ok_CE_nameOf rfl rfl e3 ?_
    refine gv_B ok_CE_nameOf 1 rfl ?_
    have h9 := Option.some.inj h
    subst h9
    exact gv_Ri ok_CE_nameOf rfl rfl
def f_CE_argument (x0 : Int32) (x1 : Int32) (μ : Mu) : Option (Int32) :=
  (b1 (rd (μ 41) 240 ((x0 >>> ((3 : Int32) &&& 31)) + x1)) fun v1 =>
  some (v1))
theorem t_CE_argument {x0 : Int32} {x1 : Int32} {μ : Mu} {r : Int32} (h : f_CE_argument x0 x1 μ = some (r)) : gv_ev G (d + 0) M_CE_argument [gR 40, gI x0, gI x1] (hp n acc g cap μ) (.inl (some (gI r))) (hp n acc g cap μ) := by
  unfold f_CE_argument at h
  refine gv_E (ls := [some (gR 40), some (gI x0), some (gI x1)]) (by decide) (fun h => by cases h) (Nat.le_of_ble_eq_true rfl) rfl ?_
  refine gv_B ok_CE_argument 7 rfl ?_
  obtain ⟨v1, e2, h⟩ := b1_e h
  refine hp_rd ok_CE_argument rfl rfl e2 ?_
  have h9 := Option.some.inj h
  subst h9
  exact gv_Ri ok_CE_argument rfl rfl
def f_CE_bind (x0 : Int32) (x1 : Int32) (μ : Mu) : Option (Mu) :=
  (b1 (wr μ 41 240 (x0 >>> ((3 : Int32) &&& 31)) x1) fun μ1 =>
  b1 (wr μ1 42 240 (μ1 40 3) x0) fun μ4 =>
  some ((sI μ4 40 3 ((μ4 40 3) + 1))))
theorem t_CE_bind {x0 : Int32} {x1 : Int32} {μ : Mu} {μr : Mu} (h : f_CE_bind x0 x1 μ = some (μr)) : gv_ev G (d + 0) M_CE_bind [gR 40, gI x0, gI x1] (hp n acc g cap μ) (.inl none) (hp n acc g cap μr) := by
  unfold f_CE_bind at h
  refine gv_E (ls := [some (gR 40), some (gI x0), some (gI x1)]) (by decide) (fun h => by cases h) (Nat.le_of_ble_eq_true rfl) rfl ?_
  refine gv_B ok_CE_bind 6 rfl ?_
  obtain ⟨μ1, e2, h⟩ := b1_e h
  refine hp_wr ok_CE_bind rfl rfl rfl rfl e2 ?_
  refine gv_B ok_CE_bind 5 rfl ?_
  obtain ⟨μ4, e5, h⟩ := b1_e h
  refine hp_wr ok_CE_bind rfl rfl rfl rfl e5 ?_
  refine gv_B ok_CE_bind 5 rfl ?_
  refine hp_pf ok_CE_bind rfl rfl rfl rfl rfl (Nat.le_of_ble_eq_true rfl) rfl ?_
  have h9 := Option.some.inj h
  subst h9
  exact gv_Rv ok_CE_bind rfl rfl
def f_CE_goBack_7 (k1 : Int32) (k2 : Int32) : Nat → Int32 → Mu → Option (Mu)
  | 0, _, _ => none
  | f + 1, y3, μ =>
    (if y3 < k2 then
    some (μ)
    else
    (b1 (rd (μ 42) 240 y3) fun v2 =>
    b1 (rd (μ 42) 240 y3) fun v4 =>
    b1 (wr μ 41 240 (v2 >>> ((3 : Int32) &&& 31)) v4) fun μ6 =>
    f_CE_goBack_7 k1 k2 f (y3 + (-1)) μ6))
def f_CE_goBack (x0 : Int32) (x1 : Int32) (μ : Mu) : Option (Mu) :=
  (b1 (f_CE_goBack_7 x0 x1 fu ((μ 40 3) - 1) μ) fun μ9 =>
  some ((sI (sI μ9 40 3 x1) 40 1 x0)))
theorem t_CE_goBack_7 {r : gv_O} {hf : gv_H} {k1 : Int32} {k2 : Int32} (fl : Nat) : ∀ {y3 : Int32} {μ : Mu} {μz : Mu}, f_CE_goBack_7 k1 k2 fl y3 μ = some (μz) → gv_go G M_CE_goBack (d + 0) r hf 37 [some (gR 40), some (gI k1), some (gI k2), none] [] (hp n acc g cap μz) → gv_go G M_CE_goBack (d + 0) r hf 7 [some (gR 40), some (gI k1), some (gI k2), some (gI y3)] [] (hp n acc g cap μ) := by
  induction fl with
  | zero => intro _ _ _ h _; cases h
  | succ f ih =>
    intro y3 μ μz h KJ
    unfold f_CE_goBack_7 at h
    refine gv_B ok_CE_goBack 3 rfl ?_
    by_cases c1 : y3 < k2
    · rw [if_pos c1] at h
      refine gv_brT c1 ?_
      have h9 := Option.some.inj h
      subst h9
      exact gv_fk KJ ⟨rfl, ⟨rfl, ⟨rfl, trivial⟩⟩⟩
    · rw [if_neg c1] at h
      refine gv_brF c1 ?_
      refine gv_B ok_CE_goBack 5 rfl ?_
      obtain ⟨v2, e3, h⟩ := b1_e h
      refine hp_rd ok_CE_goBack rfl rfl e3 ?_
      refine gv_B ok_CE_goBack 5 rfl ?_
      obtain ⟨v4, e5, h⟩ := b1_e h
      refine hp_rd ok_CE_goBack rfl rfl e5 ?_
      obtain ⟨μ6, e7, h⟩ := b1_e h
      refine hp_wr ok_CE_goBack rfl rfl rfl rfl e7 ?_
      refine gv_B ok_CE_goBack 2 rfl ?_
      exact ih h KJ
theorem t_CE_goBack {x0 : Int32} {x1 : Int32} {μ : Mu} {μr : Mu} (h : f_CE_goBack x0 x1 μ = some (μr)) : gv_ev G (d + 0) M_CE_goBack [gR 40, gI x0, gI x1] (hp n acc g cap μ) (.inl none) (hp n acc g cap μr) := by
  unfold f_CE_goBack at h
  refine gv_E (ls := [some (gR 40), some (gI x0), some (gI x1), none]) (by decide) (fun h => by cases h) (Nat.le_of_ble_eq_true rfl) rfl ?_
  refine gv_B ok_CE_goBack 5 rfl ?_
  obtain ⟨μ9, e10, h⟩ := b1_e h
  have K11 : gv_go G M_CE_goBack (d + 0) (.inl none) (hp n acc g cap μr) 37 [some (gR 40), some (gI x0), some (gI x1), none] [] (hp n acc g cap μ9) := by
    refine gv_B ok_CE_goBack 2 rfl ?_
    refine hp_pf ok_CE_goBack rfl rfl rfl rfl rfl (Nat.le_of_ble_eq_true rfl) rfl ?_
    refine gv_B ok_CE_goBack 2 rfl ?_
    refine hp_pf ok_CE_goBack rfl rfl rfl rfl rfl (Nat.le_of_ble_eq_true rfl) rfl ?_
    have h9 := Option.some.inj h
    subst h9
    exact gv_Rv ok_CE_goBack rfl rfl
  exact t_CE_goBack_7 _ e10 K11
def f_CE_clear (μ : Mu) : Option (Mu) :=
  some ((sI (sI μ 40 1 0) 40 3 0))
theorem t_CE_clear {μ : Mu} {μr : Mu} (h : f_CE_clear μ = some (μr)) : gv_ev G (d + 0) M_CE_clear [gR 40] (hp n acc g cap μ) (.inl none) (hp n acc g cap μr) := by
  unfold f_CE_clear at h
  refine gv_E (ls := [some (gR 40)]) (by decide) (fun h => by cases h) (Nat.le_of_ble_eq_true rfl) rfl ?_
  refine gv_B ok_CE_clear 2 rfl ?_
  refine hp_pf ok_CE_clear rfl rfl rfl rfl rfl (Nat.le_of_ble_eq_true rfl) rfl ?_
  refine gv_B ok_CE_clear 2 rfl ?_
  refine hp_pf ok_CE_clear rfl rfl rfl rfl rfl (Nat.le_of_ble_eq_true rfl) rfl ?_
  have h9 := Option.some.inj h
  subst h9
  exact gv_Rv ok_CE_clear rfl rfl
def f_CE_takeVariables_2 (k1 : Int32) : Nat → Int32 → Mu → Option (Mu)
  | 0, _, _ => none
  | f + 1, y2, μ =>
    (if 8 ≤ y2 then
    some (μ)
    else
    (b1 (if ¬ ((k1 >>> (y2 &&& 31)) &&& 1) = 1 then
    some (μ)
    else
    (b1 (wr μ 43 8 y2 (μ 40 1)) fun μ6 =>
    b1 (wr μ6 41 240 (μ6 40 1) ((μ6 40 1) <<< ((3 : Int32) &&& 31))) fun μ9 =>
    some ((sI μ9 40 1 ((μ9 40 1) + 1))))) fun μ2 =>
    f_CE_takeVariables_2 k1 f (y2 + 1) μ2))
def f_CE_takeVariables (x0 : Int32) (μ : Mu) : Option (Mu) :=
  (b1 (f_CE_takeVariables_2 x0 fu 0 μ) fun μ13 =>
  some (μ13))
theorem t_CE_takeVariables_2 {r : gv_O} {hf : gv_H} {k1 : Int32} (fl : Nat) : ∀ {y2 : Int32} {μ : Mu} {μz : Mu}, f_CE_takeVariables_2 k1 fl y2 μ = some (μz) → gv_go G M_CE_takeVariables (d + 0) r hf 58 [none, none, none] [] (hp n acc g cap μz) → gv_go G M_CE_takeVariables (d + 0) r hf 2 [some (gR 40), some (gI k1), some (gI y2)] [] (hp n acc g cap μ) := by
  induction fl with
  | zero => intro _ _ _ h _; cases h
  | succ f ih =>
    intro y2 μ μz h KJ
    unfold f_CE_takeVariables_2 at h
    refine gv_B ok_CE_takeVariables 3 rfl ?_
    by_cases c1 : 8 ≤ y2
    · rw [if_pos c1] at h
      refine gv_brT c1 ?_
      have h9 := Option.some.inj h
      subst h9
      exact gv_fk KJ trivial
    · rw [if_neg c1] at h
      refine gv_brF c1 ?_
      refine gv_B ok_CE_takeVariables 7 rfl ?_
      obtain ⟨μ2, e3, h⟩ := b1_e h
      have K4 : gv_go G M_CE_takeVariables (d + 0) r hf 52 [some (gR 40), some (gI k1), some (gI y2)] [] (hp n acc g cap μ2) := by
        refine gv_B ok_CE_takeVariables 2 rfl ?_
        exact ih h KJ
      clear h
      have h := e3
      clear e3
      by_cases c5 : ¬ ((k1 >>> (y2 &&& 31)) &&& 1) = 1
      · rw [if_pos c5] at h
        refine gv_brT c5 ?_
        have h9 := Option.some.inj h
        subst h9
        exact K4
      · rw [if_neg c5] at h
        refine gv_brF c5 ?_
        refine gv_B ok_CE_takeVariables 5 rfl ?_
        obtain ⟨μ6, e7, h⟩ := b1_e h
        refine hp_wr ok_CE_takeVariables rfl rfl rfl rfl e7 ?_
        refine gv_B ok_CE_takeVariables 8 rfl ?_
        obtain ⟨μ9, e10, h⟩ := b1_e h
        refine hp_wr ok_CE_takeVariables rfl rfl rfl rfl e10 ?_
        refine gv_B ok_CE_takeVariables 5 rfl ?_
        refine hp_pf ok_CE_takeVariables rfl rfl rfl rfl rfl (Nat.le_of_ble_eq_true rfl) rfl ?_
        have h9 := Option.some.inj h
        subst h9
        exact K4
theorem t_CE_takeVariables {x0 : Int32} {μ : Mu} {μr : Mu} (h : f_CE_takeVariables x0 μ = some (μr)) : gv_ev G (d + 0) M_CE_takeVariables [gR 40, gI x0] (hp n acc g cap μ) (.inl none) (hp n acc g cap μr) := by
  unfold f_CE_takeVariables at h
  refine gv_E (ls := [some (gR 40), some (gI x0), none]) (by decide) (fun h => by cases h) (Nat.le_of_ble_eq_true rfl) rfl ?_
  refine gv_B ok_CE_takeVariables 2 rfl ?_
  obtain ⟨μ13, e14, h⟩ := b1_e h
  have K15 : gv_go G M_CE_takeVariables (d + 0) (.inl none) (hp n acc g cap μr) 58 [none, none, none] [] (hp n acc g cap μ13) := by
    have h9 := Option.some.inj h
    subst h9
    exact gv_Rv ok_CE_takeVariables rfl rfl
  exact t_CE_takeVariables_2 _ e14 K15
def f_CE_termOf (x0 : Int32) (μ : Mu) : Option (Int32) :=
  (if ¬ (x0 &&& 7) = 0 then
  (b1 (f_GE_argumentsOf x0 μ) fun v3 =>
  if v3 ≤ 0 then
  some (x0)
  else
  some ((((μ 40 1) <<< ((3 : Int32) &&& 31)) ||| 7)))
  else
  (b1 (rd (μ 43) 8 (x0 >>> ((3 : Int32) &&& 31))) fun v5 =>
  some ((v5 <<< ((3 : Int32) &&& 31)))))
theorem t_CE_termOf {x0 : Int32} {μ : Mu} {r : Int32} (h : f_CE_termOf x0 μ = some (r)) : gv_ev G (d + 1) M_CE_termOf [gR 40, gI x0] (hp n acc g cap μ) (.inl (some (gI r))) (hp n acc g cap μ) := by
  unfold f_CE_termOf at h
  refine gv_E (ls := [some (gR 40), some (gI x0)]) (by decide) (fun h => by cases h) (Nat.le_of_ble_eq_true rfl) rfl ?_
  refine gv_B ok_CE_termOf 4 rfl ?_
  by_cases c1 : ¬ (x0 &&& 7) = 0
  · rw [if_pos c1] at h
    refine gv_brT c1 ?_
    refine gv_B ok_CE_termOf 1 rfl ?_
    obtain ⟨v3, e2, h⟩ := b1_e h
    refine gv_Sc ok_CE_termOf rfl mk_GE_argumentsOf rfl (t_GE_argumentsOf (d := d) e2) rfl rfl (Nat.le_of_ble_eq_true rfl)  ?_
    refine gv_B ok_CE_termOf 1 rfl ?_
    by_cases c4 : v3 ≤ 0
    · rw [if_pos c4] at h
      refine gv_brT c4 ?_
      refine gv_B ok_CE_termOf 1 rfl ?_
      have h9 := Option.some.inj h
      subst h9
      exact gv_Ri ok_CE_termOf rfl rfl
    · rw [if_neg c4] at h
      refine gv_brF c4 ?_
      refine gv_B ok_CE_termOf 7 rfl ?_
      have h9 := Option.some.inj h
      subst h9
      exact gv_Ri ok_CE_termOf rfl rfl
  · rw [if_neg c1] at h
    refine gv_brF c1 ?_
    refine gv_B ok_CE_termOf 5 rfl ?_
    obtain ⟨v5, e6, h⟩ := b1_e h
    refine hp_rd ok_CE_termOf rfl rfl e6 ?_
    refine gv_B ok_CE_termOf 2 rfl ?_
    have h9 := Option.some.inj h
    subst h9
    exact gv_Ri ok_CE_termOf rfl rfl
def f_CE_place (x0 : Int32) (μ : Mu) : Option (Mu) :=
  (if (μ 40 6) ≤ 0 then
  (b1 (wr μ 45 30 (μ 40 8) x0) fun μ2 =>
  some ((sI μ2 40 8 ((μ2 40 8) + 1))))
  else
  (b1 (rd (μ 44) 30 ((μ 40 6) - 1)) fun v5 =>
  b1 (wr (sI μ 40 6 ((μ 40 6) - 1)) 41 240 v5 x0) fun μ7 =>
  some (μ7)))
theorem t_CE_place {x0 : Int32} {μ : Mu} {μr : Mu} (h : f_CE_place x0 μ = some (μr)) : gv_ev G (d + 0) M_CE_place [gR 40, gI x0] (hp n acc g cap μ) (.inl none) (hp n acc g cap μr) := by
  unfold f_CE_place at h
  refine gv_E (ls := [some (gR 40), some (gI x0)]) (by decide) (fun h => by cases h) (Nat.le_of_ble_eq_true rfl) rfl ?_
  refine gv_B ok_CE_place 3 rfl ?_
  by_cases c1 : (μ 40 6) ≤ 0
  · rw [if_pos c1] at h
    refine gv_brT c1 ?_
    refine gv_B ok_CE_place 5 rfl ?_
    obtain ⟨μ2, e3, h⟩ := b1_e h
    refine hp_wr ok_CE_place rfl rfl rfl rfl e3 ?_
    refine gv_B ok_CE_place 5 rfl ?_
    refine hp_pf ok_CE_place rfl rfl rfl rfl rfl (Nat.le_of_ble_eq_true rfl) rfl ?_
    have h9 := Option.some.inj h
    subst h9
    exact gv_Rv ok_CE_place rfl rfl
  · rw [if_neg c1] at h
    refine gv_brF c1 ?_
    refine gv_B ok_CE_place 5 rfl ?_
    refine hp_pf ok_CE_place rfl rfl rfl rfl rfl (Nat.le_of_ble_eq_true rfl) rfl ?_
    refine gv_B ok_CE_place 6 rfl ?_
    obtain ⟨v5, e6, h⟩ := b1_e h
    refine hp_rd ok_CE_place rfl rfl e6 ?_
    refine gv_B ok_CE_place 1 rfl ?_
    obtain ⟨μ7, e8, h⟩ := b1_e h
    refine hp_wr ok_CE_place rfl rfl rfl rfl e8 ?_
    refine gv_B ok_CE_place 1 rfl ?_
    have h9 := Option.some.inj h
    subst h9
    exact gv_Rv ok_CE_place rfl rfl
def f_CE_takeName_22 (k2 : Int32) : Nat → Int32 → Mu → Option (Mu)
  | 0, _, _ => none
  | f + 1, y3, μ =>
    (if y3 < 1 then
    some (μ)
    else
    (b1 (wr μ 44 30 (μ 40 6) ((μ 40 1) + y3)) fun μ8 =>
    f_CE_takeName_22 k2 f (y3 + (-1)) (sI μ8 40 6 ((μ8 40 6) + 1))))
def f_CE_takeName (x0 : Int32) (μ : Mu) : Option (Mu) :=
  (b1 (f_GE_argumentsOf x0 μ) fun v2 =>
  if ¬ v2 = 0 then
  (b1 (wr μ 41 240 (μ 40 1) x0) fun μ4 =>
  b1 (f_CE_takeName_22 v2 fu v2 μ4) fun μ11 =>
  some ((sI μ11 40 1 ((μ11 40 1) + (1 + v2)))))
  else
  some (μ))
theorem t_CE_takeName_22 {r : gv_O} {hf : gv_H} {k2 : Int32} (fl : Nat) : ∀ {y3 : Int32} {μ : Mu} {μz : Mu}, f_CE_takeName_22 k2 fl y3 μ = some (μz) → gv_go G M_CE_takeName (d + 1) r hf 58 [some (gR 40), none, some (gI k2), none] [] (hp n acc g cap μz) → gv_go G M_CE_takeName (d + 1) r hf 22 [some (gR 40), none, some (gI k2), some (gI y3)] [] (hp n acc g cap μ) := by
  induction fl with
  | zero => intro _ _ _ h _; cases h
  | succ f ih =>
    intro y3 μ μz h KJ
    unfold f_CE_takeName_22 at h
    refine gv_B ok_CE_takeName 3 rfl ?_
    by_cases c7 : y3 < 1
    · rw [if_pos c7] at h
      refine gv_brT c7 ?_
      have h9 := Option.some.inj h
      subst h9
      exact gv_fk KJ ⟨rfl, ⟨rfl, trivial⟩⟩
    · rw [if_neg c7] at h
      refine gv_brF c7 ?_
      refine gv_B ok_CE_takeName 8 rfl ?_
      obtain ⟨μ8, e9, h⟩ := b1_e h
      refine hp_wr ok_CE_takeName rfl rfl rfl rfl e9 ?_
      refine gv_B ok_CE_takeName 5 rfl ?_
      refine hp_pf ok_CE_takeName rfl rfl rfl rfl rfl (Nat.le_of_ble_eq_true rfl) rfl ?_
      refine gv_B ok_CE_takeName 2 rfl ?_
      exact ih h KJ
theorem t_CE_takeName {x0 : Int32} {μ : Mu} {μr : Mu} (h : f_CE_takeName x0 μ = some (μr)) : gv_ev G (d + 1) M_CE_takeName [gR 40, gI x0] (hp n acc g cap μ) (.inl none) (hp n acc g cap μr) := by
  unfold f_CE_takeName at h
  refine gv_E (ls := [some (gR 40), some (gI x0), none, none]) (by decide) (fun h => by cases h) (Nat.le_of_ble_eq_true rfl) rfl ?_
  refine gv_B ok_CE_takeName 1 rfl ?_
  obtain ⟨v2, e1, h⟩ := b1_e h
  refine gv_Sc ok_CE_takeName rfl mk_GE_argumentsOf rfl (t_GE_argumentsOf (d := d) e1) rfl rfl (Nat.le_of_ble_eq_true rfl)  ?_
  refine gv_B ok_CE_takeName 3 rfl ?_
  by_cases c3 : ¬ v2 = 0
  · rw [if_pos c3] at h
    refine gv_brT c3 ?_
    refine gv_B ok_CE_takeName 5 rfl ?_
    obtain ⟨μ4, e5, h⟩ := b1_e h
    refine hp_wr ok_CE_takeName rfl rfl rfl rfl e5 ?_
    refine gv_B ok_CE_takeName 2 rfl ?_
    obtain ⟨μ11, e12, h⟩ := b1_e h
    have K13 : gv_go G M_CE_takeName (d + 1) (.inl none) (hp n acc g cap μr) 58 [some (gR 40), none, some (gI v2), none] [] (hp n acc g cap μ11) := by
      refine gv_B ok_CE_takeName 7 rfl ?_
      refine hp_pf ok_CE_takeName rfl rfl rfl rfl rfl (Nat.le_of_ble_eq_true rfl) rfl ?_
      have h9 := Option.some.inj h
      subst h9
      exact gv_Rv ok_CE_takeName rfl rfl
    exact gv_fk (t_CE_takeName_22 _ e12 K13) ⟨rfl, ⟨rfl, ⟨rfl, trivial⟩⟩⟩
  · rw [if_neg c3] at h
    refine gv_brF c3 ?_
    have h9 := Option.some.inj h
    subst h9
    exact gv_Rv ok_CE_takeName rfl rfl
def f_CE_copy_20 (q : Nat) : Nat → Int32 → Mu → Option (Mu)
  | 0, _, _ => none
  | f + 1, y2, μ =>
    (if (μ q 1) ≤ y2 then
    some (μ)
    else
    (b1 (rd (μ (q + 1)) 30 y2) fun v5 =>
    b1 (f_CE_termOf v5 μ) fun v8 =>
    b1 (f_CE_place v8 μ) fun μ10 =>
    b1 (rd (μ10 (q + 1)) 30 y2) fun v12 =>
    b1 (f_CE_takeName v12 μ10) fun μ15 =>
    f_CE_copy_20 q f (y2 + 1) μ15))
def f_CE_copy (q : Nat) (μ : Mu) : Option (Mu) :=
  (if clPb q = true then
  (b1 (f_CE_takeVariables ((sI (sI μ 40 6 0) 40 8 0) q 2) (sI (sI μ 40 6 0) 40 8 0)) fun μ2 =>
  b1 (f_CE_copy_20 q fu 0 μ2) fun μ17 =>
  some (μ17))
  else none)
theorem t_CE_copy_20 {r : gv_O} {hf : gv_H} {q : Nat} (hq : clPb q = true) (fl : Nat) : ∀ {y2 : Int32} {μ : Mu} {μz : Mu}, f_CE_copy_20 q fl y2 μ = some (μz) → gv_go G M_CE_copy (d + 2) r hf 58 [none, none, none] [] (hp n acc g cap μz) → gv_go G M_CE_copy (d + 2) r hf 20 [some (gR 40), some (gR q), some (gI y2)] [] (hp n acc g cap μ) := by
  induction fl with
  | zero => intro _ _ _ h _; cases h
  | succ f ih =>
    intro y2 μ μz h KJ
    unfold f_CE_copy_20 at h
    refine gv_B ok_CE_copy 2 rfl ?_
    refine gv_gf ok_CE_copy rfl (tc_o hq _ _ _) rfl ?_
    refine gv_B ok_CE_copy 1 rfl ?_
    by_cases c4 : (μ q 1) ≤ y2
    · rw [if_pos c4] at h
      refine gv_brT c4 ?_
      have h9 := Option.some.inj h
      subst h9
      exact gv_fk KJ trivial
    · rw [if_neg c4] at h
      refine gv_brF c4 ?_
      refine gv_B ok_CE_copy 3 rfl ?_
      refine gv_gf ok_CE_copy rfl (tc_o hq _ _ _) rfl ?_
      refine gv_B ok_CE_copy 1 rfl ?_
      obtain ⟨v5, e6, h⟩ := b1_e h
      refine hp_rd ok_CE_copy rfl (tc_r hq _ _ _) e6 ?_
      obtain ⟨v8, e7, h⟩ := b1_e h
      refine gv_Vc ok_CE_copy rfl mk_CE_termOf rfl (t_CE_termOf (d := d) e7) rfl rfl (Nat.le_of_ble_eq_true rfl) rfl rfl rfl ?_
      obtain ⟨μ10, e9, h⟩ := b1_e h
      refine gv_Vc ok_CE_copy rfl mk_CE_place rfl (t_CE_place (d := d + 1) e9) rfl rfl (Nat.le_of_ble_eq_true rfl) rfl rfl rfl ?_
      refine gv_B ok_CE_copy 2 rfl ?_
      refine gv_gf ok_CE_copy rfl (tc_o hq _ _ _) rfl ?_
      refine gv_B ok_CE_copy 1 rfl ?_
      obtain ⟨v12, e13, h⟩ := b1_e h
      refine hp_rd ok_CE_copy rfl (tc_r hq _ _ _) e13 ?_
      obtain ⟨μ15, e14, h⟩ := b1_e h
      refine gv_Vc ok_CE_copy rfl mk_CE_takeName rfl (t_CE_takeName (d := d) e14) rfl rfl (Nat.le_of_ble_eq_true rfl) rfl rfl rfl ?_
      refine gv_B ok_CE_copy 2 rfl ?_
      exact ih h KJ
theorem t_CE_copy {q : Nat} {μ : Mu} {μr : Mu} (h : f_CE_copy q μ = some (μr)) : gv_ev G (d + 2) M_CE_copy [gR 40, gR q] (hp n acc g cap μ) (.inl none) (hp n acc g cap μr) := by
  unfold f_CE_copy at h
  by_cases hq : clPb q = true
  rotate_left
  · rw [if_neg hq] at h
    cases h
  rw [if_pos hq] at h
  refine gv_E (ls := [some (gR 40), some (gR q), none]) (by decide) (fun h => by cases h) (Nat.le_of_ble_eq_true rfl) rfl ?_
  refine gv_B ok_CE_copy 2 rfl ?_
  refine hp_pf ok_CE_copy rfl rfl rfl rfl rfl (Nat.le_of_ble_eq_true rfl) rfl ?_
  refine gv_B ok_CE_copy 2 rfl ?_
  refine hp_pf ok_CE_copy rfl rfl rfl rfl rfl (Nat.le_of_ble_eq_true rfl) rfl ?_
  refine gv_B ok_CE_copy 2 rfl ?_
  refine gv_gf ok_CE_copy rfl (tc_o hq _ _ _) rfl ?_
  obtain ⟨μ2, e1, h⟩ := b1_e h
  refine gv_Vc ok_CE_copy rfl mk_CE_takeVariables rfl (t_CE_takeVariables (d := d + 1) e1) rfl rfl (Nat.le_of_ble_eq_true rfl) rfl rfl rfl ?_
  refine gv_B ok_CE_copy 2 rfl ?_
  obtain ⟨μ17, e18, h⟩ := b1_e h
  have K19 : gv_go G M_CE_copy (d + 2) (.inl none) (hp n acc g cap μr) 58 [none, none, none] [] (hp n acc g cap μ17) := by
    have h9 := Option.some.inj h
    subst h9
    exact gv_Rv ok_CE_copy rfl rfl
  exact t_CE_copy_20 hq _ e18 K19
end FNC
