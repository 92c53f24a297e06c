/-! methods as functions of the numbers (written by wip/tools/genf.py, mkf.py) -/
section FNK
variable {G : gv_G} {d n g cap : Nat} {acc : Nat × Nat}
def f_CA_isOperation (x0 : Int32) (μ : Mu) : Option (Int32) :=
  (b1 (f_CE_nameOf x0 μ) fun v2 =>
  if ¬ (v2 &&& 7) = 4 then
  some (0)
  else
  (if (v2 >>> ((3 : Int32) &&& 31)) < 28 then
  some (0)
  else
  some (1)))
theorem t_CA_isOperation {x0 : Int32} {μ : Mu} {r : Int32} (h : f_CA_isOperation x0 μ = some (r)) : gv_ev G (d + 1) M_CA_isOperation [gR 52, gI x0] (hp n acc g cap μ) (.inl (some (gI r))) (hp n acc g cap μ) := by
  unfold f_CA_isOperation at h
  refine gv_E (ls := [some (gR 52), some (gI x0), none]) (by decide) (fun h => by cases h) (Nat.le_of_ble_eq_true rfl) rfl ?_
  refine gv_B ok_CA_isOperation 3 rfl ?_
  obtain ⟨v2, e1, h⟩ := b1_e h
  refine gv_Vc ok_CA_isOperation rfl mk_CE_nameOf rfl (t_CE_nameOf (d := d) e1) rfl rfl (Nat.le_of_ble_eq_true rfl) rfl rfl rfl ?_
  refine gv_B ok_CA_isOperation 6 rfl ?_
  by_cases c3 : ¬ (v2 &&& 7) = 4
  · rw [if_pos c3] at h
    refine gv_brT c3 ?_
    refine gv_B ok_CA_isOperation 1 rfl ?_
    have h9 := Option.some.inj h
    subst h9
    exact gv_Rz ok_CA_isOperation rfl rfl (by decide)
  · rw [if_neg c3] at h
    refine gv_brF c3 ?_
    refine gv_B ok_CA_isOperation 5 rfl ?_
    by_cases c4 : (v2 >>> ((3 : Int32) &&& 31)) < 28
    · rw [if_pos c4] at h
      refine gv_brT c4 ?_
      refine gv_B ok_CA_isOperation 1 rfl ?_
      have h9 := Option.some.inj h
      subst h9
      exact gv_Rz ok_CA_isOperation rfl rfl (by decide)
    · rw [if_neg c4] at h
      refine gv_brF c4 ?_
      refine gv_B ok_CA_isOperation 2 rfl ?_
      have h9 := Option.some.inj h
      subst h9
      exact gv_Rz ok_CA_isOperation rfl rfl (by decide)
def f_CA_roundIntoRange (x0 : Int32) (μ : Mu) : Option (Int32) :=
  some (((x0 <<< ((3 : Int32) &&& 31)) >>> ((3 : Int32) &&& 31)))
theorem t_CA_roundIntoRange {x0 : Int32} {μ : Mu} {r : Int32} (h : f_CA_roundIntoRange x0 μ = some (r)) : gv_ev G (d + 0) M_CA_roundIntoRange [gI x0] (hp n acc g cap μ) (.inl (some (gI r))) (hp n acc g cap μ) := by
  unfold f_CA_roundIntoRange at h
  refine gv_E (ls := [some (gI x0)]) (by decide) (fun h => by cases h) (Nat.le_of_ble_eq_true rfl) rfl ?_
  refine gv_B ok_CA_roundIntoRange 5 rfl ?_
  have h9 := Option.some.inj h
  subst h9
  exact gv_Ri ok_CA_roundIntoRange rfl rfl
def f_CA_join (x0 : Int32) (x1 : Int32) (x2 : Int32) (μ : Mu) : Option (Int64) :=
  (if x0 = 28 then
  (b1 (f_CA_roundIntoRange (x1 + x2) μ) fun v3 =>
  some ((Int32.toInt64 v3)))
  else
  (if x0 = 29 then
  (b1 (f_CA_roundIntoRange (x1 - x2) μ) fun v6 =>
  some ((Int32.toInt64 v6)))
  else
  (if x0 = 30 then
  (b1 (f_CA_roundIntoRange (x1 * x2) μ) fun v9 =>
  some ((Int32.toInt64 v9)))
  else
  (if x0 = 31 then
  (if ¬ x2 = 0 then
  (if x2 = (0 : Int32) then none else b1 (f_CA_roundIntoRange (x1 / x2) μ) fun v14 =>
  some ((Int32.toInt64 v14)))
  else
  some (4294967296))
  else
  some (4294967296)))))
theorem t_CA_join {x0 : Int32} {x1 : Int32} {x2 : Int32} {μ : Mu} {r : Int64} (h : f_CA_join x0 x1 x2 μ = some (r)) : gv_ev G (d + 1) M_CA_join [gI x0, gI x1, gI x2] (hp n acc g cap μ) (.inl (some (gL r))) (hp n acc g cap μ) := by
  unfold f_CA_join at h
  refine gv_E (ls := [some (gI x0), some (gI x1), some (gI x2)]) (by decide) (fun h => by cases h) (Nat.le_of_ble_eq_true rfl) rfl ?_
  refine gv_B ok_CA_join 2 rfl ?_
  refine gv_pce (p2 := if x0 = 28 then 32 else if x0 = 29 then 40 else if x0 = 30 then 48 else if x0 = 31 then 56 else 74) rfl ?_
  by_cases c1 : x0 = 28
  · rw [if_pos c1] at h
    refine gv_brT c1 ?_
    refine gv_B ok_CA_join 3 rfl ?_
    obtain ⟨v3, e2, h⟩ := b1_e h
    refine gv_Sc ok_CA_join rfl mk_CA_roundIntoRange rfl (t_CA_roundIntoRange (d := d) e2) rfl rfl (Nat.le_of_ble_eq_true rfl)  ?_
    refine gv_B ok_CA_join 1 rfl ?_
    have h9 := Option.some.inj h
    subst h9
    exact gv_Rl ok_CA_join rfl rfl
  · rw [if_neg c1] at h
    refine gv_brF c1 ?_
    by_cases c4 : x0 = 29
    · rw [if_pos c4] at h
      refine gv_brT c4 ?_
      refine gv_B ok_CA_join 3 rfl ?_
      obtain ⟨v6, e5, h⟩ := b1_e h
      refine gv_Sc ok_CA_join rfl mk_CA_roundIntoRange rfl (t_CA_roundIntoRange (d := d) e5) rfl rfl (Nat.le_of_ble_eq_true rfl)  ?_
      refine gv_B ok_CA_join 1 rfl ?_
      have h9 := Option.some.inj h
      subst h9
      exact gv_Rl ok_CA_join rfl rfl
    · rw [if_neg c4] at h
      refine gv_brF c4 ?_
      by_cases c7 : x0 = 30
      · rw [if_pos c7] at h
        refine gv_brT c7 ?_
        refine gv_B ok_CA_join 3 rfl ?_
        obtain ⟨v9, e8, h⟩ := b1_e h
        refine gv_Sc ok_CA_join rfl mk_CA_roundIntoRange rfl (t_CA_roundIntoRange (d := d) e8) rfl rfl (Nat.le_of_ble_eq_true rfl)  ?_
        refine gv_B ok_CA_join 1 rfl ?_
        have h9 := Option.some.inj h
        subst h9
        exact gv_Rl ok_CA_join rfl rfl
      · rw [if_neg c7] at h
        refine gv_brF c7 ?_
        by_cases c10 : x0 = 31
        · rw [if_pos c10] at h
          refine gv_brT c10 ?_
          refine gv_B ok_CA_join 2 rfl ?_
          by_cases c11 : ¬ x2 = 0
          · rw [if_pos c11] at h
            refine gv_brT c11 ?_
            refine gv_B ok_CA_join 2 rfl ?_
            by_cases c12 : x2 = (0 : Int32)
            · rw [if_pos c12] at h
              cases h
            rw [if_neg c12] at h
            refine gv_idv ok_CA_join rfl c12 ?_
            obtain ⟨v14, e13, h⟩ := b1_e h
            refine gv_Sc ok_CA_join rfl mk_CA_roundIntoRange rfl (t_CA_roundIntoRange (d := d) e13) rfl rfl (Nat.le_of_ble_eq_true rfl)  ?_
            refine gv_B ok_CA_join 1 rfl ?_
            have h9 := Option.some.inj h
            subst h9
            exact gv_Rl ok_CA_join rfl rfl
          · rw [if_neg c11] at h
            refine gv_brF c11 ?_
            refine gv_B ok_CA_join 2 rfl ?_
            have h9 := Option.some.inj h
            subst h9
            exact gv_Rl ok_CA_join rfl rfl
        · rw [if_neg c10] at h
          refine gv_brF c10 ?_
          refine gv_B ok_CA_join 1 rfl ?_
          have h9 := Option.some.inj h
          subst h9
          exact gv_Rl ok_CA_join rfl rfl
def f_CA_resultOf : Nat → Int32 → Mu → Option (Int64 × Mu)
  | 0, _, _ => none
  | f + 1, x0, μ =>
    (b1 (f_CE_follow x0 μ) fun v2 =>
    if ¬ (v2 &&& 7) = 1 then
    (b1 (f_CA_isOperation v2 μ) fun v5 =>
    if v5 = 0 then
    some (4294967296, μ)
    else
    (if (μ 52 1) < 30 then
    (b1 (f_CE_argument v2 1 (sI μ 52 1 ((μ 52 1) + 1))) fun v9 =>
    b2 (f_CA_resultOf f v9 (sI μ 52 1 ((μ 52 1) + 1))) fun v11 μ12 =>
    if ¬ (lg_cmp v11 4294967296) = 0 then
    (b1 (f_CE_argument v2 2 μ12) fun v16 =>
    b2 (f_CA_resultOf f v16 μ12) fun v18 μ19 =>
    if ¬ (lg_cmp v18 4294967296) = 0 then
    (b1 (f_CE_nameOf v2 μ19) fun v23 =>
    b1 (f_CA_join (v23 >>> ((3 : Int32) &&& 31)) (Int64.toInt32 v11) (Int64.toInt32 v18) μ19) fun v25 =>
    some (v25, μ19))
    else
    some (4294967296, μ19))
    else
    some (4294967296, μ12))
    else
    some (4294967296, μ)))
    else
    some ((Int32.toInt64 (v2 >>> ((3 : Int32) &&& 31))), μ))
theorem t_CA_resultOf (fl : Nat) : ∀ {x0 : Int32} {μ : Mu} {r : Int64} {μr : Mu}, f_CA_resultOf fl x0 μ = some (r, μr) → gv_ev G (d + fl + 1) M_CA_resultOf [gR 52, gI x0] (hp n acc g cap μ) (.inl (some (gL r))) (hp n acc g cap μr) := by
  induction fl with
  | zero => intro _ _ _ _ h; cases h
  | succ f ih =>
    intro x0 μ r μr h
    unfold f_CA_resultOf at h
    refine gv_E (ls := [some (gR 52), some (gI x0), none, none, none, none, none]) (by decide) (fun h => by cases h) (Nat.le_of_ble_eq_true rfl) rfl ?_
    refine gv_B ok_CA_resultOf 3 rfl ?_
    obtain ⟨v2, e1, h⟩ := b1_e h
    refine gv_Vc ok_CA_resultOf rfl mk_CE_follow rfl (t_CE_follow (d := d + f + 1) e1) rfl rfl (Nat.le_of_ble_eq_true rfl) rfl rfl rfl ?_
    refine gv_B ok_CA_resultOf 6 rfl ?_
    by_cases c3 : ¬ (v2 &&& 7) = 1
    · rw [if_pos c3] at h
      refine gv_brT c3 ?_
      refine gv_B ok_CA_resultOf 2 rfl ?_
      obtain ⟨v5, e4, h⟩ := b1_e h
      refine gv_Vc ok_CA_resultOf rfl mk_CA_isOperation rfl (t_CA_isOperation (d := d + f) e4) rfl rfl (Nat.le_of_ble_eq_true rfl) rfl rfl rfl ?_
      refine gv_B ok_CA_resultOf 1 rfl ?_
      by_cases c6 : v5 = 0
      · rw [if_pos c6] at h
        refine gv_brT c6 ?_
        refine gv_B ok_CA_resultOf 1 rfl ?_
        have j0 := Option.some.inj h
        obtain ⟨i1, j1⟩ := Prod.mk.inj j0
        subst i1
        subst j1
        exact gv_Rl ok_CA_resultOf rfl rfl
      · rw [if_neg c6] at h
        refine gv_brF c6 ?_
        refine gv_B ok_CA_resultOf 4 rfl ?_
        by_cases c7 : (μ 52 1) < 30
        · rw [if_pos c7] at h
          refine gv_brT c7 ?_
          refine gv_B ok_CA_resultOf 5 rfl ?_
          refine hp_pf ok_CA_resultOf rfl rfl rfl rfl rfl (Nat.le_of_ble_eq_true rfl) rfl ?_
          refine gv_B ok_CA_resultOf 5 rfl ?_
          obtain ⟨v9, e8, h⟩ := b1_e h
          refine gv_Vc ok_CA_resultOf rfl mk_CE_argument rfl (t_CE_argument (d := d + f + 1) e8) rfl rfl (Nat.le_of_ble_eq_true rfl) rfl rfl rfl ?_
          obtain ⟨v11, μ12, e10, h⟩ := b2_e h
          refine gv_Vc ok_CA_resultOf rfl mk_CA_resultOf rfl (ih e10) rfl rfl (Nat.le_of_ble_eq_true rfl) rfl rfl rfl ?_
          refine gv_B ok_CA_resultOf 5 rfl ?_
          by_cases c14 : ¬ (lg_cmp v11 4294967296) = 0
          · rw [if_pos c14] at h
            refine gv_brT c14 ?_
            refine gv_B ok_CA_resultOf 5 rfl ?_
            obtain ⟨v16, e15, h⟩ := b1_e h
            refine gv_Vc ok_CA_resultOf rfl mk_CE_argument rfl (t_CE_argument (d := d + f + 1) e15) rfl rfl (Nat.le_of_ble_eq_true rfl) rfl rfl rfl ?_
            obtain ⟨v18, μ19, e17, h⟩ := b2_e h
            refine gv_Vc ok_CA_resultOf rfl mk_CA_resultOf rfl (ih e17) rfl rfl (Nat.le_of_ble_eq_true rfl) rfl rfl rfl ?_
            refine gv_B ok_CA_resultOf 5 rfl ?_
            by_cases c21 : ¬ (lg_cmp v18 4294967296) = 0
            · rw [if_pos c21] at h
              refine gv_brT c21 ?_
              refine gv_B ok_CA_resultOf 3 rfl ?_
              obtain ⟨v23, e22, h⟩ := b1_e h
              refine gv_Vc ok_CA_resultOf rfl mk_CE_nameOf rfl (t_CE_nameOf (d := d + f + 1) e22) rfl rfl (Nat.le_of_ble_eq_true rfl) rfl rfl rfl ?_
              refine gv_B ok_CA_resultOf 6 rfl ?_
              obtain ⟨v25, e24, h⟩ := b1_e h
              refine gv_Sc ok_CA_resultOf rfl mk_CA_join rfl (t_CA_join (d := d + f) e24) rfl rfl (Nat.le_of_ble_eq_true rfl)  ?_
              have j0 := Option.some.inj h
              obtain ⟨i1, j1⟩ := Prod.mk.inj j0
              subst i1
              subst j1
              exact gv_Rl ok_CA_resultOf rfl rfl
            · rw [if_neg c21] at h
              refine gv_brF c21 ?_
              refine gv_B ok_CA_resultOf 1 rfl ?_
              have j0 := Option.some.inj h
              obtain ⟨i1, j1⟩ := Prod.mk.inj j0
              subst i1
              subst j1
              exact gv_Rl ok_CA_resultOf rfl rfl
          · rw [if_neg c14] at h
            refine gv_brF c14 ?_
            refine gv_B ok_CA_resultOf 1 rfl ?_
            have j0 := Option.some.inj h
            obtain ⟨i1, j1⟩ := Prod.mk.inj j0
            subst i1
            subst j1
            exact gv_Rl ok_CA_resultOf rfl rfl
        · rw [if_neg c7] at h
          refine gv_brF c7 ?_
          refine gv_B ok_CA_resultOf 1 rfl ?_
          have j0 := Option.some.inj h
          obtain ⟨i1, j1⟩ := Prod.mk.inj j0
          subst i1
          subst j1
          exact gv_Rl ok_CA_resultOf rfl rfl
    · rw [if_neg c3] at h
      refine gv_brF c3 ?_
      refine gv_B ok_CA_resultOf 4 rfl ?_
      have j0 := Option.some.inj h
      obtain ⟨i1, j1⟩ := Prod.mk.inj j0
      subst i1
      subst j1
      exact gv_Rl ok_CA_resultOf rfl rfl
def f_CA_calculate (x0 : Int32) (μ : Mu) : Option (Int64 × Mu) :=
  (b2 (f_CA_resultOf 32 x0 (sI μ 52 1 0)) fun v2 μ3 =>
  some (v2, μ3))
theorem t_CA_calculate {x0 : Int32} {μ : Mu} {r : Int64} {μr : Mu} (h : f_CA_calculate x0 μ = some (r, μr)) : gv_ev G (d + 34) M_CA_calculate [gR 52, gI x0] (hp n acc g cap μ) (.inl (some (gL r))) (hp n acc g cap μr) := by
  unfold f_CA_calculate at h
  refine gv_E (ls := [some (gR 52), some (gI x0)]) (by decide) (fun h => by cases h) (Nat.le_of_ble_eq_true rfl) rfl ?_
  refine gv_B ok_CA_calculate 2 rfl ?_
  refine hp_pf ok_CA_calculate rfl rfl rfl rfl rfl (Nat.le_of_ble_eq_true rfl) rfl ?_
  refine gv_B ok_CA_calculate 2 rfl ?_
  obtain ⟨v2, μ3, e1, h⟩ := b2_e h
  refine gv_Vc ok_CA_calculate rfl mk_CA_resultOf rfl (t_CA_resultOf (d := d) 32 e1) rfl rfl (Nat.le_of_ble_eq_true rfl) rfl rfl rfl ?_
  have j0 := Option.some.inj h
  obtain ⟨i1, j1⟩ := Prod.mk.inj j0
  subst i1
  subst j1
  exact gv_Rl ok_CA_calculate rfl rfl
def f_GO_lengthFrom_4 (g cap : Nat) : Nat → Int32 → Int32 → Mu → Option (Int32)
  | 0, _, _, _ => none
  | f + 1, y2, y3, μ =>
    (if y3 < 0 then
    some (y2)
    else
    (if 9030 ≤ y2 then
    some (y2)
    else
    (b1 (rd (μ (g + 2)) cap y3) fun v3 =>
    f_GO_lengthFrom_4 g cap f (y2 + 1) v3 μ)))
def f_GO_lengthFrom (g cap : Nat) (x0 : Int32) (μ : Mu) : Option (Int32) :=
  (if gPb g = true then
  (b1 (f_GO_lengthFrom_4 g cap fu 0 x0 μ) fun l5 =>
  some (l5))
  else none)
theorem t_GO_lengthFrom_4 {r : gv_O} {hf : gv_H} (hg : gPb g = true) (fl : Nat) : ∀ {y2 : Int32} {y3 : Int32} {μ : Mu} {z2 : Int32}, f_GO_lengthFrom_4 g cap fl y2 y3 μ = some (z2) → gv_go G M_GO_lengthFrom (d + 0) r hf 28 [none, none, some (gI z2), none] [] (hp n acc g cap μ) → gv_go G M_GO_lengthFrom (d + 0) r hf 4 [some (gR 53), none, some (gI y2), some (gI y3)] [] (hp n acc g cap μ) := by
  induction fl with
  | zero => intro _ _ _ _ h _; cases h
  | succ f ih =>
    intro y2 y3 μ z2 h KJ
    unfold f_GO_lengthFrom_4 at h
    refine gv_B ok_GO_lengthFrom 2 rfl ?_
    by_cases c1 : y3 < 0
    · rw [if_pos c1] at h
      refine gv_brT c1 ?_
      have h9 := Option.some.inj h
      subst h9
      exact gv_fk KJ ⟨rfl, trivial⟩
    · rw [if_neg c1] at h
      refine gv_brF c1 ?_
      refine gv_B ok_GO_lengthFrom 3 rfl ?_
      by_cases c2 : 9030 ≤ y2
      · rw [if_pos c2] at h
        refine gv_brT c2 ?_
        have h9 := Option.some.inj h
        subst h9
        exact gv_fk KJ ⟨rfl, trivial⟩
      · rw [if_neg c2] at h
        refine gv_brF c2 ?_
        refine gv_B ok_GO_lengthFrom 4 rfl ?_
        obtain ⟨v3, e4, h⟩ := b1_e h
        refine hp_rd ok_GO_lengthFrom rfl (tg_2 hg _) e4 ?_
        refine gv_B ok_GO_lengthFrom 2 rfl ?_
        exact ih h KJ
theorem t_GO_lengthFrom {x0 : Int32} {μ : Mu} {r : Int32} (h : f_GO_lengthFrom g cap x0 μ = some (r)) : gv_ev G (d + 0) M_GO_lengthFrom [gR 53, gI x0] (hp n acc g cap μ) (.inl (some (gI r))) (hp n acc g cap μ) := by
  unfold f_GO_lengthFrom at h
  by_cases hg : gPb g = true
  rotate_left
  · rw [if_neg hg] at h
    cases h
  rw [if_pos hg] at h
  refine gv_E (ls := [some (gR 53), some (gI x0), none, none]) (by decide) (fun h => by cases h) (Nat.le_of_ble_eq_true rfl) rfl ?_
  refine gv_B ok_GO_lengthFrom 4 rfl ?_
  obtain ⟨l5, e6, h⟩ := b1_e h
  have K7 : gv_go G M_GO_lengthFrom (d + 0) (.inl (some (gI r))) (hp n acc g cap μ) 28 [none, none, some (gI l5), none] [] (hp n acc g cap μ) := by
    refine gv_B ok_GO_lengthFrom 1 rfl ?_
    have h9 := Option.some.inj h
    subst h9
    exact gv_Ri ok_GO_lengthFrom rfl rfl
  exact gv_fk (t_GO_lengthFrom_4 hg _ e6 K7) ⟨rfl, ⟨rfl, ⟨rfl, trivial⟩⟩⟩
def f_CH_goalsKept (μ : Mu) : Option (Int32) :=
  (if ¬ (μ 58 5) = 0 then
  (b1 (rd (μ 63) 300 ((μ 58 5) - 1)) fun v2 =>
  some (v2))
  else
  some (0))
theorem t_CH_goalsKept {μ : Mu} {r : Int32} (h : f_CH_goalsKept μ = some (r)) : gv_ev G (d + 0) M_CH_goalsKept [gR 58] (hp n acc g cap μ) (.inl (some (gI r))) (hp n acc g cap μ) := by
  unfold f_CH_goalsKept at h
  refine gv_E (ls := [some (gR 58)]) (by decide) (fun h => by cases h) (Nat.le_of_ble_eq_true rfl) rfl ?_
  refine gv_B ok_CH_goalsKept 3 rfl ?_
  by_cases c1 : ¬ (μ 58 5) = 0
  · rw [if_pos c1] at h
    refine gv_brT c1 ?_
    refine gv_B ok_CH_goalsKept 6 rfl ?_
    obtain ⟨v2, e3, h⟩ := b1_e h
    refine hp_rd ok_CH_goalsKept rfl rfl e3 ?_
    have h9 := Option.some.inj h
    subst h9
    exact gv_Ri ok_CH_goalsKept rfl rfl
  · rw [if_neg c1] at h
    refine gv_brF c1 ?_
    refine gv_B ok_CH_goalsKept 2 rfl ?_
    have h9 := Option.some.inj h
    subst h9
    exact gv_Ri ok_CH_goalsKept rfl rfl
def f_CH_make (x0 : Int32) (x1 : Int32) (μ : Mu) : Option (Mu) :=
  (b1 (f_CH_goalsKept μ) fun v2 =>
  b1 (wr μ 59 300 (μ 58 5) x0) fun μ3 =>
  b1 (wr μ3 60 300 (μ3 58 5) x1) fun μ6 =>
  b1 (wr μ6 61 300 (μ6 58 5) (μ6 40 1)) fun μ9 =>
  b1 (wr μ9 62 300 (μ9 58 5) (μ9 40 3)) fun μ12 =>
  b1 (wr μ12 63 300 (μ12 58 5) (jmax v2 (x0 + 1))) fun μ15 =>
  some ((sI μ15 58 5 ((μ15 58 5) + 1))))
theorem t_CH_make {x0 : Int32} {x1 : Int32} {μ : Mu} {μr : Mu} (h : f_CH_make x0 x1 μ = some (μr)) : gv_ev G (d + 1) M_CH_make [gR 58, gI x0, gI x1, gR 40] (hp n acc g cap μ) (.inl none) (hp n acc g cap μr) := by
  unfold f_CH_make at h
  refine gv_E (ls := [some (gR 58), some (gI x0), some (gI x1), some (gR 40), none]) (by decide) (fun h => by cases h) (Nat.le_of_ble_eq_true rfl) rfl ?_
  refine gv_B ok_CH_make 1 rfl ?_
  obtain ⟨v2, e1, h⟩ := b1_e h
  refine gv_Vc ok_CH_make rfl mk_CH_goalsKept rfl (t_CH_goalsKept (d := d) e1) rfl rfl (Nat.le_of_ble_eq_true rfl) rfl rfl rfl ?_
  refine gv_B ok_CH_make 3 rfl ?_
  refine gv_mx (wp := 829) (x9 := 31) (by decide +kernel) (by decide +kernel) (Nat.le_of_ble_eq_true rfl) ?_
  refine gv_B ok_CH_make 6 rfl ?_
  obtain ⟨μ3, e4, h⟩ := b1_e h
  refine hp_wr ok_CH_make rfl rfl rfl rfl e4 ?_
  refine gv_B ok_CH_make 5 rfl ?_
  obtain ⟨μ6, e7, h⟩ := b1_e h
  refine hp_wr ok_CH_make rfl rfl rfl rfl e7 ?_
  refine gv_B ok_CH_make 6 rfl ?_
  obtain ⟨μ9, e10, h⟩ := b1_e h
  refine hp_wr ok_CH_make rfl rfl rfl rfl e10 ?_
  refine gv_B ok_CH_make 6 rfl ?_
  obtain ⟨μ12, e13, h⟩ := b1_e h
  refine hp_wr ok_CH_make rfl rfl rfl rfl e13 ?_
  refine gv_B ok_CH_make 5 rfl ?_
  obtain ⟨μ15, e16, h⟩ := b1_e h
  refine hp_wr ok_CH_make rfl rfl rfl rfl e16 ?_
  refine gv_B ok_CH_make 5 rfl ?_
  refine hp_pf ok_CH_make rfl rfl rfl rfl rfl (Nat.le_of_ble_eq_true rfl) rfl ?_
  have h9 := Option.some.inj h
  subst h9
  exact gv_Rv ok_CH_make rfl rfl
def f_CH_cutTo (x0 : Int32) (μ : Mu) : Option (Mu) :=
  some ((sI μ 58 5 (jmin (μ 58 5) x0)))
theorem t_CH_cutTo {x0 : Int32} {μ : Mu} {μr : Mu} (h : f_CH_cutTo x0 μ = some (μr)) : gv_ev G (d + 0) M_CH_cutTo [gR 58, gI x0] (hp n acc g cap μ) (.inl none) (hp n acc g cap μr) := by
  unfold f_CH_cutTo at h
  refine gv_E (ls := [some (gR 58), some (gI x0)]) (by decide) (fun h => by cases h) (Nat.le_of_ble_eq_true rfl) rfl ?_
  refine gv_B ok_CH_cutTo 4 rfl ?_
  refine gv_mi (wp := 678) (x9 := 49) (by decide +kernel) (by decide +kernel) (Nat.le_of_ble_eq_true rfl) ?_
  refine hp_pf ok_CH_cutTo rfl rfl rfl rfl rfl (Nat.le_of_ble_eq_true rfl) rfl ?_
  have h9 := Option.some.inj h
  subst h9
  exact gv_Rv ok_CH_cutTo rfl rfl
end FNK
