/-! methods as functions of the numbers (written by wip/tools/genf.py, mkf.py) -/
section FNX
variable {G : gv_G} {d n g cap : Nat} {acc : Nat × Nat}
def f_GE_takeTyped (μ : Mu) : Option (Int32 × Mu) :=
  some ((μ 1 1), (sI μ 1 1 0))
theorem t_GE_takeTyped {μ : Mu} {r : Int32} {μr : Mu} (h : f_GE_takeTyped μ = some (r, μr)) : gv_ev G (d + 0) M_GE_takeTyped [gR 1] (hp n acc g cap μ) (.inl (some (gI r))) (hp n acc g cap μr) := by
  unfold f_GE_takeTyped at h
  refine gv_E (ls := [some (gR 1), none]) (by decide) (fun h => by cases h) (Nat.le_of_ble_eq_true rfl) rfl ?_
  refine gv_B ok_GE_takeTyped 5 rfl ?_
  refine hp_pf ok_GE_takeTyped rfl rfl rfl rfl rfl (Nat.le_of_ble_eq_true rfl) rfl ?_
  refine gv_B ok_GE_takeTyped 1 rfl ?_
  have j0 := Option.some.inj h
  obtain ⟨i1, j1⟩ := Prod.mk.inj j0
  subst i1
  subst j1
  exact gv_Ri ok_GE_takeTyped rfl rfl
def f_GE_stop (μ : Mu) : Option (Mu) :=
  some ((sI μ 37 11 0))
theorem t_GE_stop {μ : Mu} {μr : Mu} (h : f_GE_stop μ = some (μr)) : gv_ev G (d + 0) M_GE_stop [gR 1] (hp n acc g cap μ) (.inl none) (hp n acc g cap μr) := by
  unfold f_GE_stop at h
  refine gv_E (ls := [some (gR 1)]) (by decide) (fun h => by cases h) (Nat.le_of_ble_eq_true rfl) rfl ?_
  refine gv_B ok_GE_stop 3 rfl ?_
  refine hp_pf ok_GE_stop rfl rfl rfl rfl rfl (Nat.le_of_ble_eq_true rfl) rfl ?_
  have h9 := Option.some.inj h
  subst h9
  exact gv_Rv ok_GE_stop rfl rfl
def f_GE_collect (g cap : Nat) (μ : Mu) : Option (Int32 × Mu) :=
  (if ¬ (μ 37 11) = 0 then
  (b2 (f_SE_freeCells g cap μ) fun v3 μ4 =>
  some (v3, μ4))
  else
  some (0, μ))
theorem t_GE_collect {μ : Mu} {r : Int32} {μr : Mu} (h : f_GE_collect g cap μ = some (r, μr)) : gv_ev G (d + 6) M_GE_collect [gR 1] (hp n acc g cap μ) (.inl (some (gI r))) (hp n acc g cap μr) := by
  unfold f_GE_collect at h
  refine gv_E (ls := [some (gR 1)]) (by decide) (fun h => by cases h) (Nat.le_of_ble_eq_true rfl) rfl ?_
  refine gv_B ok_GE_collect 4 rfl ?_
  by_cases c1 : ¬ (μ 37 11) = 0
  · rw [if_pos c1] at h
    refine gv_brT c1 ?_
    refine gv_B ok_GE_collect 2 rfl ?_
    obtain ⟨v3, μ4, e2, h⟩ := b2_e h
    refine gv_Vc ok_GE_collect rfl mk_SE_freeCells rfl (t_SE_freeCells (d := d) e2) rfl rfl (Nat.le_of_ble_eq_true rfl) rfl rfl rfl ?_
    have j0 := Option.some.inj h
    obtain ⟨i1, j1⟩ := Prod.mk.inj j0
    subst i1
    subst j1
    exact gv_Ri ok_GE_collect rfl rfl
  · rw [if_neg c1] at h
    refine gv_brF c1 ?_
    refine gv_B ok_GE_collect 2 rfl ?_
    have j0 := Option.some.inj h
    obtain ⟨i1, j1⟩ := Prod.mk.inj j0
    subst i1
    subst j1
    exact gv_Ri ok_GE_collect rfl rfl
def f_GE_words (μ : Mu) : Option (Int32 × Mu) :=
  (b2 (f_SE_answerLength μ) fun v2 μ3 =>
  some (v2, μ3))
theorem t_GE_words {μ : Mu} {r : Int32} {μr : Mu} (h : f_GE_words μ = some (r, μr)) : gv_ev G (d + 5) M_GE_words [gR 1] (hp n acc g cap μ) (.inl (some (gI r))) (hp n acc g cap μr) := by
  unfold f_GE_words at h
  refine gv_E (ls := [some (gR 1)]) (by decide) (fun h => by cases h) (Nat.le_of_ble_eq_true rfl) rfl ?_
  refine gv_B ok_GE_words 2 rfl ?_
  obtain ⟨v2, μ3, e1, h⟩ := b2_e h
  refine gv_Vc ok_GE_words rfl mk_SE_answerLength rfl (t_SE_answerLength (d := d) e1) rfl rfl (Nat.le_of_ble_eq_true rfl) rfl rfl rfl ?_
  have j0 := Option.some.inj h
  obtain ⟨i1, j1⟩ := Prod.mk.inj j0
  subst i1
  subst j1
  exact gv_Ri ok_GE_words rfl rfl
def f_GE_rule (μ : Mu) : Option (Nat × Int32 × Mu) :=
  (if 16 ≤ (μ 3 1) then
  some ((2 : Nat), (0 : Int32), μ)
  else
  (if (μ 37 11) = 0 then
  (b2 (f_GE_takeTyped μ) fun v4 μ5 =>
  b1 (f_GE_isRule v4 μ5) fun v8 =>
  if ¬ v8 = 0 then
  (b1 (f_RB_add v4 μ5) fun μ11 =>
  some ((0 : Nat), (μ11 3 1), μ11))
  else
  some ((1 : Nat), (0 : Int32), μ5))
  else
  some ((2 : Nat), (0 : Int32), μ)))
theorem t_GE_rule {μ : Mu} {cd : Nat} {r : Int32} {μr : Mu} (h : f_GE_rule μ = some (cd, r, μr)) : gv_ev G (d + 3) M_GE_rule [gR 1] (hp n acc g cap μ) (exR cd r) (hp n (exA cd acc) g cap μr) := by
  unfold f_GE_rule at h
  refine gv_E (ls := [some (gR 1), none]) (by decide) exR_ne (Nat.le_of_ble_eq_true rfl) rfl ?_
  refine gv_B ok_GE_rule 5 rfl ?_
  by_cases c1 : 16 ≤ (μ 3 1)
  · rw [if_pos c1] at h
    refine gv_brT c1 ?_
    have j0 := Option.some.inj h
    obtain ⟨i1, j1⟩ := Prod.mk.inj j0
    obtain ⟨i2, j2⟩ := Prod.mk.inj j1
    subst i1
    subst i2
    subst j2
    exact th_ISE rfl rfl (Nat.le_of_ble_eq_true rfl) (by decide +kernel) (by decide +kernel) (by decide +kernel) (by decide +kernel)
  · rw [if_neg c1] at h
    refine gv_brF c1 ?_
    refine gv_B ok_GE_rule 4 rfl ?_
    by_cases c2 : (μ 37 11) = 0
    · rw [if_pos c2] at h
      refine gv_brT c2 ?_
      refine gv_B ok_GE_rule 1 rfl ?_
      obtain ⟨v4, μ5, e3, h⟩ := b2_e h
      refine gv_Vc ok_GE_rule rfl mk_GE_takeTyped rfl (t_GE_takeTyped (d := d + 2) e3) rfl rfl (Nat.le_of_ble_eq_true rfl) rfl rfl rfl ?_
      refine gv_B ok_GE_rule 4 rfl ?_
      obtain ⟨v8, e7, h⟩ := b1_e h
      refine gv_Sc ok_GE_rule rfl mk_GE_isRule rfl (t_GE_isRule (d := d) e7) rfl rfl (Nat.le_of_ble_eq_true rfl)  ?_
      refine gv_B ok_GE_rule 1 rfl ?_
      by_cases c9 : ¬ v8 = 0
      · rw [if_pos c9] at h
        refine gv_brT c9 ?_
        refine gv_B ok_GE_rule 5 rfl ?_
        obtain ⟨μ11, e10, h⟩ := b1_e h
        refine gv_Vc ok_GE_rule rfl mk_RB_add rfl (t_RB_add (d := d) e10) rfl rfl (Nat.le_of_ble_eq_true rfl) rfl rfl rfl ?_
        refine gv_B ok_GE_rule 3 rfl ?_
        have j0 := Option.some.inj h
        obtain ⟨i1, j1⟩ := Prod.mk.inj j0
        obtain ⟨i2, j2⟩ := Prod.mk.inj j1
        subst i1
        subst i2
        subst j2
        exact gv_Ri ok_GE_rule rfl rfl
      · rw [if_neg c9] at h
        refine gv_brF c9 ?_
        have j0 := Option.some.inj h
        obtain ⟨i1, j1⟩ := Prod.mk.inj j0
        obtain ⟨i2, j2⟩ := Prod.mk.inj j1
        subst i1
        subst i2
        subst j2
        exact th_IAE rfl rfl (Nat.le_of_ble_eq_true rfl) (by decide +kernel) (by decide +kernel) (by decide +kernel) (by decide +kernel)
    · rw [if_neg c2] at h
      refine gv_brF c2 ?_
      have j0 := Option.some.inj h
      obtain ⟨i1, j1⟩ := Prod.mk.inj j0
      obtain ⟨i2, j2⟩ := Prod.mk.inj j1
      subst i1
      subst i2
      subst j2
      exact th_ISE rfl rfl (Nat.le_of_ble_eq_true rfl) (by decide +kernel) (by decide +kernel) (by decide +kernel) (by decide +kernel)
def f_GE_ask (n : Nat) (acc : Nat × Nat) (g cap : Nat) (μ : Mu) : Option (Nat × Int32 × Nat × (Nat × Nat) × Nat × Nat × Mu) :=
  (b2 (f_GE_takeTyped μ) fun v2 μ3 =>
  b1 (f_GE_isQuestion v2 μ3) fun v6 =>
  if ¬ v6 = 0 then
  (b5 (f_SE_begin n acc g cap v2 μ3) fun n9 ac10 g11 cp12 μ13 =>
  b1 (f_SE_cellsInUse μ13) fun v16 =>
  some ((0 : Nat), v16, n9, ac10, g11, cp12, μ13))
  else
  some ((1 : Nat), (0 : Int32), n, acc, g, cap, μ3))
theorem t_GE_ask {μ : Mu} {cd : Nat} {r : Int32} {nr : Nat} {ar : Nat × Nat} {gr cr : Nat} {μr : Mu} (h : f_GE_ask n acc g cap μ = some (cd, r, nr, ar, gr, cr, μr)) : gv_ev G (d + 5) M_GE_ask [gR 1] (hp n acc g cap μ) (exR cd r) (hp nr (exA cd ar) gr cr μr) := by
  unfold f_GE_ask at h
  refine gv_E (ls := [some (gR 1), none]) (by decide) exR_ne (Nat.le_of_ble_eq_true rfl) rfl ?_
  refine gv_B ok_GE_ask 1 rfl ?_
  obtain ⟨v2, μ3, e1, h⟩ := b2_e h
  refine gv_Vc ok_GE_ask rfl mk_GE_takeTyped rfl (t_GE_takeTyped (d := d + 4) e1) rfl rfl (Nat.le_of_ble_eq_true rfl) rfl rfl rfl ?_
  refine gv_B ok_GE_ask 4 rfl ?_
  obtain ⟨v6, e5, h⟩ := b1_e h
  refine gv_Sc ok_GE_ask rfl mk_GE_isQuestion rfl (t_GE_isQuestion (d := d + 3) e5) rfl rfl (Nat.le_of_ble_eq_true rfl)  ?_
  refine gv_B ok_GE_ask 1 rfl ?_
  by_cases c7 : ¬ v6 = 0
  · rw [if_pos c7] at h
    refine gv_brT c7 ?_
    refine gv_B ok_GE_ask 5 rfl ?_
    obtain ⟨n9, ac10, g11, cp12, μ13, e8, h⟩ := b5_e h
    refine gv_Vc ok_GE_ask rfl mk_SE_begin rfl (t_SE_begin (d := d) e8) rfl rfl (Nat.le_of_ble_eq_true rfl) rfl rfl rfl ?_
    refine gv_B ok_GE_ask 2 rfl ?_
    obtain ⟨v16, e15, h⟩ := b1_e h
    refine gv_Vc ok_GE_ask rfl mk_SE_cellsInUse rfl (t_SE_cellsInUse (d := d + 4) e15) rfl rfl (Nat.le_of_ble_eq_true rfl) rfl rfl rfl ?_
    have j0 := Option.some.inj h
    obtain ⟨i1, j1⟩ := Prod.mk.inj j0
    obtain ⟨i2, j2⟩ := Prod.mk.inj j1
    obtain ⟨i3, j3⟩ := Prod.mk.inj j2
    obtain ⟨i4, j4⟩ := Prod.mk.inj j3
    obtain ⟨i5, j5⟩ := Prod.mk.inj j4
    obtain ⟨i6, j6⟩ := Prod.mk.inj j5
    subst i1
    subst i2
    subst i3
    subst i4
    subst i5
    subst i6
    subst j6
    exact gv_Ri ok_GE_ask rfl rfl
  · rw [if_neg c7] at h
    refine gv_brF c7 ?_
    have j0 := Option.some.inj h
    obtain ⟨i1, j1⟩ := Prod.mk.inj j0
    obtain ⟨i2, j2⟩ := Prod.mk.inj j1
    obtain ⟨i3, j3⟩ := Prod.mk.inj j2
    obtain ⟨i4, j4⟩ := Prod.mk.inj j3
    obtain ⟨i5, j5⟩ := Prod.mk.inj j4
    obtain ⟨i6, j6⟩ := Prod.mk.inj j5
    subst i1
    subst i2
    subst i3
    subst i4
    subst i5
    subst i6
    subst j6
    exact th_IAE rfl rfl (Nat.le_of_ble_eq_true rfl) (by decide +kernel) (by decide +kernel) (by decide +kernel) (by decide +kernel)
def f_GE_solve_42 (k1 : Int32) : Nat → Int32 → Int32 → Nat → (Nat × Nat) → Nat → Nat → Mu → Option (Int32 × Nat × (Nat × Nat) × Nat × Nat × Mu)
  | 0, _, _, _, _, _, _, _ => none
  | f + 1, y2, y3, nn, ac, gg, cp, μ =>
    (if k1 ≤ y3 then
    some (y2, nn, ac, gg, cp, μ)
    else
    (b1 (f_SE_canStep μ) fun v6 =>
    if v6 = 0 then
    some (y2, nn, ac, gg, cp, μ)
    else
    (b6 (f_SE_step nn ac gg cp μ) fun v9 n10 ac11 g12 cp13 μ14 =>
    b1 (f_SE_settle v9 μ14) fun μ17 =>
    f_GE_solve_42 k1 f v9 (y3 + 1) n10 ac11 g12 cp13 μ17)))
def f_GE_solve (n : Nat) (acc : Nat × Nat) (g cap : Nat) (x0 : Int32) (μ : Mu) : Option (Nat × Int32 × Nat × (Nat × Nat) × Nat × Nat × Mu) :=
  (if x0 < 1 then
  some ((1 : Nat), (0 : Int32), n, acc, g, cap, μ)
  else
  (if x0 ≤ 20 then
  (if (μ 37 11) = 1 then
  (b6 (f_GE_solve_42 x0 fu 0 0 n acc g cap μ) fun l19 n20 ac21 g22 cp23 μ24 =>
  if ¬ l19 = 2 then
  (if ¬ l19 = 3 then
  (if ¬ (μ24 37 11) = 2 then
  (if ¬ (μ24 37 11) = 0 then
  some ((0 : Nat), 2, n20, ac21, g22, cp23, μ24)
  else
  some ((0 : Nat), 0, n20, ac21, g22, cp23, μ24))
  else
  some ((0 : Nat), 1, n20, ac21, g22, cp23, μ24))
  else
  some ((4 : Nat), (0 : Int32), n20, ac21, g22, cp23, μ24))
  else
  some ((3 : Nat), (0 : Int32), n20, ac21, g22, cp23, μ24))
  else
  some ((2 : Nat), (0 : Int32), n, acc, g, cap, μ))
  else
  some ((1 : Nat), (0 : Int32), n, acc, g, cap, μ)))
theorem t_GE_solve_42 {r : gv_O} {hf : gv_H} {k1 : Int32} (fl : Nat) : ∀ {y2 : Int32} {y3 : Int32} {nn : Nat} {ac : Nat × Nat} {gg cp : Nat} {μ : Mu} {z2 : Int32} {nz : Nat} {az : Nat × Nat} {gz cz : Nat} {μz : Mu}, f_GE_solve_42 k1 fl y2 y3 nn ac gg cp μ = some (z2, nz, az, gz, cz, μz) → gv_go G M_GE_solve (d + 37) r hf 79 [some (gR 1), none, some (gI z2), none] [] (hp nz az gz cz μz) → gv_go G M_GE_solve (d + 37) r hf 42 [some (gR 1), some (gI k1), some (gI y2), some (gI y3)] [] (hp nn ac gg cp μ) := by
  induction fl with
  | zero => intro _ _ _ _ _ _ _ _ _ _ _ _ _ h _; cases h
  | succ f ih =>
    intro y2 y3 nn ac gg cp μ z2 nz az gz cz μz h KJ
    unfold f_GE_solve_42 at h
    refine gv_B ok_GE_solve 3 rfl ?_
    by_cases c4 : k1 ≤ y3
    · rw [if_pos c4] at h
      refine gv_brT c4 ?_
      have j0 := Option.some.inj h
      obtain ⟨i1, j1⟩ := Prod.mk.inj j0
      obtain ⟨i2, j2⟩ := Prod.mk.inj j1
      obtain ⟨i3, j3⟩ := Prod.mk.inj j2
      obtain ⟨i4, j4⟩ := Prod.mk.inj j3
      obtain ⟨i5, j5⟩ := Prod.mk.inj j4
      subst i1
      subst i2
      subst i3
      subst i4
      subst i5
      subst j5
      exact gv_fk KJ ⟨rfl, ⟨rfl, trivial⟩⟩
    · rw [if_neg c4] at h
      refine gv_brF c4 ?_
      refine gv_B ok_GE_solve 2 rfl ?_
      obtain ⟨v6, e5, h⟩ := b1_e h
      refine gv_Vc ok_GE_solve rfl mk_SE_canStep rfl (t_SE_canStep (d := d + 36) e5) rfl rfl (Nat.le_of_ble_eq_true rfl) rfl rfl rfl ?_
      refine gv_B ok_GE_solve 1 rfl ?_
      by_cases c7 : v6 = 0
      · rw [if_pos c7] at h
        refine gv_brT c7 ?_
        have j0 := Option.some.inj h
        obtain ⟨i1, j1⟩ := Prod.mk.inj j0
        obtain ⟨i2, j2⟩ := Prod.mk.inj j1
        obtain ⟨i3, j3⟩ := Prod.mk.inj j2
        obtain ⟨i4, j4⟩ := Prod.mk.inj j3
        obtain ⟨i5, j5⟩ := Prod.mk.inj j4
        subst i1
        subst i2
        subst i3
        subst i4
        subst i5
        subst j5
        exact gv_fk KJ ⟨rfl, ⟨rfl, trivial⟩⟩
      · rw [if_neg c7] at h
        refine gv_brF c7 ?_
        refine gv_B ok_GE_solve 2 rfl ?_
        obtain ⟨v9, n10, ac11, g12, cp13, μ14, e8, h⟩ := b6_e h
        refine gv_Vc ok_GE_solve rfl mk_SE_step rfl (t_SE_step (d := d) e8) rfl rfl (Nat.le_of_ble_eq_true rfl) rfl rfl rfl ?_
        refine gv_B ok_GE_solve 4 rfl ?_
        obtain ⟨μ17, e16, h⟩ := b1_e h
        refine gv_Vc ok_GE_solve rfl mk_SE_settle rfl (t_SE_settle (d := d + 34) e16) rfl rfl (Nat.le_of_ble_eq_true rfl) rfl rfl rfl ?_
        refine gv_B ok_GE_solve 2 rfl ?_
        exact ih h KJ
theorem t_GE_solve {x0 : Int32} {μ : Mu} {cd : Nat} {r : Int32} {nr : Nat} {ar : Nat × Nat} {gr cr : Nat} {μr : Mu} (h : f_GE_solve n acc g cap x0 μ = some (cd, r, nr, ar, gr, cr, μr)) : gv_ev G (d + 37) M_GE_solve [gR 1, gI x0] (hp n acc g cap μ) (exR cd r) (hp nr (exA cd ar) gr cr μr) := by
  unfold f_GE_solve at h
  refine gv_E (ls := [some (gR 1), some (gI x0), none, none]) (by decide) exR_ne (Nat.le_of_ble_eq_true rfl) rfl ?_
  refine gv_B ok_GE_solve 3 rfl ?_
  by_cases c1 : x0 < 1
  · rw [if_pos c1] at h
    refine gv_brT c1 ?_
    have j0 := Option.some.inj h
    obtain ⟨i1, j1⟩ := Prod.mk.inj j0
    obtain ⟨i2, j2⟩ := Prod.mk.inj j1
    obtain ⟨i3, j3⟩ := Prod.mk.inj j2
    obtain ⟨i4, j4⟩ := Prod.mk.inj j3
    obtain ⟨i5, j5⟩ := Prod.mk.inj j4
    obtain ⟨i6, j6⟩ := Prod.mk.inj j5
    subst i1
    subst i2
    subst i3
    subst i4
    subst i5
    subst i6
    subst j6
    exact th_IAE rfl rfl (Nat.le_of_ble_eq_true rfl) (by decide +kernel) (by decide +kernel) (by decide +kernel) (by decide +kernel)
  · rw [if_neg c1] at h
    refine gv_brF c1 ?_
    refine gv_B ok_GE_solve 3 rfl ?_
    by_cases c2 : x0 ≤ 20
    · rw [if_pos c2] at h
      refine gv_brT c2 ?_
      refine gv_B ok_GE_solve 5 rfl ?_
      by_cases c3 : (μ 37 11) = 1
      · rw [if_pos c3] at h
        refine gv_brT c3 ?_
        refine gv_B ok_GE_solve 4 rfl ?_
        obtain ⟨l19, n20, ac21, g22, cp23, μ24, e25, h⟩ := b6_e h
        have K26 : gv_go G M_GE_solve (d + 37) (exR cd r) (hp nr (exA cd ar) gr cr μr) 79 [some (gR 1), none, some (gI l19), none] [] (hp n20 ac21 g22 cp23 μ24) := by
          refine gv_B ok_GE_solve 3 rfl ?_
          by_cases c28 : ¬ l19 = 2
          · rw [if_pos c28] at h
            refine gv_brT c28 ?_
            refine gv_B ok_GE_solve 3 rfl ?_
            by_cases c29 : ¬ l19 = 3
            · rw [if_pos c29] at h
              refine gv_brT c29 ?_
              refine gv_B ok_GE_solve 5 rfl ?_
              by_cases c30 : ¬ (μ24 37 11) = 2
              · rw [if_pos c30] at h
                refine gv_brT c30 ?_
                refine gv_B ok_GE_solve 4 rfl ?_
                by_cases c31 : ¬ (μ24 37 11) = 0
                · rw [if_pos c31] at h
                  refine gv_brT c31 ?_
                  refine gv_B ok_GE_solve 1 rfl ?_
                  have j0 := Option.some.inj h
                  obtain ⟨i1, j1⟩ := Prod.mk.inj j0
                  obtain ⟨i2, j2⟩ := Prod.mk.inj j1
                  obtain ⟨i3, j3⟩ := Prod.mk.inj j2
                  obtain ⟨i4, j4⟩ := Prod.mk.inj j3
                  obtain ⟨i5, j5⟩ := Prod.mk.inj j4
                  obtain ⟨i6, j6⟩ := Prod.mk.inj j5
                  subst i1
                  subst i2
                  subst i3
                  subst i4
                  subst i5
                  subst i6
                  subst j6
                  exact gv_Ri ok_GE_solve rfl rfl
                · rw [if_neg c31] at h
                  refine gv_brF c31 ?_
                  refine gv_B ok_GE_solve 2 rfl ?_
                  have j0 := Option.some.inj h
                  obtain ⟨i1, j1⟩ := Prod.mk.inj j0
                  obtain ⟨i2, j2⟩ := Prod.mk.inj j1
                  obtain ⟨i3, j3⟩ := Prod.mk.inj j2
                  obtain ⟨i4, j4⟩ := Prod.mk.inj j3
                  obtain ⟨i5, j5⟩ := Prod.mk.inj j4
                  obtain ⟨i6, j6⟩ := Prod.mk.inj j5
                  subst i1
                  subst i2
                  subst i3
                  subst i4
                  subst i5
                  subst i6
                  subst j6
                  exact gv_Ri ok_GE_solve rfl rfl
              · rw [if_neg c30] at h
                refine gv_brF c30 ?_
                refine gv_B ok_GE_solve 1 rfl ?_
                have j0 := Option.some.inj h
                obtain ⟨i1, j1⟩ := Prod.mk.inj j0
                obtain ⟨i2, j2⟩ := Prod.mk.inj j1
                obtain ⟨i3, j3⟩ := Prod.mk.inj j2
                obtain ⟨i4, j4⟩ := Prod.mk.inj j3
                obtain ⟨i5, j5⟩ := Prod.mk.inj j4
                obtain ⟨i6, j6⟩ := Prod.mk.inj j5
                subst i1
                subst i2
                subst i3
                subst i4
                subst i5
                subst i6
                subst j6
                exact gv_Ri ok_GE_solve rfl rfl
            · rw [if_neg c29] at h
              refine gv_brF c29 ?_
              have j0 := Option.some.inj h
              obtain ⟨i1, j1⟩ := Prod.mk.inj j0
              obtain ⟨i2, j2⟩ := Prod.mk.inj j1
              obtain ⟨i3, j3⟩ := Prod.mk.inj j2
              obtain ⟨i4, j4⟩ := Prod.mk.inj j3
              obtain ⟨i5, j5⟩ := Prod.mk.inj j4
              obtain ⟨i6, j6⟩ := Prod.mk.inj j5
              subst i1
              subst i2
              subst i3
              subst i4
              subst i5
              subst i6
              subst j6
              exact th_UOE rfl rfl (Nat.le_of_ble_eq_true rfl) (by decide +kernel) (by decide +kernel) (by decide +kernel) (by decide +kernel)
          · rw [if_neg c28] at h
            refine gv_brF c28 ?_
            have j0 := Option.some.inj h
            obtain ⟨i1, j1⟩ := Prod.mk.inj j0
            obtain ⟨i2, j2⟩ := Prod.mk.inj j1
            obtain ⟨i3, j3⟩ := Prod.mk.inj j2
            obtain ⟨i4, j4⟩ := Prod.mk.inj j3
            obtain ⟨i5, j5⟩ := Prod.mk.inj j4
            obtain ⟨i6, j6⟩ := Prod.mk.inj j5
            subst i1
            subst i2
            subst i3
            subst i4
            subst i5
            subst i6
            subst j6
            exact th_ARE rfl rfl (Nat.le_of_ble_eq_true rfl) (by decide +kernel) (by decide +kernel) (by decide +kernel) (by decide +kernel)
        exact t_GE_solve_42 _ e25 K26
      · rw [if_neg c3] at h
        refine gv_brF c3 ?_
        have j0 := Option.some.inj h
        obtain ⟨i1, j1⟩ := Prod.mk.inj j0
        obtain ⟨i2, j2⟩ := Prod.mk.inj j1
        obtain ⟨i3, j3⟩ := Prod.mk.inj j2
        obtain ⟨i4, j4⟩ := Prod.mk.inj j3
        obtain ⟨i5, j5⟩ := Prod.mk.inj j4
        obtain ⟨i6, j6⟩ := Prod.mk.inj j5
        subst i1
        subst i2
        subst i3
        subst i4
        subst i5
        subst i6
        subst j6
        exact th_ISE rfl rfl (Nat.le_of_ble_eq_true rfl) (by decide +kernel) (by decide +kernel) (by decide +kernel) (by decide +kernel)
    · rw [if_neg c2] at h
      refine gv_brF c2 ?_
      have j0 := Option.some.inj h
      obtain ⟨i1, j1⟩ := Prod.mk.inj j0
      obtain ⟨i2, j2⟩ := Prod.mk.inj j1
      obtain ⟨i3, j3⟩ := Prod.mk.inj j2
      obtain ⟨i4, j4⟩ := Prod.mk.inj j3
      obtain ⟨i5, j5⟩ := Prod.mk.inj j4
      obtain ⟨i6, j6⟩ := Prod.mk.inj j5
      subst i1
      subst i2
      subst i3
      subst i4
      subst i5
      subst i6
      subst j6
      exact th_IAE rfl rfl (Nat.le_of_ble_eq_true rfl) (by decide +kernel) (by decide +kernel) (by decide +kernel) (by decide +kernel)
def f_GE_next (μ : Mu) : Option (Nat × Int32 × Mu) :=
  (if (μ 37 11) = 2 then
  (b1 (f_SE_tryOtherWay μ) fun μ3 =>
  if (μ3 37 11) = 0 then
  some ((0 : Nat), 0, μ3)
  else
  some ((0 : Nat), 1, μ3))
  else
  some ((2 : Nat), (0 : Int32), μ))
theorem t_GE_next {μ : Mu} {cd : Nat} {r : Int32} {μr : Mu} (h : f_GE_next μ = some (cd, r, μr)) : gv_ev G (d + 2) M_GE_next [gR 1] (hp n acc g cap μ) (exR cd r) (hp n (exA cd acc) g cap μr) := by
  unfold f_GE_next at h
  refine gv_E (ls := [some (gR 1)]) (by decide) exR_ne (Nat.le_of_ble_eq_true rfl) rfl ?_
  refine gv_B ok_GE_next 5 rfl ?_
  by_cases c1 : (μ 37 11) = 2
  · rw [if_pos c1] at h
    refine gv_brT c1 ?_
    refine gv_B ok_GE_next 2 rfl ?_
    obtain ⟨μ3, e2, h⟩ := b1_e h
    refine gv_Vc ok_GE_next rfl mk_SE_tryOtherWay rfl (t_SE_tryOtherWay (d := d) e2) rfl rfl (Nat.le_of_ble_eq_true rfl) rfl rfl rfl ?_
    refine gv_B ok_GE_next 4 rfl ?_
    by_cases c5 : (μ3 37 11) = 0
    · rw [if_pos c5] at h
      refine gv_brT c5 ?_
      refine gv_B ok_GE_next 1 rfl ?_
      have j0 := Option.some.inj h
      obtain ⟨i1, j1⟩ := Prod.mk.inj j0
      obtain ⟨i2, j2⟩ := Prod.mk.inj j1
      subst i1
      subst i2
      subst j2
      exact gv_Rz ok_GE_next rfl rfl (by decide)
    · rw [if_neg c5] at h
      refine gv_brF c5 ?_
      refine gv_B ok_GE_next 2 rfl ?_
      have j0 := Option.some.inj h
      obtain ⟨i1, j1⟩ := Prod.mk.inj j0
      obtain ⟨i2, j2⟩ := Prod.mk.inj j1
      subst i1
      subst i2
      subst j2
      exact gv_Rz ok_GE_next rfl rfl (by decide)
  · rw [if_neg c1] at h
    refine gv_brF c1 ?_
    have j0 := Option.some.inj h
    obtain ⟨i1, j1⟩ := Prod.mk.inj j0
    obtain ⟨i2, j2⟩ := Prod.mk.inj j1
    subst i1
    subst i2
    subst j2
    exact th_ISE rfl rfl (Nat.le_of_ble_eq_true rfl) (by decide +kernel) (by decide +kernel) (by decide +kernel) (by decide +kernel)
def f_GE_count (g cap : Nat) (x0 : Int32) (μ : Mu) : Option (Nat × Int32) :=
  (if x0 = 0 then
  (b1 (f_SE_cellsInUse μ) fun v3 =>
  some ((0 : Nat), v3))
  else
  (if x0 = 1 then
  (b1 (f_SE_choicesLeft μ) fun v6 =>
  some ((0 : Nat), v6))
  else
  (if x0 = 2 then
  (b1 (f_SE_goalsAtHand g cap μ) fun v9 =>
  some ((0 : Nat), v9))
  else
  (if x0 = 3 then
  some ((0 : Nat), (μ 37 12))
  else
  (if x0 = 4 then
  some ((0 : Nat), (μ 3 1))
  else
  (if x0 = 5 then
  some ((0 : Nat), (μ 1 1))
  else
  (if x0 = 6 then
  (b1 (f_SE_collections μ) fun v15 =>
  some ((0 : Nat), v15))
  else
  some ((1 : Nat), (0 : Int32)))))))))
theorem t_GE_count {x0 : Int32} {μ : Mu} {cd : Nat} {r : Int32} (h : f_GE_count g cap x0 μ = some (cd, r)) : gv_ev G (d + 2) M_GE_count [gR 1, gI x0] (hp n acc g cap μ) (exR cd r) (hp n (exA cd acc) g cap μ) := by
  unfold f_GE_count at h
  refine gv_E (ls := [some (gR 1), some (gI x0)]) (by decide) exR_ne (Nat.le_of_ble_eq_true rfl) rfl ?_
  refine gv_B ok_GE_count 2 rfl ?_
  refine gv_pce (p2 := if x0 = 0 then 44 else if x0 = 1 then 52 else if x0 = 2 then 60 else if x0 = 3 then 68 else if x0 = 4 then 76 else if x0 = 5 then 84 else if x0 = 6 then 89 else 97) rfl ?_
  by_cases c1 : x0 = 0
  · rw [if_pos c1] at h
    refine gv_brT c1 ?_
    refine gv_B ok_GE_count 2 rfl ?_
    obtain ⟨v3, e2, h⟩ := b1_e h
    refine gv_Vc ok_GE_count rfl mk_SE_cellsInUse rfl (t_SE_cellsInUse (d := d + 1) e2) rfl rfl (Nat.le_of_ble_eq_true rfl) rfl rfl rfl ?_
    have j0 := Option.some.inj h
    obtain ⟨i1, j1⟩ := Prod.mk.inj j0
    subst i1
    subst j1
    exact gv_Ri ok_GE_count rfl rfl
  · rw [if_neg c1] at h
    refine gv_brF c1 ?_
    by_cases c4 : x0 = 1
    · rw [if_pos c4] at h
      refine gv_brT c4 ?_
      refine gv_B ok_GE_count 2 rfl ?_
      obtain ⟨v6, e5, h⟩ := b1_e h
      refine gv_Vc ok_GE_count rfl mk_SE_choicesLeft rfl (t_SE_choicesLeft (d := d + 1) e5) rfl rfl (Nat.le_of_ble_eq_true rfl) rfl rfl rfl ?_
      have j0 := Option.some.inj h
      obtain ⟨i1, j1⟩ := Prod.mk.inj j0
      subst i1
      subst j1
      exact gv_Ri ok_GE_count rfl rfl
    · rw [if_neg c4] at h
      refine gv_brF c4 ?_
      by_cases c7 : x0 = 2
      · rw [if_pos c7] at h
        refine gv_brT c7 ?_
        refine gv_B ok_GE_count 2 rfl ?_
        obtain ⟨v9, e8, h⟩ := b1_e h
        refine gv_Vc ok_GE_count rfl mk_SE_goalsAtHand rfl (t_SE_goalsAtHand (d := d) e8) rfl rfl (Nat.le_of_ble_eq_true rfl) rfl rfl rfl ?_
        have j0 := Option.some.inj h
        obtain ⟨i1, j1⟩ := Prod.mk.inj j0
        subst i1
        subst j1
        exact gv_Ri ok_GE_count rfl rfl
      · rw [if_neg c7] at h
        refine gv_brF c7 ?_
        by_cases c10 : x0 = 3
        · rw [if_pos c10] at h
          refine gv_brT c10 ?_
          refine gv_B ok_GE_count 3 rfl ?_
          have j0 := Option.some.inj h
          obtain ⟨i1, j1⟩ := Prod.mk.inj j0
          subst i1
          subst j1
          exact gv_Ri ok_GE_count rfl rfl
        · rw [if_neg c10] at h
          refine gv_brF c10 ?_
          by_cases c11 : x0 = 4
          · rw [if_pos c11] at h
            refine gv_brT c11 ?_
            refine gv_B ok_GE_count 3 rfl ?_
            have j0 := Option.some.inj h
            obtain ⟨i1, j1⟩ := Prod.mk.inj j0
            subst i1
            subst j1
            exact gv_Ri ok_GE_count rfl rfl
          · rw [if_neg c11] at h
            refine gv_brF c11 ?_
            by_cases c12 : x0 = 5
            · rw [if_pos c12] at h
              refine gv_brT c12 ?_
              refine gv_B ok_GE_count 2 rfl ?_
              have j0 := Option.some.inj h
              obtain ⟨i1, j1⟩ := Prod.mk.inj j0
              subst i1
              subst j1
              exact gv_Ri ok_GE_count rfl rfl
            · rw [if_neg c12] at h
              refine gv_brF c12 ?_
              by_cases c13 : x0 = 6
              · rw [if_pos c13] at h
                refine gv_brT c13 ?_
                refine gv_B ok_GE_count 2 rfl ?_
                obtain ⟨v15, e14, h⟩ := b1_e h
                refine gv_Vc ok_GE_count rfl mk_SE_collections rfl (t_SE_collections (d := d + 1) e14) rfl rfl (Nat.le_of_ble_eq_true rfl) rfl rfl rfl ?_
                have j0 := Option.some.inj h
                obtain ⟨i1, j1⟩ := Prod.mk.inj j0
                subst i1
                subst j1
                exact gv_Ri ok_GE_count rfl rfl
              · rw [if_neg c13] at h
                refine gv_brF c13 ?_
                have j0 := Option.some.inj h
                obtain ⟨i1, j1⟩ := Prod.mk.inj j0
                subst i1
                subst j1
                exact th_IAE rfl rfl (Nat.le_of_ble_eq_true rfl) (by decide +kernel) (by decide +kernel) (by decide +kernel) (by decide +kernel)
def f_GE_word (x0 : Int32) (μ : Mu) : Option (Nat × Int32 × Mu) :=
  (if x0 < 0 then
  some ((5 : Nat), (0 : Int32), μ)
  else
  (b2 (f_SE_answerLength μ) fun v3 μ4 =>
  if x0 < v3 then
  (b1 (f_SE_answerWord x0 μ4) fun v8 =>
  some ((0 : Nat), v8, μ4))
  else
  some ((5 : Nat), (0 : Int32), μ4)))
theorem t_GE_word {x0 : Int32} {μ : Mu} {cd : Nat} {r : Int32} {μr : Mu} (h : f_GE_word x0 μ = some (cd, r, μr)) : gv_ev G (d + 5) M_GE_word [gR 1, gI x0] (hp n acc g cap μ) (exR cd r) (hp n (exA cd acc) g cap μr) := by
  unfold f_GE_word at h
  refine gv_E (ls := [some (gR 1), some (gI x0)]) (by decide) exR_ne (Nat.le_of_ble_eq_true rfl) rfl ?_
  refine gv_B ok_GE_word 2 rfl ?_
  by_cases c1 : x0 < 0
  · rw [if_pos c1] at h
    refine gv_brT c1 ?_
    have j0 := Option.some.inj h
    obtain ⟨i1, j1⟩ := Prod.mk.inj j0
    obtain ⟨i2, j2⟩ := Prod.mk.inj j1
    subst i1
    subst i2
    subst j2
    exact th_IOB rfl rfl (Nat.le_of_ble_eq_true rfl) (by decide +kernel) (by decide +kernel) (by decide +kernel) (by decide +kernel)
  · rw [if_neg c1] at h
    refine gv_brF c1 ?_
    refine gv_B ok_GE_word 3 rfl ?_
    obtain ⟨v3, μ4, e2, h⟩ := b2_e h
    refine gv_Vc ok_GE_word rfl mk_SE_answerLength rfl (t_SE_answerLength (d := d) e2) rfl rfl (Nat.le_of_ble_eq_true rfl) rfl rfl rfl ?_
    refine gv_B ok_GE_word 1 rfl ?_
    by_cases c6 : x0 < v3
    · rw [if_pos c6] at h
      refine gv_brT c6 ?_
      refine gv_B ok_GE_word 3 rfl ?_
      obtain ⟨v8, e7, h⟩ := b1_e h
      refine gv_Vc ok_GE_word rfl mk_SE_answerWord rfl (t_SE_answerWord (d := d + 3) e7) rfl rfl (Nat.le_of_ble_eq_true rfl) rfl rfl rfl ?_
      have j0 := Option.some.inj h
      obtain ⟨i1, j1⟩ := Prod.mk.inj j0
      obtain ⟨i2, j2⟩ := Prod.mk.inj j1
      subst i1
      subst i2
      subst j2
      exact gv_Ri ok_GE_word rfl rfl
    · rw [if_neg c6] at h
      refine gv_brF c6 ?_
      have j0 := Option.some.inj h
      obtain ⟨i1, j1⟩ := Prod.mk.inj j0
      obtain ⟨i2, j2⟩ := Prod.mk.inj j1
      subst i1
      subst i2
      subst j2
      exact th_IOB rfl rfl (Nat.le_of_ble_eq_true rfl) (by decide +kernel) (by decide +kernel) (by decide +kernel) (by decide +kernel)
end FNX
