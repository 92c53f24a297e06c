/-! methods as functions of the numbers (written by wip/tools/genf.py, mkf.py) -/
section FNG
variable {G : gv_G} {d n g cap : Nat} {acc : Nat × Nat}
def f_SE_bringGoals_28 (k1 : Int32) (k2 : Int32) : Nat → Int32 → Int32 → Nat → (Nat × Nat) → Nat → Nat → Mu → Option (Nat × (Nat × Nat) × Nat × Nat × Mu)
  | 0, _, _, _, _, _, _, _ => none
  | f + 1, y3, y4, nn, ac, gg, cp, μ =>
    (if y4 < k1 then
    some (nn, ac, gg, cp, μ)
    else
    (b1 (rd (μ 45) 30 y4) fun v4 =>
    b5 (f_GO_set nn ac gg cp y3 v4 k2 (μ 37 9) μ) fun n7 ac8 g9 cp10 μ11 =>
    f_SE_bringGoals_28 k1 k2 f (y3 + 1) (y4 + (-1)) n7 ac8 g9 cp10 (sI μ11 37 9 y3)))
def f_SE_bringGoals (n : Nat) (acc : Nat × Nat) (g cap : Nat) (x0 : Int32) (x1 : Int32) (μ : Mu) : Option (Nat × (Nat × Nat) × Nat × Nat × Mu) :=
  (b1 (f_CH_goalsKept μ) fun v2 =>
  b5 (f_SE_bringGoals_28 x0 x1 fu (jmax ((μ 37 9) + 1) v2) ((μ 40 8) - 1) n acc g cap μ) fun n12 ac13 g14 cp15 μ16 =>
  some (n12, ac13, g14, cp15, μ16))
theorem t_SE_bringGoals_28 {r : gv_O} {hf : gv_H} {k1 : Int32} {k2 : Int32} (fl : Nat) : ∀ {y3 : Int32} {y4 : Int32} {nn : Nat} {ac : Nat × Nat} {gg cp : Nat} {μ : Mu} {nz : Nat} {az : Nat × Nat} {gz cz : Nat} {μz : Mu}, f_SE_bringGoals_28 k1 k2 fl y3 y4 nn ac gg cp μ = some (nz, az, gz, cz, μz) → gv_go G M_SE_bringGoals (d + 3) r hf 71 [none, none, none, none, none] [] (hp nz az gz cz μz) → gv_go G M_SE_bringGoals (d + 3) r hf 28 [some (gR 37), some (gI k1), some (gI k2), some (gI y3), some (gI y4)] [] (hp nn ac gg cp μ) := by
  induction fl with
  | zero => intro _ _ _ _ _ _ _ _ _ _ _ _ h _; cases h
  | succ f ih =>
    intro y3 y4 nn ac gg cp μ nz az gz cz μz h KJ
    unfold f_SE_bringGoals_28 at h
    refine gv_B ok_SE_bringGoals 3 rfl ?_
    by_cases c3 : y4 < k1
    · rw [if_pos c3] at h
      refine gv_brT c3 ?_
      have j0 := Option.some.inj h
      obtain ⟨i1, j1⟩ := Prod.mk.inj j0
      obtain ⟨i2, j2⟩ := Prod.mk.inj j1
      obtain ⟨i3, j3⟩ := Prod.mk.inj j2
      obtain ⟨i4, j4⟩ := Prod.mk.inj j3
      subst i1
      subst i2
      subst i3
      subst i4
      subst j4
      exact gv_fk KJ trivial
    · rw [if_neg c3] at h
      refine gv_brF c3 ?_
      refine gv_B ok_SE_bringGoals 7 rfl ?_
      obtain ⟨v4, e5, h⟩ := b1_e h
      refine hp_rd ok_SE_bringGoals rfl rfl e5 ?_
      refine gv_B ok_SE_bringGoals 3 rfl ?_
      obtain ⟨n7, ac8, g9, cp10, μ11, e6, h⟩ := b5_e h
      refine gv_Vc ok_SE_bringGoals rfl mk_GO_set rfl (t_GO_set (d := d) e6) rfl rfl (Nat.le_of_ble_eq_true rfl) rfl rfl rfl ?_
      refine gv_B ok_SE_bringGoals 2 rfl ?_
      refine hp_pf ok_SE_bringGoals rfl rfl rfl rfl rfl (Nat.le_of_ble_eq_true rfl) rfl ?_
      refine gv_B ok_SE_bringGoals 3 rfl ?_
      exact ih h KJ
theorem t_SE_bringGoals {x0 : Int32} {x1 : Int32} {μ : Mu} {nr : Nat} {ar : Nat × Nat} {gr cr : Nat} {μr : Mu} (h : f_SE_bringGoals n acc g cap x0 x1 μ = some (nr, ar, gr, cr, μr)) : gv_ev G (d + 3) M_SE_bringGoals [gR 37, gI x0, gI x1] (hp n acc g cap μ) (.inl none) (hp nr ar gr cr μr) := by
  unfold f_SE_bringGoals at h
  refine gv_E (ls := [some (gR 37), some (gI x0), some (gI x1), none, none]) (by decide) (fun h => by cases h) (Nat.le_of_ble_eq_true rfl) rfl ?_
  refine gv_B ok_SE_bringGoals 6 rfl ?_
  obtain ⟨v2, e1, h⟩ := b1_e h
  refine gv_Vc ok_SE_bringGoals rfl mk_CH_goalsKept rfl (t_CH_goalsKept (d := d + 2) e1) rfl rfl (Nat.le_of_ble_eq_true rfl) rfl rfl rfl ?_
  refine gv_mx (wp := 707) (x9 := 197) (by decide +kernel) (by decide +kernel) (Nat.le_of_ble_eq_true rfl) ?_
  refine gv_B ok_SE_bringGoals 7 rfl ?_
  obtain ⟨n12, ac13, g14, cp15, μ16, e17, h⟩ := b5_e h
  have K18 : gv_go G M_SE_bringGoals (d + 3) (.inl none) (hp nr ar gr cr μr) 71 [none, none, none, none, none] [] (hp n12 ac13 g14 cp15 μ16) := by
    have j0 := Option.some.inj h
    obtain ⟨i1, j1⟩ := Prod.mk.inj j0
    obtain ⟨i2, j2⟩ := Prod.mk.inj j1
    obtain ⟨i3, j3⟩ := Prod.mk.inj j2
    obtain ⟨i4, j4⟩ := Prod.mk.inj j3
    subst i1
    subst i2
    subst i3
    subst i4
    subst j4
    exact gv_Rv ok_SE_bringGoals rfl rfl
  exact t_SE_bringGoals_28 _ e17 K18
def f_SE_begin (n : Nat) (acc : Nat × Nat) (g cap : Nat) (x0 : Int32) (μ : Mu) : Option (Nat × (Nat × Nat) × Nat × Nat × Mu) :=
  (b1 (f_CL_read 38 x0 μ) fun μ2 =>
  b1 (f_CE_clear μ2) fun μ4 =>
  b1 (f_CH_cutTo 0 μ4) fun μ6 =>
  b1 (f_CE_copy 38 μ6) fun μ8 =>
  b5 (f_SE_bringGoals n acc g cap 0 0 (sI (sI μ8 37 9 (-1)) 37 10 (-1))) fun n10 ac11 g12 cp13 μ14 =>
  some (n10, ac11, g12, cp13, (sI μ14 37 11 1)))
theorem t_SE_begin {x0 : Int32} {μ : Mu} {nr : Nat} {ar : Nat × Nat} {gr cr : Nat} {μr : Mu} (h : f_SE_begin n acc g cap x0 μ = some (nr, ar, gr, cr, μr)) : gv_ev G (d + 4) M_SE_begin [gR 37, gR 2, gI x0] (hp n acc g cap μ) (.inl none) (hp nr ar gr cr μr) := by
  unfold f_SE_begin at h
  refine gv_E (ls := [some (gR 37), some (gR 2), some (gI x0)]) (by decide) (fun h => by cases h) (Nat.le_of_ble_eq_true rfl) rfl ?_
  refine gv_B ok_SE_begin 4 rfl ?_
  obtain ⟨μ2, e1, h⟩ := b1_e h
  refine gv_Vc ok_SE_begin rfl mk_CL_read rfl (t_CL_read (d := d + 2) e1) rfl rfl (Nat.le_of_ble_eq_true rfl) rfl rfl rfl ?_
  refine gv_B ok_SE_begin 2 rfl ?_
  obtain ⟨μ4, e3, h⟩ := b1_e h
  refine gv_Vc ok_SE_begin rfl mk_CE_clear rfl (t_CE_clear (d := d + 3) e3) rfl rfl (Nat.le_of_ble_eq_true rfl) rfl rfl rfl ?_
  refine gv_B ok_SE_begin 3 rfl ?_
  obtain ⟨μ6, e5, h⟩ := b1_e h
  refine gv_Vc ok_SE_begin rfl mk_CH_cutTo rfl (t_CH_cutTo (d := d + 3) e5) rfl rfl (Nat.le_of_ble_eq_true rfl) rfl rfl rfl ?_
  refine gv_B ok_SE_begin 4 rfl ?_
  obtain ⟨μ8, e7, h⟩ := b1_e h
  refine gv_Vc ok_SE_begin rfl mk_CE_copy rfl (t_CE_copy (d := d + 1) e7) rfl rfl (Nat.le_of_ble_eq_true rfl) rfl rfl rfl ?_
  refine gv_B ok_SE_begin 2 rfl ?_
  refine hp_pf ok_SE_begin rfl rfl rfl rfl rfl (Nat.le_of_ble_eq_true rfl) rfl ?_
  refine gv_B ok_SE_begin 2 rfl ?_
  refine hp_pf ok_SE_begin rfl rfl rfl rfl rfl (Nat.le_of_ble_eq_true rfl) rfl ?_
  refine gv_B ok_SE_begin 3 rfl ?_
  obtain ⟨n10, ac11, g12, cp13, μ14, e9, h⟩ := b5_e h
  refine gv_Vc ok_SE_begin rfl mk_SE_bringGoals rfl (t_SE_bringGoals (d := d) e9) rfl rfl (Nat.le_of_ble_eq_true rfl) rfl rfl rfl ?_
  refine gv_B ok_SE_begin 2 rfl ?_
  refine hp_pf ok_SE_begin rfl rfl rfl rfl rfl (Nat.le_of_ble_eq_true rfl) rfl ?_
  have j0 := Option.some.inj h
  obtain ⟨i1, j1⟩ := Prod.mk.inj j0
  obtain ⟨i2, j2⟩ := Prod.mk.inj j1
  obtain ⟨i3, j3⟩ := Prod.mk.inj j2
  obtain ⟨i4, j4⟩ := Prod.mk.inj j3
  subst i1
  subst i2
  subst i3
  subst i4
  subst j4
  exact gv_Rv ok_SE_begin rfl rfl
def f_SE_tryRule (n : Nat) (acc : Nat × Nat) (g cap : Nat) (x0 : Int32) (x1 : Int32) (x2 : Int32) (μ : Mu) : Option (Int32 × Nat × (Nat × Nat) × Nat × Nat × Mu) :=
  (if gPb g = true then
  (b1 (f_RB_firstFor x2 (x1 + 1) μ) fun v2 =>
  b1 (if v2 = (-1) then
  some (μ)
  else
  (b1 (f_CH_make x0 v2 μ) fun μ8 =>
  some (μ8))) fun μ3 =>
  b1 (clA x1) fun q =>
  b1 (f_SE_hasRoomFor q μ3) fun v10 =>
  if ¬ v10 = 0 then
  (b1 (f_CE_copy q μ3) fun μ13 =>
  b1 (rd (μ13 45) 30 0) fun v14 =>
  b1 (rd (μ13 g) cap x0) fun v16 =>
  b2 (f_UN_unify v14 v16 μ13) fun v19 μ20 =>
  b5 (if ¬ v19 = 0 then
  some (n, acc, g, cap, μ20)
  else
  (b5 (f_SE_bringGoals n acc g cap 1 (μ 58 5) μ20) fun n30 ac31 g32 cp33 μ34 =>
  some (n30, ac31, g32, cp33, μ34))) fun n21 ac22 g23 cp24 μ25 =>
  some (v19, n21, ac22, g23, cp24, μ25))
  else
  (b2 (f_CO_run g cap x0 (jbit (μ3 38 2)) μ3) fun v36 μ37 =>
  b1 (f_SE_hasRoomFor q μ37) fun v39 =>
  if ¬ v39 = 0 then
  (b1 (f_CE_copy q μ37) fun μ42 =>
  b1 (rd (μ42 45) 30 0) fun v43 =>
  b1 (rd (μ42 g) cap x0) fun v45 =>
  b2 (f_UN_unify v43 v45 μ42) fun v48 μ49 =>
  b5 (if ¬ v48 = 0 then
  some (n, acc, g, cap, μ49)
  else
  (b5 (f_SE_bringGoals n acc g cap 1 (μ 58 5) μ49) fun n59 ac60 g61 cp62 μ63 =>
  some (n59, ac60, g61, cp62, μ63))) fun n50 ac51 g52 cp53 μ54 =>
  some (v48, n50, ac51, g52, cp53, μ54))
  else
  some (3, n, acc, g, cap, μ37)))
  else none)
theorem t_SE_tryRule {x0 : Int32} {x1 : Int32} {x2 : Int32} {μ : Mu} {r : Int32} {nr : Nat} {ar : Nat × Nat} {gr cr : Nat} {μr : Mu} (h : f_SE_tryRule n acc g cap x0 x1 x2 μ = some (r, nr, ar, gr, cr, μr)) : gv_ev G (d + 5) M_SE_tryRule [gR 37, gI x0, gI x1, gI x2] (hp n acc g cap μ) (.inl (some (gI r))) (hp nr ar gr cr μr) := by
  unfold f_SE_tryRule at h
  by_cases hg : gPb g = true
  rotate_left
  · rw [if_neg hg] at h
    cases h
  rw [if_pos hg] at h
  refine gv_E (ls := [some (gR 37), some (gI x0), some (gI x1), some (gI x2), none, none, none, none]) (by decide) (fun h => by cases h) (Nat.le_of_ble_eq_true rfl) rfl ?_
  refine gv_B ok_SE_tryRule 10 rfl ?_
  obtain ⟨v2, e1, h⟩ := b1_e h
  refine gv_Vc ok_SE_tryRule rfl mk_RB_firstFor rfl (t_RB_firstFor (d := d + 4) e1) rfl rfl (Nat.le_of_ble_eq_true rfl) rfl rfl rfl ?_
  refine gv_B ok_SE_tryRule 4 rfl ?_
  obtain ⟨μ3, e4, h⟩ := b1_e h
  have K5 : gv_go G M_SE_tryRule (d + 5) (.inl (some (gI r))) (hp nr ar gr cr μr) 42 [some (gR 37), some (gI x0), some (gI x1), none, some (gI (μ 58 5)), none, none, none] [] (hp n acc g cap μ3) := by
    refine gv_B ok_SE_tryRule 4 rfl ?_
    obtain ⟨q, e64, h⟩ := b1_e h
    have hq := (clA_e e64).2.2
    refine hp_cl ok_SE_tryRule rfl e64 ?_
    refine gv_B ok_SE_tryRule 3 rfl ?_
    obtain ⟨v10, e9, h⟩ := b1_e h
    refine gv_Vc ok_SE_tryRule rfl mk_SE_hasRoomFor rfl (t_SE_hasRoomFor (d := d + 4) e9) rfl rfl (Nat.le_of_ble_eq_true rfl) rfl rfl rfl ?_
    refine gv_B ok_SE_tryRule 1 rfl ?_
    by_cases c11 : ¬ v10 = 0
    · rw [if_pos c11] at h
      refine gv_brT c11 ?_
      refine gv_B ok_SE_tryRule 3 rfl ?_
      obtain ⟨μ13, e12, h⟩ := b1_e h
      refine gv_Vc ok_SE_tryRule rfl mk_CE_copy rfl (t_CE_copy (d := d + 2) e12) rfl rfl (Nat.le_of_ble_eq_true rfl) rfl rfl rfl ?_
      refine gv_B ok_SE_tryRule 6 rfl ?_
      obtain ⟨v14, e15, h⟩ := b1_e h
      refine hp_rd ok_SE_tryRule rfl rfl e15 ?_
      refine gv_B ok_SE_tryRule 4 rfl ?_
      obtain ⟨v16, e17, h⟩ := b1_e h
      refine hp_rd ok_SE_tryRule rfl (tg_0 hg _) e17 ?_
      obtain ⟨v19, μ20, e18, h⟩ := b2_e h
      refine gv_Vc ok_SE_tryRule rfl mk_UN_unify rfl (t_UN_unify (d := d) e18) rfl rfl (Nat.le_of_ble_eq_true rfl) rfl rfl rfl ?_
      refine gv_B ok_SE_tryRule 3 rfl ?_
      obtain ⟨n21, ac22, g23, cp24, μ25, e26, h⟩ := b5_e h
      have K27 : gv_go G M_SE_tryRule (d + 5) (.inl (some (gI r))) (hp nr ar gr cr μr) 140 [none, none, none, none, none, none, none, some (gI v19)] [] (hp n21 ac22 g23 cp24 μ25) := by
        refine gv_B ok_SE_tryRule 1 rfl ?_
        have j0 := Option.some.inj h
        obtain ⟨i1, j1⟩ := Prod.mk.inj j0
        obtain ⟨i2, j2⟩ := Prod.mk.inj j1
        obtain ⟨i3, j3⟩ := Prod.mk.inj j2
        obtain ⟨i4, j4⟩ := Prod.mk.inj j3
        obtain ⟨i5, j5⟩ := Prod.mk.inj j4
        subst i1
        subst i2
        subst i3
        subst i4
        subst i5
        subst j5
        exact gv_Ri ok_SE_tryRule rfl rfl
      clear h
      have h := e26
      clear e26
      by_cases c28 : ¬ v19 = 0
      · rw [if_pos c28] at h
        refine gv_brT c28 ?_
        have j0 := Option.some.inj h
        obtain ⟨i1, j1⟩ := Prod.mk.inj j0
        obtain ⟨i2, j2⟩ := Prod.mk.inj j1
        obtain ⟨i3, j3⟩ := Prod.mk.inj j2
        obtain ⟨i4, j4⟩ := Prod.mk.inj j3
        subst i1
        subst i2
        subst i3
        subst i4
        subst j4
        exact gv_fk K27 ⟨rfl, trivial⟩
      · rw [if_neg c28] at h
        refine gv_brF c28 ?_
        refine gv_B ok_SE_tryRule 3 rfl ?_
        obtain ⟨n30, ac31, g32, cp33, μ34, e29, h⟩ := b5_e h
        refine gv_Vc ok_SE_tryRule rfl mk_SE_bringGoals rfl (t_SE_bringGoals (d := d + 1) e29) rfl rfl (Nat.le_of_ble_eq_true rfl) rfl rfl rfl ?_
        have j0 := Option.some.inj h
        obtain ⟨i1, j1⟩ := Prod.mk.inj j0
        obtain ⟨i2, j2⟩ := Prod.mk.inj j1
        obtain ⟨i3, j3⟩ := Prod.mk.inj j2
        obtain ⟨i4, j4⟩ := Prod.mk.inj j3
        subst i1
        subst i2
        subst i3
        subst i4
        subst j4
        exact gv_fk K27 ⟨rfl, trivial⟩
    · rw [if_neg c11] at h
      refine gv_brF c11 ?_
      refine gv_B ok_SE_tryRule 6 rfl ?_
      refine gv_Sx (wp := 431) (x9 := 176) (by decide +kernel) (by decide +kernel) mk_J_jbit (t_jbit (d := d + 4)) rfl rfl (Nat.le_of_ble_eq_true rfl) ?_
      obtain ⟨v36, μ37, e35, h⟩ := b2_e h
      refine gv_Vc ok_SE_tryRule rfl mk_CO_run rfl (t_CO_run (d := d) e35) rfl rfl (Nat.le_of_ble_eq_true rfl) rfl rfl rfl ?_
      refine gv_B ok_SE_tryRule 3 rfl ?_
      obtain ⟨v39, e38, h⟩ := b1_e h
      refine gv_Vc ok_SE_tryRule rfl mk_SE_hasRoomFor rfl (t_SE_hasRoomFor (d := d + 4) e38) rfl rfl (Nat.le_of_ble_eq_true rfl) rfl rfl rfl ?_
      refine gv_B ok_SE_tryRule 1 rfl ?_
      by_cases c40 : ¬ v39 = 0
      · rw [if_pos c40] at h
        refine gv_brT c40 ?_
        refine gv_B ok_SE_tryRule 3 rfl ?_
        obtain ⟨μ42, e41, h⟩ := b1_e h
        refine gv_Vc ok_SE_tryRule rfl mk_CE_copy rfl (t_CE_copy (d := d + 2) e41) rfl rfl (Nat.le_of_ble_eq_true rfl) rfl rfl rfl ?_
        refine gv_B ok_SE_tryRule 6 rfl ?_
        obtain ⟨v43, e44, h⟩ := b1_e h
        refine hp_rd ok_SE_tryRule rfl rfl e44 ?_
        refine gv_B ok_SE_tryRule 4 rfl ?_
        obtain ⟨v45, e46, h⟩ := b1_e h
        refine hp_rd ok_SE_tryRule rfl (tg_0 hg _) e46 ?_
        obtain ⟨v48, μ49, e47, h⟩ := b2_e h
        refine gv_Vc ok_SE_tryRule rfl mk_UN_unify rfl (t_UN_unify (d := d) e47) rfl rfl (Nat.le_of_ble_eq_true rfl) rfl rfl rfl ?_
        refine gv_B ok_SE_tryRule 3 rfl ?_
        obtain ⟨n50, ac51, g52, cp53, μ54, e55, h⟩ := b5_e h
        have K56 : gv_go G M_SE_tryRule (d + 5) (.inl (some (gI r))) (hp nr ar gr cr μr) 140 [none, none, none, none, none, none, none, some (gI v48)] [] (hp n50 ac51 g52 cp53 μ54) := by
          refine gv_B ok_SE_tryRule 1 rfl ?_
          have j0 := Option.some.inj h
          obtain ⟨i1, j1⟩ := Prod.mk.inj j0
          obtain ⟨i2, j2⟩ := Prod.mk.inj j1
          obtain ⟨i3, j3⟩ := Prod.mk.inj j2
          obtain ⟨i4, j4⟩ := Prod.mk.inj j3
          obtain ⟨i5, j5⟩ := Prod.mk.inj j4
          subst i1
          subst i2
          subst i3
          subst i4
          subst i5
          subst j5
          exact gv_Ri ok_SE_tryRule rfl rfl
        clear h
        have h := e55
        clear e55
        by_cases c57 : ¬ v48 = 0
        · rw [if_pos c57] at h
          refine gv_brT c57 ?_
          have j0 := Option.some.inj h
          obtain ⟨i1, j1⟩ := Prod.mk.inj j0
          obtain ⟨i2, j2⟩ := Prod.mk.inj j1
          obtain ⟨i3, j3⟩ := Prod.mk.inj j2
          obtain ⟨i4, j4⟩ := Prod.mk.inj j3
          subst i1
          subst i2
          subst i3
          subst i4
          subst j4
          exact gv_fk K56 ⟨rfl, trivial⟩
        · rw [if_neg c57] at h
          refine gv_brF c57 ?_
          refine gv_B ok_SE_tryRule 3 rfl ?_
          obtain ⟨n59, ac60, g61, cp62, μ63, e58, h⟩ := b5_e h
          refine gv_Vc ok_SE_tryRule rfl mk_SE_bringGoals rfl (t_SE_bringGoals (d := d + 1) e58) rfl rfl (Nat.le_of_ble_eq_true rfl) rfl rfl rfl ?_
          have j0 := Option.some.inj h
          obtain ⟨i1, j1⟩ := Prod.mk.inj j0
          obtain ⟨i2, j2⟩ := Prod.mk.inj j1
          obtain ⟨i3, j3⟩ := Prod.mk.inj j2
          obtain ⟨i4, j4⟩ := Prod.mk.inj j3
          subst i1
          subst i2
          subst i3
          subst i4
          subst j4
          exact gv_fk K56 ⟨rfl, trivial⟩
      · rw [if_neg c40] at h
        refine gv_brF c40 ?_
        refine gv_B ok_SE_tryRule 1 rfl ?_
        have j0 := Option.some.inj h
        obtain ⟨i1, j1⟩ := Prod.mk.inj j0
        obtain ⟨i2, j2⟩ := Prod.mk.inj j1
        obtain ⟨i3, j3⟩ := Prod.mk.inj j2
        obtain ⟨i4, j4⟩ := Prod.mk.inj j3
        obtain ⟨i5, j5⟩ := Prod.mk.inj j4
        subst i1
        subst i2
        subst i3
        subst i4
        subst i5
        subst j5
        exact gv_Ri ok_SE_tryRule rfl rfl
  clear h
  have h := e4
  clear e4
  by_cases c6 : v2 = (-1)
  · rw [if_pos c6] at h
    refine gv_brT c6 ?_
    have h9 := Option.some.inj h
    subst h9
    exact gv_fk K5 ⟨rfl, ⟨rfl, ⟨rfl, ⟨rfl, trivial⟩⟩⟩⟩
  · rw [if_neg c6] at h
    refine gv_brF c6 ?_
    refine gv_B ok_SE_tryRule 6 rfl ?_
    obtain ⟨μ8, e7, h⟩ := b1_e h
    refine gv_Vc ok_SE_tryRule rfl mk_CH_make rfl (t_CH_make (d := d + 3) e7) rfl rfl (Nat.le_of_ble_eq_true rfl) rfl rfl rfl ?_
    have h9 := Option.some.inj h
    subst h9
    exact gv_fk K5 ⟨rfl, ⟨rfl, ⟨rfl, ⟨rfl, trivial⟩⟩⟩⟩
def f_SE_step (n : Nat) (acc : Nat × Nat) (g cap : Nat) (μ : Mu) : Option (Int32 × Nat × (Nat × Nat) × Nat × Nat × Mu) :=
  (if gPb g = true then
  (b1 (rd ((sI μ 37 12 ((μ 37 12) - 1)) (g + 2)) cap (μ 37 9)) fun v1 =>
  b1 (rd ((sI (sI (sI μ 37 12 ((μ 37 12) - 1)) 37 9 v1) 37 10 (-1)) g) cap (μ 37 9)) fun v3 =>
  if ¬ (v3 &&& 7) = 6 then
  (b1 (f_CE_nameOf v3 (sI (sI (sI μ 37 12 ((μ 37 12) - 1)) 37 9 v1) 37 10 (-1))) fun v7 =>
  if ¬ (v7 &&& 7) = 4 then
  (b1 (if ¬ (μ 37 10) = (-1) then
  some ((μ 37 10))
  else
  (b1 (f_RB_firstFor v7 0 (sI (sI (sI μ 37 12 ((μ 37 12) - 1)) 37 9 v1) 37 10 (-1))) fun v14 =>
  some (v14))) fun l9 =>
  if ¬ l9 = (-1) then
  (b6 (f_SE_tryRule n acc g cap (μ 37 9) l9 v7 (sI (sI (sI μ 37 12 ((μ 37 12) - 1)) 37 9 v1) 37 10 (-1))) fun v17 n18 ac19 g20 cp21 μ22 =>
  some (v17, n18, ac19, g20, cp21, μ22))
  else
  some (1, n, acc, g, cap, (sI (sI (sI μ 37 12 ((μ 37 12) - 1)) 37 9 v1) 37 10 (-1))))
  else
  (if (v7 >>> ((3 : Int32) &&& 31)) < 24 then
  (b1 (if ¬ (μ 37 10) = (-1) then
  some ((μ 37 10))
  else
  (b1 (f_RB_firstFor v7 0 (sI (sI (sI μ 37 12 ((μ 37 12) - 1)) 37 9 v1) 37 10 (-1))) fun v29 =>
  some (v29))) fun l24 =>
  if ¬ l24 = (-1) then
  (b6 (f_SE_tryRule n acc g cap (μ 37 9) l24 v7 (sI (sI (sI μ 37 12 ((μ 37 12) - 1)) 37 9 v1) 37 10 (-1))) fun v32 n33 ac34 g35 cp36 μ37 =>
  some (v32, n33, ac34, g35, cp36, μ37))
  else
  some (1, n, acc, g, cap, (sI (sI (sI μ 37 12 ((μ 37 12) - 1)) 37 9 v1) 37 10 (-1))))
  else
  (b1 (f_CE_argument v3 1 (sI (sI (sI μ 37 12 ((μ 37 12) - 1)) 37 9 v1) 37 10 (-1))) fun v39 =>
  b1 (f_CE_argument v3 2 (sI (sI (sI μ 37 12 ((μ 37 12) - 1)) 37 9 v1) 37 10 (-1))) fun v41 =>
  b2 (f_SE_meet (v7 >>> ((3 : Int32) &&& 31)) v39 v41 (sI (sI (sI μ 37 12 ((μ 37 12) - 1)) 37 9 v1) 37 10 (-1))) fun v43 μ44 =>
  some (v43, n, acc, g, cap, μ44))))
  else
  (b1 (rd ((sI (sI (sI μ 37 12 ((μ 37 12) - 1)) 37 9 v1) 37 10 (-1)) (g + 1)) cap (μ 37 9)) fun v45 =>
  b1 (f_CH_cutTo v45 (sI (sI (sI μ 37 12 ((μ 37 12) - 1)) 37 9 v1) 37 10 (-1))) fun μ48 =>
  some (0, n, acc, g, cap, μ48)))
  else none)
theorem t_SE_step {μ : Mu} {r : Int32} {nr : Nat} {ar : Nat × Nat} {gr cr : Nat} {μr : Mu} (h : f_SE_step n acc g cap μ = some (r, nr, ar, gr, cr, μr)) : gv_ev G (d + 36) M_SE_step [gR 37] (hp n acc g cap μ) (.inl (some (gI r))) (hp nr ar gr cr μr) := by
  unfold f_SE_step at h
  by_cases hg : gPb g = true
  rotate_left
  · rw [if_neg hg] at h
    cases h
  rw [if_pos hg] at h
  refine gv_E (ls := [some (gR 37), none, none, none, none]) (by decide) (fun h => by cases h) (Nat.le_of_ble_eq_true rfl) rfl ?_
  refine gv_B ok_SE_step 5 rfl ?_
  refine hp_pf ok_SE_step rfl rfl rfl rfl rfl (Nat.le_of_ble_eq_true rfl) rfl ?_
  refine gv_B ok_SE_step 11 rfl ?_
  obtain ⟨v1, e2, h⟩ := b1_e h
  refine hp_rd ok_SE_step rfl (tg_2 hg _) e2 ?_
  refine hp_pf ok_SE_step rfl rfl rfl rfl rfl (Nat.le_of_ble_eq_true rfl) rfl ?_
  refine gv_B ok_SE_step 2 rfl ?_
  refine hp_pf ok_SE_step rfl rfl rfl rfl rfl (Nat.le_of_ble_eq_true rfl) rfl ?_
  refine gv_B ok_SE_step 4 rfl ?_
  obtain ⟨v3, e4, h⟩ := b1_e h
  refine hp_rd ok_SE_step rfl (tg_0 hg _) e4 ?_
  refine gv_B ok_SE_step 6 rfl ?_
  by_cases c5 : ¬ (v3 &&& 7) = 6
  · rw [if_pos c5] at h
    refine gv_brT c5 ?_
    refine gv_B ok_SE_step 3 rfl ?_
    obtain ⟨v7, e6, h⟩ := b1_e h
    refine gv_Vc ok_SE_step rfl mk_CE_nameOf rfl (t_CE_nameOf (d := d + 35) e6) rfl rfl (Nat.le_of_ble_eq_true rfl) rfl rfl rfl ?_
    refine gv_B ok_SE_step 6 rfl ?_
    by_cases c8 : ¬ (v7 &&& 7) = 4
    · rw [if_pos c8] at h
      refine gv_brT c8 ?_
      refine gv_B ok_SE_step 3 rfl ?_
      obtain ⟨l9, e10, h⟩ := b1_e h
      have K11 : gv_go G M_SE_step (d + 36) (.inl (some (gI r))) (hp nr ar gr cr μr) 146 [some (gR 37), some (gI (μ 37 9)), some (gI l9), none, some (gI v7)] [] (hp n acc g cap (sI (sI (sI μ 37 12 ((μ 37 12) - 1)) 37 9 v1) 37 10 (-1))) := by
        refine gv_B ok_SE_step 3 rfl ?_
        by_cases c15 : ¬ l9 = (-1)
        · rw [if_pos c15] at h
          refine gv_brT c15 ?_
          refine gv_B ok_SE_step 4 rfl ?_
          obtain ⟨v17, n18, ac19, g20, cp21, μ22, e16, h⟩ := b6_e h
          refine gv_Vc ok_SE_step rfl mk_SE_tryRule rfl (t_SE_tryRule (d := d + 30) e16) rfl rfl (Nat.le_of_ble_eq_true rfl) rfl rfl rfl ?_
          have j0 := Option.some.inj h
          obtain ⟨i1, j1⟩ := Prod.mk.inj j0
          obtain ⟨i2, j2⟩ := Prod.mk.inj j1
          obtain ⟨i3, j3⟩ := Prod.mk.inj j2
          obtain ⟨i4, j4⟩ := Prod.mk.inj j3
          obtain ⟨i5, j5⟩ := Prod.mk.inj j4
          subst i1
          subst i2
          subst i3
          subst i4
          subst i5
          subst j5
          exact gv_Ri ok_SE_step rfl rfl
        · rw [if_neg c15] at h
          refine gv_brF c15 ?_
          refine gv_B ok_SE_step 2 rfl ?_
          have j0 := Option.some.inj h
          obtain ⟨i1, j1⟩ := Prod.mk.inj j0
          obtain ⟨i2, j2⟩ := Prod.mk.inj j1
          obtain ⟨i3, j3⟩ := Prod.mk.inj j2
          obtain ⟨i4, j4⟩ := Prod.mk.inj j3
          obtain ⟨i5, j5⟩ := Prod.mk.inj j4
          subst i1
          subst i2
          subst i3
          subst i4
          subst i5
          subst j5
          exact gv_Ri ok_SE_step rfl rfl
      clear h
      have h := e10
      clear e10
      by_cases c12 : ¬ (μ 37 10) = (-1)
      · rw [if_pos c12] at h
        refine gv_brT c12 ?_
        have h9 := Option.some.inj h
        subst h9
        exact gv_fk K11 ⟨rfl, ⟨rfl, ⟨rfl, ⟨rfl, trivial⟩⟩⟩⟩
      · rw [if_neg c12] at h
        refine gv_brF c12 ?_
        refine gv_B ok_SE_step 4 rfl ?_
        obtain ⟨v14, e13, h⟩ := b1_e h
        refine gv_Vc ok_SE_step rfl mk_RB_firstFor rfl (t_RB_firstFor (d := d + 35) e13) rfl rfl (Nat.le_of_ble_eq_true rfl) rfl rfl rfl ?_
        refine gv_B ok_SE_step 1 rfl ?_
        have h9 := Option.some.inj h
        subst h9
        exact gv_fk K11 ⟨rfl, ⟨rfl, ⟨rfl, ⟨rfl, trivial⟩⟩⟩⟩
    · rw [if_neg c8] at h
      refine gv_brF c8 ?_
      refine gv_B ok_SE_step 5 rfl ?_
      by_cases c23 : (v7 >>> ((3 : Int32) &&& 31)) < 24
      · rw [if_pos c23] at h
        refine gv_brT c23 ?_
        refine gv_B ok_SE_step 3 rfl ?_
        obtain ⟨l24, e25, h⟩ := b1_e h
        have K26 : gv_go G M_SE_step (d + 36) (.inl (some (gI r))) (hp nr ar gr cr μr) 146 [some (gR 37), some (gI (μ 37 9)), some (gI l24), none, some (gI v7)] [] (hp n acc g cap (sI (sI (sI μ 37 12 ((μ 37 12) - 1)) 37 9 v1) 37 10 (-1))) := by
          refine gv_B ok_SE_step 3 rfl ?_
          by_cases c30 : ¬ l24 = (-1)
          · rw [if_pos c30] at h
            refine gv_brT c30 ?_
            refine gv_B ok_SE_step 4 rfl ?_
            obtain ⟨v32, n33, ac34, g35, cp36, μ37, e31, h⟩ := b6_e h
            refine gv_Vc ok_SE_step rfl mk_SE_tryRule rfl (t_SE_tryRule (d := d + 30) e31) rfl rfl (Nat.le_of_ble_eq_true rfl) rfl rfl rfl ?_
            have j0 := Option.some.inj h
            obtain ⟨i1, j1⟩ := Prod.mk.inj j0
            obtain ⟨i2, j2⟩ := Prod.mk.inj j1
            obtain ⟨i3, j3⟩ := Prod.mk.inj j2
            obtain ⟨i4, j4⟩ := Prod.mk.inj j3
            obtain ⟨i5, j5⟩ := Prod.mk.inj j4
            subst i1
            subst i2
            subst i3
            subst i4
            subst i5
            subst j5
            exact gv_Ri ok_SE_step rfl rfl
          · rw [if_neg c30] at h
            refine gv_brF c30 ?_
            refine gv_B ok_SE_step 2 rfl ?_
            have j0 := Option.some.inj h
            obtain ⟨i1, j1⟩ := Prod.mk.inj j0
            obtain ⟨i2, j2⟩ := Prod.mk.inj j1
            obtain ⟨i3, j3⟩ := Prod.mk.inj j2
            obtain ⟨i4, j4⟩ := Prod.mk.inj j3
            obtain ⟨i5, j5⟩ := Prod.mk.inj j4
            subst i1
            subst i2
            subst i3
            subst i4
            subst i5
            subst j5
            exact gv_Ri ok_SE_step rfl rfl
        clear h
        have h := e25
        clear e25
        by_cases c27 : ¬ (μ 37 10) = (-1)
        · rw [if_pos c27] at h
          refine gv_brT c27 ?_
          have h9 := Option.some.inj h
          subst h9
          exact gv_fk K26 ⟨rfl, ⟨rfl, ⟨rfl, ⟨rfl, trivial⟩⟩⟩⟩
        · rw [if_neg c27] at h
          refine gv_brF c27 ?_
          refine gv_B ok_SE_step 4 rfl ?_
          obtain ⟨v29, e28, h⟩ := b1_e h
          refine gv_Vc ok_SE_step rfl mk_RB_firstFor rfl (t_RB_firstFor (d := d + 35) e28) rfl rfl (Nat.le_of_ble_eq_true rfl) rfl rfl rfl ?_
          refine gv_B ok_SE_step 1 rfl ?_
          have h9 := Option.some.inj h
          subst h9
          exact gv_fk K26 ⟨rfl, ⟨rfl, ⟨rfl, ⟨rfl, trivial⟩⟩⟩⟩
      · rw [if_neg c23] at h
        refine gv_brF c23 ?_
        refine gv_B ok_SE_step 8 rfl ?_
        obtain ⟨v39, e38, h⟩ := b1_e h
        refine gv_Vc ok_SE_step rfl mk_CE_argument rfl (t_CE_argument (d := d + 35) e38) rfl rfl (Nat.le_of_ble_eq_true rfl) rfl rfl rfl ?_
        refine gv_B ok_SE_step 4 rfl ?_
        obtain ⟨v41, e40, h⟩ := b1_e h
        refine gv_Vc ok_SE_step rfl mk_CE_argument rfl (t_CE_argument (d := d + 35) e40) rfl rfl (Nat.le_of_ble_eq_true rfl) rfl rfl rfl ?_
        obtain ⟨v43, μ44, e42, h⟩ := b2_e h
        refine gv_Vc ok_SE_step rfl mk_SE_meet rfl (t_SE_meet (d := d) e42) rfl rfl (Nat.le_of_ble_eq_true rfl) rfl rfl rfl ?_
        have j0 := Option.some.inj h
        obtain ⟨i1, j1⟩ := Prod.mk.inj j0
        obtain ⟨i2, j2⟩ := Prod.mk.inj j1
        obtain ⟨i3, j3⟩ := Prod.mk.inj j2
        obtain ⟨i4, j4⟩ := Prod.mk.inj j3
        obtain ⟨i5, j5⟩ := Prod.mk.inj j4
        subst i1
        subst i2
        subst i3
        subst i4
        subst i5
        subst j5
        exact gv_Ri ok_SE_step rfl rfl
  · rw [if_neg c5] at h
    refine gv_brF c5 ?_
    refine gv_B ok_SE_step 6 rfl ?_
    obtain ⟨v45, e46, h⟩ := b1_e h
    refine hp_rd ok_SE_step rfl (tg_1 hg _) e46 ?_
    obtain ⟨μ48, e47, h⟩ := b1_e h
    refine gv_Vc ok_SE_step rfl mk_CH_cutTo rfl (t_CH_cutTo (d := d + 35) e47) rfl rfl (Nat.le_of_ble_eq_true rfl) rfl rfl rfl ?_
    refine gv_B ok_SE_step 1 rfl ?_
    have j0 := Option.some.inj h
    obtain ⟨i1, j1⟩ := Prod.mk.inj j0
    obtain ⟨i2, j2⟩ := Prod.mk.inj j1
    obtain ⟨i3, j3⟩ := Prod.mk.inj j2
    obtain ⟨i4, j4⟩ := Prod.mk.inj j3
    obtain ⟨i5, j5⟩ := Prod.mk.inj j4
    subst i1
    subst i2
    subst i3
    subst i4
    subst i5
    subst j5
    exact gv_Ri ok_SE_step rfl rfl
end FNG
