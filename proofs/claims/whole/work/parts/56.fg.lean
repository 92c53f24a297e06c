/-! methods as functions of the numbers (written by wip/tools/genf.py, mkf.py) -/
section FNG
variable {G : gv_G} {d n g cap : Nat} {acc : Nat × Nat}
def f_SE_bringGoals_28 (k1 : Int32) (k2 : Int32) : Nat → Int32 → Int32 → Nat → (Nat × Nat) → Nat → Nat → Mu → Option (Nat × (Nat × Nat) × Nat × Nat × Mu)
  | 0, _, _, _, _, _, _, _ => none
  | f + 1, y3, y4, nn, ac, gg, cp, μ =>
    (if y4 < k1 then
    some (nn, ac, gg, cp, μ)
    else
    (b1 (rd (μ 45) 30 y4) fun v4 =>
    b5 (f_GO_set nn ac gg cp y3 v4 k2 (μ 37 9) μ) fun n7 ac8 g9 cp10 μ11 =>
    f_SE_bringGoals_28 k1 k2 f (y3 + 1) (y4 + (-1)) n7 ac8 g9 cp10 (sI μ11 37 9 y3)))
def f_SE_bringGoals (n : Nat) (acc : Nat × Nat) (g cap : Nat) (x0 : Int32) (x1 : Int32) (μ : Mu) : Option (Nat × (Nat × Nat) × Nat × Nat × Mu) :=
  (b1 (f_CH_goalsKept μ) fun v2 =>
  b5 (f_SE_bringGoals_28 x0 x1 fu (jmax ((μ 37 9) + 1) v2) ((μ 40 8) - 1) n acc g cap μ) fun n13 ac14 g15 cp16 μ17 =>
  some (n13, ac14, g15, cp16, μ17))
theorem t_SE_bringGoals_28 {r : gv_O} {hf : gv_H} {k1 : Int32} {k2 : Int32} (fl : Nat) : ∀ {y3 : Int32} {y4 : Int32} {nn : Nat} {ac : Nat × Nat} {gg cp : Nat} {μ : Mu} {nz : Nat} {az : Nat × Nat} {gz cz : Nat} {μz : Mu}, f_SE_bringGoals_28 k1 k2 fl y3 y4 nn ac gg cp μ = some (nz, az, gz, cz, μz) → gv_go G M_SE_bringGoals (d + 3) r hf 71 [none, none, none, none, none] [] (hp nz az gz cz μz) → gv_go G M_SE_bringGoals (d + 3) r hf 28 [some (gR 37), some (gI k1), some (gI k2), some (gI y3), some (gI y4)] [] (hp nn ac gg cp μ) := by
  induction fl with
  | zero => intro _ _ _ _ _ _ _ _ _ _ _ _ h _; cases h
  | succ f ih =>
    intro y3 y4 nn ac gg cp μ nz az gz cz μz h KJ
    unfold f_SE_bringGoals_28 at h
    refine gv_B ok_SE_bringGoals 3 rfl ?_
    by_cases c3 : y4 < k1
    · rw [if_pos c3] at h
      refine gv_brT c3 ?_
      have j0 := Option.some.inj h
      obtain ⟨i1, j1⟩ := Prod.mk.inj j0
      obtain ⟨i2, j2⟩ := Prod.mk.inj j1
      obtain ⟨i3, j3⟩ := Prod.mk.inj j2
      obtain ⟨i4, j4⟩ := Prod.mk.inj j3
      subst i1
      subst i2
      subst i3
      subst i4
      subst j4
      exact gv_fk KJ trivial
    · rw [if_neg c3] at h
      refine gv_brF c3 ?_
      refine gv_B ok_SE_bringGoals 7 rfl ?_
      obtain ⟨v4, e5, h⟩ := b1_e h
      refine hp_rd ok_SE_bringGoals rfl rfl e5 ?_
      refine gv_B ok_SE_bringGoals 3 rfl ?_
      obtain ⟨n7, ac8, g9, cp10, μ11, e6, h⟩ := b5_e h
      refine gv_Vc ok_SE_bringGoals rfl mk_GO_set rfl (t_GO_set (d := d) e6) rfl rfl (Nat.le_of_ble_eq_true rfl) rfl rfl rfl ?_
      refine gv_B ok_SE_bringGoals 2 rfl ?_
      refine hp_pf ok_SE_bringGoals rfl rfl rfl rfl rfl (Nat.le_of_ble_eq_true rfl) rfl ?_
      refine gv_B ok_SE_bringGoals 3 rfl ?_
      exact ih h KJ
theorem t_SE_bringGoals {x0 : Int32} {x1 : Int32} {μ : Mu} {nr : Nat} {ar : Nat × Nat} {gr cr : Nat} {μr : Mu} (h : f_SE_bringGoals n acc g cap x0 x1 μ = some (nr, ar, gr, cr, μr)) : gv_ev G (d + 3) M_SE_bringGoals [gR 37, gI x0, gI x1] (hp n acc g cap μ) (.inl none) (hp nr ar gr cr μr) := by
  unfold f_SE_bringGoals at h
  refine gv_E (ls := [some (gR 37), some (gI x0), some (gI x1), none, none]) (by decide) (fun h => by cases h) (Nat.le_of_ble_eq_true rfl) rfl ?_
  refine gv_B ok_SE_bringGoals 6 rfl ?_
  obtain ⟨v2, e1, h⟩ := b1_e h
  refine gv_Vc ok_SE_bringGoals rfl mk_CH_goalsKept rfl (t_CH_goalsKept (d := d + 2) e1) rfl rfl (Nat.le_of_ble_eq_true rfl) rfl rfl rfl ?_
  refine gv_mx (wp := 707) (x9 := 197) (by decide +kernel) (by decide +kernel) (Nat.le_of_ble_eq_true rfl) ?_
  refine gv_B ok_SE_bringGoals 7 rfl ?_
  obtain ⟨n13, ac14, g15, cp16, μ17, e18, h⟩ := b5_e h
  have K19 : gv_go G M_SE_bringGoals (d + 3) (.inl none) (hp nr ar gr cr μr) 71 [none, none, none, none, none] [] (hp n13 ac14 g15 cp16 μ17) := by
    have j0 := Option.some.inj h
    obtain ⟨i1, j1⟩ := Prod.mk.inj j0
    obtain ⟨i2, j2⟩ := Prod.mk.inj j1
    obtain ⟨i3, j3⟩ := Prod.mk.inj j2
    obtain ⟨i4, j4⟩ := Prod.mk.inj j3
    subst i1
    subst i2
    subst i3
    subst i4
    subst j4
    exact gv_Rv ok_SE_bringGoals rfl rfl
  exact t_SE_bringGoals_28 _ e18 K19
def f_SE_begin (n : Nat) (acc : Nat × Nat) (g cap : Nat) (x0 : Int32) (μ : Mu) : Option (Nat × (Nat × Nat) × Nat × Nat × Mu) :=
  (b1 (f_CL_read 38 x0 μ) fun μ2 =>
  b1 (f_CE_clear μ2) fun μ5 =>
  b1 (f_CH_cutTo 0 μ5) fun μ8 =>
  b1 (f_CE_copy 38 μ8) fun μ11 =>
  b5 (f_SE_bringGoals n acc g cap 0 0 (sI (sI μ11 37 9 (-1)) 37 10 (-1))) fun n14 ac15 g16 cp17 μ18 =>
  some (n14, ac15, g16, cp17, (sI μ18 37 11 1)))
theorem t_SE_begin {x0 : Int32} {μ : Mu} {nr : Nat} {ar : Nat × Nat} {gr cr : Nat} {μr : Mu} (h : f_SE_begin n acc g cap x0 μ = some (nr, ar, gr, cr, μr)) : gv_ev G (d + 4) M_SE_begin [gR 37, gR 2, gI x0] (hp n acc g cap μ) (.inl none) (hp nr ar gr cr μr) := by
  unfold f_SE_begin at h
  refine gv_E (ls := [some (gR 37), some (gR 2), some (gI x0)]) (by decide) (fun h => by cases h) (Nat.le_of_ble_eq_true rfl) rfl ?_
  refine gv_B ok_SE_begin 4 rfl ?_
  obtain ⟨μ2, e1, h⟩ := b1_e h
  refine gv_Vc ok_SE_begin rfl mk_CL_read rfl (t_CL_read (d := d + 2) e1) rfl rfl (Nat.le_of_ble_eq_true rfl) rfl rfl rfl ?_
  refine gv_B ok_SE_begin 2 rfl ?_
  obtain ⟨μ5, e4, h⟩ := b1_e h
  refine gv_Vc ok_SE_begin rfl mk_CE_clear rfl (t_CE_clear (d := d + 3) e4) rfl rfl (Nat.le_of_ble_eq_true rfl) rfl rfl rfl ?_
  refine gv_B ok_SE_begin 3 rfl ?_
  obtain ⟨μ8, e7, h⟩ := b1_e h
  refine gv_Vc ok_SE_begin rfl mk_CH_cutTo rfl (t_CH_cutTo (d := d + 3) e7) rfl rfl (Nat.le_of_ble_eq_true rfl) rfl rfl rfl ?_
  refine gv_B ok_SE_begin 4 rfl ?_
  obtain ⟨μ11, e10, h⟩ := b1_e h
  refine gv_Vc ok_SE_begin rfl mk_CE_copy rfl (t_CE_copy (d := d + 1) e10) rfl rfl (Nat.le_of_ble_eq_true rfl) rfl rfl rfl ?_
  refine gv_B ok_SE_begin 2 rfl ?_
  refine hp_pf ok_SE_begin rfl rfl rfl rfl rfl (Nat.le_of_ble_eq_true rfl) rfl ?_
  refine gv_B ok_SE_begin 2 rfl ?_
  refine hp_pf ok_SE_begin rfl rfl rfl rfl rfl (Nat.le_of_ble_eq_true rfl) rfl ?_
  refine gv_B ok_SE_begin 3 rfl ?_
  obtain ⟨n14, ac15, g16, cp17, μ18, e13, h⟩ := b5_e h
  refine gv_Vc ok_SE_begin rfl mk_SE_bringGoals rfl (t_SE_bringGoals (d := d) e13) rfl rfl (Nat.le_of_ble_eq_true rfl) rfl rfl rfl ?_
  refine gv_B ok_SE_begin 2 rfl ?_
  refine hp_pf ok_SE_begin rfl rfl rfl rfl rfl (Nat.le_of_ble_eq_true rfl) rfl ?_
  have j0 := Option.some.inj h
  obtain ⟨i1, j1⟩ := Prod.mk.inj j0
  obtain ⟨i2, j2⟩ := Prod.mk.inj j1
  obtain ⟨i3, j3⟩ := Prod.mk.inj j2
  obtain ⟨i4, j4⟩ := Prod.mk.inj j3
  subst i1
  subst i2
  subst i3
  subst i4
  subst j4
  exact gv_Rv ok_SE_begin rfl rfl
def f_SE_tryRule (n : Nat) (acc : Nat × Nat) (g cap : Nat) (x0 : Int32) (x1 : Int32) (x2 : Int32) (μ : Mu) : Option (Int32 × Nat × (Nat × Nat) × Nat × Nat × Mu) :=
  (if gPb g = true then
  (b1 (f_RB_firstFor x2 (x1 + 1) μ) fun v2 =>
  b1 (if v2 = (-1) then
  some (μ)
  else
  (b1 (f_CH_make x0 v2 μ) fun μ8 =>
  some (μ8))) fun μ3 =>
  b1 (clA x1) fun q =>
  b1 (f_SE_hasRoomFor q μ3) fun v12 =>
  if ¬ v12 = 0 then
  (b1 (f_CE_copy q μ3) fun μ15 =>
  b1 (rd (μ15 45) 30 0) fun v17 =>
  b1 (rd (μ15 g) cap x0) fun v19 =>
  b2 (f_UN_unify v17 v19 μ15) fun v22 μ23 =>
  b5 (if ¬ v22 = 0 then
  some (n, acc, g, cap, μ23)
  else
  (b5 (f_SE_bringGoals n acc g cap 1 (μ 58 5) μ23) fun n34 ac35 g36 cp37 μ38 =>
  some (n34, ac35, g36, cp37, μ38))) fun n25 ac26 g27 cp28 μ29 =>
  some (v22, n25, ac26, g27, cp28, μ29))
  else
  (b2 (f_CO_run g cap x0 (jbit (μ3 38 2)) μ3) fun v42 μ43 =>
  b1 (f_SE_hasRoomFor q μ43) fun v46 =>
  if ¬ v46 = 0 then
  (b1 (f_CE_copy q μ43) fun μ49 =>
  b1 (rd (μ49 45) 30 0) fun v51 =>
  b1 (rd (μ49 g) cap x0) fun v53 =>
  b2 (f_UN_unify v51 v53 μ49) fun v56 μ57 =>
  b5 (if ¬ v56 = 0 then
  some (n, acc, g, cap, μ57)
  else
  (b5 (f_SE_bringGoals n acc g cap 1 (μ 58 5) μ57) fun n68 ac69 g70 cp71 μ72 =>
  some (n68, ac69, g70, cp71, μ72))) fun n59 ac60 g61 cp62 μ63 =>
  some (v56, n59, ac60, g61, cp62, μ63))
  else
  some (3, n, acc, g, cap, μ43)))
  else none)
theorem t_SE_tryRule {x0 : Int32} {x1 : Int32} {x2 : Int32} {μ : Mu} {r : Int32} {nr : Nat} {ar : Nat × Nat} {gr cr : Nat} {μr : Mu} (h : f_SE_tryRule n acc g cap x0 x1 x2 μ = some (r, nr, ar, gr, cr, μr)) : gv_ev G (d + 5) M_SE_tryRule [gR 37, gI x0, gI x1, gI x2] (hp n acc g cap μ) (.inl (some (gI r))) (hp nr ar gr cr μr) := by
  unfold f_SE_tryRule at h
  by_cases hg : gPb g = true
  rotate_left
  · rw [if_neg hg] at h
    cases h
  rw [if_pos hg] at h
  refine gv_E (ls := [some (gR 37), some (gI x0), some (gI x1), some (gI x2), none, none, none, none]) (by decide) (fun h => by cases h) (Nat.le_of_ble_eq_true rfl) rfl ?_
  refine gv_B ok_SE_tryRule 10 rfl ?_
  obtain ⟨v2, e1, h⟩ := b1_e h
  refine gv_Vc ok_SE_tryRule rfl mk_RB_firstFor rfl (t_RB_firstFor (d := d + 4) e1) rfl rfl (Nat.le_of_ble_eq_true rfl) rfl rfl rfl ?_
  refine gv_B ok_SE_tryRule 4 rfl ?_
  obtain ⟨μ3, e4, h⟩ := b1_e h
  have K5 : gv_go G M_SE_tryRule (d + 5) (.inl (some (gI r))) (hp nr ar gr cr μr) 42 [some (gR 37), some (gI x0), some (gI x1), none, some (gI (μ 58 5)), none, none, none] [] (hp n acc g cap μ3) := by
    refine gv_B ok_SE_tryRule 4 rfl ?_
    obtain ⟨q, e75, h⟩ := b1_e h
    have hq := (clA_e e75).2.2
    refine hp_cl ok_SE_tryRule rfl e75 ?_
    refine gv_B ok_SE_tryRule 3 rfl ?_
    obtain ⟨v12, e11, h⟩ := b1_e h
    refine gv_Vc ok_SE_tryRule rfl mk_SE_hasRoomFor rfl (t_SE_hasRoomFor (d := d + 4) e11) rfl rfl (Nat.le_of_ble_eq_true rfl) rfl rfl rfl ?_
    refine gv_B ok_SE_tryRule 1 rfl ?_
    by_cases c13 : ¬ v12 = 0
    · rw [if_pos c13] at h
      refine gv_brT c13 ?_
      refine gv_B ok_SE_tryRule 3 rfl ?_
      obtain ⟨μ15, e14, h⟩ := b1_e h
      refine gv_Vc ok_SE_tryRule rfl mk_CE_copy rfl (t_CE_copy (d := d + 2) e14) rfl rfl (Nat.le_of_ble_eq_true rfl) rfl rfl rfl ?_
      refine gv_B ok_SE_tryRule 6 rfl ?_
      obtain ⟨v17, e18, h⟩ := b1_e h
      refine hp_rd ok_SE_tryRule rfl rfl e18 ?_
      refine gv_B ok_SE_tryRule 4 rfl ?_
      obtain ⟨v19, e20, h⟩ := b1_e h
      refine hp_rd ok_SE_tryRule rfl (tg_0 hg _) e20 ?_
      obtain ⟨v22, μ23, e21, h⟩ := b2_e h
      refine gv_Vc ok_SE_tryRule rfl mk_UN_unify rfl (t_UN_unify (d := d) e21) rfl rfl (Nat.le_of_ble_eq_true rfl) rfl rfl rfl ?_
      refine gv_B ok_SE_tryRule 3 rfl ?_
      obtain ⟨n25, ac26, g27, cp28, μ29, e30, h⟩ := b5_e h
      have K31 : gv_go G M_SE_tryRule (d + 5) (.inl (some (gI r))) (hp nr ar gr cr μr) 140 [none, none, none, none, none, none, none, some (gI v22)] [] (hp n25 ac26 g27 cp28 μ29) := by
        refine gv_B ok_SE_tryRule 1 rfl ?_
        have j0 := Option.some.inj h
        obtain ⟨i1, j1⟩ := Prod.mk.inj j0
        obtain ⟨i2, j2⟩ := Prod.mk.inj j1
        obtain ⟨i3, j3⟩ := Prod.mk.inj j2
        obtain ⟨i4, j4⟩ := Prod.mk.inj j3
        obtain ⟨i5, j5⟩ := Prod.mk.inj j4
        subst i1
        subst i2
        subst i3
        subst i4
        subst i5
        subst j5
        exact gv_Ri ok_SE_tryRule rfl rfl
      clear h
      have h := e30
      clear e30
      by_cases c32 : ¬ v22 = 0
      · rw [if_pos c32] at h
        refine gv_brT c32 ?_
        have j0 := Option.some.inj h
        obtain ⟨i1, j1⟩ := Prod.mk.inj j0
        obtain ⟨i2, j2⟩ := Prod.mk.inj j1
        obtain ⟨i3, j3⟩ := Prod.mk.inj j2
        obtain ⟨i4, j4⟩ := Prod.mk.inj j3
        subst i1
        subst i2
        subst i3
        subst i4
        subst j4
        exact gv_fk K31 ⟨rfl, trivial⟩
      · rw [if_neg c32] at h
        refine gv_brF c32 ?_
        refine gv_B ok_SE_tryRule 3 rfl ?_
        obtain ⟨n34, ac35, g36, cp37, μ38, e33, h⟩ := b5_e h
        refine gv_Vc ok_SE_tryRule rfl mk_SE_bringGoals rfl (t_SE_bringGoals (d := d + 1) e33) rfl rfl (Nat.le_of_ble_eq_true rfl) rfl rfl rfl ?_
        have j0 := Option.some.inj h
        obtain ⟨i1, j1⟩ := Prod.mk.inj j0
        obtain ⟨i2, j2⟩ := Prod.mk.inj j1
        obtain ⟨i3, j3⟩ := Prod.mk.inj j2
        obtain ⟨i4, j4⟩ := Prod.mk.inj j3
        subst i1
        subst i2
        subst i3
        subst i4
        subst j4
        exact gv_fk K31 ⟨rfl, trivial⟩
    · rw [if_neg c13] at h
      refine gv_brF c13 ?_
      refine gv_B ok_SE_tryRule 6 rfl ?_
      refine gv_Sx (wp := 431) (x9 := 176) (by decide +kernel) (by decide +kernel) mk_J_jbit (t_jbit (d := d + 4)) rfl rfl (Nat.le_of_ble_eq_true rfl) ?_
      obtain ⟨v42, μ43, e41, h⟩ := b2_e h
      refine gv_Vc ok_SE_tryRule rfl mk_CO_run rfl (t_CO_run (d := d) e41) rfl rfl (Nat.le_of_ble_eq_true rfl) rfl rfl rfl ?_
      refine gv_B ok_SE_tryRule 3 rfl ?_
      obtain ⟨v46, e45, h⟩ := b1_e h
      refine gv_Vc ok_SE_tryRule rfl mk_SE_hasRoomFor rfl (t_SE_hasRoomFor (d := d + 4) e45) rfl rfl (Nat.le_of_ble_eq_true rfl) rfl rfl rfl ?_
      refine gv_B ok_SE_tryRule 1 rfl ?_
      by_cases c47 : ¬ v46 = 0
      · rw [if_pos c47] at h
        refine gv_brT c47 ?_
        refine gv_B ok_SE_tryRule 3 rfl ?_
        obtain ⟨μ49, e48, h⟩ := b1_e h
        refine gv_Vc ok_SE_tryRule rfl mk_CE_copy rfl (t_CE_copy (d := d + 2) e48) rfl rfl (Nat.le_of_ble_eq_true rfl) rfl rfl rfl ?_
        refine gv_B ok_SE_tryRule 6 rfl ?_
        obtain ⟨v51, e52, h⟩ := b1_e h
        refine hp_rd ok_SE_tryRule rfl rfl e52 ?_
        refine gv_B ok_SE_tryRule 4 rfl ?_
        obtain ⟨v53, e54, h⟩ := b1_e h
        refine hp_rd ok_SE_tryRule rfl (tg_0 hg _) e54 ?_
        obtain ⟨v56, μ57, e55, h⟩ := b2_e h
        refine gv_Vc ok_SE_tryRule rfl mk_UN_unify rfl (t_UN_unify (d := d) e55) rfl rfl (Nat.le_of_ble_eq_true rfl) rfl rfl rfl ?_
        refine gv_B ok_SE_tryRule 3 rfl ?_
        obtain ⟨n59, ac60, g61, cp62, μ63, e64, h⟩ := b5_e h
        have K65 : gv_go G M_SE_tryRule (d + 5) (.inl (some (gI r))) (hp nr ar gr cr μr) 140 [none, none, none, none, none, none, none, some (gI v56)] [] (hp n59 ac60 g61 cp62 μ63) := by
          refine gv_B ok_SE_tryRule 1 rfl ?_
          have j0 := Option.some.inj h
          obtain ⟨i1, j1⟩ := Prod.mk.inj j0
          obtain ⟨i2, j2⟩ := Prod.mk.inj j1
          obtain ⟨i3, j3⟩ := Prod.mk.inj j2
          obtain ⟨i4, j4⟩ := Prod.mk.inj j3
          obtain ⟨i5, j5⟩ := Prod.mk.inj j4
          subst i1
          subst i2
          subst i3
          subst i4
          subst i5
          subst j5
          exact gv_Ri ok_SE_tryRule rfl rfl
        clear h
        have h := e64
        clear e64
        by_cases c66 : ¬ v56 = 0
        · rw [if_pos c66] at h
          refine gv_brT c66 ?_
          have j0 := Option.some.inj h
          obtain ⟨i1, j1⟩ := Prod.mk.inj j0
          obtain ⟨i2, j2⟩ := Prod.mk.inj j1
          obtain ⟨i3, j3⟩ := Prod.mk.inj j2
          obtain ⟨i4, j4⟩ := Prod.mk.inj j3
          subst i1
          subst i2
          subst i3
          subst i4
          subst j4
          exact gv_fk K65 ⟨rfl, trivial⟩
        · rw [if_neg c66] at h
          refine gv_brF c66 ?_
          refine gv_B ok_SE_tryRule 3 rfl ?_
          obtain ⟨n68, ac69, g70, cp71, μ72, e67, h⟩ := b5_e h
          refine gv_Vc ok_SE_tryRule rfl mk_SE_bringGoals rfl (t_SE_bringGoals (d := d + 1) e67) rfl rfl (Nat.le_of_ble_eq_true rfl) rfl rfl rfl ?_
          have j0 := Option.some.inj h
          obtain ⟨i1, j1⟩ := Prod.mk.inj j0
          obtain ⟨i2, j2⟩ := Prod.mk.inj j1
          obtain ⟨i3, j3⟩ := Prod.mk.inj j2
          obtain ⟨i4, j4⟩ := Prod.mk.inj j3
          subst i1
          subst i2
          subst i3
          subst i4
          subst j4
          exact gv_fk K65 ⟨rfl, trivial⟩
      · rw [if_neg c47] at h
        refine gv_brF c47 ?_
        refine gv_B ok_SE_tryRule 1 rfl ?_
        have j0 := Option.some.inj h
        obtain ⟨i1, j1⟩ := Prod.mk.inj j0
        obtain ⟨i2, j2⟩ := Prod.mk.inj j1
        obtain ⟨i3, j3⟩ := Prod.mk.inj j2
        obtain ⟨i4, j4⟩ := Prod.mk.inj j3
        obtain ⟨i5, j5⟩ := Prod.mk.inj j4
        subst i1
        subst i2
        subst i3
        subst i4
        subst i5
        subst j5
        exact gv_Ri ok_SE_tryRule rfl rfl
  clear h
  have h := e4
  clear e4
  by_cases c6 : v2 = (-1)
  · rw [if_pos c6] at h
    refine gv_brT c6 ?_
    have h9 := Option.some.inj h
    subst h9
    exact gv_fk K5 ⟨rfl, ⟨rfl, ⟨rfl, ⟨rfl, trivial⟩⟩⟩⟩
  · rw [if_neg c6] at h
    refine gv_brF c6 ?_
    refine gv_B ok_SE_tryRule 6 rfl ?_
    obtain ⟨μ8, e7, h⟩ := b1_e h
    refine gv_Vc ok_SE_tryRule rfl mk_CH_make rfl (t_CH_make (d := d + 3) e7) rfl rfl (Nat.le_of_ble_eq_true rfl) rfl rfl rfl ?_
    have h9 := Option.some.inj h
    subst h9
    exact gv_fk K5 ⟨rfl, ⟨rfl, ⟨rfl, ⟨rfl, trivial⟩⟩⟩⟩
def f_SE_step (n : Nat) (acc : Nat × Nat) (g cap : Nat) (μ : Mu) : Option (Int32 × Nat × (Nat × Nat) × Nat × Nat × Mu) :=
  (if gPb g = true then
  (b1 (rd ((sI μ 37 12 ((μ 37 12) - 1)) (g + 2)) cap (μ 37 9)) fun v1 =>
  b1 (rd ((sI (sI (sI μ 37 12 ((μ 37 12) - 1)) 37 9 v1) 37 10 (-1)) g) cap (μ 37 9)) fun v3 =>
  if ¬ (v3 &&& 7) = 6 then
  (b1 (f_CE_nameOf v3 (sI (sI (sI μ 37 12 ((μ 37 12) - 1)) 37 9 v1) 37 10 (-1))) fun v7 =>
  if ¬ (v7 &&& 7) = 4 then
  (b1 (if ¬ (μ 37 10) = (-1) then
  some ((μ 37 10))
  else
  (b1 (f_RB_firstFor v7 0 (sI (sI (sI μ 37 12 ((μ 37 12) - 1)) 37 9 v1) 37 10 (-1))) fun v14 =>
  some (v14))) fun l9 =>
  if ¬ l9 = (-1) then
  (b6 (f_SE_tryRule n acc g cap (μ 37 9) l9 v7 (sI (sI (sI μ 37 12 ((μ 37 12) - 1)) 37 9 v1) 37 10 (-1))) fun v17 n18 ac19 g20 cp21 μ22 =>
  some (v17, n18, ac19, g20, cp21, μ22))
  else
  some (1, n, acc, g, cap, (sI (sI (sI μ 37 12 ((μ 37 12) - 1)) 37 9 v1) 37 10 (-1))))
  else
  (if (v7 >>> ((3 : Int32) &&& 31)) < 24 then
  (b1 (if ¬ (μ 37 10) = (-1) then
  some ((μ 37 10))
  else
  (b1 (f_RB_firstFor v7 0 (sI (sI (sI μ 37 12 ((μ 37 12) - 1)) 37 9 v1) 37 10 (-1))) fun v30 =>
  some (v30))) fun l25 =>
  if ¬ l25 = (-1) then
  (b6 (f_SE_tryRule n acc g cap (μ 37 9) l25 v7 (sI (sI (sI μ 37 12 ((μ 37 12) - 1)) 37 9 v1) 37 10 (-1))) fun v33 n34 ac35 g36 cp37 μ38 =>
  some (v33, n34, ac35, g36, cp37, μ38))
  else
  some (1, n, acc, g, cap, (sI (sI (sI μ 37 12 ((μ 37 12) - 1)) 37 9 v1) 37 10 (-1))))
  else
  (b1 (f_CE_argument v3 1 (sI (sI (sI μ 37 12 ((μ 37 12) - 1)) 37 9 v1) 37 10 (-1))) fun v41 =>
  b1 (f_CE_argument v3 2 (sI (sI (sI μ 37 12 ((μ 37 12) - 1)) 37 9 v1) 37 10 (-1))) fun v43 =>
  b2 (f_SE_meet (v7 >>> ((3 : Int32) &&& 31)) v41 v43 (sI (sI (sI μ 37 12 ((μ 37 12) - 1)) 37 9 v1) 37 10 (-1))) fun v45 μ46 =>
  some (v45, n, acc, g, cap, μ46))))
  else
  (b1 (rd ((sI (sI (sI μ 37 12 ((μ 37 12) - 1)) 37 9 v1) 37 10 (-1)) (g + 1)) cap (μ 37 9)) fun v48 =>
  b1 (f_CH_cutTo v48 (sI (sI (sI μ 37 12 ((μ 37 12) - 1)) 37 9 v1) 37 10 (-1))) fun μ51 =>
  some (0, n, acc, g, cap, μ51)))
  else none)
theorem t_SE_step {μ : Mu} {r : Int32} {nr : Nat} {ar : Nat × Nat} {gr cr : Nat} {μr : Mu} (h : f_SE_step n acc g cap μ = some (r, nr, ar, gr, cr, μr)) : gv_ev G (d + 36) M_SE_step [gR 37] (hp n acc g cap μ) (.inl (some (gI r))) (hp nr ar gr cr μr) := by
  unfold f_SE_step at h
  by_cases hg : gPb g = true
  rotate_left
  · rw [if_neg hg] at h
    cases h
  rw [if_pos hg] at h
  refine gv_E (ls := [some (gR 37), none, none, none, none]) (by decide) (fun h => by cases h) (Nat.le_of_ble_eq_true rfl) rfl ?_
  refine gv_B ok_SE_step 5 rfl ?_
  refine hp_pf ok_SE_step rfl rfl rfl rfl rfl (Nat.le_of_ble_eq_true rfl) rfl ?_
  refine gv_B ok_SE_step 11 rfl ?_
  obtain ⟨v1, e2, h⟩ := b1_e h
  refine hp_rd ok_SE_step rfl (tg_2 hg _) e2 ?_
  refine hp_pf ok_SE_step rfl rfl rfl rfl rfl (Nat.le_of_ble_eq_true rfl) rfl ?_
  refine gv_B ok_SE_step 2 rfl ?_
  refine hp_pf ok_SE_step rfl rfl rfl rfl rfl (Nat.le_of_ble_eq_true rfl) rfl ?_
  refine gv_B ok_SE_step 4 rfl ?_
  obtain ⟨v3, e4, h⟩ := b1_e h
  refine hp_rd ok_SE_step rfl (tg_0 hg _) e4 ?_
  refine gv_B ok_SE_step 6 rfl ?_
  by_cases c5 : ¬ (v3 &&& 7) = 6
  · rw [if_pos c5] at h
    refine gv_brT c5 ?_
    refine gv_B ok_SE_step 3 rfl ?_
    obtain ⟨v7, e6, h⟩ := b1_e h
    refine gv_Vc ok_SE_step rfl mk_CE_nameOf rfl (t_CE_nameOf (d := d + 35) e6) rfl rfl (Nat.le_of_ble_eq_true rfl) rfl rfl rfl ?_
    refine gv_B ok_SE_step 6 rfl ?_
    by_cases c8 : ¬ (v7 &&& 7) = 4
    · rw [if_pos c8] at h
      refine gv_brT c8 ?_
      refine gv_B ok_SE_step 3 rfl ?_
      obtain ⟨l9, e10, h⟩ := b1_e h
      have K11 : gv_go G M_SE_step (d + 36) (.inl (some (gI r))) (hp nr ar gr cr μr) 146 [some (gR 37), some (gI (μ 37 9)), some (gI l9), none, some (gI v7)] [] (hp n acc g cap (sI (sI (sI μ 37 12 ((μ 37 12) - 1)) 37 9 v1) 37 10 (-1))) := by
        refine gv_B ok_SE_step 3 rfl ?_
        by_cases c15 : ¬ l9 = (-1)
        · rw [if_pos c15] at h
          refine gv_brT c15 ?_
          refine gv_B ok_SE_step 4 rfl ?_
          obtain ⟨v17, n18, ac19, g20, cp21, μ22, e16, h⟩ := b6_e h
          refine gv_Vc ok_SE_step rfl mk_SE_tryRule rfl (t_SE_tryRule (d := d + 30) e16) rfl rfl (Nat.le_of_ble_eq_true rfl) rfl rfl rfl ?_
          have j0 := Option.some.inj h
          obtain ⟨i1, j1⟩ := Prod.mk.inj j0
          obtain ⟨i2, j2⟩ := Prod.mk.inj j1
          obtain ⟨i3, j3⟩ := Prod.mk.inj j2
          obtain ⟨i4, j4⟩ := Prod.mk.inj j3
          obtain ⟨i5, j5⟩ := Prod.mk.inj j4
          subst i1
          subst i2
          subst i3
          subst i4
          subst i5
          subst j5
          exact gv_Ri ok_SE_step rfl rfl
        · rw [if_neg c15] at h
          refine gv_brF c15 ?_
          refine gv_B ok_SE_step 2 rfl ?_
          have j0 := Option.some.inj h
          obtain ⟨i1, j1⟩ := Prod.mk.inj j0
          obtain ⟨i2, j2⟩ := Prod.mk.inj j1
          obtain ⟨i3, j3⟩ := Prod.mk.inj j2
          obtain ⟨i4, j4⟩ := Prod.mk.inj j3
          obtain ⟨i5, j5⟩ := Prod.mk.inj j4
          subst i1
          subst i2
          subst i3
          subst i4
          subst i5
          subst j5
          exact gv_Ri ok_SE_step rfl rfl
      clear h
      have h := e10
      clear e10
      by_cases c12 : ¬ (μ 37 10) = (-1)
      · rw [if_pos c12] at h
        refine gv_brT c12 ?_
        have h9 := Option.some.inj h
        subst h9
        exact gv_fk K11 ⟨rfl, ⟨rfl, ⟨rfl, ⟨rfl, trivial⟩⟩⟩⟩
      · rw [if_neg c12] at h
        refine gv_brF c12 ?_
        refine gv_B ok_SE_step 4 rfl ?_
        obtain ⟨v14, e13, h⟩ := b1_e h
        refine gv_Vc ok_SE_step rfl mk_RB_firstFor rfl (t_RB_firstFor (d := d + 35) e13) rfl rfl (Nat.le_of_ble_eq_true rfl) rfl rfl rfl ?_
        refine gv_B ok_SE_step 1 rfl ?_
        have h9 := Option.some.inj h
        subst h9
        exact gv_fk K11 ⟨rfl, ⟨rfl, ⟨rfl, ⟨rfl, trivial⟩⟩⟩⟩
    · rw [if_neg c8] at h
      refine gv_brF c8 ?_
      refine gv_B ok_SE_step 5 rfl ?_
      by_cases c24 : (v7 >>> ((3 : Int32) &&& 31)) < 24
      · rw [if_pos c24] at h
        refine gv_brT c24 ?_
        refine gv_B ok_SE_step 3 rfl ?_
        obtain ⟨l25, e26, h⟩ := b1_e h
        have K27 : gv_go G M_SE_step (d + 36) (.inl (some (gI r))) (hp nr ar gr cr μr) 146 [some (gR 37), some (gI (μ 37 9)), some (gI l25), none, some (gI v7)] [] (hp n acc g cap (sI (sI (sI μ 37 12 ((μ 37 12) - 1)) 37 9 v1) 37 10 (-1))) := by
          refine gv_B ok_SE_step 3 rfl ?_
          by_cases c31 : ¬ l25 = (-1)
          · rw [if_pos c31] at h
            refine gv_brT c31 ?_
            refine gv_B ok_SE_step 4 rfl ?_
            obtain ⟨v33, n34, ac35, g36, cp37, μ38, e32, h⟩ := b6_e h
            refine gv_Vc ok_SE_step rfl mk_SE_tryRule rfl (t_SE_tryRule (d := d + 30) e32) rfl rfl (Nat.le_of_ble_eq_true rfl) rfl rfl rfl ?_
            have j0 := Option.some.inj h
            obtain ⟨i1, j1⟩ := Prod.mk.inj j0
            obtain ⟨i2, j2⟩ := Prod.mk.inj j1
            obtain ⟨i3, j3⟩ := Prod.mk.inj j2
            obtain ⟨i4, j4⟩ := Prod.mk.inj j3
            obtain ⟨i5, j5⟩ := Prod.mk.inj j4
            subst i1
            subst i2
            subst i3
            subst i4
            subst i5
            subst j5
            exact gv_Ri ok_SE_step rfl rfl
          · rw [if_neg c31] at h
            refine gv_brF c31 ?_
            refine gv_B ok_SE_step 2 rfl ?_
            have j0 := Option.some.inj h
            obtain ⟨i1, j1⟩ := Prod.mk.inj j0
            obtain ⟨i2, j2⟩ := Prod.mk.inj j1
            obtain ⟨i3, j3⟩ := Prod.mk.inj j2
            obtain ⟨i4, j4⟩ := Prod.mk.inj j3
            obtain ⟨i5, j5⟩ := Prod.mk.inj j4
            subst i1
            subst i2
            subst i3
            subst i4
            subst i5
            subst j5
            exact gv_Ri ok_SE_step rfl rfl
        clear h
        have h := e26
        clear e26
        by_cases c28 : ¬ (μ 37 10) = (-1)
        · rw [if_pos c28] at h
          refine gv_brT c28 ?_
          have h9 := Option.some.inj h
          subst h9
          exact gv_fk K27 ⟨rfl, ⟨rfl, ⟨rfl, ⟨rfl, trivial⟩⟩⟩⟩
        · rw [if_neg c28] at h
          refine gv_brF c28 ?_
          refine gv_B ok_SE_step 4 rfl ?_
          obtain ⟨v30, e29, h⟩ := b1_e h
          refine gv_Vc ok_SE_step rfl mk_RB_firstFor rfl (t_RB_firstFor (d := d + 35) e29) rfl rfl (Nat.le_of_ble_eq_true rfl) rfl rfl rfl ?_
          refine gv_B ok_SE_step 1 rfl ?_
          have h9 := Option.some.inj h
          subst h9
          exact gv_fk K27 ⟨rfl, ⟨rfl, ⟨rfl, ⟨rfl, trivial⟩⟩⟩⟩
      · rw [if_neg c24] at h
        refine gv_brF c24 ?_
        refine gv_B ok_SE_step 8 rfl ?_
        obtain ⟨v41, e40, h⟩ := b1_e h
        refine gv_Vc ok_SE_step rfl mk_CE_argument rfl (t_CE_argument (d := d + 35) e40) rfl rfl (Nat.le_of_ble_eq_true rfl) rfl rfl rfl ?_
        refine gv_B ok_SE_step 4 rfl ?_
        obtain ⟨v43, e42, h⟩ := b1_e h
        refine gv_Vc ok_SE_step rfl mk_CE_argument rfl (t_CE_argument (d := d + 35) e42) rfl rfl (Nat.le_of_ble_eq_true rfl) rfl rfl rfl ?_
        obtain ⟨v45, μ46, e44, h⟩ := b2_e h
        refine gv_Vc ok_SE_step rfl mk_SE_meet rfl (t_SE_meet (d := d) e44) rfl rfl (Nat.le_of_ble_eq_true rfl) rfl rfl rfl ?_
        have j0 := Option.some.inj h
        obtain ⟨i1, j1⟩ := Prod.mk.inj j0
        obtain ⟨i2, j2⟩ := Prod.mk.inj j1
        obtain ⟨i3, j3⟩ := Prod.mk.inj j2
        obtain ⟨i4, j4⟩ := Prod.mk.inj j3
        obtain ⟨i5, j5⟩ := Prod.mk.inj j4
        subst i1
        subst i2
        subst i3
        subst i4
        subst i5
        subst j5
        exact gv_Ri ok_SE_step rfl rfl
  · rw [if_neg c5] at h
    refine gv_brF c5 ?_
    refine gv_B ok_SE_step 6 rfl ?_
    obtain ⟨v48, e49, h⟩ := b1_e h
    refine hp_rd ok_SE_step rfl (tg_1 hg _) e49 ?_
    obtain ⟨μ51, e50, h⟩ := b1_e h
    refine gv_Vc ok_SE_step rfl mk_CH_cutTo rfl (t_CH_cutTo (d := d + 35) e50) rfl rfl (Nat.le_of_ble_eq_true rfl) rfl rfl rfl ?_
    refine gv_B ok_SE_step 1 rfl ?_
    have j0 := Option.some.inj h
    obtain ⟨i1, j1⟩ := Prod.mk.inj j0
    obtain ⟨i2, j2⟩ := Prod.mk.inj j1
    obtain ⟨i3, j3⟩ := Prod.mk.inj j2
    obtain ⟨i4, j4⟩ := Prod.mk.inj j3
    obtain ⟨i5, j5⟩ := Prod.mk.inj j4
    subst i1
    subst i2
    subst i3
    subst i4
    subst i5
    subst j5
    exact gv_Ri ok_SE_step rfl rfl
end FNG
