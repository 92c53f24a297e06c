/-! methods as functions of the numbers (written by wip/tools/genf.py, mkf.py) -/
section FNO
variable {G : gv_G} {d n g cap : Nat} {acc : Nat × Nat}
def f_CO_moved (x0 : Int32) (μ : Mu) : Option (Int32) :=
  (if (x0 &&& 7) = 0 then
  (b1 (rd (μ 65) 241 (x0 >>> ((3 : Int32) &&& 31))) fun v2 =>
  some (((v2 <<< ((3 : Int32) &&& 31)) ||| (x0 &&& 7))))
  else
  (if (x0 &&& 7) = 7 then
  (b1 (rd (μ 65) 241 (x0 >>> ((3 : Int32) &&& 31))) fun v5 =>
  some (((v5 <<< ((3 : Int32) &&& 31)) ||| (x0 &&& 7))))
  else
  some (x0)))
theorem t_CO_moved {x0 : Int32} {μ : Mu} {r : Int32} (h : f_CO_moved x0 μ = some (r)) : gv_ev G (d + 0) M_CO_moved [gR 64, gI x0] (hp n acc g cap μ) (.inl (some (gI r))) (hp n acc g cap μ) := by
  unfold f_CO_moved at h
  refine gv_E (ls := [some (gR 64), some (gI x0), none]) (by decide) (fun h => by cases h) (Nat.le_of_ble_eq_true rfl) rfl ?_
  refine gv_B ok_CO_moved 6 rfl ?_
  by_cases c1 : (x0 &&& 7) = 0
  · rw [if_pos c1] at h
    refine gv_brT c1 ?_
    refine gv_B ok_CO_moved 5 rfl ?_
    obtain ⟨v2, e3, h⟩ := b1_e h
    refine hp_rd ok_CO_moved rfl rfl e3 ?_
    refine gv_B ok_CO_moved 4 rfl ?_
    have h9 := Option.some.inj h
    subst h9
    exact gv_Ri ok_CO_moved rfl rfl
  · rw [if_neg c1] at h
    refine gv_brF c1 ?_
    refine gv_B ok_CO_moved 3 rfl ?_
    by_cases c4 : (x0 &&& 7) = 7
    · rw [if_pos c4] at h
      refine gv_brT c4 ?_
      refine gv_B ok_CO_moved 5 rfl ?_
      obtain ⟨v5, e6, h⟩ := b1_e h
      refine hp_rd ok_CO_moved rfl rfl e6 ?_
      refine gv_B ok_CO_moved 4 rfl ?_
      have h9 := Option.some.inj h
      subst h9
      exact gv_Ri ok_CO_moved rfl rfl
    · rw [if_neg c4] at h
      refine gv_brF c4 ?_
      refine gv_B ok_CO_moved 1 rfl ?_
      have h9 := Option.some.inj h
      subst h9
      exact gv_Ri ok_CO_moved rfl rfl
def f_CO_dropNeedlessTrail_17 (k1 : Int32) (k3 : Int32) : Nat → Int32 → Mu → Option (Int32 × Mu)
  | 0, _, _ => none
  | f + 1, y2, μ =>
    (if (μ 58 5) ≤ y2 then
    some (y2, μ)
    else
    (b1 (rd (μ 62) 300 y2) fun v3 =>
    if k3 < v3 then
    some (y2, μ)
    else
    (b1 (wr μ 62 300 y2 k1) fun μ6 =>
    f_CO_dropNeedlessTrail_17 k1 k3 f (y2 + 1) μ6)))
def f_CO_dropNeedlessTrail_6 : Nat → Int32 → Int32 → Int32 → Mu → Option (Int32 × Mu)
  | 0, _, _, _, _ => none
  | f + 1, y1, y2, y3, μ =>
    (if (μ 40 3) < y3 then
    some (y1, μ)
    else
    (b2 (f_CO_dropNeedlessTrail_17 y1 y3 fu y2 μ) fun l9 μ10 =>
    b2 (if (μ10 40 3) ≤ y3 then
    some (y1, μ10)
    else
    (if l9 ≤ 0 then
    some (y1, μ10)
    else
    (b1 (rd (μ10 42) 240 y3) fun v20 =>
    b1 (rd (μ10 61) 300 (l9 - 1)) fun v22 =>
    if v22 ≤ (v20 >>> ((3 : Int32) &&& 31)) then
    some (y1, μ10)
    else
    (b1 (rd (μ10 42) 240 y3) fun v25 =>
    b1 (wr μ10 42 240 y1 v25) fun μ27 =>
    some ((y1 + 1), μ27))))) fun l14 μ15 =>
    f_CO_dropNeedlessTrail_6 f l14 l9 (y3 + 1) μ15))
def f_CO_dropNeedlessTrail (μ : Mu) : Option (Mu) :=
  (b2 (f_CO_dropNeedlessTrail_6 fu 0 0 0 μ) fun l31 μ32 =>
  some ((sI μ32 40 3 l31)))
theorem t_CO_dropNeedlessTrail_17 {r : gv_O} {hf : gv_H} {k1 : Int32} {k3 : Int32} (fl : Nat) : ∀ {y2 : Int32} {μ : Mu} {z2 : Int32} {μz : Mu}, f_CO_dropNeedlessTrail_17 k1 k3 fl y2 μ = some (z2, μz) → gv_go G M_CO_dropNeedlessTrail (d + 0) r hf 57 [some (gR 64), some (gI k1), some (gI z2), some (gI k3)] [] (hp n acc g cap μz) → gv_go G M_CO_dropNeedlessTrail (d + 0) r hf 17 [some (gR 64), some (gI k1), some (gI y2), some (gI k3)] [] (hp n acc g cap μ) := by
  induction fl with
  | zero => intro _ _ _ _ h _; cases h
  | succ f ih =>
    intro y2 μ z2 μz h KJ
    unfold f_CO_dropNeedlessTrail_17 at h
    refine gv_B ok_CO_dropNeedlessTrail 5 rfl ?_
    by_cases c2 : (μ 58 5) ≤ y2
    · rw [if_pos c2] at h
      refine gv_brT c2 ?_
      have j0 := Option.some.inj h
      obtain ⟨i1, j1⟩ := Prod.mk.inj j0
      subst i1
      subst j1
      exact KJ
    · rw [if_neg c2] at h
      refine gv_brF c2 ?_
      refine gv_B ok_CO_dropNeedlessTrail 4 rfl ?_
      obtain ⟨v3, e4, h⟩ := b1_e h
      refine hp_rd ok_CO_dropNeedlessTrail rfl rfl e4 ?_
      refine gv_B ok_CO_dropNeedlessTrail 2 rfl ?_
      by_cases c5 : k3 < v3
      · rw [if_pos c5] at h
        refine gv_brT c5 ?_
        have j0 := Option.some.inj h
        obtain ⟨i1, j1⟩ := Prod.mk.inj j0
        subst i1
        subst j1
        exact KJ
      · rw [if_neg c5] at h
        refine gv_brF c5 ?_
        refine gv_B ok_CO_dropNeedlessTrail 5 rfl ?_
        obtain ⟨μ6, e7, h⟩ := b1_e h
        refine hp_wr ok_CO_dropNeedlessTrail rfl rfl rfl rfl e7 ?_
        refine gv_B ok_CO_dropNeedlessTrail 2 rfl ?_
        exact ih h KJ
theorem t_CO_dropNeedlessTrail_6 {r : gv_O} {hf : gv_H} (fl : Nat) : ∀ {y1 : Int32} {y2 : Int32} {y3 : Int32} {μ : Mu} {z1 : Int32} {μz : Mu}, f_CO_dropNeedlessTrail_6 fl y1 y2 y3 μ = some (z1, μz) → gv_go G M_CO_dropNeedlessTrail (d + 0) r hf 124 [some (gR 64), some (gI z1), none, none] [] (hp n acc g cap μz) → gv_go G M_CO_dropNeedlessTrail (d + 0) r hf 6 [some (gR 64), some (gI y1), some (gI y2), some (gI y3)] [] (hp n acc g cap μ) := by
  induction fl with
  | zero => intro _ _ _ _ _ _ h _; cases h
  | succ f ih =>
    intro y1 y2 y3 μ z1 μz h KJ
    unfold f_CO_dropNeedlessTrail_6 at h
    refine gv_B ok_CO_dropNeedlessTrail 5 rfl ?_
    by_cases c1 : (μ 40 3) < y3
    · rw [if_pos c1] at h
      refine gv_brT c1 ?_
      have j0 := Option.some.inj h
      obtain ⟨i1, j1⟩ := Prod.mk.inj j0
      subst i1
      subst j1
      exact gv_fk KJ ⟨rfl, ⟨rfl, trivial⟩⟩
    · rw [if_neg c1] at h
      refine gv_brF c1 ?_
      obtain ⟨l9, μ10, e11, h⟩ := b2_e h
      have K12 : gv_go G M_CO_dropNeedlessTrail (d + 0) r hf 57 [some (gR 64), some (gI y1), some (gI l9), some (gI y3)] [] (hp n acc g cap μ10) := by
        refine gv_B ok_CO_dropNeedlessTrail 5 rfl ?_
        obtain ⟨l14, μ15, e16, h⟩ := b2_e h
        have K17 : gv_go G M_CO_dropNeedlessTrail (d + 0) r hf 118 [some (gR 64), some (gI l14), some (gI l9), some (gI y3)] [] (hp n acc g cap μ15) := by
          refine gv_B ok_CO_dropNeedlessTrail 2 rfl ?_
          exact ih h KJ
        clear h
        have h := e16
        clear e16
        by_cases c18 : (μ10 40 3) ≤ y3
        · rw [if_pos c18] at h
          refine gv_brT c18 ?_
          have j0 := Option.some.inj h
          obtain ⟨i1, j1⟩ := Prod.mk.inj j0
          subst i1
          subst j1
          exact K17
        · rw [if_neg c18] at h
          refine gv_brF c18 ?_
          refine gv_B ok_CO_dropNeedlessTrail 2 rfl ?_
          by_cases c19 : l9 ≤ 0
          · rw [if_pos c19] at h
            refine gv_brT c19 ?_
            have j0 := Option.some.inj h
            obtain ⟨i1, j1⟩ := Prod.mk.inj j0
            subst i1
            subst j1
            exact K17
          · rw [if_neg c19] at h
            refine gv_brF c19 ?_
            refine gv_B ok_CO_dropNeedlessTrail 4 rfl ?_
            obtain ⟨v20, e21, h⟩ := b1_e h
            refine hp_rd ok_CO_dropNeedlessTrail rfl rfl e21 ?_
            refine gv_B ok_CO_dropNeedlessTrail 8 rfl ?_
            obtain ⟨v22, e23, h⟩ := b1_e h
            refine hp_rd ok_CO_dropNeedlessTrail rfl rfl e23 ?_
            refine gv_B ok_CO_dropNeedlessTrail 1 rfl ?_
            by_cases c24 : v22 ≤ (v20 >>> ((3 : Int32) &&& 31))
            · rw [if_pos c24] at h
              refine gv_brT c24 ?_
              have j0 := Option.some.inj h
              obtain ⟨i1, j1⟩ := Prod.mk.inj j0
              subst i1
              subst j1
              exact K17
            · rw [if_neg c24] at h
              refine gv_brF c24 ?_
              refine gv_B ok_CO_dropNeedlessTrail 8 rfl ?_
              obtain ⟨v25, e26, h⟩ := b1_e h
              refine hp_rd ok_CO_dropNeedlessTrail rfl rfl e26 ?_
              obtain ⟨μ27, e28, h⟩ := b1_e h
              refine hp_wr ok_CO_dropNeedlessTrail rfl rfl rfl rfl e28 ?_
              refine gv_B ok_CO_dropNeedlessTrail 1 rfl ?_
              have j0 := Option.some.inj h
              obtain ⟨i1, j1⟩ := Prod.mk.inj j0
              subst i1
              subst j1
              exact K17
      exact t_CO_dropNeedlessTrail_17 _ e11 K12
theorem t_CO_dropNeedlessTrail {μ : Mu} {μr : Mu} (h : f_CO_dropNeedlessTrail μ = some (μr)) : gv_ev G (d + 0) M_CO_dropNeedlessTrail [gR 64] (hp n acc g cap μ) (.inl none) (hp n acc g cap μr) := by
  unfold f_CO_dropNeedlessTrail at h
  refine gv_E (ls := [some (gR 64), none, none, none]) (by decide) (fun h => by cases h) (Nat.le_of_ble_eq_true rfl) rfl ?_
  refine gv_B ok_CO_dropNeedlessTrail 6 rfl ?_
  obtain ⟨l31, μ32, e33, h⟩ := b2_e h
  have K34 : gv_go G M_CO_dropNeedlessTrail (d + 0) (.inl none) (hp n acc g cap μr) 124 [some (gR 64), some (gI l31), none, none] [] (hp n acc g cap μ32) := by
    refine gv_B ok_CO_dropNeedlessTrail 3 rfl ?_
    refine hp_pf ok_CO_dropNeedlessTrail rfl rfl rfl rfl rfl (Nat.le_of_ble_eq_true rfl) rfl ?_
    have h9 := Option.some.inj h
    subst h9
    exact gv_Rv ok_CO_dropNeedlessTrail rfl rfl
  exact t_CO_dropNeedlessTrail_6 _ e33 K34
def f_CO_traceGoals_4 (g cap : Nat) : Nat → Int32 → Int32 → Mu → Option (Mu)
  | 0, _, _, _ => none
  | f + 1, y2, y3, μ =>
    (if 9030 ≤ y3 then
    some (μ)
    else
    (if y2 < 0 then
    some (μ)
    else
    (b1 (rd (μ (g + 3)) cap y2) fun v3 =>
    if ¬ v3 = 0 then
    some (μ)
    else
    (b1 (wz μ (g + 3) cap y2 1) fun μ6 =>
    b1 (rd (μ6 g) cap y2) fun v9 =>
    b1 (if ¬ (v9 &&& 7) = 7 then
    some (μ6)
    else
    (b1 (f_TR_trace v9 μ6) fun μ16 =>
    some (μ16))) fun μ11 =>
    b1 (rd (μ11 (g + 2)) cap y2) fun v19 =>
    f_CO_traceGoals_4 g cap f v19 (y3 + 1) μ11))))
def f_CO_traceGoals (g cap : Nat) (x0 : Int32) (μ : Mu) : Option (Mu) :=
  (if gPb g = true then
  (b1 (f_CO_traceGoals_4 g cap fu x0 0 μ) fun μ21 =>
  some (μ21))
  else none)
theorem t_CO_traceGoals_4 {r : gv_O} {hf : gv_H} (hg : gPb g = true) (fl : Nat) : ∀ {y2 : Int32} {y3 : Int32} {μ : Mu} {μz : Mu}, f_CO_traceGoals_4 g cap fl y2 y3 μ = some (μz) → gv_go G M_CO_traceGoals (d + 2) r hf 83 [none, none, none, none, none] [] (hp n acc g cap μz) → gv_go G M_CO_traceGoals (d + 2) r hf 4 [some (gR 64), none, some (gI y2), some (gI y3), none] [] (hp n acc g cap μ) := by
  induction fl with
  | zero => intro _ _ _ _ h _; cases h
  | succ f ih =>
    intro y2 y3 μ μz h KJ
    unfold f_CO_traceGoals_4 at h
    refine gv_B ok_CO_traceGoals 3 rfl ?_
    by_cases c1 : 9030 ≤ y3
    · rw [if_pos c1] at h
      refine gv_brT c1 ?_
      have h9 := Option.some.inj h
      subst h9
      exact gv_fk KJ trivial
    · rw [if_neg c1] at h
      refine gv_brF c1 ?_
      refine gv_B ok_CO_traceGoals 2 rfl ?_
      by_cases c2 : y2 < 0
      · rw [if_pos c2] at h
        refine gv_brT c2 ?_
        have h9 := Option.some.inj h
        subst h9
        exact gv_fk KJ trivial
      · rw [if_neg c2] at h
        refine gv_brF c2 ?_
        refine gv_B ok_CO_traceGoals 4 rfl ?_
        obtain ⟨v3, e4, h⟩ := b1_e h
        refine hp_rz ok_CO_traceGoals rfl (tg_3 hg _) e4 ?_
        refine gv_B ok_CO_traceGoals 1 rfl ?_
        by_cases c5 : ¬ v3 = 0
        · rw [if_pos c5] at h
          refine gv_brT c5 ?_
          have h9 := Option.some.inj h
          subst h9
          exact gv_fk KJ trivial
        · rw [if_neg c5] at h
          refine gv_brF c5 ?_
          refine gv_B ok_CO_traceGoals 5 rfl ?_
          obtain ⟨μ6, e7, h⟩ := b1_e h
          refine hp_wz ok_CO_traceGoals rfl rfl (tg_3 hg _) (tg_3 hg _) e7 ?_
          refine gv_B ok_CO_traceGoals 4 rfl ?_
          obtain ⟨v9, e10, h⟩ := b1_e h
          refine hp_rd ok_CO_traceGoals rfl (tg_0 hg _) e10 ?_
          refine gv_B ok_CO_traceGoals 6 rfl ?_
          obtain ⟨μ11, e12, h⟩ := b1_e h
          have K13 : gv_go G M_CO_traceGoals (d + 2) r hf 67 [some (gR 64), none, some (gI y2), some (gI y3), none] [] (hp n acc g cap μ11) := by
            refine gv_B ok_CO_traceGoals 4 rfl ?_
            obtain ⟨v19, e20, h⟩ := b1_e h
            refine hp_rd ok_CO_traceGoals rfl (tg_2 hg _) e20 ?_
            refine gv_B ok_CO_traceGoals 3 rfl ?_
            exact ih h KJ
          clear h
          have h := e12
          clear e12
          by_cases c14 : ¬ (v9 &&& 7) = 7
          · rw [if_pos c14] at h
            refine gv_brT c14 ?_
            have h9 := Option.some.inj h
            subst h9
            exact gv_fk K13 ⟨rfl, ⟨rfl, ⟨rfl, trivial⟩⟩⟩
          · rw [if_neg c14] at h
            refine gv_brF c14 ?_
            refine gv_B ok_CO_traceGoals 3 rfl ?_
            obtain ⟨μ16, e15, h⟩ := b1_e h
            refine gv_Vc ok_CO_traceGoals rfl mk_TR_trace rfl (t_TR_trace (d := d) e15) rfl rfl (Nat.le_of_ble_eq_true rfl) rfl rfl rfl ?_
            have h9 := Option.some.inj h
            subst h9
            exact gv_fk K13 ⟨rfl, ⟨rfl, ⟨rfl, trivial⟩⟩⟩
theorem t_CO_traceGoals {x0 : Int32} {μ : Mu} {μr : Mu} (h : f_CO_traceGoals g cap x0 μ = some (μr)) : gv_ev G (d + 2) M_CO_traceGoals [gR 64, gI x0] (hp n acc g cap μ) (.inl none) (hp n acc g cap μr) := by
  unfold f_CO_traceGoals at h
  by_cases hg : gPb g = true
  rotate_left
  · rw [if_neg hg] at h
    cases h
  rw [if_pos hg] at h
  refine gv_E (ls := [some (gR 64), some (gI x0), none, none, none]) (by decide) (fun h => by cases h) (Nat.le_of_ble_eq_true rfl) rfl ?_
  refine gv_B ok_CO_traceGoals 4 rfl ?_
  obtain ⟨μ21, e22, h⟩ := b1_e h
  have K23 : gv_go G M_CO_traceGoals (d + 2) (.inl none) (hp n acc g cap μr) 83 [none, none, none, none, none] [] (hp n acc g cap μ21) := by
    have h9 := Option.some.inj h
    subst h9
    exact gv_Rv ok_CO_traceGoals rfl rfl
  exact gv_fk (t_CO_traceGoals_4 hg _ e22 K23) ⟨rfl, ⟨rfl, ⟨rfl, trivial⟩⟩⟩
def f_CO_traceLive_9 (g cap : Nat) (k1 : Int32) (k2 : Int32) : Nat → Int32 → Mu → Option (Mu)
  | 0, _, _ => none
  | f + 1, y3, μ =>
    (if k2 ≤ y3 then
    some (μ)
    else
    (b1 (f_TR_trace (y3 <<< ((3 : Int32) &&& 31)) μ) fun μ6 =>
    f_CO_traceLive_9 g cap k1 k2 f (y3 + 1) μ6))
def f_CO_traceLive_32 (g cap : Nat) (k1 : Int32) : Nat → Int32 → Mu → Option (Mu)
  | 0, _, _ => none
  | f + 1, y3, μ =>
    (if (μ 40 3) ≤ y3 then
    some (μ)
    else
    (b1 (rd (μ 42) 240 y3) fun v13 =>
    b1 (f_TR_trace v13 μ) fun μ16 =>
    f_CO_traceLive_32 g cap k1 f (y3 + 1) μ16))
def f_CO_traceLive_67 (g cap : Nat) (k1 : Int32) : Nat → Int32 → Mu → Option (Mu)
  | 0, _, _ => none
  | f + 1, y3, μ =>
    (if (μ 58 5) ≤ y3 then
    some (μ)
    else
    (b1 (rd (μ 59) 300 y3) fun v23 =>
    b1 (f_CO_traceGoals g cap v23 μ) fun μ26 =>
    f_CO_traceLive_67 g cap k1 f (y3 + 1) μ26))
def f_CO_traceLive (g cap : Nat) (x0 : Int32) (x1 : Int32) (μ : Mu) : Option (Mu) :=
  (b1 (f_TR_forget μ) fun μ2 =>
  b1 (f_CO_traceLive_9 g cap x0 x1 fu 0 μ2) fun μ8 =>
  b1 (f_CO_traceLive_32 g cap x0 fu 0 μ8) fun μ18 =>
  b1 (f_CO_traceLive_67 g cap x0 fu 0 μ18) fun μ28 =>
  b1 (f_CO_traceGoals g cap x0 μ28) fun μ33 =>
  some (μ33))
theorem t_CO_traceLive_9 {r : gv_O} {hf : gv_H} {k1 : Int32} {k2 : Int32} (fl : Nat) : ∀ {y3 : Int32} {μ : Mu} {μz : Mu}, f_CO_traceLive_9 g cap k1 k2 fl y3 μ = some (μz) → gv_go G M_CO_traceLive (d + 3) r hf 30 [some (gR 64), some (gI k1), none, none] [] (hp n acc g cap μz) → gv_go G M_CO_traceLive (d + 3) r hf 9 [some (gR 64), some (gI k1), some (gI k2), some (gI y3)] [] (hp n acc g cap μ) := by
  induction fl with
  | zero => intro _ _ _ h _; cases h
  | succ f ih =>
    intro y3 μ μz h KJ
    unfold f_CO_traceLive_9 at h
    refine gv_B ok_CO_traceLive 3 rfl ?_
    by_cases c4 : k2 ≤ y3
    · rw [if_pos c4] at h
      refine gv_brT c4 ?_
      have h9 := Option.some.inj h
      subst h9
      exact gv_fk KJ ⟨rfl, ⟨rfl, trivial⟩⟩
    · rw [if_neg c4] at h
      refine gv_brF c4 ?_
      refine gv_B ok_CO_traceLive 5 rfl ?_
      obtain ⟨μ6, e5, h⟩ := b1_e h
      refine gv_Vc ok_CO_traceLive rfl mk_TR_trace rfl (t_TR_trace (d := d + 1) e5) rfl rfl (Nat.le_of_ble_eq_true rfl) rfl rfl rfl ?_
      refine gv_B ok_CO_traceLive 2 rfl ?_
      exact ih h KJ
theorem t_CO_traceLive_32 {r : gv_O} {hf : gv_H} {k1 : Int32} (fl : Nat) : ∀ {y3 : Int32} {μ : Mu} {μz : Mu}, f_CO_traceLive_32 g cap k1 fl y3 μ = some (μz) → gv_go G M_CO_traceLive (d + 3) r hf 65 [some (gR 64), some (gI k1), none, none] [] (hp n acc g cap μz) → gv_go G M_CO_traceLive (d + 3) r hf 32 [some (gR 64), some (gI k1), none, some (gI y3)] [] (hp n acc g cap μ) := by
  induction fl with
  | zero => intro _ _ _ h _; cases h
  | succ f ih =>
    intro y3 μ μz h KJ
    unfold f_CO_traceLive_32 at h
    refine gv_B ok_CO_traceLive 5 rfl ?_
    by_cases c12 : (μ 40 3) ≤ y3
    · rw [if_pos c12] at h
      refine gv_brT c12 ?_
      have h9 := Option.some.inj h
      subst h9
      exact gv_fk KJ ⟨rfl, ⟨rfl, trivial⟩⟩
    · rw [if_neg c12] at h
      refine gv_brF c12 ?_
      refine gv_B ok_CO_traceLive 6 rfl ?_
      obtain ⟨v13, e14, h⟩ := b1_e h
      refine hp_rd ok_CO_traceLive rfl rfl e14 ?_
      obtain ⟨μ16, e15, h⟩ := b1_e h
      refine gv_Vc ok_CO_traceLive rfl mk_TR_trace rfl (t_TR_trace (d := d + 1) e15) rfl rfl (Nat.le_of_ble_eq_true rfl) rfl rfl rfl ?_
      refine gv_B ok_CO_traceLive 2 rfl ?_
      exact ih h KJ
theorem t_CO_traceLive_67 {r : gv_O} {hf : gv_H} {k1 : Int32} (fl : Nat) : ∀ {y3 : Int32} {μ : Mu} {μz : Mu}, f_CO_traceLive_67 g cap k1 fl y3 μ = some (μz) → gv_go G M_CO_traceLive (d + 3) r hf 97 [some (gR 64), some (gI k1), none, none] [] (hp n acc g cap μz) → gv_go G M_CO_traceLive (d + 3) r hf 67 [some (gR 64), some (gI k1), none, some (gI y3)] [] (hp n acc g cap μ) := by
  induction fl with
  | zero => intro _ _ _ h _; cases h
  | succ f ih =>
    intro y3 μ μz h KJ
    unfold f_CO_traceLive_67 at h
    refine gv_B ok_CO_traceLive 5 rfl ?_
    by_cases c22 : (μ 58 5) ≤ y3
    · rw [if_pos c22] at h
      refine gv_brT c22 ?_
      have h9 := Option.some.inj h
      subst h9
      exact gv_fk KJ ⟨rfl, ⟨rfl, trivial⟩⟩
    · rw [if_neg c22] at h
      refine gv_brF c22 ?_
      refine gv_B ok_CO_traceLive 5 rfl ?_
      obtain ⟨v23, e24, h⟩ := b1_e h
      refine hp_rd ok_CO_traceLive rfl rfl e24 ?_
      obtain ⟨μ26, e25, h⟩ := b1_e h
      refine gv_Vc ok_CO_traceLive rfl mk_CO_traceGoals rfl (t_CO_traceGoals (d := d) e25) rfl rfl (Nat.le_of_ble_eq_true rfl) rfl rfl rfl ?_
      refine gv_B ok_CO_traceLive 2 rfl ?_
      exact ih h KJ
theorem t_CO_traceLive {x0 : Int32} {x1 : Int32} {μ : Mu} {μr : Mu} (h : f_CO_traceLive g cap x0 x1 μ = some (μr)) : gv_ev G (d + 3) M_CO_traceLive [gR 64, gI x0, gI x1] (hp n acc g cap μ) (.inl none) (hp n acc g cap μr) := by
  unfold f_CO_traceLive at h
  refine gv_E (ls := [some (gR 64), some (gI x0), some (gI x1), none]) (by decide) (fun h => by cases h) (Nat.le_of_ble_eq_true rfl) rfl ?_
  refine gv_B ok_CO_traceLive 2 rfl ?_
  obtain ⟨μ2, e1, h⟩ := b1_e h
  refine gv_Vc ok_CO_traceLive rfl mk_TR_forget rfl (t_TR_forget (d := d + 2) e1) rfl rfl (Nat.le_of_ble_eq_true rfl) rfl rfl rfl ?_
  refine gv_B ok_CO_traceLive 2 rfl ?_
  obtain ⟨μ8, e9, h⟩ := b1_e h
  have K10 : gv_go G M_CO_traceLive (d + 3) (.inl none) (hp n acc g cap μr) 30 [some (gR 64), some (gI x0), none, none] [] (hp n acc g cap μ8) := by
    refine gv_B ok_CO_traceLive 2 rfl ?_
    obtain ⟨μ18, e19, h⟩ := b1_e h
    have K20 : gv_go G M_CO_traceLive (d + 3) (.inl none) (hp n acc g cap μr) 65 [some (gR 64), some (gI x0), none, none] [] (hp n acc g cap μ18) := by
      refine gv_B ok_CO_traceLive 2 rfl ?_
      obtain ⟨μ28, e29, h⟩ := b1_e h
      have K30 : gv_go G M_CO_traceLive (d + 3) (.inl none) (hp n acc g cap μr) 97 [some (gR 64), some (gI x0), none, none] [] (hp n acc g cap μ28) := by
        refine gv_B ok_CO_traceLive 2 rfl ?_
        obtain ⟨μ33, e32, h⟩ := b1_e h
        refine gv_Vc ok_CO_traceLive rfl mk_CO_traceGoals rfl (t_CO_traceGoals (d := d) e32) rfl rfl (Nat.le_of_ble_eq_true rfl) rfl rfl rfl ?_
        have h9 := Option.some.inj h
        subst h9
        exact gv_Rv ok_CO_traceLive rfl rfl
      exact t_CO_traceLive_67 _ e29 K30
    exact t_CO_traceLive_32 _ e19 K20
  exact t_CO_traceLive_9 _ e9 K10
def f_CO_findNewPlaces_4 : Nat → Int32 → Int32 → Mu → Option (Int32 × Mu)
  | 0, _, _, _ => none
  | f + 1, y1, y3, μ =>
    (if (μ 40 1) ≤ y3 then
    some (y1, μ)
    else
    (b1 (rd (μ 41) 240 y3) fun v2 =>
    b1 (f_GE_argumentsOf v2 μ) fun v5 =>
    b1 (wr μ 65 241 y3 y1) fun μ6 =>
    b1 (f_TR_hasReached y3 μ6) fun v10 =>
    b1 (if v10 = 0 then
    some (y1)
    else
    some ((y1 + (1 + v5)))) fun l11 =>
    f_CO_findNewPlaces_4 f l11 (y3 + (1 + v5)) μ6))
def f_CO_findNewPlaces (μ : Mu) : Option (Mu) :=
  (b2 (f_CO_findNewPlaces_4 fu 0 0 μ) fun l15 μ16 =>
  b1 (wr μ16 65 241 (μ16 40 1) l15) fun μ20 =>
  some (μ20))
theorem t_CO_findNewPlaces_4 {r : gv_O} {hf : gv_H} (fl : Nat) : ∀ {y1 : Int32} {y3 : Int32} {μ : Mu} {z1 : Int32} {μz : Mu}, f_CO_findNewPlaces_4 fl y1 y3 μ = some (z1, μz) → gv_go G M_CO_findNewPlaces (d + 1) r hf 59 [some (gR 64), some (gI z1), none, none] [] (hp n acc g cap μz) → gv_go G M_CO_findNewPlaces (d + 1) r hf 4 [some (gR 64), some (gI y1), none, some (gI y3)] [] (hp n acc g cap μ) := by
  induction fl with
  | zero => intro _ _ _ _ _ h _; cases h
  | succ f ih =>
    intro y1 y3 μ z1 μz h KJ
    unfold f_CO_findNewPlaces_4 at h
    refine gv_B ok_CO_findNewPlaces 5 rfl ?_
    by_cases c1 : (μ 40 1) ≤ y3
    · rw [if_pos c1] at h
      refine gv_brT c1 ?_
      have j0 := Option.some.inj h
      obtain ⟨i1, j1⟩ := Prod.mk.inj j0
      subst i1
      subst j1
      exact gv_fk KJ ⟨rfl, ⟨rfl, trivial⟩⟩
    · rw [if_neg c1] at h
      refine gv_brF c1 ?_
      refine gv_B ok_CO_findNewPlaces 5 rfl ?_
      obtain ⟨v2, e3, h⟩ := b1_e h
      refine hp_rd ok_CO_findNewPlaces rfl rfl e3 ?_
      obtain ⟨v5, e4, h⟩ := b1_e h
      refine gv_Sc ok_CO_findNewPlaces rfl mk_GE_argumentsOf rfl (t_GE_argumentsOf (d := d) e4) rfl rfl (Nat.le_of_ble_eq_true rfl)  ?_
      refine gv_B ok_CO_findNewPlaces 6 rfl ?_
      obtain ⟨μ6, e7, h⟩ := b1_e h
      refine hp_wr ok_CO_findNewPlaces rfl rfl rfl rfl e7 ?_
      refine gv_B ok_CO_findNewPlaces 3 rfl ?_
      obtain ⟨v10, e9, h⟩ := b1_e h
      refine gv_Vc ok_CO_findNewPlaces rfl mk_TR_hasReached rfl (t_TR_hasReached (d := d) e9) rfl rfl (Nat.le_of_ble_eq_true rfl) rfl rfl rfl ?_
      refine gv_B ok_CO_findNewPlaces 1 rfl ?_
      obtain ⟨l11, e12, h⟩ := b1_e h
      have K13 : gv_go G M_CO_findNewPlaces (d + 1) r hf 52 [some (gR 64), some (gI l11), some (gI (1 + v5)), some (gI y3)] [] (hp n acc g cap μ6) := by
        refine gv_B ok_CO_findNewPlaces 5 rfl ?_
        exact gv_fk (ih h KJ) ⟨rfl, ⟨rfl, ⟨rfl, trivial⟩⟩⟩
      clear h
      have h := e12
      clear e12
      by_cases c14 : v10 = 0
      · rw [if_pos c14] at h
        refine gv_brT c14 ?_
        have h9 := Option.some.inj h
        subst h9
        exact K13
      · rw [if_neg c14] at h
        refine gv_brF c14 ?_
        refine gv_B ok_CO_findNewPlaces 4 rfl ?_
        have h9 := Option.some.inj h
        subst h9
        exact K13
theorem t_CO_findNewPlaces {μ : Mu} {μr : Mu} (h : f_CO_findNewPlaces μ = some (μr)) : gv_ev G (d + 1) M_CO_findNewPlaces [gR 64] (hp n acc g cap μ) (.inl none) (hp n acc g cap μr) := by
  unfold f_CO_findNewPlaces at h
  refine gv_E (ls := [some (gR 64), none, none, none]) (by decide) (fun h => by cases h) (Nat.le_of_ble_eq_true rfl) rfl ?_
  refine gv_B ok_CO_findNewPlaces 4 rfl ?_
  obtain ⟨l15, μ16, e17, h⟩ := b2_e h
  have K18 : gv_go G M_CO_findNewPlaces (d + 1) (.inl none) (hp n acc g cap μr) 59 [some (gR 64), some (gI l15), none, none] [] (hp n acc g cap μ16) := by
    refine gv_B ok_CO_findNewPlaces 6 rfl ?_
    obtain ⟨μ20, e21, h⟩ := b1_e h
    refine hp_wr ok_CO_findNewPlaces rfl rfl rfl rfl e21 ?_
    have h9 := Option.some.inj h
    subst h9
    exact gv_Rv ok_CO_findNewPlaces rfl rfl
  exact t_CO_findNewPlaces_4 _ e17 K18
def f_CO_moveCells_44 (k1 : Int32) (k2 : Int32) (k3 : Int32) : Nat → Int32 → Mu → Option (Mu)
  | 0, _, _ => none
  | f + 1, y4, μ =>
    (if k2 ≤ y4 then
    some (μ)
    else
    (b1 (f_TR_hasReached k3 μ) fun v10 =>
    if v10 = 0 then
    some (μ)
    else
    (b1 (rd (μ 65) 241 k3) fun v12 =>
    b1 (rd (μ 41) 240 (k3 + y4)) fun v14 =>
    b1 (f_CO_moved v14 μ) fun v17 =>
    b1 (wr μ 41 240 (v12 + y4) v17) fun μ18 =>
    f_CO_moveCells_44 k1 k2 k3 f (y4 + 1) μ18)))
def f_CO_moveCells_15 (k1 : Int32) : Nat → Int32 → Mu → Option (Mu)
  | 0, _, _ => none
  | f + 1, y3, μ =>
    (if (μ 40 1) ≤ y3 then
    some (μ)
    else
    (b1 (rd (μ 41) 240 y3) fun v4 =>
    b1 (f_GE_argumentsOf v4 μ) fun v7 =>
    b1 (f_CO_moveCells_44 k1 (1 + v7) y3 fu 0 μ) fun μ21 =>
    f_CO_moveCells_15 k1 f (y3 + (1 + v7)) μ21))
def f_CO_moveCells (μ : Mu) : Option (Mu) :=
  (b1 (rd (μ 65) 241 (μ 40 1)) fun v1 =>
  b1 (f_CO_moveCells_15 v1 fu 0 μ) fun μ25 =>
  some ((sI μ25 40 1 v1)))
theorem t_CO_moveCells_44 {r : gv_O} {hf : gv_H} {k1 : Int32} {k2 : Int32} {k3 : Int32} (fl : Nat) : ∀ {y4 : Int32} {μ : Mu} {μz : Mu}, f_CO_moveCells_44 k1 k2 k3 fl y4 μ = some (μz) → gv_go G M_CO_moveCells (d + 1) r hf 100 [some (gR 64), some (gI k1), some (gI k2), some (gI k3), none] [] (hp n acc g cap μz) → gv_go G M_CO_moveCells (d + 1) r hf 44 [some (gR 64), some (gI k1), some (gI k2), some (gI k3), some (gI y4)] [] (hp n acc g cap μ) := by
  induction fl with
  | zero => intro _ _ _ h _; cases h
  | succ f ih =>
    intro y4 μ μz h KJ
    unfold f_CO_moveCells_44 at h
    refine gv_B ok_CO_moveCells 3 rfl ?_
    by_cases c8 : k2 ≤ y4
    · rw [if_pos c8] at h
      refine gv_brT c8 ?_
      have h9 := Option.some.inj h
      subst h9
      exact gv_fk KJ ⟨rfl, ⟨rfl, ⟨rfl, ⟨rfl, trivial⟩⟩⟩⟩
    · rw [if_neg c8] at h
      refine gv_brF c8 ?_
      refine gv_B ok_CO_moveCells 3 rfl ?_
      obtain ⟨v10, e9, h⟩ := b1_e h
      refine gv_Vc ok_CO_moveCells rfl mk_TR_hasReached rfl (t_TR_hasReached (d := d) e9) rfl rfl (Nat.le_of_ble_eq_true rfl) rfl rfl rfl ?_
      refine gv_B ok_CO_moveCells 1 rfl ?_
      by_cases c11 : v10 = 0
      · rw [if_pos c11] at h
        refine gv_brT c11 ?_
        have h9 := Option.some.inj h
        subst h9
        exact gv_fk KJ ⟨rfl, ⟨rfl, ⟨rfl, ⟨rfl, trivial⟩⟩⟩⟩
      · rw [if_neg c11] at h
        refine gv_brF c11 ?_
        refine gv_B ok_CO_moveCells 6 rfl ?_
        obtain ⟨v12, e13, h⟩ := b1_e h
        refine hp_rd ok_CO_moveCells rfl rfl e13 ?_
        refine gv_B ok_CO_moveCells 9 rfl ?_
        obtain ⟨v14, e15, h⟩ := b1_e h
        refine hp_rd ok_CO_moveCells rfl rfl e15 ?_
        obtain ⟨v17, e16, h⟩ := b1_e h
        refine gv_Vc ok_CO_moveCells rfl mk_CO_moved rfl (t_CO_moved (d := d) e16) rfl rfl (Nat.le_of_ble_eq_true rfl) rfl rfl rfl ?_
        obtain ⟨μ18, e19, h⟩ := b1_e h
        refine hp_wr ok_CO_moveCells rfl rfl rfl rfl e19 ?_
        refine gv_B ok_CO_moveCells 2 rfl ?_
        exact ih h KJ
theorem t_CO_moveCells_15 {r : gv_O} {hf : gv_H} {k1 : Int32} (fl : Nat) : ∀ {y3 : Int32} {μ : Mu} {μz : Mu}, f_CO_moveCells_15 k1 fl y3 μ = some (μz) → gv_go G M_CO_moveCells (d + 1) r hf 107 [some (gR 64), some (gI k1), none, none, none] [] (hp n acc g cap μz) → gv_go G M_CO_moveCells (d + 1) r hf 15 [some (gR 64), some (gI k1), none, some (gI y3), none] [] (hp n acc g cap μ) := by
  induction fl with
  | zero => intro _ _ _ h _; cases h
  | succ f ih =>
    intro y3 μ μz h KJ
    unfold f_CO_moveCells_15 at h
    refine gv_B ok_CO_moveCells 5 rfl ?_
    by_cases c3 : (μ 40 1) ≤ y3
    · rw [if_pos c3] at h
      refine gv_brT c3 ?_
      have h9 := Option.some.inj h
      subst h9
      exact gv_fk KJ ⟨rfl, ⟨rfl, trivial⟩⟩
    · rw [if_neg c3] at h
      refine gv_brF c3 ?_
      refine gv_B ok_CO_moveCells 5 rfl ?_
      obtain ⟨v4, e5, h⟩ := b1_e h
      refine hp_rd ok_CO_moveCells rfl rfl e5 ?_
      obtain ⟨v7, e6, h⟩ := b1_e h
      refine gv_Sc ok_CO_moveCells rfl mk_GE_argumentsOf rfl (t_GE_argumentsOf (d := d) e6) rfl rfl (Nat.le_of_ble_eq_true rfl)  ?_
      refine gv_B ok_CO_moveCells 4 rfl ?_
      obtain ⟨μ21, e22, h⟩ := b1_e h
      have K23 : gv_go G M_CO_moveCells (d + 1) r hf 100 [some (gR 64), some (gI k1), some (gI (1 + v7)), some (gI y3), none] [] (hp n acc g cap μ21) := by
        refine gv_B ok_CO_moveCells 5 rfl ?_
        exact gv_fk (ih h KJ) ⟨rfl, ⟨rfl, ⟨rfl, trivial⟩⟩⟩
      exact t_CO_moveCells_44 _ e22 K23
theorem t_CO_moveCells {μ : Mu} {μr : Mu} (h : f_CO_moveCells μ = some (μr)) : gv_ev G (d + 1) M_CO_moveCells [gR 64] (hp n acc g cap μ) (.inl none) (hp n acc g cap μr) := by
  unfold f_CO_moveCells at h
  refine gv_E (ls := [some (gR 64), none, none, none, none]) (by decide) (fun h => by cases h) (Nat.le_of_ble_eq_true rfl) rfl ?_
  refine gv_B ok_CO_moveCells 5 rfl ?_
  obtain ⟨v1, e2, h⟩ := b1_e h
  refine hp_rd ok_CO_moveCells rfl rfl e2 ?_
  refine gv_B ok_CO_moveCells 3 rfl ?_
  obtain ⟨μ25, e26, h⟩ := b1_e h
  have K27 : gv_go G M_CO_moveCells (d + 1) (.inl none) (hp n acc g cap μr) 107 [some (gR 64), some (gI v1), none, none, none] [] (hp n acc g cap μ25) := by
    refine gv_B ok_CO_moveCells 3 rfl ?_
    refine hp_pf ok_CO_moveCells rfl rfl rfl rfl rfl (Nat.le_of_ble_eq_true rfl) rfl ?_
    have h9 := Option.some.inj h
    subst h9
    exact gv_Rv ok_CO_moveCells rfl rfl
  exact t_CO_moveCells_15 _ e26 K27
def f_CO_moveGoals_2 (g cap : Nat) (k1 : Int32) : Nat → Int32 → Mu → Option (Mu)
  | 0, _, _ => none
  | f + 1, y2, μ =>
    (if k1 ≤ y2 then
    some (μ)
    else
    (b1 (rd (μ (g + 3)) cap y2) fun v2 =>
    b1 (if v2 = 0 then
    some (μ)
    else
    (b1 (rd (μ g) cap y2) fun v8 =>
    b1 (f_CO_moved v8 μ) fun v11 =>
    b1 (wr μ g cap y2 v11) fun μ12 =>
    b1 (wz μ12 (g + 3) cap y2 0) fun μ15 =>
    some (μ15))) fun μ4 =>
    f_CO_moveGoals_2 g cap k1 f (y2 + 1) μ4))
def f_CO_moveGoals (g cap : Nat) (x0 : Int32) (μ : Mu) : Option (Mu) :=
  (if gPb g = true then
  (b1 (f_CO_moveGoals_2 g cap x0 fu 0 μ) fun μ19 =>
  some (μ19))
  else none)
theorem t_CO_moveGoals_2 {r : gv_O} {hf : gv_H} {k1 : Int32} (hg : gPb g = true) (fl : Nat) : ∀ {y2 : Int32} {μ : Mu} {μz : Mu}, f_CO_moveGoals_2 g cap k1 fl y2 μ = some (μz) → gv_go G M_CO_moveGoals (d + 1) r hf 57 [none, none, none] [] (hp n acc g cap μz) → gv_go G M_CO_moveGoals (d + 1) r hf 2 [some (gR 64), some (gI k1), some (gI y2)] [] (hp n acc g cap μ) := by
  induction fl with
  | zero => intro _ _ _ h _; cases h
  | succ f ih =>
    intro y2 μ μz h KJ
    unfold f_CO_moveGoals_2 at h
    refine gv_B ok_CO_moveGoals 3 rfl ?_
    by_cases c1 : k1 ≤ y2
    · rw [if_pos c1] at h
      refine gv_brT c1 ?_
      have h9 := Option.some.inj h
      subst h9
      exact gv_fk KJ trivial
    · rw [if_neg c1] at h
      refine gv_brF c1 ?_
      refine gv_B ok_CO_moveGoals 4 rfl ?_
      obtain ⟨v2, e3, h⟩ := b1_e h
      refine hp_rz ok_CO_moveGoals rfl (tg_3 hg _) e3 ?_
      refine gv_B ok_CO_moveGoals 1 rfl ?_
      obtain ⟨μ4, e5, h⟩ := b1_e h
      have K6 : gv_go G M_CO_moveGoals (d + 1) r hf 51 [some (gR 64), some (gI k1), some (gI y2)] [] (hp n acc g cap μ4) := by
        refine gv_B ok_CO_moveGoals 2 rfl ?_
        exact ih h KJ
      clear h
      have h := e5
      clear e5
      by_cases c7 : v2 = 0
      · rw [if_pos c7] at h
        refine gv_brT c7 ?_
        have h9 := Option.some.inj h
        subst h9
        exact K6
      · rw [if_neg c7] at h
        refine gv_brF c7 ?_
        refine gv_B ok_CO_moveGoals 9 rfl ?_
        obtain ⟨v8, e9, h⟩ := b1_e h
        refine hp_rd ok_CO_moveGoals rfl (tg_0 hg _) e9 ?_
        obtain ⟨v11, e10, h⟩ := b1_e h
        refine gv_Vc ok_CO_moveGoals rfl mk_CO_moved rfl (t_CO_moved (d := d) e10) rfl rfl (Nat.le_of_ble_eq_true rfl) rfl rfl rfl ?_
        obtain ⟨μ12, e13, h⟩ := b1_e h
        refine hp_wr ok_CO_moveGoals rfl (gP_0 hg) (tg_0 hg _) (tg_0 hg _) e13 ?_
        refine gv_B ok_CO_moveGoals 5 rfl ?_
        obtain ⟨μ15, e16, h⟩ := b1_e h
        refine hp_wz ok_CO_moveGoals rfl rfl (tg_3 hg _) (tg_3 hg _) e16 ?_
        have h9 := Option.some.inj h
        subst h9
        exact K6
theorem t_CO_moveGoals {x0 : Int32} {μ : Mu} {μr : Mu} (h : f_CO_moveGoals g cap x0 μ = some (μr)) : gv_ev G (d + 1) M_CO_moveGoals [gR 64, gI x0] (hp n acc g cap μ) (.inl none) (hp n acc g cap μr) := by
  unfold f_CO_moveGoals at h
  by_cases hg : gPb g = true
  rotate_left
  · rw [if_neg hg] at h
    cases h
  rw [if_pos hg] at h
  refine gv_E (ls := [some (gR 64), some (gI x0), none]) (by decide) (fun h => by cases h) (Nat.le_of_ble_eq_true rfl) rfl ?_
  refine gv_B ok_CO_moveGoals 2 rfl ?_
  obtain ⟨μ19, e20, h⟩ := b1_e h
  have K21 : gv_go G M_CO_moveGoals (d + 1) (.inl none) (hp n acc g cap μr) 57 [none, none, none] [] (hp n acc g cap μ19) := by
    have h9 := Option.some.inj h
    subst h9
    exact gv_Rv ok_CO_moveGoals rfl rfl
  exact t_CO_moveGoals_2 hg _ e20 K21
def f_CO_moveMarks_2 : Nat → Int32 → Mu → Option (Mu)
  | 0, _, _ => none
  | f + 1, y1, μ =>
    (if (μ 58 5) ≤ y1 then
    some (μ)
    else
    (b1 (rd (μ 61) 300 y1) fun v2 =>
    b1 (rd (μ 65) 241 v2) fun v4 =>
    b1 (wr μ 61 300 y1 v4) fun μ6 =>
    f_CO_moveMarks_2 f (y1 + 1) μ6))
def f_CO_moveMarks_44 : Nat → Int32 → Mu → Option (Mu)
  | 0, _, _ => none
  | f + 1, y1, μ =>
    (if (μ 40 3) ≤ y1 then
    some (μ)
    else
    (b1 (rd (μ 42) 240 y1) fun v14 =>
    b1 (f_CO_moved v14 μ) fun v17 =>
    b1 (wr μ 42 240 y1 v17) fun μ18 =>
    f_CO_moveMarks_44 f (y1 + 1) μ18))
def f_CO_moveMarks (μ : Mu) : Option (Mu) :=
  (b1 (f_CO_moveMarks_2 fu 0 μ) fun μ9 =>
  b1 (f_CO_moveMarks_44 fu 0 μ9) fun μ21 =>
  some (μ21))
theorem t_CO_moveMarks_2 {r : gv_O} {hf : gv_H} (fl : Nat) : ∀ {y1 : Int32} {μ : Mu} {μz : Mu}, f_CO_moveMarks_2 fl y1 μ = some (μz) → gv_go G M_CO_moveMarks (d + 1) r hf 42 [some (gR 64), none] [] (hp n acc g cap μz) → gv_go G M_CO_moveMarks (d + 1) r hf 2 [some (gR 64), some (gI y1)] [] (hp n acc g cap μ) := by
  induction fl with
  | zero => intro _ _ _ h _; cases h
  | succ f ih =>
    intro y1 μ μz h KJ
    unfold f_CO_moveMarks_2 at h
    refine gv_B ok_CO_moveMarks 5 rfl ?_
    by_cases c1 : (μ 58 5) ≤ y1
    · rw [if_pos c1] at h
      refine gv_brT c1 ?_
      have h9 := Option.some.inj h
      subst h9
      exact gv_fk KJ ⟨rfl, trivial⟩
    · rw [if_neg c1] at h
      refine gv_brF c1 ?_
      refine gv_B ok_CO_moveMarks 10 rfl ?_
      obtain ⟨v2, e3, h⟩ := b1_e h
      refine hp_rd ok_CO_moveMarks rfl rfl e3 ?_
      obtain ⟨v4, e5, h⟩ := b1_e h
      refine hp_rd ok_CO_moveMarks rfl rfl e5 ?_
      obtain ⟨μ6, e7, h⟩ := b1_e h
      refine hp_wr ok_CO_moveMarks rfl rfl rfl rfl e7 ?_
      refine gv_B ok_CO_moveMarks 2 rfl ?_
      exact ih h KJ
theorem t_CO_moveMarks_44 {r : gv_O} {hf : gv_H} (fl : Nat) : ∀ {y1 : Int32} {μ : Mu} {μz : Mu}, f_CO_moveMarks_44 fl y1 μ = some (μz) → gv_go G M_CO_moveMarks (d + 1) r hf 83 [none, none] [] (hp n acc g cap μz) → gv_go G M_CO_moveMarks (d + 1) r hf 44 [some (gR 64), some (gI y1)] [] (hp n acc g cap μ) := by
  induction fl with
  | zero => intro _ _ _ h _; cases h
  | succ f ih =>
    intro y1 μ μz h KJ
    unfold f_CO_moveMarks_44 at h
    refine gv_B ok_CO_moveMarks 5 rfl ?_
    by_cases c13 : (μ 40 3) ≤ y1
    · rw [if_pos c13] at h
      refine gv_brT c13 ?_
      have h9 := Option.some.inj h
      subst h9
      exact gv_fk KJ trivial
    · rw [if_neg c13] at h
      refine gv_brF c13 ?_
      refine gv_B ok_CO_moveMarks 9 rfl ?_
      obtain ⟨v14, e15, h⟩ := b1_e h
      refine hp_rd ok_CO_moveMarks rfl rfl e15 ?_
      obtain ⟨v17, e16, h⟩ := b1_e h
      refine gv_Vc ok_CO_moveMarks rfl mk_CO_moved rfl (t_CO_moved (d := d) e16) rfl rfl (Nat.le_of_ble_eq_true rfl) rfl rfl rfl ?_
      obtain ⟨μ18, e19, h⟩ := b1_e h
      refine hp_wr ok_CO_moveMarks rfl rfl rfl rfl e19 ?_
      refine gv_B ok_CO_moveMarks 2 rfl ?_
      exact ih h KJ
theorem t_CO_moveMarks {μ : Mu} {μr : Mu} (h : f_CO_moveMarks μ = some (μr)) : gv_ev G (d + 1) M_CO_moveMarks [gR 64] (hp n acc g cap μ) (.inl none) (hp n acc g cap μr) := by
  unfold f_CO_moveMarks at h
  refine gv_E (ls := [some (gR 64), none]) (by decide) (fun h => by cases h) (Nat.le_of_ble_eq_true rfl) rfl ?_
  refine gv_B ok_CO_moveMarks 2 rfl ?_
  obtain ⟨μ9, e10, h⟩ := b1_e h
  have K11 : gv_go G M_CO_moveMarks (d + 1) (.inl none) (hp n acc g cap μr) 42 [some (gR 64), none] [] (hp n acc g cap μ9) := by
    refine gv_B ok_CO_moveMarks 2 rfl ?_
    obtain ⟨μ21, e22, h⟩ := b1_e h
    have K23 : gv_go G M_CO_moveMarks (d + 1) (.inl none) (hp n acc g cap μr) 83 [none, none] [] (hp n acc g cap μ21) := by
      have h9 := Option.some.inj h
      subst h9
      exact gv_Rv ok_CO_moveMarks rfl rfl
    exact t_CO_moveMarks_44 _ e22 K23
  exact t_CO_moveMarks_2 _ e10 K11
def f_CO_run (g cap : Nat) (x0 : Int32) (x1 : Int32) (μ : Mu) : Option (Int32 × Mu) :=
  (b1 (f_CO_dropNeedlessTrail (sI μ 64 5 ((μ 64 5) + 1))) fun μ2 =>
  b1 (f_CO_traceLive g cap x0 x1 μ2) fun μ5 =>
  b1 (f_CO_findNewPlaces μ5) fun μ8 =>
  b1 (f_CO_moveCells μ8) fun μ11 =>
  b1 (f_CH_goalsKept μ11) fun v14 =>
  b1 (f_CO_moveGoals g cap (jmax (x0 + 1) v14) μ11) fun μ16 =>
  b1 (f_CO_moveMarks μ16) fun μ19 =>
  some (((μ 40 1) - (μ19 40 1)), μ19))
theorem t_CO_run {x0 : Int32} {x1 : Int32} {μ : Mu} {r : Int32} {μr : Mu} (h : f_CO_run g cap x0 x1 μ = some (r, μr)) : gv_ev G (d + 4) M_CO_run [gR 64, gI x0, gI x1] (hp n acc g cap μ) (.inl (some (gI r))) (hp n acc g cap μr) := by
  unfold f_CO_run at h
  refine gv_E (ls := [some (gR 64), some (gI x0), some (gI x1), none]) (by decide) (fun h => by cases h) (Nat.le_of_ble_eq_true rfl) rfl ?_
  refine gv_B ok_CO_run 9 rfl ?_
  refine hp_pf ok_CO_run rfl rfl rfl rfl rfl (Nat.le_of_ble_eq_true rfl) rfl ?_
  refine gv_B ok_CO_run 1 rfl ?_
  obtain ⟨μ2, e1, h⟩ := b1_e h
  refine gv_Vc ok_CO_run rfl mk_CO_dropNeedlessTrail rfl (t_CO_dropNeedlessTrail (d := d + 3) e1) rfl rfl (Nat.le_of_ble_eq_true rfl) rfl rfl rfl ?_
  refine gv_B ok_CO_run 3 rfl ?_
  obtain ⟨μ5, e4, h⟩ := b1_e h
  refine gv_Vc ok_CO_run rfl mk_CO_traceLive rfl (t_CO_traceLive (d := d) e4) rfl rfl (Nat.le_of_ble_eq_true rfl) rfl rfl rfl ?_
  refine gv_B ok_CO_run 1 rfl ?_
  obtain ⟨μ8, e7, h⟩ := b1_e h
  refine gv_Vc ok_CO_run rfl mk_CO_findNewPlaces rfl (t_CO_findNewPlaces (d := d + 2) e7) rfl rfl (Nat.le_of_ble_eq_true rfl) rfl rfl rfl ?_
  refine gv_B ok_CO_run 1 rfl ?_
  obtain ⟨μ11, e10, h⟩ := b1_e h
  refine gv_Vc ok_CO_run rfl mk_CO_moveCells rfl (t_CO_moveCells (d := d + 2) e10) rfl rfl (Nat.le_of_ble_eq_true rfl) rfl rfl rfl ?_
  refine gv_B ok_CO_run 6 rfl ?_
  obtain ⟨v14, e13, h⟩ := b1_e h
  refine gv_Vc ok_CO_run rfl mk_CH_goalsKept rfl (t_CH_goalsKept (d := d + 3) e13) rfl rfl (Nat.le_of_ble_eq_true rfl) rfl rfl rfl ?_
  refine gv_mx (wp := 489) (x9 := 59) (by decide +kernel) (by decide +kernel) (Nat.le_of_ble_eq_true rfl) ?_
  obtain ⟨μ16, e15, h⟩ := b1_e h
  refine gv_Vc ok_CO_run rfl mk_CO_moveGoals rfl (t_CO_moveGoals (d := d + 2) e15) rfl rfl (Nat.le_of_ble_eq_true rfl) rfl rfl rfl ?_
  refine gv_B ok_CO_run 1 rfl ?_
  obtain ⟨μ19, e18, h⟩ := b1_e h
  refine gv_Vc ok_CO_run rfl mk_CO_moveMarks rfl (t_CO_moveMarks (d := d + 2) e18) rfl rfl (Nat.le_of_ble_eq_true rfl) rfl rfl rfl ?_
  refine gv_B ok_CO_run 5 rfl ?_
  have j0 := Option.some.inj h
  obtain ⟨i1, j1⟩ := Prod.mk.inj j0
  subst i1
  subst j1
  exact gv_Ri ok_CO_run rfl rfl
end FNO
