/-! methods as functions of the numbers (written by wip/tools/genf.py, mkf.py) -/
section FNT
variable {G : gv_G} {d n g cap : Nat} {acc : Nat × Nat}
def f_TR_forget_2 : Nat → Int32 → Mu → Option (Mu)
  | 0, _, _ => none
  | f + 1, y1, μ =>
    (if (μ 40 1) ≤ y1 then
    some (μ)
    else
    (b1 (wz μ 47 240 y1 0) fun μ2 =>
    f_TR_forget_2 f (y1 + 1) μ2))
def f_TR_forget (μ : Mu) : Option (Mu) :=
  (b1 (f_TR_forget_2 fu 0 μ) fun μ5 =>
  some ((sI μ5 46 3 0)))
theorem t_TR_forget_2 {r : gv_O} {hf : gv_H} (fl : Nat) : ∀ {y1 : Int32} {μ : Mu} {μz : Mu}, f_TR_forget_2 fl y1 μ = some (μz) → gv_go G M_TR_forget (d + 0) r hf 26 [some (gR 46), none] [] (hp n acc g cap μz) → gv_go G M_TR_forget (d + 0) r hf 2 [some (gR 46), some (gI y1)] [] (hp n acc g cap μ) := by
  induction fl with
  | zero => intro _ _ _ h _; cases h
  | succ f ih =>
    intro y1 μ μz h KJ
    unfold f_TR_forget_2 at h
    refine gv_B ok_TR_forget 5 rfl ?_
    by_cases c1 : (μ 40 1) ≤ y1
    · rw [if_pos c1] at h
      refine gv_brT c1 ?_
      have h9 := Option.some.inj h
      subst h9
      exact gv_fk KJ ⟨rfl, trivial⟩
    · rw [if_neg c1] at h
      refine gv_brF c1 ?_
      refine gv_B ok_TR_forget 4 rfl ?_
      obtain ⟨μ2, e3, h⟩ := b1_e h
      refine hp_wz ok_TR_forget rfl rfl rfl rfl e3 ?_
      refine gv_B ok_TR_forget 2 rfl ?_
      exact ih h KJ
theorem t_TR_forget {μ : Mu} {μr : Mu} (h : f_TR_forget μ = some (μr)) : gv_ev G (d + 0) M_TR_forget [gR 46] (hp n acc g cap μ) (.inl none) (hp n acc g cap μr) := by
  unfold f_TR_forget at h
  refine gv_E (ls := [some (gR 46), none]) (by decide) (fun h => by cases h) (Nat.le_of_ble_eq_true rfl) rfl ?_
  refine gv_B ok_TR_forget 2 rfl ?_
  obtain ⟨μ5, e6, h⟩ := b1_e h
  have K7 : gv_go G M_TR_forget (d + 0) (.inl none) (hp n acc g cap μr) 26 [some (gR 46), none] [] (hp n acc g cap μ5) := by
    refine gv_B ok_TR_forget 2 rfl ?_
    refine hp_pf ok_TR_forget rfl rfl rfl rfl rfl (Nat.le_of_ble_eq_true rfl) rfl ?_
    have h9 := Option.some.inj h
    subst h9
    exact gv_Rv ok_TR_forget rfl rfl
  exact t_TR_forget_2 _ e6 K7
def f_TR_hasReached (x0 : Int32) (μ : Mu) : Option (Int32) :=
  (b1 (rd (μ 47) 240 x0) fun v1 =>
  if (v1 = 0 ∨ v1 = 1) then some (v1) else none)
theorem t_TR_hasReached {x0 : Int32} {μ : Mu} {r : Int32} (h : f_TR_hasReached x0 μ = some (r)) : gv_ev G (d + 0) M_TR_hasReached [gR 46, gI x0] (hp n acc g cap μ) (.inl (some (gI r))) (hp n acc g cap μ) := by
  unfold f_TR_hasReached at h
  refine gv_E (ls := [some (gR 46), some (gI x0)]) (by decide) (fun h => by cases h) (Nat.le_of_ble_eq_true rfl) rfl ?_
  refine gv_B ok_TR_hasReached 3 rfl ?_
  obtain ⟨v1, e2, h⟩ := b1_e h
  refine hp_rz ok_TR_hasReached rfl rfl e2 ?_
  by_cases c3 : (v1 = 0 ∨ v1 = 1)
  · rw [if_pos c3] at h
    have h9 := Option.some.inj h
    subst h9
    exact gv_Rz ok_TR_hasReached rfl rfl c3
  · rw [if_neg c3] at h
    cases h
def f_TR_reach (x0 : Int32) (μ : Mu) : Option (Mu) :=
  (if (x0 &&& 7) = 0 then
  (b1 (rd (μ 47) 240 (x0 >>> ((3 : Int32) &&& 31))) fun v2 =>
  if ¬ v2 = 0 then
  some (μ)
  else
  (b1 (wz μ 47 240 (x0 >>> ((3 : Int32) &&& 31)) 1) fun μ5 =>
  b1 (wr μ5 48 240 (μ5 46 3) (x0 >>> ((3 : Int32) &&& 31))) fun μ8 =>
  some ((sI μ8 46 3 ((μ8 46 3) + 1)))))
  else
  (if (x0 &&& 7) = 7 then
  (b1 (rd (μ 47) 240 (x0 >>> ((3 : Int32) &&& 31))) fun v12 =>
  if ¬ v12 = 0 then
  some (μ)
  else
  (b1 (wz μ 47 240 (x0 >>> ((3 : Int32) &&& 31)) 1) fun μ15 =>
  b1 (wr μ15 48 240 (μ15 46 3) (x0 >>> ((3 : Int32) &&& 31))) fun μ18 =>
  some ((sI μ18 46 3 ((μ18 46 3) + 1)))))
  else
  some (μ)))
theorem t_TR_reach {x0 : Int32} {μ : Mu} {μr : Mu} (h : f_TR_reach x0 μ = some (μr)) : gv_ev G (d + 0) M_TR_reach [gR 46, gI x0] (hp n acc g cap μ) (.inl none) (hp n acc g cap μr) := by
  unfold f_TR_reach at h
  refine gv_E (ls := [some (gR 46), some (gI x0), none, none]) (by decide) (fun h => by cases h) (Nat.le_of_ble_eq_true rfl) rfl ?_
  refine gv_B ok_TR_reach 6 rfl ?_
  by_cases c1 : (x0 &&& 7) = 0
  · rw [if_pos c1] at h
    refine gv_brT c1 ?_
    refine gv_B ok_TR_reach 7 rfl ?_
    obtain ⟨v2, e3, h⟩ := b1_e h
    refine hp_rz ok_TR_reach rfl rfl e3 ?_
    refine gv_B ok_TR_reach 1 rfl ?_
    by_cases c4 : ¬ v2 = 0
    · rw [if_pos c4] at h
      refine gv_brT c4 ?_
      have h9 := Option.some.inj h
      subst h9
      exact gv_Rv ok_TR_reach rfl rfl
    · rw [if_neg c4] at h
      refine gv_brF c4 ?_
      refine gv_B ok_TR_reach 4 rfl ?_
      obtain ⟨μ5, e6, h⟩ := b1_e h
      refine hp_wz ok_TR_reach rfl rfl rfl rfl e6 ?_
      refine gv_B ok_TR_reach 5 rfl ?_
      obtain ⟨μ8, e9, h⟩ := b1_e h
      refine hp_wr ok_TR_reach rfl rfl rfl rfl e9 ?_
      refine gv_B ok_TR_reach 5 rfl ?_
      refine hp_pf ok_TR_reach rfl rfl rfl rfl rfl (Nat.le_of_ble_eq_true rfl) rfl ?_
      have h9 := Option.some.inj h
      subst h9
      exact gv_Rv ok_TR_reach rfl rfl
  · rw [if_neg c1] at h
    refine gv_brF c1 ?_
    refine gv_B ok_TR_reach 3 rfl ?_
    by_cases c11 : (x0 &&& 7) = 7
    · rw [if_pos c11] at h
      refine gv_brT c11 ?_
      refine gv_B ok_TR_reach 7 rfl ?_
      obtain ⟨v12, e13, h⟩ := b1_e h
      refine hp_rz ok_TR_reach rfl rfl e13 ?_
      refine gv_B ok_TR_reach 1 rfl ?_
      by_cases c14 : ¬ v12 = 0
      · rw [if_pos c14] at h
        refine gv_brT c14 ?_
        have h9 := Option.some.inj h
        subst h9
        exact gv_Rv ok_TR_reach rfl rfl
      · rw [if_neg c14] at h
        refine gv_brF c14 ?_
        refine gv_B ok_TR_reach 4 rfl ?_
        obtain ⟨μ15, e16, h⟩ := b1_e h
        refine hp_wz ok_TR_reach rfl rfl rfl rfl e16 ?_
        refine gv_B ok_TR_reach 5 rfl ?_
        obtain ⟨μ18, e19, h⟩ := b1_e h
        refine hp_wr ok_TR_reach rfl rfl rfl rfl e19 ?_
        refine gv_B ok_TR_reach 5 rfl ?_
        refine hp_pf ok_TR_reach rfl rfl rfl rfl rfl (Nat.le_of_ble_eq_true rfl) rfl ?_
        have h9 := Option.some.inj h
        subst h9
        exact gv_Rv ok_TR_reach rfl rfl
    · rw [if_neg c11] at h
      refine gv_brF c11 ?_
      have h9 := Option.some.inj h
      subst h9
      exact gv_Rv ok_TR_reach rfl rfl
def f_TR_trace_76 (k2 : Int32) (k3 : Int32) (k4 : Int32) : Nat → Int32 → Mu → Option (Mu)
  | 0, _, _ => none
  | f + 1, y5, μ =>
    (if k4 < y5 then
    some (μ)
    else
    (b1 (rd (μ 41) 240 (k3 + y5)) fun v23 =>
    b1 (f_TR_reach v23 μ) fun μ26 =>
    f_TR_trace_76 k2 k3 k4 f (y5 + 1) μ26))
def f_TR_trace_7 : Nat → Int32 → Mu → Option (Mu)
  | 0, _, _ => none
  | f + 1, y2, μ =>
    (if 240 ≤ y2 then
    some (μ)
    else
    (if (μ 46 3) ≤ 0 then
    some (μ)
    else
    (b1 (rd (μ 48) 240 ((μ 46 3) - 1)) fun v6 =>
    b1 (rd (μ 41) 240 v6) fun v8 =>
    b1 (f_GE_argumentsOf v8 (sI μ 46 3 ((μ 46 3) - 1))) fun v11 =>
    b1 (if ¬ v11 = 0 then
    some ((sI μ 46 3 ((μ 46 3) - 1)))
    else
    (b1 (rd (μ 41) 240 v6) fun v16 =>
    b1 (f_TR_reach v16 (sI μ 46 3 ((μ 46 3) - 1))) fun μ19 =>
    some (μ19))) fun μ12 =>
    b1 (f_TR_trace_76 y2 v6 v11 fu 1 μ12) fun μ28 =>
    f_TR_trace_7 f (y2 + 1) μ28)))
def f_TR_trace (x0 : Int32) (μ : Mu) : Option (Mu) :=
  (b1 (f_TR_reach x0 μ) fun μ2 =>
  b1 (f_TR_trace_7 fu 0 μ2) fun μ32 =>
  some (μ32))
theorem t_TR_trace_76 {r : gv_O} {hf : gv_H} {k2 : Int32} {k3 : Int32} {k4 : Int32} (fl : Nat) : ∀ {y5 : Int32} {μ : Mu} {μz : Mu}, f_TR_trace_76 k2 k3 k4 fl y5 μ = some (μz) → gv_go G M_TR_trace (d + 1) r hf 105 [some (gR 46), none, some (gI k2), none, none, none] [] (hp n acc g cap μz) → gv_go G M_TR_trace (d + 1) r hf 76 [some (gR 46), none, some (gI k2), some (gI k3), some (gI k4), some (gI y5)] [] (hp n acc g cap μ) := by
  induction fl with
  | zero => intro _ _ _ h _; cases h
  | succ f ih =>
    intro y5 μ μz h KJ
    unfold f_TR_trace_76 at h
    refine gv_B ok_TR_trace 3 rfl ?_
    by_cases c22 : k4 < y5
    · rw [if_pos c22] at h
      refine gv_brT c22 ?_
      have h9 := Option.some.inj h
      subst h9
      exact gv_fk KJ ⟨rfl, ⟨rfl, trivial⟩⟩
    · rw [if_neg c22] at h
      refine gv_brF c22 ?_
      refine gv_B ok_TR_trace 7 rfl ?_
      obtain ⟨v23, e24, h⟩ := b1_e h
      refine hp_rd ok_TR_trace rfl rfl e24 ?_
      obtain ⟨μ26, e25, h⟩ := b1_e h
      refine gv_Vc ok_TR_trace rfl mk_TR_reach rfl (t_TR_reach (d := d) e25) rfl rfl (Nat.le_of_ble_eq_true rfl) rfl rfl rfl ?_
      refine gv_B ok_TR_trace 2 rfl ?_
      exact ih h KJ
theorem t_TR_trace_7 {r : gv_O} {hf : gv_H} (fl : Nat) : ∀ {y2 : Int32} {μ : Mu} {μz : Mu}, f_TR_trace_7 fl y2 μ = some (μz) → gv_go G M_TR_trace (d + 1) r hf 111 [none, none, none, none, none, none] [] (hp n acc g cap μz) → gv_go G M_TR_trace (d + 1) r hf 7 [some (gR 46), none, some (gI y2), none, none, none] [] (hp n acc g cap μ) := by
  induction fl with
  | zero => intro _ _ _ h _; cases h
  | succ f ih =>
    intro y2 μ μz h KJ
    unfold f_TR_trace_7 at h
    refine gv_B ok_TR_trace 3 rfl ?_
    by_cases c4 : 240 ≤ y2
    · rw [if_pos c4] at h
      refine gv_brT c4 ?_
      have h9 := Option.some.inj h
      subst h9
      exact gv_fk KJ trivial
    · rw [if_neg c4] at h
      refine gv_brF c4 ?_
      refine gv_B ok_TR_trace 3 rfl ?_
      by_cases c5 : (μ 46 3) ≤ 0
      · rw [if_pos c5] at h
        refine gv_brT c5 ?_
        have h9 := Option.some.inj h
        subst h9
        exact gv_fk KJ trivial
      · rw [if_neg c5] at h
        refine gv_brF c5 ?_
        refine gv_B ok_TR_trace 5 rfl ?_
        refine hp_pf ok_TR_trace rfl rfl rfl rfl rfl (Nat.le_of_ble_eq_true rfl) rfl ?_
        refine gv_B ok_TR_trace 4 rfl ?_
        obtain ⟨v6, e7, h⟩ := b1_e h
        refine hp_rd ok_TR_trace rfl rfl e7 ?_
        refine gv_B ok_TR_trace 5 rfl ?_
        obtain ⟨v8, e9, h⟩ := b1_e h
        refine hp_rd ok_TR_trace rfl rfl e9 ?_
        obtain ⟨v11, e10, h⟩ := b1_e h
        refine gv_Sc ok_TR_trace rfl mk_GE_argumentsOf rfl (t_GE_argumentsOf (d := d) e10) rfl rfl (Nat.le_of_ble_eq_true rfl)  ?_
        refine gv_B ok_TR_trace 3 rfl ?_
        obtain ⟨μ12, e13, h⟩ := b1_e h
        have K14 : gv_go G M_TR_trace (d + 1) r hf 73 [some (gR 46), none, some (gI y2), some (gI v6), some (gI v11), none] [] (hp n acc g cap μ12) := by
          refine gv_B ok_TR_trace 2 rfl ?_
          obtain ⟨μ28, e29, h⟩ := b1_e h
          have K30 : gv_go G M_TR_trace (d + 1) r hf 105 [some (gR 46), none, some (gI y2), none, none, none] [] (hp n acc g cap μ28) := by
            refine gv_B ok_TR_trace 2 rfl ?_
            exact ih h KJ
          exact t_TR_trace_76 _ e29 K30
        clear h
        have h := e13
        clear e13
        by_cases c15 : ¬ v11 = 0
        · rw [if_pos c15] at h
          refine gv_brT c15 ?_
          have h9 := Option.some.inj h
          subst h9
          exact K14
        · rw [if_neg c15] at h
          refine gv_brF c15 ?_
          refine gv_B ok_TR_trace 5 rfl ?_
          obtain ⟨v16, e17, h⟩ := b1_e h
          refine hp_rd ok_TR_trace rfl rfl e17 ?_
          obtain ⟨μ19, e18, h⟩ := b1_e h
          refine gv_Vc ok_TR_trace rfl mk_TR_reach rfl (t_TR_reach (d := d) e18) rfl rfl (Nat.le_of_ble_eq_true rfl) rfl rfl rfl ?_
          have h9 := Option.some.inj h
          subst h9
          exact K14
theorem t_TR_trace {x0 : Int32} {μ : Mu} {μr : Mu} (h : f_TR_trace x0 μ = some (μr)) : gv_ev G (d + 1) M_TR_trace [gR 46, gI x0] (hp n acc g cap μ) (.inl none) (hp n acc g cap μr) := by
  unfold f_TR_trace at h
  refine gv_E (ls := [some (gR 46), some (gI x0), none, none, none, none]) (by decide) (fun h => by cases h) (Nat.le_of_ble_eq_true rfl) rfl ?_
  refine gv_B ok_TR_trace 2 rfl ?_
  obtain ⟨μ2, e1, h⟩ := b1_e h
  refine gv_Vc ok_TR_trace rfl mk_TR_reach rfl (t_TR_reach (d := d) e1) rfl rfl (Nat.le_of_ble_eq_true rfl) rfl rfl rfl ?_
  refine gv_B ok_TR_trace 2 rfl ?_
  obtain ⟨μ32, e33, h⟩ := b1_e h
  have K34 : gv_go G M_TR_trace (d + 1) (.inl none) (hp n acc g cap μr) 111 [none, none, none, none, none, none] [] (hp n acc g cap μ32) := by
    have h9 := Option.some.inj h
    subst h9
    exact gv_Rv ok_TR_trace rfl rfl
  exact gv_fk (t_TR_trace_7 _ e33 K34) ⟨rfl, ⟨rfl, trivial⟩⟩
def f_UN_bindLater (x0 : Int32) (x1 : Int32) (μ : Mu) : Option (Mu) :=
  (if x0 = x1 then
  some (μ)
  else
  (b1 (f_CE_bind (jmax x0 x1) (jmin x0 x1) μ) fun μ3 =>
  some (μ3)))
theorem t_UN_bindLater {x0 : Int32} {x1 : Int32} {μ : Mu} {μr : Mu} (h : f_UN_bindLater x0 x1 μ = some (μr)) : gv_ev G (d + 1) M_UN_bindLater [gR 49, gI x0, gI x1] (hp n acc g cap μ) (.inl none) (hp n acc g cap μr) := by
  unfold f_UN_bindLater at h
  refine gv_E (ls := [some (gR 49), some (gI x0), some (gI x1)]) (by decide) (fun h => by cases h) (Nat.le_of_ble_eq_true rfl) rfl ?_
  refine gv_B ok_UN_bindLater 3 rfl ?_
  by_cases c1 : x0 = x1
  · rw [if_pos c1] at h
    refine gv_brT c1 ?_
    have h9 := Option.some.inj h
    subst h9
    exact gv_Rv ok_UN_bindLater rfl rfl
  · rw [if_neg c1] at h
    refine gv_brF c1 ?_
    refine gv_B ok_UN_bindLater 4 rfl ?_
    refine gv_mx (wp := 770) (x9 := 50) (by decide +kernel) (by decide +kernel) (Nat.le_of_ble_eq_true rfl) ?_
    refine gv_B ok_UN_bindLater 2 rfl ?_
    refine gv_mi (wp := 771) (x9 := 56) (by decide +kernel) (by decide +kernel) (Nat.le_of_ble_eq_true rfl) ?_
    obtain ⟨μ3, e2, h⟩ := b1_e h
    refine gv_Vc ok_UN_bindLater rfl mk_CE_bind rfl (t_CE_bind (d := d) e2) rfl rfl (Nat.le_of_ble_eq_true rfl) rfl rfl rfl ?_
    have h9 := Option.some.inj h
    subst h9
    exact gv_Rv ok_UN_bindLater rfl rfl
def f_UN_bindUnlessInside (x0 : Int32) (x1 : Int32) (μ : Mu) : Option (Int32 × Mu) :=
  (if ¬ (x1 &&& 7) = 7 then
  (b1 (f_CE_bind x0 x1 μ) fun μ3 =>
  some (1, μ3))
  else
  (b1 (f_TR_forget μ) fun μ6 =>
  b1 (f_TR_trace x1 μ6) fun μ9 =>
  b1 (f_TR_hasReached (x0 >>> ((3 : Int32) &&& 31)) μ9) fun v12 =>
  if v12 = 0 then
  (b1 (f_CE_bind x0 x1 μ9) fun μ15 =>
  some (1, μ15))
  else
  some (0, μ9)))
theorem t_UN_bindUnlessInside {x0 : Int32} {x1 : Int32} {μ : Mu} {r : Int32} {μr : Mu} (h : f_UN_bindUnlessInside x0 x1 μ = some (r, μr)) : gv_ev G (d + 2) M_UN_bindUnlessInside [gR 49, gI x0, gI x1] (hp n acc g cap μ) (.inl (some (gI r))) (hp n acc g cap μr) := by
  unfold f_UN_bindUnlessInside at h
  refine gv_E (ls := [some (gR 49), some (gI x0), some (gI x1)]) (by decide) (fun h => by cases h) (Nat.le_of_ble_eq_true rfl) rfl ?_
  refine gv_B ok_UN_bindUnlessInside 5 rfl ?_
  by_cases c1 : ¬ (x1 &&& 7) = 7
  · rw [if_pos c1] at h
    refine gv_brT c1 ?_
    refine gv_B ok_UN_bindUnlessInside 4 rfl ?_
    obtain ⟨μ3, e2, h⟩ := b1_e h
    refine gv_Vc ok_UN_bindUnlessInside rfl mk_CE_bind rfl (t_CE_bind (d := d + 1) e2) rfl rfl (Nat.le_of_ble_eq_true rfl) rfl rfl rfl ?_
    refine gv_B ok_UN_bindUnlessInside 1 rfl ?_
    have j0 := Option.some.inj h
    obtain ⟨i1, j1⟩ := Prod.mk.inj j0
    subst i1
    subst j1
    exact gv_Rz ok_UN_bindUnlessInside rfl rfl (by decide)
  · rw [if_neg c1] at h
    refine gv_brF c1 ?_
    refine gv_B ok_UN_bindUnlessInside 2 rfl ?_
    obtain ⟨μ6, e5, h⟩ := b1_e h
    refine gv_Vc ok_UN_bindUnlessInside rfl mk_TR_forget rfl (t_TR_forget (d := d + 1) e5) rfl rfl (Nat.le_of_ble_eq_true rfl) rfl rfl rfl ?_
    refine gv_B ok_UN_bindUnlessInside 3 rfl ?_
    obtain ⟨μ9, e8, h⟩ := b1_e h
    refine gv_Vc ok_UN_bindUnlessInside rfl mk_TR_trace rfl (t_TR_trace (d := d) e8) rfl rfl (Nat.le_of_ble_eq_true rfl) rfl rfl rfl ?_
    refine gv_B ok_UN_bindUnlessInside 5 rfl ?_
    obtain ⟨v12, e11, h⟩ := b1_e h
    refine gv_Vc ok_UN_bindUnlessInside rfl mk_TR_hasReached rfl (t_TR_hasReached (d := d + 1) e11) rfl rfl (Nat.le_of_ble_eq_true rfl) rfl rfl rfl ?_
    refine gv_B ok_UN_bindUnlessInside 1 rfl ?_
    by_cases c13 : v12 = 0
    · rw [if_pos c13] at h
      refine gv_brT c13 ?_
      refine gv_B ok_UN_bindUnlessInside 4 rfl ?_
      obtain ⟨μ15, e14, h⟩ := b1_e h
      refine gv_Vc ok_UN_bindUnlessInside rfl mk_CE_bind rfl (t_CE_bind (d := d + 1) e14) rfl rfl (Nat.le_of_ble_eq_true rfl) rfl rfl rfl ?_
      refine gv_B ok_UN_bindUnlessInside 1 rfl ?_
      have j0 := Option.some.inj h
      obtain ⟨i1, j1⟩ := Prod.mk.inj j0
      subst i1
      subst j1
      exact gv_Rz ok_UN_bindUnlessInside rfl rfl (by decide)
    · rw [if_neg c13] at h
      refine gv_brF c13 ?_
      refine gv_B ok_UN_bindUnlessInside 1 rfl ?_
      have j0 := Option.some.inj h
      obtain ⟨i1, j1⟩ := Prod.mk.inj j0
      subst i1
      subst j1
      exact gv_Rz ok_UN_bindUnlessInside rfl rfl (by decide)
def f_UN_openArguments_29 (k1 : Int32) (k2 : Int32) : Nat → Int32 → Mu → Option (Mu)
  | 0, _, _ => none
  | f + 1, y4, μ =>
    (if y4 < 1 then
    some (μ)
    else
    (b1 (f_CE_argument k1 y4 μ) fun v10 =>
    b1 (wr μ 50 601 (μ 49 4) v10) fun μ11 =>
    b1 (f_CE_argument k2 y4 μ11) fun v15 =>
    b1 (wr μ11 51 601 (μ11 49 4) v15) fun μ16 =>
    f_UN_openArguments_29 k1 k2 f (y4 + (-1)) (sI μ16 49 4 ((μ16 49 4) + 1))))
def f_UN_openArguments (x0 : Int32) (x1 : Int32) (μ : Mu) : Option (Int32 × Mu) :=
  (b1 (f_CE_nameOf x0 μ) fun v2 =>
  b1 (f_CE_nameOf x1 μ) fun v4 =>
  if v2 = v4 then
  (b1 (f_GE_argumentsOf v2 μ) fun v7 =>
  b1 (f_UN_openArguments_29 x0 x1 fu v7 μ) fun μ19 =>
  some (1, μ19))
  else
  some (0, μ))
theorem t_UN_openArguments_29 {r : gv_O} {hf : gv_H} {k1 : Int32} {k2 : Int32} (fl : Nat) : ∀ {y4 : Int32} {μ : Mu} {μz : Mu}, f_UN_openArguments_29 k1 k2 fl y4 μ = some (μz) → gv_go G M_UN_openArguments (d + 1) r hf 89 [none, none, none, none, none] [] (hp n acc g cap μz) → gv_go G M_UN_openArguments (d + 1) r hf 29 [some (gR 49), some (gI k1), some (gI k2), none, some (gI y4)] [] (hp n acc g cap μ) := by
  induction fl with
  | zero => intro _ _ _ h _; cases h
  | succ f ih =>
    intro y4 μ μz h KJ
    unfold f_UN_openArguments_29 at h
    refine gv_B ok_UN_openArguments 3 rfl ?_
    by_cases c8 : y4 < 1
    · rw [if_pos c8] at h
      refine gv_brT c8 ?_
      have h9 := Option.some.inj h
      subst h9
      exact gv_fk KJ trivial
    · rw [if_neg c8] at h
      refine gv_brF c8 ?_
      refine gv_B ok_UN_openArguments 8 rfl ?_
      obtain ⟨v10, e9, h⟩ := b1_e h
      refine gv_Vc ok_UN_openArguments rfl mk_CE_argument rfl (t_CE_argument (d := d) e9) rfl rfl (Nat.le_of_ble_eq_true rfl) rfl rfl rfl ?_
      obtain ⟨μ11, e12, h⟩ := b1_e h
      refine hp_wr ok_UN_openArguments rfl rfl rfl rfl e12 ?_
      refine gv_B ok_UN_openArguments 8 rfl ?_
      obtain ⟨v15, e14, h⟩ := b1_e h
      refine gv_Vc ok_UN_openArguments rfl mk_CE_argument rfl (t_CE_argument (d := d) e14) rfl rfl (Nat.le_of_ble_eq_true rfl) rfl rfl rfl ?_
      obtain ⟨μ16, e17, h⟩ := b1_e h
      refine hp_wr ok_UN_openArguments rfl rfl rfl rfl e17 ?_
      refine gv_B ok_UN_openArguments 5 rfl ?_
      refine hp_pf ok_UN_openArguments rfl rfl rfl rfl rfl (Nat.le_of_ble_eq_true rfl) rfl ?_
      refine gv_B ok_UN_openArguments 2 rfl ?_
      exact ih h KJ
theorem t_UN_openArguments {x0 : Int32} {x1 : Int32} {μ : Mu} {r : Int32} {μr : Mu} (h : f_UN_openArguments x0 x1 μ = some (r, μr)) : gv_ev G (d + 1) M_UN_openArguments [gR 49, gI x0, gI x1] (hp n acc g cap μ) (.inl (some (gI r))) (hp n acc g cap μr) := by
  unfold f_UN_openArguments at h
  refine gv_E (ls := [some (gR 49), some (gI x0), some (gI x1), none, none]) (by decide) (fun h => by cases h) (Nat.le_of_ble_eq_true rfl) rfl ?_
  refine gv_B ok_UN_openArguments 3 rfl ?_
  obtain ⟨v2, e1, h⟩ := b1_e h
  refine gv_Vc ok_UN_openArguments rfl mk_CE_nameOf rfl (t_CE_nameOf (d := d) e1) rfl rfl (Nat.le_of_ble_eq_true rfl) rfl rfl rfl ?_
  refine gv_B ok_UN_openArguments 5 rfl ?_
  obtain ⟨v4, e3, h⟩ := b1_e h
  refine gv_Vc ok_UN_openArguments rfl mk_CE_nameOf rfl (t_CE_nameOf (d := d) e3) rfl rfl (Nat.le_of_ble_eq_true rfl) rfl rfl rfl ?_
  refine gv_B ok_UN_openArguments 1 rfl ?_
  by_cases c5 : v2 = v4
  · rw [if_pos c5] at h
    refine gv_brT c5 ?_
    refine gv_B ok_UN_openArguments 1 rfl ?_
    obtain ⟨v7, e6, h⟩ := b1_e h
    refine gv_Sc ok_UN_openArguments rfl mk_GE_argumentsOf rfl (t_GE_argumentsOf (d := d) e6) rfl rfl (Nat.le_of_ble_eq_true rfl)  ?_
    refine gv_B ok_UN_openArguments 1 rfl ?_
    obtain ⟨μ19, e20, h⟩ := b1_e h
    have K21 : gv_go G M_UN_openArguments (d + 1) (.inl (some (gI r))) (hp n acc g cap μr) 89 [none, none, none, none, none] [] (hp n acc g cap μ19) := by
      refine gv_B ok_UN_openArguments 1 rfl ?_
      have j0 := Option.some.inj h
      obtain ⟨i1, j1⟩ := Prod.mk.inj j0
      subst i1
      subst j1
      exact gv_Rz ok_UN_openArguments rfl rfl (by decide)
    exact gv_fk (t_UN_openArguments_29 _ e20 K21) ⟨rfl, ⟨rfl, ⟨rfl, ⟨rfl, trivial⟩⟩⟩⟩
  · rw [if_neg c5] at h
    refine gv_brF c5 ?_
    refine gv_B ok_UN_openArguments 1 rfl ?_
    have j0 := Option.some.inj h
    obtain ⟨i1, j1⟩ := Prod.mk.inj j0
    subst i1
    subst j1
    exact gv_Rz ok_UN_openArguments rfl rfl (by decide)
def f_UN_lookAt (x0 : Int32) (x1 : Int32) (μ : Mu) : Option (Int32 × Mu) :=
  (b1 (if ¬ (x0 &&& 7) = 0 then
  some ((0 : Int32))
  else
  some ((1 : Int32))) fun v1 =>
  b1 (if ¬ (x1 &&& 7) = 0 then
  some ((0 : Int32))
  else
  some ((1 : Int32))) fun v5 =>
  if v1 = 0 then
  (if v1 = 0 then
  (if v5 = 0 then
  (if ¬ (x0 &&& 7) = 7 then
  (if ¬ x0 = x1 then
  some (0, μ)
  else
  some (1, μ))
  else
  (if ¬ (x1 &&& 7) = 7 then
  (if ¬ x0 = x1 then
  some (0, μ)
  else
  some (1, μ))
  else
  (b2 (f_UN_openArguments x0 x1 μ) fun v17 μ18 =>
  if (v17 = 0 ∨ v17 = 1) then some (v17, μ18) else none)))
  else
  (b2 (f_UN_bindUnlessInside x1 x0 μ) fun v22 μ23 =>
  if (v22 = 0 ∨ v22 = 1) then some (v22, μ23) else none))
  else
  (b2 (f_UN_bindUnlessInside x0 x1 μ) fun v27 μ28 =>
  if (v27 = 0 ∨ v27 = 1) then some (v27, μ28) else none))
  else
  (if v5 = 0 then
  (if v1 = 0 then
  (if v5 = 0 then
  (if ¬ (x0 &&& 7) = 7 then
  (if ¬ x0 = x1 then
  some (0, μ)
  else
  some (1, μ))
  else
  (if ¬ (x1 &&& 7) = 7 then
  (if ¬ x0 = x1 then
  some (0, μ)
  else
  some (1, μ))
  else
  (b2 (f_UN_openArguments x0 x1 μ) fun v39 μ40 =>
  if (v39 = 0 ∨ v39 = 1) then some (v39, μ40) else none)))
  else
  (b2 (f_UN_bindUnlessInside x1 x0 μ) fun v44 μ45 =>
  if (v44 = 0 ∨ v44 = 1) then some (v44, μ45) else none))
  else
  (b2 (f_UN_bindUnlessInside x0 x1 μ) fun v49 μ50 =>
  if (v49 = 0 ∨ v49 = 1) then some (v49, μ50) else none))
  else
  (b1 (f_UN_bindLater x0 x1 μ) fun μ54 =>
  some (1, μ54))))
theorem t_UN_lookAt {x0 : Int32} {x1 : Int32} {μ : Mu} {r : Int32} {μr : Mu} (h : f_UN_lookAt x0 x1 μ = some (r, μr)) : gv_ev G (d + 3) M_UN_lookAt [gR 49, gI x0, gI x1] (hp n acc g cap μ) (.inl (some (gI r))) (hp n acc g cap μr) := by
  unfold f_UN_lookAt at h
  refine gv_E (ls := [some (gR 49), some (gI x0), some (gI x1), none, none]) (by decide) (fun h => by cases h) (Nat.le_of_ble_eq_true rfl) rfl ?_
  refine gv_B ok_UN_lookAt 4 rfl ?_
  obtain ⟨v1, e2, h⟩ := b1_e h
  have K3 : gv_go G M_UN_lookAt (d + 3) (.inl (some (gI r))) (hp n acc g cap μr) 12 [some (gR 49), some (gI x0), some (gI x1), none, none] [gI v1] (hp n acc g cap μ) := by
    refine gv_B ok_UN_lookAt 5 rfl ?_
    obtain ⟨v5, e6, h⟩ := b1_e h
    have K7 : gv_go G M_UN_lookAt (d + 3) (.inl (some (gI r))) (hp n acc g cap μr) 25 [some (gR 49), some (gI x0), some (gI x1), some (gI v1), none] [gI v5] (hp n acc g cap μ) := by
      refine gv_B ok_UN_lookAt 3 rfl ?_
      by_cases c9 : v1 = 0
      · rw [if_pos c9] at h
        refine gv_brT c9 ?_
        refine gv_B ok_UN_lookAt 2 rfl ?_
        by_cases c10 : v1 = 0
        · rw [if_pos c10] at h
          refine gv_brT c10 ?_
          refine gv_B ok_UN_lookAt 2 rfl ?_
          by_cases c11 : v5 = 0
          · rw [if_pos c11] at h
            refine gv_brT c11 ?_
            refine gv_B ok_UN_lookAt 5 rfl ?_
            by_cases c12 : ¬ (x0 &&& 7) = 7
            · rw [if_pos c12] at h
              refine gv_brT c12 ?_
              refine gv_B ok_UN_lookAt 3 rfl ?_
              by_cases c13 : ¬ x0 = x1
              · rw [if_pos c13] at h
                refine gv_brT c13 ?_
                refine gv_B ok_UN_lookAt 1 rfl ?_
                have j0 := Option.some.inj h
                obtain ⟨i1, j1⟩ := Prod.mk.inj j0
                subst i1
                subst j1
                exact gv_Rz ok_UN_lookAt rfl rfl (by decide)
              · rw [if_neg c13] at h
                refine gv_brF c13 ?_
                refine gv_B ok_UN_lookAt 2 rfl ?_
                have j0 := Option.some.inj h
                obtain ⟨i1, j1⟩ := Prod.mk.inj j0
                subst i1
                subst j1
                exact gv_Rz ok_UN_lookAt rfl rfl (by decide)
            · rw [if_neg c12] at h
              refine gv_brF c12 ?_
              refine gv_B ok_UN_lookAt 5 rfl ?_
              by_cases c14 : ¬ (x1 &&& 7) = 7
              · rw [if_pos c14] at h
                refine gv_brT c14 ?_
                refine gv_B ok_UN_lookAt 3 rfl ?_
                by_cases c15 : ¬ x0 = x1
                · rw [if_pos c15] at h
                  refine gv_brT c15 ?_
                  refine gv_B ok_UN_lookAt 1 rfl ?_
                  have j0 := Option.some.inj h
                  obtain ⟨i1, j1⟩ := Prod.mk.inj j0
                  subst i1
                  subst j1
                  exact gv_Rz ok_UN_lookAt rfl rfl (by decide)
                · rw [if_neg c15] at h
                  refine gv_brF c15 ?_
                  refine gv_B ok_UN_lookAt 2 rfl ?_
                  have j0 := Option.some.inj h
                  obtain ⟨i1, j1⟩ := Prod.mk.inj j0
                  subst i1
                  subst j1
                  exact gv_Rz ok_UN_lookAt rfl rfl (by decide)
              · rw [if_neg c14] at h
                refine gv_brF c14 ?_
                refine gv_B ok_UN_lookAt 3 rfl ?_
                obtain ⟨v17, μ18, e16, h⟩ := b2_e h
                refine gv_Vc ok_UN_lookAt rfl mk_UN_openArguments rfl (t_UN_openArguments (d := d + 1) e16) rfl rfl (Nat.le_of_ble_eq_true rfl) rfl rfl rfl ?_
                by_cases c20 : (v17 = 0 ∨ v17 = 1)
                · rw [if_pos c20] at h
                  have j0 := Option.some.inj h
                  obtain ⟨i1, j1⟩ := Prod.mk.inj j0
                  subst i1
                  subst j1
                  exact gv_Rz ok_UN_lookAt rfl rfl c20
                · rw [if_neg c20] at h
                  cases h
          · rw [if_neg c11] at h
            refine gv_brF c11 ?_
            refine gv_B ok_UN_lookAt 3 rfl ?_
            obtain ⟨v22, μ23, e21, h⟩ := b2_e h
            refine gv_Vc ok_UN_lookAt rfl mk_UN_bindUnlessInside rfl (t_UN_bindUnlessInside (d := d) e21) rfl rfl (Nat.le_of_ble_eq_true rfl) rfl rfl rfl ?_
            by_cases c25 : (v22 = 0 ∨ v22 = 1)
            · rw [if_pos c25] at h
              have j0 := Option.some.inj h
              obtain ⟨i1, j1⟩ := Prod.mk.inj j0
              subst i1
              subst j1
              exact gv_Rz ok_UN_lookAt rfl rfl c25
            · rw [if_neg c25] at h
              cases h
        · rw [if_neg c10] at h
          refine gv_brF c10 ?_
          refine gv_B ok_UN_lookAt 3 rfl ?_
          obtain ⟨v27, μ28, e26, h⟩ := b2_e h
          refine gv_Vc ok_UN_lookAt rfl mk_UN_bindUnlessInside rfl (t_UN_bindUnlessInside (d := d) e26) rfl rfl (Nat.le_of_ble_eq_true rfl) rfl rfl rfl ?_
          by_cases c30 : (v27 = 0 ∨ v27 = 1)
          · rw [if_pos c30] at h
            have j0 := Option.some.inj h
            obtain ⟨i1, j1⟩ := Prod.mk.inj j0
            subst i1
            subst j1
            exact gv_Rz ok_UN_lookAt rfl rfl c30
          · rw [if_neg c30] at h
            cases h
      · rw [if_neg c9] at h
        refine gv_brF c9 ?_
        refine gv_B ok_UN_lookAt 2 rfl ?_
        by_cases c31 : v5 = 0
        · rw [if_pos c31] at h
          refine gv_brT c31 ?_
          refine gv_B ok_UN_lookAt 2 rfl ?_
          by_cases c32 : v1 = 0
          · rw [if_pos c32] at h
            refine gv_brT c32 ?_
            refine gv_B ok_UN_lookAt 2 rfl ?_
            by_cases c33 : v5 = 0
            · rw [if_pos c33] at h
              refine gv_brT c33 ?_
              refine gv_B ok_UN_lookAt 5 rfl ?_
              by_cases c34 : ¬ (x0 &&& 7) = 7
              · rw [if_pos c34] at h
                refine gv_brT c34 ?_
                refine gv_B ok_UN_lookAt 3 rfl ?_
                by_cases c35 : ¬ x0 = x1
                · rw [if_pos c35] at h
                  refine gv_brT c35 ?_
                  refine gv_B ok_UN_lookAt 1 rfl ?_
                  have j0 := Option.some.inj h
                  obtain ⟨i1, j1⟩ := Prod.mk.inj j0
                  subst i1
                  subst j1
                  exact gv_Rz ok_UN_lookAt rfl rfl (by decide)
                · rw [if_neg c35] at h
                  refine gv_brF c35 ?_
                  refine gv_B ok_UN_lookAt 2 rfl ?_
                  have j0 := Option.some.inj h
                  obtain ⟨i1, j1⟩ := Prod.mk.inj j0
                  subst i1
                  subst j1
                  exact gv_Rz ok_UN_lookAt rfl rfl (by decide)
              · rw [if_neg c34] at h
                refine gv_brF c34 ?_
                refine gv_B ok_UN_lookAt 5 rfl ?_
                by_cases c36 : ¬ (x1 &&& 7) = 7
                · rw [if_pos c36] at h
                  refine gv_brT c36 ?_
                  refine gv_B ok_UN_lookAt 3 rfl ?_
                  by_cases c37 : ¬ x0 = x1
                  · rw [if_pos c37] at h
                    refine gv_brT c37 ?_
                    refine gv_B ok_UN_lookAt 1 rfl ?_
                    have j0 := Option.some.inj h
                    obtain ⟨i1, j1⟩ := Prod.mk.inj j0
                    subst i1
                    subst j1
                    exact gv_Rz ok_UN_lookAt rfl rfl (by decide)
                  · rw [if_neg c37] at h
                    refine gv_brF c37 ?_
                    refine gv_B ok_UN_lookAt 2 rfl ?_
                    have j0 := Option.some.inj h
                    obtain ⟨i1, j1⟩ := Prod.mk.inj j0
                    subst i1
                    subst j1
                    exact gv_Rz ok_UN_lookAt rfl rfl (by decide)
                · rw [if_neg c36] at h
                  refine gv_brF c36 ?_
                  refine gv_B ok_UN_lookAt 3 rfl ?_
                  obtain ⟨v39, μ40, e38, h⟩ := b2_e h
                  refine gv_Vc ok_UN_lookAt rfl mk_UN_openArguments rfl (t_UN_openArguments (d := d + 1) e38) rfl rfl (Nat.le_of_ble_eq_true rfl) rfl rfl rfl ?_
                  by_cases c42 : (v39 = 0 ∨ v39 = 1)
                  · rw [if_pos c42] at h
                    have j0 := Option.some.inj h
                    obtain ⟨i1, j1⟩ := Prod.mk.inj j0
                    subst i1
                    subst j1
                    exact gv_Rz ok_UN_lookAt rfl rfl c42
                  · rw [if_neg c42] at h
                    cases h
            · rw [if_neg c33] at h
              refine gv_brF c33 ?_
              refine gv_B ok_UN_lookAt 3 rfl ?_
              obtain ⟨v44, μ45, e43, h⟩ := b2_e h
              refine gv_Vc ok_UN_lookAt rfl mk_UN_bindUnlessInside rfl (t_UN_bindUnlessInside (d := d) e43) rfl rfl (Nat.le_of_ble_eq_true rfl) rfl rfl rfl ?_
              by_cases c47 : (v44 = 0 ∨ v44 = 1)
              · rw [if_pos c47] at h
                have j0 := Option.some.inj h
                obtain ⟨i1, j1⟩ := Prod.mk.inj j0
                subst i1
                subst j1
                exact gv_Rz ok_UN_lookAt rfl rfl c47
              · rw [if_neg c47] at h
                cases h
          · rw [if_neg c32] at h
            refine gv_brF c32 ?_
            refine gv_B ok_UN_lookAt 3 rfl ?_
            obtain ⟨v49, μ50, e48, h⟩ := b2_e h
            refine gv_Vc ok_UN_lookAt rfl mk_UN_bindUnlessInside rfl (t_UN_bindUnlessInside (d := d) e48) rfl rfl (Nat.le_of_ble_eq_true rfl) rfl rfl rfl ?_
            by_cases c52 : (v49 = 0 ∨ v49 = 1)
            · rw [if_pos c52] at h
              have j0 := Option.some.inj h
              obtain ⟨i1, j1⟩ := Prod.mk.inj j0
              subst i1
              subst j1
              exact gv_Rz ok_UN_lookAt rfl rfl c52
            · rw [if_neg c52] at h
              cases h
        · rw [if_neg c31] at h
          refine gv_brF c31 ?_
          refine gv_B ok_UN_lookAt 3 rfl ?_
          obtain ⟨μ54, e53, h⟩ := b1_e h
          refine gv_Vc ok_UN_lookAt rfl mk_UN_bindLater rfl (t_UN_bindLater (d := d + 1) e53) rfl rfl (Nat.le_of_ble_eq_true rfl) rfl rfl rfl ?_
          refine gv_B ok_UN_lookAt 1 rfl ?_
          have j0 := Option.some.inj h
          obtain ⟨i1, j1⟩ := Prod.mk.inj j0
          subst i1
          subst j1
          exact gv_Rz ok_UN_lookAt rfl rfl (by decide)
    clear h
    have h := e6
    clear e6
    by_cases c8 : ¬ (x1 &&& 7) = 0
    · rw [if_pos c8] at h
      refine gv_brT c8 ?_
      refine gv_B ok_UN_lookAt 1 rfl ?_
      have h9 := Option.some.inj h
      subst h9
      exact K7
    · rw [if_neg c8] at h
      refine gv_brF c8 ?_
      refine gv_B ok_UN_lookAt 2 rfl ?_
      have h9 := Option.some.inj h
      subst h9
      exact K7
  clear h
  have h := e2
  clear e2
  by_cases c4 : ¬ (x0 &&& 7) = 0
  · rw [if_pos c4] at h
    refine gv_brT c4 ?_
    refine gv_B ok_UN_lookAt 1 rfl ?_
    have h9 := Option.some.inj h
    subst h9
    exact K3
  · rw [if_neg c4] at h
    refine gv_brF c4 ?_
    refine gv_B ok_UN_lookAt 2 rfl ?_
    have h9 := Option.some.inj h
    subst h9
    exact K3
def f_UN_unify_21 : Nat → Int32 → Mu → Option (Int32 × Mu)
  | 0, _, _ => none
  | f + 1, y3, μ =>
    (if 300 ≤ y3 then
    (if ¬ (μ 49 4) = 0 then
    some (3, μ)
    else
    some (0, μ))
    else
    (if (μ 49 4) ≤ 0 then
    (if ¬ (μ 49 4) = 0 then
    some (3, μ)
    else
    some (0, μ))
    else
    (b1 (rd (μ 50) 601 ((μ 49 4) - 1)) fun v11 =>
    b1 (f_CE_follow v11 (sI μ 49 4 ((μ 49 4) - 1))) fun v14 =>
    b1 (rd (μ 51) 601 ((μ 49 4) - 1)) fun v15 =>
    b1 (f_CE_follow v15 (sI μ 49 4 ((μ 49 4) - 1))) fun v18 =>
    b2 (f_UN_lookAt v14 v18 (sI μ 49 4 ((μ 49 4) - 1))) fun v20 μ21 =>
    if ¬ v20 = 0 then
    f_UN_unify_21 f (y3 + 1) μ21
    else
    some (1, μ21))))
def f_UN_unify (x0 : Int32) (x1 : Int32) (μ : Mu) : Option (Int32 × Mu) :=
  (b1 (wr μ 50 601 0 x0) fun μ1 =>
  b1 (wr μ1 51 601 0 x1) fun μ4 =>
  f_UN_unify_21 fu 0 (sI μ4 49 4 1))
theorem t_UN_unify_21 (fl : Nat) : ∀ {y3 : Int32} {μ : Mu} {r : Int32} {μr : Mu}, f_UN_unify_21 fl y3 μ = some (r, μr) → gv_go G M_UN_unify (d + 4) (.inl (some (gI r))) (hp n acc g cap μr) 21 [some (gR 49), none, none, some (gI y3)] [] (hp n acc g cap μ) := by
  induction fl with
  | zero => intro _ _ _ _ h; cases h
  | succ f ih =>
    intro y3 μ r μr h
    unfold f_UN_unify_21 at h
    refine gv_B ok_UN_unify 3 rfl ?_
    by_cases c7 : 300 ≤ y3
    · rw [if_pos c7] at h
      refine gv_brT c7 ?_
      refine gv_B ok_UN_unify 3 rfl ?_
      by_cases c8 : ¬ (μ 49 4) = 0
      · rw [if_pos c8] at h
        refine gv_brT c8 ?_
        refine gv_B ok_UN_unify 1 rfl ?_
        have j0 := Option.some.inj h
        obtain ⟨i1, j1⟩ := Prod.mk.inj j0
        subst i1
        subst j1
        exact gv_Ri ok_UN_unify rfl rfl
      · rw [if_neg c8] at h
        refine gv_brF c8 ?_
        refine gv_B ok_UN_unify 2 rfl ?_
        have j0 := Option.some.inj h
        obtain ⟨i1, j1⟩ := Prod.mk.inj j0
        subst i1
        subst j1
        exact gv_Ri ok_UN_unify rfl rfl
    · rw [if_neg c7] at h
      refine gv_brF c7 ?_
      refine gv_B ok_UN_unify 3 rfl ?_
      by_cases c9 : (μ 49 4) ≤ 0
      · rw [if_pos c9] at h
        refine gv_brT c9 ?_
        refine gv_B ok_UN_unify 3 rfl ?_
        by_cases c10 : ¬ (μ 49 4) = 0
        · rw [if_pos c10] at h
          refine gv_brT c10 ?_
          refine gv_B ok_UN_unify 1 rfl ?_
          have j0 := Option.some.inj h
          obtain ⟨i1, j1⟩ := Prod.mk.inj j0
          subst i1
          subst j1
          exact gv_Ri ok_UN_unify rfl rfl
        · rw [if_neg c10] at h
          refine gv_brF c10 ?_
          refine gv_B ok_UN_unify 2 rfl ?_
          have j0 := Option.some.inj h
          obtain ⟨i1, j1⟩ := Prod.mk.inj j0
          subst i1
          subst j1
          exact gv_Ri ok_UN_unify rfl rfl
      · rw [if_neg c9] at h
        refine gv_brF c9 ?_
        refine gv_B ok_UN_unify 5 rfl ?_
        refine hp_pf ok_UN_unify rfl rfl rfl rfl rfl (Nat.le_of_ble_eq_true rfl) rfl ?_
        refine gv_B ok_UN_unify 7 rfl ?_
        obtain ⟨v11, e12, h⟩ := b1_e h
        refine hp_rd ok_UN_unify rfl rfl e12 ?_
        obtain ⟨v14, e13, h⟩ := b1_e h
        refine gv_Vc ok_UN_unify rfl mk_CE_follow rfl (t_CE_follow (d := d + 3) e13) rfl rfl (Nat.le_of_ble_eq_true rfl) rfl rfl rfl ?_
        refine gv_B ok_UN_unify 6 rfl ?_
        obtain ⟨v15, e16, h⟩ := b1_e h
        refine hp_rd ok_UN_unify rfl rfl e16 ?_
        obtain ⟨v18, e17, h⟩ := b1_e h
        refine gv_Vc ok_UN_unify rfl mk_CE_follow rfl (t_CE_follow (d := d + 3) e17) rfl rfl (Nat.le_of_ble_eq_true rfl) rfl rfl rfl ?_
        obtain ⟨v20, μ21, e19, h⟩ := b2_e h
        refine gv_Vc ok_UN_unify rfl mk_UN_lookAt rfl (t_UN_lookAt (d := d) e19) rfl rfl (Nat.le_of_ble_eq_true rfl) rfl rfl rfl ?_
        refine gv_B ok_UN_unify 1 rfl ?_
        by_cases c23 : ¬ v20 = 0
        · rw [if_pos c23] at h
          refine gv_brT c23 ?_
          refine gv_B ok_UN_unify 2 rfl ?_
          exact ih h
        · rw [if_neg c23] at h
          refine gv_brF c23 ?_
          refine gv_B ok_UN_unify 1 rfl ?_
          have j0 := Option.some.inj h
          obtain ⟨i1, j1⟩ := Prod.mk.inj j0
          subst i1
          subst j1
          exact gv_Ri ok_UN_unify rfl rfl
theorem t_UN_unify {x0 : Int32} {x1 : Int32} {μ : Mu} {r : Int32} {μr : Mu} (h : f_UN_unify x0 x1 μ = some (r, μr)) : gv_ev G (d + 4) M_UN_unify [gR 49, gI x0, gI x1] (hp n acc g cap μ) (.inl (some (gI r))) (hp n acc g cap μr) := by
  unfold f_UN_unify at h
  refine gv_E (ls := [some (gR 49), some (gI x0), some (gI x1), none]) (by decide) (fun h => by cases h) (Nat.le_of_ble_eq_true rfl) rfl ?_
  refine gv_B ok_UN_unify 4 rfl ?_
  obtain ⟨μ1, e2, h⟩ := b1_e h
  refine hp_wr ok_UN_unify rfl rfl rfl rfl e2 ?_
  refine gv_B ok_UN_unify 4 rfl ?_
  obtain ⟨μ4, e5, h⟩ := b1_e h
  refine hp_wr ok_UN_unify rfl rfl rfl rfl e5 ?_
  refine gv_B ok_UN_unify 2 rfl ?_
  refine hp_pf ok_UN_unify rfl rfl rfl rfl rfl (Nat.le_of_ble_eq_true rfl) rfl ?_
  refine gv_B ok_UN_unify 2 rfl ?_
  exact gv_fk (t_UN_unify_21 _ h) ⟨rfl, ⟨rfl, trivial⟩⟩
end FNT
