/-! methods as functions of the numbers (written by wip/tools/genf.py, mkf.py) -/
section FNP
variable {G : gv_G} {d n g cap : Nat} {acc : Nat × Nat}
def f_MO_mark_135 (k3 : Int32) : Nat → Int32 → Mu → Option (Mu)
  | 0, _, _ => none
  | f + 1, y4, μ =>
    (b1 (rd (μ 78) 240 k3) fun v22 =>
    b1 (f_MO_arity v22 μ) fun v25 =>
    if v25 ≤ y4 then
    some (μ)
    else
    (b1 (rd (μ 79) 720 ((3 * k3) + y4)) fun v27 =>
    b1 (wr μ 90 240 v27 (μ 70 34)) fun μ29 =>
    f_MO_mark_135 k3 f (y4 + 1) μ29))
def f_MO_mark_6 : Nat → Mu → Option (Mu)
  | 0, _ => none
  | f + 1, μ =>
    (if (μ 70 30) ≤ 0 then
    some (μ)
    else
    (b1 (rd (μ 89) 1600 ((μ 70 30) - 1)) fun v5 =>
    b1 (rd (μ 88) 1600 ((μ 70 30) - 1)) fun v7 =>
    b1 (if ¬ v7 = 0 then
    (b1 (rd (μ 88) 1600 ((μ 70 30) - 1)) fun v13 =>
    if ¬ v13 = 3 then
    some ((sI μ 70 30 ((μ 70 30) - 1)))
    else
    (b1 (rd (μ 90) 240 v5) fun v16 =>
    if v16 = (μ 70 34) then
    some ((sI μ 70 30 ((μ 70 30) - 1)))
    else
    (b1 (wr (sI μ 70 30 ((μ 70 30) - 1)) 90 240 v5 (μ 70 34)) fun μ19 =>
    b1 (f_MO_mark_135 v5 fu 0 μ19) fun μ32 =>
    b1 (f_MO_pushArguments v5 μ32) fun μ37 =>
    some (μ37))))
    else
    (b1 (rd (μ 90) 240 v5) fun v39 =>
    if v39 = (μ 70 34) then
    (b1 (rd (μ 88) 1600 ((μ 70 30) - 1)) fun v42 =>
    if ¬ v42 = 3 then
    some ((sI μ 70 30 ((μ 70 30) - 1)))
    else
    (b1 (rd (μ 90) 240 v5) fun v45 =>
    if v45 = (μ 70 34) then
    some ((sI μ 70 30 ((μ 70 30) - 1)))
    else
    (b1 (wr (sI μ 70 30 ((μ 70 30) - 1)) 90 240 v5 (μ 70 34)) fun μ48 =>
    b1 (f_MO_mark_135 v5 fu 0 μ48) fun μ61 =>
    b1 (f_MO_pushArguments v5 μ61) fun μ66 =>
    some (μ66))))
    else
    (b1 (wr (sI μ 70 30 ((μ 70 30) - 1)) 90 240 v5 (μ 70 34)) fun μ68 =>
    b1 (rd (μ68 76) 240 v5) fun v71 =>
    if v71 < 0 then
    some (μ68)
    else
    (b1 (rd (μ68 76) 240 v5) fun v74 =>
    b1 (rd (μ68 77) 240 v5) fun v76 =>
    b1 (f_MO_push v74 v76 μ68) fun μ79 =>
    some (μ79))))) fun μ9 =>
    f_MO_mark_6 f μ9))
def f_MO_mark (x0 : Int32) (x1 : Int32) (μ : Mu) : Option (Mu) :=
  (b1 (f_MO_push x0 x1 μ) fun μ2 =>
  b1 (f_MO_mark_6 fu μ2) fun μ82 =>
  some (μ82))
theorem t_MO_mark_135 {r : gv_O} {hf : gv_H} {k3 : Int32} (fl : Nat) : ∀ {y4 : Int32} {μ : Mu} {μz : Mu}, f_MO_mark_135 k3 fl y4 μ = some (μz) → gv_go G M_MO_mark (d + 2) r hf 176 [some (gR 70), none, none, some (gI k3), none] [] (hp n acc g cap μz) → gv_go G M_MO_mark (d + 2) r hf 135 [some (gR 70), none, none, some (gI k3), some (gI y4)] [] (hp n acc g cap μ) := by
  induction fl with
  | zero => intro _ _ _ h _; cases h
  | succ f ih =>
    intro y4 μ μz h KJ
    unfold f_MO_mark_135 at h
    refine gv_B ok_MO_mark 5 rfl ?_
    obtain ⟨v22, e23, h⟩ := b1_e h
    refine hp_rd ok_MO_mark rfl rfl e23 ?_
    obtain ⟨v25, e24, h⟩ := b1_e h
    refine gv_Vc ok_MO_mark rfl mk_MO_arity rfl (t_MO_arity (d := d + 1) e24) rfl rfl (Nat.le_of_ble_eq_true rfl) rfl rfl rfl ?_
    refine gv_B ok_MO_mark 1 rfl ?_
    by_cases c26 : v25 ≤ y4
    · rw [if_pos c26] at h
      refine gv_brT c26 ?_
      have h9 := Option.some.inj h
      subst h9
      exact gv_fk KJ ⟨rfl, ⟨rfl, trivial⟩⟩
    · rw [if_neg c26] at h
      refine gv_brF c26 ?_
      refine gv_B ok_MO_mark 9 rfl ?_
      obtain ⟨v27, e28, h⟩ := b1_e h
      refine hp_rd ok_MO_mark rfl rfl e28 ?_
      refine gv_B ok_MO_mark 2 rfl ?_
      obtain ⟨μ29, e30, h⟩ := b1_e h
      refine hp_wr ok_MO_mark rfl rfl rfl rfl e30 ?_
      refine gv_B ok_MO_mark 2 rfl ?_
      exact ih h KJ
theorem t_MO_mark_6 {r : gv_O} {hf : gv_H} (fl : Nat) : ∀ {μ : Mu} {μz : Mu}, f_MO_mark_6 fl μ = some (μz) → gv_go G M_MO_mark (d + 2) r hf 184 [none, none, none, none, none] [] (hp n acc g cap μz) → gv_go G M_MO_mark (d + 2) r hf 6 [some (gR 70), none, none, none, none] [] (hp n acc g cap μ) := by
  induction fl with
  | zero => intro _ _ h _; cases h
  | succ f ih =>
    intro μ μz h KJ
    unfold f_MO_mark_6 at h
    refine gv_B ok_MO_mark 3 rfl ?_
    by_cases c4 : (μ 70 30) ≤ 0
    · rw [if_pos c4] at h
      refine gv_brT c4 ?_
      have h9 := Option.some.inj h
      subst h9
      exact gv_fk KJ trivial
    · rw [if_neg c4] at h
      refine gv_brF c4 ?_
      refine gv_B ok_MO_mark 5 rfl ?_
      refine hp_pf ok_MO_mark rfl rfl rfl rfl rfl (Nat.le_of_ble_eq_true rfl) rfl ?_
      refine gv_B ok_MO_mark 4 rfl ?_
      obtain ⟨v5, e6, h⟩ := b1_e h
      refine hp_rd ok_MO_mark rfl rfl e6 ?_
      refine gv_B ok_MO_mark 5 rfl ?_
      obtain ⟨v7, e8, h⟩ := b1_e h
      refine hp_rd ok_MO_mark rfl rfl e8 ?_
      refine gv_B ok_MO_mark 1 rfl ?_
      obtain ⟨μ9, e10, h⟩ := b1_e h
      have K11 : gv_go G M_MO_mark (d + 2) r hf 181 [some (gR 70), none, none, none, none] [] (hp n acc g cap μ9) := by
        refine gv_B ok_MO_mark 1 rfl ?_
        exact ih h KJ
      clear h
      have h := e10
      clear e10
      by_cases c12 : ¬ v7 = 0
      · rw [if_pos c12] at h
        refine gv_brT c12 ?_
        refine gv_B ok_MO_mark 4 rfl ?_
        obtain ⟨v13, e14, h⟩ := b1_e h
        refine hp_rd ok_MO_mark rfl rfl e14 ?_
        refine gv_B ok_MO_mark 2 rfl ?_
        by_cases c15 : ¬ v13 = 3
        · rw [if_pos c15] at h
          refine gv_brT c15 ?_
          have h9 := Option.some.inj h
          subst h9
          exact gv_fk K11 ⟨rfl, trivial⟩
        · rw [if_neg c15] at h
          refine gv_brF c15 ?_
          refine gv_B ok_MO_mark 3 rfl ?_
          obtain ⟨v16, e17, h⟩ := b1_e h
          refine hp_rd ok_MO_mark rfl rfl e17 ?_
          refine gv_B ok_MO_mark 3 rfl ?_
          by_cases c18 : v16 = (μ 70 34)
          · rw [if_pos c18] at h
            refine gv_brT c18 ?_
            have h9 := Option.some.inj h
            subst h9
            exact gv_fk K11 ⟨rfl, trivial⟩
          · rw [if_neg c18] at h
            refine gv_brF c18 ?_
            refine gv_B ok_MO_mark 5 rfl ?_
            obtain ⟨μ19, e20, h⟩ := b1_e h
            refine hp_wr ok_MO_mark rfl rfl rfl rfl e20 ?_
            refine gv_B ok_MO_mark 2 rfl ?_
            obtain ⟨μ32, e33, h⟩ := b1_e h
            have K34 : gv_go G M_MO_mark (d + 2) r hf 176 [some (gR 70), none, none, some (gI v5), none] [] (hp n acc g cap μ32) := by
              refine gv_B ok_MO_mark 2 rfl ?_
              obtain ⟨μ37, e36, h⟩ := b1_e h
              refine gv_Vc ok_MO_mark rfl mk_MO_pushArguments rfl (t_MO_pushArguments (d := d) e36) rfl rfl (Nat.le_of_ble_eq_true rfl) rfl rfl rfl ?_
              have h9 := Option.some.inj h
              subst h9
              exact gv_fk K11 ⟨rfl, trivial⟩
            exact t_MO_mark_135 _ e33 K34
      · rw [if_neg c12] at h
        refine gv_brF c12 ?_
        refine gv_B ok_MO_mark 3 rfl ?_
        obtain ⟨v39, e40, h⟩ := b1_e h
        refine hp_rd ok_MO_mark rfl rfl e40 ?_
        refine gv_B ok_MO_mark 3 rfl ?_
        by_cases c41 : v39 = (μ 70 34)
        · rw [if_pos c41] at h
          refine gv_brT c41 ?_
          refine gv_B ok_MO_mark 4 rfl ?_
          obtain ⟨v42, e43, h⟩ := b1_e h
          refine hp_rd ok_MO_mark rfl rfl e43 ?_
          refine gv_B ok_MO_mark 2 rfl ?_
          by_cases c44 : ¬ v42 = 3
          · rw [if_pos c44] at h
            refine gv_brT c44 ?_
            have h9 := Option.some.inj h
            subst h9
            exact gv_fk K11 ⟨rfl, trivial⟩
          · rw [if_neg c44] at h
            refine gv_brF c44 ?_
            refine gv_B ok_MO_mark 3 rfl ?_
            obtain ⟨v45, e46, h⟩ := b1_e h
            refine hp_rd ok_MO_mark rfl rfl e46 ?_
            refine gv_B ok_MO_mark 3 rfl ?_
            by_cases c47 : v45 = (μ 70 34)
            · rw [if_pos c47] at h
              refine gv_brT c47 ?_
              have h9 := Option.some.inj h
              subst h9
              exact gv_fk K11 ⟨rfl, trivial⟩
            · rw [if_neg c47] at h
              refine gv_brF c47 ?_
              refine gv_B ok_MO_mark 5 rfl ?_
              obtain ⟨μ48, e49, h⟩ := b1_e h
              refine hp_wr ok_MO_mark rfl rfl rfl rfl e49 ?_
              refine gv_B ok_MO_mark 2 rfl ?_
              obtain ⟨μ61, e62, h⟩ := b1_e h
              have K63 : gv_go G M_MO_mark (d + 2) r hf 176 [some (gR 70), none, none, some (gI v5), none] [] (hp n acc g cap μ61) := by
                refine gv_B ok_MO_mark 2 rfl ?_
                obtain ⟨μ66, e65, h⟩ := b1_e h
                refine gv_Vc ok_MO_mark rfl mk_MO_pushArguments rfl (t_MO_pushArguments (d := d) e65) rfl rfl (Nat.le_of_ble_eq_true rfl) rfl rfl rfl ?_
                have h9 := Option.some.inj h
                subst h9
                exact gv_fk K11 ⟨rfl, trivial⟩
              exact t_MO_mark_135 _ e62 K63
        · rw [if_neg c41] at h
          refine gv_brF c41 ?_
          refine gv_B ok_MO_mark 5 rfl ?_
          obtain ⟨μ68, e69, h⟩ := b1_e h
          refine hp_wr ok_MO_mark rfl rfl rfl rfl e69 ?_
          refine gv_B ok_MO_mark 3 rfl ?_
          obtain ⟨v71, e72, h⟩ := b1_e h
          refine hp_rd ok_MO_mark rfl rfl e72 ?_
          refine gv_B ok_MO_mark 1 rfl ?_
          by_cases c73 : v71 < 0
          · rw [if_pos c73] at h
            refine gv_brT c73 ?_
            have h9 := Option.some.inj h
            subst h9
            exact gv_fk K11 ⟨rfl, trivial⟩
          · rw [if_neg c73] at h
            refine gv_brF c73 ?_
            refine gv_B ok_MO_mark 4 rfl ?_
            obtain ⟨v74, e75, h⟩ := b1_e h
            refine hp_rd ok_MO_mark rfl rfl e75 ?_
            refine gv_B ok_MO_mark 3 rfl ?_
            obtain ⟨v76, e77, h⟩ := b1_e h
            refine hp_rd ok_MO_mark rfl rfl e77 ?_
            obtain ⟨μ79, e78, h⟩ := b1_e h
            refine gv_Vc ok_MO_mark rfl mk_MO_push rfl (t_MO_push (d := d + 1) e78) rfl rfl (Nat.le_of_ble_eq_true rfl) rfl rfl rfl ?_
            refine gv_B ok_MO_mark 1 rfl ?_
            have h9 := Option.some.inj h
            subst h9
            exact gv_fk K11 ⟨rfl, trivial⟩
theorem t_MO_mark {x0 : Int32} {x1 : Int32} {μ : Mu} {μr : Mu} (h : f_MO_mark x0 x1 μ = some (μr)) : gv_ev G (d + 2) M_MO_mark [gR 70, gI x0, gI x1] (hp n acc g cap μ) (.inl none) (hp n acc g cap μr) := by
  unfold f_MO_mark at h
  refine gv_E (ls := [some (gR 70), some (gI x0), some (gI x1), none, none]) (by decide) (fun h => by cases h) (Nat.le_of_ble_eq_true rfl) rfl ?_
  refine gv_B ok_MO_mark 3 rfl ?_
  obtain ⟨μ2, e1, h⟩ := b1_e h
  refine gv_Vc ok_MO_mark rfl mk_MO_push rfl (t_MO_push (d := d + 1) e1) rfl rfl (Nat.le_of_ble_eq_true rfl) rfl rfl rfl ?_
  obtain ⟨μ82, e83, h⟩ := b1_e h
  have K84 : gv_go G M_MO_mark (d + 2) (.inl none) (hp n acc g cap μr) 184 [none, none, none, none, none] [] (hp n acc g cap μ82) := by
    have h9 := Option.some.inj h
    subst h9
    exact gv_Rv ok_MO_mark rfl rfl
  exact gv_fk (t_MO_mark_6 _ e83 K84) ⟨rfl, trivial⟩
def f_MO_kindOf (x0 : Int32) (μ : Mu) : Option (Int32) :=
  (b1 (rd (μ 80) 8900 x0) fun v1 =>
  some ((v1 &&& 7)))
theorem t_MO_kindOf {x0 : Int32} {μ : Mu} {r : Int32} (h : f_MO_kindOf x0 μ = some (r)) : gv_ev G (d + 0) M_MO_kindOf [gR 70, gI x0] (hp n acc g cap μ) (.inl (some (gI r))) (hp n acc g cap μ) := by
  unfold f_MO_kindOf at h
  refine gv_E (ls := [some (gR 70), some (gI x0)]) (by decide) (fun h => by cases h) (Nat.le_of_ble_eq_true rfl) rfl ?_
  refine gv_B ok_MO_kindOf 3 rfl ?_
  obtain ⟨v1, e2, h⟩ := b1_e h
  refine hp_rd ok_MO_kindOf rfl rfl e2 ?_
  refine gv_B ok_MO_kindOf 2 rfl ?_
  have h9 := Option.some.inj h
  subst h9
  exact gv_Ri ok_MO_kindOf rfl rfl
def f_MO_valueOf (x0 : Int32) (μ : Mu) : Option (Int32) :=
  (b1 (rd (μ 80) 8900 x0) fun v1 =>
  some (((v1 >>> ((3 : Int32) &&& 31)) &&& 255)))
theorem t_MO_valueOf {x0 : Int32} {μ : Mu} {r : Int32} (h : f_MO_valueOf x0 μ = some (r)) : gv_ev G (d + 0) M_MO_valueOf [gR 70, gI x0] (hp n acc g cap μ) (.inl (some (gI r))) (hp n acc g cap μ) := by
  unfold f_MO_valueOf at h
  refine gv_E (ls := [some (gR 70), some (gI x0)]) (by decide) (fun h => by cases h) (Nat.le_of_ble_eq_true rfl) rfl ?_
  refine gv_B ok_MO_valueOf 3 rfl ?_
  obtain ⟨v1, e2, h⟩ := b1_e h
  refine hp_rd ok_MO_valueOf rfl rfl e2 ?_
  refine gv_B ok_MO_valueOf 4 rfl ?_
  have h9 := Option.some.inj h
  subst h9
  exact gv_Ri ok_MO_valueOf rfl rfl
def f_MO_markGoals_2 : Nat → Int32 → Mu → Option (Mu)
  | 0, _, _ => none
  | f + 1, y2, μ =>
    (if y2 < 0 then
    some (μ)
    else
    (b1 (f_MO_kindOf y2 μ) fun v3 =>
    b1 (f_MO_valueOf y2 μ) fun v5 =>
    b1 (f_MO_mark v3 v5 μ) fun μ7 =>
    b1 (rd (μ7 81) 8900 y2) fun v9 =>
    f_MO_markGoals_2 f v9 μ7))
def f_MO_markGoals (x0 : Int32) (μ : Mu) : Option (Mu) :=
  (b1 (f_MO_markGoals_2 fu x0 μ) fun μ11 =>
  some (μ11))
theorem t_MO_markGoals_2 {r : gv_O} {hf : gv_H} (fl : Nat) : ∀ {y2 : Int32} {μ : Mu} {μz : Mu}, f_MO_markGoals_2 fl y2 μ = some (μz) → gv_go G M_MO_markGoals (d + 3) r hf 30 [none, none, none] [] (hp n acc g cap μz) → gv_go G M_MO_markGoals (d + 3) r hf 2 [some (gR 70), none, some (gI y2)] [] (hp n acc g cap μ) := by
  induction fl with
  | zero => intro _ _ _ h _; cases h
  | succ f ih =>
    intro y2 μ μz h KJ
    unfold f_MO_markGoals_2 at h
    refine gv_B ok_MO_markGoals 2 rfl ?_
    by_cases c1 : y2 < 0
    · rw [if_pos c1] at h
      refine gv_brT c1 ?_
      have h9 := Option.some.inj h
      subst h9
      exact gv_fk KJ trivial
    · rw [if_neg c1] at h
      refine gv_brF c1 ?_
      refine gv_B ok_MO_markGoals 3 rfl ?_
      obtain ⟨v3, e2, h⟩ := b1_e h
      refine gv_Vc ok_MO_markGoals rfl mk_MO_kindOf rfl (t_MO_kindOf (d := d + 2) e2) rfl rfl (Nat.le_of_ble_eq_true rfl) rfl rfl rfl ?_
      refine gv_B ok_MO_markGoals 2 rfl ?_
      obtain ⟨v5, e4, h⟩ := b1_e h
      refine gv_Vc ok_MO_markGoals rfl mk_MO_valueOf rfl (t_MO_valueOf (d := d + 2) e4) rfl rfl (Nat.le_of_ble_eq_true rfl) rfl rfl rfl ?_
      obtain ⟨μ7, e6, h⟩ := b1_e h
      refine gv_Vc ok_MO_markGoals rfl mk_MO_mark rfl (t_MO_mark (d := d) e6) rfl rfl (Nat.le_of_ble_eq_true rfl) rfl rfl rfl ?_
      refine gv_B ok_MO_markGoals 3 rfl ?_
      obtain ⟨v9, e10, h⟩ := b1_e h
      refine hp_rd ok_MO_markGoals rfl rfl e10 ?_
      refine gv_B ok_MO_markGoals 2 rfl ?_
      exact ih h KJ
theorem t_MO_markGoals {x0 : Int32} {μ : Mu} {μr : Mu} (h : f_MO_markGoals x0 μ = some (μr)) : gv_ev G (d + 3) M_MO_markGoals [gR 70, gI x0] (hp n acc g cap μ) (.inl none) (hp n acc g cap μr) := by
  unfold f_MO_markGoals at h
  refine gv_E (ls := [some (gR 70), some (gI x0), none]) (by decide) (fun h => by cases h) (Nat.le_of_ble_eq_true rfl) rfl ?_
  refine gv_B ok_MO_markGoals 2 rfl ?_
  obtain ⟨μ11, e12, h⟩ := b1_e h
  have K13 : gv_go G M_MO_markGoals (d + 3) (.inl none) (hp n acc g cap μr) 30 [none, none, none] [] (hp n acc g cap μ11) := by
    have h9 := Option.some.inj h
    subst h9
    exact gv_Rv ok_MO_markGoals rfl rfl
  exact gv_fk (t_MO_markGoals_2 _ e12 K13) ⟨rfl, ⟨rfl, trivial⟩⟩
def f_MO_free_45 : Nat → Int32 → Mu → Option (Mu)
  | 0, _, _ => none
  | f + 1, y3, μ =>
    (if 8 ≤ y3 then
    some (μ)
    else
    (b1 (rd (μ 87) 8 y3) fun v13 =>
    b1 (if v13 < 0 then
    some (μ)
    else
    (b1 (rd (μ 87) 8 y3) fun v19 =>
    b1 (f_MO_mark 0 v19 μ) fun μ22 =>
    some (μ22))) fun μ15 =>
    f_MO_free_45 f (y3 + 1) μ15))
def f_MO_free_105 (k3 : Int32) : Nat → Int32 → Mu → Option (Mu)
  | 0, _, _ => none
  | f + 1, y4, μ =>
    (if (μ 70 23) ≤ y4 then
    some (μ)
    else
    (b1 (rd (μ 86) 2600 y4) fun v38 =>
    b1 (rd (μ 74) 240 v38) fun v40 =>
    b1 (if ¬ v40 = 1 then
    some (μ)
    else
    (b1 (rd (μ 76) 240 v38) fun v46 =>
    if v46 < 0 then
    some (μ)
    else
    (b1 (rd (μ 75) 240 v38) fun v49 =>
    b1 (rd (μ 84) 320 k3) fun v51 =>
    if v51 ≤ v49 then
    some (μ)
    else
    (b1 (f_MO_mark 0 v38 μ) fun μ55 =>
    some (μ55))))) fun μ42 =>
    f_MO_free_105 k3 f (y4 + 1) μ42))
def f_MO_free_79 : Nat → Int32 → Mu → Option (Mu)
  | 0, _, _ => none
  | f + 1, y3, μ =>
    (if (μ 70 18) ≤ y3 then
    some (μ)
    else
    (b1 (rd (μ 82) 320 y3) fun v30 =>
    b1 (f_MO_markGoals v30 μ) fun μ33 =>
    b1 (rd (μ33 85) 320 y3) fun v35 =>
    b1 (f_MO_free_105 y3 fu v35 μ33) fun μ58 =>
    f_MO_free_79 f (y3 + 1) μ58))
def f_MO_free_184 : Nat → Int32 → Int32 → Mu → Option (Int32 × Mu)
  | 0, _, _, _ => none
  | f + 1, y3, y4, μ =>
    (if 240 ≤ y4 then
    some (y3, μ)
    else
    (b1 (rd (μ 74) 240 y4) fun v67 =>
    b1 (if v67 ≤ 0 then
    some ((0 : Int32))
    else
    (b1 (rd (μ 90) 240 y4) fun v73 =>
    if v73 = (μ 70 34) then
    some ((0 : Int32))
    else
    some ((1 : Int32)))) fun v69 =>
    b1 (if v69 = 0 then
    some ((0 : Int32))
    else
    some ((1 : Int32))) fun v76 =>
    b1 (if v69 = 0 then
    (b1 (rd (μ 74) 240 y4) fun v84 =>
    some (v84))
    else
    some ((0 : Int32))) fun v80 =>
    b1 (wr μ 74 240 y4 v80) fun μ86 =>
    f_MO_free_184 f (y3 + v76) (y4 + 1) μ86))
def f_MO_free (x0 : Int32) (x1 : Int32) (μ : Mu) : Option (Int32 × Mu) :=
  (b1 (if x0 < 0 then
  some ((sI (sI (sI μ 70 34 ((μ 70 34) + 1)) 70 30 0) 70 28 ((μ 70 28) + 1)))
  else
  (b1 (f_MO_mark x0 x1 (sI (sI (sI μ 70 34 ((μ 70 34) + 1)) 70 30 0) 70 28 ((μ 70 28) + 1))) fun μ6 =>
  some (μ6))) fun μ1 =>
  b1 (f_MO_markGoals (μ1 70 16) μ1) fun μ10 =>
  b1 (f_MO_free_45 fu 0 μ10) fun μ25 =>
  b1 (f_MO_free_79 fu 0 μ25) fun μ62 =>
  b2 (f_MO_free_184 fu 0 0 μ62) fun l89 μ90 =>
  some (l89, μ90))
theorem t_MO_free_45 {r : gv_O} {hf : gv_H} (fl : Nat) : ∀ {y3 : Int32} {μ : Mu} {μz : Mu}, f_MO_free_45 fl y3 μ = some (μz) → gv_go G M_MO_free (d + 4) r hf 77 [some (gR 70), none, none, none, none, none] [] (hp n acc g cap μz) → gv_go G M_MO_free (d + 4) r hf 45 [some (gR 70), none, none, some (gI y3), none, none] [] (hp n acc g cap μ) := by
  induction fl with
  | zero => intro _ _ _ h _; cases h
  | succ f ih =>
    intro y3 μ μz h KJ
    unfold f_MO_free_45 at h
    refine gv_B ok_MO_free 3 rfl ?_
    by_cases c12 : 8 ≤ y3
    · rw [if_pos c12] at h
      refine gv_brT c12 ?_
      have h9 := Option.some.inj h
      subst h9
      exact gv_fk KJ ⟨rfl, trivial⟩
    · rw [if_neg c12] at h
      refine gv_brF c12 ?_
      refine gv_B ok_MO_free 3 rfl ?_
      obtain ⟨v13, e14, h⟩ := b1_e h
      refine hp_rd ok_MO_free rfl rfl e14 ?_
      refine gv_B ok_MO_free 1 rfl ?_
      obtain ⟨μ15, e16, h⟩ := b1_e h
      have K17 : gv_go G M_MO_free (d + 4) r hf 71 [some (gR 70), none, none, some (gI y3), none, none] [] (hp n acc g cap μ15) := by
        refine gv_B ok_MO_free 2 rfl ?_
        exact ih h KJ
      clear h
      have h := e16
      clear e16
      by_cases c18 : v13 < 0
      · rw [if_pos c18] at h
        refine gv_brT c18 ?_
        have h9 := Option.some.inj h
        subst h9
        exact K17
      · rw [if_neg c18] at h
        refine gv_brF c18 ?_
        refine gv_B ok_MO_free 5 rfl ?_
        obtain ⟨v19, e20, h⟩ := b1_e h
        refine hp_rd ok_MO_free rfl rfl e20 ?_
        obtain ⟨μ22, e21, h⟩ := b1_e h
        refine gv_Vc ok_MO_free rfl mk_MO_mark rfl (t_MO_mark (d := d + 1) e21) rfl rfl (Nat.le_of_ble_eq_true rfl) rfl rfl rfl ?_
        have h9 := Option.some.inj h
        subst h9
        exact K17
theorem t_MO_free_105 {r : gv_O} {hf : gv_H} {k3 : Int32} (fl : Nat) : ∀ {y4 : Int32} {μ : Mu} {μz : Mu}, f_MO_free_105 k3 fl y4 μ = some (μz) → gv_go G M_MO_free (d + 4) r hf 173 [some (gR 70), none, none, some (gI k3), none, none] [] (hp n acc g cap μz) → gv_go G M_MO_free (d + 4) r hf 105 [some (gR 70), none, none, some (gI k3), some (gI y4), none] [] (hp n acc g cap μ) := by
  induction fl with
  | zero => intro _ _ _ h _; cases h
  | succ f ih =>
    intro y4 μ μz h KJ
    unfold f_MO_free_105 at h
    refine gv_B ok_MO_free 4 rfl ?_
    by_cases c37 : (μ 70 23) ≤ y4
    · rw [if_pos c37] at h
      refine gv_brT c37 ?_
      have h9 := Option.some.inj h
      subst h9
      exact gv_fk KJ ⟨rfl, ⟨rfl, trivial⟩⟩
    · rw [if_neg c37] at h
      refine gv_brF c37 ?_
      refine gv_B ok_MO_free 3 rfl ?_
      obtain ⟨v38, e39, h⟩ := b1_e h
      refine hp_rd ok_MO_free rfl rfl e39 ?_
      refine gv_B ok_MO_free 4 rfl ?_
      obtain ⟨v40, e41, h⟩ := b1_e h
      refine hp_rd ok_MO_free rfl rfl e41 ?_
      refine gv_B ok_MO_free 2 rfl ?_
      obtain ⟨μ42, e43, h⟩ := b1_e h
      have K44 : gv_go G M_MO_free (d + 4) r hf 167 [some (gR 70), none, none, some (gI k3), some (gI y4), none] [] (hp n acc g cap μ42) := by
        refine gv_B ok_MO_free 2 rfl ?_
        exact ih h KJ
      clear h
      have h := e43
      clear e43
      by_cases c45 : ¬ v40 = 1
      · rw [if_pos c45] at h
        refine gv_brT c45 ?_
        have h9 := Option.some.inj h
        subst h9
        exact gv_fk K44 ⟨rfl, ⟨rfl, ⟨rfl, trivial⟩⟩⟩
      · rw [if_neg c45] at h
        refine gv_brF c45 ?_
        refine gv_B ok_MO_free 3 rfl ?_
        obtain ⟨v46, e47, h⟩ := b1_e h
        refine hp_rd ok_MO_free rfl rfl e47 ?_
        refine gv_B ok_MO_free 1 rfl ?_
        by_cases c48 : v46 < 0
        · rw [if_pos c48] at h
          refine gv_brT c48 ?_
          have h9 := Option.some.inj h
          subst h9
          exact gv_fk K44 ⟨rfl, ⟨rfl, ⟨rfl, trivial⟩⟩⟩
        · rw [if_neg c48] at h
          refine gv_brF c48 ?_
          refine gv_B ok_MO_free 3 rfl ?_
          obtain ⟨v49, e50, h⟩ := b1_e h
          refine hp_rd ok_MO_free rfl rfl e50 ?_
          refine gv_B ok_MO_free 3 rfl ?_
          obtain ⟨v51, e52, h⟩ := b1_e h
          refine hp_rd ok_MO_free rfl rfl e52 ?_
          refine gv_B ok_MO_free 1 rfl ?_
          by_cases c53 : v51 ≤ v49
          · rw [if_pos c53] at h
            refine gv_brT c53 ?_
            have h9 := Option.some.inj h
            subst h9
            exact gv_fk K44 ⟨rfl, ⟨rfl, ⟨rfl, trivial⟩⟩⟩
          · rw [if_neg c53] at h
            refine gv_brF c53 ?_
            refine gv_B ok_MO_free 3 rfl ?_
            obtain ⟨μ55, e54, h⟩ := b1_e h
            refine gv_Vc ok_MO_free rfl mk_MO_mark rfl (t_MO_mark (d := d + 1) e54) rfl rfl (Nat.le_of_ble_eq_true rfl) rfl rfl rfl ?_
            have h9 := Option.some.inj h
            subst h9
            exact gv_fk K44 ⟨rfl, ⟨rfl, ⟨rfl, trivial⟩⟩⟩
theorem t_MO_free_79 {r : gv_O} {hf : gv_H} (fl : Nat) : ∀ {y3 : Int32} {μ : Mu} {μz : Mu}, f_MO_free_79 fl y3 μ = some (μz) → gv_go G M_MO_free (d + 4) r hf 179 [some (gR 70), none, none, none, none, none] [] (hp n acc g cap μz) → gv_go G M_MO_free (d + 4) r hf 79 [some (gR 70), none, none, some (gI y3), none, none] [] (hp n acc g cap μ) := by
  induction fl with
  | zero => intro _ _ _ h _; cases h
  | succ f ih =>
    intro y3 μ μz h KJ
    unfold f_MO_free_79 at h
    refine gv_B ok_MO_free 4 rfl ?_
    by_cases c29 : (μ 70 18) ≤ y3
    · rw [if_pos c29] at h
      refine gv_brT c29 ?_
      have h9 := Option.some.inj h
      subst h9
      exact gv_fk KJ ⟨rfl, trivial⟩
    · rw [if_neg c29] at h
      refine gv_brF c29 ?_
      refine gv_B ok_MO_free 4 rfl ?_
      obtain ⟨v30, e31, h⟩ := b1_e h
      refine hp_rd ok_MO_free rfl rfl e31 ?_
      obtain ⟨μ33, e32, h⟩ := b1_e h
      refine gv_Vc ok_MO_free rfl mk_MO_markGoals rfl (t_MO_markGoals (d := d) e32) rfl rfl (Nat.le_of_ble_eq_true rfl) rfl rfl rfl ?_
      refine gv_B ok_MO_free 3 rfl ?_
      obtain ⟨v35, e36, h⟩ := b1_e h
      refine hp_rd ok_MO_free rfl rfl e36 ?_
      refine gv_B ok_MO_free 1 rfl ?_
      obtain ⟨μ58, e59, h⟩ := b1_e h
      have K60 : gv_go G M_MO_free (d + 4) r hf 173 [some (gR 70), none, none, some (gI y3), none, none] [] (hp n acc g cap μ58) := by
        refine gv_B ok_MO_free 2 rfl ?_
        exact ih h KJ
      exact t_MO_free_105 _ e59 K60
theorem t_MO_free_184 {r : gv_O} {hf : gv_H} (fl : Nat) : ∀ {y3 : Int32} {y4 : Int32} {μ : Mu} {z3 : Int32} {μz : Mu}, f_MO_free_184 fl y3 y4 μ = some (z3, μz) → gv_go G M_MO_free (d + 4) r hf 265 [none, none, none, some (gI z3), none, none] [] (hp n acc g cap μz) → gv_go G M_MO_free (d + 4) r hf 184 [some (gR 70), none, none, some (gI y3), some (gI y4), none] [] (hp n acc g cap μ) := by
  induction fl with
  | zero => intro _ _ _ _ _ h _; cases h
  | succ f ih =>
    intro y3 y4 μ z3 μz h KJ
    unfold f_MO_free_184 at h
    refine gv_B ok_MO_free 3 rfl ?_
    by_cases c66 : 240 ≤ y4
    · rw [if_pos c66] at h
      refine gv_brT c66 ?_
      have j0 := Option.some.inj h
      obtain ⟨i1, j1⟩ := Prod.mk.inj j0
      subst i1
      subst j1
      exact gv_fk KJ ⟨rfl, trivial⟩
    · rw [if_neg c66] at h
      refine gv_brF c66 ?_
      refine gv_B ok_MO_free 3 rfl ?_
      obtain ⟨v67, e68, h⟩ := b1_e h
      refine hp_rd ok_MO_free rfl rfl e68 ?_
      refine gv_B ok_MO_free 1 rfl ?_
      obtain ⟨v69, e70, h⟩ := b1_e h
      have K71 : gv_go G M_MO_free (d + 4) r hf 221 [some (gR 70), none, none, some (gI y3), some (gI y4), none] [gI v69] (hp n acc g cap μ) := by
        refine gv_B ok_MO_free 4 rfl ?_
        obtain ⟨v76, e77, h⟩ := b1_e h
        have K78 : gv_go G M_MO_free (d + 4) r hf 234 [some (gR 70), none, none, none, some (gI y4), some (gI v69)] [gI v76, gI y3] (hp n acc g cap μ) := by
          refine gv_B ok_MO_free 7 rfl ?_
          obtain ⟨v80, e81, h⟩ := b1_e h
          have K82 : gv_go G M_MO_free (d + 4) r hf 258 [some (gR 70), none, none, some (gI (y3 + v76)), some (gI y4), none] [gI v80, gI y4, gR 74] (hp n acc g cap μ) := by
            obtain ⟨μ86, e87, h⟩ := b1_e h
            refine hp_wr ok_MO_free rfl rfl rfl rfl e87 ?_
            refine gv_B ok_MO_free 2 rfl ?_
            exact ih h KJ
          clear h
          have h := e81
          clear e81
          by_cases c83 : v69 = 0
          · rw [if_pos c83] at h
            refine gv_brT c83 ?_
            refine gv_B ok_MO_free 3 rfl ?_
            obtain ⟨v84, e85, h⟩ := b1_e h
            refine hp_rd ok_MO_free rfl rfl e85 ?_
            have h9 := Option.some.inj h
            subst h9
            exact gv_fk K82 ⟨rfl, ⟨rfl, ⟨rfl, trivial⟩⟩⟩
          · rw [if_neg c83] at h
            refine gv_brF c83 ?_
            refine gv_B ok_MO_free 2 rfl ?_
            have h9 := Option.some.inj h
            subst h9
            exact gv_fk K82 ⟨rfl, ⟨rfl, ⟨rfl, trivial⟩⟩⟩
        clear h
        have h := e77
        clear e77
        by_cases c79 : v69 = 0
        · rw [if_pos c79] at h
          refine gv_brT c79 ?_
          refine gv_B ok_MO_free 1 rfl ?_
          have h9 := Option.some.inj h
          subst h9
          exact gv_fk K78 ⟨rfl, ⟨rfl, ⟨rfl, trivial⟩⟩⟩
        · rw [if_neg c79] at h
          refine gv_brF c79 ?_
          refine gv_B ok_MO_free 2 rfl ?_
          have h9 := Option.some.inj h
          subst h9
          exact gv_fk K78 ⟨rfl, ⟨rfl, ⟨rfl, trivial⟩⟩⟩
      clear h
      have h := e70
      clear e70
      by_cases c72 : v67 ≤ 0
      · rw [if_pos c72] at h
        refine gv_brT c72 ?_
        refine gv_B ok_MO_free 1 rfl ?_
        have h9 := Option.some.inj h
        subst h9
        exact K71
      · rw [if_neg c72] at h
        refine gv_brF c72 ?_
        refine gv_B ok_MO_free 3 rfl ?_
        obtain ⟨v73, e74, h⟩ := b1_e h
        refine hp_rd ok_MO_free rfl rfl e74 ?_
        refine gv_B ok_MO_free 3 rfl ?_
        by_cases c75 : v73 = (μ 70 34)
        · rw [if_pos c75] at h
          refine gv_brT c75 ?_
          refine gv_B ok_MO_free 1 rfl ?_
          have h9 := Option.some.inj h
          subst h9
          exact K71
        · rw [if_neg c75] at h
          refine gv_brF c75 ?_
          refine gv_B ok_MO_free 2 rfl ?_
          have h9 := Option.some.inj h
          subst h9
          exact K71
theorem t_MO_free {x0 : Int32} {x1 : Int32} {μ : Mu} {r : Int32} {μr : Mu} (h : f_MO_free x0 x1 μ = some (r, μr)) : gv_ev G (d + 4) M_MO_free [gR 70, gI x0, gI x1] (hp n acc g cap μ) (.inl (some (gI r))) (hp n acc g cap μr) := by
  unfold f_MO_free at h
  refine gv_E (ls := [some (gR 70), some (gI x0), some (gI x1), none, none, none]) (by decide) (fun h => by cases h) (Nat.le_of_ble_eq_true rfl) rfl ?_
  refine gv_B ok_MO_free 5 rfl ?_
  refine hp_pf ok_MO_free rfl rfl rfl rfl rfl (Nat.le_of_ble_eq_true rfl) rfl ?_
  refine gv_B ok_MO_free 2 rfl ?_
  refine hp_pf ok_MO_free rfl rfl rfl rfl rfl (Nat.le_of_ble_eq_true rfl) rfl ?_
  refine gv_B ok_MO_free 5 rfl ?_
  refine hp_pf ok_MO_free rfl rfl rfl rfl rfl (Nat.le_of_ble_eq_true rfl) rfl ?_
  refine gv_B ok_MO_free 2 rfl ?_
  obtain ⟨μ1, e2, h⟩ := b1_e h
  have K3 : gv_go G M_MO_free (d + 4) (.inl (some (gI r))) (hp n acc g cap μr) 35 [some (gR 70), none, none, none, none, none] [] (hp n acc g cap μ1) := by
    refine gv_B ok_MO_free 3 rfl ?_
    obtain ⟨μ10, e9, h⟩ := b1_e h
    refine gv_Vc ok_MO_free rfl mk_MO_markGoals rfl (t_MO_markGoals (d := d) e9) rfl rfl (Nat.le_of_ble_eq_true rfl) rfl rfl rfl ?_
    refine gv_B ok_MO_free 2 rfl ?_
    obtain ⟨μ25, e26, h⟩ := b1_e h
    have K27 : gv_go G M_MO_free (d + 4) (.inl (some (gI r))) (hp n acc g cap μr) 77 [some (gR 70), none, none, none, none, none] [] (hp n acc g cap μ25) := by
      refine gv_B ok_MO_free 2 rfl ?_
      obtain ⟨μ62, e63, h⟩ := b1_e h
      have K64 : gv_go G M_MO_free (d + 4) (.inl (some (gI r))) (hp n acc g cap μr) 179 [some (gR 70), none, none, none, none, none] [] (hp n acc g cap μ62) := by
        refine gv_B ok_MO_free 4 rfl ?_
        obtain ⟨l89, μ90, e91, h⟩ := b2_e h
        have K92 : gv_go G M_MO_free (d + 4) (.inl (some (gI r))) (hp n acc g cap μr) 265 [none, none, none, some (gI l89), none, none] [] (hp n acc g cap μ90) := by
          refine gv_B ok_MO_free 1 rfl ?_
          have j0 := Option.some.inj h
          obtain ⟨i1, j1⟩ := Prod.mk.inj j0
          subst i1
          subst j1
          exact gv_Ri ok_MO_free rfl rfl
        exact t_MO_free_184 _ e91 K92
      exact t_MO_free_79 _ e63 K64
    exact t_MO_free_45 _ e26 K27
  clear h
  have h := e2
  clear e2
  by_cases c4 : x0 < 0
  · rw [if_pos c4] at h
    refine gv_brT c4 ?_
    have h9 := Option.some.inj h
    subst h9
    exact gv_fk K3 ⟨rfl, trivial⟩
  · rw [if_neg c4] at h
    refine gv_brF c4 ?_
    refine gv_B ok_MO_free 3 rfl ?_
    obtain ⟨μ6, e5, h⟩ := b1_e h
    refine gv_Vc ok_MO_free rfl mk_MO_mark rfl (t_MO_mark (d := d + 1) e5) rfl rfl (Nat.le_of_ble_eq_true rfl) rfl rfl rfl ?_
    have h9 := Option.some.inj h
    subst h9
    exact gv_fk K3 ⟨rfl, trivial⟩
def f_MO_end_27 : Nat → Int32 → Mu → Option (Mu)
  | 0, _, _ => none
  | f + 1, y1, μ =>
    (if 240 ≤ y1 then
    some (μ)
    else
    (b1 (wr μ 74 240 y1 0) fun μ2 =>
    f_MO_end_27 f (y1 + 1) μ2))
def f_MO_end (μ : Mu) : Option (Mu) :=
  (b1 (f_MO_end_27 fu 0 (sI (sI (sI (sI (sI μ 70 25 0) 70 26 0) 70 18 0) 70 16 (-1)) 70 23 0)) fun μ5 =>
  some (μ5))
theorem t_MO_end_27 {r : gv_O} {hf : gv_H} (fl : Nat) : ∀ {y1 : Int32} {μ : Mu} {μz : Mu}, f_MO_end_27 fl y1 μ = some (μz) → gv_go G M_MO_end (d + 0) r hf 47 [none, none] [] (hp n acc g cap μz) → gv_go G M_MO_end (d + 0) r hf 27 [some (gR 70), some (gI y1)] [] (hp n acc g cap μ) := by
  induction fl with
  | zero => intro _ _ _ h _; cases h
  | succ f ih =>
    intro y1 μ μz h KJ
    unfold f_MO_end_27 at h
    refine gv_B ok_MO_end 3 rfl ?_
    by_cases c1 : 240 ≤ y1
    · rw [if_pos c1] at h
      refine gv_brT c1 ?_
      have h9 := Option.some.inj h
      subst h9
      exact gv_fk KJ trivial
    · rw [if_neg c1] at h
      refine gv_brF c1 ?_
      refine gv_B ok_MO_end 4 rfl ?_
      obtain ⟨μ2, e3, h⟩ := b1_e h
      refine hp_wr ok_MO_end rfl rfl rfl rfl e3 ?_
      refine gv_B ok_MO_end 2 rfl ?_
      exact ih h KJ
theorem t_MO_end {μ : Mu} {μr : Mu} (h : f_MO_end μ = some (μr)) : gv_ev G (d + 0) M_MO_end [gR 70] (hp n acc g cap μ) (.inl none) (hp n acc g cap μr) := by
  unfold f_MO_end at h
  refine gv_E (ls := [some (gR 70), none]) (by decide) (fun h => by cases h) (Nat.le_of_ble_eq_true rfl) rfl ?_
  refine gv_B ok_MO_end 2 rfl ?_
  refine hp_pf ok_MO_end rfl rfl rfl rfl rfl (Nat.le_of_ble_eq_true rfl) rfl ?_
  refine gv_B ok_MO_end 2 rfl ?_
  refine hp_pf ok_MO_end rfl rfl rfl rfl rfl (Nat.le_of_ble_eq_true rfl) rfl ?_
  refine gv_B ok_MO_end 2 rfl ?_
  refine hp_pf ok_MO_end rfl rfl rfl rfl rfl (Nat.le_of_ble_eq_true rfl) rfl ?_
  refine gv_B ok_MO_end 2 rfl ?_
  refine hp_pf ok_MO_end rfl rfl rfl rfl rfl (Nat.le_of_ble_eq_true rfl) rfl ?_
  refine gv_B ok_MO_end 2 rfl ?_
  refine hp_pf ok_MO_end rfl rfl rfl rfl rfl (Nat.le_of_ble_eq_true rfl) rfl ?_
  refine gv_B ok_MO_end 2 rfl ?_
  obtain ⟨μ5, e6, h⟩ := b1_e h
  have K7 : gv_go G M_MO_end (d + 0) (.inl none) (hp n acc g cap μr) 47 [none, none] [] (hp n acc g cap μ5) := by
    have h9 := Option.some.inj h
    subst h9
    exact gv_Rv ok_MO_end rfl rfl
  exact t_MO_end_27 _ e6 K7
def f_MO_link (x0 : Int32) (x1 : Int32) (x2 : Int32) (x3 : Int32) (μ : Mu) : Option (Int32 × Mu) :=
  (b1 (wr μ 80 8900 (μ 70 13) ((x0 + (8 * x1)) + (2048 * x2))) fun μ1 =>
  b1 (wr μ1 81 8900 (μ1 70 13) x3) fun μ4 =>
  some ((((μ4 70 13) + 1) - 1), (sI μ4 70 13 ((μ4 70 13) + 1))))
theorem t_MO_link {x0 : Int32} {x1 : Int32} {x2 : Int32} {x3 : Int32} {μ : Mu} {r : Int32} {μr : Mu} (h : f_MO_link x0 x1 x2 x3 μ = some (r, μr)) : gv_ev G (d + 0) M_MO_link [gR 70, gI x0, gI x1, gI x2, gI x3] (hp n acc g cap μ) (.inl (some (gI r))) (hp n acc g cap μr) := by
  unfold f_MO_link at h
  refine gv_E (ls := [some (gR 70), some (gI x0), some (gI x1), some (gI x2), some (gI x3)]) (by decide) (fun h => by cases h) (Nat.le_of_ble_eq_true rfl) rfl ?_
  refine gv_B ok_MO_link 13 rfl ?_
  obtain ⟨μ1, e2, h⟩ := b1_e h
  refine hp_wr ok_MO_link rfl rfl rfl rfl e2 ?_
  refine gv_B ok_MO_link 5 rfl ?_
  obtain ⟨μ4, e5, h⟩ := b1_e h
  refine hp_wr ok_MO_link rfl rfl rfl rfl e5 ?_
  refine gv_B ok_MO_link 5 rfl ?_
  refine hp_pf ok_MO_link rfl rfl rfl rfl rfl (Nat.le_of_ble_eq_true rfl) rfl ?_
  refine gv_B ok_MO_link 4 rfl ?_
  have j0 := Option.some.inj h
  obtain ⟨i1, j1⟩ := Prod.mk.inj j0
  subst i1
  subst j1
  exact gv_Ri ok_MO_link rfl rfl
def f_MO_ask_77 (k1 : Int32) : Nat → Int32 → Mu → Option (Mu)
  | 0, _, _ => none
  | f + 1, y2, μ =>
    (if 8 ≤ y2 then
    some (μ)
    else
    (b1 (rd (μ 93) 8 y2) fun v23 =>
    b1 (wr μ 87 8 y2 v23) fun μ25 =>
    f_MO_ask_77 k1 f (y2 + 1) μ25))
def f_MO_ask_108 (k1 : Int32) : Nat → Int32 → Mu → Option (Mu)
  | 0, _, _ => none
  | f + 1, y2, μ =>
    (if y2 < 0 then
    some (μ)
    else
    (b1 (rd (μ 96) 30 y2) fun v33 =>
    b1 (rd (μ 97) 30 y2) fun v35 =>
    b2 (f_MO_link v33 v35 0 (μ 70 16) μ) fun v38 μ39 =>
    f_MO_ask_108 k1 f (y2 + (-1)) (sI μ39 70 16 v38)))
def f_MO_ask (μ : Mu) : Option (Int32 × Mu) :=
  (b1 (if (μ 70 1) ≤ 0 then
  some ((0 : Int32))
  else
  (b1 (f_MO_areGoals 0 μ) fun v6 =>
  if v6 = 0 then
  some ((0 : Int32))
  else
  some ((1 : Int32)))) fun v1 =>
  b1 (if v1 = 0 then
  some ((1 : Int32))
  else
  some ((0 : Int32))) fun v8 =>
  b1 (if v1 = 0 then
  some ((sI μ 70 0 v8))
  else
  (b1 (f_MO_end (sI μ 70 0 v8)) fun μ17 =>
  b1 (f_MO_copy 71 30 0 (μ17 70 1) (sI (sI (sI (sI μ17 70 25 1) 70 13 0) 70 17 (-1)) 70 12 0)) fun μ20 =>
  b1 (f_MO_ask_77 v1 fu 0 μ20) fun μ28 =>
  b1 (f_MO_ask_108 v1 fu ((μ28 70 46) - 1) μ28) fun μ41 =>
  some (μ41))) fun μ12 =>
  if v1 = 0 then
  some (0, (sI μ12 70 1 0))
  else
  (b1 (f_MO_inUse (sI μ12 70 1 0)) fun v48 =>
  some (v48, (sI μ12 70 1 0))))
theorem t_MO_ask_77 {r : gv_O} {hf : gv_H} {k1 : Int32} (fl : Nat) : ∀ {y2 : Int32} {μ : Mu} {μz : Mu}, f_MO_ask_77 k1 fl y2 μ = some (μz) → gv_go G M_MO_ask (d + 4) r hf 101 [some (gR 70), some (gI k1), none] [] (hp n acc g cap μz) → gv_go G M_MO_ask (d + 4) r hf 77 [some (gR 70), some (gI k1), some (gI y2)] [] (hp n acc g cap μ) := by
  induction fl with
  | zero => intro _ _ _ h _; cases h
  | succ f ih =>
    intro y2 μ μz h KJ
    unfold f_MO_ask_77 at h
    refine gv_B ok_MO_ask 3 rfl ?_
    by_cases c22 : 8 ≤ y2
    · rw [if_pos c22] at h
      refine gv_brT c22 ?_
      have h9 := Option.some.inj h
      subst h9
      exact gv_fk KJ ⟨rfl, ⟨rfl, trivial⟩⟩
    · rw [if_neg c22] at h
      refine gv_brF c22 ?_
      refine gv_B ok_MO_ask 6 rfl ?_
      obtain ⟨v23, e24, h⟩ := b1_e h
      refine hp_rd ok_MO_ask rfl rfl e24 ?_
      obtain ⟨μ25, e26, h⟩ := b1_e h
      refine hp_wr ok_MO_ask rfl rfl rfl rfl e26 ?_
      refine gv_B ok_MO_ask 2 rfl ?_
      exact ih h KJ
theorem t_MO_ask_108 {r : gv_O} {hf : gv_H} {k1 : Int32} (fl : Nat) : ∀ {y2 : Int32} {μ : Mu} {μz : Mu}, f_MO_ask_108 k1 fl y2 μ = some (μz) → gv_go G M_MO_ask (d + 4) r hf 143 [some (gR 70), some (gI k1), none] [] (hp n acc g cap μz) → gv_go G M_MO_ask (d + 4) r hf 108 [some (gR 70), some (gI k1), some (gI y2)] [] (hp n acc g cap μ) := by
  induction fl with
  | zero => intro _ _ _ h _; cases h
  | succ f ih =>
    intro y2 μ μz h KJ
    unfold f_MO_ask_108 at h
    refine gv_B ok_MO_ask 2 rfl ?_
    by_cases c32 : y2 < 0
    · rw [if_pos c32] at h
      refine gv_brT c32 ?_
      have h9 := Option.some.inj h
      subst h9
      exact gv_fk KJ ⟨rfl, ⟨rfl, trivial⟩⟩
    · rw [if_neg c32] at h
      refine gv_brF c32 ?_
      refine gv_B ok_MO_ask 5 rfl ?_
      obtain ⟨v33, e34, h⟩ := b1_e h
      refine hp_rd ok_MO_ask rfl rfl e34 ?_
      refine gv_B ok_MO_ask 3 rfl ?_
      obtain ⟨v35, e36, h⟩ := b1_e h
      refine hp_rd ok_MO_ask rfl rfl e36 ?_
      refine gv_B ok_MO_ask 3 rfl ?_
      obtain ⟨v38, μ39, e37, h⟩ := b2_e h
      refine gv_Vc ok_MO_ask rfl mk_MO_link rfl (t_MO_link (d := d + 3) e37) rfl rfl (Nat.le_of_ble_eq_true rfl) rfl rfl rfl ?_
      refine hp_pf ok_MO_ask rfl rfl rfl rfl rfl (Nat.le_of_ble_eq_true rfl) rfl ?_
      refine gv_B ok_MO_ask 2 rfl ?_
      exact ih h KJ
theorem t_MO_ask {μ : Mu} {r : Int32} {μr : Mu} (h : f_MO_ask μ = some (r, μr)) : gv_ev G (d + 4) M_MO_ask [gR 70] (hp n acc g cap μ) (.inl (some (gI r))) (hp n acc g cap μr) := by
  unfold f_MO_ask at h
  refine gv_E (ls := [some (gR 70), none, none]) (by decide) (fun h => by cases h) (Nat.le_of_ble_eq_true rfl) rfl ?_
  refine gv_B ok_MO_ask 3 rfl ?_
  obtain ⟨v1, e2, h⟩ := b1_e h
  have K3 : gv_go G M_MO_ask (d + 4) (.inl (some (gI r))) (hp n acc g cap μr) 20 [some (gR 70), none, none] [gI v1] (hp n acc g cap μ) := by
    refine gv_B ok_MO_ask 4 rfl ?_
    obtain ⟨v8, e9, h⟩ := b1_e h
    have K10 : gv_go G M_MO_ask (d + 4) (.inl (some (gI r))) (hp n acc g cap μr) 31 [some (gR 70), some (gI v1), none] [gI v8, gR 70] (hp n acc g cap μ) := by
      refine hp_pf ok_MO_ask rfl rfl rfl rfl rfl (Nat.le_of_ble_eq_true rfl) rfl ?_
      refine gv_B ok_MO_ask 2 rfl ?_
      obtain ⟨μ12, e13, h⟩ := b1_e h
      have K14 : gv_go G M_MO_ask (d + 4) (.inl (some (gI r))) (hp n acc g cap μr) 143 [some (gR 70), some (gI v1), none] [] (hp n acc g cap μ12) := by
        refine gv_B ok_MO_ask 2 rfl ?_
        refine hp_pf ok_MO_ask rfl rfl rfl rfl rfl (Nat.le_of_ble_eq_true rfl) rfl ?_
        refine gv_B ok_MO_ask 2 rfl ?_
        by_cases c46 : v1 = 0
        · rw [if_pos c46] at h
          refine gv_brT c46 ?_
          refine gv_B ok_MO_ask 1 rfl ?_
          have j0 := Option.some.inj h
          obtain ⟨i1, j1⟩ := Prod.mk.inj j0
          subst i1
          subst j1
          exact gv_Ri ok_MO_ask rfl rfl
        · rw [if_neg c46] at h
          refine gv_brF c46 ?_
          refine gv_B ok_MO_ask 1 rfl ?_
          obtain ⟨v48, e47, h⟩ := b1_e h
          refine gv_Vc ok_MO_ask rfl mk_MO_inUse rfl (t_MO_inUse (d := d + 3) e47) rfl rfl (Nat.le_of_ble_eq_true rfl) rfl rfl rfl ?_
          refine gv_B ok_MO_ask 1 rfl ?_
          have j0 := Option.some.inj h
          obtain ⟨i1, j1⟩ := Prod.mk.inj j0
          subst i1
          subst j1
          exact gv_Ri ok_MO_ask rfl rfl
      clear h
      have h := e13
      clear e13
      by_cases c15 : v1 = 0
      · rw [if_pos c15] at h
        refine gv_brT c15 ?_
        have h9 := Option.some.inj h
        subst h9
        exact K14
      · rw [if_neg c15] at h
        refine gv_brF c15 ?_
        refine gv_B ok_MO_ask 1 rfl ?_
        obtain ⟨μ17, e16, h⟩ := b1_e h
        refine gv_Vc ok_MO_ask rfl mk_MO_end rfl (t_MO_end (d := d + 3) e16) rfl rfl (Nat.le_of_ble_eq_true rfl) rfl rfl rfl ?_
        refine gv_B ok_MO_ask 2 rfl ?_
        refine hp_pf ok_MO_ask rfl rfl rfl rfl rfl (Nat.le_of_ble_eq_true rfl) rfl ?_
        refine gv_B ok_MO_ask 2 rfl ?_
        refine hp_pf ok_MO_ask rfl rfl rfl rfl rfl (Nat.le_of_ble_eq_true rfl) rfl ?_
        refine gv_B ok_MO_ask 2 rfl ?_
        refine hp_pf ok_MO_ask rfl rfl rfl rfl rfl (Nat.le_of_ble_eq_true rfl) rfl ?_
        refine gv_B ok_MO_ask 2 rfl ?_
        refine hp_pf ok_MO_ask rfl rfl rfl rfl rfl (Nat.le_of_ble_eq_true rfl) rfl ?_
        refine gv_B ok_MO_ask 6 rfl ?_
        obtain ⟨μ20, e19, h⟩ := b1_e h
        refine gv_Vc ok_MO_ask rfl mk_MO_copy rfl (t_MO_copy (d := d) e19) rfl rfl (Nat.le_of_ble_eq_true rfl) rfl rfl rfl ?_
        refine gv_B ok_MO_ask 2 rfl ?_
        obtain ⟨μ28, e29, h⟩ := b1_e h
        have K30 : gv_go G M_MO_ask (d + 4) (.inl (some (gI r))) (hp n acc g cap μr) 101 [some (gR 70), some (gI v1), none] [] (hp n acc g cap μ28) := by
          refine gv_B ok_MO_ask 5 rfl ?_
          obtain ⟨μ41, e42, h⟩ := b1_e h
          have K43 : gv_go G M_MO_ask (d + 4) (.inl (some (gI r))) (hp n acc g cap μr) 143 [some (gR 70), some (gI v1), none] [] (hp n acc g cap μ41) := by
            have h9 := Option.some.inj h
            subst h9
            exact K14
          exact t_MO_ask_108 _ e42 K43
        exact t_MO_ask_77 _ e29 K30
    clear h
    have h := e9
    clear e9
    by_cases c11 : v1 = 0
    · rw [if_pos c11] at h
      refine gv_brT c11 ?_
      refine gv_B ok_MO_ask 1 rfl ?_
      have h9 := Option.some.inj h
      subst h9
      exact K10
    · rw [if_neg c11] at h
      refine gv_brF c11 ?_
      refine gv_B ok_MO_ask 2 rfl ?_
      have h9 := Option.some.inj h
      subst h9
      exact K10
  clear h
  have h := e2
  clear e2
  by_cases c4 : (μ 70 1) ≤ 0
  · rw [if_pos c4] at h
    refine gv_brT c4 ?_
    refine gv_B ok_MO_ask 1 rfl ?_
    have h9 := Option.some.inj h
    subst h9
    exact K3
  · rw [if_neg c4] at h
    refine gv_brF c4 ?_
    refine gv_B ok_MO_ask 2 rfl ?_
    obtain ⟨v6, e5, h⟩ := b1_e h
    refine gv_Vc ok_MO_ask rfl mk_MO_areGoals rfl (t_MO_areGoals (d := d + 1) e5) rfl rfl (Nat.le_of_ble_eq_true rfl) rfl rfl rfl ?_
    refine gv_B ok_MO_ask 1 rfl ?_
    by_cases c7 : v6 = 0
    · rw [if_pos c7] at h
      refine gv_brT c7 ?_
      refine gv_B ok_MO_ask 1 rfl ?_
      have h9 := Option.some.inj h
      subst h9
      exact K3
    · rw [if_neg c7] at h
      refine gv_brF c7 ?_
      refine gv_B ok_MO_ask 2 rfl ?_
      have h9 := Option.some.inj h
      subst h9
      exact K3
def f_MO_fail_22 : Nat → Mu → Option (Mu)
  | 0, _ => none
  | f + 1, μ =>
    (b1 (rd (μ 85) 320 (μ 70 18)) fun v2 =>
    if (μ 70 23) ≤ v2 then
    some (μ)
    else
    (b1 (rd (μ 86) 2600 ((μ 70 23) - 1)) fun v5 =>
    b1 (wr (sI μ 70 23 ((μ 70 23) - 1)) 76 240 v5 (-1)) fun μ7 =>
    f_MO_fail_22 f μ7))
def f_MO_fail_68 : Nat → Int32 → Mu → Option (Mu)
  | 0, _, _ => none
  | f + 1, y1, μ =>
    (if 240 ≤ y1 then
    some (μ)
    else
    (b1 (rd (μ 75) 240 y1) fun v15 =>
    b1 (rd (μ 84) 320 (μ 70 18)) fun v17 =>
    b1 (if v15 < v17 then
    (b1 (rd (μ 74) 240 y1) fun v23 =>
    some (v23))
    else
    some ((0 : Int32))) fun v19 =>
    b1 (wr μ 74 240 y1 v19) fun μ25 =>
    f_MO_fail_68 f (y1 + 1) μ25))
def f_MO_fail (μ : Mu) : Option (Mu) :=
  (if ¬ (μ 70 18) = 0 then
  (b1 (f_MO_fail_22 fu (sI μ 70 18 ((μ 70 18) - 1))) fun μ10 =>
  b1 (f_MO_fail_68 fu 0 μ10) fun μ28 =>
  b1 (rd (μ28 82) 320 (μ28 70 18)) fun v32 =>
  b1 (rd (μ28 83) 320 (μ28 70 18)) fun v34 =>
  some ((sI (sI μ28 70 16 v32) 70 17 v34)))
  else
  (b1 (f_MO_end μ) fun μ37 =>
  some (μ37)))
theorem t_MO_fail_22 {r : gv_O} {hf : gv_H} (fl : Nat) : ∀ {μ : Mu} {μz : Mu}, f_MO_fail_22 fl μ = some (μz) → gv_go G M_MO_fail (d + 1) r hf 66 [some (gR 70), none] [] (hp n acc g cap μz) → gv_go G M_MO_fail (d + 1) r hf 22 [some (gR 70), none] [] (hp n acc g cap μ) := by
  induction fl with
  | zero => intro _ _ h _; cases h
  | succ f ih =>
    intro μ μz h KJ
    unfold f_MO_fail_22 at h
    refine gv_B ok_MO_fail 6 rfl ?_
    obtain ⟨v2, e3, h⟩ := b1_e h
    refine hp_rd ok_MO_fail rfl rfl e3 ?_
    refine gv_B ok_MO_fail 1 rfl ?_
    by_cases c4 : (μ 70 23) ≤ v2
    · rw [if_pos c4] at h
      refine gv_brT c4 ?_
      have h9 := Option.some.inj h
      subst h9
      exact KJ
    · rw [if_neg c4] at h
      refine gv_brF c4 ?_
      refine gv_B ok_MO_fail 5 rfl ?_
      refine hp_pf ok_MO_fail rfl rfl rfl rfl rfl (Nat.le_of_ble_eq_true rfl) rfl ?_
      refine gv_B ok_MO_fail 6 rfl ?_
      obtain ⟨v5, e6, h⟩ := b1_e h
      refine hp_rd ok_MO_fail rfl rfl e6 ?_
      refine gv_B ok_MO_fail 1 rfl ?_
      obtain ⟨μ7, e8, h⟩ := b1_e h
      refine hp_wr ok_MO_fail rfl rfl rfl rfl e8 ?_
      refine gv_B ok_MO_fail 1 rfl ?_
      exact ih h KJ
theorem t_MO_fail_68 {r : gv_O} {hf : gv_H} (fl : Nat) : ∀ {y1 : Int32} {μ : Mu} {μz : Mu}, f_MO_fail_68 fl y1 μ = some (μz) → gv_go G M_MO_fail (d + 1) r hf 115 [some (gR 70), none] [] (hp n acc g cap μz) → gv_go G M_MO_fail (d + 1) r hf 68 [some (gR 70), some (gI y1)] [] (hp n acc g cap μ) := by
  induction fl with
  | zero => intro _ _ _ h _; cases h
  | succ f ih =>
    intro y1 μ μz h KJ
    unfold f_MO_fail_68 at h
    refine gv_B ok_MO_fail 3 rfl ?_
    by_cases c14 : 240 ≤ y1
    · rw [if_pos c14] at h
      refine gv_brT c14 ?_
      have h9 := Option.some.inj h
      subst h9
      exact gv_fk KJ ⟨rfl, trivial⟩
    · rw [if_neg c14] at h
      refine gv_brF c14 ?_
      refine gv_B ok_MO_fail 6 rfl ?_
      obtain ⟨v15, e16, h⟩ := b1_e h
      refine hp_rd ok_MO_fail rfl rfl e16 ?_
      refine gv_B ok_MO_fail 4 rfl ?_
      obtain ⟨v17, e18, h⟩ := b1_e h
      refine hp_rd ok_MO_fail rfl rfl e18 ?_
      refine gv_B ok_MO_fail 1 rfl ?_
      obtain ⟨v19, e20, h⟩ := b1_e h
      have K21 : gv_go G M_MO_fail (d + 1) r hf 108 [some (gR 70), some (gI y1)] [gI v19, gI y1, gR 74] (hp n acc g cap μ) := by
        obtain ⟨μ25, e26, h⟩ := b1_e h
        refine hp_wr ok_MO_fail rfl rfl rfl rfl e26 ?_
        refine gv_B ok_MO_fail 2 rfl ?_
        exact ih h KJ
      clear h
      have h := e20
      clear e20
      by_cases c22 : v15 < v17
      · rw [if_pos c22] at h
        refine gv_brT c22 ?_
        refine gv_B ok_MO_fail 3 rfl ?_
        obtain ⟨v23, e24, h⟩ := b1_e h
        refine hp_rd ok_MO_fail rfl rfl e24 ?_
        have h9 := Option.some.inj h
        subst h9
        exact K21
      · rw [if_neg c22] at h
        refine gv_brF c22 ?_
        refine gv_B ok_MO_fail 2 rfl ?_
        have h9 := Option.some.inj h
        subst h9
        exact K21
theorem t_MO_fail {μ : Mu} {μr : Mu} (h : f_MO_fail μ = some (μr)) : gv_ev G (d + 1) M_MO_fail [gR 70] (hp n acc g cap μ) (.inl none) (hp n acc g cap μr) := by
  unfold f_MO_fail at h
  refine gv_E (ls := [some (gR 70), none]) (by decide) (fun h => by cases h) (Nat.le_of_ble_eq_true rfl) rfl ?_
  refine gv_B ok_MO_fail 3 rfl ?_
  by_cases c1 : ¬ (μ 70 18) = 0
  · rw [if_pos c1] at h
    refine gv_brT c1 ?_
    refine gv_B ok_MO_fail 5 rfl ?_
    refine hp_pf ok_MO_fail rfl rfl rfl rfl rfl (Nat.le_of_ble_eq_true rfl) rfl ?_
    obtain ⟨μ10, e11, h⟩ := b1_e h
    have K12 : gv_go G M_MO_fail (d + 1) (.inl none) (hp n acc g cap μr) 66 [some (gR 70), none] [] (hp n acc g cap μ10) := by
      refine gv_B ok_MO_fail 2 rfl ?_
      obtain ⟨μ28, e29, h⟩ := b1_e h
      have K30 : gv_go G M_MO_fail (d + 1) (.inl none) (hp n acc g cap μr) 115 [some (gR 70), none] [] (hp n acc g cap μ28) := by
        refine gv_B ok_MO_fail 5 rfl ?_
        obtain ⟨v32, e33, h⟩ := b1_e h
        refine hp_rd ok_MO_fail rfl rfl e33 ?_
        refine hp_pf ok_MO_fail rfl rfl rfl rfl rfl (Nat.le_of_ble_eq_true rfl) rfl ?_
        refine gv_B ok_MO_fail 5 rfl ?_
        obtain ⟨v34, e35, h⟩ := b1_e h
        refine hp_rd ok_MO_fail rfl rfl e35 ?_
        refine hp_pf ok_MO_fail rfl rfl rfl rfl rfl (Nat.le_of_ble_eq_true rfl) rfl ?_
        have h9 := Option.some.inj h
        subst h9
        exact gv_Rv ok_MO_fail rfl rfl
      exact t_MO_fail_68 _ e29 K30
    exact t_MO_fail_22 _ e11 K12
  · rw [if_neg c1] at h
    refine gv_brF c1 ?_
    refine gv_B ok_MO_fail 1 rfl ?_
    obtain ⟨μ37, e36, h⟩ := b1_e h
    refine gv_Vc ok_MO_fail rfl mk_MO_end rfl (t_MO_end (d := d) e36) rfl rfl (Nat.le_of_ble_eq_true rfl) rfl rfl rfl ?_
    have h9 := Option.some.inj h
    subst h9
    exact gv_Rv ok_MO_fail rfl rfl
def f_MO_wordOf (x0 : Int32) (x1 : Int32) (μ : Mu) : Option (Int32) :=
  (if ¬ x0 = 3 then
  some (((8 * x1) + 2))
  else
  (b1 (rd (μ 78) 240 x1) fun v2 =>
  some (v2)))
theorem t_MO_wordOf {x0 : Int32} {x1 : Int32} {μ : Mu} {r : Int32} (h : f_MO_wordOf x0 x1 μ = some (r)) : gv_ev G (d + 0) M_MO_wordOf [gR 70, gI x0, gI x1] (hp n acc g cap μ) (.inl (some (gI r))) (hp n acc g cap μ) := by
  unfold f_MO_wordOf at h
  refine gv_E (ls := [some (gR 70), some (gI x0), some (gI x1)]) (by decide) (fun h => by cases h) (Nat.le_of_ble_eq_true rfl) rfl ?_
  refine gv_B ok_MO_wordOf 3 rfl ?_
  by_cases c1 : ¬ x0 = 3
  · rw [if_pos c1] at h
    refine gv_brT c1 ?_
    refine gv_B ok_MO_wordOf 5 rfl ?_
    have h9 := Option.some.inj h
    subst h9
    exact gv_Ri ok_MO_wordOf rfl rfl
  · rw [if_neg c1] at h
    refine gv_brF c1 ?_
    refine gv_B ok_MO_wordOf 3 rfl ?_
    obtain ⟨v2, e3, h⟩ := b1_e h
    refine hp_rd ok_MO_wordOf rfl rfl e3 ?_
    refine gv_B ok_MO_wordOf 1 rfl ?_
    have h9 := Option.some.inj h
    subst h9
    exact gv_Ri ok_MO_wordOf rfl rfl
def f_MO_ruleFor_2 (k1 : Int32) : Nat → Int32 → Mu → Option (Int32)
  | 0, _, _ => none
  | f + 1, y3, μ =>
    (if (μ 70 3) ≤ y3 then
    some ((-1))
    else
    (b1 (rd (μ 72) 480 (30 * y3)) fun v2 =>
    if ¬ v2 = k1 then
    f_MO_ruleFor_2 k1 f (y3 + 1) μ
    else
    some (y3)))
def f_MO_ruleFor (x0 : Int32) (x1 : Int32) (μ : Mu) : Option (Int32) :=
  f_MO_ruleFor_2 x0 fu x1 μ
theorem t_MO_ruleFor_2 {k1 : Int32} (fl : Nat) : ∀ {y3 : Int32} {μ : Mu} {r : Int32}, f_MO_ruleFor_2 k1 fl y3 μ = some (r) → gv_go G M_MO_ruleFor (d + 0) (.inl (some (gI r))) (hp n acc g cap μ) 2 [some (gR 70), some (gI k1), none, some (gI y3)] [] (hp n acc g cap μ) := by
  induction fl with
  | zero => intro _ _ _ h; cases h
  | succ f ih =>
    intro y3 μ r h
    unfold f_MO_ruleFor_2 at h
    refine gv_B ok_MO_ruleFor 4 rfl ?_
    by_cases c1 : (μ 70 3) ≤ y3
    · rw [if_pos c1] at h
      refine gv_brT c1 ?_
      refine gv_B ok_MO_ruleFor 1 rfl ?_
      have h9 := Option.some.inj h
      subst h9
      exact gv_Ri ok_MO_ruleFor rfl rfl
    · rw [if_neg c1] at h
      refine gv_brF c1 ?_
      refine gv_B ok_MO_ruleFor 5 rfl ?_
      obtain ⟨v2, e3, h⟩ := b1_e h
      refine hp_rd ok_MO_ruleFor rfl rfl e3 ?_
      refine gv_B ok_MO_ruleFor 2 rfl ?_
      by_cases c4 : ¬ v2 = k1
      · rw [if_pos c4] at h
        refine gv_brT c4 ?_
        refine gv_B ok_MO_ruleFor 2 rfl ?_
        exact ih h
      · rw [if_neg c4] at h
        refine gv_brF c4 ?_
        refine gv_B ok_MO_ruleFor 1 rfl ?_
        have h9 := Option.some.inj h
        subst h9
        exact gv_Ri ok_MO_ruleFor rfl rfl
theorem t_MO_ruleFor {x0 : Int32} {x1 : Int32} {μ : Mu} {r : Int32} (h : f_MO_ruleFor x0 x1 μ = some (r)) : gv_ev G (d + 0) M_MO_ruleFor [gR 70, gI x0, gI x1] (hp n acc g cap μ) (.inl (some (gI r))) (hp n acc g cap μ) := by
  unfold f_MO_ruleFor at h
  refine gv_E (ls := [some (gR 70), some (gI x0), some (gI x1), none]) (by decide) (fun h => by cases h) (Nat.le_of_ble_eq_true rfl) rfl ?_
  refine gv_B ok_MO_ruleFor 2 rfl ?_
  exact gv_fk (t_MO_ruleFor_2 _ h) ⟨rfl, ⟨rfl, ⟨rfl, trivial⟩⟩⟩
def f_MO_attempt_203 (k5 : Int32) : Nat → Int32 → Mu → Option (Mu)
  | 0, _, _ => none
  | f + 1, y8, μ =>
    (if y8 ≤ 0 then
    some (μ)
    else
    (if ¬ (μ 70 49) = 0 then
    some (μ)
    else
    (b1 (rd (μ 96) 30 y8) fun v58 =>
    b1 (rd (μ 97) 30 y8) fun v60 =>
    b2 (f_MO_link v58 v60 k5 (μ 70 16) μ) fun v63 μ64 =>
    f_MO_attempt_203 k5 f (y8 + (-1)) (sI μ64 70 16 v63))))
def f_MO_attempt (x0 : Int32) (x1 : Int32) (μ : Mu) : Option (Mu) :=
  (b1 (f_MO_kindOf x1 μ) fun v2 =>
  b1 (f_MO_valueOf x1 μ) fun v4 =>
  b1 (f_MO_wordOf v2 v4 μ) fun v6 =>
  b1 (f_MO_ruleFor v6 (x0 + 1) μ) fun v8 =>
  b1 (if v8 < 0 then
  some (μ)
  else
  (b1 (wr μ 82 320 (μ 70 18) x1) fun μ13 =>
  b1 (wr μ13 83 320 (μ13 70 18) v8) fun μ16 =>
  b1 (wr μ16 84 320 (μ16 70 18) (μ16 70 12)) fun μ19 =>
  b1 (wr μ19 85 320 (μ19 70 18) (μ19 70 23)) fun μ22 =>
  some ((sI μ22 70 18 ((μ22 70 18) + 1))))) fun μ9 =>
  b1 (rd (μ9 73) 16 x0) fun v26 =>
  b1 (f_MO_needs 72 480 (30 * x0) v26 μ9) fun v29 =>
  b1 (f_MO_inUse μ9) fun v31 =>
  b1 (if (v31 + v29) ≤ 240 then
  some (μ9)
  else
  (b2 (f_MO_free v2 v4 μ9) fun v37 μ38 =>
  some (μ38))) fun μ32 =>
  b1 (f_MO_inUse μ32) fun v42 =>
  if (v42 + v29) ≤ 240 then
  (b1 (rd (μ32 73) 16 x0) fun v44 =>
  b1 (f_MO_copy 72 480 (30 * x0) v44 μ32) fun μ47 =>
  b1 (rd (μ47 96) 30 0) fun v49 =>
  b1 (rd (μ47 97) 30 0) fun v51 =>
  b1 (f_MO_unify v49 v51 v2 v4 μ47) fun μ54 =>
  b1 (f_MO_attempt_203 (μ 70 18) fu ((μ54 70 46) - 1) μ54) fun μ66 =>
  some (μ66))
  else
  some ((sI μ32 70 49 3)))
theorem t_MO_attempt_203 {r : gv_O} {hf : gv_H} {k5 : Int32} (fl : Nat) : ∀ {y8 : Int32} {μ : Mu} {μz : Mu}, f_MO_attempt_203 k5 fl y8 μ = some (μz) → gv_go G M_MO_attempt (d + 5) r hf 249 [none, none, none, none, none, none, none, none, none] [] (hp n acc g cap μz) → gv_go G M_MO_attempt (d + 5) r hf 203 [some (gR 70), none, none, none, none, some (gI k5), none, none, some (gI y8)] [] (hp n acc g cap μ) := by
  induction fl with
  | zero => intro _ _ _ h _; cases h
  | succ f ih =>
    intro y8 μ μz h KJ
    unfold f_MO_attempt_203 at h
    refine gv_B ok_MO_attempt 2 rfl ?_
    by_cases c56 : y8 ≤ 0
    · rw [if_pos c56] at h
      refine gv_brT c56 ?_
      have h9 := Option.some.inj h
      subst h9
      exact gv_fk KJ trivial
    · rw [if_neg c56] at h
      refine gv_brF c56 ?_
      refine gv_B ok_MO_attempt 3 rfl ?_
      by_cases c57 : ¬ (μ 70 49) = 0
      · rw [if_pos c57] at h
        refine gv_brT c57 ?_
        have h9 := Option.some.inj h
        subst h9
        exact gv_fk KJ trivial
      · rw [if_neg c57] at h
        refine gv_brF c57 ?_
        refine gv_B ok_MO_attempt 5 rfl ?_
        obtain ⟨v58, e59, h⟩ := b1_e h
        refine hp_rd ok_MO_attempt rfl rfl e59 ?_
        refine gv_B ok_MO_attempt 3 rfl ?_
        obtain ⟨v60, e61, h⟩ := b1_e h
        refine hp_rd ok_MO_attempt rfl rfl e61 ?_
        refine gv_B ok_MO_attempt 3 rfl ?_
        obtain ⟨v63, μ64, e62, h⟩ := b2_e h
        refine gv_Vc ok_MO_attempt rfl mk_MO_link rfl (t_MO_link (d := d + 4) e62) rfl rfl (Nat.le_of_ble_eq_true rfl) rfl rfl rfl ?_
        refine hp_pf ok_MO_attempt rfl rfl rfl rfl rfl (Nat.le_of_ble_eq_true rfl) rfl ?_
        refine gv_B ok_MO_attempt 2 rfl ?_
        exact ih h KJ
theorem t_MO_attempt {x0 : Int32} {x1 : Int32} {μ : Mu} {μr : Mu} (h : f_MO_attempt x0 x1 μ = some (μr)) : gv_ev G (d + 5) M_MO_attempt [gR 70, gI x0, gI x1] (hp n acc g cap μ) (.inl none) (hp n acc g cap μr) := by
  unfold f_MO_attempt at h
  refine gv_E (ls := [some (gR 70), some (gI x0), some (gI x1), none, none, none, none, none, none]) (by decide) (fun h => by cases h) (Nat.le_of_ble_eq_true rfl) rfl ?_
  refine gv_B ok_MO_attempt 2 rfl ?_
  obtain ⟨v2, e1, h⟩ := b1_e h
  refine gv_Vc ok_MO_attempt rfl mk_MO_kindOf rfl (t_MO_kindOf (d := d + 4) e1) rfl rfl (Nat.le_of_ble_eq_true rfl) rfl rfl rfl ?_
  refine gv_B ok_MO_attempt 3 rfl ?_
  obtain ⟨v4, e3, h⟩ := b1_e h
  refine gv_Vc ok_MO_attempt rfl mk_MO_valueOf rfl (t_MO_valueOf (d := d + 4) e3) rfl rfl (Nat.le_of_ble_eq_true rfl) rfl rfl rfl ?_
  refine gv_B ok_MO_attempt 8 rfl ?_
  obtain ⟨v6, e5, h⟩ := b1_e h
  refine gv_Vc ok_MO_attempt rfl mk_MO_wordOf rfl (t_MO_wordOf (d := d + 4) e5) rfl rfl (Nat.le_of_ble_eq_true rfl) rfl rfl rfl ?_
  refine gv_B ok_MO_attempt 3 rfl ?_
  obtain ⟨v8, e7, h⟩ := b1_e h
  refine gv_Vc ok_MO_attempt rfl mk_MO_ruleFor rfl (t_MO_ruleFor (d := d + 4) e7) rfl rfl (Nat.le_of_ble_eq_true rfl) rfl rfl rfl ?_
  refine gv_B ok_MO_attempt 3 rfl ?_
  obtain ⟨μ9, e10, h⟩ := b1_e h
  have K11 : gv_go G M_MO_attempt (d + 5) (.inl none) (hp n acc g cap μr) 97 [some (gR 70), some (gI x0), none, some (gI v2), some (gI v4), some (gI (μ 70 18)), none, none, none] [] (hp n acc g cap μ9) := by
    refine gv_B ok_MO_attempt 9 rfl ?_
    obtain ⟨v26, e27, h⟩ := b1_e h
    refine hp_rd ok_MO_attempt rfl rfl e27 ?_
    obtain ⟨v29, e28, h⟩ := b1_e h
    refine gv_Vc ok_MO_attempt rfl mk_MO_needs rfl (t_MO_needs (d := d + 3) e28) rfl rfl (Nat.le_of_ble_eq_true rfl) rfl rfl rfl ?_
    refine gv_B ok_MO_attempt 2 rfl ?_
    obtain ⟨v31, e30, h⟩ := b1_e h
    refine gv_Vc ok_MO_attempt rfl mk_MO_inUse rfl (t_MO_inUse (d := d + 4) e30) rfl rfl (Nat.le_of_ble_eq_true rfl) rfl rfl rfl ?_
    refine gv_B ok_MO_attempt 4 rfl ?_
    obtain ⟨μ32, e33, h⟩ := b1_e h
    have K34 : gv_go G M_MO_attempt (d + 5) (.inl none) (hp n acc g cap μr) 139 [some (gR 70), some (gI x0), none, some (gI v2), some (gI v4), some (gI (μ 70 18)), none, some (gI v29), none] [] (hp n acc g cap μ32) := by
      refine gv_B ok_MO_attempt 1 rfl ?_
      obtain ⟨v42, e41, h⟩ := b1_e h
      refine gv_Vc ok_MO_attempt rfl mk_MO_inUse rfl (t_MO_inUse (d := d + 4) e41) rfl rfl (Nat.le_of_ble_eq_true rfl) rfl rfl rfl ?_
      refine gv_B ok_MO_attempt 4 rfl ?_
      by_cases c43 : (v42 + v29) ≤ 240
      · rw [if_pos c43] at h
        refine gv_brT c43 ?_
        refine gv_B ok_MO_attempt 9 rfl ?_
        obtain ⟨v44, e45, h⟩ := b1_e h
        refine hp_rd ok_MO_attempt rfl rfl e45 ?_
        obtain ⟨μ47, e46, h⟩ := b1_e h
        refine gv_Vc ok_MO_attempt rfl mk_MO_copy rfl (t_MO_copy (d := d + 1) e46) rfl rfl (Nat.le_of_ble_eq_true rfl) rfl rfl rfl ?_
        refine gv_B ok_MO_attempt 4 rfl ?_
        obtain ⟨v49, e50, h⟩ := b1_e h
        refine hp_rd ok_MO_attempt rfl rfl e50 ?_
        refine gv_B ok_MO_attempt 3 rfl ?_
        obtain ⟨v51, e52, h⟩ := b1_e h
        refine hp_rd ok_MO_attempt rfl rfl e52 ?_
        refine gv_B ok_MO_attempt 2 rfl ?_
        obtain ⟨μ54, e53, h⟩ := b1_e h
        refine gv_Vc ok_MO_attempt rfl mk_MO_unify rfl (t_MO_unify (d := d) e53) rfl rfl (Nat.le_of_ble_eq_true rfl) rfl rfl rfl ?_
        refine gv_B ok_MO_attempt 5 rfl ?_
        obtain ⟨μ66, e67, h⟩ := b1_e h
        have K68 : gv_go G M_MO_attempt (d + 5) (.inl none) (hp n acc g cap μr) 249 [none, none, none, none, none, none, none, none, none] [] (hp n acc g cap μ66) := by
          have h9 := Option.some.inj h
          subst h9
          exact gv_Rv ok_MO_attempt rfl rfl
        exact gv_fk (t_MO_attempt_203 _ e67 K68) ⟨rfl, ⟨rfl, ⟨rfl, trivial⟩⟩⟩
      · rw [if_neg c43] at h
        refine gv_brF c43 ?_
        refine gv_B ok_MO_attempt 2 rfl ?_
        refine hp_pf ok_MO_attempt rfl rfl rfl rfl rfl (Nat.le_of_ble_eq_true rfl) rfl ?_
        have h9 := Option.some.inj h
        subst h9
        exact gv_Rv ok_MO_attempt rfl rfl
    clear h
    have h := e33
    clear e33
    by_cases c35 : (v31 + v29) ≤ 240
    · rw [if_pos c35] at h
      refine gv_brT c35 ?_
      have h9 := Option.some.inj h
      subst h9
      exact K34
    · rw [if_neg c35] at h
      refine gv_brF c35 ?_
      refine gv_B ok_MO_attempt 3 rfl ?_
      obtain ⟨v37, μ38, e36, h⟩ := b2_e h
      refine gv_Vc ok_MO_attempt rfl mk_MO_free rfl (t_MO_free (d := d) e36) rfl rfl (Nat.le_of_ble_eq_true rfl) rfl rfl rfl ?_
      refine gv_B ok_MO_attempt 1 rfl ?_
      have h9 := Option.some.inj h
      subst h9
      exact gv_fk K34 ⟨rfl, ⟨rfl, ⟨rfl, ⟨rfl, ⟨rfl, ⟨rfl, trivial⟩⟩⟩⟩⟩⟩
  clear h
  have h := e10
  clear e10
  by_cases c12 : v8 < 0
  · rw [if_pos c12] at h
    refine gv_brT c12 ?_
    have h9 := Option.some.inj h
    subst h9
    exact gv_fk K11 ⟨rfl, ⟨rfl, ⟨rfl, ⟨rfl, ⟨rfl, trivial⟩⟩⟩⟩⟩
  · rw [if_neg c12] at h
    refine gv_brF c12 ?_
    refine gv_B ok_MO_attempt 5 rfl ?_
    obtain ⟨μ13, e14, h⟩ := b1_e h
    refine hp_wr ok_MO_attempt rfl rfl rfl rfl e14 ?_
    refine gv_B ok_MO_attempt 5 rfl ?_
    obtain ⟨μ16, e17, h⟩ := b1_e h
    refine hp_wr ok_MO_attempt rfl rfl rfl rfl e17 ?_
    refine gv_B ok_MO_attempt 6 rfl ?_
    obtain ⟨μ19, e20, h⟩ := b1_e h
    refine hp_wr ok_MO_attempt rfl rfl rfl rfl e20 ?_
    refine gv_B ok_MO_attempt 6 rfl ?_
    obtain ⟨μ22, e23, h⟩ := b1_e h
    refine hp_wr ok_MO_attempt rfl rfl rfl rfl e23 ?_
    refine gv_B ok_MO_attempt 5 rfl ?_
    refine hp_pf ok_MO_attempt rfl rfl rfl rfl rfl (Nat.le_of_ble_eq_true rfl) rfl ?_
    have h9 := Option.some.inj h
    subst h9
    exact gv_fk K11 ⟨rfl, ⟨rfl, ⟨rfl, ⟨rfl, ⟨rfl, trivial⟩⟩⟩⟩⟩
end FNP
