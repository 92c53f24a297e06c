/-! the collections are counted -/
section CGC
theorem col_c {g cap : Nat} {x0 x1 r : Int32} {μ μ' : Mu} (h : f_CO_run g cap x0 x1 μ = some (r, μ')) : μ' 64 5 = μ 64 5 + 1 := by
  unfold f_CO_run at h
  obtain ⟨μ1, a1, h⟩ := b1_e h
  obtain ⟨μ2, a2, h⟩ := b1_e h
  obtain ⟨μ3, a3, h⟩ := b1_e h
  obtain ⟨μ4, a4, h⟩ := b1_e h
  obtain ⟨v, a5, h⟩ := b1_e h
  obtain ⟨μ5, a6, h⟩ := b1_e h
  obtain ⟨μ6, a7, h⟩ := b1_e h
  have e := congrArg Prod.snd (Option.some.inj h)
  have e' : μ6 = μ' := e
  rw [← e', fr_CO_moveMarks a7 (by unfold W_CO_moveMarks; omega), fr_CO_moveGoals a6 (by unfold W_CO_moveGoals; omega), fr_CO_moveCells a4 (by unfold W_CO_moveCells; omega), fr_CO_findNewPlaces a3 (by unfold W_CO_findNewPlaces; omega), fr_CO_traceLive a2 (by unfold W_CO_traceLive; omega), fr_CO_dropNeedlessTrail a1 (by unfold W_CO_dropNeedlessTrail; omega)]
  exact sI_at
theorem m28 {k v : Int32} {ν ν' : Mu} (h : f_MO_mark k v ν = some ν') : ν' 70 28 = ν 70 28 := fr_MO_mark h (by unfold W_MO_mark; omega)
theorem c45 (fl : Nat) : ∀ {y : Int32} {ν ν' : Mu}, f_MO_free_45 fl y ν = some ν' → ν' 70 28 = ν 70 28 := by
  induction fl with
  | zero => intro y ν ν' h; cases h
  | succ fl ih =>
    intro y ν ν' h
    rw [f_MO_free_45] at h
    by_cases e : 8 ≤ y
    · rw [if_pos e] at h
      rw [Option.some.inj h]
    · rw [if_neg e] at h
      obtain ⟨v13, -, h⟩ := b1_e h
      obtain ⟨ν1, e1, h⟩ := b1_e h
      rw [ih h]
      by_cases e2 : v13 < 0
      · rw [if_pos e2] at e1
        rw [Option.some.inj e1]
      · rw [if_neg e2] at e1
        obtain ⟨v19, -, e1⟩ := b1_e e1
        obtain ⟨ν2, e3, e1⟩ := b1_e e1
        rw [← Option.some.inj e1, m28 e3]
theorem c105 {k3 : Int32} (fl : Nat) : ∀ {y : Int32} {ν ν' : Mu}, f_MO_free_105 k3 fl y ν = some ν' → ν' 70 28 = ν 70 28 := by
  induction fl with
  | zero => intro y ν ν' h; cases h
  | succ fl ih =>
    intro y ν ν' h
    rw [f_MO_free_105] at h
    by_cases e : ν 70 23 ≤ y
    · rw [if_pos e] at h
      rw [Option.some.inj h]
    · rw [if_neg e] at h
      obtain ⟨v38, -, h⟩ := b1_e h
      obtain ⟨v40, -, h⟩ := b1_e h
      obtain ⟨ν1, e1, h⟩ := b1_e h
      rw [ih h]
      by_cases e2 : v40 = 1
      · rw [if_neg (not_not_intro e2)] at e1
        obtain ⟨v46, -, e1⟩ := b1_e e1
        by_cases e3 : v46 < 0
        · rw [if_pos e3] at e1
          rw [Option.some.inj e1]
        · rw [if_neg e3] at e1
          obtain ⟨v49, -, e1⟩ := b1_e e1
          obtain ⟨v51, -, e1⟩ := b1_e e1
          by_cases e4 : v51 ≤ v49
          · rw [if_pos e4] at e1
            rw [Option.some.inj e1]
          · rw [if_neg e4] at e1
            obtain ⟨ν2, e5, e1⟩ := b1_e e1
            rw [← Option.some.inj e1, m28 e5]
      · rw [if_pos e2] at e1
        rw [Option.some.inj e1]
theorem c79 (fl : Nat) : ∀ {y : Int32} {ν ν' : Mu}, f_MO_free_79 fl y ν = some ν' → ν' 70 28 = ν 70 28 := by
  induction fl with
  | zero => intro y ν ν' h; cases h
  | succ fl ih =>
    intro y ν ν' h
    rw [f_MO_free_79] at h
    by_cases e : ν 70 18 ≤ y
    · rw [if_pos e] at h
      rw [Option.some.inj h]
    · rw [if_neg e] at h
      obtain ⟨v30, -, h⟩ := b1_e h
      obtain ⟨ν1, e1, h⟩ := b1_e h
      obtain ⟨v35, -, h⟩ := b1_e h
      obtain ⟨ν2, e2, h⟩ := b1_e h
      rw [ih h, c105 _ e2, fr_MO_markGoals e1 (by unfold W_MO_markGoals; omega)]
theorem c184 (fl : Nat) : ∀ {x y r : Int32} {ν ν' : Mu}, f_MO_free_184 fl x y ν = some (r, ν') → ν' 70 28 = ν 70 28 := by
  induction fl with
  | zero => intro x y r ν ν' h; cases h
  | succ fl ih =>
    intro x y r ν ν' h
    rw [f_MO_free_184] at h
    by_cases e : 240 ≤ y
    · rw [if_pos e] at h
      have e2 := congrArg Prod.snd (Option.some.inj h)
      have e3 : ν = ν' := e2
      rw [e3]
    · rw [if_neg e] at h
      obtain ⟨v67, -, h⟩ := b1_e h
      obtain ⟨v69, -, h⟩ := b1_e h
      obtain ⟨v76, -, h⟩ := b1_e h
      obtain ⟨v80, -, h⟩ := b1_e h
      obtain ⟨ν1, e1, h⟩ := b1_e h
      rw [ih h, wr_f e1 (by decide)]
theorem col_m {k v r : Int32} {ν ν' : Mu} (h : f_MO_free k v ν = some (r, ν')) : ν' 70 28 = ν 70 28 + 1 := by
  unfold f_MO_free at h
  obtain ⟨ν1, a1, h⟩ := b1_e h
  obtain ⟨ν2, a2, h⟩ := b1_e h
  obtain ⟨ν3, a3, h⟩ := b1_e h
  obtain ⟨ν4, a4, h⟩ := b1_e h
  obtain ⟨l, ν5, a5, h⟩ := b2_e h
  have e := congrArg Prod.snd (Option.some.inj h)
  have e' : ν5 = ν' := e
  rw [← e', c184 _ a5, c79 _ a4, c45 _ a3, fr_MO_markGoals a2 (by unfold W_MO_markGoals; omega)]
  by_cases e : k < 0
  · rw [if_pos e] at a1
    rw [← Option.some.inj a1]
    exact sI_at
  · rw [if_neg e] at a1
    obtain ⟨ν6, a6, a1⟩ := b1_e a1
    rw [← Option.some.inj a1, m28 a6]
    exact sI_at
end CGC
