/-! what the methods leave alone (written by wip/tools/genf.py, mkfr.py) -/
section FRB
variable {n g cap : Nat} {acc : Nat × Nat}
def W_AN_wordOf (k j : Nat) : Prop := ¬ (k = 66 ∧ j = 4) ∧ k ≠ 68
theorem fr_AN_wordOf_18 {k1 : Int32} {k j : Nat} (hW : W_AN_wordOf k j) (fl : Nat) : ∀ {y2 : Int32} {μ : Mu} {r : Int32} {μr : Mu}, f_AN_wordOf_18 k1 fl y2 μ = some (r, μr) → μr k j = μ k j := by
  induction fl with
  | zero => intro _ _ _ _ h; cases h
  | succ f ih =>
    intro y2 μ r μr h
    unfold f_AN_wordOf_18 at h
    by_cases c2 : (μ 66 4) ≤ y2
    · rw [if_pos c2] at h
      obtain ⟨μ3, e4, h⟩ := b1_e h
      have q5 : μ3 k j = μ k j := (wr_f e4 (hW.2)).trans rfl
      have j0 := Option.some.inj h
      obtain ⟨i1, j1⟩ := Prod.mk.inj j0
      subst i1
      subst j1
      exact ((sI_f (hW.1)).trans q5)
    · rw [if_neg c2] at h
      obtain ⟨v6, -, h⟩ := b1_e h
      by_cases c8 : ¬ v6 = k1
      · rw [if_pos c8] at h
        exact (ih h).trans rfl
      · rw [if_neg c8] at h
        have j0 := Option.some.inj h
        obtain ⟨i1, j1⟩ := Prod.mk.inj j0
        subst i1
        subst j1
        exact rfl
theorem fr_AN_wordOf {x0 : Int32} {k j : Nat} {μ : Mu} {r : Int32} {μr : Mu} (h : f_AN_wordOf x0 μ = some (r, μr)) (hW : W_AN_wordOf k j) : μr k j = μ k j := by
  unfold f_AN_wordOf at h
  by_cases c1 : (x0 &&& 7) = 0
  · rw [if_pos c1] at h
    exact (fr_AN_wordOf_18 hW _ h).trans rfl
  · rw [if_neg c1] at h
    obtain ⟨v10, -, h⟩ := b1_e h
    have j0 := Option.some.inj h
    obtain ⟨i1, j1⟩ := Prod.mk.inj j0
    subst i1
    subst j1
    exact rfl
def W_AN_openArguments (k j : Nat) : Prop := ¬ (k = 66 ∧ j = 6) ∧ k ≠ 69
theorem fr_AN_openArguments_22 {k1 : Int32} {k j : Nat} (hW : W_AN_openArguments k j) (fl : Nat) : ∀ {y2 : Int32} {μ : Mu} {μz : Mu}, f_AN_openArguments_22 k1 fl y2 μ = some (μz) → μz k j = μ k j := by
  induction fl with
  | zero => intro _ _ _ h; cases h
  | succ f ih =>
    intro y2 μ μz h
    unfold f_AN_openArguments_22 at h
    by_cases c6 : y2 < 1
    · rw [if_pos c6] at h
      have h9 := Option.some.inj h
      subst h9
      exact rfl
    · rw [if_neg c6] at h
      obtain ⟨v8, -, h⟩ := b1_e h
      obtain ⟨μ9, e10, h⟩ := b1_e h
      have q11 : μ9 k j = μ k j := (wr_f e10 (hW.2)).trans rfl
      exact (ih h).trans ((sI_f (hW.1)).trans q11)
theorem fr_AN_openArguments {x0 : Int32} {k j : Nat} {μ : Mu} {μr : Mu} (h : f_AN_openArguments x0 μ = some (μr)) (hW : W_AN_openArguments k j) : μr k j = μ k j := by
  unfold f_AN_openArguments at h
  by_cases c1 : (x0 &&& 7) = 7
  · rw [if_pos c1] at h
    obtain ⟨v3, -, h⟩ := b1_e h
    obtain ⟨v5, -, h⟩ := b1_e h
    obtain ⟨μ12, e13, h⟩ := b1_e h
    have q15 : μ12 k j = μ k j := (fr_AN_openArguments_22 hW _ e13).trans rfl
    have h9 := Option.some.inj h
    subst h9
    exact q15
  · rw [if_neg c1] at h
    have h9 := Option.some.inj h
    subst h9
    exact rfl
def W_AN_writeTerm (k j : Nat) : Prop := ¬ (k = 66 ∧ j = 2) ∧ ¬ (k = 66 ∧ j = 4) ∧ ¬ (k = 66 ∧ j = 6) ∧ k ≠ 67 ∧ k ≠ 68 ∧ k ≠ 69
theorem fr_AN_writeTerm_12 {k j : Nat} (hW : W_AN_writeTerm k j) (fl : Nat) : ∀ {μ : Mu} {μz : Mu}, f_AN_writeTerm_12 fl μ = some (μz) → μz k j = μ k j := by
  induction fl with
  | zero => intro _ _ h; cases h
  | succ f ih =>
    intro μ μz h
    unfold f_AN_writeTerm_12 at h
    by_cases c4 : (μ 66 6) ≤ 0
    · rw [if_pos c4] at h
      have h9 := Option.some.inj h
      subst h9
      exact rfl
    · rw [if_neg c4] at h
      by_cases c5 : 90 ≤ (μ 66 2)
      · rw [if_pos c5] at h
        have h9 := Option.some.inj h
        subst h9
        exact rfl
      · rw [if_neg c5] at h
        obtain ⟨v6, -, h⟩ := b1_e h
        obtain ⟨v9, -, h⟩ := b1_e h
        obtain ⟨v11, μ12, e10, h⟩ := b2_e h
        have q13 : μ12 k j = μ k j := (fr_AN_wordOf e10 ⟨(hW.2.1), (hW.2.2.2.2.1)⟩).trans ((sI_f (hW.2.2.1)).trans rfl)
        obtain ⟨μ14, e15, h⟩ := b1_e h
        have q16 : μ14 k j = μ k j := (wr_f e15 (hW.2.2.2.1)).trans q13
        obtain ⟨μ18, e17, h⟩ := b1_e h
        have q19 : μ18 k j = μ k j := (fr_AN_openArguments e17 ⟨(hW.2.2.1), (hW.2.2.2.2.2)⟩).trans ((sI_f (hW.1)).trans q16)
        exact (ih h).trans q19
theorem fr_AN_writeTerm {x0 : Int32} {k j : Nat} {μ : Mu} {μr : Mu} (h : f_AN_writeTerm x0 μ = some (μr)) (hW : W_AN_writeTerm k j) : μr k j = μ k j := by
  unfold f_AN_writeTerm at h
  obtain ⟨μ1, e2, h⟩ := b1_e h
  have q3 : μ1 k j = μ k j := (wr_f e2 (hW.2.2.2.2.2)).trans rfl
  obtain ⟨μ20, e21, h⟩ := b1_e h
  have q23 : μ20 k j = μ k j := (fr_AN_writeTerm_12 hW _ e21).trans ((sI_f (hW.2.2.1)).trans q3)
  have h9 := Option.some.inj h
  subst h9
  exact q23
def W_AN_write (k j : Nat) : Prop := ¬ (k = 66 ∧ j = 2) ∧ ¬ (k = 66 ∧ j = 4) ∧ ¬ (k = 66 ∧ j = 6) ∧ k ≠ 67 ∧ k ≠ 68 ∧ k ≠ 69
theorem fr_AN_write_12 {k1 : Int32} {k j : Nat} (hW : W_AN_write k j) (fl : Nat) : ∀ {y2 : Int32} {μ : Mu} {μz : Mu}, f_AN_write_12 k1 fl y2 μ = some (μz) → μz k j = μ k j := by
  induction fl with
  | zero => intro _ _ _ h; cases h
  | succ f ih =>
    intro y2 μ μz h
    unfold f_AN_write_12 at h
    by_cases c1 : k1 ≤ y2
    · rw [if_pos c1] at h
      have h9 := Option.some.inj h
      subst h9
      exact rfl
    · rw [if_neg c1] at h
      obtain ⟨μ3, e2, h⟩ := b1_e h
      have q4 : μ3 k j = μ k j := (fr_AN_writeTerm e2 ⟨(hW.1), (hW.2.1), (hW.2.2.1), (hW.2.2.2.1), (hW.2.2.2.2.1), (hW.2.2.2.2.2)⟩).trans rfl
      exact (ih h).trans q4
theorem fr_AN_write {x0 : Int32} {k j : Nat} {μ : Mu} {r : Int32} {μr : Mu} (h : f_AN_write x0 μ = some (r, μr)) (hW : W_AN_write k j) : μr k j = μ k j := by
  unfold f_AN_write at h
  obtain ⟨μ5, e6, h⟩ := b1_e h
  have q8 : μ5 k j = μ k j := (fr_AN_write_12 hW _ e6).trans ((sI_f (hW.2.1)).trans ((sI_f (hW.1)).trans rfl))
  have j0 := Option.some.inj h
  obtain ⟨i1, j1⟩ := Prod.mk.inj j0
  subst i1
  subst j1
  exact q8
def W_SE_tryOtherWay (k j : Nat) : Prop := ¬ (k = 37 ∧ j = 9) ∧ ¬ (k = 37 ∧ j = 10) ∧ ¬ (k = 37 ∧ j = 11) ∧ ¬ (k = 40 ∧ j = 1) ∧ ¬ (k = 40 ∧ j = 3) ∧ ¬ (k = 58 ∧ j = 5) ∧ k ≠ 41
theorem fr_SE_tryOtherWay {k j : Nat} {μ : Mu} {μr : Mu} (h : f_SE_tryOtherWay μ = some (μr)) (hW : W_SE_tryOtherWay k j) : μr k j = μ k j := by
  unfold f_SE_tryOtherWay at h
  by_cases c1 : ¬ (μ 58 5) = 0
  · rw [if_pos c1] at h
    obtain ⟨μ3, e2, h⟩ := b1_e h
    have q4 : μ3 k j = μ k j := (fr_CH_cutTo e2 (hW.2.2.2.2.2.1)).trans rfl
    obtain ⟨v5, -, h⟩ := b1_e h
    obtain ⟨v7, -, h⟩ := b1_e h
    obtain ⟨μ10, e9, h⟩ := b1_e h
    have q11 : μ10 k j = μ k j := (fr_CE_goBack e9 ⟨(hW.2.2.2.1), (hW.2.2.2.2.1), (hW.2.2.2.2.2.2)⟩).trans q4
    obtain ⟨v12, -, h⟩ := b1_e h
    obtain ⟨v14, -, h⟩ := b1_e h
    have h9 := Option.some.inj h
    subst h9
    exact ((sI_f (hW.2.2.1)).trans ((sI_f (hW.2.1)).trans ((sI_f (hW.1)).trans q11)))
  · rw [if_neg c1] at h
    have h9 := Option.some.inj h
    subst h9
    exact ((sI_f (hW.2.2.1)).trans rfl)
def W_SE_settle (k j : Nat) : Prop := ¬ (k = 37 ∧ j = 9) ∧ ¬ (k = 37 ∧ j = 10) ∧ ¬ (k = 37 ∧ j = 11) ∧ ¬ (k = 40 ∧ j = 1) ∧ ¬ (k = 40 ∧ j = 3) ∧ ¬ (k = 58 ∧ j = 5) ∧ k ≠ 41
theorem fr_SE_settle {x0 : Int32} {k j : Nat} {μ : Mu} {μr : Mu} (h : f_SE_settle x0 μ = some (μr)) (hW : W_SE_settle k j) : μr k j = μ k j := by
  unfold f_SE_settle at h
  by_cases c1 : ¬ x0 = 1
  · rw [if_pos c1] at h
    by_cases c2 : x0 = 0
    · rw [if_pos c2] at h
      by_cases c3 : ¬ (μ 37 9) = (-1)
      · rw [if_pos c3] at h
        have h9 := Option.some.inj h
        subst h9
        exact rfl
      · rw [if_neg c3] at h
        have h9 := Option.some.inj h
        subst h9
        exact ((sI_f (hW.2.2.1)).trans rfl)
    · rw [if_neg c2] at h
      have h9 := Option.some.inj h
      subst h9
      exact ((sI_f (hW.2.2.1)).trans rfl)
  · rw [if_neg c1] at h
    obtain ⟨μ5, e4, h⟩ := b1_e h
    have q6 : μ5 k j = μ k j := (fr_SE_tryOtherWay e4 ⟨(hW.1), (hW.2.1), (hW.2.2.1), (hW.2.2.2.1), (hW.2.2.2.2.1), (hW.2.2.2.2.2.1), (hW.2.2.2.2.2.2)⟩).trans rfl
    have h9 := Option.some.inj h
    subst h9
    exact q6
def W_SE_meet (k j : Nat) : Prop := ¬ (k = 40 ∧ j = 3) ∧ ¬ (k = 46 ∧ j = 3) ∧ ¬ (k = 49 ∧ j = 4) ∧ ¬ (k = 52 ∧ j = 1) ∧ k ≠ 41 ∧ k ≠ 42 ∧ k ≠ 47 ∧ k ≠ 48 ∧ k ≠ 50 ∧ k ≠ 51
theorem fr_SE_meet {x0 : Int32} {x1 : Int32} {x2 : Int32} {k j : Nat} {μ : Mu} {r : Int32} {μr : Mu} (h : f_SE_meet x0 x1 x2 μ = some (r, μr)) (hW : W_SE_meet k j) : μr k j = μ k j := by
  unfold f_SE_meet at h
  by_cases c1 : x0 = 24
  · rw [if_pos c1] at h
    obtain ⟨v3, μ4, e2, h⟩ := b2_e h
    have q5 : μ4 k j = μ k j := (fr_UN_unify e2 ⟨(hW.1), (hW.2.1), (hW.2.2.1), (hW.2.2.2.2.1), (hW.2.2.2.2.2.1), (hW.2.2.2.2.2.2.1), (hW.2.2.2.2.2.2.2.1), (hW.2.2.2.2.2.2.2.2.1), (hW.2.2.2.2.2.2.2.2.2)⟩).trans rfl
    have j0 := Option.some.inj h
    obtain ⟨i1, j1⟩ := Prod.mk.inj j0
    subst i1
    subst j1
    exact q5
  · rw [if_neg c1] at h
    by_cases c6 : x0 = 25
    · rw [if_pos c6] at h
      obtain ⟨v8, μ9, e7, h⟩ := b2_e h
      have q10 : μ9 k j = μ k j := (fr_CA_calculate e7 (hW.2.2.2.1)).trans rfl
      by_cases c11 : ¬ (lg_cmp v8 4294967296) = 0
      · rw [if_pos c11] at h
        obtain ⟨v13, μ14, e12, h⟩ := b2_e h
        have q15 : μ14 k j = μ k j := (fr_UN_unify e12 ⟨(hW.1), (hW.2.1), (hW.2.2.1), (hW.2.2.2.2.1), (hW.2.2.2.2.2.1), (hW.2.2.2.2.2.2.1), (hW.2.2.2.2.2.2.2.1), (hW.2.2.2.2.2.2.2.2.1), (hW.2.2.2.2.2.2.2.2.2)⟩).trans q10
        have j0 := Option.some.inj h
        obtain ⟨i1, j1⟩ := Prod.mk.inj j0
        subst i1
        subst j1
        exact q15
      · rw [if_neg c11] at h
        have j0 := Option.some.inj h
        obtain ⟨i1, j1⟩ := Prod.mk.inj j0
        subst i1
        subst j1
        exact q10
    · rw [if_neg c6] at h
      by_cases c16 : x0 = 26
      · rw [if_pos c16] at h
        obtain ⟨v18, μ19, e17, h⟩ := b2_e h
        have q20 : μ19 k j = μ k j := (fr_CA_calculate e17 (hW.2.2.2.1)).trans rfl
        obtain ⟨v22, μ23, e21, h⟩ := b2_e h
        have q24 : μ23 k j = μ k j := (fr_CA_calculate e21 (hW.2.2.2.1)).trans q20
        obtain ⟨v26, -, h⟩ := b1_e h
        have j0 := Option.some.inj h
        obtain ⟨i1, j1⟩ := Prod.mk.inj j0
        subst i1
        subst j1
        exact q24
      · rw [if_neg c16] at h
        by_cases c27 : x0 = 27
        · rw [if_pos c27] at h
          obtain ⟨v29, μ30, e28, h⟩ := b2_e h
          have q31 : μ30 k j = μ k j := (fr_CA_calculate e28 (hW.2.2.2.1)).trans rfl
          obtain ⟨v33, μ34, e32, h⟩ := b2_e h
          have q35 : μ34 k j = μ k j := (fr_CA_calculate e32 (hW.2.2.2.1)).trans q31
          obtain ⟨v37, -, h⟩ := b1_e h
          have j0 := Option.some.inj h
          obtain ⟨i1, j1⟩ := Prod.mk.inj j0
          subst i1
          subst j1
          exact q35
        · rw [if_neg c27] at h
          have j0 := Option.some.inj h
          obtain ⟨i1, j1⟩ := Prod.mk.inj j0
          subst i1
          subst j1
          exact rfl
def W_SE_freeCells (k j : Nat) : Prop := (k < 54 ∨ (58 ≤ k ∧ k < 99)) ∧ ¬ (k = 40 ∧ j = 1) ∧ ¬ (k = 40 ∧ j = 3) ∧ ¬ (k = 46 ∧ j = 3) ∧ ¬ (k = 64 ∧ j = 5) ∧ k ≠ 41 ∧ k ≠ 42 ∧ k ≠ 47 ∧ k ≠ 48 ∧ k ≠ 61 ∧ k ≠ 62 ∧ k ≠ 65
theorem fr_SE_freeCells {k j : Nat} {μ : Mu} {r : Int32} {μr : Mu} (h : f_SE_freeCells g cap μ = some (r, μr)) (hW : W_SE_freeCells k j) : μr k j = μ k j := by
  unfold f_SE_freeCells at h
  obtain ⟨v2, μ3, e1, h⟩ := b2_e h
  have q4 : μ3 k j = μ k j := (fr_CO_run e1 ⟨(hW.1), (hW.2.1), (hW.2.2.1), (hW.2.2.2.1), (hW.2.2.2.2.1), (hW.2.2.2.2.2.1), (hW.2.2.2.2.2.2.1), (hW.2.2.2.2.2.2.2.1), (hW.2.2.2.2.2.2.2.2.1), (hW.2.2.2.2.2.2.2.2.2.1), (hW.2.2.2.2.2.2.2.2.2.2.1), (hW.2.2.2.2.2.2.2.2.2.2.2)⟩).trans rfl
  have j0 := Option.some.inj h
  obtain ⟨i1, j1⟩ := Prod.mk.inj j0
  subst i1
  subst j1
  exact q4
def W_SE_answerLength (k j : Nat) : Prop := ¬ (k = 66 ∧ j = 2) ∧ ¬ (k = 66 ∧ j = 4) ∧ ¬ (k = 66 ∧ j = 6) ∧ k ≠ 67 ∧ k ≠ 68 ∧ k ≠ 69
theorem fr_SE_answerLength {k j : Nat} {μ : Mu} {r : Int32} {μr : Mu} (h : f_SE_answerLength μ = some (r, μr)) (hW : W_SE_answerLength k j) : μr k j = μ k j := by
  unfold f_SE_answerLength at h
  by_cases c1 : ¬ (μ 37 11) = 2
  · rw [if_pos c1] at h
    have j0 := Option.some.inj h
    obtain ⟨i1, j1⟩ := Prod.mk.inj j0
    subst i1
    subst j1
    exact rfl
  · rw [if_neg c1] at h
    obtain ⟨v3, μ4, e2, h⟩ := b2_e h
    have q5 : μ4 k j = μ k j := (fr_AN_write e2 ⟨(hW.1), (hW.2.1), (hW.2.2.1), (hW.2.2.2.1), (hW.2.2.2.2.1), (hW.2.2.2.2.2)⟩).trans rfl
    have j0 := Option.some.inj h
    obtain ⟨i1, j1⟩ := Prod.mk.inj j0
    subst i1
    subst j1
    exact q5
def W_SE_bringGoals (k j : Nat) : Prop := (k < 54 ∨ (58 ≤ k ∧ k < 99)) ∧ ¬ (k = 37 ∧ j = 9)
theorem fr_SE_bringGoals_28 {k1 : Int32} {k2 : Int32} {k j : Nat} (hW : W_SE_bringGoals k j) (fl : Nat) : ∀ {y3 : Int32} {y4 : Int32} {nn : Nat} {ac : Nat × Nat} {gg cp : Nat} {μ : Mu} {nz : Nat} {az : Nat × Nat} {gz cz : Nat} {μz : Mu}, f_SE_bringGoals_28 k1 k2 fl y3 y4 nn ac gg cp μ = some (nz, az, gz, cz, μz) → μz k j = μ k j := by
  induction fl with
  | zero => intro _ _ _ _ _ _ _ _ _ _ _ _ h; cases h
  | succ f ih =>
    intro y3 y4 nn ac gg cp μ nz az gz cz μz h
    unfold f_SE_bringGoals_28 at h
    by_cases c3 : y4 < k1
    · rw [if_pos c3] at h
      have j0 := Option.some.inj h
      obtain ⟨i1, j1⟩ := Prod.mk.inj j0
      obtain ⟨i2, j2⟩ := Prod.mk.inj j1
      obtain ⟨i3, j3⟩ := Prod.mk.inj j2
      obtain ⟨i4, j4⟩ := Prod.mk.inj j3
      subst i1
      subst i2
      subst i3
      subst i4
      subst j4
      exact rfl
    · rw [if_neg c3] at h
      obtain ⟨v4, -, h⟩ := b1_e h
      obtain ⟨n7, ac8, g9, cp10, μ11, e6, h⟩ := b5_e h
      have q12 : μ11 k j = μ k j := (fr_GO_set e6 (hW.1)).trans rfl
      exact (ih h).trans ((sI_f (hW.2)).trans q12)
theorem fr_SE_bringGoals {x0 : Int32} {x1 : Int32} {k j : Nat} {μ : Mu} {nr : Nat} {ar : Nat × Nat} {gr cr : Nat} {μr : Mu} (h : f_SE_bringGoals n acc g cap x0 x1 μ = some (nr, ar, gr, cr, μr)) (hW : W_SE_bringGoals k j) : μr k j = μ k j := by
  unfold f_SE_bringGoals at h
  obtain ⟨v2, -, h⟩ := b1_e h
  obtain ⟨n13, ac14, g15, cp16, μ17, e18, h⟩ := b5_e h
  have q20 : μ17 k j = μ k j := (fr_SE_bringGoals_28 hW _ e18).trans rfl
  have j0 := Option.some.inj h
  obtain ⟨i1, j1⟩ := Prod.mk.inj j0
  obtain ⟨i2, j2⟩ := Prod.mk.inj j1
  obtain ⟨i3, j3⟩ := Prod.mk.inj j2
  obtain ⟨i4, j4⟩ := Prod.mk.inj j3
  subst i1
  subst i2
  subst i3
  subst i4
  subst j4
  exact q20
def W_SE_begin (k j : Nat) : Prop := (k < 54 ∨ (58 ≤ k ∧ k < 99)) ∧ ¬ (k = 37 ∧ j = 9) ∧ ¬ (k = 37 ∧ j = 10) ∧ ¬ (k = 37 ∧ j = 11) ∧ ¬ (k = 40 ∧ j = 1) ∧ ¬ (k = 40 ∧ j = 3) ∧ ¬ (k = 40 ∧ j = 6) ∧ ¬ (k = 40 ∧ j = 8) ∧ ¬ (k = 58 ∧ j = 5) ∧ k ≠ 38 ∧ k ≠ 39 ∧ k ≠ 41 ∧ k ≠ 43 ∧ k ≠ 44 ∧ k ≠ 45
theorem fr_SE_begin {x0 : Int32} {k j : Nat} {μ : Mu} {nr : Nat} {ar : Nat × Nat} {gr cr : Nat} {μr : Mu} (h : f_SE_begin n acc g cap x0 μ = some (nr, ar, gr, cr, μr)) (hW : W_SE_begin k j) : μr k j = μ k j := by
  unfold f_SE_begin at h
  obtain ⟨μ2, e1, h⟩ := b1_e h
  have q3 : μ2 k j = μ k j := (fr_CL_read e1 ⟨(hW.2.2.2.2.2.2.2.2.2.1), (hW.2.2.2.2.2.2.2.2.2.2.1)⟩).trans rfl
  obtain ⟨μ5, e4, h⟩ := b1_e h
  have q6 : μ5 k j = μ k j := (fr_CE_clear e4 ⟨(hW.2.2.2.2.1), (hW.2.2.2.2.2.1)⟩).trans q3
  obtain ⟨μ8, e7, h⟩ := b1_e h
  have q9 : μ8 k j = μ k j := (fr_CH_cutTo e7 (hW.2.2.2.2.2.2.2.2.1)).trans q6
  obtain ⟨μ11, e10, h⟩ := b1_e h
  have q12 : μ11 k j = μ k j := (fr_CE_copy e10 ⟨(hW.2.2.2.2.1), (hW.2.2.2.2.2.2.1), (hW.2.2.2.2.2.2.2.1), (hW.2.2.2.2.2.2.2.2.2.2.2.1), (hW.2.2.2.2.2.2.2.2.2.2.2.2.1), (hW.2.2.2.2.2.2.2.2.2.2.2.2.2.1), (hW.2.2.2.2.2.2.2.2.2.2.2.2.2.2)⟩).trans q9
  obtain ⟨n14, ac15, g16, cp17, μ18, e13, h⟩ := b5_e h
  have q19 : μ18 k j = μ k j := (fr_SE_bringGoals e13 ⟨(hW.1), (hW.2.1)⟩).trans ((sI_f (hW.2.2.1)).trans ((sI_f (hW.2.1)).trans q12))
  have j0 := Option.some.inj h
  obtain ⟨i1, j1⟩ := Prod.mk.inj j0
  obtain ⟨i2, j2⟩ := Prod.mk.inj j1
  obtain ⟨i3, j3⟩ := Prod.mk.inj j2
  obtain ⟨i4, j4⟩ := Prod.mk.inj j3
  subst i1
  subst i2
  subst i3
  subst i4
  subst j4
  exact ((sI_f (hW.2.2.2.1)).trans q19)
def W_SE_tryRule (k j : Nat) : Prop := (k < 54 ∨ (58 ≤ k ∧ k < 99)) ∧ ¬ (k = 37 ∧ j = 9) ∧ ¬ (k = 40 ∧ j = 1) ∧ ¬ (k = 40 ∧ j = 3) ∧ ¬ (k = 40 ∧ j = 6) ∧ ¬ (k = 40 ∧ j = 8) ∧ ¬ (k = 46 ∧ j = 3) ∧ ¬ (k = 49 ∧ j = 4) ∧ ¬ (k = 58 ∧ j = 5) ∧ ¬ (k = 64 ∧ j = 5) ∧ k ≠ 41 ∧ k ≠ 42 ∧ k ≠ 43 ∧ k ≠ 44 ∧ k ≠ 45 ∧ k ≠ 47 ∧ k ≠ 48 ∧ k ≠ 50 ∧ k ≠ 51 ∧ k ≠ 59 ∧ k ≠ 60 ∧ k ≠ 61 ∧ k ≠ 62 ∧ k ≠ 63 ∧ k ≠ 65
theorem fr_SE_tryRule {x0 : Int32} {x1 : Int32} {x2 : Int32} {k j : Nat} {μ : Mu} {r : Int32} {nr : Nat} {ar : Nat × Nat} {gr cr : Nat} {μr : Mu} (h : f_SE_tryRule n acc g cap x0 x1 x2 μ = some (r, nr, ar, gr, cr, μr)) (hW : W_SE_tryRule k j) : μr k j = μ k j := by
  unfold f_SE_tryRule at h
  by_cases hg : gPb g = true
  rotate_left
  · rw [if_neg hg] at h
    cases h
  rw [if_pos hg] at h
  obtain ⟨v2, -, h⟩ := b1_e h
  obtain ⟨μ3, e4, h⟩ := b1_e h
  have q10 : μ3 k j = μ k j := by
    clear h
    have h := e4
    clear e4
    by_cases c6 : v2 = (-1)
    · rw [if_pos c6] at h
      have h9 := Option.some.inj h
      subst h9
      exact rfl
    · rw [if_neg c6] at h
      obtain ⟨μ8, e7, h⟩ := b1_e h
      have q9 : μ8 k j = μ k j := (fr_CH_make e7 ⟨(hW.2.2.2.2.2.2.2.2.1), (hW.2.2.2.2.2.2.2.2.2.2.2.2.2.2.2.2.2.2.2.1), (hW.2.2.2.2.2.2.2.2.2.2.2.2.2.2.2.2.2.2.2.2.1), (hW.2.2.2.2.2.2.2.2.2.2.2.2.2.2.2.2.2.2.2.2.2.1), (hW.2.2.2.2.2.2.2.2.2.2.2.2.2.2.2.2.2.2.2.2.2.2.1), (hW.2.2.2.2.2.2.2.2.2.2.2.2.2.2.2.2.2.2.2.2.2.2.2.1)⟩).trans rfl
      have h9 := Option.some.inj h
      subst h9
      exact q9
  obtain ⟨q, hcl, h⟩ := b1_e h
  obtain ⟨v12, -, h⟩ := b1_e h
  by_cases c13 : ¬ v12 = 0
  · rw [if_pos c13] at h
    obtain ⟨μ15, e14, h⟩ := b1_e h
    have q16 : μ15 k j = μ k j := (fr_CE_copy e14 ⟨(hW.2.2.1), (hW.2.2.2.2.1), (hW.2.2.2.2.2.1), (hW.2.2.2.2.2.2.2.2.2.2.1), (hW.2.2.2.2.2.2.2.2.2.2.2.2.1), (hW.2.2.2.2.2.2.2.2.2.2.2.2.2.1), (hW.2.2.2.2.2.2.2.2.2.2.2.2.2.2.1)⟩).trans q10
    obtain ⟨v17, -, h⟩ := b1_e h
    obtain ⟨v19, -, h⟩ := b1_e h
    obtain ⟨v22, μ23, e21, h⟩ := b2_e h
    have q24 : μ23 k j = μ k j := (fr_UN_unify e21 ⟨(hW.2.2.2.1), (hW.2.2.2.2.2.2.1), (hW.2.2.2.2.2.2.2.1), (hW.2.2.2.2.2.2.2.2.2.2.1), (hW.2.2.2.2.2.2.2.2.2.2.2.1), (hW.2.2.2.2.2.2.2.2.2.2.2.2.2.2.2.1), (hW.2.2.2.2.2.2.2.2.2.2.2.2.2.2.2.2.1), (hW.2.2.2.2.2.2.2.2.2.2.2.2.2.2.2.2.2.1), (hW.2.2.2.2.2.2.2.2.2.2.2.2.2.2.2.2.2.2.1)⟩).trans q16
    obtain ⟨n25, ac26, g27, cp28, μ29, e30, h⟩ := b5_e h
    have q40 : μ29 k j = μ k j := by
      clear h
      have h := e30
      clear e30
      by_cases c32 : ¬ v22 = 0
      · rw [if_pos c32] at h
        have j0 := Option.some.inj h
        obtain ⟨i1, j1⟩ := Prod.mk.inj j0
        obtain ⟨i2, j2⟩ := Prod.mk.inj j1
        obtain ⟨i3, j3⟩ := Prod.mk.inj j2
        obtain ⟨i4, j4⟩ := Prod.mk.inj j3
        subst i1
        subst i2
        subst i3
        subst i4
        subst j4
        exact q24
      · rw [if_neg c32] at h
        obtain ⟨n34, ac35, g36, cp37, μ38, e33, h⟩ := b5_e h
        have q39 : μ38 k j = μ k j := (fr_SE_bringGoals e33 ⟨(hW.1), (hW.2.1)⟩).trans q24
        have j0 := Option.some.inj h
        obtain ⟨i1, j1⟩ := Prod.mk.inj j0
        obtain ⟨i2, j2⟩ := Prod.mk.inj j1
        obtain ⟨i3, j3⟩ := Prod.mk.inj j2
        obtain ⟨i4, j4⟩ := Prod.mk.inj j3
        subst i1
        subst i2
        subst i3
        subst i4
        subst j4
        exact q39
    have j0 := Option.some.inj h
    obtain ⟨i1, j1⟩ := Prod.mk.inj j0
    obtain ⟨i2, j2⟩ := Prod.mk.inj j1
    obtain ⟨i3, j3⟩ := Prod.mk.inj j2
    obtain ⟨i4, j4⟩ := Prod.mk.inj j3
    obtain ⟨i5, j5⟩ := Prod.mk.inj j4
    subst i1
    subst i2
    subst i3
    subst i4
    subst i5
    subst j5
    exact q40
  · rw [if_neg c13] at h
    obtain ⟨v42, μ43, e41, h⟩ := b2_e h
    have q44 : μ43 k j = μ k j := (fr_CO_run e41 ⟨(hW.1), (hW.2.2.1), (hW.2.2.2.1), (hW.2.2.2.2.2.2.1), (hW.2.2.2.2.2.2.2.2.2.1), (hW.2.2.2.2.2.2.2.2.2.2.1), (hW.2.2.2.2.2.2.2.2.2.2.2.1), (hW.2.2.2.2.2.2.2.2.2.2.2.2.2.2.2.1), (hW.2.2.2.2.2.2.2.2.2.2.2.2.2.2.2.2.1), (hW.2.2.2.2.2.2.2.2.2.2.2.2.2.2.2.2.2.2.2.2.2.1), (hW.2.2.2.2.2.2.2.2.2.2.2.2.2.2.2.2.2.2.2.2.2.2.1), (hW.2.2.2.2.2.2.2.2.2.2.2.2.2.2.2.2.2.2.2.2.2.2.2.2)⟩).trans q10
    obtain ⟨v46, -, h⟩ := b1_e h
    by_cases c47 : ¬ v46 = 0
    · rw [if_pos c47] at h
      obtain ⟨μ49, e48, h⟩ := b1_e h
      have q50 : μ49 k j = μ k j := (fr_CE_copy e48 ⟨(hW.2.2.1), (hW.2.2.2.2.1), (hW.2.2.2.2.2.1), (hW.2.2.2.2.2.2.2.2.2.2.1), (hW.2.2.2.2.2.2.2.2.2.2.2.2.1), (hW.2.2.2.2.2.2.2.2.2.2.2.2.2.1), (hW.2.2.2.2.2.2.2.2.2.2.2.2.2.2.1)⟩).trans q44
      obtain ⟨v51, -, h⟩ := b1_e h
      obtain ⟨v53, -, h⟩ := b1_e h
      obtain ⟨v56, μ57, e55, h⟩ := b2_e h
      have q58 : μ57 k j = μ k j := (fr_UN_unify e55 ⟨(hW.2.2.2.1), (hW.2.2.2.2.2.2.1), (hW.2.2.2.2.2.2.2.1), (hW.2.2.2.2.2.2.2.2.2.2.1), (hW.2.2.2.2.2.2.2.2.2.2.2.1), (hW.2.2.2.2.2.2.2.2.2.2.2.2.2.2.2.1), (hW.2.2.2.2.2.2.2.2.2.2.2.2.2.2.2.2.1), (hW.2.2.2.2.2.2.2.2.2.2.2.2.2.2.2.2.2.1), (hW.2.2.2.2.2.2.2.2.2.2.2.2.2.2.2.2.2.2.1)⟩).trans q50
      obtain ⟨n59, ac60, g61, cp62, μ63, e64, h⟩ := b5_e h
      have q74 : μ63 k j = μ k j := by
        clear h
        have h := e64
        clear e64
        by_cases c66 : ¬ v56 = 0
        · rw [if_pos c66] at h
          have j0 := Option.some.inj h
          obtain ⟨i1, j1⟩ := Prod.mk.inj j0
          obtain ⟨i2, j2⟩ := Prod.mk.inj j1
          obtain ⟨i3, j3⟩ := Prod.mk.inj j2
          obtain ⟨i4, j4⟩ := Prod.mk.inj j3
          subst i1
          subst i2
          subst i3
          subst i4
          subst j4
          exact q58
        · rw [if_neg c66] at h
          obtain ⟨n68, ac69, g70, cp71, μ72, e67, h⟩ := b5_e h
          have q73 : μ72 k j = μ k j := (fr_SE_bringGoals e67 ⟨(hW.1), (hW.2.1)⟩).trans q58
          have j0 := Option.some.inj h
          obtain ⟨i1, j1⟩ := Prod.mk.inj j0
          obtain ⟨i2, j2⟩ := Prod.mk.inj j1
          obtain ⟨i3, j3⟩ := Prod.mk.inj j2
          obtain ⟨i4, j4⟩ := Prod.mk.inj j3
          subst i1
          subst i2
          subst i3
          subst i4
          subst j4
          exact q73
      have j0 := Option.some.inj h
      obtain ⟨i1, j1⟩ := Prod.mk.inj j0
      obtain ⟨i2, j2⟩ := Prod.mk.inj j1
      obtain ⟨i3, j3⟩ := Prod.mk.inj j2
      obtain ⟨i4, j4⟩ := Prod.mk.inj j3
      obtain ⟨i5, j5⟩ := Prod.mk.inj j4
      subst i1
      subst i2
      subst i3
      subst i4
      subst i5
      subst j5
      exact q74
    · rw [if_neg c47] at h
      have j0 := Option.some.inj h
      obtain ⟨i1, j1⟩ := Prod.mk.inj j0
      obtain ⟨i2, j2⟩ := Prod.mk.inj j1
      obtain ⟨i3, j3⟩ := Prod.mk.inj j2
      obtain ⟨i4, j4⟩ := Prod.mk.inj j3
      obtain ⟨i5, j5⟩ := Prod.mk.inj j4
      subst i1
      subst i2
      subst i3
      subst i4
      subst i5
      subst j5
      exact q44
def W_SE_step (k j : Nat) : Prop := (k < 54 ∨ (58 ≤ k ∧ k < 99)) ∧ ¬ (k = 37 ∧ j = 9) ∧ ¬ (k = 37 ∧ j = 10) ∧ ¬ (k = 37 ∧ j = 12) ∧ ¬ (k = 40 ∧ j = 1) ∧ ¬ (k = 40 ∧ j = 3) ∧ ¬ (k = 40 ∧ j = 6) ∧ ¬ (k = 40 ∧ j = 8) ∧ ¬ (k = 46 ∧ j = 3) ∧ ¬ (k = 49 ∧ j = 4) ∧ ¬ (k = 52 ∧ j = 1) ∧ ¬ (k = 58 ∧ j = 5) ∧ ¬ (k = 64 ∧ j = 5) ∧ k ≠ 41 ∧ k ≠ 42 ∧ k ≠ 43 ∧ k ≠ 44 ∧ k ≠ 45 ∧ k ≠ 47 ∧ k ≠ 48 ∧ k ≠ 50 ∧ k ≠ 51 ∧ k ≠ 59 ∧ k ≠ 60 ∧ k ≠ 61 ∧ k ≠ 62 ∧ k ≠ 63 ∧ k ≠ 65
theorem fr_SE_step {k j : Nat} {μ : Mu} {r : Int32} {nr : Nat} {ar : Nat × Nat} {gr cr : Nat} {μr : Mu} (h : f_SE_step n acc g cap μ = some (r, nr, ar, gr, cr, μr)) (hW : W_SE_step k j) : μr k j = μ k j := by
  unfold f_SE_step at h
  by_cases hg : gPb g = true
  rotate_left
  · rw [if_neg hg] at h
    cases h
  rw [if_pos hg] at h
  obtain ⟨v1, -, h⟩ := b1_e h
  obtain ⟨v3, -, h⟩ := b1_e h
  by_cases c5 : ¬ (v3 &&& 7) = 6
  · rw [if_pos c5] at h
    obtain ⟨v7, -, h⟩ := b1_e h
    by_cases c8 : ¬ (v7 &&& 7) = 4
    · rw [if_pos c8] at h
      obtain ⟨l9, -, h⟩ := b1_e h
      by_cases c15 : ¬ l9 = (-1)
      · rw [if_pos c15] at h
        obtain ⟨v17, n18, ac19, g20, cp21, μ22, e16, h⟩ := b6_e h
        have q23 : μ22 k j = μ k j := (fr_SE_tryRule e16 ⟨(hW.1), (hW.2.1), (hW.2.2.2.2.1), (hW.2.2.2.2.2.1), (hW.2.2.2.2.2.2.1), (hW.2.2.2.2.2.2.2.1), (hW.2.2.2.2.2.2.2.2.1), (hW.2.2.2.2.2.2.2.2.2.1), (hW.2.2.2.2.2.2.2.2.2.2.2.1), (hW.2.2.2.2.2.2.2.2.2.2.2.2.1), (hW.2.2.2.2.2.2.2.2.2.2.2.2.2.1), (hW.2.2.2.2.2.2.2.2.2.2.2.2.2.2.1), (hW.2.2.2.2.2.2.2.2.2.2.2.2.2.2.2.1), (hW.2.2.2.2.2.2.2.2.2.2.2.2.2.2.2.2.1), (hW.2.2.2.2.2.2.2.2.2.2.2.2.2.2.2.2.2.1), (hW.2.2.2.2.2.2.2.2.2.2.2.2.2.2.2.2.2.2.1), (hW.2.2.2.2.2.2.2.2.2.2.2.2.2.2.2.2.2.2.2.1), (hW.2.2.2.2.2.2.2.2.2.2.2.2.2.2.2.2.2.2.2.2.1), (hW.2.2.2.2.2.2.2.2.2.2.2.2.2.2.2.2.2.2.2.2.2.1), (hW.2.2.2.2.2.2.2.2.2.2.2.2.2.2.2.2.2.2.2.2.2.2.1), (hW.2.2.2.2.2.2.2.2.2.2.2.2.2.2.2.2.2.2.2.2.2.2.2.1), (hW.2.2.2.2.2.2.2.2.2.2.2.2.2.2.2.2.2.2.2.2.2.2.2.2.1), (hW.2.2.2.2.2.2.2.2.2.2.2.2.2.2.2.2.2.2.2.2.2.2.2.2.2.1), (hW.2.2.2.2.2.2.2.2.2.2.2.2.2.2.2.2.2.2.2.2.2.2.2.2.2.2.1), (hW.2.2.2.2.2.2.2.2.2.2.2.2.2.2.2.2.2.2.2.2.2.2.2.2.2.2.2)⟩).trans ((sI_f (hW.2.2.1)).trans ((sI_f (hW.2.1)).trans ((sI_f (hW.2.2.2.1)).trans rfl)))
        have j0 := Option.some.inj h
        obtain ⟨i1, j1⟩ := Prod.mk.inj j0
        obtain ⟨i2, j2⟩ := Prod.mk.inj j1
        obtain ⟨i3, j3⟩ := Prod.mk.inj j2
        obtain ⟨i4, j4⟩ := Prod.mk.inj j3
        obtain ⟨i5, j5⟩ := Prod.mk.inj j4
        subst i1
        subst i2
        subst i3
        subst i4
        subst i5
        subst j5
        exact q23
      · rw [if_neg c15] at h
        have j0 := Option.some.inj h
        obtain ⟨i1, j1⟩ := Prod.mk.inj j0
        obtain ⟨i2, j2⟩ := Prod.mk.inj j1
        obtain ⟨i3, j3⟩ := Prod.mk.inj j2
        obtain ⟨i4, j4⟩ := Prod.mk.inj j3
        obtain ⟨i5, j5⟩ := Prod.mk.inj j4
        subst i1
        subst i2
        subst i3
        subst i4
        subst i5
        subst j5
        exact ((sI_f (hW.2.2.1)).trans ((sI_f (hW.2.1)).trans ((sI_f (hW.2.2.2.1)).trans rfl)))
    · rw [if_neg c8] at h
      by_cases c24 : (v7 >>> ((3 : Int32) &&& 31)) < 24
      · rw [if_pos c24] at h
        obtain ⟨l25, -, h⟩ := b1_e h
        by_cases c31 : ¬ l25 = (-1)
        · rw [if_pos c31] at h
          obtain ⟨v33, n34, ac35, g36, cp37, μ38, e32, h⟩ := b6_e h
          have q39 : μ38 k j = μ k j := (fr_SE_tryRule e32 ⟨(hW.1), (hW.2.1), (hW.2.2.2.2.1), (hW.2.2.2.2.2.1), (hW.2.2.2.2.2.2.1), (hW.2.2.2.2.2.2.2.1), (hW.2.2.2.2.2.2.2.2.1), (hW.2.2.2.2.2.2.2.2.2.1), (hW.2.2.2.2.2.2.2.2.2.2.2.1), (hW.2.2.2.2.2.2.2.2.2.2.2.2.1), (hW.2.2.2.2.2.2.2.2.2.2.2.2.2.1), (hW.2.2.2.2.2.2.2.2.2.2.2.2.2.2.1), (hW.2.2.2.2.2.2.2.2.2.2.2.2.2.2.2.1), (hW.2.2.2.2.2.2.2.2.2.2.2.2.2.2.2.2.1), (hW.2.2.2.2.2.2.2.2.2.2.2.2.2.2.2.2.2.1), (hW.2.2.2.2.2.2.2.2.2.2.2.2.2.2.2.2.2.2.1), (hW.2.2.2.2.2.2.2.2.2.2.2.2.2.2.2.2.2.2.2.1), (hW.2.2.2.2.2.2.2.2.2.2.2.2.2.2.2.2.2.2.2.2.1), (hW.2.2.2.2.2.2.2.2.2.2.2.2.2.2.2.2.2.2.2.2.2.1), (hW.2.2.2.2.2.2.2.2.2.2.2.2.2.2.2.2.2.2.2.2.2.2.1), (hW.2.2.2.2.2.2.2.2.2.2.2.2.2.2.2.2.2.2.2.2.2.2.2.1), (hW.2.2.2.2.2.2.2.2.2.2.2.2.2.2.2.2.2.2.2.2.2.2.2.2.1), (hW.2.2.2.2.2.2.2.2.2.2.2.2.2.2.2.2.2.2.2.2.2.2.2.2.2.1), (hW.2.2.2.2.2.2.2.2.2.2.2.2.2.2.2.2.2.2.2.2.2.2.2.2.2.2.1), (hW.2.2.2.2.2.2.2.2.2.2.2.2.2.2.2.2.2.2.2.2.2.2.2.2.2.2.2)⟩).trans ((sI_f (hW.2.2.1)).trans ((sI_f (hW.2.1)).trans ((sI_f (hW.2.2.2.1)).trans rfl)))
          have j0 := Option.some.inj h
          obtain ⟨i1, j1⟩ := Prod.mk.inj j0
          obtain ⟨i2, j2⟩ := Prod.mk.inj j1
          obtain ⟨i3, j3⟩ := Prod.mk.inj j2
          obtain ⟨i4, j4⟩ := Prod.mk.inj j3
          obtain ⟨i5, j5⟩ := Prod.mk.inj j4
          subst i1
          subst i2
          subst i3
          subst i4
          subst i5
          subst j5
          exact q39
        · rw [if_neg c31] at h
          have j0 := Option.some.inj h
          obtain ⟨i1, j1⟩ := Prod.mk.inj j0
          obtain ⟨i2, j2⟩ := Prod.mk.inj j1
          obtain ⟨i3, j3⟩ := Prod.mk.inj j2
          obtain ⟨i4, j4⟩ := Prod.mk.inj j3
          obtain ⟨i5, j5⟩ := Prod.mk.inj j4
          subst i1
          subst i2
          subst i3
          subst i4
          subst i5
          subst j5
          exact ((sI_f (hW.2.2.1)).trans ((sI_f (hW.2.1)).trans ((sI_f (hW.2.2.2.1)).trans rfl)))
      · rw [if_neg c24] at h
        obtain ⟨v41, -, h⟩ := b1_e h
        obtain ⟨v43, -, h⟩ := b1_e h
        obtain ⟨v45, μ46, e44, h⟩ := b2_e h
        have q47 : μ46 k j = μ k j := (fr_SE_meet e44 ⟨(hW.2.2.2.2.2.1), (hW.2.2.2.2.2.2.2.2.1), (hW.2.2.2.2.2.2.2.2.2.1), (hW.2.2.2.2.2.2.2.2.2.2.1), (hW.2.2.2.2.2.2.2.2.2.2.2.2.2.1), (hW.2.2.2.2.2.2.2.2.2.2.2.2.2.2.1), (hW.2.2.2.2.2.2.2.2.2.2.2.2.2.2.2.2.2.2.1), (hW.2.2.2.2.2.2.2.2.2.2.2.2.2.2.2.2.2.2.2.1), (hW.2.2.2.2.2.2.2.2.2.2.2.2.2.2.2.2.2.2.2.2.1), (hW.2.2.2.2.2.2.2.2.2.2.2.2.2.2.2.2.2.2.2.2.2.1)⟩).trans ((sI_f (hW.2.2.1)).trans ((sI_f (hW.2.1)).trans ((sI_f (hW.2.2.2.1)).trans rfl)))
        have j0 := Option.some.inj h
        obtain ⟨i1, j1⟩ := Prod.mk.inj j0
        obtain ⟨i2, j2⟩ := Prod.mk.inj j1
        obtain ⟨i3, j3⟩ := Prod.mk.inj j2
        obtain ⟨i4, j4⟩ := Prod.mk.inj j3
        obtain ⟨i5, j5⟩ := Prod.mk.inj j4
        subst i1
        subst i2
        subst i3
        subst i4
        subst i5
        subst j5
        exact q47
  · rw [if_neg c5] at h
    obtain ⟨v48, -, h⟩ := b1_e h
    obtain ⟨μ51, e50, h⟩ := b1_e h
    have q52 : μ51 k j = μ k j := (fr_CH_cutTo e50 (hW.2.2.2.2.2.2.2.2.2.2.2.1)).trans ((sI_f (hW.2.2.1)).trans ((sI_f (hW.2.1)).trans ((sI_f (hW.2.2.2.1)).trans rfl)))
    have j0 := Option.some.inj h
    obtain ⟨i1, j1⟩ := Prod.mk.inj j0
    obtain ⟨i2, j2⟩ := Prod.mk.inj j1
    obtain ⟨i3, j3⟩ := Prod.mk.inj j2
    obtain ⟨i4, j4⟩ := Prod.mk.inj j3
    obtain ⟨i5, j5⟩ := Prod.mk.inj j4
    subst i1
    subst i2
    subst i3
    subst i4
    subst i5
    subst j5
    exact q52
def W_GE_takeTyped (k j : Nat) : Prop := ¬ (k = 1 ∧ j = 1)
theorem fr_GE_takeTyped {k j : Nat} {μ : Mu} {r : Int32} {μr : Mu} (h : f_GE_takeTyped μ = some (r, μr)) (hW : W_GE_takeTyped k j) : μr k j = μ k j := by
  unfold f_GE_takeTyped at h
  have j0 := Option.some.inj h
  obtain ⟨i1, j1⟩ := Prod.mk.inj j0
  subst i1
  subst j1
  exact ((sI_f hW).trans rfl)
def W_GE_stop (k j : Nat) : Prop := ¬ (k = 37 ∧ j = 11)
theorem fr_GE_stop {k j : Nat} {μ : Mu} {μr : Mu} (h : f_GE_stop μ = some (μr)) (hW : W_GE_stop k j) : μr k j = μ k j := by
  unfold f_GE_stop at h
  have h9 := Option.some.inj h
  subst h9
  exact ((sI_f hW).trans rfl)
def W_GE_collect (k j : Nat) : Prop := (k < 54 ∨ (58 ≤ k ∧ k < 99)) ∧ ¬ (k = 40 ∧ j = 1) ∧ ¬ (k = 40 ∧ j = 3) ∧ ¬ (k = 46 ∧ j = 3) ∧ ¬ (k = 64 ∧ j = 5) ∧ k ≠ 41 ∧ k ≠ 42 ∧ k ≠ 47 ∧ k ≠ 48 ∧ k ≠ 61 ∧ k ≠ 62 ∧ k ≠ 65
theorem fr_GE_collect {k j : Nat} {μ : Mu} {r : Int32} {μr : Mu} (h : f_GE_collect g cap μ = some (r, μr)) (hW : W_GE_collect k j) : μr k j = μ k j := by
  unfold f_GE_collect at h
  by_cases c1 : ¬ (μ 37 11) = 0
  · rw [if_pos c1] at h
    obtain ⟨v3, μ4, e2, h⟩ := b2_e h
    have q5 : μ4 k j = μ k j := (fr_SE_freeCells e2 ⟨(hW.1), (hW.2.1), (hW.2.2.1), (hW.2.2.2.1), (hW.2.2.2.2.1), (hW.2.2.2.2.2.1), (hW.2.2.2.2.2.2.1), (hW.2.2.2.2.2.2.2.1), (hW.2.2.2.2.2.2.2.2.1), (hW.2.2.2.2.2.2.2.2.2.1), (hW.2.2.2.2.2.2.2.2.2.2.1), (hW.2.2.2.2.2.2.2.2.2.2.2)⟩).trans rfl
    have j0 := Option.some.inj h
    obtain ⟨i1, j1⟩ := Prod.mk.inj j0
    subst i1
    subst j1
    exact q5
  · rw [if_neg c1] at h
    have j0 := Option.some.inj h
    obtain ⟨i1, j1⟩ := Prod.mk.inj j0
    subst i1
    subst j1
    exact rfl
def W_GE_words (k j : Nat) : Prop := ¬ (k = 66 ∧ j = 2) ∧ ¬ (k = 66 ∧ j = 4) ∧ ¬ (k = 66 ∧ j = 6) ∧ k ≠ 67 ∧ k ≠ 68 ∧ k ≠ 69
theorem fr_GE_words {k j : Nat} {μ : Mu} {r : Int32} {μr : Mu} (h : f_GE_words μ = some (r, μr)) (hW : W_GE_words k j) : μr k j = μ k j := by
  unfold f_GE_words at h
  obtain ⟨v2, μ3, e1, h⟩ := b2_e h
  have q4 : μ3 k j = μ k j := (fr_SE_answerLength e1 ⟨(hW.1), (hW.2.1), (hW.2.2.1), (hW.2.2.2.1), (hW.2.2.2.2.1), (hW.2.2.2.2.2)⟩).trans rfl
  have j0 := Option.some.inj h
  obtain ⟨i1, j1⟩ := Prod.mk.inj j0
  subst i1
  subst j1
  exact q4
def W_GE_rule (k j : Nat) : Prop := (k < 5 ∨ 36 < k) ∧ ¬ (k = 1 ∧ j = 1) ∧ ¬ (k = 3 ∧ j = 1)
theorem fr_GE_rule {k j : Nat} {μ : Mu} {cd : Nat} {r : Int32} {μr : Mu} (h : f_GE_rule μ = some (cd, r, μr)) (hW : W_GE_rule k j) : μr k j = μ k j := by
  unfold f_GE_rule at h
  by_cases c1 : 16 ≤ (μ 3 1)
  · rw [if_pos c1] at h
    have j0 := Option.some.inj h
    obtain ⟨i1, j1⟩ := Prod.mk.inj j0
    obtain ⟨i2, j2⟩ := Prod.mk.inj j1
    subst i1
    subst i2
    subst j2
    exact rfl
  · rw [if_neg c1] at h
    by_cases c2 : (μ 37 11) = 0
    · rw [if_pos c2] at h
      obtain ⟨v4, μ5, e3, h⟩ := b2_e h
      have q6 : μ5 k j = μ k j := (fr_GE_takeTyped e3 (hW.2.1)).trans rfl
      obtain ⟨v8, -, h⟩ := b1_e h
      by_cases c9 : ¬ v8 = 0
      · rw [if_pos c9] at h
        obtain ⟨μ11, e10, h⟩ := b1_e h
        have q12 : μ11 k j = μ k j := (fr_RB_add e10 ⟨(hW.1), (hW.2.2)⟩).trans q6
        have j0 := Option.some.inj h
        obtain ⟨i1, j1⟩ := Prod.mk.inj j0
        obtain ⟨i2, j2⟩ := Prod.mk.inj j1
        subst i1
        subst i2
        subst j2
        exact q12
      · rw [if_neg c9] at h
        have j0 := Option.some.inj h
        obtain ⟨i1, j1⟩ := Prod.mk.inj j0
        obtain ⟨i2, j2⟩ := Prod.mk.inj j1
        subst i1
        subst i2
        subst j2
        exact q6
    · rw [if_neg c2] at h
      have j0 := Option.some.inj h
      obtain ⟨i1, j1⟩ := Prod.mk.inj j0
      obtain ⟨i2, j2⟩ := Prod.mk.inj j1
      subst i1
      subst i2
      subst j2
      exact rfl
def W_GE_ask (k j : Nat) : Prop := (k < 54 ∨ (58 ≤ k ∧ k < 99)) ∧ ¬ (k = 1 ∧ j = 1) ∧ ¬ (k = 37 ∧ j = 9) ∧ ¬ (k = 37 ∧ j = 10) ∧ ¬ (k = 37 ∧ j = 11) ∧ ¬ (k = 40 ∧ j = 1) ∧ ¬ (k = 40 ∧ j = 3) ∧ ¬ (k = 40 ∧ j = 6) ∧ ¬ (k = 40 ∧ j = 8) ∧ ¬ (k = 58 ∧ j = 5) ∧ k ≠ 38 ∧ k ≠ 39 ∧ k ≠ 41 ∧ k ≠ 43 ∧ k ≠ 44 ∧ k ≠ 45
theorem fr_GE_ask {k j : Nat} {μ : Mu} {cd : Nat} {r : Int32} {nr : Nat} {ar : Nat × Nat} {gr cr : Nat} {μr : Mu} (h : f_GE_ask n acc g cap μ = some (cd, r, nr, ar, gr, cr, μr)) (hW : W_GE_ask k j) : μr k j = μ k j := by
  unfold f_GE_ask at h
  obtain ⟨v2, μ3, e1, h⟩ := b2_e h
  have q4 : μ3 k j = μ k j := (fr_GE_takeTyped e1 (hW.2.1)).trans rfl
  obtain ⟨v6, -, h⟩ := b1_e h
  by_cases c7 : ¬ v6 = 0
  · rw [if_pos c7] at h
    obtain ⟨n9, ac10, g11, cp12, μ13, e8, h⟩ := b5_e h
    have q14 : μ13 k j = μ k j := (fr_SE_begin e8 ⟨(hW.1), (hW.2.2.1), (hW.2.2.2.1), (hW.2.2.2.2.1), (hW.2.2.2.2.2.1), (hW.2.2.2.2.2.2.1), (hW.2.2.2.2.2.2.2.1), (hW.2.2.2.2.2.2.2.2.1), (hW.2.2.2.2.2.2.2.2.2.1), (hW.2.2.2.2.2.2.2.2.2.2.1), (hW.2.2.2.2.2.2.2.2.2.2.2.1), (hW.2.2.2.2.2.2.2.2.2.2.2.2.1), (hW.2.2.2.2.2.2.2.2.2.2.2.2.2.1), (hW.2.2.2.2.2.2.2.2.2.2.2.2.2.2.1), (hW.2.2.2.2.2.2.2.2.2.2.2.2.2.2.2)⟩).trans q4
    obtain ⟨v16, -, h⟩ := b1_e h
    have j0 := Option.some.inj h
    obtain ⟨i1, j1⟩ := Prod.mk.inj j0
    obtain ⟨i2, j2⟩ := Prod.mk.inj j1
    obtain ⟨i3, j3⟩ := Prod.mk.inj j2
    obtain ⟨i4, j4⟩ := Prod.mk.inj j3
    obtain ⟨i5, j5⟩ := Prod.mk.inj j4
    obtain ⟨i6, j6⟩ := Prod.mk.inj j5
    subst i1
    subst i2
    subst i3
    subst i4
    subst i5
    subst i6
    subst j6
    exact q14
  · rw [if_neg c7] at h
    have j0 := Option.some.inj h
    obtain ⟨i1, j1⟩ := Prod.mk.inj j0
    obtain ⟨i2, j2⟩ := Prod.mk.inj j1
    obtain ⟨i3, j3⟩ := Prod.mk.inj j2
    obtain ⟨i4, j4⟩ := Prod.mk.inj j3
    obtain ⟨i5, j5⟩ := Prod.mk.inj j4
    obtain ⟨i6, j6⟩ := Prod.mk.inj j5
    subst i1
    subst i2
    subst i3
    subst i4
    subst i5
    subst i6
    subst j6
    exact q4
def W_GE_solve (k j : Nat) : Prop := (k < 54 ∨ (58 ≤ k ∧ k < 99)) ∧ ¬ (k = 37 ∧ j = 9) ∧ ¬ (k = 37 ∧ j = 10) ∧ ¬ (k = 37 ∧ j = 11) ∧ ¬ (k = 37 ∧ j = 12) ∧ ¬ (k = 40 ∧ j = 1) ∧ ¬ (k = 40 ∧ j = 3) ∧ ¬ (k = 40 ∧ j = 6) ∧ ¬ (k = 40 ∧ j = 8) ∧ ¬ (k = 46 ∧ j = 3) ∧ ¬ (k = 49 ∧ j = 4) ∧ ¬ (k = 52 ∧ j = 1) ∧ ¬ (k = 58 ∧ j = 5) ∧ ¬ (k = 64 ∧ j = 5) ∧ k ≠ 41 ∧ k ≠ 42 ∧ k ≠ 43 ∧ k ≠ 44 ∧ k ≠ 45 ∧ k ≠ 47 ∧ k ≠ 48 ∧ k ≠ 50 ∧ k ≠ 51 ∧ k ≠ 59 ∧ k ≠ 60 ∧ k ≠ 61 ∧ k ≠ 62 ∧ k ≠ 63 ∧ k ≠ 65
theorem fr_GE_solve_42 {k1 : Int32} {k j : Nat} (hW : W_GE_solve k j) (fl : Nat) : ∀ {y2 : Int32} {y3 : Int32} {nn : Nat} {ac : Nat × Nat} {gg cp : Nat} {μ : Mu} {z2 : Int32} {nz : Nat} {az : Nat × Nat} {gz cz : Nat} {μz : Mu}, f_GE_solve_42 k1 fl y2 y3 nn ac gg cp μ = some (z2, nz, az, gz, cz, μz) → μz k j = μ k j := by
  induction fl with
  | zero => intro _ _ _ _ _ _ _ _ _ _ _ _ _ h; cases h
  | succ f ih =>
    intro y2 y3 nn ac gg cp μ z2 nz az gz cz μz h
    unfold f_GE_solve_42 at h
    by_cases c4 : k1 ≤ y3
    · rw [if_pos c4] at h
      have j0 := Option.some.inj h
      obtain ⟨i1, j1⟩ := Prod.mk.inj j0
      obtain ⟨i2, j2⟩ := Prod.mk.inj j1
      obtain ⟨i3, j3⟩ := Prod.mk.inj j2
      obtain ⟨i4, j4⟩ := Prod.mk.inj j3
      obtain ⟨i5, j5⟩ := Prod.mk.inj j4
      subst i1
      subst i2
      subst i3
      subst i4
      subst i5
      subst j5
      exact rfl
    · rw [if_neg c4] at h
      obtain ⟨v6, -, h⟩ := b1_e h
      by_cases c7 : v6 = 0
      · rw [if_pos c7] at h
        have j0 := Option.some.inj h
        obtain ⟨i1, j1⟩ := Prod.mk.inj j0
        obtain ⟨i2, j2⟩ := Prod.mk.inj j1
        obtain ⟨i3, j3⟩ := Prod.mk.inj j2
        obtain ⟨i4, j4⟩ := Prod.mk.inj j3
        obtain ⟨i5, j5⟩ := Prod.mk.inj j4
        subst i1
        subst i2
        subst i3
        subst i4
        subst i5
        subst j5
        exact rfl
      · rw [if_neg c7] at h
        obtain ⟨v9, n10, ac11, g12, cp13, μ14, e8, h⟩ := b6_e h
        have q15 : μ14 k j = μ k j := (fr_SE_step e8 ⟨(hW.1), (hW.2.1), (hW.2.2.1), (hW.2.2.2.2.1), (hW.2.2.2.2.2.1), (hW.2.2.2.2.2.2.1), (hW.2.2.2.2.2.2.2.1), (hW.2.2.2.2.2.2.2.2.1), (hW.2.2.2.2.2.2.2.2.2.1), (hW.2.2.2.2.2.2.2.2.2.2.1), (hW.2.2.2.2.2.2.2.2.2.2.2.1), (hW.2.2.2.2.2.2.2.2.2.2.2.2.1), (hW.2.2.2.2.2.2.2.2.2.2.2.2.2.1), (hW.2.2.2.2.2.2.2.2.2.2.2.2.2.2.1), (hW.2.2.2.2.2.2.2.2.2.2.2.2.2.2.2.1), (hW.2.2.2.2.2.2.2.2.2.2.2.2.2.2.2.2.1), (hW.2.2.2.2.2.2.2.2.2.2.2.2.2.2.2.2.2.1), (hW.2.2.2.2.2.2.2.2.2.2.2.2.2.2.2.2.2.2.1), (hW.2.2.2.2.2.2.2.2.2.2.2.2.2.2.2.2.2.2.2.1), (hW.2.2.2.2.2.2.2.2.2.2.2.2.2.2.2.2.2.2.2.2.1), (hW.2.2.2.2.2.2.2.2.2.2.2.2.2.2.2.2.2.2.2.2.2.1), (hW.2.2.2.2.2.2.2.2.2.2.2.2.2.2.2.2.2.2.2.2.2.2.1), (hW.2.2.2.2.2.2.2.2.2.2.2.2.2.2.2.2.2.2.2.2.2.2.2.1), (hW.2.2.2.2.2.2.2.2.2.2.2.2.2.2.2.2.2.2.2.2.2.2.2.2.1), (hW.2.2.2.2.2.2.2.2.2.2.2.2.2.2.2.2.2.2.2.2.2.2.2.2.2.1), (hW.2.2.2.2.2.2.2.2.2.2.2.2.2.2.2.2.2.2.2.2.2.2.2.2.2.2.1), (hW.2.2.2.2.2.2.2.2.2.2.2.2.2.2.2.2.2.2.2.2.2.2.2.2.2.2.2.1), (hW.2.2.2.2.2.2.2.2.2.2.2.2.2.2.2.2.2.2.2.2.2.2.2.2.2.2.2.2)⟩).trans rfl
        obtain ⟨μ17, e16, h⟩ := b1_e h
        have q18 : μ17 k j = μ k j := (fr_SE_settle e16 ⟨(hW.2.1), (hW.2.2.1), (hW.2.2.2.1), (hW.2.2.2.2.2.1), (hW.2.2.2.2.2.2.1), (hW.2.2.2.2.2.2.2.2.2.2.2.2.1), (hW.2.2.2.2.2.2.2.2.2.2.2.2.2.2.1)⟩).trans q15
        exact (ih h).trans q18
theorem fr_GE_solve {x0 : Int32} {k j : Nat} {μ : Mu} {cd : Nat} {r : Int32} {nr : Nat} {ar : Nat × Nat} {gr cr : Nat} {μr : Mu} (h : f_GE_solve n acc g cap x0 μ = some (cd, r, nr, ar, gr, cr, μr)) (hW : W_GE_solve k j) : μr k j = μ k j := by
  unfold f_GE_solve at h
  by_cases c1 : x0 < 1
  · rw [if_pos c1] at h
    have j0 := Option.some.inj h
    obtain ⟨i1, j1⟩ := Prod.mk.inj j0
    obtain ⟨i2, j2⟩ := Prod.mk.inj j1
    obtain ⟨i3, j3⟩ := Prod.mk.inj j2
    obtain ⟨i4, j4⟩ := Prod.mk.inj j3
    obtain ⟨i5, j5⟩ := Prod.mk.inj j4
    obtain ⟨i6, j6⟩ := Prod.mk.inj j5
    subst i1
    subst i2
    subst i3
    subst i4
    subst i5
    subst i6
    subst j6
    exact rfl
  · rw [if_neg c1] at h
    by_cases c2 : x0 ≤ 20
    · rw [if_pos c2] at h
      by_cases c3 : (μ 37 11) = 1
      · rw [if_pos c3] at h
        obtain ⟨l19, n20, ac21, g22, cp23, μ24, e25, h⟩ := b6_e h
        have q27 : μ24 k j = μ k j := (fr_GE_solve_42 hW _ e25).trans rfl
        by_cases c28 : ¬ l19 = 2
        · rw [if_pos c28] at h
          by_cases c29 : ¬ l19 = 3
          · rw [if_pos c29] at h
            by_cases c30 : ¬ (μ24 37 11) = 2
            · rw [if_pos c30] at h
              by_cases c31 : ¬ (μ24 37 11) = 0
              · rw [if_pos c31] at h
                have j0 := Option.some.inj h
                obtain ⟨i1, j1⟩ := Prod.mk.inj j0
                obtain ⟨i2, j2⟩ := Prod.mk.inj j1
                obtain ⟨i3, j3⟩ := Prod.mk.inj j2
                obtain ⟨i4, j4⟩ := Prod.mk.inj j3
                obtain ⟨i5, j5⟩ := Prod.mk.inj j4
                obtain ⟨i6, j6⟩ := Prod.mk.inj j5
                subst i1
                subst i2
                subst i3
                subst i4
                subst i5
                subst i6
                subst j6
                exact q27
              · rw [if_neg c31] at h
                have j0 := Option.some.inj h
                obtain ⟨i1, j1⟩ := Prod.mk.inj j0
                obtain ⟨i2, j2⟩ := Prod.mk.inj j1
                obtain ⟨i3, j3⟩ := Prod.mk.inj j2
                obtain ⟨i4, j4⟩ := Prod.mk.inj j3
                obtain ⟨i5, j5⟩ := Prod.mk.inj j4
                obtain ⟨i6, j6⟩ := Prod.mk.inj j5
                subst i1
                subst i2
                subst i3
                subst i4
                subst i5
                subst i6
                subst j6
                exact q27
            · rw [if_neg c30] at h
              have j0 := Option.some.inj h
              obtain ⟨i1, j1⟩ := Prod.mk.inj j0
              obtain ⟨i2, j2⟩ := Prod.mk.inj j1
              obtain ⟨i3, j3⟩ := Prod.mk.inj j2
              obtain ⟨i4, j4⟩ := Prod.mk.inj j3
              obtain ⟨i5, j5⟩ := Prod.mk.inj j4
              obtain ⟨i6, j6⟩ := Prod.mk.inj j5
              subst i1
              subst i2
              subst i3
              subst i4
              subst i5
              subst i6
              subst j6
              exact q27
          · rw [if_neg c29] at h
            have j0 := Option.some.inj h
            obtain ⟨i1, j1⟩ := Prod.mk.inj j0
            obtain ⟨i2, j2⟩ := Prod.mk.inj j1
            obtain ⟨i3, j3⟩ := Prod.mk.inj j2
            obtain ⟨i4, j4⟩ := Prod.mk.inj j3
            obtain ⟨i5, j5⟩ := Prod.mk.inj j4
            obtain ⟨i6, j6⟩ := Prod.mk.inj j5
            subst i1
            subst i2
            subst i3
            subst i4
            subst i5
            subst i6
            subst j6
            exact q27
        · rw [if_neg c28] at h
          have j0 := Option.some.inj h
          obtain ⟨i1, j1⟩ := Prod.mk.inj j0
          obtain ⟨i2, j2⟩ := Prod.mk.inj j1
          obtain ⟨i3, j3⟩ := Prod.mk.inj j2
          obtain ⟨i4, j4⟩ := Prod.mk.inj j3
          obtain ⟨i5, j5⟩ := Prod.mk.inj j4
          obtain ⟨i6, j6⟩ := Prod.mk.inj j5
          subst i1
          subst i2
          subst i3
          subst i4
          subst i5
          subst i6
          subst j6
          exact q27
      · rw [if_neg c3] at h
        have j0 := Option.some.inj h
        obtain ⟨i1, j1⟩ := Prod.mk.inj j0
        obtain ⟨i2, j2⟩ := Prod.mk.inj j1
        obtain ⟨i3, j3⟩ := Prod.mk.inj j2
        obtain ⟨i4, j4⟩ := Prod.mk.inj j3
        obtain ⟨i5, j5⟩ := Prod.mk.inj j4
        obtain ⟨i6, j6⟩ := Prod.mk.inj j5
        subst i1
        subst i2
        subst i3
        subst i4
        subst i5
        subst i6
        subst j6
        exact rfl
    · rw [if_neg c2] at h
      have j0 := Option.some.inj h
      obtain ⟨i1, j1⟩ := Prod.mk.inj j0
      obtain ⟨i2, j2⟩ := Prod.mk.inj j1
      obtain ⟨i3, j3⟩ := Prod.mk.inj j2
      obtain ⟨i4, j4⟩ := Prod.mk.inj j3
      obtain ⟨i5, j5⟩ := Prod.mk.inj j4
      obtain ⟨i6, j6⟩ := Prod.mk.inj j5
      subst i1
      subst i2
      subst i3
      subst i4
      subst i5
      subst i6
      subst j6
      exact rfl
def W_GE_next (k j : Nat) : Prop := ¬ (k = 37 ∧ j = 9) ∧ ¬ (k = 37 ∧ j = 10) ∧ ¬ (k = 37 ∧ j = 11) ∧ ¬ (k = 40 ∧ j = 1) ∧ ¬ (k = 40 ∧ j = 3) ∧ ¬ (k = 58 ∧ j = 5) ∧ k ≠ 41
theorem fr_GE_next {k j : Nat} {μ : Mu} {cd : Nat} {r : Int32} {μr : Mu} (h : f_GE_next μ = some (cd, r, μr)) (hW : W_GE_next k j) : μr k j = μ k j := by
  unfold f_GE_next at h
  by_cases c1 : (μ 37 11) = 2
  · rw [if_pos c1] at h
    obtain ⟨μ3, e2, h⟩ := b1_e h
    have q4 : μ3 k j = μ k j := (fr_SE_tryOtherWay e2 ⟨(hW.1), (hW.2.1), (hW.2.2.1), (hW.2.2.2.1), (hW.2.2.2.2.1), (hW.2.2.2.2.2.1), (hW.2.2.2.2.2.2)⟩).trans rfl
    by_cases c5 : (μ3 37 11) = 0
    · rw [if_pos c5] at h
      have j0 := Option.some.inj h
      obtain ⟨i1, j1⟩ := Prod.mk.inj j0
      obtain ⟨i2, j2⟩ := Prod.mk.inj j1
      subst i1
      subst i2
      subst j2
      exact q4
    · rw [if_neg c5] at h
      have j0 := Option.some.inj h
      obtain ⟨i1, j1⟩ := Prod.mk.inj j0
      obtain ⟨i2, j2⟩ := Prod.mk.inj j1
      subst i1
      subst i2
      subst j2
      exact q4
  · rw [if_neg c1] at h
    have j0 := Option.some.inj h
    obtain ⟨i1, j1⟩ := Prod.mk.inj j0
    obtain ⟨i2, j2⟩ := Prod.mk.inj j1
    subst i1
    subst i2
    subst j2
    exact rfl
def W_GE_word (k j : Nat) : Prop := ¬ (k = 66 ∧ j = 2) ∧ ¬ (k = 66 ∧ j = 4) ∧ ¬ (k = 66 ∧ j = 6) ∧ k ≠ 67 ∧ k ≠ 68 ∧ k ≠ 69
theorem fr_GE_word {x0 : Int32} {k j : Nat} {μ : Mu} {cd : Nat} {r : Int32} {μr : Mu} (h : f_GE_word x0 μ = some (cd, r, μr)) (hW : W_GE_word k j) : μr k j = μ k j := by
  unfold f_GE_word at h
  by_cases c1 : x0 < 0
  · rw [if_pos c1] at h
    have j0 := Option.some.inj h
    obtain ⟨i1, j1⟩ := Prod.mk.inj j0
    obtain ⟨i2, j2⟩ := Prod.mk.inj j1
    subst i1
    subst i2
    subst j2
    exact rfl
  · rw [if_neg c1] at h
    obtain ⟨v3, μ4, e2, h⟩ := b2_e h
    have q5 : μ4 k j = μ k j := (fr_SE_answerLength e2 ⟨(hW.1), (hW.2.1), (hW.2.2.1), (hW.2.2.2.1), (hW.2.2.2.2.1), (hW.2.2.2.2.2)⟩).trans rfl
    by_cases c6 : x0 < v3
    · rw [if_pos c6] at h
      obtain ⟨v8, -, h⟩ := b1_e h
      have j0 := Option.some.inj h
      obtain ⟨i1, j1⟩ := Prod.mk.inj j0
      obtain ⟨i2, j2⟩ := Prod.mk.inj j1
      subst i1
      subst i2
      subst j2
      exact q5
    · rw [if_neg c6] at h
      have j0 := Option.some.inj h
      obtain ⟨i1, j1⟩ := Prod.mk.inj j0
      obtain ⟨i2, j2⟩ := Prod.mk.inj j1
      subst i1
      subst i2
      subst j2
      exact q5
end FRB
