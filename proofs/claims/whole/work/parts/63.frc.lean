/-! what the methods leave alone (written by wip/tools/genf.py, mkfr.py) -/
section FRC
variable {n g cap : Nat} {acc : Nat × Nat}
def W_MO_rule (k j : Nat) : Prop := ¬ (k = 70 ∧ j = 0) ∧ ¬ (k = 70 ∧ j = 1) ∧ ¬ (k = 70 ∧ j = 3) ∧ k ≠ 72 ∧ k ≠ 73
theorem fr_MO_rule_101 {k1 : Int32} {k j : Nat} (hW : W_MO_rule k j) (fl : Nat) : ∀ {y2 : Int32} {μ : Mu} {μz : Mu}, f_MO_rule_101 k1 fl y2 μ = some (μz) → μz k j = μ k j := by
  induction fl with
  | zero => intro _ _ _ h; cases h
  | succ f ih =>
    intro y2 μ μz h
    unfold f_MO_rule_101 at h
    by_cases c28 : (μ 70 1) ≤ y2
    · rw [if_pos c28] at h
      have h9 := Option.some.inj h
      subst h9
      exact rfl
    · rw [if_neg c28] at h
      obtain ⟨v29, -, h⟩ := b1_e h
      obtain ⟨μ31, e32, h⟩ := b1_e h
      have q33 : μ31 k j = μ k j := (wr_f e32 (hW.2.2.2.1)).trans rfl
      exact (ih h).trans q33
theorem fr_MO_rule {k j : Nat} {μ : Mu} {r : Int32} {μr : Mu} (h : f_MO_rule μ = some (r, μr)) (hW : W_MO_rule k j) : μr k j = μ k j := by
  unfold f_MO_rule at h
  obtain ⟨v1, -, h⟩ := b1_e h
  by_cases c6 : v1 = 0
  · rw [if_pos c6] at h
    obtain ⟨v7, -, h⟩ := b1_e h
    obtain ⟨v20, -, h⟩ := b1_e h
    obtain ⟨μ24, e25, h⟩ := b1_e h
    have q41 : μ24 k j = μ k j := by
      clear h
      have h := e25
      clear e25
      by_cases c27 : v7 = 0
      · rw [if_pos c27] at h
        have h9 := Option.some.inj h
        subst h9
        exact ((sI_f (hW.1)).trans ((sI_f (hW.1)).trans rfl))
      · rw [if_neg c27] at h
        obtain ⟨μ34, e35, h⟩ := b1_e h
        have q37 : μ34 k j = μ k j := (fr_MO_rule_101 hW _ e35).trans ((sI_f (hW.1)).trans ((sI_f (hW.1)).trans rfl))
        obtain ⟨μ38, e39, h⟩ := b1_e h
        have q40 : μ38 k j = μ k j := (wr_f e39 (hW.2.2.2.2)).trans q37
        have h9 := Option.some.inj h
        subst h9
        exact ((sI_f (hW.2.2.1)).trans q40)
    by_cases c42 : v7 = 0
    · rw [if_pos c42] at h
      have j0 := Option.some.inj h
      obtain ⟨i1, j1⟩ := Prod.mk.inj j0
      subst i1
      subst j1
      exact ((sI_f (hW.2.1)).trans q41)
    · rw [if_neg c42] at h
      have j0 := Option.some.inj h
      obtain ⟨i1, j1⟩ := Prod.mk.inj j0
      subst i1
      subst j1
      exact ((sI_f (hW.2.1)).trans q41)
  · rw [if_neg c6] at h
    have j0 := Option.some.inj h
    obtain ⟨i1, j1⟩ := Prod.mk.inj j0
    subst i1
    subst j1
    exact ((sI_f (hW.1)).trans rfl)
def W_MO_take (k j : Nat) : Prop := ¬ (k = 70 ∧ j = 12) ∧ k ≠ 74 ∧ k ≠ 75 ∧ k ≠ 76 ∧ k ≠ 77
theorem fr_MO_take {x0 : Int32} {k j : Nat} {μ : Mu} {r : Int32} {μr : Mu} (h : f_MO_take x0 μ = some (r, μr)) (hW : W_MO_take k j) : μr k j = μ k j := by
  unfold f_MO_take at h
  obtain ⟨l4, -, h⟩ := b1_e h
  obtain ⟨μ7, e8, h⟩ := b1_e h
  have q9 : μ7 k j = μ k j := (wr_f e8 (hW.2.1)).trans rfl
  obtain ⟨μ10, e11, h⟩ := b1_e h
  have q12 : μ10 k j = μ k j := (wr_f e11 (hW.2.2.1)).trans q9
  obtain ⟨μ13, e14, h⟩ := b1_e h
  have q15 : μ13 k j = μ k j := (wr_f e14 (hW.2.2.2.1)).trans ((sI_f (hW.1)).trans q12)
  obtain ⟨μ16, e17, h⟩ := b1_e h
  have q18 : μ16 k j = μ k j := (wr_f e17 (hW.2.2.2.2)).trans q15
  have j0 := Option.some.inj h
  obtain ⟨i1, j1⟩ := Prod.mk.inj j0
  subst i1
  subst j1
  exact q18
def W_MO_place (k j : Nat) : Prop := ¬ (k = 70 ∧ j = 43) ∧ ¬ (k = 70 ∧ j = 46) ∧ k ≠ 76 ∧ k ≠ 77 ∧ k ≠ 95 ∧ k ≠ 96 ∧ k ≠ 97
theorem fr_MO_place_112 {k j : Nat} (hW : W_MO_place k j) (fl : Nat) : ∀ {μ : Mu} {μz : Mu}, f_MO_place_112 fl μ = some (μz) → μz k j = μ k j := by
  induction fl with
  | zero => intro _ _ h; cases h
  | succ f ih =>
    intro μ μz h
    unfold f_MO_place_112 at h
    by_cases c19 : (μ 70 43) ≤ 0
    · rw [if_pos c19] at h
      have h9 := Option.some.inj h
      subst h9
      exact rfl
    · rw [if_neg c19] at h
      obtain ⟨v20, -, h⟩ := b1_e h
      obtain ⟨v22, -, h⟩ := b1_e h
      obtain ⟨v24, -, h⟩ := b1_e h
      obtain ⟨v27, -, h⟩ := b1_e h
      by_cases c28 : ¬ v20 = v27
      · rw [if_pos c28] at h
        have h9 := Option.some.inj h
        subst h9
        exact rfl
      · rw [if_neg c28] at h
        exact (ih h).trans ((sI_f (hW.1)).trans rfl)
theorem fr_MO_place {k j : Nat} {μ : Mu} {μr : Mu} (h : f_MO_place μ = some (μr)) (hW : W_MO_place k j) : μr k j = μ k j := by
  unfold f_MO_place at h
  by_cases c1 : ¬ (μ 70 43) = 0
  · rw [if_pos c1] at h
    obtain ⟨v2, -, h⟩ := b1_e h
    obtain ⟨v4, -, h⟩ := b1_e h
    obtain ⟨v6, -, h⟩ := b1_e h
    obtain ⟨μ8, e9, h⟩ := b1_e h
    have q10 : μ8 k j = μ k j := (wr_f e9 (hW.2.2.1)).trans rfl
    obtain ⟨μ11, e12, h⟩ := b1_e h
    have q13 : μ11 k j = μ k j := (wr_f e12 (hW.2.2.2.1)).trans q10
    obtain ⟨v14, -, h⟩ := b1_e h
    obtain ⟨μ16, e17, h⟩ := b1_e h
    have q18 : μ16 k j = μ k j := (wr_f e17 (hW.2.2.2.2.1)).trans q13
    obtain ⟨μ29, e30, h⟩ := b1_e h
    have q32 : μ29 k j = μ k j := (fr_MO_place_112 hW _ e30).trans q18
    have h9 := Option.some.inj h
    subst h9
    exact q32
  · rw [if_neg c1] at h
    obtain ⟨μ33, e34, h⟩ := b1_e h
    have q35 : μ33 k j = μ k j := (wr_f e34 (hW.2.2.2.2.2.1)).trans rfl
    obtain ⟨μ36, e37, h⟩ := b1_e h
    have q38 : μ36 k j = μ k j := (wr_f e37 (hW.2.2.2.2.2.2)).trans q35
    have h9 := Option.some.inj h
    subst h9
    exact ((sI_f (hW.2.1)).trans q38)
def W_MO_copyWord (k j : Nat) : Prop := ¬ (k = 70 ∧ j = 12) ∧ ¬ (k = 70 ∧ j = 40) ∧ ¬ (k = 70 ∧ j = 41) ∧ ¬ (k = 70 ∧ j = 43) ∧ ¬ (k = 70 ∧ j = 46) ∧ k ≠ 74 ∧ k ≠ 75 ∧ k ≠ 76 ∧ k ≠ 77 ∧ k ≠ 78 ∧ k ≠ 79 ∧ k ≠ 94 ∧ k ≠ 95 ∧ k ≠ 96 ∧ k ≠ 97
theorem fr_MO_copyWord_93 {k3 : Int32} {k4 : Int32} {k j : Nat} (hW : W_MO_copyWord k j) (fl : Nat) : ∀ {y5 : Int32} {μ : Mu} {μz : Mu}, f_MO_copyWord_93 k3 k4 fl y5 μ = some (μz) → μz k j = μ k j := by
  induction fl with
  | zero => intro _ _ _ h; cases h
  | succ f ih =>
    intro y5 μ μz h
    unfold f_MO_copyWord_93 at h
    by_cases c11 : k3 ≤ y5
    · rw [if_pos c11] at h
      have h9 := Option.some.inj h
      subst h9
      exact rfl
    · rw [if_neg c11] at h
      obtain ⟨v13, μ14, e12, h⟩ := b2_e h
      have q15 : μ14 k j = μ k j := (fr_MO_take e12 ⟨(hW.1), (hW.2.2.2.2.2.1), (hW.2.2.2.2.2.2.1), (hW.2.2.2.2.2.2.2.1), (hW.2.2.2.2.2.2.2.2.1)⟩).trans rfl
      obtain ⟨μ16, e17, h⟩ := b1_e h
      have q18 : μ16 k j = μ k j := (wr_f e17 (hW.2.2.2.2.2.2.2.2.2.2.1)).trans q15
      exact (ih h).trans q18
theorem fr_MO_copyWord {x0 : Int32} {k j : Nat} {μ : Mu} {μr : Mu} (h : f_MO_copyWord x0 μ = some (μr)) (hW : W_MO_copyWord k j) : μr k j = μ k j := by
  unfold f_MO_copyWord at h
  obtain ⟨v2, -, h⟩ := b1_e h
  by_cases c3 : ¬ v2 = 0
  · rw [if_pos c3] at h
    obtain ⟨v5, μ6, e4, h⟩ := b2_e h
    have q7 : μ6 k j = μ k j := (fr_MO_take e4 ⟨(hW.1), (hW.2.2.2.2.2.1), (hW.2.2.2.2.2.2.1), (hW.2.2.2.2.2.2.2.1), (hW.2.2.2.2.2.2.2.2.1)⟩).trans rfl
    obtain ⟨μ8, e9, h⟩ := b1_e h
    have q10 : μ8 k j = μ k j := (wr_f e9 (hW.2.2.2.2.2.2.2.2.2.1)).trans q7
    obtain ⟨μ19, e20, h⟩ := b1_e h
    have q22 : μ19 k j = μ k j := (fr_MO_copyWord_93 hW _ e20).trans q10
    obtain ⟨μ23, e24, h⟩ := b1_e h
    have q47 : μ23 k j = μ k j := by
      clear h
      have h := e24
      clear e24
      by_cases c26 : ¬ (μ19 70 43) = 0
      · rw [if_pos c26] at h
        obtain ⟨v27, -, h⟩ := b1_e h
        obtain ⟨v29, -, h⟩ := b1_e h
        obtain ⟨v31, -, h⟩ := b1_e h
        obtain ⟨μ33, e34, h⟩ := b1_e h
        have q35 : μ33 k j = μ k j := (wr_f e34 (hW.2.2.2.2.2.2.2.1)).trans ((sI_f (hW.2.2.1)).trans ((sI_f (hW.2.1)).trans q22))
        obtain ⟨μ36, e37, h⟩ := b1_e h
        have q38 : μ36 k j = μ k j := (wr_f e37 (hW.2.2.2.2.2.2.2.2.1)).trans q35
        obtain ⟨v39, -, h⟩ := b1_e h
        obtain ⟨μ41, e42, h⟩ := b1_e h
        have q43 : μ41 k j = μ k j := (wr_f e42 (hW.2.2.2.2.2.2.2.2.2.2.2.2.1)).trans q38
        have h9 := Option.some.inj h
        subst h9
        exact q43
      · rw [if_neg c26] at h
        obtain ⟨μ45, e44, h⟩ := b1_e h
        have q46 : μ45 k j = μ k j := (fr_MO_place e44 ⟨(hW.2.2.2.1), (hW.2.2.2.2.1), (hW.2.2.2.2.2.2.2.1), (hW.2.2.2.2.2.2.2.2.1), (hW.2.2.2.2.2.2.2.2.2.2.2.2.1), (hW.2.2.2.2.2.2.2.2.2.2.2.2.2.1), (hW.2.2.2.2.2.2.2.2.2.2.2.2.2.2)⟩).trans ((sI_f (hW.2.2.1)).trans ((sI_f (hW.2.1)).trans q22))
        have h9 := Option.some.inj h
        subst h9
        exact q46
    obtain ⟨μ48, e49, h⟩ := b1_e h
    have q50 : μ48 k j = μ k j := (wr_f e49 (hW.2.2.2.2.2.2.2.2.2.2.2.1)).trans q47
    obtain ⟨μ51, e52, h⟩ := b1_e h
    have q53 : μ51 k j = μ k j := (wr_f e52 (hW.2.2.2.2.2.2.2.2.2.2.2.2.1)).trans q50
    have h9 := Option.some.inj h
    subst h9
    exact ((sI_f (hW.2.2.2.1)).trans q53)
  · rw [if_neg c3] at h
    obtain ⟨v54, -, h⟩ := b1_e h
    obtain ⟨v60, -, h⟩ := b1_e h
    obtain ⟨μ67, e66, h⟩ := b1_e h
    have q68 : μ67 k j = μ k j := (fr_MO_place e66 ⟨(hW.2.2.2.1), (hW.2.2.2.2.1), (hW.2.2.2.2.2.2.2.1), (hW.2.2.2.2.2.2.2.2.1), (hW.2.2.2.2.2.2.2.2.2.2.2.2.1), (hW.2.2.2.2.2.2.2.2.2.2.2.2.2.1), (hW.2.2.2.2.2.2.2.2.2.2.2.2.2.2)⟩).trans ((sI_f (hW.2.2.1)).trans ((sI_f (hW.2.1)).trans rfl))
    have h9 := Option.some.inj h
    subst h9
    exact q68
def W_MO_copy (k j : Nat) : Prop := ¬ (k = 70 ∧ j = 12) ∧ ¬ (k = 70 ∧ j = 40) ∧ ¬ (k = 70 ∧ j = 41) ∧ ¬ (k = 70 ∧ j = 43) ∧ ¬ (k = 70 ∧ j = 46) ∧ k ≠ 74 ∧ k ≠ 75 ∧ k ≠ 76 ∧ k ≠ 77 ∧ k ≠ 78 ∧ k ≠ 79 ∧ k ≠ 93 ∧ k ≠ 94 ∧ k ≠ 95 ∧ k ≠ 96 ∧ k ≠ 97
theorem fr_MO_copy_13 {of nof : Nat} {k2 : Int32} {k3 : Int32} (ho : ofPb of nof = true) {k j : Nat} (hW : W_MO_copy k j) (fl : Nat) : ∀ {y4 : Int32} {μ : Mu} {μz : Mu}, f_MO_copy_13 of nof k2 k3 fl y4 μ = some (μz) → μz k j = μ k j := by
  induction fl with
  | zero => intro _ _ _ h; cases h
  | succ f ih =>
    intro y4 μ μz h
    unfold f_MO_copy_13 at h
    by_cases c1 : 8 ≤ y4
    · rw [if_pos c1] at h
      have h9 := Option.some.inj h
      subst h9
      exact rfl
    · rw [if_neg c1] at h
      obtain ⟨v3, -, h⟩ := b1_e h
      obtain ⟨v4, μ5, e6, h⟩ := b2_e h
      have q13 : μ5 k j = μ k j := by
        clear h
        have h := e6
        clear e6
        by_cases c8 : v3 = 0
        · rw [if_pos c8] at h
          have j0 := Option.some.inj h
          obtain ⟨i1, j1⟩ := Prod.mk.inj j0
          subst i1
          subst j1
          exact rfl
        · rw [if_neg c8] at h
          obtain ⟨v10, μ11, e9, h⟩ := b2_e h
          have q12 : μ11 k j = μ k j := (fr_MO_take e9 ⟨(hW.1), (hW.2.2.2.2.2.1), (hW.2.2.2.2.2.2.1), (hW.2.2.2.2.2.2.2.1), (hW.2.2.2.2.2.2.2.2.1)⟩).trans rfl
          have j0 := Option.some.inj h
          obtain ⟨i1, j1⟩ := Prod.mk.inj j0
          subst i1
          subst j1
          exact q12
      obtain ⟨μ14, e15, h⟩ := b1_e h
      have q16 : μ14 k j = μ k j := (wr_f e15 (hW.2.2.2.2.2.2.2.2.2.2.2.1)).trans q13
      exact (ih h).trans q16
theorem fr_MO_copy_57 {of nof : Nat} {k2 : Int32} {k3 : Int32} (ho : ofPb of nof = true) {k j : Nat} (hW : W_MO_copy k j) (fl : Nat) : ∀ {y4 : Int32} {μ : Mu} {μz : Mu}, f_MO_copy_57 of nof k2 k3 fl y4 μ = some (μz) → μz k j = μ k j := by
  induction fl with
  | zero => intro _ _ _ h; cases h
  | succ f ih =>
    intro y4 μ μz h
    unfold f_MO_copy_57 at h
    by_cases c21 : (k2 + k3) ≤ y4
    · rw [if_pos c21] at h
      have h9 := Option.some.inj h
      subst h9
      exact rfl
    · rw [if_neg c21] at h
      obtain ⟨v22, -, h⟩ := b1_e h
      obtain ⟨μ25, e24, h⟩ := b1_e h
      have q26 : μ25 k j = μ k j := (fr_MO_copyWord e24 ⟨(hW.1), (hW.2.1), (hW.2.2.1), (hW.2.2.2.1), (hW.2.2.2.2.1), (hW.2.2.2.2.2.1), (hW.2.2.2.2.2.2.1), (hW.2.2.2.2.2.2.2.1), (hW.2.2.2.2.2.2.2.2.1), (hW.2.2.2.2.2.2.2.2.2.1), (hW.2.2.2.2.2.2.2.2.2.2.1), (hW.2.2.2.2.2.2.2.2.2.2.2.2.1), (hW.2.2.2.2.2.2.2.2.2.2.2.2.2.1), (hW.2.2.2.2.2.2.2.2.2.2.2.2.2.2.1), (hW.2.2.2.2.2.2.2.2.2.2.2.2.2.2.2)⟩).trans rfl
      exact (ih h).trans q26
theorem fr_MO_copy {of nof : Nat} {x0 : Int32} {x1 : Int32} {k j : Nat} {μ : Mu} {μr : Mu} (h : f_MO_copy of nof x0 x1 μ = some (μr)) (hW : W_MO_copy k j) : μr k j = μ k j := by
  unfold f_MO_copy at h
  by_cases ho : ofPb of nof = true
  rotate_left
  · rw [if_neg ho] at h
    cases h
  rw [if_pos ho] at h
  obtain ⟨μ17, e18, h⟩ := b1_e h
  have q20 : μ17 k j = μ k j := (fr_MO_copy_13 ho hW _ e18).trans ((sI_f (hW.2.2.2.1)).trans ((sI_f (hW.2.2.2.2.1)).trans rfl))
  obtain ⟨μ27, e28, h⟩ := b1_e h
  have q30 : μ27 k j = μ k j := (fr_MO_copy_57 ho hW _ e28).trans q20
  have h9 := Option.some.inj h
  subst h9
  exact q30
def W_MO_mean (k j : Nat) : Prop := ¬ (k = 70 ∧ j = 40) ∧ ¬ (k = 70 ∧ j = 41)
theorem fr_MO_mean_10 {k j : Nat} (hW : W_MO_mean k j) (fl : Nat) : ∀ {μ : Mu} {μz : Mu}, f_MO_mean_10 fl μ = some (μz) → μz k j = μ k j := by
  induction fl with
  | zero => intro _ _ h; cases h
  | succ f ih =>
    intro μ μz h
    unfold f_MO_mean_10 at h
    by_cases c1 : ¬ (μ 70 40) = 0
    · rw [if_pos c1] at h
      have h9 := Option.some.inj h
      subst h9
      exact rfl
    · rw [if_neg c1] at h
      obtain ⟨v2, -, h⟩ := b1_e h
      by_cases c4 : v2 < 0
      · rw [if_pos c4] at h
        have h9 := Option.some.inj h
        subst h9
        exact rfl
      · rw [if_neg c4] at h
        obtain ⟨v5, -, h⟩ := b1_e h
        obtain ⟨v7, -, h⟩ := b1_e h
        exact (ih h).trans ((sI_f (hW.2)).trans ((sI_f (hW.1)).trans rfl))
theorem fr_MO_mean {x0 : Int32} {x1 : Int32} {k j : Nat} {μ : Mu} {μr : Mu} (h : f_MO_mean x0 x1 μ = some (μr)) (hW : W_MO_mean k j) : μr k j = μ k j := by
  unfold f_MO_mean at h
  obtain ⟨μ9, e10, h⟩ := b1_e h
  have q12 : μ9 k j = μ k j := (fr_MO_mean_10 hW _ e10).trans ((sI_f (hW.2)).trans ((sI_f (hW.1)).trans rfl))
  have h9 := Option.some.inj h
  subst h9
  exact q12
def W_MO_push (k j : Nat) : Prop := ¬ (k = 70 ∧ j = 30) ∧ k ≠ 88 ∧ k ≠ 89
theorem fr_MO_push {x0 : Int32} {x1 : Int32} {k j : Nat} {μ : Mu} {μr : Mu} (h : f_MO_push x0 x1 μ = some (μr)) (hW : W_MO_push k j) : μr k j = μ k j := by
  unfold f_MO_push at h
  obtain ⟨μ1, e2, h⟩ := b1_e h
  have q3 : μ1 k j = μ k j := (wr_f e2 (hW.2.1)).trans rfl
  obtain ⟨μ4, e5, h⟩ := b1_e h
  have q6 : μ4 k j = μ k j := (wr_f e5 (hW.2.2)).trans q3
  have h9 := Option.some.inj h
  subst h9
  exact ((sI_f (hW.1)).trans q6)
def W_MO_pushArguments (k j : Nat) : Prop := ¬ (k = 70 ∧ j = 30) ∧ k ≠ 88 ∧ k ≠ 89
theorem fr_MO_pushArguments_13 {k1 : Int32} {k j : Nat} (hW : W_MO_pushArguments k j) (fl : Nat) : ∀ {y2 : Int32} {μ : Mu} {μz : Mu}, f_MO_pushArguments_13 k1 fl y2 μ = some (μz) → μz k j = μ k j := by
  induction fl with
  | zero => intro _ _ _ h; cases h
  | succ f ih =>
    intro y2 μ μz h
    unfold f_MO_pushArguments_13 at h
    by_cases c5 : y2 < 0
    · rw [if_pos c5] at h
      have h9 := Option.some.inj h
      subst h9
      exact rfl
    · rw [if_neg c5] at h
      obtain ⟨v6, -, h⟩ := b1_e h
      obtain ⟨v8, -, h⟩ := b1_e h
      obtain ⟨v10, -, h⟩ := b1_e h
      obtain ⟨μ13, e12, h⟩ := b1_e h
      have q14 : μ13 k j = μ k j := (fr_MO_push e12 ⟨(hW.1), (hW.2.1), (hW.2.2)⟩).trans rfl
      exact (ih h).trans q14
theorem fr_MO_pushArguments {x0 : Int32} {k j : Nat} {μ : Mu} {μr : Mu} (h : f_MO_pushArguments x0 μ = some (μr)) (hW : W_MO_pushArguments k j) : μr k j = μ k j := by
  unfold f_MO_pushArguments at h
  obtain ⟨v1, -, h⟩ := b1_e h
  obtain ⟨v4, -, h⟩ := b1_e h
  obtain ⟨μ15, e16, h⟩ := b1_e h
  have q18 : μ15 k j = μ k j := (fr_MO_pushArguments_13 hW _ e16).trans rfl
  have h9 := Option.some.inj h
  subst h9
  exact q18
def W_MO_occurs (k j : Nat) : Prop := ¬ (k = 70 ∧ j = 30) ∧ ¬ (k = 70 ∧ j = 34) ∧ ¬ (k = 70 ∧ j = 40) ∧ ¬ (k = 70 ∧ j = 41) ∧ k ≠ 88 ∧ k ≠ 89 ∧ k ≠ 90
theorem fr_MO_occurs_25 {k1 : Int32} {k4 : Int32} {k j : Nat} (hW : W_MO_occurs k j) (fl : Nat) : ∀ {y5 : Int32} {μ : Mu} {z5 : Int32} {μz : Mu}, f_MO_occurs_25 k1 k4 fl y5 μ = some (z5, μz) → μz k j = μ k j := by
  induction fl with
  | zero => intro _ _ _ _ h; cases h
  | succ f ih =>
    intro y5 μ z5 μz h
    unfold f_MO_occurs_25 at h
    by_cases c4 : (μ 70 30) ≤ k4
    · rw [if_pos c4] at h
      have j0 := Option.some.inj h
      obtain ⟨i1, j1⟩ := Prod.mk.inj j0
      subst i1
      subst j1
      exact rfl
    · rw [if_neg c4] at h
      obtain ⟨v5, -, h⟩ := b1_e h
      obtain ⟨v7, -, h⟩ := b1_e h
      obtain ⟨μ10, e9, h⟩ := b1_e h
      have q11 : μ10 k j = μ k j := (fr_MO_mean e9 ⟨(hW.2.2.1), (hW.2.2.2.1)⟩).trans ((sI_f (hW.1)).trans rfl)
      by_cases c12 : ¬ (μ10 70 40) = 0
      · rw [if_pos c12] at h
        by_cases c13 : ¬ (μ10 70 40) = 3
        · rw [if_pos c13] at h
          exact (ih h).trans q11
        · rw [if_neg c13] at h
          obtain ⟨v14, -, h⟩ := b1_e h
          by_cases c16 : v14 = (μ10 70 34)
          · rw [if_pos c16] at h
            exact (ih h).trans q11
          · rw [if_neg c16] at h
            obtain ⟨μ17, e18, h⟩ := b1_e h
            have q19 : μ17 k j = μ k j := (wr_f e18 (hW.2.2.2.2.2.2)).trans q11
            obtain ⟨μ21, e20, h⟩ := b1_e h
            have q22 : μ21 k j = μ k j := (fr_MO_pushArguments e20 ⟨(hW.1), (hW.2.2.2.2.1), (hW.2.2.2.2.2.1)⟩).trans q19
            exact (ih h).trans q22
      · rw [if_neg c12] at h
        obtain ⟨v23, -, h⟩ := b1_e h
        exact (ih h).trans q11
theorem fr_MO_occurs {x0 : Int32} {x1 : Int32} {x2 : Int32} {k j : Nat} {μ : Mu} {r : Int32} {μr : Mu} (h : f_MO_occurs x0 x1 x2 μ = some (r, μr)) (hW : W_MO_occurs k j) : μr k j = μ k j := by
  unfold f_MO_occurs at h
  obtain ⟨μ2, e1, h⟩ := b1_e h
  have q3 : μ2 k j = μ k j := (fr_MO_push e1 ⟨(hW.1), (hW.2.2.2.2.1), (hW.2.2.2.2.2.1)⟩).trans ((sI_f (hW.2.1)).trans rfl)
  obtain ⟨l28, μ29, e30, h⟩ := b2_e h
  have q32 : μ29 k j = μ k j := (fr_MO_occurs_25 hW _ e30).trans q3
  by_cases c33 : (l28 = 0 ∨ l28 = 1)
  · rw [if_pos c33] at h
    have j0 := Option.some.inj h
    obtain ⟨i1, j1⟩ := Prod.mk.inj j0
    subst i1
    subst j1
    exact q32
  · rw [if_neg c33] at h
    cases h
def W_MO_bind (k j : Nat) : Prop := ¬ (k = 70 ∧ j = 23) ∧ k ≠ 76 ∧ k ≠ 77 ∧ k ≠ 86
theorem fr_MO_bind {x0 : Int32} {x1 : Int32} {x2 : Int32} {k j : Nat} {μ : Mu} {μr : Mu} (h : f_MO_bind x0 x1 x2 μ = some (μr)) (hW : W_MO_bind k j) : μr k j = μ k j := by
  unfold f_MO_bind at h
  obtain ⟨μ1, e2, h⟩ := b1_e h
  have q3 : μ1 k j = μ k j := (wr_f e2 (hW.2.1)).trans rfl
  obtain ⟨μ4, e5, h⟩ := b1_e h
  have q6 : μ4 k j = μ k j := (wr_f e5 (hW.2.2.1)).trans q3
  obtain ⟨μ7, e8, h⟩ := b1_e h
  have q9 : μ7 k j = μ k j := (wr_f e8 (hW.2.2.2)).trans q6
  have h9 := Option.some.inj h
  subst h9
  exact ((sI_f (hW.1)).trans q9)
def W_MO_pushPairs (k j : Nat) : Prop := ¬ (k = 70 ∧ j = 30) ∧ k ≠ 88 ∧ k ≠ 89
theorem fr_MO_pushPairs_13 {k1 : Int32} {k2 : Int32} {k j : Nat} (hW : W_MO_pushPairs k j) (fl : Nat) : ∀ {y3 : Int32} {μ : Mu} {μz : Mu}, f_MO_pushPairs_13 k1 k2 fl y3 μ = some (μz) → μz k j = μ k j := by
  induction fl with
  | zero => intro _ _ _ h; cases h
  | succ f ih =>
    intro y3 μ μz h
    unfold f_MO_pushPairs_13 at h
    by_cases c5 : y3 < 0
    · rw [if_pos c5] at h
      have h9 := Option.some.inj h
      subst h9
      exact rfl
    · rw [if_neg c5] at h
      obtain ⟨v6, -, h⟩ := b1_e h
      obtain ⟨v8, -, h⟩ := b1_e h
      obtain ⟨v10, -, h⟩ := b1_e h
      obtain ⟨v12, -, h⟩ := b1_e h
      obtain ⟨μ15, e14, h⟩ := b1_e h
      have q16 : μ15 k j = μ k j := (fr_MO_push e14 ⟨(hW.1), (hW.2.1), (hW.2.2)⟩).trans rfl
      obtain ⟨v17, -, h⟩ := b1_e h
      obtain ⟨v19, -, h⟩ := b1_e h
      obtain ⟨μ22, e21, h⟩ := b1_e h
      have q23 : μ22 k j = μ k j := (fr_MO_push e21 ⟨(hW.1), (hW.2.1), (hW.2.2)⟩).trans q16
      exact (ih h).trans q23
theorem fr_MO_pushPairs {x0 : Int32} {x1 : Int32} {k j : Nat} {μ : Mu} {μr : Mu} (h : f_MO_pushPairs x0 x1 μ = some (μr)) (hW : W_MO_pushPairs k j) : μr k j = μ k j := by
  unfold f_MO_pushPairs at h
  obtain ⟨v1, -, h⟩ := b1_e h
  obtain ⟨v4, -, h⟩ := b1_e h
  obtain ⟨μ24, e25, h⟩ := b1_e h
  have q27 : μ24 k j = μ k j := (fr_MO_pushPairs_13 hW _ e25).trans rfl
  have h9 := Option.some.inj h
  subst h9
  exact q27
def W_MO_meet (k j : Nat) : Prop := ¬ (k = 70 ∧ j = 23) ∧ ¬ (k = 70 ∧ j = 30) ∧ ¬ (k = 70 ∧ j = 34) ∧ ¬ (k = 70 ∧ j = 40) ∧ ¬ (k = 70 ∧ j = 41) ∧ ¬ (k = 70 ∧ j = 49) ∧ k ≠ 76 ∧ k ≠ 77 ∧ k ≠ 86 ∧ k ≠ 88 ∧ k ≠ 89 ∧ k ≠ 90
theorem fr_MO_meet {x0 : Int32} {x1 : Int32} {x2 : Int32} {x3 : Int32} {k j : Nat} {μ : Mu} {μr : Mu} (h : f_MO_meet x0 x1 x2 x3 μ = some (μr)) (hW : W_MO_meet k j) : μr k j = μ k j := by
  unfold f_MO_meet at h
  by_cases c1 : ¬ x0 = 0
  · rw [if_pos c1] at h
    by_cases c2 : x0 = 0
    · rw [if_pos c2] at h
      obtain ⟨v3, -, h⟩ := b1_e h
      obtain ⟨v7, -, h⟩ := b1_e h
      obtain ⟨v11, -, h⟩ := b1_e h
      obtain ⟨v16, μ17, e15, h⟩ := b2_e h
      have q18 : μ17 k j = μ k j := (fr_MO_occurs e15 ⟨(hW.2.1), (hW.2.2.1), (hW.2.2.2.1), (hW.2.2.2.2.1), (hW.2.2.2.2.2.2.2.2.2.1), (hW.2.2.2.2.2.2.2.2.2.2.1), (hW.2.2.2.2.2.2.2.2.2.2.2)⟩).trans rfl
      obtain ⟨μ19, e20, h⟩ := b1_e h
      have q26 : μ19 k j = μ k j := by
        clear h
        have h := e20
        clear e20
        by_cases c22 : v16 = 0
        · rw [if_pos c22] at h
          obtain ⟨μ24, e23, h⟩ := b1_e h
          have q25 : μ24 k j = μ k j := (fr_MO_bind e23 ⟨(hW.1), (hW.2.2.2.2.2.2.1), (hW.2.2.2.2.2.2.2.1), (hW.2.2.2.2.2.2.2.2.1)⟩).trans q18
          have h9 := Option.some.inj h
          subst h9
          exact q25
        · rw [if_neg c22] at h
          have h9 := Option.some.inj h
          subst h9
          exact ((sI_f (hW.2.2.2.2.2.1)).trans q18)
      have h9 := Option.some.inj h
      subst h9
      exact q26
    · rw [if_neg c2] at h
      by_cases c27 : ¬ x2 = 0
      · rw [if_pos c27] at h
        by_cases c28 : ¬ x0 = x2
        · rw [if_pos c28] at h
          have h9 := Option.some.inj h
          subst h9
          exact ((sI_f (hW.2.2.2.2.2.1)).trans rfl)
        · rw [if_neg c28] at h
          by_cases c29 : x0 = 3
          · rw [if_pos c29] at h
            by_cases c30 : ¬ x0 = 3
            · rw [if_pos c30] at h
              by_cases c31 : ¬ x0 = 3
              · rw [if_pos c31] at h
                have h9 := Option.some.inj h
                subst h9
                exact rfl
              · rw [if_neg c31] at h
                obtain ⟨μ33, e32, h⟩ := b1_e h
                have q34 : μ33 k j = μ k j := (fr_MO_pushPairs e32 ⟨(hW.2.1), (hW.2.2.2.2.2.2.2.2.2.1), (hW.2.2.2.2.2.2.2.2.2.2.1)⟩).trans rfl
                have h9 := Option.some.inj h
                subst h9
                exact q34
            · rw [if_neg c30] at h
              obtain ⟨v35, -, h⟩ := b1_e h
              obtain ⟨v37, -, h⟩ := b1_e h
              by_cases c39 : v35 = v37
              · rw [if_pos c39] at h
                by_cases c40 : ¬ x0 = 3
                · rw [if_pos c40] at h
                  have h9 := Option.some.inj h
                  subst h9
                  exact rfl
                · rw [if_neg c40] at h
                  obtain ⟨μ42, e41, h⟩ := b1_e h
                  have q43 : μ42 k j = μ k j := (fr_MO_pushPairs e41 ⟨(hW.2.1), (hW.2.2.2.2.2.2.2.2.2.1), (hW.2.2.2.2.2.2.2.2.2.2.1)⟩).trans rfl
                  have h9 := Option.some.inj h
                  subst h9
                  exact q43
              · rw [if_neg c39] at h
                have h9 := Option.some.inj h
                subst h9
                exact ((sI_f (hW.2.2.2.2.2.1)).trans rfl)
          · rw [if_neg c29] at h
            by_cases c44 : ¬ x1 = x3
            · rw [if_pos c44] at h
              have h9 := Option.some.inj h
              subst h9
              exact ((sI_f (hW.2.2.2.2.2.1)).trans rfl)
            · rw [if_neg c44] at h
              by_cases c45 : ¬ x0 = 3
              · rw [if_pos c45] at h
                by_cases c46 : ¬ x0 = 3
                · rw [if_pos c46] at h
                  have h9 := Option.some.inj h
                  subst h9
                  exact rfl
                · rw [if_neg c46] at h
                  obtain ⟨μ48, e47, h⟩ := b1_e h
                  have q49 : μ48 k j = μ k j := (fr_MO_pushPairs e47 ⟨(hW.2.1), (hW.2.2.2.2.2.2.2.2.2.1), (hW.2.2.2.2.2.2.2.2.2.2.1)⟩).trans rfl
                  have h9 := Option.some.inj h
                  subst h9
                  exact q49
              · rw [if_neg c45] at h
                obtain ⟨v50, -, h⟩ := b1_e h
                obtain ⟨v52, -, h⟩ := b1_e h
                by_cases c54 : v50 = v52
                · rw [if_pos c54] at h
                  by_cases c55 : ¬ x0 = 3
                  · rw [if_pos c55] at h
                    have h9 := Option.some.inj h
                    subst h9
                    exact rfl
                  · rw [if_neg c55] at h
                    obtain ⟨μ57, e56, h⟩ := b1_e h
                    have q58 : μ57 k j = μ k j := (fr_MO_pushPairs e56 ⟨(hW.2.1), (hW.2.2.2.2.2.2.2.2.2.1), (hW.2.2.2.2.2.2.2.2.2.2.1)⟩).trans rfl
                    have h9 := Option.some.inj h
                    subst h9
                    exact q58
                · rw [if_neg c54] at h
                  have h9 := Option.some.inj h
                  subst h9
                  exact ((sI_f (hW.2.2.2.2.2.1)).trans rfl)
      · rw [if_neg c27] at h
        obtain ⟨v59, -, h⟩ := b1_e h
        obtain ⟨v63, -, h⟩ := b1_e h
        obtain ⟨v67, -, h⟩ := b1_e h
        obtain ⟨v72, μ73, e71, h⟩ := b2_e h
        have q74 : μ73 k j = μ k j := (fr_MO_occurs e71 ⟨(hW.2.1), (hW.2.2.1), (hW.2.2.2.1), (hW.2.2.2.2.1), (hW.2.2.2.2.2.2.2.2.2.1), (hW.2.2.2.2.2.2.2.2.2.2.1), (hW.2.2.2.2.2.2.2.2.2.2.2)⟩).trans rfl
        obtain ⟨μ75, e76, h⟩ := b1_e h
        have q82 : μ75 k j = μ k j := by
          clear h
          have h := e76
          clear e76
          by_cases c78 : v72 = 0
          · rw [if_pos c78] at h
            obtain ⟨μ80, e79, h⟩ := b1_e h
            have q81 : μ80 k j = μ k j := (fr_MO_bind e79 ⟨(hW.1), (hW.2.2.2.2.2.2.1), (hW.2.2.2.2.2.2.2.1), (hW.2.2.2.2.2.2.2.2.1)⟩).trans q74
            have h9 := Option.some.inj h
            subst h9
            exact q81
          · rw [if_neg c78] at h
            have h9 := Option.some.inj h
            subst h9
            exact ((sI_f (hW.2.2.2.2.2.1)).trans q74)
        have h9 := Option.some.inj h
        subst h9
        exact q82
  · rw [if_neg c1] at h
    by_cases c83 : ¬ x2 = 0
    · rw [if_pos c83] at h
      by_cases c84 : x0 = 0
      · rw [if_pos c84] at h
        obtain ⟨v85, -, h⟩ := b1_e h
        obtain ⟨v89, -, h⟩ := b1_e h
        obtain ⟨v93, -, h⟩ := b1_e h
        obtain ⟨v98, μ99, e97, h⟩ := b2_e h
        have q100 : μ99 k j = μ k j := (fr_MO_occurs e97 ⟨(hW.2.1), (hW.2.2.1), (hW.2.2.2.1), (hW.2.2.2.2.1), (hW.2.2.2.2.2.2.2.2.2.1), (hW.2.2.2.2.2.2.2.2.2.2.1), (hW.2.2.2.2.2.2.2.2.2.2.2)⟩).trans rfl
        obtain ⟨μ101, e102, h⟩ := b1_e h
        have q108 : μ101 k j = μ k j := by
          clear h
          have h := e102
          clear e102
          by_cases c104 : v98 = 0
          · rw [if_pos c104] at h
            obtain ⟨μ106, e105, h⟩ := b1_e h
            have q107 : μ106 k j = μ k j := (fr_MO_bind e105 ⟨(hW.1), (hW.2.2.2.2.2.2.1), (hW.2.2.2.2.2.2.2.1), (hW.2.2.2.2.2.2.2.2.1)⟩).trans q100
            have h9 := Option.some.inj h
            subst h9
            exact q107
          · rw [if_neg c104] at h
            have h9 := Option.some.inj h
            subst h9
            exact ((sI_f (hW.2.2.2.2.2.1)).trans q100)
        have h9 := Option.some.inj h
        subst h9
        exact q108
      · rw [if_neg c84] at h
        by_cases c109 : ¬ x2 = 0
        · rw [if_pos c109] at h
          by_cases c110 : ¬ x0 = x2
          · rw [if_pos c110] at h
            have h9 := Option.some.inj h
            subst h9
            exact ((sI_f (hW.2.2.2.2.2.1)).trans rfl)
          · rw [if_neg c110] at h
            by_cases c111 : x0 = 3
            · rw [if_pos c111] at h
              by_cases c112 : ¬ x0 = 3
              · rw [if_pos c112] at h
                by_cases c113 : ¬ x0 = 3
                · rw [if_pos c113] at h
                  have h9 := Option.some.inj h
                  subst h9
                  exact rfl
                · rw [if_neg c113] at h
                  obtain ⟨μ115, e114, h⟩ := b1_e h
                  have q116 : μ115 k j = μ k j := (fr_MO_pushPairs e114 ⟨(hW.2.1), (hW.2.2.2.2.2.2.2.2.2.1), (hW.2.2.2.2.2.2.2.2.2.2.1)⟩).trans rfl
                  have h9 := Option.some.inj h
                  subst h9
                  exact q116
              · rw [if_neg c112] at h
                obtain ⟨v117, -, h⟩ := b1_e h
                obtain ⟨v119, -, h⟩ := b1_e h
                by_cases c121 : v117 = v119
                · rw [if_pos c121] at h
                  by_cases c122 : ¬ x0 = 3
                  · rw [if_pos c122] at h
                    have h9 := Option.some.inj h
                    subst h9
                    exact rfl
                  · rw [if_neg c122] at h
                    obtain ⟨μ124, e123, h⟩ := b1_e h
                    have q125 : μ124 k j = μ k j := (fr_MO_pushPairs e123 ⟨(hW.2.1), (hW.2.2.2.2.2.2.2.2.2.1), (hW.2.2.2.2.2.2.2.2.2.2.1)⟩).trans rfl
                    have h9 := Option.some.inj h
                    subst h9
                    exact q125
                · rw [if_neg c121] at h
                  have h9 := Option.some.inj h
                  subst h9
                  exact ((sI_f (hW.2.2.2.2.2.1)).trans rfl)
            · rw [if_neg c111] at h
              by_cases c126 : ¬ x1 = x3
              · rw [if_pos c126] at h
                have h9 := Option.some.inj h
                subst h9
                exact ((sI_f (hW.2.2.2.2.2.1)).trans rfl)
              · rw [if_neg c126] at h
                by_cases c127 : ¬ x0 = 3
                · rw [if_pos c127] at h
                  by_cases c128 : ¬ x0 = 3
                  · rw [if_pos c128] at h
                    have h9 := Option.some.inj h
                    subst h9
                    exact rfl
                  · rw [if_neg c128] at h
                    obtain ⟨μ130, e129, h⟩ := b1_e h
                    have q131 : μ130 k j = μ k j := (fr_MO_pushPairs e129 ⟨(hW.2.1), (hW.2.2.2.2.2.2.2.2.2.1), (hW.2.2.2.2.2.2.2.2.2.2.1)⟩).trans rfl
                    have h9 := Option.some.inj h
                    subst h9
                    exact q131
                · rw [if_neg c127] at h
                  obtain ⟨v132, -, h⟩ := b1_e h
                  obtain ⟨v134, -, h⟩ := b1_e h
                  by_cases c136 : v132 = v134
                  · rw [if_pos c136] at h
                    by_cases c137 : ¬ x0 = 3
                    · rw [if_pos c137] at h
                      have h9 := Option.some.inj h
                      subst h9
                      exact rfl
                    · rw [if_neg c137] at h
                      obtain ⟨μ139, e138, h⟩ := b1_e h
                      have q140 : μ139 k j = μ k j := (fr_MO_pushPairs e138 ⟨(hW.2.1), (hW.2.2.2.2.2.2.2.2.2.1), (hW.2.2.2.2.2.2.2.2.2.2.1)⟩).trans rfl
                      have h9 := Option.some.inj h
                      subst h9
                      exact q140
                  · rw [if_neg c136] at h
                    have h9 := Option.some.inj h
                    subst h9
                    exact ((sI_f (hW.2.2.2.2.2.1)).trans rfl)
        · rw [if_neg c109] at h
          obtain ⟨v141, -, h⟩ := b1_e h
          obtain ⟨v145, -, h⟩ := b1_e h
          obtain ⟨v149, -, h⟩ := b1_e h
          obtain ⟨v154, μ155, e153, h⟩ := b2_e h
          have q156 : μ155 k j = μ k j := (fr_MO_occurs e153 ⟨(hW.2.1), (hW.2.2.1), (hW.2.2.2.1), (hW.2.2.2.2.1), (hW.2.2.2.2.2.2.2.2.2.1), (hW.2.2.2.2.2.2.2.2.2.2.1), (hW.2.2.2.2.2.2.2.2.2.2.2)⟩).trans rfl
          obtain ⟨μ157, e158, h⟩ := b1_e h
          have q164 : μ157 k j = μ k j := by
            clear h
            have h := e158
            clear e158
            by_cases c160 : v154 = 0
            · rw [if_pos c160] at h
              obtain ⟨μ162, e161, h⟩ := b1_e h
              have q163 : μ162 k j = μ k j := (fr_MO_bind e161 ⟨(hW.1), (hW.2.2.2.2.2.2.1), (hW.2.2.2.2.2.2.2.1), (hW.2.2.2.2.2.2.2.2.1)⟩).trans q156
              have h9 := Option.some.inj h
              subst h9
              exact q163
            · rw [if_neg c160] at h
              have h9 := Option.some.inj h
              subst h9
              exact ((sI_f (hW.2.2.2.2.2.1)).trans q156)
          have h9 := Option.some.inj h
          subst h9
          exact q164
    · rw [if_neg c83] at h
      by_cases c165 : x1 = x3
      · rw [if_pos c165] at h
        have h9 := Option.some.inj h
        subst h9
        exact rfl
      · rw [if_neg c165] at h
        obtain ⟨v166, -, h⟩ := b1_e h
        obtain ⟨v168, -, h⟩ := b1_e h
        obtain ⟨v170, -, h⟩ := b1_e h
        obtain ⟨v174, -, h⟩ := b1_e h
        obtain ⟨v178, -, h⟩ := b1_e h
        obtain ⟨μ183, e182, h⟩ := b1_e h
        have q184 : μ183 k j = μ k j := (fr_MO_bind e182 ⟨(hW.1), (hW.2.2.2.2.2.2.1), (hW.2.2.2.2.2.2.2.1), (hW.2.2.2.2.2.2.2.2.1)⟩).trans rfl
        have h9 := Option.some.inj h
        subst h9
        exact q184
def W_MO_unify (k j : Nat) : Prop := ¬ (k = 70 ∧ j = 23) ∧ ¬ (k = 70 ∧ j = 30) ∧ ¬ (k = 70 ∧ j = 34) ∧ ¬ (k = 70 ∧ j = 35) ∧ ¬ (k = 70 ∧ j = 40) ∧ ¬ (k = 70 ∧ j = 41) ∧ ¬ (k = 70 ∧ j = 49) ∧ k ≠ 76 ∧ k ≠ 77 ∧ k ≠ 86 ∧ k ≠ 88 ∧ k ≠ 89 ∧ k ≠ 90
theorem fr_MO_unify_28 {k j : Nat} (hW : W_MO_unify k j) (fl : Nat) : ∀ {μ : Mu} {μz : Mu}, f_MO_unify_28 fl μ = some (μz) → μz k j = μ k j := by
  induction fl with
  | zero => intro _ _ h; cases h
  | succ f ih =>
    intro μ μz h
    unfold f_MO_unify_28 at h
    by_cases c7 : (μ 70 30) ≤ 0
    · rw [if_pos c7] at h
      have h9 := Option.some.inj h
      subst h9
      exact rfl
    · rw [if_neg c7] at h
      by_cases c8 : ¬ (μ 70 49) = 0
      · rw [if_pos c8] at h
        have h9 := Option.some.inj h
        subst h9
        exact rfl
      · rw [if_neg c8] at h
        by_cases c9 : ((μ 70 35) + 1) ≤ 300
        · rw [if_pos c9] at h
          obtain ⟨v10, -, h⟩ := b1_e h
          obtain ⟨v12, -, h⟩ := b1_e h
          obtain ⟨μ15, e14, h⟩ := b1_e h
          have q16 : μ15 k j = μ k j := (fr_MO_mean e14 ⟨(hW.2.2.2.2.1), (hW.2.2.2.2.2.1)⟩).trans ((sI_f (hW.2.2.2.1)).trans ((sI_f (hW.2.1)).trans rfl))
          obtain ⟨v17, -, h⟩ := b1_e h
          obtain ⟨v19, -, h⟩ := b1_e h
          obtain ⟨μ22, e21, h⟩ := b1_e h
          have q23 : μ22 k j = μ k j := (fr_MO_mean e21 ⟨(hW.2.2.2.2.1), (hW.2.2.2.2.2.1)⟩).trans q16
          obtain ⟨μ25, e24, h⟩ := b1_e h
          have q26 : μ25 k j = μ k j := (fr_MO_meet e24 ⟨(hW.1), (hW.2.1), (hW.2.2.1), (hW.2.2.2.2.1), (hW.2.2.2.2.2.1), (hW.2.2.2.2.2.2.1), (hW.2.2.2.2.2.2.2.1), (hW.2.2.2.2.2.2.2.2.1), (hW.2.2.2.2.2.2.2.2.2.1), (hW.2.2.2.2.2.2.2.2.2.2.1), (hW.2.2.2.2.2.2.2.2.2.2.2.1), (hW.2.2.2.2.2.2.2.2.2.2.2.2)⟩).trans q23
          exact (ih h).trans q26
        · rw [if_neg c9] at h
          exact (ih h).trans ((sI_f (hW.2.2.2.2.2.2.1)).trans ((sI_f (hW.2.2.2.1)).trans ((sI_f (hW.2.1)).trans rfl)))
theorem fr_MO_unify {x0 : Int32} {x1 : Int32} {x2 : Int32} {x3 : Int32} {k j : Nat} {μ : Mu} {μr : Mu} (h : f_MO_unify x0 x1 x2 x3 μ = some (μr)) (hW : W_MO_unify k j) : μr k j = μ k j := by
  unfold f_MO_unify at h
  obtain ⟨μ2, e1, h⟩ := b1_e h
  have q3 : μ2 k j = μ k j := (fr_MO_push e1 ⟨(hW.2.1), (hW.2.2.2.2.2.2.2.2.2.2.1), (hW.2.2.2.2.2.2.2.2.2.2.2.1)⟩).trans ((sI_f (hW.2.1)).trans ((sI_f (hW.2.2.2.1)).trans ((sI_f (hW.2.2.2.2.2.2.1)).trans rfl)))
  obtain ⟨μ5, e4, h⟩ := b1_e h
  have q6 : μ5 k j = μ k j := (fr_MO_push e4 ⟨(hW.2.1), (hW.2.2.2.2.2.2.2.2.2.2.1), (hW.2.2.2.2.2.2.2.2.2.2.2.1)⟩).trans q3
  obtain ⟨μ27, e28, h⟩ := b1_e h
  have q30 : μ27 k j = μ k j := (fr_MO_unify_28 hW _ e28).trans q6
  have h9 := Option.some.inj h
  subst h9
  exact q30
def W_MO_apply (k j : Nat) : Prop := ¬ (k = 70 ∧ j = 36) ∧ ¬ (k = 70 ∧ j = 49) ∧ k ≠ 91
theorem fr_MO_apply {x0 : Int32} {k j : Nat} {μ : Mu} {μr : Mu} (h : f_MO_apply x0 μ = some (μr)) (hW : W_MO_apply k j) : μr k j = μ k j := by
  unfold f_MO_apply at h
  obtain ⟨v1, -, h⟩ := b1_e h
  obtain ⟨v3, -, h⟩ := b1_e h
  by_cases c5 : ¬ x0 = 31
  · rw [if_pos c5] at h
    obtain ⟨v6, -, h⟩ := b1_e h
    obtain ⟨v14, -, h⟩ := b1_e h
    obtain ⟨μ15, e16, h⟩ := b1_e h
    have q17 : μ15 k j = μ k j := (wr_f e16 (hW.2.2)).trans ((sI_f (hW.1)).trans rfl)
    have h9 := Option.some.inj h
    subst h9
    exact ((sI_f (hW.1)).trans q17)
  · rw [if_neg c5] at h
    by_cases c18 : ¬ v3 = 0
    · rw [if_pos c18] at h
      obtain ⟨v19, -, h⟩ := b1_e h
      obtain ⟨v27, -, h⟩ := b1_e h
      obtain ⟨μ28, e29, h⟩ := b1_e h
      have q30 : μ28 k j = μ k j := (wr_f e29 (hW.2.2)).trans ((sI_f (hW.1)).trans rfl)
      have h9 := Option.some.inj h
      subst h9
      exact ((sI_f (hW.1)).trans q30)
    · rw [if_neg c18] at h
      have h9 := Option.some.inj h
      subst h9
      exact ((sI_f (hW.2.1)).trans ((sI_f (hW.1)).trans rfl))
def W_MO_calculate (k j : Nat) : Prop := ¬ (k = 70 ∧ j = 30) ∧ ¬ (k = 70 ∧ j = 36) ∧ ¬ (k = 70 ∧ j = 40) ∧ ¬ (k = 70 ∧ j = 41) ∧ ¬ (k = 70 ∧ j = 49) ∧ k ≠ 88 ∧ k ≠ 89 ∧ k ≠ 91
theorem fr_MO_calculate_23 {k j : Nat} (hW : W_MO_calculate k j) (fl : Nat) : ∀ {y3 : Int32} {μ : Mu} {μz : Mu}, f_MO_calculate_23 fl y3 μ = some (μz) → μz k j = μ k j := by
  induction fl with
  | zero => intro _ _ _ h; cases h
  | succ f ih =>
    intro y3 μ μz h
    unfold f_MO_calculate_23 at h
    by_cases c4 : (μ 70 30) ≤ 0
    · rw [if_pos c4] at h
      have h9 := Option.some.inj h
      subst h9
      exact rfl
    · rw [if_neg c4] at h
      by_cases c5 : ¬ (μ 70 49) = 0
      · rw [if_pos c5] at h
        have h9 := Option.some.inj h
        subst h9
        exact rfl
      · rw [if_neg c5] at h
        obtain ⟨v6, -, h⟩ := b1_e h
        by_cases c8 : ¬ v6 = 9
        · rw [if_pos c8] at h
          obtain ⟨v9, -, h⟩ := b1_e h
          obtain ⟨v11, -, h⟩ := b1_e h
          obtain ⟨μ14, e13, h⟩ := b1_e h
          have q15 : μ14 k j = μ k j := (fr_MO_mean e13 ⟨(hW.2.2.1), (hW.2.2.2.1)⟩).trans ((sI_f (hW.1)).trans rfl)
          obtain ⟨v16, -, h⟩ := b1_e h
          obtain ⟨l28, μ29, e30, h⟩ := b2_e h
          have q46 : μ29 k j = μ k j := by
            clear h
            have h := e30
            clear e30
            by_cases c32 : ¬ (μ14 70 40) = 1
            · rw [if_pos c32] at h
              by_cases c33 : v16 = 0
              · rw [if_pos c33] at h
                have j0 := Option.some.inj h
                obtain ⟨i1, j1⟩ := Prod.mk.inj j0
                subst i1
                subst j1
                exact ((sI_f (hW.2.2.2.2.1)).trans q15)
              · rw [if_neg c33] at h
                by_cases c34 : 30 ≤ y3
                · rw [if_pos c34] at h
                  have j0 := Option.some.inj h
                  obtain ⟨i1, j1⟩ := Prod.mk.inj j0
                  subst i1
                  subst j1
                  exact ((sI_f (hW.2.2.2.2.1)).trans q15)
                · rw [if_neg c34] at h
                  obtain ⟨v35, -, h⟩ := b1_e h
                  obtain ⟨μ38, e37, h⟩ := b1_e h
                  have q39 : μ38 k j = μ k j := (fr_MO_push e37 ⟨(hW.1), (hW.2.2.2.2.2.1), (hW.2.2.2.2.2.2.1)⟩).trans q15
                  obtain ⟨μ41, e40, h⟩ := b1_e h
                  have q42 : μ41 k j = μ k j := (fr_MO_pushArguments e40 ⟨(hW.1), (hW.2.2.2.2.2.1), (hW.2.2.2.2.2.2.1)⟩).trans q39
                  have j0 := Option.some.inj h
                  obtain ⟨i1, j1⟩ := Prod.mk.inj j0
                  subst i1
                  subst j1
                  exact q42
            · rw [if_neg c32] at h
              obtain ⟨μ43, e44, h⟩ := b1_e h
              have q45 : μ43 k j = μ k j := (wr_f e44 (hW.2.2.2.2.2.2.2)).trans q15
              have j0 := Option.some.inj h
              obtain ⟨i1, j1⟩ := Prod.mk.inj j0
              subst i1
              subst j1
              exact ((sI_f (hW.2.1)).trans q45)
          exact (ih h).trans q46
        · rw [if_neg c8] at h
          obtain ⟨v47, -, h⟩ := b1_e h
          obtain ⟨μ50, e49, h⟩ := b1_e h
          have q51 : μ50 k j = μ k j := (fr_MO_apply e49 ⟨(hW.2.1), (hW.2.2.2.2.1), (hW.2.2.2.2.2.2.2)⟩).trans ((sI_f (hW.1)).trans rfl)
          exact (ih h).trans q51
theorem fr_MO_calculate {x0 : Int32} {x1 : Int32} {k j : Nat} {μ : Mu} {r : Int32} {μr : Mu} (h : f_MO_calculate x0 x1 μ = some (r, μr)) (hW : W_MO_calculate k j) : μr k j = μ k j := by
  unfold f_MO_calculate at h
  obtain ⟨μ2, e1, h⟩ := b1_e h
  have q3 : μ2 k j = μ k j := (fr_MO_push e1 ⟨(hW.1), (hW.2.2.2.2.2.1), (hW.2.2.2.2.2.2.1)⟩).trans ((sI_f (hW.2.1)).trans ((sI_f (hW.1)).trans ((sI_f (hW.2.2.2.2.1)).trans rfl)))
  obtain ⟨μ52, e53, h⟩ := b1_e h
  have q55 : μ52 k j = μ k j := (fr_MO_calculate_23 hW _ e53).trans q3
  by_cases c56 : ¬ (μ52 70 49) = 0
  · rw [if_pos c56] at h
    have j0 := Option.some.inj h
    obtain ⟨i1, j1⟩ := Prod.mk.inj j0
    subst i1
    subst j1
    exact q55
  · rw [if_neg c56] at h
    obtain ⟨v57, -, h⟩ := b1_e h
    have j0 := Option.some.inj h
    obtain ⟨i1, j1⟩ := Prod.mk.inj j0
    subst i1
    subst j1
    exact q55
def W_MO_mark (k j : Nat) : Prop := ¬ (k = 70 ∧ j = 30) ∧ k ≠ 88 ∧ k ≠ 89 ∧ k ≠ 90
theorem fr_MO_mark_135 {k3 : Int32} {k j : Nat} (hW : W_MO_mark k j) (fl : Nat) : ∀ {y4 : Int32} {μ : Mu} {μz : Mu}, f_MO_mark_135 k3 fl y4 μ = some (μz) → μz k j = μ k j := by
  induction fl with
  | zero => intro _ _ _ h; cases h
  | succ f ih =>
    intro y4 μ μz h
    unfold f_MO_mark_135 at h
    obtain ⟨v22, -, h⟩ := b1_e h
    obtain ⟨v25, -, h⟩ := b1_e h
    by_cases c26 : v25 ≤ y4
    · rw [if_pos c26] at h
      have h9 := Option.some.inj h
      subst h9
      exact rfl
    · rw [if_neg c26] at h
      obtain ⟨v27, -, h⟩ := b1_e h
      obtain ⟨μ29, e30, h⟩ := b1_e h
      have q31 : μ29 k j = μ k j := (wr_f e30 (hW.2.2.2)).trans rfl
      exact (ih h).trans q31
theorem fr_MO_mark_6 {k j : Nat} (hW : W_MO_mark k j) (fl : Nat) : ∀ {μ : Mu} {μz : Mu}, f_MO_mark_6 fl μ = some (μz) → μz k j = μ k j := by
  induction fl with
  | zero => intro _ _ h; cases h
  | succ f ih =>
    intro μ μz h
    unfold f_MO_mark_6 at h
    by_cases c4 : (μ 70 30) ≤ 0
    · rw [if_pos c4] at h
      have h9 := Option.some.inj h
      subst h9
      exact rfl
    · rw [if_neg c4] at h
      obtain ⟨v5, -, h⟩ := b1_e h
      obtain ⟨v7, -, h⟩ := b1_e h
      obtain ⟨μ9, e10, h⟩ := b1_e h
      have q81 : μ9 k j = μ k j := by
        clear h
        have h := e10
        clear e10
        by_cases c12 : ¬ v7 = 0
        · rw [if_pos c12] at h
          obtain ⟨v13, -, h⟩ := b1_e h
          by_cases c15 : ¬ v13 = 3
          · rw [if_pos c15] at h
            have h9 := Option.some.inj h
            subst h9
            exact ((sI_f (hW.1)).trans rfl)
          · rw [if_neg c15] at h
            obtain ⟨v16, -, h⟩ := b1_e h
            by_cases c18 : v16 = (μ 70 34)
            · rw [if_pos c18] at h
              have h9 := Option.some.inj h
              subst h9
              exact ((sI_f (hW.1)).trans rfl)
            · rw [if_neg c18] at h
              obtain ⟨μ19, e20, h⟩ := b1_e h
              have q21 : μ19 k j = μ k j := (wr_f e20 (hW.2.2.2)).trans ((sI_f (hW.1)).trans rfl)
              obtain ⟨μ32, e33, h⟩ := b1_e h
              have q35 : μ32 k j = μ k j := (fr_MO_mark_135 hW _ e33).trans q21
              obtain ⟨μ37, e36, h⟩ := b1_e h
              have q38 : μ37 k j = μ k j := (fr_MO_pushArguments e36 ⟨(hW.1), (hW.2.1), (hW.2.2.1)⟩).trans q35
              have h9 := Option.some.inj h
              subst h9
              exact q38
        · rw [if_neg c12] at h
          obtain ⟨v39, -, h⟩ := b1_e h
          by_cases c41 : v39 = (μ 70 34)
          · rw [if_pos c41] at h
            obtain ⟨v42, -, h⟩ := b1_e h
            by_cases c44 : ¬ v42 = 3
            · rw [if_pos c44] at h
              have h9 := Option.some.inj h
              subst h9
              exact ((sI_f (hW.1)).trans rfl)
            · rw [if_neg c44] at h
              obtain ⟨v45, -, h⟩ := b1_e h
              by_cases c47 : v45 = (μ 70 34)
              · rw [if_pos c47] at h
                have h9 := Option.some.inj h
                subst h9
                exact ((sI_f (hW.1)).trans rfl)
              · rw [if_neg c47] at h
                obtain ⟨μ48, e49, h⟩ := b1_e h
                have q50 : μ48 k j = μ k j := (wr_f e49 (hW.2.2.2)).trans ((sI_f (hW.1)).trans rfl)
                obtain ⟨μ61, e62, h⟩ := b1_e h
                have q64 : μ61 k j = μ k j := (fr_MO_mark_135 hW _ e62).trans q50
                obtain ⟨μ66, e65, h⟩ := b1_e h
                have q67 : μ66 k j = μ k j := (fr_MO_pushArguments e65 ⟨(hW.1), (hW.2.1), (hW.2.2.1)⟩).trans q64
                have h9 := Option.some.inj h
                subst h9
                exact q67
          · rw [if_neg c41] at h
            obtain ⟨μ68, e69, h⟩ := b1_e h
            have q70 : μ68 k j = μ k j := (wr_f e69 (hW.2.2.2)).trans ((sI_f (hW.1)).trans rfl)
            obtain ⟨v71, -, h⟩ := b1_e h
            by_cases c73 : v71 < 0
            · rw [if_pos c73] at h
              have h9 := Option.some.inj h
              subst h9
              exact q70
            · rw [if_neg c73] at h
              obtain ⟨v74, -, h⟩ := b1_e h
              obtain ⟨v76, -, h⟩ := b1_e h
              obtain ⟨μ79, e78, h⟩ := b1_e h
              have q80 : μ79 k j = μ k j := (fr_MO_push e78 ⟨(hW.1), (hW.2.1), (hW.2.2.1)⟩).trans q70
              have h9 := Option.some.inj h
              subst h9
              exact q80
      exact (ih h).trans q81
theorem fr_MO_mark {x0 : Int32} {x1 : Int32} {k j : Nat} {μ : Mu} {μr : Mu} (h : f_MO_mark x0 x1 μ = some (μr)) (hW : W_MO_mark k j) : μr k j = μ k j := by
  unfold f_MO_mark at h
  obtain ⟨μ2, e1, h⟩ := b1_e h
  have q3 : μ2 k j = μ k j := (fr_MO_push e1 ⟨(hW.1), (hW.2.1), (hW.2.2.1)⟩).trans rfl
  obtain ⟨μ82, e83, h⟩ := b1_e h
  have q85 : μ82 k j = μ k j := (fr_MO_mark_6 hW _ e83).trans q3
  have h9 := Option.some.inj h
  subst h9
  exact q85
def W_MO_markGoals (k j : Nat) : Prop := ¬ (k = 70 ∧ j = 30) ∧ k ≠ 88 ∧ k ≠ 89 ∧ k ≠ 90
theorem fr_MO_markGoals_2 {k j : Nat} (hW : W_MO_markGoals k j) (fl : Nat) : ∀ {y2 : Int32} {μ : Mu} {μz : Mu}, f_MO_markGoals_2 fl y2 μ = some (μz) → μz k j = μ k j := by
  induction fl with
  | zero => intro _ _ _ h; cases h
  | succ f ih =>
    intro y2 μ μz h
    unfold f_MO_markGoals_2 at h
    by_cases c1 : y2 < 0
    · rw [if_pos c1] at h
      have h9 := Option.some.inj h
      subst h9
      exact rfl
    · rw [if_neg c1] at h
      obtain ⟨v3, -, h⟩ := b1_e h
      obtain ⟨v5, -, h⟩ := b1_e h
      obtain ⟨μ7, e6, h⟩ := b1_e h
      have q8 : μ7 k j = μ k j := (fr_MO_mark e6 ⟨(hW.1), (hW.2.1), (hW.2.2.1), (hW.2.2.2)⟩).trans rfl
      obtain ⟨v9, -, h⟩ := b1_e h
      exact (ih h).trans q8
theorem fr_MO_markGoals {x0 : Int32} {k j : Nat} {μ : Mu} {μr : Mu} (h : f_MO_markGoals x0 μ = some (μr)) (hW : W_MO_markGoals k j) : μr k j = μ k j := by
  unfold f_MO_markGoals at h
  obtain ⟨μ11, e12, h⟩ := b1_e h
  have q14 : μ11 k j = μ k j := (fr_MO_markGoals_2 hW _ e12).trans rfl
  have h9 := Option.some.inj h
  subst h9
  exact q14
def W_MO_free (k j : Nat) : Prop := ¬ (k = 70 ∧ j = 28) ∧ ¬ (k = 70 ∧ j = 30) ∧ ¬ (k = 70 ∧ j = 34) ∧ k ≠ 74 ∧ k ≠ 88 ∧ k ≠ 89 ∧ k ≠ 90
theorem fr_MO_free_45 {k j : Nat} (hW : W_MO_free k j) (fl : Nat) : ∀ {y3 : Int32} {μ : Mu} {μz : Mu}, f_MO_free_45 fl y3 μ = some (μz) → μz k j = μ k j := by
  induction fl with
  | zero => intro _ _ _ h; cases h
  | succ f ih =>
    intro y3 μ μz h
    unfold f_MO_free_45 at h
    by_cases c12 : 8 ≤ y3
    · rw [if_pos c12] at h
      have h9 := Option.some.inj h
      subst h9
      exact rfl
    · rw [if_neg c12] at h
      obtain ⟨v13, -, h⟩ := b1_e h
      obtain ⟨μ15, e16, h⟩ := b1_e h
      have q24 : μ15 k j = μ k j := by
        clear h
        have h := e16
        clear e16
        by_cases c18 : v13 < 0
        · rw [if_pos c18] at h
          have h9 := Option.some.inj h
          subst h9
          exact rfl
        · rw [if_neg c18] at h
          obtain ⟨v19, -, h⟩ := b1_e h
          obtain ⟨μ22, e21, h⟩ := b1_e h
          have q23 : μ22 k j = μ k j := (fr_MO_mark e21 ⟨(hW.2.1), (hW.2.2.2.2.1), (hW.2.2.2.2.2.1), (hW.2.2.2.2.2.2)⟩).trans rfl
          have h9 := Option.some.inj h
          subst h9
          exact q23
      exact (ih h).trans q24
theorem fr_MO_free_105 {k3 : Int32} {k j : Nat} (hW : W_MO_free k j) (fl : Nat) : ∀ {y4 : Int32} {μ : Mu} {μz : Mu}, f_MO_free_105 k3 fl y4 μ = some (μz) → μz k j = μ k j := by
  induction fl with
  | zero => intro _ _ _ h; cases h
  | succ f ih =>
    intro y4 μ μz h
    unfold f_MO_free_105 at h
    by_cases c37 : (μ 70 23) ≤ y4
    · rw [if_pos c37] at h
      have h9 := Option.some.inj h
      subst h9
      exact rfl
    · rw [if_neg c37] at h
      obtain ⟨v38, -, h⟩ := b1_e h
      obtain ⟨v40, -, h⟩ := b1_e h
      obtain ⟨μ42, e43, h⟩ := b1_e h
      have q57 : μ42 k j = μ k j := by
        clear h
        have h := e43
        clear e43
        by_cases c45 : ¬ v40 = 1
        · rw [if_pos c45] at h
          have h9 := Option.some.inj h
          subst h9
          exact rfl
        · rw [if_neg c45] at h
          obtain ⟨v46, -, h⟩ := b1_e h
          by_cases c48 : v46 < 0
          · rw [if_pos c48] at h
            have h9 := Option.some.inj h
            subst h9
            exact rfl
          · rw [if_neg c48] at h
            obtain ⟨v49, -, h⟩ := b1_e h
            obtain ⟨v51, -, h⟩ := b1_e h
            by_cases c53 : v51 ≤ v49
            · rw [if_pos c53] at h
              have h9 := Option.some.inj h
              subst h9
              exact rfl
            · rw [if_neg c53] at h
              obtain ⟨μ55, e54, h⟩ := b1_e h
              have q56 : μ55 k j = μ k j := (fr_MO_mark e54 ⟨(hW.2.1), (hW.2.2.2.2.1), (hW.2.2.2.2.2.1), (hW.2.2.2.2.2.2)⟩).trans rfl
              have h9 := Option.some.inj h
              subst h9
              exact q56
      exact (ih h).trans q57
theorem fr_MO_free_79 {k j : Nat} (hW : W_MO_free k j) (fl : Nat) : ∀ {y3 : Int32} {μ : Mu} {μz : Mu}, f_MO_free_79 fl y3 μ = some (μz) → μz k j = μ k j := by
  induction fl with
  | zero => intro _ _ _ h; cases h
  | succ f ih =>
    intro y3 μ μz h
    unfold f_MO_free_79 at h
    by_cases c29 : (μ 70 18) ≤ y3
    · rw [if_pos c29] at h
      have h9 := Option.some.inj h
      subst h9
      exact rfl
    · rw [if_neg c29] at h
      obtain ⟨v30, -, h⟩ := b1_e h
      obtain ⟨μ33, e32, h⟩ := b1_e h
      have q34 : μ33 k j = μ k j := (fr_MO_markGoals e32 ⟨(hW.2.1), (hW.2.2.2.2.1), (hW.2.2.2.2.2.1), (hW.2.2.2.2.2.2)⟩).trans rfl
      obtain ⟨v35, -, h⟩ := b1_e h
      obtain ⟨μ58, e59, h⟩ := b1_e h
      have q61 : μ58 k j = μ k j := (fr_MO_free_105 hW _ e59).trans q34
      exact (ih h).trans q61
theorem fr_MO_free_184 {k j : Nat} (hW : W_MO_free k j) (fl : Nat) : ∀ {y3 : Int32} {y4 : Int32} {μ : Mu} {z3 : Int32} {μz : Mu}, f_MO_free_184 fl y3 y4 μ = some (z3, μz) → μz k j = μ k j := by
  induction fl with
  | zero => intro _ _ _ _ _ h; cases h
  | succ f ih =>
    intro y3 y4 μ z3 μz h
    unfold f_MO_free_184 at h
    by_cases c66 : 240 ≤ y4
    · rw [if_pos c66] at h
      have j0 := Option.some.inj h
      obtain ⟨i1, j1⟩ := Prod.mk.inj j0
      subst i1
      subst j1
      exact rfl
    · rw [if_neg c66] at h
      obtain ⟨v67, -, h⟩ := b1_e h
      obtain ⟨v69, -, h⟩ := b1_e h
      obtain ⟨v76, -, h⟩ := b1_e h
      obtain ⟨v80, -, h⟩ := b1_e h
      obtain ⟨μ86, e87, h⟩ := b1_e h
      have q88 : μ86 k j = μ k j := (wr_f e87 (hW.2.2.2.1)).trans rfl
      exact (ih h).trans q88
theorem fr_MO_free {x0 : Int32} {x1 : Int32} {k j : Nat} {μ : Mu} {r : Int32} {μr : Mu} (h : f_MO_free x0 x1 μ = some (r, μr)) (hW : W_MO_free k j) : μr k j = μ k j := by
  unfold f_MO_free at h
  obtain ⟨μ1, e2, h⟩ := b1_e h
  have q8 : μ1 k j = μ k j := by
    clear h
    have h := e2
    clear e2
    by_cases c4 : x0 < 0
    · rw [if_pos c4] at h
      have h9 := Option.some.inj h
      subst h9
      exact ((sI_f (hW.1)).trans ((sI_f (hW.2.1)).trans ((sI_f (hW.2.2.1)).trans rfl)))
    · rw [if_neg c4] at h
      obtain ⟨μ6, e5, h⟩ := b1_e h
      have q7 : μ6 k j = μ k j := (fr_MO_mark e5 ⟨(hW.2.1), (hW.2.2.2.2.1), (hW.2.2.2.2.2.1), (hW.2.2.2.2.2.2)⟩).trans ((sI_f (hW.1)).trans ((sI_f (hW.2.1)).trans ((sI_f (hW.2.2.1)).trans rfl)))
      have h9 := Option.some.inj h
      subst h9
      exact q7
  obtain ⟨μ10, e9, h⟩ := b1_e h
  have q11 : μ10 k j = μ k j := (fr_MO_markGoals e9 ⟨(hW.2.1), (hW.2.2.2.2.1), (hW.2.2.2.2.2.1), (hW.2.2.2.2.2.2)⟩).trans q8
  obtain ⟨μ25, e26, h⟩ := b1_e h
  have q28 : μ25 k j = μ k j := (fr_MO_free_45 hW _ e26).trans q11
  obtain ⟨μ62, e63, h⟩ := b1_e h
  have q65 : μ62 k j = μ k j := (fr_MO_free_79 hW _ e63).trans q28
  obtain ⟨l89, μ90, e91, h⟩ := b2_e h
  have q93 : μ90 k j = μ k j := (fr_MO_free_184 hW _ e91).trans q65
  have j0 := Option.some.inj h
  obtain ⟨i1, j1⟩ := Prod.mk.inj j0
  subst i1
  subst j1
  exact q93
def W_MO_end (k j : Nat) : Prop := ¬ (k = 70 ∧ j = 16) ∧ ¬ (k = 70 ∧ j = 18) ∧ ¬ (k = 70 ∧ j = 23) ∧ ¬ (k = 70 ∧ j = 25) ∧ ¬ (k = 70 ∧ j = 26) ∧ k ≠ 74
theorem fr_MO_end_27 {k j : Nat} (hW : W_MO_end k j) (fl : Nat) : ∀ {y1 : Int32} {μ : Mu} {μz : Mu}, f_MO_end_27 fl y1 μ = some (μz) → μz k j = μ k j := by
  induction fl with
  | zero => intro _ _ _ h; cases h
  | succ f ih =>
    intro y1 μ μz h
    unfold f_MO_end_27 at h
    by_cases c1 : 240 ≤ y1
    · rw [if_pos c1] at h
      have h9 := Option.some.inj h
      subst h9
      exact rfl
    · rw [if_neg c1] at h
      obtain ⟨μ2, e3, h⟩ := b1_e h
      have q4 : μ2 k j = μ k j := (wr_f e3 (hW.2.2.2.2.2)).trans rfl
      exact (ih h).trans q4
theorem fr_MO_end {k j : Nat} {μ : Mu} {μr : Mu} (h : f_MO_end μ = some (μr)) (hW : W_MO_end k j) : μr k j = μ k j := by
  unfold f_MO_end at h
  obtain ⟨μ5, e6, h⟩ := b1_e h
  have q8 : μ5 k j = μ k j := (fr_MO_end_27 hW _ e6).trans ((sI_f (hW.2.2.1)).trans ((sI_f (hW.1)).trans ((sI_f (hW.2.1)).trans ((sI_f (hW.2.2.2.2.1)).trans ((sI_f (hW.2.2.2.1)).trans rfl)))))
  have h9 := Option.some.inj h
  subst h9
  exact q8
def W_MO_link (k j : Nat) : Prop := ¬ (k = 70 ∧ j = 13) ∧ k ≠ 80 ∧ k ≠ 81
theorem fr_MO_link {x0 : Int32} {x1 : Int32} {x2 : Int32} {x3 : Int32} {k j : Nat} {μ : Mu} {r : Int32} {μr : Mu} (h : f_MO_link x0 x1 x2 x3 μ = some (r, μr)) (hW : W_MO_link k j) : μr k j = μ k j := by
  unfold f_MO_link at h
  obtain ⟨μ1, e2, h⟩ := b1_e h
  have q3 : μ1 k j = μ k j := (wr_f e2 (hW.2.1)).trans rfl
  obtain ⟨μ4, e5, h⟩ := b1_e h
  have q6 : μ4 k j = μ k j := (wr_f e5 (hW.2.2)).trans q3
  have j0 := Option.some.inj h
  obtain ⟨i1, j1⟩ := Prod.mk.inj j0
  subst i1
  subst j1
  exact ((sI_f (hW.1)).trans q6)
def W_MO_ask (k j : Nat) : Prop := ¬ (k = 70 ∧ j = 0) ∧ ¬ (k = 70 ∧ j = 1) ∧ ¬ (k = 70 ∧ j = 12) ∧ ¬ (k = 70 ∧ j = 13) ∧ ¬ (k = 70 ∧ j = 16) ∧ ¬ (k = 70 ∧ j = 17) ∧ ¬ (k = 70 ∧ j = 18) ∧ ¬ (k = 70 ∧ j = 23) ∧ ¬ (k = 70 ∧ j = 25) ∧ ¬ (k = 70 ∧ j = 26) ∧ ¬ (k = 70 ∧ j = 40) ∧ ¬ (k = 70 ∧ j = 41) ∧ ¬ (k = 70 ∧ j = 43) ∧ ¬ (k = 70 ∧ j = 46) ∧ k ≠ 74 ∧ k ≠ 75 ∧ k ≠ 76 ∧ k ≠ 77 ∧ k ≠ 78 ∧ k ≠ 79 ∧ k ≠ 80 ∧ k ≠ 81 ∧ k ≠ 87 ∧ k ≠ 93 ∧ k ≠ 94 ∧ k ≠ 95 ∧ k ≠ 96 ∧ k ≠ 97
theorem fr_MO_ask_77 {k1 : Int32} {k j : Nat} (hW : W_MO_ask k j) (fl : Nat) : ∀ {y2 : Int32} {μ : Mu} {μz : Mu}, f_MO_ask_77 k1 fl y2 μ = some (μz) → μz k j = μ k j := by
  induction fl with
  | zero => intro _ _ _ h; cases h
  | succ f ih =>
    intro y2 μ μz h
    unfold f_MO_ask_77 at h
    by_cases c22 : 8 ≤ y2
    · rw [if_pos c22] at h
      have h9 := Option.some.inj h
      subst h9
      exact rfl
    · rw [if_neg c22] at h
      obtain ⟨v23, -, h⟩ := b1_e h
      obtain ⟨μ25, e26, h⟩ := b1_e h
      have q27 : μ25 k j = μ k j := (wr_f e26 (hW.2.2.2.2.2.2.2.2.2.2.2.2.2.2.2.2.2.2.2.2.2.2.1)).trans rfl
      exact (ih h).trans q27
theorem fr_MO_ask_108 {k1 : Int32} {k j : Nat} (hW : W_MO_ask k j) (fl : Nat) : ∀ {y2 : Int32} {μ : Mu} {μz : Mu}, f_MO_ask_108 k1 fl y2 μ = some (μz) → μz k j = μ k j := by
  induction fl with
  | zero => intro _ _ _ h; cases h
  | succ f ih =>
    intro y2 μ μz h
    unfold f_MO_ask_108 at h
    by_cases c32 : y2 < 0
    · rw [if_pos c32] at h
      have h9 := Option.some.inj h
      subst h9
      exact rfl
    · rw [if_neg c32] at h
      obtain ⟨v33, -, h⟩ := b1_e h
      obtain ⟨v35, -, h⟩ := b1_e h
      obtain ⟨v38, μ39, e37, h⟩ := b2_e h
      have q40 : μ39 k j = μ k j := (fr_MO_link e37 ⟨(hW.2.2.2.1), (hW.2.2.2.2.2.2.2.2.2.2.2.2.2.2.2.2.2.2.2.2.1), (hW.2.2.2.2.2.2.2.2.2.2.2.2.2.2.2.2.2.2.2.2.2.1)⟩).trans rfl
      exact (ih h).trans ((sI_f (hW.2.2.2.2.1)).trans q40)
theorem fr_MO_ask {k j : Nat} {μ : Mu} {r : Int32} {μr : Mu} (h : f_MO_ask μ = some (r, μr)) (hW : W_MO_ask k j) : μr k j = μ k j := by
  unfold f_MO_ask at h
  obtain ⟨v1, -, h⟩ := b1_e h
  obtain ⟨v8, -, h⟩ := b1_e h
  obtain ⟨μ12, e13, h⟩ := b1_e h
  have q45 : μ12 k j = μ k j := by
    clear h
    have h := e13
    clear e13
    by_cases c15 : v1 = 0
    · rw [if_pos c15] at h
      have h9 := Option.some.inj h
      subst h9
      exact ((sI_f (hW.1)).trans rfl)
    · rw [if_neg c15] at h
      obtain ⟨μ17, e16, h⟩ := b1_e h
      have q18 : μ17 k j = μ k j := (fr_MO_end e16 ⟨(hW.2.2.2.2.1), (hW.2.2.2.2.2.2.1), (hW.2.2.2.2.2.2.2.1), (hW.2.2.2.2.2.2.2.2.1), (hW.2.2.2.2.2.2.2.2.2.1), (hW.2.2.2.2.2.2.2.2.2.2.2.2.2.2.1)⟩).trans ((sI_f (hW.1)).trans rfl)
      obtain ⟨μ20, e19, h⟩ := b1_e h
      have q21 : μ20 k j = μ k j := (fr_MO_copy e19 ⟨(hW.2.2.1), (hW.2.2.2.2.2.2.2.2.2.2.1), (hW.2.2.2.2.2.2.2.2.2.2.2.1), (hW.2.2.2.2.2.2.2.2.2.2.2.2.1), (hW.2.2.2.2.2.2.2.2.2.2.2.2.2.1), (hW.2.2.2.2.2.2.2.2.2.2.2.2.2.2.1), (hW.2.2.2.2.2.2.2.2.2.2.2.2.2.2.2.1), (hW.2.2.2.2.2.2.2.2.2.2.2.2.2.2.2.2.1), (hW.2.2.2.2.2.2.2.2.2.2.2.2.2.2.2.2.2.1), (hW.2.2.2.2.2.2.2.2.2.2.2.2.2.2.2.2.2.2.1), (hW.2.2.2.2.2.2.2.2.2.2.2.2.2.2.2.2.2.2.2.1), (hW.2.2.2.2.2.2.2.2.2.2.2.2.2.2.2.2.2.2.2.2.2.2.2.1), (hW.2.2.2.2.2.2.2.2.2.2.2.2.2.2.2.2.2.2.2.2.2.2.2.2.1), (hW.2.2.2.2.2.2.2.2.2.2.2.2.2.2.2.2.2.2.2.2.2.2.2.2.2.1), (hW.2.2.2.2.2.2.2.2.2.2.2.2.2.2.2.2.2.2.2.2.2.2.2.2.2.2.1), (hW.2.2.2.2.2.2.2.2.2.2.2.2.2.2.2.2.2.2.2.2.2.2.2.2.2.2.2)⟩).trans ((sI_f (hW.2.2.1)).trans ((sI_f (hW.2.2.2.2.2.1)).trans ((sI_f (hW.2.2.2.1)).trans ((sI_f (hW.2.2.2.2.2.2.2.2.1)).trans q18))))
      obtain ⟨μ28, e29, h⟩ := b1_e h
      have q31 : μ28 k j = μ k j := (fr_MO_ask_77 hW _ e29).trans q21
      obtain ⟨μ41, e42, h⟩ := b1_e h
      have q44 : μ41 k j = μ k j := (fr_MO_ask_108 hW _ e42).trans q31
      have h9 := Option.some.inj h
      subst h9
      exact q44
  by_cases c46 : v1 = 0
  · rw [if_pos c46] at h
    have j0 := Option.some.inj h
    obtain ⟨i1, j1⟩ := Prod.mk.inj j0
    subst i1
    subst j1
    exact ((sI_f (hW.2.1)).trans q45)
  · rw [if_neg c46] at h
    obtain ⟨v48, -, h⟩ := b1_e h
    have j0 := Option.some.inj h
    obtain ⟨i1, j1⟩ := Prod.mk.inj j0
    subst i1
    subst j1
    exact ((sI_f (hW.2.1)).trans q45)
def W_MO_fail (k j : Nat) : Prop := ¬ (k = 70 ∧ j = 16) ∧ ¬ (k = 70 ∧ j = 17) ∧ ¬ (k = 70 ∧ j = 18) ∧ ¬ (k = 70 ∧ j = 23) ∧ ¬ (k = 70 ∧ j = 25) ∧ ¬ (k = 70 ∧ j = 26) ∧ k ≠ 74 ∧ k ≠ 76
theorem fr_MO_fail_22 {k j : Nat} (hW : W_MO_fail k j) (fl : Nat) : ∀ {μ : Mu} {μz : Mu}, f_MO_fail_22 fl μ = some (μz) → μz k j = μ k j := by
  induction fl with
  | zero => intro _ _ h; cases h
  | succ f ih =>
    intro μ μz h
    unfold f_MO_fail_22 at h
    obtain ⟨v2, -, h⟩ := b1_e h
    by_cases c4 : (μ 70 23) ≤ v2
    · rw [if_pos c4] at h
      have h9 := Option.some.inj h
      subst h9
      exact rfl
    · rw [if_neg c4] at h
      obtain ⟨v5, -, h⟩ := b1_e h
      obtain ⟨μ7, e8, h⟩ := b1_e h
      have q9 : μ7 k j = μ k j := (wr_f e8 (hW.2.2.2.2.2.2.2)).trans ((sI_f (hW.2.2.2.1)).trans rfl)
      exact (ih h).trans q9
theorem fr_MO_fail_68 {k j : Nat} (hW : W_MO_fail k j) (fl : Nat) : ∀ {y1 : Int32} {μ : Mu} {μz : Mu}, f_MO_fail_68 fl y1 μ = some (μz) → μz k j = μ k j := by
  induction fl with
  | zero => intro _ _ _ h; cases h
  | succ f ih =>
    intro y1 μ μz h
    unfold f_MO_fail_68 at h
    by_cases c14 : 240 ≤ y1
    · rw [if_pos c14] at h
      have h9 := Option.some.inj h
      subst h9
      exact rfl
    · rw [if_neg c14] at h
      obtain ⟨v15, -, h⟩ := b1_e h
      obtain ⟨v17, -, h⟩ := b1_e h
      obtain ⟨v19, -, h⟩ := b1_e h
      obtain ⟨μ25, e26, h⟩ := b1_e h
      have q27 : μ25 k j = μ k j := (wr_f e26 (hW.2.2.2.2.2.2.1)).trans rfl
      exact (ih h).trans q27
theorem fr_MO_fail {k j : Nat} {μ : Mu} {μr : Mu} (h : f_MO_fail μ = some (μr)) (hW : W_MO_fail k j) : μr k j = μ k j := by
  unfold f_MO_fail at h
  by_cases c1 : ¬ (μ 70 18) = 0
  · rw [if_pos c1] at h
    obtain ⟨μ10, e11, h⟩ := b1_e h
    have q13 : μ10 k j = μ k j := (fr_MO_fail_22 hW _ e11).trans ((sI_f (hW.2.2.1)).trans rfl)
    obtain ⟨μ28, e29, h⟩ := b1_e h
    have q31 : μ28 k j = μ k j := (fr_MO_fail_68 hW _ e29).trans q13
    obtain ⟨v32, -, h⟩ := b1_e h
    obtain ⟨v34, -, h⟩ := b1_e h
    have h9 := Option.some.inj h
    subst h9
    exact ((sI_f (hW.2.1)).trans ((sI_f (hW.1)).trans q31))
  · rw [if_neg c1] at h
    obtain ⟨μ37, e36, h⟩ := b1_e h
    have q38 : μ37 k j = μ k j := (fr_MO_end e36 ⟨(hW.1), (hW.2.2.1), (hW.2.2.2.1), (hW.2.2.2.2.1), (hW.2.2.2.2.2.1), (hW.2.2.2.2.2.2.1)⟩).trans rfl
    have h9 := Option.some.inj h
    subst h9
    exact q38
def W_MO_attempt (k j : Nat) : Prop := ¬ (k = 70 ∧ j = 12) ∧ ¬ (k = 70 ∧ j = 13) ∧ ¬ (k = 70 ∧ j = 16) ∧ ¬ (k = 70 ∧ j = 18) ∧ ¬ (k = 70 ∧ j = 23) ∧ ¬ (k = 70 ∧ j = 28) ∧ ¬ (k = 70 ∧ j = 30) ∧ ¬ (k = 70 ∧ j = 34) ∧ ¬ (k = 70 ∧ j = 35) ∧ ¬ (k = 70 ∧ j = 40) ∧ ¬ (k = 70 ∧ j = 41) ∧ ¬ (k = 70 ∧ j = 43) ∧ ¬ (k = 70 ∧ j = 46) ∧ ¬ (k = 70 ∧ j = 49) ∧ k ≠ 74 ∧ k ≠ 75 ∧ k ≠ 76 ∧ k ≠ 77 ∧ k ≠ 78 ∧ k ≠ 79 ∧ k ≠ 80 ∧ k ≠ 81 ∧ k ≠ 82 ∧ k ≠ 83 ∧ k ≠ 84 ∧ k ≠ 85 ∧ k ≠ 86 ∧ k ≠ 88 ∧ k ≠ 89 ∧ k ≠ 90 ∧ k ≠ 93 ∧ k ≠ 94 ∧ k ≠ 95 ∧ k ≠ 96 ∧ k ≠ 97
theorem fr_MO_attempt_203 {k5 : Int32} {k j : Nat} (hW : W_MO_attempt k j) (fl : Nat) : ∀ {y8 : Int32} {μ : Mu} {μz : Mu}, f_MO_attempt_203 k5 fl y8 μ = some (μz) → μz k j = μ k j := by
  induction fl with
  | zero => intro _ _ _ h; cases h
  | succ f ih =>
    intro y8 μ μz h
    unfold f_MO_attempt_203 at h
    by_cases c56 : y8 ≤ 0
    · rw [if_pos c56] at h
      have h9 := Option.some.inj h
      subst h9
      exact rfl
    · rw [if_neg c56] at h
      by_cases c57 : ¬ (μ 70 49) = 0
      · rw [if_pos c57] at h
        have h9 := Option.some.inj h
        subst h9
        exact rfl
      · rw [if_neg c57] at h
        obtain ⟨v58, -, h⟩ := b1_e h
        obtain ⟨v60, -, h⟩ := b1_e h
        obtain ⟨v63, μ64, e62, h⟩ := b2_e h
        have q65 : μ64 k j = μ k j := (fr_MO_link e62 ⟨(hW.2.1), (hW.2.2.2.2.2.2.2.2.2.2.2.2.2.2.2.2.2.2.2.2.1), (hW.2.2.2.2.2.2.2.2.2.2.2.2.2.2.2.2.2.2.2.2.2.1)⟩).trans rfl
        exact (ih h).trans ((sI_f (hW.2.2.1)).trans q65)
theorem fr_MO_attempt {x0 : Int32} {x1 : Int32} {k j : Nat} {μ : Mu} {μr : Mu} (h : f_MO_attempt x0 x1 μ = some (μr)) (hW : W_MO_attempt k j) : μr k j = μ k j := by
  unfold f_MO_attempt at h
  obtain ⟨v2, -, h⟩ := b1_e h
  obtain ⟨v4, -, h⟩ := b1_e h
  obtain ⟨v6, -, h⟩ := b1_e h
  obtain ⟨v8, -, h⟩ := b1_e h
  obtain ⟨μ9, e10, h⟩ := b1_e h
  have q25 : μ9 k j = μ k j := by
    clear h
    have h := e10
    clear e10
    by_cases c12 : v8 < 0
    · rw [if_pos c12] at h
      have h9 := Option.some.inj h
      subst h9
      exact rfl
    · rw [if_neg c12] at h
      obtain ⟨μ13, e14, h⟩ := b1_e h
      have q15 : μ13 k j = μ k j := (wr_f e14 (hW.2.2.2.2.2.2.2.2.2.2.2.2.2.2.2.2.2.2.2.2.2.2.1)).trans rfl
      obtain ⟨μ16, e17, h⟩ := b1_e h
      have q18 : μ16 k j = μ k j := (wr_f e17 (hW.2.2.2.2.2.2.2.2.2.2.2.2.2.2.2.2.2.2.2.2.2.2.2.1)).trans q15
      obtain ⟨μ19, e20, h⟩ := b1_e h
      have q21 : μ19 k j = μ k j := (wr_f e20 (hW.2.2.2.2.2.2.2.2.2.2.2.2.2.2.2.2.2.2.2.2.2.2.2.2.1)).trans q18
      obtain ⟨μ22, e23, h⟩ := b1_e h
      have q24 : μ22 k j = μ k j := (wr_f e23 (hW.2.2.2.2.2.2.2.2.2.2.2.2.2.2.2.2.2.2.2.2.2.2.2.2.2.1)).trans q21
      have h9 := Option.some.inj h
      subst h9
      exact ((sI_f (hW.2.2.2.1)).trans q24)
  obtain ⟨v26, -, h⟩ := b1_e h
  obtain ⟨v29, -, h⟩ := b1_e h
  obtain ⟨v31, -, h⟩ := b1_e h
  obtain ⟨μ32, e33, h⟩ := b1_e h
  have q40 : μ32 k j = μ k j := by
    clear h
    have h := e33
    clear e33
    by_cases c35 : (v31 + v29) ≤ 240
    · rw [if_pos c35] at h
      have h9 := Option.some.inj h
      subst h9
      exact q25
    · rw [if_neg c35] at h
      obtain ⟨v37, μ38, e36, h⟩ := b2_e h
      have q39 : μ38 k j = μ k j := (fr_MO_free e36 ⟨(hW.2.2.2.2.2.1), (hW.2.2.2.2.2.2.1), (hW.2.2.2.2.2.2.2.1), (hW.2.2.2.2.2.2.2.2.2.2.2.2.2.2.1), (hW.2.2.2.2.2.2.2.2.2.2.2.2.2.2.2.2.2.2.2.2.2.2.2.2.2.2.2.1), (hW.2.2.2.2.2.2.2.2.2.2.2.2.2.2.2.2.2.2.2.2.2.2.2.2.2.2.2.2.1), (hW.2.2.2.2.2.2.2.2.2.2.2.2.2.2.2.2.2.2.2.2.2.2.2.2.2.2.2.2.2.1)⟩).trans q25
      have h9 := Option.some.inj h
      subst h9
      exact q39
  obtain ⟨v42, -, h⟩ := b1_e h
  by_cases c43 : (v42 + v29) ≤ 240
  · rw [if_pos c43] at h
    obtain ⟨v44, -, h⟩ := b1_e h
    obtain ⟨μ47, e46, h⟩ := b1_e h
    have q48 : μ47 k j = μ k j := (fr_MO_copy e46 ⟨(hW.1), (hW.2.2.2.2.2.2.2.2.2.1), (hW.2.2.2.2.2.2.2.2.2.2.1), (hW.2.2.2.2.2.2.2.2.2.2.2.1), (hW.2.2.2.2.2.2.2.2.2.2.2.2.1), (hW.2.2.2.2.2.2.2.2.2.2.2.2.2.2.1), (hW.2.2.2.2.2.2.2.2.2.2.2.2.2.2.2.1), (hW.2.2.2.2.2.2.2.2.2.2.2.2.2.2.2.2.1), (hW.2.2.2.2.2.2.2.2.2.2.2.2.2.2.2.2.2.1), (hW.2.2.2.2.2.2.2.2.2.2.2.2.2.2.2.2.2.2.1), (hW.2.2.2.2.2.2.2.2.2.2.2.2.2.2.2.2.2.2.2.1), (hW.2.2.2.2.2.2.2.2.2.2.2.2.2.2.2.2.2.2.2.2.2.2.2.2.2.2.2.2.2.2.1), (hW.2.2.2.2.2.2.2.2.2.2.2.2.2.2.2.2.2.2.2.2.2.2.2.2.2.2.2.2.2.2.2.1), (hW.2.2.2.2.2.2.2.2.2.2.2.2.2.2.2.2.2.2.2.2.2.2.2.2.2.2.2.2.2.2.2.2.1), (hW.2.2.2.2.2.2.2.2.2.2.2.2.2.2.2.2.2.2.2.2.2.2.2.2.2.2.2.2.2.2.2.2.2.1), (hW.2.2.2.2.2.2.2.2.2.2.2.2.2.2.2.2.2.2.2.2.2.2.2.2.2.2.2.2.2.2.2.2.2.2)⟩).trans q40
    obtain ⟨v49, -, h⟩ := b1_e h
    obtain ⟨v51, -, h⟩ := b1_e h
    obtain ⟨μ54, e53, h⟩ := b1_e h
    have q55 : μ54 k j = μ k j := (fr_MO_unify e53 ⟨(hW.2.2.2.2.1), (hW.2.2.2.2.2.2.1), (hW.2.2.2.2.2.2.2.1), (hW.2.2.2.2.2.2.2.2.1), (hW.2.2.2.2.2.2.2.2.2.1), (hW.2.2.2.2.2.2.2.2.2.2.1), (hW.2.2.2.2.2.2.2.2.2.2.2.2.2.1), (hW.2.2.2.2.2.2.2.2.2.2.2.2.2.2.2.2.1), (hW.2.2.2.2.2.2.2.2.2.2.2.2.2.2.2.2.2.1), (hW.2.2.2.2.2.2.2.2.2.2.2.2.2.2.2.2.2.2.2.2.2.2.2.2.2.2.1), (hW.2.2.2.2.2.2.2.2.2.2.2.2.2.2.2.2.2.2.2.2.2.2.2.2.2.2.2.1), (hW.2.2.2.2.2.2.2.2.2.2.2.2.2.2.2.2.2.2.2.2.2.2.2.2.2.2.2.2.1), (hW.2.2.2.2.2.2.2.2.2.2.2.2.2.2.2.2.2.2.2.2.2.2.2.2.2.2.2.2.2.1)⟩).trans q48
    obtain ⟨μ66, e67, h⟩ := b1_e h
    have q69 : μ66 k j = μ k j := (fr_MO_attempt_203 hW _ e67).trans q55
    have h9 := Option.some.inj h
    subst h9
    exact q69
  · rw [if_neg c43] at h
    have h9 := Option.some.inj h
    subst h9
    exact ((sI_f (hW.2.2.2.2.2.2.2.2.2.2.2.2.2.1)).trans q40)
def W_MO_known (k j : Nat) : Prop := ¬ (k = 70 ∧ j = 23) ∧ ¬ (k = 70 ∧ j = 30) ∧ ¬ (k = 70 ∧ j = 34) ∧ ¬ (k = 70 ∧ j = 35) ∧ ¬ (k = 70 ∧ j = 36) ∧ ¬ (k = 70 ∧ j = 40) ∧ ¬ (k = 70 ∧ j = 41) ∧ ¬ (k = 70 ∧ j = 49) ∧ k ≠ 76 ∧ k ≠ 77 ∧ k ≠ 86 ∧ k ≠ 88 ∧ k ≠ 89 ∧ k ≠ 90 ∧ k ≠ 91
theorem fr_MO_known {x0 : Int32} {x1 : Int32} {k j : Nat} {μ : Mu} {μr : Mu} (h : f_MO_known x0 x1 μ = some (μr)) (hW : W_MO_known k j) : μr k j = μ k j := by
  unfold f_MO_known at h
  obtain ⟨v2, -, h⟩ := b1_e h
  obtain ⟨v4, -, h⟩ := b1_e h
  obtain ⟨v6, -, h⟩ := b1_e h
  obtain ⟨v8, -, h⟩ := b1_e h
  by_cases c9 : ¬ x0 = 24
  · rw [if_pos c9] at h
    obtain ⟨v10, μ11, e12, h⟩ := b2_e h
    have q19 : μ11 k j = μ k j := by
      clear h
      have h := e12
      clear e12
      by_cases c14 : ¬ x0 = 25
      · rw [if_pos c14] at h
        obtain ⟨v16, μ17, e15, h⟩ := b2_e h
        have q18 : μ17 k j = μ k j := (fr_MO_calculate e15 ⟨(hW.2.1), (hW.2.2.2.2.1), (hW.2.2.2.2.2.1), (hW.2.2.2.2.2.2.1), (hW.2.2.2.2.2.2.2.1), (hW.2.2.2.2.2.2.2.2.2.2.2.1), (hW.2.2.2.2.2.2.2.2.2.2.2.2.1), (hW.2.2.2.2.2.2.2.2.2.2.2.2.2.2)⟩).trans rfl
        have j0 := Option.some.inj h
        obtain ⟨i1, j1⟩ := Prod.mk.inj j0
        subst i1
        subst j1
        exact q18
      · rw [if_neg c14] at h
        have j0 := Option.some.inj h
        obtain ⟨i1, j1⟩ := Prod.mk.inj j0
        subst i1
        subst j1
        exact rfl
    obtain ⟨v20, μ21, e22, h⟩ := b2_e h
    have q34 : μ21 k j = μ k j := by
      clear h
      have h := e22
      clear e22
      by_cases c24 : x0 = 25
      · rw [if_pos c24] at h
        obtain ⟨v26, μ27, e25, h⟩ := b2_e h
        have q28 : μ27 k j = μ k j := (fr_MO_calculate e25 ⟨(hW.2.1), (hW.2.2.2.2.1), (hW.2.2.2.2.2.1), (hW.2.2.2.2.2.2.1), (hW.2.2.2.2.2.2.2.1), (hW.2.2.2.2.2.2.2.2.2.2.2.1), (hW.2.2.2.2.2.2.2.2.2.2.2.2.1), (hW.2.2.2.2.2.2.2.2.2.2.2.2.2.2)⟩).trans q19
        have j0 := Option.some.inj h
        obtain ⟨i1, j1⟩ := Prod.mk.inj j0
        subst i1
        subst j1
        exact q28
      · rw [if_neg c24] at h
        by_cases c29 : ¬ (μ11 70 49) = 0
        · rw [if_pos c29] at h
          have j0 := Option.some.inj h
          obtain ⟨i1, j1⟩ := Prod.mk.inj j0
          subst i1
          subst j1
          exact q19
        · rw [if_neg c29] at h
          obtain ⟨v31, μ32, e30, h⟩ := b2_e h
          have q33 : μ32 k j = μ k j := (fr_MO_calculate e30 ⟨(hW.2.1), (hW.2.2.2.2.1), (hW.2.2.2.2.2.1), (hW.2.2.2.2.2.2.1), (hW.2.2.2.2.2.2.2.1), (hW.2.2.2.2.2.2.2.2.2.2.2.1), (hW.2.2.2.2.2.2.2.2.2.2.2.2.1), (hW.2.2.2.2.2.2.2.2.2.2.2.2.2.2)⟩).trans q19
          have j0 := Option.some.inj h
          obtain ⟨i1, j1⟩ := Prod.mk.inj j0
          subst i1
          subst j1
          exact q33
    by_cases c35 : (μ21 70 49) = 0
    · rw [if_pos c35] at h
      by_cases c36 : ¬ x0 = 25
      · rw [if_pos c36] at h
        obtain ⟨v37, -, h⟩ := b1_e h
        have h9 := Option.some.inj h
        subst h9
        exact ((sI_f (hW.2.2.2.2.2.2.2.1)).trans q34)
      · rw [if_neg c36] at h
        obtain ⟨μ44, e43, h⟩ := b1_e h
        have q45 : μ44 k j = μ k j := (fr_MO_unify e43 ⟨(hW.1), (hW.2.1), (hW.2.2.1), (hW.2.2.2.1), (hW.2.2.2.2.2.1), (hW.2.2.2.2.2.2.1), (hW.2.2.2.2.2.2.2.1), (hW.2.2.2.2.2.2.2.2.1), (hW.2.2.2.2.2.2.2.2.2.1), (hW.2.2.2.2.2.2.2.2.2.2.1), (hW.2.2.2.2.2.2.2.2.2.2.2.1), (hW.2.2.2.2.2.2.2.2.2.2.2.2.1), (hW.2.2.2.2.2.2.2.2.2.2.2.2.2.1)⟩).trans q34
        have h9 := Option.some.inj h
        subst h9
        exact q45
    · rw [if_neg c35] at h
      have h9 := Option.some.inj h
      subst h9
      exact q34
  · rw [if_neg c9] at h
    obtain ⟨μ47, e46, h⟩ := b1_e h
    have q48 : μ47 k j = μ k j := (fr_MO_unify e46 ⟨(hW.1), (hW.2.1), (hW.2.2.1), (hW.2.2.2.1), (hW.2.2.2.2.2.1), (hW.2.2.2.2.2.2.1), (hW.2.2.2.2.2.2.2.1), (hW.2.2.2.2.2.2.2.2.1), (hW.2.2.2.2.2.2.2.2.2.1), (hW.2.2.2.2.2.2.2.2.2.2.1), (hW.2.2.2.2.2.2.2.2.2.2.2.1), (hW.2.2.2.2.2.2.2.2.2.2.2.2.1), (hW.2.2.2.2.2.2.2.2.2.2.2.2.2.1)⟩).trans rfl
    have h9 := Option.some.inj h
    subst h9
    exact q48
def W_MO_step (k j : Nat) : Prop := ¬ (k = 70 ∧ j = 0) ∧ ¬ (k = 70 ∧ j = 12) ∧ ¬ (k = 70 ∧ j = 13) ∧ ¬ (k = 70 ∧ j = 16) ∧ ¬ (k = 70 ∧ j = 17) ∧ ¬ (k = 70 ∧ j = 18) ∧ ¬ (k = 70 ∧ j = 23) ∧ ¬ (k = 70 ∧ j = 25) ∧ ¬ (k = 70 ∧ j = 26) ∧ ¬ (k = 70 ∧ j = 27) ∧ ¬ (k = 70 ∧ j = 28) ∧ ¬ (k = 70 ∧ j = 30) ∧ ¬ (k = 70 ∧ j = 34) ∧ ¬ (k = 70 ∧ j = 35) ∧ ¬ (k = 70 ∧ j = 36) ∧ ¬ (k = 70 ∧ j = 40) ∧ ¬ (k = 70 ∧ j = 41) ∧ ¬ (k = 70 ∧ j = 43) ∧ ¬ (k = 70 ∧ j = 46) ∧ ¬ (k = 70 ∧ j = 49) ∧ k ≠ 74 ∧ k ≠ 75 ∧ k ≠ 76 ∧ k ≠ 77 ∧ k ≠ 78 ∧ k ≠ 79 ∧ k ≠ 80 ∧ k ≠ 81 ∧ k ≠ 82 ∧ k ≠ 83 ∧ k ≠ 84 ∧ k ≠ 85 ∧ k ≠ 86 ∧ k ≠ 88 ∧ k ≠ 89 ∧ k ≠ 90 ∧ k ≠ 91 ∧ k ≠ 93 ∧ k ≠ 94 ∧ k ≠ 95 ∧ k ≠ 96 ∧ k ≠ 97
theorem fr_MO_step {k j : Nat} {μ : Mu} {μr : Mu} (h : f_MO_step μ = some (μr)) (hW : W_MO_step k j) : μr k j = μ k j := by
  unfold f_MO_step at h
  obtain ⟨v2, -, h⟩ := b1_e h
  obtain ⟨v4, -, h⟩ := b1_e h
  obtain ⟨v5, -, h⟩ := b1_e h
  obtain ⟨v7, -, h⟩ := b1_e h
  obtain ⟨μ18, e19, h⟩ := b1_e h
  have q61 : μ18 k j = μ k j := by
    clear h
    have h := e19
    clear e19
    by_cases c21 : (μ 70 17) < 0
    · rw [if_pos c21] at h
      by_cases c22 : ¬ v2 = 6
      · rw [if_pos c22] at h
        by_cases c23 : v7 ≤ 23
        · rw [if_pos c23] at h
          obtain ⟨v25, -, h⟩ := b1_e h
          obtain ⟨v27, -, h⟩ := b1_e h
          obtain ⟨v28, -, h⟩ := b1_e h
          by_cases c32 : v27 < 0
          · rw [if_pos c32] at h
            have h9 := Option.some.inj h
            subst h9
            exact ((sI_f (hW.2.2.2.2.2.2.2.2.2.2.2.2.2.2.2.2.2.2.2.1)).trans ((sI_f (hW.2.2.2.2.1)).trans ((sI_f (hW.2.2.2.1)).trans ((sI_f (hW.2.2.2.2.2.2.2.2.2.2.2.2.2.2.2.2.2.2.2.1)).trans ((sI_f (hW.2.2.2.2.2.2.2.2.2.1)).trans rfl)))))
          · rw [if_neg c32] at h
            obtain ⟨μ34, e33, h⟩ := b1_e h
            have q35 : μ34 k j = μ k j := (fr_MO_attempt e33 ⟨(hW.2.1), (hW.2.2.1), (hW.2.2.2.1), (hW.2.2.2.2.2.1), (hW.2.2.2.2.2.2.1), (hW.2.2.2.2.2.2.2.2.2.2.1), (hW.2.2.2.2.2.2.2.2.2.2.2.1), (hW.2.2.2.2.2.2.2.2.2.2.2.2.1), (hW.2.2.2.2.2.2.2.2.2.2.2.2.2.1), (hW.2.2.2.2.2.2.2.2.2.2.2.2.2.2.2.1), (hW.2.2.2.2.2.2.2.2.2.2.2.2.2.2.2.2.1), (hW.2.2.2.2.2.2.2.2.2.2.2.2.2.2.2.2.2.1), (hW.2.2.2.2.2.2.2.2.2.2.2.2.2.2.2.2.2.2.1), (hW.2.2.2.2.2.2.2.2.2.2.2.2.2.2.2.2.2.2.2.1), (hW.2.2.2.2.2.2.2.2.2.2.2.2.2.2.2.2.2.2.2.2.1), (hW.2.2.2.2.2.2.2.2.2.2.2.2.2.2.2.2.2.2.2.2.2.1), (hW.2.2.2.2.2.2.2.2.2.2.2.2.2.2.2.2.2.2.2.2.2.2.1), (hW.2.2.2.2.2.2.2.2.2.2.2.2.2.2.2.2.2.2.2.2.2.2.2.1), (hW.2.2.2.2.2.2.2.2.2.2.2.2.2.2.2.2.2.2.2.2.2.2.2.2.1), (hW.2.2.2.2.2.2.2.2.2.2.2.2.2.2.2.2.2.2.2.2.2.2.2.2.2.1), (hW.2.2.2.2.2.2.2.2.2.2.2.2.2.2.2.2.2.2.2.2.2.2.2.2.2.2.1), (hW.2.2.2.2.2.2.2.2.2.2.2.2.2.2.2.2.2.2.2.2.2.2.2.2.2.2.2.1), (hW.2.2.2.2.2.2.2.2.2.2.2.2.2.2.2.2.2.2.2.2.2.2.2.2.2.2.2.2.1), (hW.2.2.2.2.2.2.2.2.2.2.2.2.2.2.2.2.2.2.2.2.2.2.2.2.2.2.2.2.2.1), (hW.2.2.2.2.2.2.2.2.2.2.2.2.2.2.2.2.2.2.2.2.2.2.2.2.2.2.2.2.2.2.1), (hW.2.2.2.2.2.2.2.2.2.2.2.2.2.2.2.2.2.2.2.2.2.2.2.2.2.2.2.2.2.2.2.1), (hW.2.2.2.2.2.2.2.2.2.2.2.2.2.2.2.2.2.2.2.2.2.2.2.2.2.2.2.2.2.2.2.2.1), (hW.2.2.2.2.2.2.2.2.2.2.2.2.2.2.2.2.2.2.2.2.2.2.2.2.2.2.2.2.2.2.2.2.2.1), (hW.2.2.2.2.2.2.2.2.2.2.2.2.2.2.2.2.2.2.2.2.2.2.2.2.2.2.2.2.2.2.2.2.2.2.1), (hW.2.2.2.2.2.2.2.2.2.2.2.2.2.2.2.2.2.2.2.2.2.2.2.2.2.2.2.2.2.2.2.2.2.2.2.1), (hW.2.2.2.2.2.2.2.2.2.2.2.2.2.2.2.2.2.2.2.2.2.2.2.2.2.2.2.2.2.2.2.2.2.2.2.2.2.1), (hW.2.2.2.2.2.2.2.2.2.2.2.2.2.2.2.2.2.2.2.2.2.2.2.2.2.2.2.2.2.2.2.2.2.2.2.2.2.2.1), (hW.2.2.2.2.2.2.2.2.2.2.2.2.2.2.2.2.2.2.2.2.2.2.2.2.2.2.2.2.2.2.2.2.2.2.2.2.2.2.2.1), (hW.2.2.2.2.2.2.2.2.2.2.2.2.2.2.2.2.2.2.2.2.2.2.2.2.2.2.2.2.2.2.2.2.2.2.2.2.2.2.2.2.1), (hW.2.2.2.2.2.2.2.2.2.2.2.2.2.2.2.2.2.2.2.2.2.2.2.2.2.2.2.2.2.2.2.2.2.2.2.2.2.2.2.2.2)⟩).trans ((sI_f (hW.2.2.2.2.2.2.2.2.2.2.2.2.2.2.2.2.2.2.2.1)).trans ((sI_f (hW.2.2.2.2.1)).trans ((sI_f (hW.2.2.2.1)).trans ((sI_f (hW.2.2.2.2.2.2.2.2.2.2.2.2.2.2.2.2.2.2.2.1)).trans ((sI_f (hW.2.2.2.2.2.2.2.2.2.1)).trans rfl)))))
            have h9 := Option.some.inj h
            subst h9
            exact q35
        · rw [if_neg c23] at h
          by_cases c36 : 28 ≤ v7
          · rw [if_pos c36] at h
            obtain ⟨v38, -, h⟩ := b1_e h
            obtain ⟨v40, -, h⟩ := b1_e h
            obtain ⟨v41, -, h⟩ := b1_e h
            by_cases c45 : v40 < 0
            · rw [if_pos c45] at h
              have h9 := Option.some.inj h
              subst h9
              exact ((sI_f (hW.2.2.2.2.2.2.2.2.2.2.2.2.2.2.2.2.2.2.2.1)).trans ((sI_f (hW.2.2.2.2.1)).trans ((sI_f (hW.2.2.2.1)).trans ((sI_f (hW.2.2.2.2.2.2.2.2.2.2.2.2.2.2.2.2.2.2.2.1)).trans ((sI_f (hW.2.2.2.2.2.2.2.2.2.1)).trans rfl)))))
            · rw [if_neg c45] at h
              obtain ⟨μ47, e46, h⟩ := b1_e h
              have q48 : μ47 k j = μ k j := (fr_MO_attempt e46 ⟨(hW.2.1), (hW.2.2.1), (hW.2.2.2.1), (hW.2.2.2.2.2.1), (hW.2.2.2.2.2.2.1), (hW.2.2.2.2.2.2.2.2.2.2.1), (hW.2.2.2.2.2.2.2.2.2.2.2.1), (hW.2.2.2.2.2.2.2.2.2.2.2.2.1), (hW.2.2.2.2.2.2.2.2.2.2.2.2.2.1), (hW.2.2.2.2.2.2.2.2.2.2.2.2.2.2.2.1), (hW.2.2.2.2.2.2.2.2.2.2.2.2.2.2.2.2.1), (hW.2.2.2.2.2.2.2.2.2.2.2.2.2.2.2.2.2.1), (hW.2.2.2.2.2.2.2.2.2.2.2.2.2.2.2.2.2.2.1), (hW.2.2.2.2.2.2.2.2.2.2.2.2.2.2.2.2.2.2.2.1), (hW.2.2.2.2.2.2.2.2.2.2.2.2.2.2.2.2.2.2.2.2.1), (hW.2.2.2.2.2.2.2.2.2.2.2.2.2.2.2.2.2.2.2.2.2.1), (hW.2.2.2.2.2.2.2.2.2.2.2.2.2.2.2.2.2.2.2.2.2.2.1), (hW.2.2.2.2.2.2.2.2.2.2.2.2.2.2.2.2.2.2.2.2.2.2.2.1), (hW.2.2.2.2.2.2.2.2.2.2.2.2.2.2.2.2.2.2.2.2.2.2.2.2.1), (hW.2.2.2.2.2.2.2.2.2.2.2.2.2.2.2.2.2.2.2.2.2.2.2.2.2.1), (hW.2.2.2.2.2.2.2.2.2.2.2.2.2.2.2.2.2.2.2.2.2.2.2.2.2.2.1), (hW.2.2.2.2.2.2.2.2.2.2.2.2.2.2.2.2.2.2.2.2.2.2.2.2.2.2.2.1), (hW.2.2.2.2.2.2.2.2.2.2.2.2.2.2.2.2.2.2.2.2.2.2.2.2.2.2.2.2.1), (hW.2.2.2.2.2.2.2.2.2.2.2.2.2.2.2.2.2.2.2.2.2.2.2.2.2.2.2.2.2.1), (hW.2.2.2.2.2.2.2.2.2.2.2.2.2.2.2.2.2.2.2.2.2.2.2.2.2.2.2.2.2.2.1), (hW.2.2.2.2.2.2.2.2.2.2.2.2.2.2.2.2.2.2.2.2.2.2.2.2.2.2.2.2.2.2.2.1), (hW.2.2.2.2.2.2.2.2.2.2.2.2.2.2.2.2.2.2.2.2.2.2.2.2.2.2.2.2.2.2.2.2.1), (hW.2.2.2.2.2.2.2.2.2.2.2.2.2.2.2.2.2.2.2.2.2.2.2.2.2.2.2.2.2.2.2.2.2.1), (hW.2.2.2.2.2.2.2.2.2.2.2.2.2.2.2.2.2.2.2.2.2.2.2.2.2.2.2.2.2.2.2.2.2.2.1), (hW.2.2.2.2.2.2.2.2.2.2.2.2.2.2.2.2.2.2.2.2.2.2.2.2.2.2.2.2.2.2.2.2.2.2.2.1), (hW.2.2.2.2.2.2.2.2.2.2.2.2.2.2.2.2.2.2.2.2.2.2.2.2.2.2.2.2.2.2.2.2.2.2.2.2.2.1), (hW.2.2.2.2.2.2.2.2.2.2.2.2.2.2.2.2.2.2.2.2.2.2.2.2.2.2.2.2.2.2.2.2.2.2.2.2.2.2.1), (hW.2.2.2.2.2.2.2.2.2.2.2.2.2.2.2.2.2.2.2.2.2.2.2.2.2.2.2.2.2.2.2.2.2.2.2.2.2.2.2.1), (hW.2.2.2.2.2.2.2.2.2.2.2.2.2.2.2.2.2.2.2.2.2.2.2.2.2.2.2.2.2.2.2.2.2.2.2.2.2.2.2.2.1), (hW.2.2.2.2.2.2.2.2.2.2.2.2.2.2.2.2.2.2.2.2.2.2.2.2.2.2.2.2.2.2.2.2.2.2.2.2.2.2.2.2.2)⟩).trans ((sI_f (hW.2.2.2.2.2.2.2.2.2.2.2.2.2.2.2.2.2.2.2.1)).trans ((sI_f (hW.2.2.2.2.1)).trans ((sI_f (hW.2.2.2.1)).trans ((sI_f (hW.2.2.2.2.2.2.2.2.2.2.2.2.2.2.2.2.2.2.2.1)).trans ((sI_f (hW.2.2.2.2.2.2.2.2.2.1)).trans rfl)))))
              have h9 := Option.some.inj h
              subst h9
              exact q48
          · rw [if_neg c36] at h
            obtain ⟨μ50, e49, h⟩ := b1_e h
            have q51 : μ50 k j = μ k j := (fr_MO_known e49 ⟨(hW.2.2.2.2.2.2.1), (hW.2.2.2.2.2.2.2.2.2.2.2.1), (hW.2.2.2.2.2.2.2.2.2.2.2.2.1), (hW.2.2.2.2.2.2.2.2.2.2.2.2.2.1), (hW.2.2.2.2.2.2.2.2.2.2.2.2.2.2.1), (hW.2.2.2.2.2.2.2.2.2.2.2.2.2.2.2.1), (hW.2.2.2.2.2.2.2.2.2.2.2.2.2.2.2.2.1), (hW.2.2.2.2.2.2.2.2.2.2.2.2.2.2.2.2.2.2.2.1), (hW.2.2.2.2.2.2.2.2.2.2.2.2.2.2.2.2.2.2.2.2.2.2.1), (hW.2.2.2.2.2.2.2.2.2.2.2.2.2.2.2.2.2.2.2.2.2.2.2.1), (hW.2.2.2.2.2.2.2.2.2.2.2.2.2.2.2.2.2.2.2.2.2.2.2.2.2.2.2.2.2.2.2.2.1), (hW.2.2.2.2.2.2.2.2.2.2.2.2.2.2.2.2.2.2.2.2.2.2.2.2.2.2.2.2.2.2.2.2.2.1), (hW.2.2.2.2.2.2.2.2.2.2.2.2.2.2.2.2.2.2.2.2.2.2.2.2.2.2.2.2.2.2.2.2.2.2.1), (hW.2.2.2.2.2.2.2.2.2.2.2.2.2.2.2.2.2.2.2.2.2.2.2.2.2.2.2.2.2.2.2.2.2.2.2.1), (hW.2.2.2.2.2.2.2.2.2.2.2.2.2.2.2.2.2.2.2.2.2.2.2.2.2.2.2.2.2.2.2.2.2.2.2.2.1)⟩).trans ((sI_f (hW.2.2.2.2.1)).trans ((sI_f (hW.2.2.2.1)).trans ((sI_f (hW.2.2.2.2.2.2.2.2.2.2.2.2.2.2.2.2.2.2.2.1)).trans ((sI_f (hW.2.2.2.2.2.2.2.2.2.1)).trans rfl))))
            have h9 := Option.some.inj h
            subst h9
            exact q51
      · rw [if_neg c22] at h
        obtain ⟨v52, -, h⟩ := b1_e h
        obtain ⟨v54, -, h⟩ := b1_e h
        have h9 := Option.some.inj h
        subst h9
        exact ((sI_f (hW.2.2.2.2.2.1)).trans ((sI_f (hW.2.2.2.2.1)).trans ((sI_f (hW.2.2.2.1)).trans ((sI_f (hW.2.2.2.2.2.2.2.2.2.2.2.2.2.2.2.2.2.2.2.1)).trans ((sI_f (hW.2.2.2.2.2.2.2.2.2.1)).trans rfl)))))
    · rw [if_neg c21] at h
      obtain ⟨μ59, e58, h⟩ := b1_e h
      have q60 : μ59 k j = μ k j := (fr_MO_attempt e58 ⟨(hW.2.1), (hW.2.2.1), (hW.2.2.2.1), (hW.2.2.2.2.2.1), (hW.2.2.2.2.2.2.1), (hW.2.2.2.2.2.2.2.2.2.2.1), (hW.2.2.2.2.2.2.2.2.2.2.2.1), (hW.2.2.2.2.2.2.2.2.2.2.2.2.1), (hW.2.2.2.2.2.2.2.2.2.2.2.2.2.1), (hW.2.2.2.2.2.2.2.2.2.2.2.2.2.2.2.1), (hW.2.2.2.2.2.2.2.2.2.2.2.2.2.2.2.2.1), (hW.2.2.2.2.2.2.2.2.2.2.2.2.2.2.2.2.2.1), (hW.2.2.2.2.2.2.2.2.2.2.2.2.2.2.2.2.2.2.1), (hW.2.2.2.2.2.2.2.2.2.2.2.2.2.2.2.2.2.2.2.1), (hW.2.2.2.2.2.2.2.2.2.2.2.2.2.2.2.2.2.2.2.2.1), (hW.2.2.2.2.2.2.2.2.2.2.2.2.2.2.2.2.2.2.2.2.2.1), (hW.2.2.2.2.2.2.2.2.2.2.2.2.2.2.2.2.2.2.2.2.2.2.1), (hW.2.2.2.2.2.2.2.2.2.2.2.2.2.2.2.2.2.2.2.2.2.2.2.1), (hW.2.2.2.2.2.2.2.2.2.2.2.2.2.2.2.2.2.2.2.2.2.2.2.2.1), (hW.2.2.2.2.2.2.2.2.2.2.2.2.2.2.2.2.2.2.2.2.2.2.2.2.2.1), (hW.2.2.2.2.2.2.2.2.2.2.2.2.2.2.2.2.2.2.2.2.2.2.2.2.2.2.1), (hW.2.2.2.2.2.2.2.2.2.2.2.2.2.2.2.2.2.2.2.2.2.2.2.2.2.2.2.1), (hW.2.2.2.2.2.2.2.2.2.2.2.2.2.2.2.2.2.2.2.2.2.2.2.2.2.2.2.2.1), (hW.2.2.2.2.2.2.2.2.2.2.2.2.2.2.2.2.2.2.2.2.2.2.2.2.2.2.2.2.2.1), (hW.2.2.2.2.2.2.2.2.2.2.2.2.2.2.2.2.2.2.2.2.2.2.2.2.2.2.2.2.2.2.1), (hW.2.2.2.2.2.2.2.2.2.2.2.2.2.2.2.2.2.2.2.2.2.2.2.2.2.2.2.2.2.2.2.1), (hW.2.2.2.2.2.2.2.2.2.2.2.2.2.2.2.2.2.2.2.2.2.2.2.2.2.2.2.2.2.2.2.2.1), (hW.2.2.2.2.2.2.2.2.2.2.2.2.2.2.2.2.2.2.2.2.2.2.2.2.2.2.2.2.2.2.2.2.2.1), (hW.2.2.2.2.2.2.2.2.2.2.2.2.2.2.2.2.2.2.2.2.2.2.2.2.2.2.2.2.2.2.2.2.2.2.1), (hW.2.2.2.2.2.2.2.2.2.2.2.2.2.2.2.2.2.2.2.2.2.2.2.2.2.2.2.2.2.2.2.2.2.2.2.1), (hW.2.2.2.2.2.2.2.2.2.2.2.2.2.2.2.2.2.2.2.2.2.2.2.2.2.2.2.2.2.2.2.2.2.2.2.2.2.1), (hW.2.2.2.2.2.2.2.2.2.2.2.2.2.2.2.2.2.2.2.2.2.2.2.2.2.2.2.2.2.2.2.2.2.2.2.2.2.2.1), (hW.2.2.2.2.2.2.2.2.2.2.2.2.2.2.2.2.2.2.2.2.2.2.2.2.2.2.2.2.2.2.2.2.2.2.2.2.2.2.2.1), (hW.2.2.2.2.2.2.2.2.2.2.2.2.2.2.2.2.2.2.2.2.2.2.2.2.2.2.2.2.2.2.2.2.2.2.2.2.2.2.2.2.1), (hW.2.2.2.2.2.2.2.2.2.2.2.2.2.2.2.2.2.2.2.2.2.2.2.2.2.2.2.2.2.2.2.2.2.2.2.2.2.2.2.2.2)⟩).trans ((sI_f (hW.2.2.2.2.1)).trans ((sI_f (hW.2.2.2.1)).trans ((sI_f (hW.2.2.2.2.2.2.2.2.2.2.2.2.2.2.2.2.2.2.2.1)).trans ((sI_f (hW.2.2.2.2.2.2.2.2.2.1)).trans rfl))))
      have h9 := Option.some.inj h
      subst h9
      exact q60
  by_cases c62 : ¬ (μ18 70 49) = 1
  · rw [if_pos c62] at h
    by_cases c63 : (μ18 70 49) ≤ 1
    · rw [if_pos c63] at h
      obtain ⟨v64, -, h⟩ := b1_e h
      by_cases c68 : (v64 = 0 ∨ v64 = 1)
      rotate_left
      · rw [if_neg c68] at h
        cases h
      rw [if_pos c68] at h
      have h9 := Option.some.inj h
      subst h9
      exact ((sI_f (hW.2.2.2.2.2.2.2.2.1)).trans q61)
    · rw [if_neg c63] at h
      obtain ⟨μ70, e69, h⟩ := b1_e h
      have q71 : μ70 k j = μ k j := (fr_MO_end e69 ⟨(hW.2.2.2.1), (hW.2.2.2.2.2.1), (hW.2.2.2.2.2.2.1), (hW.2.2.2.2.2.2.2.1), (hW.2.2.2.2.2.2.2.2.1), (hW.2.2.2.2.2.2.2.2.2.2.2.2.2.2.2.2.2.2.2.2.1)⟩).trans ((sI_f (hW.1)).trans q61)
      have h9 := Option.some.inj h
      subst h9
      exact q71
  · rw [if_neg c62] at h
    obtain ⟨μ73, e72, h⟩ := b1_e h
    have q74 : μ73 k j = μ k j := (fr_MO_fail e72 ⟨(hW.2.2.2.1), (hW.2.2.2.2.1), (hW.2.2.2.2.2.1), (hW.2.2.2.2.2.2.1), (hW.2.2.2.2.2.2.2.1), (hW.2.2.2.2.2.2.2.2.1), (hW.2.2.2.2.2.2.2.2.2.2.2.2.2.2.2.2.2.2.2.2.1), (hW.2.2.2.2.2.2.2.2.2.2.2.2.2.2.2.2.2.2.2.2.2.2.1)⟩).trans q61
    have h9 := Option.some.inj h
    subst h9
    exact q74
def W_MO_solve (k j : Nat) : Prop := ¬ (k = 70 ∧ j = 0) ∧ ¬ (k = 70 ∧ j = 12) ∧ ¬ (k = 70 ∧ j = 13) ∧ ¬ (k = 70 ∧ j = 16) ∧ ¬ (k = 70 ∧ j = 17) ∧ ¬ (k = 70 ∧ j = 18) ∧ ¬ (k = 70 ∧ j = 23) ∧ ¬ (k = 70 ∧ j = 25) ∧ ¬ (k = 70 ∧ j = 26) ∧ ¬ (k = 70 ∧ j = 27) ∧ ¬ (k = 70 ∧ j = 28) ∧ ¬ (k = 70 ∧ j = 30) ∧ ¬ (k = 70 ∧ j = 34) ∧ ¬ (k = 70 ∧ j = 35) ∧ ¬ (k = 70 ∧ j = 36) ∧ ¬ (k = 70 ∧ j = 40) ∧ ¬ (k = 70 ∧ j = 41) ∧ ¬ (k = 70 ∧ j = 43) ∧ ¬ (k = 70 ∧ j = 46) ∧ ¬ (k = 70 ∧ j = 49) ∧ k ≠ 74 ∧ k ≠ 75 ∧ k ≠ 76 ∧ k ≠ 77 ∧ k ≠ 78 ∧ k ≠ 79 ∧ k ≠ 80 ∧ k ≠ 81 ∧ k ≠ 82 ∧ k ≠ 83 ∧ k ≠ 84 ∧ k ≠ 85 ∧ k ≠ 86 ∧ k ≠ 88 ∧ k ≠ 89 ∧ k ≠ 90 ∧ k ≠ 91 ∧ k ≠ 93 ∧ k ≠ 94 ∧ k ≠ 95 ∧ k ≠ 96 ∧ k ≠ 97
theorem fr_MO_solve_40 {k1 : Int32} {k j : Nat} (hW : W_MO_solve k j) (fl : Nat) : ∀ {y2 : Int32} {μ : Mu} {μz : Mu}, f_MO_solve_40 k1 fl y2 μ = some (μz) → μz k j = μ k j := by
  induction fl with
  | zero => intro _ _ _ h; cases h
  | succ f ih =>
    intro y2 μ μz h
    unfold f_MO_solve_40 at h
    by_cases c8 : k1 ≤ y2
    · rw [if_pos c8] at h
      have h9 := Option.some.inj h
      subst h9
      exact rfl
    · rw [if_neg c8] at h
      by_cases c9 : ¬ (μ 70 0) = 0
      · rw [if_pos c9] at h
        have h9 := Option.some.inj h
        subst h9
        exact rfl
      · rw [if_neg c9] at h
        by_cases c10 : (μ 70 25) = 0
        · rw [if_pos c10] at h
          have h9 := Option.some.inj h
          subst h9
          exact rfl
        · rw [if_neg c10] at h
          by_cases c11 : ¬ (μ 70 26) = 0
          · rw [if_pos c11] at h
            have h9 := Option.some.inj h
            subst h9
            exact rfl
          · rw [if_neg c11] at h
            by_cases c12 : (μ 70 27) ≤ 0
            · rw [if_pos c12] at h
              have h9 := Option.some.inj h
              subst h9
              exact rfl
            · rw [if_neg c12] at h
              obtain ⟨μ14, e13, h⟩ := b1_e h
              have q15 : μ14 k j = μ k j := (fr_MO_step e13 ⟨(hW.1), (hW.2.1), (hW.2.2.1), (hW.2.2.2.1), (hW.2.2.2.2.1), (hW.2.2.2.2.2.1), (hW.2.2.2.2.2.2.1), (hW.2.2.2.2.2.2.2.1), (hW.2.2.2.2.2.2.2.2.1), (hW.2.2.2.2.2.2.2.2.2.1), (hW.2.2.2.2.2.2.2.2.2.2.1), (hW.2.2.2.2.2.2.2.2.2.2.2.1), (hW.2.2.2.2.2.2.2.2.2.2.2.2.1), (hW.2.2.2.2.2.2.2.2.2.2.2.2.2.1), (hW.2.2.2.2.2.2.2.2.2.2.2.2.2.2.1), (hW.2.2.2.2.2.2.2.2.2.2.2.2.2.2.2.1), (hW.2.2.2.2.2.2.2.2.2.2.2.2.2.2.2.2.1), (hW.2.2.2.2.2.2.2.2.2.2.2.2.2.2.2.2.2.1), (hW.2.2.2.2.2.2.2.2.2.2.2.2.2.2.2.2.2.2.1), (hW.2.2.2.2.2.2.2.2.2.2.2.2.2.2.2.2.2.2.2.1), (hW.2.2.2.2.2.2.2.2.2.2.2.2.2.2.2.2.2.2.2.2.1), (hW.2.2.2.2.2.2.2.2.2.2.2.2.2.2.2.2.2.2.2.2.2.1), (hW.2.2.2.2.2.2.2.2.2.2.2.2.2.2.2.2.2.2.2.2.2.2.1), (hW.2.2.2.2.2.2.2.2.2.2.2.2.2.2.2.2.2.2.2.2.2.2.2.1), (hW.2.2.2.2.2.2.2.2.2.2.2.2.2.2.2.2.2.2.2.2.2.2.2.2.1), (hW.2.2.2.2.2.2.2.2.2.2.2.2.2.2.2.2.2.2.2.2.2.2.2.2.2.1), (hW.2.2.2.2.2.2.2.2.2.2.2.2.2.2.2.2.2.2.2.2.2.2.2.2.2.2.1), (hW.2.2.2.2.2.2.2.2.2.2.2.2.2.2.2.2.2.2.2.2.2.2.2.2.2.2.2.1), (hW.2.2.2.2.2.2.2.2.2.2.2.2.2.2.2.2.2.2.2.2.2.2.2.2.2.2.2.2.1), (hW.2.2.2.2.2.2.2.2.2.2.2.2.2.2.2.2.2.2.2.2.2.2.2.2.2.2.2.2.2.1), (hW.2.2.2.2.2.2.2.2.2.2.2.2.2.2.2.2.2.2.2.2.2.2.2.2.2.2.2.2.2.2.1), (hW.2.2.2.2.2.2.2.2.2.2.2.2.2.2.2.2.2.2.2.2.2.2.2.2.2.2.2.2.2.2.2.1), (hW.2.2.2.2.2.2.2.2.2.2.2.2.2.2.2.2.2.2.2.2.2.2.2.2.2.2.2.2.2.2.2.2.1), (hW.2.2.2.2.2.2.2.2.2.2.2.2.2.2.2.2.2.2.2.2.2.2.2.2.2.2.2.2.2.2.2.2.2.1), (hW.2.2.2.2.2.2.2.2.2.2.2.2.2.2.2.2.2.2.2.2.2.2.2.2.2.2.2.2.2.2.2.2.2.2.1), (hW.2.2.2.2.2.2.2.2.2.2.2.2.2.2.2.2.2.2.2.2.2.2.2.2.2.2.2.2.2.2.2.2.2.2.2.1), (hW.2.2.2.2.2.2.2.2.2.2.2.2.2.2.2.2.2.2.2.2.2.2.2.2.2.2.2.2.2.2.2.2.2.2.2.2.1), (hW.2.2.2.2.2.2.2.2.2.2.2.2.2.2.2.2.2.2.2.2.2.2.2.2.2.2.2.2.2.2.2.2.2.2.2.2.2.1), (hW.2.2.2.2.2.2.2.2.2.2.2.2.2.2.2.2.2.2.2.2.2.2.2.2.2.2.2.2.2.2.2.2.2.2.2.2.2.2.1), (hW.2.2.2.2.2.2.2.2.2.2.2.2.2.2.2.2.2.2.2.2.2.2.2.2.2.2.2.2.2.2.2.2.2.2.2.2.2.2.2.1), (hW.2.2.2.2.2.2.2.2.2.2.2.2.2.2.2.2.2.2.2.2.2.2.2.2.2.2.2.2.2.2.2.2.2.2.2.2.2.2.2.2.1), (hW.2.2.2.2.2.2.2.2.2.2.2.2.2.2.2.2.2.2.2.2.2.2.2.2.2.2.2.2.2.2.2.2.2.2.2.2.2.2.2.2.2)⟩).trans rfl
              exact (ih h).trans q15
theorem fr_MO_solve {x0 : Int32} {k j : Nat} {μ : Mu} {r : Int32} {μr : Mu} (h : f_MO_solve x0 μ = some (r, μr)) (hW : W_MO_solve k j) : μr k j = μ k j := by
  unfold f_MO_solve at h
  obtain ⟨v1, -, h⟩ := b1_e h
  obtain ⟨μ16, e17, h⟩ := b1_e h
  have q19 : μ16 k j = μ k j := (fr_MO_solve_40 hW _ e17).trans ((sI_f (hW.1)).trans rfl)
  by_cases c20 : (μ16 70 0) = 0
  · rw [if_pos c20] at h
    by_cases c21 : ¬ (μ16 70 25) = 0
    · rw [if_pos c21] at h
      by_cases c22 : (μ16 70 26) = 0
      · rw [if_pos c22] at h
        have j0 := Option.some.inj h
        obtain ⟨i1, j1⟩ := Prod.mk.inj j0
        subst i1
        subst j1
        exact q19
      · rw [if_neg c22] at h
        have j0 := Option.some.inj h
        obtain ⟨i1, j1⟩ := Prod.mk.inj j0
        subst i1
        subst j1
        exact q19
    · rw [if_neg c21] at h
      have j0 := Option.some.inj h
      obtain ⟨i1, j1⟩ := Prod.mk.inj j0
      subst i1
      subst j1
      exact q19
  · rw [if_neg c20] at h
    have j0 := Option.some.inj h
    obtain ⟨i1, j1⟩ := Prod.mk.inj j0
    subst i1
    subst j1
    exact q19
def W_MO_next (k j : Nat) : Prop := ¬ (k = 70 ∧ j = 0) ∧ ¬ (k = 70 ∧ j = 16) ∧ ¬ (k = 70 ∧ j = 17) ∧ ¬ (k = 70 ∧ j = 18) ∧ ¬ (k = 70 ∧ j = 23) ∧ ¬ (k = 70 ∧ j = 25) ∧ ¬ (k = 70 ∧ j = 26) ∧ k ≠ 74 ∧ k ≠ 76
theorem fr_MO_next {k j : Nat} {μ : Mu} {r : Int32} {μr : Mu} (h : f_MO_next μ = some (r, μr)) (hW : W_MO_next k j) : μr k j = μ k j := by
  unfold f_MO_next at h
  obtain ⟨v1, -, h⟩ := b1_e h
  by_cases c5 : v1 = 0
  · rw [if_pos c5] at h
    obtain ⟨μ7, e6, h⟩ := b1_e h
    have q8 : μ7 k j = μ k j := (fr_MO_fail e6 ⟨(hW.2.1), (hW.2.2.1), (hW.2.2.2.1), (hW.2.2.2.2.1), (hW.2.2.2.2.2.1), (hW.2.2.2.2.2.2.1), (hW.2.2.2.2.2.2.2.1), (hW.2.2.2.2.2.2.2.2)⟩).trans ((sI_f (hW.2.2.2.2.2.2.1)).trans ((sI_f (hW.1)).trans rfl))
    by_cases c9 : ((μ7 70 25) = 0 ∨ (μ7 70 25) = 1)
    · rw [if_pos c9] at h
      have j0 := Option.some.inj h
      obtain ⟨i1, j1⟩ := Prod.mk.inj j0
      subst i1
      subst j1
      exact q8
    · rw [if_neg c9] at h
      cases h
  · rw [if_neg c5] at h
    have j0 := Option.some.inj h
    obtain ⟨i1, j1⟩ := Prod.mk.inj j0
    subst i1
    subst j1
    exact ((sI_f (hW.1)).trans rfl)
def W_MO_stop (k j : Nat) : Prop := ¬ (k = 70 ∧ j = 0) ∧ ¬ (k = 70 ∧ j = 16) ∧ ¬ (k = 70 ∧ j = 18) ∧ ¬ (k = 70 ∧ j = 23) ∧ ¬ (k = 70 ∧ j = 25) ∧ ¬ (k = 70 ∧ j = 26) ∧ k ≠ 74
theorem fr_MO_stop {k j : Nat} {μ : Mu} {μr : Mu} (h : f_MO_stop μ = some (μr)) (hW : W_MO_stop k j) : μr k j = μ k j := by
  unfold f_MO_stop at h
  by_cases c1 : (μ 70 25) = 0
  · rw [if_pos c1] at h
    have h9 := Option.some.inj h
    subst h9
    exact ((sI_f (hW.1)).trans rfl)
  · rw [if_neg c1] at h
    obtain ⟨μ3, e2, h⟩ := b1_e h
    have q4 : μ3 k j = μ k j := (fr_MO_end e2 ⟨(hW.2.1), (hW.2.2.1), (hW.2.2.2.1), (hW.2.2.2.2.1), (hW.2.2.2.2.2.1), (hW.2.2.2.2.2.2)⟩).trans ((sI_f (hW.1)).trans rfl)
    have h9 := Option.some.inj h
    subst h9
    exact q4
def W_MO_collect (k j : Nat) : Prop := ¬ (k = 70 ∧ j = 0) ∧ ¬ (k = 70 ∧ j = 28) ∧ ¬ (k = 70 ∧ j = 30) ∧ ¬ (k = 70 ∧ j = 34) ∧ k ≠ 74 ∧ k ≠ 88 ∧ k ≠ 89 ∧ k ≠ 90
theorem fr_MO_collect {k j : Nat} {μ : Mu} {r : Int32} {μr : Mu} (h : f_MO_collect μ = some (r, μr)) (hW : W_MO_collect k j) : μr k j = μ k j := by
  unfold f_MO_collect at h
  by_cases c1 : (μ 70 25) = 0
  · rw [if_pos c1] at h
    have j0 := Option.some.inj h
    obtain ⟨i1, j1⟩ := Prod.mk.inj j0
    subst i1
    subst j1
    exact ((sI_f (hW.1)).trans rfl)
  · rw [if_neg c1] at h
    obtain ⟨v3, μ4, e2, h⟩ := b2_e h
    have q5 : μ4 k j = μ k j := (fr_MO_free e2 ⟨(hW.2.1), (hW.2.2.1), (hW.2.2.2.1), (hW.2.2.2.2.1), (hW.2.2.2.2.2.1), (hW.2.2.2.2.2.2.1), (hW.2.2.2.2.2.2.2)⟩).trans ((sI_f (hW.1)).trans rfl)
    have j0 := Option.some.inj h
    obtain ⟨i1, j1⟩ := Prod.mk.inj j0
    subst i1
    subst j1
    exact q5
def W_MO_count (k j : Nat) : Prop := ¬ (k = 70 ∧ j = 0)
theorem fr_MO_count {x0 : Int32} {k j : Nat} {μ : Mu} {r : Int32} {μr : Mu} (h : f_MO_count x0 μ = some (r, μr)) (hW : W_MO_count k j) : μr k j = μ k j := by
  unfold f_MO_count at h
  obtain ⟨v1, -, h⟩ := b1_e h
  obtain ⟨l10, -, h⟩ := b1_e h
  by_cases c13 : v1 = 0
  · rw [if_pos c13] at h
    by_cases c14 : ¬ x0 = 0
    · rw [if_pos c14] at h
      by_cases c15 : ¬ x0 = 1
      · rw [if_pos c15] at h
        by_cases c16 : ¬ x0 = 2
        · rw [if_pos c16] at h
          by_cases c17 : ¬ x0 = 3
          · rw [if_pos c17] at h
            by_cases c18 : ¬ x0 = 4
            · rw [if_pos c18] at h
              by_cases c19 : ¬ x0 = 5
              · rw [if_pos c19] at h
                have j0 := Option.some.inj h
                obtain ⟨i1, j1⟩ := Prod.mk.inj j0
                subst i1
                subst j1
                exact ((sI_f hW).trans rfl)
              · rw [if_neg c19] at h
                have j0 := Option.some.inj h
                obtain ⟨i1, j1⟩ := Prod.mk.inj j0
                subst i1
                subst j1
                exact ((sI_f hW).trans rfl)
            · rw [if_neg c18] at h
              have j0 := Option.some.inj h
              obtain ⟨i1, j1⟩ := Prod.mk.inj j0
              subst i1
              subst j1
              exact ((sI_f hW).trans rfl)
          · rw [if_neg c17] at h
            have j0 := Option.some.inj h
            obtain ⟨i1, j1⟩ := Prod.mk.inj j0
            subst i1
            subst j1
            exact ((sI_f hW).trans rfl)
        · rw [if_neg c16] at h
          have j0 := Option.some.inj h
          obtain ⟨i1, j1⟩ := Prod.mk.inj j0
          subst i1
          subst j1
          exact ((sI_f hW).trans rfl)
      · rw [if_neg c15] at h
        have j0 := Option.some.inj h
        obtain ⟨i1, j1⟩ := Prod.mk.inj j0
        subst i1
        subst j1
        exact ((sI_f hW).trans rfl)
    · rw [if_neg c14] at h
      obtain ⟨v21, -, h⟩ := b1_e h
      have j0 := Option.some.inj h
      obtain ⟨i1, j1⟩ := Prod.mk.inj j0
      subst i1
      subst j1
      exact ((sI_f hW).trans rfl)
  · rw [if_neg c13] at h
    have j0 := Option.some.inj h
    obtain ⟨i1, j1⟩ := Prod.mk.inj j0
    subst i1
    subst j1
    exact ((sI_f hW).trans rfl)
def W_MO_sayTerm (k j : Nat) : Prop := ¬ (k = 70 ∧ j = 30) ∧ ¬ (k = 70 ∧ j = 34) ∧ ¬ (k = 70 ∧ j = 38) ∧ ¬ (k = 70 ∧ j = 40) ∧ ¬ (k = 70 ∧ j = 41) ∧ k ≠ 88 ∧ k ≠ 89 ∧ k ≠ 90 ∧ k ≠ 92
theorem fr_MO_sayTerm_0 {k j : Nat} (hW : W_MO_sayTerm k j) (fl : Nat) : ∀ {μ : Mu} {μz : Mu}, f_MO_sayTerm_0 fl μ = some (μz) → μz k j = μ k j := by
  induction fl with
  | zero => intro _ _ h; cases h
  | succ f ih =>
    intro μ μz h
    unfold f_MO_sayTerm_0 at h
    by_cases c1 : (μ 70 30) ≤ 0
    · rw [if_pos c1] at h
      have h9 := Option.some.inj h
      subst h9
      exact rfl
    · rw [if_neg c1] at h
      by_cases c2 : 90 ≤ (μ 70 38)
      · rw [if_pos c2] at h
        have h9 := Option.some.inj h
        subst h9
        exact rfl
      · rw [if_neg c2] at h
        obtain ⟨v3, -, h⟩ := b1_e h
        obtain ⟨v5, -, h⟩ := b1_e h
        obtain ⟨μ8, e7, h⟩ := b1_e h
        have q9 : μ8 k j = μ k j := (fr_MO_mean e7 ⟨(hW.2.2.2.1), (hW.2.2.2.2.1)⟩).trans ((sI_f (hW.1)).trans rfl)
        obtain ⟨μ10, e11, h⟩ := b1_e h
        have q43 : μ10 k j = μ k j := by
          clear h
          have h := e11
          clear e11
          by_cases c13 : ¬ (μ8 70 40) = 0
          · rw [if_pos c13] at h
            obtain ⟨v14, -, h⟩ := b1_e h
            obtain ⟨μ21, e22, h⟩ := b1_e h
            have q23 : μ21 k j = μ k j := (wr_f e22 (hW.2.2.2.2.2.2.2.2)).trans q9
            by_cases c24 : ¬ (μ21 70 40) = 3
            · rw [if_pos c24] at h
              have h9 := Option.some.inj h
              subst h9
              exact q23
            · rw [if_neg c24] at h
              obtain ⟨μ26, e25, h⟩ := b1_e h
              have q27 : μ26 k j = μ k j := (fr_MO_pushArguments e25 ⟨(hW.1), (hW.2.2.2.2.2.1), (hW.2.2.2.2.2.2.1)⟩).trans q23
              have h9 := Option.some.inj h
              subst h9
              exact q27
          · rw [if_neg c13] at h
            obtain ⟨v28, -, h⟩ := b1_e h
            obtain ⟨μ30, e31, h⟩ := b1_e h
            have q37 : μ30 k j = μ k j := by
              clear h
              have h := e31
              clear e31
              by_cases c33 : ¬ v28 = 0
              · rw [if_pos c33] at h
                have h9 := Option.some.inj h
                subst h9
                exact q9
              · rw [if_neg c33] at h
                obtain ⟨μ34, e35, h⟩ := b1_e h
                have q36 : μ34 k j = μ k j := (wr_f e35 (hW.2.2.2.2.2.2.2.1)).trans q9
                have h9 := Option.some.inj h
                subst h9
                exact ((sI_f (hW.2.1)).trans q36)
            obtain ⟨v38, -, h⟩ := b1_e h
            obtain ⟨μ40, e41, h⟩ := b1_e h
            have q42 : μ40 k j = μ k j := (wr_f e41 (hW.2.2.2.2.2.2.2.2)).trans q37
            have h9 := Option.some.inj h
            subst h9
            exact q42
        exact (ih h).trans ((sI_f (hW.2.2.1)).trans q43)
theorem fr_MO_sayTerm {k j : Nat} {μ : Mu} {μr : Mu} (h : f_MO_sayTerm μ = some (μr)) (hW : W_MO_sayTerm k j) : μr k j = μ k j := by
  unfold f_MO_sayTerm at h
  obtain ⟨μ44, e45, h⟩ := b1_e h
  have q47 : μ44 k j = μ k j := (fr_MO_sayTerm_0 hW _ e45).trans rfl
  have h9 := Option.some.inj h
  subst h9
  exact q47
def W_MO_findAnswer (k j : Nat) : Prop := ¬ (k = 70 ∧ j = 30) ∧ ¬ (k = 70 ∧ j = 34) ∧ ¬ (k = 70 ∧ j = 38) ∧ ¬ (k = 70 ∧ j = 40) ∧ ¬ (k = 70 ∧ j = 41) ∧ k ≠ 88 ∧ k ≠ 89 ∧ k ≠ 90 ∧ k ≠ 92
theorem fr_MO_findAnswer_12 {k1 : Int32} {k j : Nat} (hW : W_MO_findAnswer k j) (fl : Nat) : ∀ {y2 : Int32} {μ : Mu} {μz : Mu}, f_MO_findAnswer_12 k1 fl y2 μ = some (μz) → μz k j = μ k j := by
  induction fl with
  | zero => intro _ _ _ h; cases h
  | succ f ih =>
    intro y2 μ μz h
    unfold f_MO_findAnswer_12 at h
    by_cases c1 : 240 ≤ y2
    · rw [if_pos c1] at h
      have h9 := Option.some.inj h
      subst h9
      exact rfl
    · rw [if_neg c1] at h
      obtain ⟨μ2, e3, h⟩ := b1_e h
      have q4 : μ2 k j = μ k j := (wr_f e3 (hW.2.2.2.2.2.2.2.1)).trans rfl
      exact (ih h).trans q4
theorem fr_MO_findAnswer_39 {k1 : Int32} {k j : Nat} (hW : W_MO_findAnswer k j) (fl : Nat) : ∀ {y2 : Int32} {μ : Mu} {μz : Mu}, f_MO_findAnswer_39 k1 fl y2 μ = some (μz) → μz k j = μ k j := by
  induction fl with
  | zero => intro _ _ _ h; cases h
  | succ f ih =>
    intro y2 μ μz h
    unfold f_MO_findAnswer_39 at h
    by_cases c9 : 8 ≤ y2
    · rw [if_pos c9] at h
      have h9 := Option.some.inj h
      subst h9
      exact rfl
    · rw [if_neg c9] at h
      by_cases c10 : (μ 70 26) = 0
      · rw [if_pos c10] at h
        have h9 := Option.some.inj h
        subst h9
        exact rfl
      · rw [if_neg c10] at h
        obtain ⟨v11, -, h⟩ := b1_e h
        obtain ⟨μ13, e14, h⟩ := b1_e h
        have q25 : μ13 k j = μ k j := by
          clear h
          have h := e14
          clear e14
          by_cases c16 : v11 < 0
          · rw [if_pos c16] at h
            have h9 := Option.some.inj h
            subst h9
            exact ((sI_f (hW.1)).trans rfl)
          · rw [if_neg c16] at h
            obtain ⟨v17, -, h⟩ := b1_e h
            obtain ⟨μ20, e19, h⟩ := b1_e h
            have q21 : μ20 k j = μ k j := (fr_MO_push e19 ⟨(hW.1), (hW.2.2.2.2.2.1), (hW.2.2.2.2.2.2.1)⟩).trans ((sI_f (hW.1)).trans rfl)
            obtain ⟨μ23, e22, h⟩ := b1_e h
            have q24 : μ23 k j = μ k j := (fr_MO_sayTerm e22 ⟨(hW.1), (hW.2.1), (hW.2.2.1), (hW.2.2.2.1), (hW.2.2.2.2.1), (hW.2.2.2.2.2.1), (hW.2.2.2.2.2.2.1), (hW.2.2.2.2.2.2.2.1), (hW.2.2.2.2.2.2.2.2)⟩).trans q21
            have h9 := Option.some.inj h
            subst h9
            exact q24
        exact (ih h).trans q25
theorem fr_MO_findAnswer_89 {k1 : Int32} {k j : Nat} (hW : W_MO_findAnswer k j) (fl : Nat) : ∀ {y2 : Int32} {μ : Mu} {μz : Mu}, f_MO_findAnswer_89 k1 fl y2 μ = some (μz) → μz k j = μ k j := by
  induction fl with
  | zero => intro _ _ _ h; cases h
  | succ f ih =>
    intro y2 μ μz h
    unfold f_MO_findAnswer_89 at h
    by_cases c30 : 240 ≤ y2
    · rw [if_pos c30] at h
      have h9 := Option.some.inj h
      subst h9
      exact rfl
    · rw [if_neg c30] at h
      obtain ⟨μ31, e32, h⟩ := b1_e h
      have q33 : μ31 k j = μ k j := (wr_f e32 (hW.2.2.2.2.2.2.2.1)).trans rfl
      exact (ih h).trans q33
theorem fr_MO_findAnswer {k j : Nat} {μ : Mu} {μr : Mu} (h : f_MO_findAnswer μ = some (μr)) (hW : W_MO_findAnswer k j) : μr k j = μ k j := by
  unfold f_MO_findAnswer at h
  obtain ⟨μ5, e6, h⟩ := b1_e h
  have q8 : μ5 k j = μ k j := (fr_MO_findAnswer_12 hW _ e6).trans ((sI_f (hW.2.2.1)).trans rfl)
  obtain ⟨μ26, e27, h⟩ := b1_e h
  have q29 : μ26 k j = μ k j := (fr_MO_findAnswer_39 hW _ e27).trans ((sI_f (hW.2.1)).trans q8)
  obtain ⟨μ34, e35, h⟩ := b1_e h
  have q37 : μ34 k j = μ k j := (fr_MO_findAnswer_89 hW _ e35).trans q29
  have h9 := Option.some.inj h
  subst h9
  exact ((sI_f (hW.2.1)).trans q37)
def W_MO_words (k j : Nat) : Prop := ¬ (k = 70 ∧ j = 0) ∧ ¬ (k = 70 ∧ j = 30) ∧ ¬ (k = 70 ∧ j = 34) ∧ ¬ (k = 70 ∧ j = 38) ∧ ¬ (k = 70 ∧ j = 40) ∧ ¬ (k = 70 ∧ j = 41) ∧ k ≠ 88 ∧ k ≠ 89 ∧ k ≠ 90 ∧ k ≠ 92
theorem fr_MO_words {k j : Nat} {μ : Mu} {r : Int32} {μr : Mu} (h : f_MO_words μ = some (r, μr)) (hW : W_MO_words k j) : μr k j = μ k j := by
  unfold f_MO_words at h
  obtain ⟨μ2, e1, h⟩ := b1_e h
  have q3 : μ2 k j = μ k j := (fr_MO_findAnswer e1 ⟨(hW.2.1), (hW.2.2.1), (hW.2.2.2.1), (hW.2.2.2.2.1), (hW.2.2.2.2.2.1), (hW.2.2.2.2.2.2.1), (hW.2.2.2.2.2.2.2.1), (hW.2.2.2.2.2.2.2.2.1), (hW.2.2.2.2.2.2.2.2.2)⟩).trans ((sI_f (hW.1)).trans rfl)
  have j0 := Option.some.inj h
  obtain ⟨i1, j1⟩ := Prod.mk.inj j0
  subst i1
  subst j1
  exact q3
def W_MO_word (k j : Nat) : Prop := ¬ (k = 70 ∧ j = 0) ∧ ¬ (k = 70 ∧ j = 30) ∧ ¬ (k = 70 ∧ j = 34) ∧ ¬ (k = 70 ∧ j = 38) ∧ ¬ (k = 70 ∧ j = 40) ∧ ¬ (k = 70 ∧ j = 41) ∧ k ≠ 88 ∧ k ≠ 89 ∧ k ≠ 90 ∧ k ≠ 92
theorem fr_MO_word {x0 : Int32} {k j : Nat} {μ : Mu} {r : Int32} {μr : Mu} (h : f_MO_word x0 μ = some (r, μr)) (hW : W_MO_word k j) : μr k j = μ k j := by
  unfold f_MO_word at h
  obtain ⟨μ2, e1, h⟩ := b1_e h
  have q3 : μ2 k j = μ k j := (fr_MO_findAnswer e1 ⟨(hW.2.1), (hW.2.2.1), (hW.2.2.2.1), (hW.2.2.2.2.1), (hW.2.2.2.2.2.1), (hW.2.2.2.2.2.2.1), (hW.2.2.2.2.2.2.2.1), (hW.2.2.2.2.2.2.2.2.1), (hW.2.2.2.2.2.2.2.2.2)⟩).trans rfl
  obtain ⟨v4, -, h⟩ := b1_e h
  by_cases c9 : ¬ v4 = 0
  · rw [if_pos c9] at h
    have j0 := Option.some.inj h
    obtain ⟨i1, j1⟩ := Prod.mk.inj j0
    subst i1
    subst j1
    exact ((sI_f (hW.1)).trans q3)
  · rw [if_neg c9] at h
    obtain ⟨v10, -, h⟩ := b1_e h
    have j0 := Option.some.inj h
    obtain ⟨i1, j1⟩ := Prod.mk.inj j0
    subst i1
    subst j1
    exact ((sI_f (hW.1)).trans q3)
end FRC
