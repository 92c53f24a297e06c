/-! what the methods leave alone (written by wip/tools/genf.py, mkfr.py) -/
section FRA
variable {n g cap : Nat} {acc : Nat × Nat}
def W_CL_read (q : Nat) (k j : Nat) : Prop := (k ≠ q ∧ k ≠ q + 1)
theorem fr_CL_read_17 {q : Nat} {k2 : Int32} (hq : clPb q = true) {k j : Nat} (hW : W_CL_read q k j) (fl : Nat) : ∀ {y3 : Int32} {μ : Mu} {μz : Mu}, f_CL_read_17 q k2 fl y3 μ = some (μz) → μz k j = μ k j := by
  induction fl with
  | zero => intro _ _ _ h; cases h
  | succ f ih =>
    intro y3 μ μz h
    unfold f_CL_read_17 at h
    by_cases c1 : k2 ≤ y3
    · rw [if_pos c1] at h
      have h9 := Option.some.inj h
      subst h9
      exact rfl
    · rw [if_neg c1] at h
      obtain ⟨v2, -, h⟩ := b1_e h
      obtain ⟨μ4, e5, h⟩ := b1_e h
      have q6 : μ4 k j = μ k j := (wr_f e5 (hW).2).trans rfl
      obtain ⟨v7, -, h⟩ := b1_e h
      obtain ⟨v10, -, h⟩ := b1_e h
      obtain ⟨μ11, e12, h⟩ := b1_e h
      have q15 : μ11 k j = μ k j := by
        clear h
        have h := e12
        clear e12
        by_cases c14 : v10 ≤ 0
        · rw [if_pos c14] at h
          have h9 := Option.some.inj h
          subst h9
          exact q6
        · rw [if_neg c14] at h
          have h9 := Option.some.inj h
          subst h9
          exact ((sI_f (fun e => (hW).1 e.1)).trans q6)
      obtain ⟨v16, -, h⟩ := b1_e h
      obtain ⟨μ18, e19, h⟩ := b1_e h
      have q24 : μ18 k j = μ k j := by
        clear h
        have h := e19
        clear e19
        by_cases c21 : ¬ (v16 &&& 7) = 0
        · rw [if_pos c21] at h
          have h9 := Option.some.inj h
          subst h9
          exact q15
        · rw [if_neg c21] at h
          obtain ⟨v22, -, h⟩ := b1_e h
          have h9 := Option.some.inj h
          subst h9
          exact ((sI_f (fun e => (hW).1 e.1)).trans q15)
      exact (ih h).trans q24
theorem fr_CL_read {q : Nat} {x0 : Int32} {k j : Nat} {μ : Mu} {μr : Mu} (h : f_CL_read q x0 μ = some (μr)) (hW : W_CL_read q k j) : μr k j = μ k j := by
  unfold f_CL_read at h
  by_cases hq : clPb q = true
  rotate_left
  · rw [if_neg hq] at h
    cases h
  rw [if_pos hq] at h
  obtain ⟨μ25, e26, h⟩ := b1_e h
  have q28 : μ25 k j = μ k j := (fr_CL_read_17 hq hW _ e26).trans ((sI_f (fun e => (hW).1 e.1)).trans ((sI_f (fun e => (hW).1 e.1)).trans ((sI_f (fun e => (hW).1 e.1)).trans rfl)))
  have h9 := Option.some.inj h
  subst h9
  exact ((sI_f (fun e => (hW).1 e.1)).trans q28)
def W_RB_add (k j : Nat) : Prop := (k < 5 ∨ 36 < k) ∧ ¬ (k = 3 ∧ j = 1)
theorem fr_RB_add {x0 : Int32} {k j : Nat} {μ : Mu} {μr : Mu} (h : f_RB_add x0 μ = some (μr)) (hW : W_RB_add k j) : μr k j = μ k j := by
  unfold f_RB_add at h
  obtain ⟨q, hcl, h⟩ := b1_e h
  obtain ⟨μ2, e1, h⟩ := b1_e h
  have q3 : μ2 k j = μ k j := (fr_CL_read e1 (ck_ne hcl (hW.1))).trans rfl
  have h9 := Option.some.inj h
  subst h9
  exact ((sI_f (hW.2)).trans q3)
def W_CE_bind (k j : Nat) : Prop := ¬ (k = 40 ∧ j = 3) ∧ k ≠ 41 ∧ k ≠ 42
theorem fr_CE_bind {x0 : Int32} {x1 : Int32} {k j : Nat} {μ : Mu} {μr : Mu} (h : f_CE_bind x0 x1 μ = some (μr)) (hW : W_CE_bind k j) : μr k j = μ k j := by
  unfold f_CE_bind at h
  obtain ⟨μ1, e2, h⟩ := b1_e h
  have q3 : μ1 k j = μ k j := (wr_f e2 (hW.2.1)).trans rfl
  obtain ⟨μ4, e5, h⟩ := b1_e h
  have q6 : μ4 k j = μ k j := (wr_f e5 (hW.2.2)).trans q3
  have h9 := Option.some.inj h
  subst h9
  exact ((sI_f (hW.1)).trans q6)
def W_CE_goBack (k j : Nat) : Prop := ¬ (k = 40 ∧ j = 1) ∧ ¬ (k = 40 ∧ j = 3) ∧ k ≠ 41
theorem fr_CE_goBack_7 {k1 : Int32} {k2 : Int32} {k j : Nat} (hW : W_CE_goBack k j) (fl : Nat) : ∀ {y3 : Int32} {μ : Mu} {μz : Mu}, f_CE_goBack_7 k1 k2 fl y3 μ = some (μz) → μz k j = μ k j := by
  induction fl with
  | zero => intro _ _ _ h; cases h
  | succ f ih =>
    intro y3 μ μz h
    unfold f_CE_goBack_7 at h
    by_cases c1 : y3 < k2
    · rw [if_pos c1] at h
      have h9 := Option.some.inj h
      subst h9
      exact rfl
    · rw [if_neg c1] at h
      obtain ⟨v2, -, h⟩ := b1_e h
      obtain ⟨v4, -, h⟩ := b1_e h
      obtain ⟨μ6, e7, h⟩ := b1_e h
      have q8 : μ6 k j = μ k j := (wr_f e7 (hW.2.2)).trans rfl
      exact (ih h).trans q8
theorem fr_CE_goBack {x0 : Int32} {x1 : Int32} {k j : Nat} {μ : Mu} {μr : Mu} (h : f_CE_goBack x0 x1 μ = some (μr)) (hW : W_CE_goBack k j) : μr k j = μ k j := by
  unfold f_CE_goBack at h
  obtain ⟨μ9, e10, h⟩ := b1_e h
  have q12 : μ9 k j = μ k j := (fr_CE_goBack_7 hW _ e10).trans rfl
  have h9 := Option.some.inj h
  subst h9
  exact ((sI_f (hW.1)).trans ((sI_f (hW.2.1)).trans q12))
def W_CE_clear (k j : Nat) : Prop := ¬ (k = 40 ∧ j = 1) ∧ ¬ (k = 40 ∧ j = 3)
theorem fr_CE_clear {k j : Nat} {μ : Mu} {μr : Mu} (h : f_CE_clear μ = some (μr)) (hW : W_CE_clear k j) : μr k j = μ k j := by
  unfold f_CE_clear at h
  have h9 := Option.some.inj h
  subst h9
  exact ((sI_f (hW.2)).trans ((sI_f (hW.1)).trans rfl))
def W_CE_takeVariables (k j : Nat) : Prop := ¬ (k = 40 ∧ j = 1) ∧ k ≠ 41 ∧ k ≠ 43
theorem fr_CE_takeVariables_2 {k1 : Int32} {k j : Nat} (hW : W_CE_takeVariables k j) (fl : Nat) : ∀ {y2 : Int32} {μ : Mu} {μz : Mu}, f_CE_takeVariables_2 k1 fl y2 μ = some (μz) → μz k j = μ k j := by
  induction fl with
  | zero => intro _ _ _ h; cases h
  | succ f ih =>
    intro y2 μ μz h
    unfold f_CE_takeVariables_2 at h
    by_cases c1 : 8 ≤ y2
    · rw [if_pos c1] at h
      have h9 := Option.some.inj h
      subst h9
      exact rfl
    · rw [if_neg c1] at h
      obtain ⟨μ2, e3, h⟩ := b1_e h
      have q12 : μ2 k j = μ k j := by
        clear h
        have h := e3
        clear e3
        by_cases c5 : ¬ ((k1 >>> (y2 &&& 31)) &&& 1) = 1
        · rw [if_pos c5] at h
          have h9 := Option.some.inj h
          subst h9
          exact rfl
        · rw [if_neg c5] at h
          obtain ⟨μ6, e7, h⟩ := b1_e h
          have q8 : μ6 k j = μ k j := (wr_f e7 (hW.2.2)).trans rfl
          obtain ⟨μ9, e10, h⟩ := b1_e h
          have q11 : μ9 k j = μ k j := (wr_f e10 (hW.2.1)).trans q8
          have h9 := Option.some.inj h
          subst h9
          exact ((sI_f (hW.1)).trans q11)
      exact (ih h).trans q12
theorem fr_CE_takeVariables {x0 : Int32} {k j : Nat} {μ : Mu} {μr : Mu} (h : f_CE_takeVariables x0 μ = some (μr)) (hW : W_CE_takeVariables k j) : μr k j = μ k j := by
  unfold f_CE_takeVariables at h
  obtain ⟨μ13, e14, h⟩ := b1_e h
  have q16 : μ13 k j = μ k j := (fr_CE_takeVariables_2 hW _ e14).trans rfl
  have h9 := Option.some.inj h
  subst h9
  exact q16
def W_CE_place (k j : Nat) : Prop := ¬ (k = 40 ∧ j = 6) ∧ ¬ (k = 40 ∧ j = 8) ∧ k ≠ 41 ∧ k ≠ 45
theorem fr_CE_place {x0 : Int32} {k j : Nat} {μ : Mu} {μr : Mu} (h : f_CE_place x0 μ = some (μr)) (hW : W_CE_place k j) : μr k j = μ k j := by
  unfold f_CE_place at h
  by_cases c1 : (μ 40 6) ≤ 0
  · rw [if_pos c1] at h
    obtain ⟨μ2, e3, h⟩ := b1_e h
    have q4 : μ2 k j = μ k j := (wr_f e3 (hW.2.2.2)).trans rfl
    have h9 := Option.some.inj h
    subst h9
    exact ((sI_f (hW.2.1)).trans q4)
  · rw [if_neg c1] at h
    obtain ⟨v5, -, h⟩ := b1_e h
    obtain ⟨μ7, e8, h⟩ := b1_e h
    have q9 : μ7 k j = μ k j := (wr_f e8 (hW.2.2.1)).trans ((sI_f (hW.1)).trans rfl)
    have h9 := Option.some.inj h
    subst h9
    exact q9
def W_CE_takeName (k j : Nat) : Prop := ¬ (k = 40 ∧ j = 1) ∧ ¬ (k = 40 ∧ j = 6) ∧ k ≠ 41 ∧ k ≠ 44
theorem fr_CE_takeName_22 {k2 : Int32} {k j : Nat} (hW : W_CE_takeName k j) (fl : Nat) : ∀ {y3 : Int32} {μ : Mu} {μz : Mu}, f_CE_takeName_22 k2 fl y3 μ = some (μz) → μz k j = μ k j := by
  induction fl with
  | zero => intro _ _ _ h; cases h
  | succ f ih =>
    intro y3 μ μz h
    unfold f_CE_takeName_22 at h
    by_cases c7 : y3 < 1
    · rw [if_pos c7] at h
      have h9 := Option.some.inj h
      subst h9
      exact rfl
    · rw [if_neg c7] at h
      obtain ⟨μ8, e9, h⟩ := b1_e h
      have q10 : μ8 k j = μ k j := (wr_f e9 (hW.2.2.2)).trans rfl
      exact (ih h).trans ((sI_f (hW.2.1)).trans q10)
theorem fr_CE_takeName {x0 : Int32} {k j : Nat} {μ : Mu} {μr : Mu} (h : f_CE_takeName x0 μ = some (μr)) (hW : W_CE_takeName k j) : μr k j = μ k j := by
  unfold f_CE_takeName at h
  obtain ⟨v2, -, h⟩ := b1_e h
  by_cases c3 : ¬ v2 = 0
  · rw [if_pos c3] at h
    obtain ⟨μ4, e5, h⟩ := b1_e h
    have q6 : μ4 k j = μ k j := (wr_f e5 (hW.2.2.1)).trans rfl
    obtain ⟨μ11, e12, h⟩ := b1_e h
    have q14 : μ11 k j = μ k j := (fr_CE_takeName_22 hW _ e12).trans q6
    have h9 := Option.some.inj h
    subst h9
    exact ((sI_f (hW.1)).trans q14)
  · rw [if_neg c3] at h
    have h9 := Option.some.inj h
    subst h9
    exact rfl
def W_CE_copy (q : Nat) (k j : Nat) : Prop := ¬ (k = 40 ∧ j = 1) ∧ ¬ (k = 40 ∧ j = 6) ∧ ¬ (k = 40 ∧ j = 8) ∧ k ≠ 41 ∧ k ≠ 43 ∧ k ≠ 44 ∧ k ≠ 45
theorem fr_CE_copy_20 {q : Nat} (hq : clPb q = true) {k j : Nat} (hW : W_CE_copy q k j) (fl : Nat) : ∀ {y2 : Int32} {μ : Mu} {μz : Mu}, f_CE_copy_20 q fl y2 μ = some (μz) → μz k j = μ k j := by
  induction fl with
  | zero => intro _ _ _ h; cases h
  | succ f ih =>
    intro y2 μ μz h
    unfold f_CE_copy_20 at h
    by_cases c4 : (μ q 1) ≤ y2
    · rw [if_pos c4] at h
      have h9 := Option.some.inj h
      subst h9
      exact rfl
    · rw [if_neg c4] at h
      obtain ⟨v5, -, h⟩ := b1_e h
      obtain ⟨v8, -, h⟩ := b1_e h
      obtain ⟨μ10, e9, h⟩ := b1_e h
      have q11 : μ10 k j = μ k j := (fr_CE_place e9 ⟨(hW.2.1), (hW.2.2.1), (hW.2.2.2.1), (hW.2.2.2.2.2.2)⟩).trans rfl
      obtain ⟨v12, -, h⟩ := b1_e h
      obtain ⟨μ15, e14, h⟩ := b1_e h
      have q16 : μ15 k j = μ k j := (fr_CE_takeName e14 ⟨(hW.1), (hW.2.1), (hW.2.2.2.1), (hW.2.2.2.2.2.1)⟩).trans q11
      exact (ih h).trans q16
theorem fr_CE_copy {q : Nat} {k j : Nat} {μ : Mu} {μr : Mu} (h : f_CE_copy q μ = some (μr)) (hW : W_CE_copy q k j) : μr k j = μ k j := by
  unfold f_CE_copy at h
  by_cases hq : clPb q = true
  rotate_left
  · rw [if_neg hq] at h
    cases h
  rw [if_pos hq] at h
  obtain ⟨μ2, e1, h⟩ := b1_e h
  have q3 : μ2 k j = μ k j := (fr_CE_takeVariables e1 ⟨(hW.1), (hW.2.2.2.1), (hW.2.2.2.2.1)⟩).trans ((sI_f (hW.2.2.1)).trans ((sI_f (hW.2.1)).trans rfl))
  obtain ⟨μ17, e18, h⟩ := b1_e h
  have q20 : μ17 k j = μ k j := (fr_CE_copy_20 hq hW _ e18).trans q3
  have h9 := Option.some.inj h
  subst h9
  exact q20
def W_TR_forget (k j : Nat) : Prop := ¬ (k = 46 ∧ j = 3) ∧ k ≠ 47
theorem fr_TR_forget_2 {k j : Nat} (hW : W_TR_forget k j) (fl : Nat) : ∀ {y1 : Int32} {μ : Mu} {μz : Mu}, f_TR_forget_2 fl y1 μ = some (μz) → μz k j = μ k j := by
  induction fl with
  | zero => intro _ _ _ h; cases h
  | succ f ih =>
    intro y1 μ μz h
    unfold f_TR_forget_2 at h
    by_cases c1 : (μ 40 1) ≤ y1
    · rw [if_pos c1] at h
      have h9 := Option.some.inj h
      subst h9
      exact rfl
    · rw [if_neg c1] at h
      obtain ⟨μ2, e3, h⟩ := b1_e h
      have q4 : μ2 k j = μ k j := (wz_f e3 (hW.2)).trans rfl
      exact (ih h).trans q4
theorem fr_TR_forget {k j : Nat} {μ : Mu} {μr : Mu} (h : f_TR_forget μ = some (μr)) (hW : W_TR_forget k j) : μr k j = μ k j := by
  unfold f_TR_forget at h
  obtain ⟨μ5, e6, h⟩ := b1_e h
  have q8 : μ5 k j = μ k j := (fr_TR_forget_2 hW _ e6).trans rfl
  have h9 := Option.some.inj h
  subst h9
  exact ((sI_f (hW.1)).trans q8)
def W_TR_reach (k j : Nat) : Prop := ¬ (k = 46 ∧ j = 3) ∧ k ≠ 47 ∧ k ≠ 48
theorem fr_TR_reach {x0 : Int32} {k j : Nat} {μ : Mu} {μr : Mu} (h : f_TR_reach x0 μ = some (μr)) (hW : W_TR_reach k j) : μr k j = μ k j := by
  unfold f_TR_reach at h
  by_cases c1 : (x0 &&& 7) = 0
  · rw [if_pos c1] at h
    obtain ⟨v2, -, h⟩ := b1_e h
    by_cases c4 : ¬ v2 = 0
    · rw [if_pos c4] at h
      have h9 := Option.some.inj h
      subst h9
      exact rfl
    · rw [if_neg c4] at h
      obtain ⟨μ5, e6, h⟩ := b1_e h
      have q7 : μ5 k j = μ k j := (wz_f e6 (hW.2.1)).trans rfl
      obtain ⟨μ8, e9, h⟩ := b1_e h
      have q10 : μ8 k j = μ k j := (wr_f e9 (hW.2.2)).trans q7
      have h9 := Option.some.inj h
      subst h9
      exact ((sI_f (hW.1)).trans q10)
  · rw [if_neg c1] at h
    by_cases c11 : (x0 &&& 7) = 7
    · rw [if_pos c11] at h
      obtain ⟨v12, -, h⟩ := b1_e h
      by_cases c14 : ¬ v12 = 0
      · rw [if_pos c14] at h
        have h9 := Option.some.inj h
        subst h9
        exact rfl
      · rw [if_neg c14] at h
        obtain ⟨μ15, e16, h⟩ := b1_e h
        have q17 : μ15 k j = μ k j := (wz_f e16 (hW.2.1)).trans rfl
        obtain ⟨μ18, e19, h⟩ := b1_e h
        have q20 : μ18 k j = μ k j := (wr_f e19 (hW.2.2)).trans q17
        have h9 := Option.some.inj h
        subst h9
        exact ((sI_f (hW.1)).trans q20)
    · rw [if_neg c11] at h
      have h9 := Option.some.inj h
      subst h9
      exact rfl
def W_TR_trace (k j : Nat) : Prop := ¬ (k = 46 ∧ j = 3) ∧ k ≠ 47 ∧ k ≠ 48
theorem fr_TR_trace_76 {k2 : Int32} {k3 : Int32} {k4 : Int32} {k j : Nat} (hW : W_TR_trace k j) (fl : Nat) : ∀ {y5 : Int32} {μ : Mu} {μz : Mu}, f_TR_trace_76 k2 k3 k4 fl y5 μ = some (μz) → μz k j = μ k j := by
  induction fl with
  | zero => intro _ _ _ h; cases h
  | succ f ih =>
    intro y5 μ μz h
    unfold f_TR_trace_76 at h
    by_cases c22 : k4 < y5
    · rw [if_pos c22] at h
      have h9 := Option.some.inj h
      subst h9
      exact rfl
    · rw [if_neg c22] at h
      obtain ⟨v23, -, h⟩ := b1_e h
      obtain ⟨μ26, e25, h⟩ := b1_e h
      have q27 : μ26 k j = μ k j := (fr_TR_reach e25 ⟨(hW.1), (hW.2.1), (hW.2.2)⟩).trans rfl
      exact (ih h).trans q27
theorem fr_TR_trace_7 {k j : Nat} (hW : W_TR_trace k j) (fl : Nat) : ∀ {y2 : Int32} {μ : Mu} {μz : Mu}, f_TR_trace_7 fl y2 μ = some (μz) → μz k j = μ k j := by
  induction fl with
  | zero => intro _ _ _ h; cases h
  | succ f ih =>
    intro y2 μ μz h
    unfold f_TR_trace_7 at h
    by_cases c4 : 240 ≤ y2
    · rw [if_pos c4] at h
      have h9 := Option.some.inj h
      subst h9
      exact rfl
    · rw [if_neg c4] at h
      by_cases c5 : (μ 46 3) ≤ 0
      · rw [if_pos c5] at h
        have h9 := Option.some.inj h
        subst h9
        exact rfl
      · rw [if_neg c5] at h
        obtain ⟨v6, -, h⟩ := b1_e h
        obtain ⟨v8, -, h⟩ := b1_e h
        obtain ⟨v11, -, h⟩ := b1_e h
        obtain ⟨μ12, e13, h⟩ := b1_e h
        have q21 : μ12 k j = μ k j := by
          clear h
          have h := e13
          clear e13
          by_cases c15 : ¬ v11 = 0
          · rw [if_pos c15] at h
            have h9 := Option.some.inj h
            subst h9
            exact ((sI_f (hW.1)).trans rfl)
          · rw [if_neg c15] at h
            obtain ⟨v16, -, h⟩ := b1_e h
            obtain ⟨μ19, e18, h⟩ := b1_e h
            have q20 : μ19 k j = μ k j := (fr_TR_reach e18 ⟨(hW.1), (hW.2.1), (hW.2.2)⟩).trans ((sI_f (hW.1)).trans rfl)
            have h9 := Option.some.inj h
            subst h9
            exact q20
        obtain ⟨μ28, e29, h⟩ := b1_e h
        have q31 : μ28 k j = μ k j := (fr_TR_trace_76 hW _ e29).trans q21
        exact (ih h).trans q31
theorem fr_TR_trace {x0 : Int32} {k j : Nat} {μ : Mu} {μr : Mu} (h : f_TR_trace x0 μ = some (μr)) (hW : W_TR_trace k j) : μr k j = μ k j := by
  unfold f_TR_trace at h
  obtain ⟨μ2, e1, h⟩ := b1_e h
  have q3 : μ2 k j = μ k j := (fr_TR_reach e1 ⟨(hW.1), (hW.2.1), (hW.2.2)⟩).trans rfl
  obtain ⟨μ32, e33, h⟩ := b1_e h
  have q35 : μ32 k j = μ k j := (fr_TR_trace_7 hW _ e33).trans q3
  have h9 := Option.some.inj h
  subst h9
  exact q35
def W_UN_bindLater (k j : Nat) : Prop := ¬ (k = 40 ∧ j = 3) ∧ k ≠ 41 ∧ k ≠ 42
theorem fr_UN_bindLater {x0 : Int32} {x1 : Int32} {k j : Nat} {μ : Mu} {μr : Mu} (h : f_UN_bindLater x0 x1 μ = some (μr)) (hW : W_UN_bindLater k j) : μr k j = μ k j := by
  unfold f_UN_bindLater at h
  by_cases c1 : x0 = x1
  · rw [if_pos c1] at h
    have h9 := Option.some.inj h
    subst h9
    exact rfl
  · rw [if_neg c1] at h
    obtain ⟨μ3, e2, h⟩ := b1_e h
    have q4 : μ3 k j = μ k j := (fr_CE_bind e2 ⟨(hW.1), (hW.2.1), (hW.2.2)⟩).trans rfl
    have h9 := Option.some.inj h
    subst h9
    exact q4
def W_UN_bindUnlessInside (k j : Nat) : Prop := ¬ (k = 40 ∧ j = 3) ∧ ¬ (k = 46 ∧ j = 3) ∧ k ≠ 41 ∧ k ≠ 42 ∧ k ≠ 47 ∧ k ≠ 48
theorem fr_UN_bindUnlessInside {x0 : Int32} {x1 : Int32} {k j : Nat} {μ : Mu} {r : Int32} {μr : Mu} (h : f_UN_bindUnlessInside x0 x1 μ = some (r, μr)) (hW : W_UN_bindUnlessInside k j) : μr k j = μ k j := by
  unfold f_UN_bindUnlessInside at h
  by_cases c1 : ¬ (x1 &&& 7) = 7
  · rw [if_pos c1] at h
    obtain ⟨μ3, e2, h⟩ := b1_e h
    have q4 : μ3 k j = μ k j := (fr_CE_bind e2 ⟨(hW.1), (hW.2.2.1), (hW.2.2.2.1)⟩).trans rfl
    have j0 := Option.some.inj h
    obtain ⟨i1, j1⟩ := Prod.mk.inj j0
    subst i1
    subst j1
    exact q4
  · rw [if_neg c1] at h
    obtain ⟨μ6, e5, h⟩ := b1_e h
    have q7 : μ6 k j = μ k j := (fr_TR_forget e5 ⟨(hW.2.1), (hW.2.2.2.2.1)⟩).trans rfl
    obtain ⟨μ9, e8, h⟩ := b1_e h
    have q10 : μ9 k j = μ k j := (fr_TR_trace e8 ⟨(hW.2.1), (hW.2.2.2.2.1), (hW.2.2.2.2.2)⟩).trans q7
    obtain ⟨v12, -, h⟩ := b1_e h
    by_cases c13 : v12 = 0
    · rw [if_pos c13] at h
      obtain ⟨μ15, e14, h⟩ := b1_e h
      have q16 : μ15 k j = μ k j := (fr_CE_bind e14 ⟨(hW.1), (hW.2.2.1), (hW.2.2.2.1)⟩).trans q10
      have j0 := Option.some.inj h
      obtain ⟨i1, j1⟩ := Prod.mk.inj j0
      subst i1
      subst j1
      exact q16
    · rw [if_neg c13] at h
      have j0 := Option.some.inj h
      obtain ⟨i1, j1⟩ := Prod.mk.inj j0
      subst i1
      subst j1
      exact q10
def W_UN_openArguments (k j : Nat) : Prop := ¬ (k = 49 ∧ j = 4) ∧ k ≠ 50 ∧ k ≠ 51
theorem fr_UN_openArguments_29 {k1 : Int32} {k2 : Int32} {k j : Nat} (hW : W_UN_openArguments k j) (fl : Nat) : ∀ {y4 : Int32} {μ : Mu} {μz : Mu}, f_UN_openArguments_29 k1 k2 fl y4 μ = some (μz) → μz k j = μ k j := by
  induction fl with
  | zero => intro _ _ _ h; cases h
  | succ f ih =>
    intro y4 μ μz h
    unfold f_UN_openArguments_29 at h
    by_cases c8 : y4 < 1
    · rw [if_pos c8] at h
      have h9 := Option.some.inj h
      subst h9
      exact rfl
    · rw [if_neg c8] at h
      obtain ⟨v10, -, h⟩ := b1_e h
      obtain ⟨μ11, e12, h⟩ := b1_e h
      have q13 : μ11 k j = μ k j := (wr_f e12 (hW.2.1)).trans rfl
      obtain ⟨v15, -, h⟩ := b1_e h
      obtain ⟨μ16, e17, h⟩ := b1_e h
      have q18 : μ16 k j = μ k j := (wr_f e17 (hW.2.2)).trans q13
      exact (ih h).trans ((sI_f (hW.1)).trans q18)
theorem fr_UN_openArguments {x0 : Int32} {x1 : Int32} {k j : Nat} {μ : Mu} {r : Int32} {μr : Mu} (h : f_UN_openArguments x0 x1 μ = some (r, μr)) (hW : W_UN_openArguments k j) : μr k j = μ k j := by
  unfold f_UN_openArguments at h
  obtain ⟨v2, -, h⟩ := b1_e h
  obtain ⟨v4, -, h⟩ := b1_e h
  by_cases c5 : v2 = v4
  · rw [if_pos c5] at h
    obtain ⟨v7, -, h⟩ := b1_e h
    obtain ⟨μ19, e20, h⟩ := b1_e h
    have q22 : μ19 k j = μ k j := (fr_UN_openArguments_29 hW _ e20).trans rfl
    have j0 := Option.some.inj h
    obtain ⟨i1, j1⟩ := Prod.mk.inj j0
    subst i1
    subst j1
    exact q22
  · rw [if_neg c5] at h
    have j0 := Option.some.inj h
    obtain ⟨i1, j1⟩ := Prod.mk.inj j0
    subst i1
    subst j1
    exact rfl
def W_UN_lookAt (k j : Nat) : Prop := ¬ (k = 40 ∧ j = 3) ∧ ¬ (k = 46 ∧ j = 3) ∧ ¬ (k = 49 ∧ j = 4) ∧ k ≠ 41 ∧ k ≠ 42 ∧ k ≠ 47 ∧ k ≠ 48 ∧ k ≠ 50 ∧ k ≠ 51
theorem fr_UN_lookAt {x0 : Int32} {x1 : Int32} {k j : Nat} {μ : Mu} {r : Int32} {μr : Mu} (h : f_UN_lookAt x0 x1 μ = some (r, μr)) (hW : W_UN_lookAt k j) : μr k j = μ k j := by
  unfold f_UN_lookAt at h
  obtain ⟨v1, -, h⟩ := b1_e h
  obtain ⟨v5, -, h⟩ := b1_e h
  by_cases c9 : v1 = 0
  · rw [if_pos c9] at h
    by_cases c10 : v1 = 0
    · rw [if_pos c10] at h
      by_cases c11 : v5 = 0
      · rw [if_pos c11] at h
        by_cases c12 : ¬ (x0 &&& 7) = 7
        · rw [if_pos c12] at h
          by_cases c13 : ¬ x0 = x1
          · rw [if_pos c13] at h
            have j0 := Option.some.inj h
            obtain ⟨i1, j1⟩ := Prod.mk.inj j0
            subst i1
            subst j1
            exact rfl
          · rw [if_neg c13] at h
            have j0 := Option.some.inj h
            obtain ⟨i1, j1⟩ := Prod.mk.inj j0
            subst i1
            subst j1
            exact rfl
        · rw [if_neg c12] at h
          by_cases c14 : ¬ (x1 &&& 7) = 7
          · rw [if_pos c14] at h
            by_cases c15 : ¬ x0 = x1
            · rw [if_pos c15] at h
              have j0 := Option.some.inj h
              obtain ⟨i1, j1⟩ := Prod.mk.inj j0
              subst i1
              subst j1
              exact rfl
            · rw [if_neg c15] at h
              have j0 := Option.some.inj h
              obtain ⟨i1, j1⟩ := Prod.mk.inj j0
              subst i1
              subst j1
              exact rfl
          · rw [if_neg c14] at h
            obtain ⟨v17, μ18, e16, h⟩ := b2_e h
            have q19 : μ18 k j = μ k j := (fr_UN_openArguments e16 ⟨(hW.2.2.1), (hW.2.2.2.2.2.2.2.1), (hW.2.2.2.2.2.2.2.2)⟩).trans rfl
            by_cases c20 : (v17 = 0 ∨ v17 = 1)
            · rw [if_pos c20] at h
              have j0 := Option.some.inj h
              obtain ⟨i1, j1⟩ := Prod.mk.inj j0
              subst i1
              subst j1
              exact q19
            · rw [if_neg c20] at h
              cases h
      · rw [if_neg c11] at h
        obtain ⟨v22, μ23, e21, h⟩ := b2_e h
        have q24 : μ23 k j = μ k j := (fr_UN_bindUnlessInside e21 ⟨(hW.1), (hW.2.1), (hW.2.2.2.1), (hW.2.2.2.2.1), (hW.2.2.2.2.2.1), (hW.2.2.2.2.2.2.1)⟩).trans rfl
        by_cases c25 : (v22 = 0 ∨ v22 = 1)
        · rw [if_pos c25] at h
          have j0 := Option.some.inj h
          obtain ⟨i1, j1⟩ := Prod.mk.inj j0
          subst i1
          subst j1
          exact q24
        · rw [if_neg c25] at h
          cases h
    · rw [if_neg c10] at h
      obtain ⟨v27, μ28, e26, h⟩ := b2_e h
      have q29 : μ28 k j = μ k j := (fr_UN_bindUnlessInside e26 ⟨(hW.1), (hW.2.1), (hW.2.2.2.1), (hW.2.2.2.2.1), (hW.2.2.2.2.2.1), (hW.2.2.2.2.2.2.1)⟩).trans rfl
      by_cases c30 : (v27 = 0 ∨ v27 = 1)
      · rw [if_pos c30] at h
        have j0 := Option.some.inj h
        obtain ⟨i1, j1⟩ := Prod.mk.inj j0
        subst i1
        subst j1
        exact q29
      · rw [if_neg c30] at h
        cases h
  · rw [if_neg c9] at h
    by_cases c31 : v5 = 0
    · rw [if_pos c31] at h
      by_cases c32 : v1 = 0
      · rw [if_pos c32] at h
        by_cases c33 : v5 = 0
        · rw [if_pos c33] at h
          by_cases c34 : ¬ (x0 &&& 7) = 7
          · rw [if_pos c34] at h
            by_cases c35 : ¬ x0 = x1
            · rw [if_pos c35] at h
              have j0 := Option.some.inj h
              obtain ⟨i1, j1⟩ := Prod.mk.inj j0
              subst i1
              subst j1
              exact rfl
            · rw [if_neg c35] at h
              have j0 := Option.some.inj h
              obtain ⟨i1, j1⟩ := Prod.mk.inj j0
              subst i1
              subst j1
              exact rfl
          · rw [if_neg c34] at h
            by_cases c36 : ¬ (x1 &&& 7) = 7
            · rw [if_pos c36] at h
              by_cases c37 : ¬ x0 = x1
              · rw [if_pos c37] at h
                have j0 := Option.some.inj h
                obtain ⟨i1, j1⟩ := Prod.mk.inj j0
                subst i1
                subst j1
                exact rfl
              · rw [if_neg c37] at h
                have j0 := Option.some.inj h
                obtain ⟨i1, j1⟩ := Prod.mk.inj j0
                subst i1
                subst j1
                exact rfl
            · rw [if_neg c36] at h
              obtain ⟨v39, μ40, e38, h⟩ := b2_e h
              have q41 : μ40 k j = μ k j := (fr_UN_openArguments e38 ⟨(hW.2.2.1), (hW.2.2.2.2.2.2.2.1), (hW.2.2.2.2.2.2.2.2)⟩).trans rfl
              by_cases c42 : (v39 = 0 ∨ v39 = 1)
              · rw [if_pos c42] at h
                have j0 := Option.some.inj h
                obtain ⟨i1, j1⟩ := Prod.mk.inj j0
                subst i1
                subst j1
                exact q41
              · rw [if_neg c42] at h
                cases h
        · rw [if_neg c33] at h
          obtain ⟨v44, μ45, e43, h⟩ := b2_e h
          have q46 : μ45 k j = μ k j := (fr_UN_bindUnlessInside e43 ⟨(hW.1), (hW.2.1), (hW.2.2.2.1), (hW.2.2.2.2.1), (hW.2.2.2.2.2.1), (hW.2.2.2.2.2.2.1)⟩).trans rfl
          by_cases c47 : (v44 = 0 ∨ v44 = 1)
          · rw [if_pos c47] at h
            have j0 := Option.some.inj h
            obtain ⟨i1, j1⟩ := Prod.mk.inj j0
            subst i1
            subst j1
            exact q46
          · rw [if_neg c47] at h
            cases h
      · rw [if_neg c32] at h
        obtain ⟨v49, μ50, e48, h⟩ := b2_e h
        have q51 : μ50 k j = μ k j := (fr_UN_bindUnlessInside e48 ⟨(hW.1), (hW.2.1), (hW.2.2.2.1), (hW.2.2.2.2.1), (hW.2.2.2.2.2.1), (hW.2.2.2.2.2.2.1)⟩).trans rfl
        by_cases c52 : (v49 = 0 ∨ v49 = 1)
        · rw [if_pos c52] at h
          have j0 := Option.some.inj h
          obtain ⟨i1, j1⟩ := Prod.mk.inj j0
          subst i1
          subst j1
          exact q51
        · rw [if_neg c52] at h
          cases h
    · rw [if_neg c31] at h
      obtain ⟨μ54, e53, h⟩ := b1_e h
      have q55 : μ54 k j = μ k j := (fr_UN_bindLater e53 ⟨(hW.1), (hW.2.2.2.1), (hW.2.2.2.2.1)⟩).trans rfl
      have j0 := Option.some.inj h
      obtain ⟨i1, j1⟩ := Prod.mk.inj j0
      subst i1
      subst j1
      exact q55
def W_UN_unify (k j : Nat) : Prop := ¬ (k = 40 ∧ j = 3) ∧ ¬ (k = 46 ∧ j = 3) ∧ ¬ (k = 49 ∧ j = 4) ∧ k ≠ 41 ∧ k ≠ 42 ∧ k ≠ 47 ∧ k ≠ 48 ∧ k ≠ 50 ∧ k ≠ 51
theorem fr_UN_unify_21 {k j : Nat} (hW : W_UN_unify k j) (fl : Nat) : ∀ {y3 : Int32} {μ : Mu} {r : Int32} {μr : Mu}, f_UN_unify_21 fl y3 μ = some (r, μr) → μr k j = μ k j := by
  induction fl with
  | zero => intro _ _ _ _ h; cases h
  | succ f ih =>
    intro y3 μ r μr h
    unfold f_UN_unify_21 at h
    by_cases c7 : 300 ≤ y3
    · rw [if_pos c7] at h
      by_cases c8 : ¬ (μ 49 4) = 0
      · rw [if_pos c8] at h
        have j0 := Option.some.inj h
        obtain ⟨i1, j1⟩ := Prod.mk.inj j0
        subst i1
        subst j1
        exact rfl
      · rw [if_neg c8] at h
        have j0 := Option.some.inj h
        obtain ⟨i1, j1⟩ := Prod.mk.inj j0
        subst i1
        subst j1
        exact rfl
    · rw [if_neg c7] at h
      by_cases c9 : (μ 49 4) ≤ 0
      · rw [if_pos c9] at h
        by_cases c10 : ¬ (μ 49 4) = 0
        · rw [if_pos c10] at h
          have j0 := Option.some.inj h
          obtain ⟨i1, j1⟩ := Prod.mk.inj j0
          subst i1
          subst j1
          exact rfl
        · rw [if_neg c10] at h
          have j0 := Option.some.inj h
          obtain ⟨i1, j1⟩ := Prod.mk.inj j0
          subst i1
          subst j1
          exact rfl
      · rw [if_neg c9] at h
        obtain ⟨v11, -, h⟩ := b1_e h
        obtain ⟨v14, -, h⟩ := b1_e h
        obtain ⟨v15, -, h⟩ := b1_e h
        obtain ⟨v18, -, h⟩ := b1_e h
        obtain ⟨v20, μ21, e19, h⟩ := b2_e h
        have q22 : μ21 k j = μ k j := (fr_UN_lookAt e19 ⟨(hW.1), (hW.2.1), (hW.2.2.1), (hW.2.2.2.1), (hW.2.2.2.2.1), (hW.2.2.2.2.2.1), (hW.2.2.2.2.2.2.1), (hW.2.2.2.2.2.2.2.1), (hW.2.2.2.2.2.2.2.2)⟩).trans ((sI_f (hW.2.2.1)).trans rfl)
        by_cases c23 : ¬ v20 = 0
        · rw [if_pos c23] at h
          exact (ih h).trans q22
        · rw [if_neg c23] at h
          have j0 := Option.some.inj h
          obtain ⟨i1, j1⟩ := Prod.mk.inj j0
          subst i1
          subst j1
          exact q22
theorem fr_UN_unify {x0 : Int32} {x1 : Int32} {k j : Nat} {μ : Mu} {r : Int32} {μr : Mu} (h : f_UN_unify x0 x1 μ = some (r, μr)) (hW : W_UN_unify k j) : μr k j = μ k j := by
  unfold f_UN_unify at h
  obtain ⟨μ1, e2, h⟩ := b1_e h
  have q3 : μ1 k j = μ k j := (wr_f e2 (hW.2.2.2.2.2.2.2.1)).trans rfl
  obtain ⟨μ4, e5, h⟩ := b1_e h
  have q6 : μ4 k j = μ k j := (wr_f e5 (hW.2.2.2.2.2.2.2.2)).trans q3
  exact (fr_UN_unify_21 hW _ h).trans ((sI_f (hW.2.2.1)).trans q6)
def W_CA_resultOf (k j : Nat) : Prop := ¬ (k = 52 ∧ j = 1)
theorem fr_CA_resultOf {k j : Nat} (fl : Nat) : ∀ {x0 : Int32} {μ : Mu} {r : Int64} {μr : Mu}, f_CA_resultOf fl x0 μ = some (r, μr) → W_CA_resultOf k j → μr k j = μ k j := by
  induction fl with
  | zero => intro _ _ _ _ h _; cases h
  | succ f ih =>
    intro x0 μ r μr h hW
    unfold f_CA_resultOf at h
    obtain ⟨v2, -, h⟩ := b1_e h
    by_cases c3 : ¬ (v2 &&& 7) = 1
    · rw [if_pos c3] at h
      obtain ⟨v5, -, h⟩ := b1_e h
      by_cases c6 : v5 = 0
      · rw [if_pos c6] at h
        have j0 := Option.some.inj h
        obtain ⟨i1, j1⟩ := Prod.mk.inj j0
        subst i1
        subst j1
        exact rfl
      · rw [if_neg c6] at h
        by_cases c7 : (μ 52 1) < 30
        · rw [if_pos c7] at h
          obtain ⟨v9, -, h⟩ := b1_e h
          obtain ⟨v11, μ12, e10, h⟩ := b2_e h
          have q13 : μ12 k j = μ k j := (ih e10 hW).trans ((sI_f hW).trans rfl)
          by_cases c14 : ¬ (lg_cmp v11 4294967296) = 0
          · rw [if_pos c14] at h
            obtain ⟨v16, -, h⟩ := b1_e h
            obtain ⟨v18, μ19, e17, h⟩ := b2_e h
            have q20 : μ19 k j = μ k j := (ih e17 hW).trans q13
            by_cases c21 : ¬ (lg_cmp v18 4294967296) = 0
            · rw [if_pos c21] at h
              obtain ⟨v23, -, h⟩ := b1_e h
              obtain ⟨v25, -, h⟩ := b1_e h
              have j0 := Option.some.inj h
              obtain ⟨i1, j1⟩ := Prod.mk.inj j0
              subst i1
              subst j1
              exact q20
            · rw [if_neg c21] at h
              have j0 := Option.some.inj h
              obtain ⟨i1, j1⟩ := Prod.mk.inj j0
              subst i1
              subst j1
              exact q20
          · rw [if_neg c14] at h
            have j0 := Option.some.inj h
            obtain ⟨i1, j1⟩ := Prod.mk.inj j0
            subst i1
            subst j1
            exact q13
        · rw [if_neg c7] at h
          have j0 := Option.some.inj h
          obtain ⟨i1, j1⟩ := Prod.mk.inj j0
          subst i1
          subst j1
          exact rfl
    · rw [if_neg c3] at h
      have j0 := Option.some.inj h
      obtain ⟨i1, j1⟩ := Prod.mk.inj j0
      subst i1
      subst j1
      exact rfl
def W_CA_calculate (k j : Nat) : Prop := ¬ (k = 52 ∧ j = 1)
theorem fr_CA_calculate {x0 : Int32} {k j : Nat} {μ : Mu} {r : Int64} {μr : Mu} (h : f_CA_calculate x0 μ = some (r, μr)) (hW : W_CA_calculate k j) : μr k j = μ k j := by
  unfold f_CA_calculate at h
  obtain ⟨v2, μ3, e1, h⟩ := b2_e h
  have q4 : μ3 k j = μ k j := (fr_CA_resultOf _ e1 hW).trans ((sI_f hW).trans rfl)
  have j0 := Option.some.inj h
  obtain ⟨i1, j1⟩ := Prod.mk.inj j0
  subst i1
  subst j1
  exact q4
def W_CH_make (k j : Nat) : Prop := ¬ (k = 58 ∧ j = 5) ∧ k ≠ 59 ∧ k ≠ 60 ∧ k ≠ 61 ∧ k ≠ 62 ∧ k ≠ 63
theorem fr_CH_make {x0 : Int32} {x1 : Int32} {k j : Nat} {μ : Mu} {μr : Mu} (h : f_CH_make x0 x1 μ = some (μr)) (hW : W_CH_make k j) : μr k j = μ k j := by
  unfold f_CH_make at h
  obtain ⟨v2, -, h⟩ := b1_e h
  obtain ⟨μ3, e4, h⟩ := b1_e h
  have q5 : μ3 k j = μ k j := (wr_f e4 (hW.2.1)).trans rfl
  obtain ⟨μ6, e7, h⟩ := b1_e h
  have q8 : μ6 k j = μ k j := (wr_f e7 (hW.2.2.1)).trans q5
  obtain ⟨μ9, e10, h⟩ := b1_e h
  have q11 : μ9 k j = μ k j := (wr_f e10 (hW.2.2.2.1)).trans q8
  obtain ⟨μ12, e13, h⟩ := b1_e h
  have q14 : μ12 k j = μ k j := (wr_f e13 (hW.2.2.2.2.1)).trans q11
  obtain ⟨μ15, e16, h⟩ := b1_e h
  have q17 : μ15 k j = μ k j := (wr_f e16 (hW.2.2.2.2.2)).trans q14
  have h9 := Option.some.inj h
  subst h9
  exact ((sI_f (hW.1)).trans q17)
def W_CH_cutTo (k j : Nat) : Prop := ¬ (k = 58 ∧ j = 5)
theorem fr_CH_cutTo {x0 : Int32} {k j : Nat} {μ : Mu} {μr : Mu} (h : f_CH_cutTo x0 μ = some (μr)) (hW : W_CH_cutTo k j) : μr k j = μ k j := by
  unfold f_CH_cutTo at h
  have h9 := Option.some.inj h
  subst h9
  exact ((sI_f hW).trans rfl)
def W_CO_dropNeedlessTrail (k j : Nat) : Prop := ¬ (k = 40 ∧ j = 3) ∧ k ≠ 42 ∧ k ≠ 62
theorem fr_CO_dropNeedlessTrail_17 {k1 : Int32} {k3 : Int32} {k j : Nat} (hW : W_CO_dropNeedlessTrail k j) (fl : Nat) : ∀ {y2 : Int32} {μ : Mu} {z2 : Int32} {μz : Mu}, f_CO_dropNeedlessTrail_17 k1 k3 fl y2 μ = some (z2, μz) → μz k j = μ k j := by
  induction fl with
  | zero => intro _ _ _ _ h; cases h
  | succ f ih =>
    intro y2 μ z2 μz h
    unfold f_CO_dropNeedlessTrail_17 at h
    by_cases c2 : (μ 58 5) ≤ y2
    · rw [if_pos c2] at h
      have j0 := Option.some.inj h
      obtain ⟨i1, j1⟩ := Prod.mk.inj j0
      subst i1
      subst j1
      exact rfl
    · rw [if_neg c2] at h
      obtain ⟨v3, -, h⟩ := b1_e h
      by_cases c5 : k3 < v3
      · rw [if_pos c5] at h
        have j0 := Option.some.inj h
        obtain ⟨i1, j1⟩ := Prod.mk.inj j0
        subst i1
        subst j1
        exact rfl
      · rw [if_neg c5] at h
        obtain ⟨μ6, e7, h⟩ := b1_e h
        have q8 : μ6 k j = μ k j := (wr_f e7 (hW.2.2)).trans rfl
        exact (ih h).trans q8
theorem fr_CO_dropNeedlessTrail_6 {k j : Nat} (hW : W_CO_dropNeedlessTrail k j) (fl : Nat) : ∀ {y1 : Int32} {y2 : Int32} {y3 : Int32} {μ : Mu} {z1 : Int32} {μz : Mu}, f_CO_dropNeedlessTrail_6 fl y1 y2 y3 μ = some (z1, μz) → μz k j = μ k j := by
  induction fl with
  | zero => intro _ _ _ _ _ _ h; cases h
  | succ f ih =>
    intro y1 y2 y3 μ z1 μz h
    unfold f_CO_dropNeedlessTrail_6 at h
    by_cases c1 : (μ 40 3) < y3
    · rw [if_pos c1] at h
      have j0 := Option.some.inj h
      obtain ⟨i1, j1⟩ := Prod.mk.inj j0
      subst i1
      subst j1
      exact rfl
    · rw [if_neg c1] at h
      obtain ⟨l9, μ10, e11, h⟩ := b2_e h
      have q13 : μ10 k j = μ k j := (fr_CO_dropNeedlessTrail_17 hW _ e11).trans rfl
      obtain ⟨l14, μ15, e16, h⟩ := b2_e h
      have q30 : μ15 k j = μ k j := by
        clear h
        have h := e16
        clear e16
        by_cases c18 : (μ10 40 3) ≤ y3
        · rw [if_pos c18] at h
          have j0 := Option.some.inj h
          obtain ⟨i1, j1⟩ := Prod.mk.inj j0
          subst i1
          subst j1
          exact q13
        · rw [if_neg c18] at h
          by_cases c19 : l9 ≤ 0
          · rw [if_pos c19] at h
            have j0 := Option.some.inj h
            obtain ⟨i1, j1⟩ := Prod.mk.inj j0
            subst i1
            subst j1
            exact q13
          · rw [if_neg c19] at h
            obtain ⟨v20, -, h⟩ := b1_e h
            obtain ⟨v22, -, h⟩ := b1_e h
            by_cases c24 : v22 ≤ (v20 >>> ((3 : Int32) &&& 31))
            · rw [if_pos c24] at h
              have j0 := Option.some.inj h
              obtain ⟨i1, j1⟩ := Prod.mk.inj j0
              subst i1
              subst j1
              exact q13
            · rw [if_neg c24] at h
              obtain ⟨v25, -, h⟩ := b1_e h
              obtain ⟨μ27, e28, h⟩ := b1_e h
              have q29 : μ27 k j = μ k j := (wr_f e28 (hW.2.1)).trans q13
              have j0 := Option.some.inj h
              obtain ⟨i1, j1⟩ := Prod.mk.inj j0
              subst i1
              subst j1
              exact q29
      exact (ih h).trans q30
theorem fr_CO_dropNeedlessTrail {k j : Nat} {μ : Mu} {μr : Mu} (h : f_CO_dropNeedlessTrail μ = some (μr)) (hW : W_CO_dropNeedlessTrail k j) : μr k j = μ k j := by
  unfold f_CO_dropNeedlessTrail at h
  obtain ⟨l31, μ32, e33, h⟩ := b2_e h
  have q35 : μ32 k j = μ k j := (fr_CO_dropNeedlessTrail_6 hW _ e33).trans rfl
  have h9 := Option.some.inj h
  subst h9
  exact ((sI_f (hW.1)).trans q35)
def W_CO_traceGoals (k j : Nat) : Prop := (k < 54 ∨ (58 ≤ k ∧ k < 99)) ∧ ¬ (k = 46 ∧ j = 3) ∧ k ≠ 47 ∧ k ≠ 48
theorem fr_CO_traceGoals_4 {g cap : Nat} (hg : gPb g = true) {k j : Nat} (hW : W_CO_traceGoals k j) (fl : Nat) : ∀ {y2 : Int32} {y3 : Int32} {μ : Mu} {μz : Mu}, f_CO_traceGoals_4 g cap fl y2 y3 μ = some (μz) → μz k j = μ k j := by
  induction fl with
  | zero => intro _ _ _ _ h; cases h
  | succ f ih =>
    intro y2 y3 μ μz h
    unfold f_CO_traceGoals_4 at h
    by_cases c1 : 9030 ≤ y3
    · rw [if_pos c1] at h
      have h9 := Option.some.inj h
      subst h9
      exact rfl
    · rw [if_neg c1] at h
      by_cases c2 : y2 < 0
      · rw [if_pos c2] at h
        have h9 := Option.some.inj h
        subst h9
        exact rfl
      · rw [if_neg c2] at h
        obtain ⟨v3, -, h⟩ := b1_e h
        by_cases c5 : ¬ v3 = 0
        · rw [if_pos c5] at h
          have h9 := Option.some.inj h
          subst h9
          exact rfl
        · rw [if_neg c5] at h
          obtain ⟨μ6, e7, h⟩ := b1_e h
          have q8 : μ6 k j = μ k j := (wz_f e7 (gk_ne3 hg (hW.1))).trans rfl
          obtain ⟨v9, -, h⟩ := b1_e h
          obtain ⟨μ11, e12, h⟩ := b1_e h
          have q18 : μ11 k j = μ k j := by
            clear h
            have h := e12
            clear e12
            by_cases c14 : ¬ (v9 &&& 7) = 7
            · rw [if_pos c14] at h
              have h9 := Option.some.inj h
              subst h9
              exact q8
            · rw [if_neg c14] at h
              obtain ⟨μ16, e15, h⟩ := b1_e h
              have q17 : μ16 k j = μ k j := (fr_TR_trace e15 ⟨(hW.2.1), (hW.2.2.1), (hW.2.2.2)⟩).trans q8
              have h9 := Option.some.inj h
              subst h9
              exact q17
          obtain ⟨v19, -, h⟩ := b1_e h
          exact (ih h).trans q18
theorem fr_CO_traceGoals {x0 : Int32} {k j : Nat} {μ : Mu} {μr : Mu} (h : f_CO_traceGoals g cap x0 μ = some (μr)) (hW : W_CO_traceGoals k j) : μr k j = μ k j := by
  unfold f_CO_traceGoals at h
  by_cases hg : gPb g = true
  rotate_left
  · rw [if_neg hg] at h
    cases h
  rw [if_pos hg] at h
  obtain ⟨μ21, e22, h⟩ := b1_e h
  have q24 : μ21 k j = μ k j := (fr_CO_traceGoals_4 hg hW _ e22).trans rfl
  have h9 := Option.some.inj h
  subst h9
  exact q24
def W_CO_traceLive (k j : Nat) : Prop := (k < 54 ∨ (58 ≤ k ∧ k < 99)) ∧ ¬ (k = 46 ∧ j = 3) ∧ k ≠ 47 ∧ k ≠ 48
theorem fr_CO_traceLive_9 {g cap : Nat} {k1 : Int32} {k2 : Int32} {k j : Nat} (hW : W_CO_traceLive k j) (fl : Nat) : ∀ {y3 : Int32} {μ : Mu} {μz : Mu}, f_CO_traceLive_9 g cap k1 k2 fl y3 μ = some (μz) → μz k j = μ k j := by
  induction fl with
  | zero => intro _ _ _ h; cases h
  | succ f ih =>
    intro y3 μ μz h
    unfold f_CO_traceLive_9 at h
    by_cases c4 : k2 ≤ y3
    · rw [if_pos c4] at h
      have h9 := Option.some.inj h
      subst h9
      exact rfl
    · rw [if_neg c4] at h
      obtain ⟨μ6, e5, h⟩ := b1_e h
      have q7 : μ6 k j = μ k j := (fr_TR_trace e5 ⟨(hW.2.1), (hW.2.2.1), (hW.2.2.2)⟩).trans rfl
      exact (ih h).trans q7
theorem fr_CO_traceLive_32 {g cap : Nat} {k1 : Int32} {k j : Nat} (hW : W_CO_traceLive k j) (fl : Nat) : ∀ {y3 : Int32} {μ : Mu} {μz : Mu}, f_CO_traceLive_32 g cap k1 fl y3 μ = some (μz) → μz k j = μ k j := by
  induction fl with
  | zero => intro _ _ _ h; cases h
  | succ f ih =>
    intro y3 μ μz h
    unfold f_CO_traceLive_32 at h
    by_cases c12 : (μ 40 3) ≤ y3
    · rw [if_pos c12] at h
      have h9 := Option.some.inj h
      subst h9
      exact rfl
    · rw [if_neg c12] at h
      obtain ⟨v13, -, h⟩ := b1_e h
      obtain ⟨μ16, e15, h⟩ := b1_e h
      have q17 : μ16 k j = μ k j := (fr_TR_trace e15 ⟨(hW.2.1), (hW.2.2.1), (hW.2.2.2)⟩).trans rfl
      exact (ih h).trans q17
theorem fr_CO_traceLive_67 {g cap : Nat} {k1 : Int32} {k j : Nat} (hW : W_CO_traceLive k j) (fl : Nat) : ∀ {y3 : Int32} {μ : Mu} {μz : Mu}, f_CO_traceLive_67 g cap k1 fl y3 μ = some (μz) → μz k j = μ k j := by
  induction fl with
  | zero => intro _ _ _ h; cases h
  | succ f ih =>
    intro y3 μ μz h
    unfold f_CO_traceLive_67 at h
    by_cases c22 : (μ 58 5) ≤ y3
    · rw [if_pos c22] at h
      have h9 := Option.some.inj h
      subst h9
      exact rfl
    · rw [if_neg c22] at h
      obtain ⟨v23, -, h⟩ := b1_e h
      obtain ⟨μ26, e25, h⟩ := b1_e h
      have q27 : μ26 k j = μ k j := (fr_CO_traceGoals e25 ⟨(hW.1), (hW.2.1), (hW.2.2.1), (hW.2.2.2)⟩).trans rfl
      exact (ih h).trans q27
theorem fr_CO_traceLive {x0 : Int32} {x1 : Int32} {k j : Nat} {μ : Mu} {μr : Mu} (h : f_CO_traceLive g cap x0 x1 μ = some (μr)) (hW : W_CO_traceLive k j) : μr k j = μ k j := by
  unfold f_CO_traceLive at h
  obtain ⟨μ2, e1, h⟩ := b1_e h
  have q3 : μ2 k j = μ k j := (fr_TR_forget e1 ⟨(hW.2.1), (hW.2.2.1)⟩).trans rfl
  obtain ⟨μ8, e9, h⟩ := b1_e h
  have q11 : μ8 k j = μ k j := (fr_CO_traceLive_9 hW _ e9).trans q3
  obtain ⟨μ18, e19, h⟩ := b1_e h
  have q21 : μ18 k j = μ k j := (fr_CO_traceLive_32 hW _ e19).trans q11
  obtain ⟨μ28, e29, h⟩ := b1_e h
  have q31 : μ28 k j = μ k j := (fr_CO_traceLive_67 hW _ e29).trans q21
  obtain ⟨μ33, e32, h⟩ := b1_e h
  have q34 : μ33 k j = μ k j := (fr_CO_traceGoals e32 ⟨(hW.1), (hW.2.1), (hW.2.2.1), (hW.2.2.2)⟩).trans q31
  have h9 := Option.some.inj h
  subst h9
  exact q34
def W_CO_findNewPlaces (k j : Nat) : Prop := k ≠ 65
theorem fr_CO_findNewPlaces_4 {k j : Nat} (hW : W_CO_findNewPlaces k j) (fl : Nat) : ∀ {y1 : Int32} {y3 : Int32} {μ : Mu} {z1 : Int32} {μz : Mu}, f_CO_findNewPlaces_4 fl y1 y3 μ = some (z1, μz) → μz k j = μ k j := by
  induction fl with
  | zero => intro _ _ _ _ _ h; cases h
  | succ f ih =>
    intro y1 y3 μ z1 μz h
    unfold f_CO_findNewPlaces_4 at h
    by_cases c1 : (μ 40 1) ≤ y3
    · rw [if_pos c1] at h
      have j0 := Option.some.inj h
      obtain ⟨i1, j1⟩ := Prod.mk.inj j0
      subst i1
      subst j1
      exact rfl
    · rw [if_neg c1] at h
      obtain ⟨v2, -, h⟩ := b1_e h
      obtain ⟨v5, -, h⟩ := b1_e h
      obtain ⟨μ6, e7, h⟩ := b1_e h
      have q8 : μ6 k j = μ k j := (wr_f e7 hW).trans rfl
      obtain ⟨v10, -, h⟩ := b1_e h
      obtain ⟨l11, -, h⟩ := b1_e h
      exact (ih h).trans q8
theorem fr_CO_findNewPlaces {k j : Nat} {μ : Mu} {μr : Mu} (h : f_CO_findNewPlaces μ = some (μr)) (hW : W_CO_findNewPlaces k j) : μr k j = μ k j := by
  unfold f_CO_findNewPlaces at h
  obtain ⟨l15, μ16, e17, h⟩ := b2_e h
  have q19 : μ16 k j = μ k j := (fr_CO_findNewPlaces_4 hW _ e17).trans rfl
  obtain ⟨μ20, e21, h⟩ := b1_e h
  have q22 : μ20 k j = μ k j := (wr_f e21 hW).trans q19
  have h9 := Option.some.inj h
  subst h9
  exact q22
def W_CO_moveCells (k j : Nat) : Prop := ¬ (k = 40 ∧ j = 1) ∧ k ≠ 41
theorem fr_CO_moveCells_44 {k1 : Int32} {k2 : Int32} {k3 : Int32} {k j : Nat} (hW : W_CO_moveCells k j) (fl : Nat) : ∀ {y4 : Int32} {μ : Mu} {μz : Mu}, f_CO_moveCells_44 k1 k2 k3 fl y4 μ = some (μz) → μz k j = μ k j := by
  induction fl with
  | zero => intro _ _ _ h; cases h
  | succ f ih =>
    intro y4 μ μz h
    unfold f_CO_moveCells_44 at h
    by_cases c8 : k2 ≤ y4
    · rw [if_pos c8] at h
      have h9 := Option.some.inj h
      subst h9
      exact rfl
    · rw [if_neg c8] at h
      obtain ⟨v10, -, h⟩ := b1_e h
      by_cases c11 : v10 = 0
      · rw [if_pos c11] at h
        have h9 := Option.some.inj h
        subst h9
        exact rfl
      · rw [if_neg c11] at h
        obtain ⟨v12, -, h⟩ := b1_e h
        obtain ⟨v14, -, h⟩ := b1_e h
        obtain ⟨v17, -, h⟩ := b1_e h
        obtain ⟨μ18, e19, h⟩ := b1_e h
        have q20 : μ18 k j = μ k j := (wr_f e19 (hW.2)).trans rfl
        exact (ih h).trans q20
theorem fr_CO_moveCells_15 {k1 : Int32} {k j : Nat} (hW : W_CO_moveCells k j) (fl : Nat) : ∀ {y3 : Int32} {μ : Mu} {μz : Mu}, f_CO_moveCells_15 k1 fl y3 μ = some (μz) → μz k j = μ k j := by
  induction fl with
  | zero => intro _ _ _ h; cases h
  | succ f ih =>
    intro y3 μ μz h
    unfold f_CO_moveCells_15 at h
    by_cases c3 : (μ 40 1) ≤ y3
    · rw [if_pos c3] at h
      have h9 := Option.some.inj h
      subst h9
      exact rfl
    · rw [if_neg c3] at h
      obtain ⟨v4, -, h⟩ := b1_e h
      obtain ⟨v7, -, h⟩ := b1_e h
      obtain ⟨μ21, e22, h⟩ := b1_e h
      have q24 : μ21 k j = μ k j := (fr_CO_moveCells_44 hW _ e22).trans rfl
      exact (ih h).trans q24
theorem fr_CO_moveCells {k j : Nat} {μ : Mu} {μr : Mu} (h : f_CO_moveCells μ = some (μr)) (hW : W_CO_moveCells k j) : μr k j = μ k j := by
  unfold f_CO_moveCells at h
  obtain ⟨v1, -, h⟩ := b1_e h
  obtain ⟨μ25, e26, h⟩ := b1_e h
  have q28 : μ25 k j = μ k j := (fr_CO_moveCells_15 hW _ e26).trans rfl
  have h9 := Option.some.inj h
  subst h9
  exact ((sI_f (hW.1)).trans q28)
def W_CO_moveGoals (k j : Nat) : Prop := (k < 54 ∨ (58 ≤ k ∧ k < 99))
theorem fr_CO_moveGoals_2 {g cap : Nat} {k1 : Int32} (hg : gPb g = true) {k j : Nat} (hW : W_CO_moveGoals k j) (fl : Nat) : ∀ {y2 : Int32} {μ : Mu} {μz : Mu}, f_CO_moveGoals_2 g cap k1 fl y2 μ = some (μz) → μz k j = μ k j := by
  induction fl with
  | zero => intro _ _ _ h; cases h
  | succ f ih =>
    intro y2 μ μz h
    unfold f_CO_moveGoals_2 at h
    by_cases c1 : k1 ≤ y2
    · rw [if_pos c1] at h
      have h9 := Option.some.inj h
      subst h9
      exact rfl
    · rw [if_neg c1] at h
      obtain ⟨v2, -, h⟩ := b1_e h
      obtain ⟨μ4, e5, h⟩ := b1_e h
      have q18 : μ4 k j = μ k j := by
        clear h
        have h := e5
        clear e5
        by_cases c7 : v2 = 0
        · rw [if_pos c7] at h
          have h9 := Option.some.inj h
          subst h9
          exact rfl
        · rw [if_neg c7] at h
          obtain ⟨v8, -, h⟩ := b1_e h
          obtain ⟨v11, -, h⟩ := b1_e h
          obtain ⟨μ12, e13, h⟩ := b1_e h
          have q14 : μ12 k j = μ k j := (wr_f e13 (gk_ne0 hg hW)).trans rfl
          obtain ⟨μ15, e16, h⟩ := b1_e h
          have q17 : μ15 k j = μ k j := (wz_f e16 (gk_ne3 hg hW)).trans q14
          have h9 := Option.some.inj h
          subst h9
          exact q17
      exact (ih h).trans q18
theorem fr_CO_moveGoals {x0 : Int32} {k j : Nat} {μ : Mu} {μr : Mu} (h : f_CO_moveGoals g cap x0 μ = some (μr)) (hW : W_CO_moveGoals k j) : μr k j = μ k j := by
  unfold f_CO_moveGoals at h
  by_cases hg : gPb g = true
  rotate_left
  · rw [if_neg hg] at h
    cases h
  rw [if_pos hg] at h
  obtain ⟨μ19, e20, h⟩ := b1_e h
  have q22 : μ19 k j = μ k j := (fr_CO_moveGoals_2 hg hW _ e20).trans rfl
  have h9 := Option.some.inj h
  subst h9
  exact q22
def W_CO_moveMarks (k j : Nat) : Prop := k ≠ 42 ∧ k ≠ 61
theorem fr_CO_moveMarks_2 {k j : Nat} (hW : W_CO_moveMarks k j) (fl : Nat) : ∀ {y1 : Int32} {μ : Mu} {μz : Mu}, f_CO_moveMarks_2 fl y1 μ = some (μz) → μz k j = μ k j := by
  induction fl with
  | zero => intro _ _ _ h; cases h
  | succ f ih =>
    intro y1 μ μz h
    unfold f_CO_moveMarks_2 at h
    by_cases c1 : (μ 58 5) ≤ y1
    · rw [if_pos c1] at h
      have h9 := Option.some.inj h
      subst h9
      exact rfl
    · rw [if_neg c1] at h
      obtain ⟨v2, -, h⟩ := b1_e h
      obtain ⟨v4, -, h⟩ := b1_e h
      obtain ⟨μ6, e7, h⟩ := b1_e h
      have q8 : μ6 k j = μ k j := (wr_f e7 (hW.2)).trans rfl
      exact (ih h).trans q8
theorem fr_CO_moveMarks_44 {k j : Nat} (hW : W_CO_moveMarks k j) (fl : Nat) : ∀ {y1 : Int32} {μ : Mu} {μz : Mu}, f_CO_moveMarks_44 fl y1 μ = some (μz) → μz k j = μ k j := by
  induction fl with
  | zero => intro _ _ _ h; cases h
  | succ f ih =>
    intro y1 μ μz h
    unfold f_CO_moveMarks_44 at h
    by_cases c13 : (μ 40 3) ≤ y1
    · rw [if_pos c13] at h
      have h9 := Option.some.inj h
      subst h9
      exact rfl
    · rw [if_neg c13] at h
      obtain ⟨v14, -, h⟩ := b1_e h
      obtain ⟨v17, -, h⟩ := b1_e h
      obtain ⟨μ18, e19, h⟩ := b1_e h
      have q20 : μ18 k j = μ k j := (wr_f e19 (hW.1)).trans rfl
      exact (ih h).trans q20
theorem fr_CO_moveMarks {k j : Nat} {μ : Mu} {μr : Mu} (h : f_CO_moveMarks μ = some (μr)) (hW : W_CO_moveMarks k j) : μr k j = μ k j := by
  unfold f_CO_moveMarks at h
  obtain ⟨μ9, e10, h⟩ := b1_e h
  have q12 : μ9 k j = μ k j := (fr_CO_moveMarks_2 hW _ e10).trans rfl
  obtain ⟨μ21, e22, h⟩ := b1_e h
  have q24 : μ21 k j = μ k j := (fr_CO_moveMarks_44 hW _ e22).trans q12
  have h9 := Option.some.inj h
  subst h9
  exact q24
def W_CO_run (k j : Nat) : Prop := (k < 54 ∨ (58 ≤ k ∧ k < 99)) ∧ ¬ (k = 40 ∧ j = 1) ∧ ¬ (k = 40 ∧ j = 3) ∧ ¬ (k = 46 ∧ j = 3) ∧ ¬ (k = 64 ∧ j = 5) ∧ k ≠ 41 ∧ k ≠ 42 ∧ k ≠ 47 ∧ k ≠ 48 ∧ k ≠ 61 ∧ k ≠ 62 ∧ k ≠ 65
theorem fr_CO_run {x0 : Int32} {x1 : Int32} {k j : Nat} {μ : Mu} {r : Int32} {μr : Mu} (h : f_CO_run g cap x0 x1 μ = some (r, μr)) (hW : W_CO_run k j) : μr k j = μ k j := by
  unfold f_CO_run at h
  obtain ⟨μ2, e1, h⟩ := b1_e h
  have q3 : μ2 k j = μ k j := (fr_CO_dropNeedlessTrail e1 ⟨(hW.2.2.1), (hW.2.2.2.2.2.2.1), (hW.2.2.2.2.2.2.2.2.2.2.1)⟩).trans ((sI_f (hW.2.2.2.2.1)).trans rfl)
  obtain ⟨μ5, e4, h⟩ := b1_e h
  have q6 : μ5 k j = μ k j := (fr_CO_traceLive e4 ⟨(hW.1), (hW.2.2.2.1), (hW.2.2.2.2.2.2.2.1), (hW.2.2.2.2.2.2.2.2.1)⟩).trans q3
  obtain ⟨μ8, e7, h⟩ := b1_e h
  have q9 : μ8 k j = μ k j := (fr_CO_findNewPlaces e7 (hW.2.2.2.2.2.2.2.2.2.2.2)).trans q6
  obtain ⟨μ11, e10, h⟩ := b1_e h
  have q12 : μ11 k j = μ k j := (fr_CO_moveCells e10 ⟨(hW.2.1), (hW.2.2.2.2.2.1)⟩).trans q9
  obtain ⟨v14, -, h⟩ := b1_e h
  obtain ⟨μ16, e15, h⟩ := b1_e h
  have q17 : μ16 k j = μ k j := (fr_CO_moveGoals e15 (hW.1)).trans q12
  obtain ⟨μ19, e18, h⟩ := b1_e h
  have q20 : μ19 k j = μ k j := (fr_CO_moveMarks e18 ⟨(hW.2.2.2.2.2.2.1), (hW.2.2.2.2.2.2.2.2.2.1)⟩).trans q17
  have j0 := Option.some.inj h
  obtain ⟨i1, j1⟩ := Prod.mk.inj j0
  subst i1
  subst j1
  exact q20
end FRA
