/-! are the typed words a question, a rule: class and reference alike -/
section PSA
/-- r words from i on, m terms missing -/
def qsc (f : Nat → Nat) : Nat → Nat → Nat → Bool
  | 0, _, m => decide (m = 0)
  | r + 1, i, m => decide (if m = 0 then 2 ≤ f i else f i ≠ 6) && qsc f r (i + 1) (m - 1 + arK (f i))
def bI (b : Bool) : Int32 := if b = true then 1 else 0
theorem bI_0 {b : Bool} : bI b = 0 ↔ b = false := by cases b <;> decide
variable {μ : Mu} {f : Nat → Nat} {L : Nat}
theorem jm_pred {m : Nat} (hm : m < 2 ^ 30) : jmax 0 (nI m - 1) = nI (m - 1) := by
  cases m with
  | zero => decide
  | succ m =>
    rw [nI_pred]
    unfold jmax
    by_cases e : m = 0
    · subst e; decide
    · rw [if_pos (show (0 : Int32) < nI m from nI_lt (a := 0) (by omega) (by omega))]
      rfl
theorem q_loop (hL : L ≤ 30) (hf : ∀ j, j < L → f j = kd (μ 2 j)) (r : Nat) : ∀ (fl i m : Nat), r < fl → i + r = L → m ≤ 3 * i → f_GE_isQuestion_4 (nI L) fl (nI m) (nI i) μ = some (bI (decide (0 < L) && qsc f r i m)) := by
  induction r with
  | zero =>
    intro fl i m hfl hi hm
    cases fl with
    | zero => omega
    | succ fl =>
    have hi : i = L := by omega
    subst hi
    unfold f_GE_isQuestion_4
    rw [if_pos (nI_le (Nat.le_refl i) (by omega))]
    by_cases e : i = 0
    · subst e
      rw [if_pos (by decide)]
      rfl
    · rw [if_neg (nI_nle (by omega) (by omega))]
      have e0 : decide (0 < i) = true := decide_eq_true (by omega)
      by_cases e2 : m = 0
      · subst e2
        rw [if_neg (not_not_intro (show nI 0 = 0 from nI_0)), e0]
        rfl
      · rw [if_pos (nI_ne0 (by omega) (by omega)), e0]
        have e3 : qsc f 0 i m = false := decide_eq_false e2
        rw [e3]
        rfl
  | succ r ih =>
    intro fl i m hfl hi hm
    cases fl with
    | zero => omega
    | succ fl =>
    unfold f_GE_isQuestion_4
    rw [if_neg (nI_ge (show i < L by omega) (by omega)), rd_n (show i < 30 by omega) (by decide), b1_s, kd_e (μ 2 i)]
    have hk := kd_lt (μ 2 i)
    have e0 : decide (0 < L) = true := decide_eq_true (by omega)
    have ef := hf i (by omega)
    have ha := arK_le (f i)
    have hrec : f_GE_isQuestion_4 (nI L) fl (jmax 0 (nI m - 1) + nI (arK (f i))) (nI i + 1) μ = some (bI (decide (0 < L) && qsc f r (i + 1) (m - 1 + arK (f i)))) := by
      rw [jm_pred (by omega), nI_add, nI_1]
      exact ih fl (i + 1) _ (by omega) (by omega) (by omega)
    have har : f_GE_argumentsOf (μ 2 i) μ = some (nI (arK (f i))) := by rw [ef]; exact ar_c (kd_e _) hk
    show b1 _ _ = some (bI (decide (0 < L) && (decide (if m = 0 then 2 ≤ f i else f i ≠ 6) && qsc f r (i + 1) (m - 1 + arK (f i)))))
    rw [← ef] at hk ⊢
    by_cases e2 : m = 0
    · subst e2
      rw [if_neg (not_not_intro (show nI 0 = 0 from nI_0))]
      by_cases e3 : 2 ≤ f i
      · rw [if_neg (show ¬ nI (f i) < 2 from nI_nlt (b := 2) e3 (by omega)), b1_s, if_pos (by decide), b1_s, har, b1_s]
        rw [show decide (if 0 = 0 then 2 ≤ f i else f i ≠ 6) = true from decide_eq_true (by rw [if_pos rfl]; exact e3), Bool.true_and]
        exact hrec
      · rw [if_pos (show nI (f i) < 2 from nI_lt (b := 2) (by omega) (by omega)), b1_s, if_neg (by decide)]
        rw [show decide (if 0 = 0 then 2 ≤ f i else f i ≠ 6) = false from decide_eq_false (by rw [if_pos rfl]; exact e3), Bool.false_and, Bool.and_false]
        rfl
    · rw [if_pos (nI_ne0 (by omega) (by omega))]
      by_cases e3 : f i = 6
      · rw [if_pos (show nI (f i) = 6 by rw [e3]; rfl), b1_s, if_neg (by decide)]
        rw [show decide (if m = 0 then 2 ≤ f i else f i ≠ 6) = false from decide_eq_false (by rw [if_neg e2]; exact not_not_intro e3), Bool.false_and, Bool.and_false]
        rfl
      · rw [if_neg (show ¬ nI (f i) = 6 from fun q => e3 ((nI_eq (a := f i) (b := 6) (by omega) (by decide)).mp q)), b1_s, if_pos (by decide), b1_s, har, b1_s]
        rw [show decide (if m = 0 then 2 ≤ f i else f i ≠ 6) = true from decide_eq_true (by rw [if_neg e2]; exact e3), Bool.true_and]
        exact hrec
theorem q_c (hL : L ≤ 30) (hf : ∀ j, j < L → f j = kd (μ 2 j)) : f_GE_isQuestion (nI L) μ = some (bI (decide (0 < L) && qsc f L 0 0)) :=
  q_loop hL hf L fu 0 0 (by unfold fu; omega) (by omega) (by omega)
/-- the reference: behind one term -/
theorem q_behind (hL : L ≤ 30) (h1 : μ 70 1 = nI L) (hf : ∀ j, j < L → f j = kd (μ 71 j)) (r : Nat) : ∀ (fl i m : Nat), r < fl → i + r = L → m ≤ 3 * i + 1 → 0 < m →
    (∃ p, p ≤ L ∧ i < p ∧ f_MO_behind_4 fl (nI i) (nI m) μ = some (nI p) ∧ qsc f r i m = qsc f (L - p) p 0) ∨ (f_MO_behind_4 fl (nI i) (nI m) μ = some (-1) ∧ qsc f r i m = false) := by
  induction r with
  | zero =>
    intro fl i m hfl hi hm h0
    cases fl with
    | zero => omega
    | succ fl =>
    refine Or.inr ⟨?_, decide_eq_false (by omega)⟩
    unfold f_MO_behind_4
    rw [if_neg (nI_nle h0 (by omega)), h1, if_pos (nI_le (by omega) (by omega))]
  | succ r ih =>
    intro fl i m hfl hi hm h0
    cases fl with
    | zero => omega
    | succ fl =>
    have hk := kd_lt (μ 71 i)
    have ef := hf i (by omega)
    have ha := arK_le (f i)
    have har : f_MO_arity (μ 71 i) μ = some (nI (arK (f i))) := by rw [ef]; exact ar_m (kd_e _) hk
    have hq : qsc f (r + 1) i m = (decide (f i ≠ 6) && qsc f r (i + 1) (m - 1 + arK (f i))) := by
      show (decide (if m = 0 then 2 ≤ f i else f i ≠ 6) && _) = _
      rw [show decide (if m = 0 then 2 ≤ f i else f i ≠ 6) = decide (f i ≠ 6) from decide_eq_decide.mpr (by rw [if_neg (by omega)])]
    have hb : f_MO_behind_4 (fl + 1) (nI i) (nI m) μ = if f i = 6 then some (-1) else f_MO_behind_4 fl (nI (i + 1)) (nI (m - 1 + arK (f i))) μ := by
      rw [f_MO_behind_4]
      rw [if_neg (nI_nle h0 (by omega)), h1, if_neg (nI_ge (show i < L by omega) (by omega)), rd_n (show i < 30 by omega) (by decide), b1_s, kd_e (μ 71 i), ← ef]
      by_cases e3 : f i = 6
      · rw [if_neg (not_not_intro (show nI (f i) = 6 by rw [e3]; rfl)), if_pos e3]
      · rw [if_pos (show ¬ nI (f i) = 6 from fun q => e3 ((nI_eq (a := f i) (b := 6) (by omega) (by decide)).mp q)), if_neg e3, b1_s, har, b1_s, nI_1, show (1 : Int32) = nI 1 from rfl, pk_sub (by omega), nI_add]
    rw [hb, hq]
    by_cases e3 : f i = 6
    · rw [if_pos e3]
      exact Or.inr ⟨rfl, by rw [show decide (f i ≠ 6) = false from decide_eq_false (not_not_intro e3), Bool.false_and]⟩
    · rw [if_neg e3, show decide (f i ≠ 6) = true from decide_eq_true e3, Bool.true_and]
      by_cases e4 : m - 1 + arK (f i) = 0
      · rw [e4]
        refine Or.inl ⟨i + 1, by omega, by omega, ?_, ?_⟩
        · cases fl with
          | zero => omega
          | succ fl =>
          unfold f_MO_behind_4
          rw [if_pos (by decide)]
        · rw [show L - (i + 1) = r by omega]
      · rcases ih fl (i + 1) (m - 1 + arK (f i)) (by omega) (by omega) (by omega) (by omega) with ⟨p, p1, p2, p3, p4⟩ | h
        · exact Or.inl ⟨p, p1, by omega, p3, p4⟩
        · exact Or.inr h
theorem q_goals (hL : L ≤ 30) (h1 : μ 70 1 = nI L) (hf : ∀ j, j < L → f j = kd (μ 71 j)) (r : Nat) : ∀ (fl i : Nat), r < fl → i ≤ L → L - i ≤ r → f_MO_areGoals_2 fl (nI i) μ = some (bI (qsc f (L - i) i 0)) := by
  induction r with
  | zero =>
    intro fl i hfl hi hr
    cases fl with
    | zero => omega
    | succ fl =>
    have e : i = L := by omega
    subst e
    unfold f_MO_areGoals_2
    rw [if_neg (nI_pos (by omega)), h1, if_pos (nI_le (Nat.le_refl _) (by omega)), if_neg (not_not_intro rfl), Nat.sub_self]
    rfl
  | succ r ih =>
    intro fl i hfl hi hr
    cases fl with
    | zero => omega
    | succ fl =>
    by_cases e : i = L
    · subst e
      unfold f_MO_areGoals_2
      rw [if_neg (nI_pos (by omega)), h1, if_pos (nI_le (Nat.le_refl _) (by omega)), if_neg (not_not_intro rfl), Nat.sub_self]
      rfl
    have hk := kd_lt (μ 71 i)
    have ef := hf i (by omega)
    have hq : qsc f (L - i) i 0 = (decide (2 ≤ f i) && qsc f (L - (i + 1)) (i + 1) (arK (f i))) := by
      rw [show L - i = (L - (i + 1)) + 1 by omega]
      show (decide (if 0 = 0 then 2 ≤ f i else f i ≠ 6) && qsc f _ _ (0 - 1 + arK (f i))) = _
      rw [show decide (if 0 = 0 then 2 ≤ f i else f i ≠ 6) = decide (2 ≤ f i) from decide_eq_decide.mpr (by rw [if_pos rfl]), show 0 - 1 + arK (f i) = arK (f i) by omega]
    unfold f_MO_areGoals_2
    rw [if_neg (nI_pos (by omega)), h1, if_neg (nI_ge (show i < L by omega) (by omega)), rd_n (show i < 30 by omega) (by decide), b1_s, kd_e (μ 71 i), ← ef, hq]
    by_cases e2 : 2 ≤ f i
    · rw [if_pos (show 2 ≤ nI (f i) from nI_le (a := 2) e2 (by omega)), show decide (2 ≤ f i) = true from decide_eq_true e2, Bool.true_and]
      by_cases e3 : f i = 6
      · rw [if_neg (not_not_intro (show nI (f i) = 6 by rw [e3]; rfl)), b1_s, nI_1, ih fl (i + 1) (by omega) (by omega) (by omega), e3]
        rfl
      · rw [if_pos (show ¬ nI (f i) = 6 from fun q => e3 ((nI_eq (a := f i) (b := 6) (by omega) (by decide)).mp q))]
        have hq1 : qsc f (L - i) i 1 = qsc f (L - (i + 1)) (i + 1) (arK (f i)) := by
          rw [show L - i = (L - (i + 1)) + 1 by omega]
          show (decide (if 1 = 0 then 2 ≤ f i else f i ≠ 6) && qsc f _ _ (1 - 1 + arK (f i))) = _
          rw [show decide (if 1 = 0 then 2 ≤ f i else f i ≠ 6) = true from decide_eq_true (by rw [if_neg (by decide)]; exact e3), Bool.true_and, show 1 - 1 + arK (f i) = arK (f i) by omega]
        have hb := q_behind hL h1 hf (L - i) fu i 1 (by unfold fu; omega) (by omega) (by omega) (by omega)
        rcases hb with ⟨p, p1, p2, p3, p4⟩ | ⟨p3, p4⟩
        · have p3' : f_MO_behind (nI i) μ = some (nI p) := p3
          rw [p3', b1_s, b1_s, ih fl p (by omega) p1 (by omega), ← hq1, p4]
        · have p3' : f_MO_behind (nI i) μ = some (-1) := p3
          rw [p3', b1_s, b1_s, ← hq1, p4]
          cases fl with
          | zero => omega
          | succ fl =>
          unfold f_MO_areGoals_2
          rw [if_pos (by decide), h1, if_pos ?_]
          · rfl
          · intro q
            have q9 : (-1 : Int32).toInt = (nI L).toInt := congrArg Int32.toInt q
            rw [nI_toInt (by omega), show (-1 : Int32).toInt = -1 by decide] at q9
            omega
    · rw [if_neg (show ¬ 2 ≤ nI (f i) from nI_ge (b := 2) (by omega) (by omega)), show decide (2 ≤ f i) = false from decide_eq_false e2, Bool.false_and]
      rfl
theorem q_m (hL : L ≤ 30) (h1 : μ 70 1 = nI L) (hf : ∀ j, j < L → f j = kd (μ 71 j)) : f_MO_areGoals 0 μ = some (bI (qsc f L 0 0)) :=
  q_goals hL h1 hf L fu 0 (by unfold fu; omega) (by omega) (by omega)
end PSA
