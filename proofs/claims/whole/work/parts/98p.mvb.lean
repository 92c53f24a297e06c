section MVB
/-- goals move -/
theorem mg_s {g cap E : Nat} {np : Nat → Nat} (hg : gOK g) (hE : E ≤ cap) (hcap : cap < 2 ^ 29) (d : Nat) : ∀ (fl p : Nat) (μ : Mu), p + d = E → d < fl → (∀ x, x < cap → μ (g + 3) x = 0 ∨ μ (g + 3) x = 1) → (∀ x, p ≤ x → x < cap → μ (g + 3) x = 1 → (∃ j, j < 240 ∧ tgt (μ g x) j ∧ μ 65 j = nI (np j) ∧ np j < 2 ^ 27) ∨ (kd (μ g x) ≠ 0 ∧ kd (μ g x) ≠ 7)) →
    ∃ μ', f_CO_moveGoals_2 g cap (nI E) fl (nI p) μ = some μ' ∧ (∀ k, k ≠ g → k ≠ g + 3 → μ' k = μ k) ∧ (∀ x, x < p → μ' g x = μ g x ∧ μ' (g + 3) x = μ (g + 3) x) ∧ (∀ x, p ≤ x → x < E → μ' g x = (if μ (g + 3) x = 1 then mv np (μ g x) else μ g x) ∧ μ' (g + 3) x = 0) ∧ (∀ x, E ≤ x → μ' g x = μ g x ∧ μ' (g + 3) x = μ (g + 3) x) := by
  have hgg : g + 3 ≠ 65 ∧ g ≠ 65 := by unfold gOK at hg; omega
  induction d with
  | zero =>
    intro fl p μ h1 h2 h3 h4
    cases fl with
    | zero => omega
    | succ fl =>
    have e : p = E := by omega
    subst e
    refine ⟨μ, ?_, fun _ _ _ => rfl, fun _ _ => ⟨rfl, rfl⟩, fun x q1 q2 => by omega, fun _ _ => ⟨rfl, rfl⟩⟩
    unfold f_CO_moveGoals_2
    rw [if_pos (nI_le (Nat.le_refl _) (by omega))]
  | succ d ih =>
    intro fl p μ h1 h2 h3 h4
    cases fl with
    | zero => omega
    | succ fl =>
    have hun : ∀ v2, μ (g + 3) p = v2 → f_CO_moveGoals_2 g cap (nI E) (fl + 1) (nI p) μ = (b1 (if v2 = 0 then some μ else (b1 (rd (μ g) cap (nI p)) fun v8 => b1 (f_CO_moved v8 μ) fun v11 => b1 (wr μ g cap (nI p) v11) fun μ12 => b1 (wz μ12 (g + 3) cap (nI p) 0) fun μ15 => some μ15)) fun μ4 => f_CO_moveGoals_2 g cap (nI E) fl (nI (p + 1)) μ4) := by
      intro v2 h
      rw [f_CO_moveGoals_2]
      rw [if_neg (nI_ge (by omega) (by omega)), rd_n (by omega) (by omega), b1_s, h, nI_1]
    rcases h3 p (by omega) with hs | hs
    · obtain ⟨μ', u1, u2, u3, u4, u5⟩ := ih fl (p + 1) μ (by omega) (by omega) h3 (fun x q1 q2 q3 => h4 x (by omega) q2 q3)
      refine ⟨μ', ?_, u2, fun x hx => u3 x (by omega), fun x q1 q2 => ?_, u5⟩
      · rw [hun 0 hs, if_pos rfl, b1_s]; exact u1
      · by_cases e : x = p
        · subst e
          obtain ⟨w1, w2⟩ := u3 x (by omega)
          rw [w1, w2, hs, if_neg (by decide)]
          exact ⟨rfl, rfl⟩
        · exact u4 x (by omega) q2
    · have hm := moved_s (np := np) (h4 p (Nat.le_refl _) (by omega) hs)
      have r0 : sI (sI μ g p (mv np (μ g p))) (g + 3) p 0 g = upd (μ g) p (mv np (μ g p)) := by rw [sI_nk (by omega)]; exact sI_r
      have r3 : sI (sI μ g p (mv np (μ g p))) (g + 3) p 0 (g + 3) = upd (μ (g + 3)) p 0 := by rw [sI_r, sI_nk (by omega)]
      have r65 : sI (sI μ g p (mv np (μ g p))) (g + 3) p 0 65 = μ 65 := by rw [sI_nk (by omega), sI_nk (by omega)]
      obtain ⟨μ', u1, u2, u3, u4, u5⟩ := ih fl (p + 1) (sI (sI μ g p (mv np (μ g p))) (g + 3) p 0) (by omega) (by omega) (fun x hx => by
        rw [r3]
        by_cases e : x = p
        · subst e; exact Or.inl upd_a
        · rw [upd_n e]; exact h3 x hx) (fun x q1 q2 q3 => by
        rw [r0, r65, upd_n (by omega)]
        rw [r3, upd_n (by omega)] at q3
        exact h4 x (by omega) q2 q3)
      rw [r0, r3] at u3 u4 u5
      refine ⟨μ', ?_, fun k q1 q2 => by rw [u2 k q1 q2, sI_nk q2, sI_nk q1], fun x hx => ?_, fun x q1 q2 => ?_, fun x hx => ?_⟩
      · rw [hun 1 hs, if_neg (by decide), rd_n (by omega) (by omega), b1_s, hm, b1_s, wr_n (by omega) (by omega), b1_s, wz_n (by omega) (by omega) (Or.inl rfl), b1_s, b1_s]
        exact u1
      · obtain ⟨w1, w2⟩ := u3 x (by omega)
        rw [w1, w2, upd_n (by omega), upd_n (by omega)]; exact ⟨rfl, rfl⟩
      · by_cases e : x = p
        · subst e
          obtain ⟨w1, w2⟩ := u3 x (by omega)
          rw [w1, w2, upd_a, upd_a, hs, if_pos rfl]
          exact ⟨rfl, rfl⟩
        · obtain ⟨w1, w2⟩ := u4 x (by omega) q2
          rw [upd_n e, upd_n e] at w1
          exact ⟨w1, w2⟩
      · obtain ⟨w1, w2⟩ := u5 x hx
        rw [w1, w2, upd_n (by omega), upd_n (by omega)]; exact ⟨rfl, rfl⟩
theorem mm_2 {c : Nat} {cm np : Nat → Nat} (hc : c ≤ 300) (d : Nat) : ∀ (fl j : Nat) (μ : Mu), j + d = c → d < fl → μ 58 5 = nI c → (∀ x, j ≤ x → x < c → μ 61 x = nI (cm x) ∧ cm x ≤ 240 ∧ μ 65 (cm x) = nI (np (cm x))) →
    ∃ μ', f_CO_moveMarks_2 fl (nI j) μ = some μ' ∧ (∀ k, k ≠ 61 → μ' k = μ k) ∧ (∀ x, x < j → μ' 61 x = μ 61 x) ∧ (∀ x, j ≤ x → x < c → μ' 61 x = nI (np (cm x))) := by
  induction d with
  | zero =>
    intro fl j μ h1 h2 h3 h4
    cases fl with
    | zero => omega
    | succ fl =>
    refine ⟨μ, ?_, fun _ _ => rfl, fun _ _ => rfl, fun x q1 q2 => by omega⟩
    unfold f_CO_moveMarks_2
    rw [h3, if_pos (nI_le (by omega) (by omega))]
  | succ d ih =>
    intro fl j μ h1 h2 h3 h4
    cases fl with
    | zero => omega
    | succ fl =>
    obtain ⟨a1, a2, a3⟩ := h4 j (Nat.le_refl _) (by omega)
    obtain ⟨μ', u1, u2, u3, u4⟩ := ih fl (j + 1) (sI μ 61 j (nI (np (cm j)))) (by omega) (by omega) h3 (fun x q1 q2 => by
      rw [sI_nj (by omega)]
      exact h4 x (by omega) q2)
    refine ⟨μ', ?_, fun k hk => by rw [u2 k hk, sI_nk hk], fun x hx => by rw [u3 x (by omega), sI_nj (by omega)], fun x q1 q2 => ?_⟩
    · unfold f_CO_moveMarks_2
      rw [h3, if_neg (nI_ge (by omega) (by omega)), rd_n (by omega) (by decide), b1_s, a1, rd_n (by omega) (by decide), b1_s, a3, wr_n (by omega) (by decide), b1_s, nI_1]
      exact u1
    · by_cases e : x = j
      · subst e; rw [u3 x (by omega), sI_at]
      · exact u4 x (by omega) q2
theorem mm_44 {tr : Nat} {np : Nat → Nat} (htr : tr ≤ 240) (d : Nat) : ∀ (fl x : Nat) (μ : Mu), x + d = tr → d < fl → μ 40 3 = nI tr → (∀ y, x ≤ y → y < tr → ∃ i, i < 240 ∧ μ 42 y = wd i 0 ∧ μ 65 i = nI (np i) ∧ np i < 2 ^ 27) →
    ∃ μ', f_CO_moveMarks_44 fl (nI x) μ = some μ' ∧ (∀ k, k ≠ 42 → μ' k = μ k) ∧ (∀ y, y < x → μ' 42 y = μ 42 y) ∧ (∀ y, x ≤ y → y < tr → μ' 42 y = mv np (μ 42 y)) := by
  induction d with
  | zero =>
    intro fl x μ h1 h2 h3 h4
    cases fl with
    | zero => omega
    | succ fl =>
    refine ⟨μ, ?_, fun _ _ => rfl, fun _ _ => rfl, fun x q1 q2 => by omega⟩
    unfold f_CO_moveMarks_44
    rw [h3, if_pos (nI_le (by omega) (by omega))]
  | succ d ih =>
    intro fl x μ h1 h2 h3 h4
    cases fl with
    | zero => omega
    | succ fl =>
    obtain ⟨i, a1, a2, a3, a4⟩ := h4 x (Nat.le_refl _) (by omega)
    have hm : f_CO_moved (μ 42 x) μ = some (mv np (μ 42 x)) := moved_s (Or.inl ⟨i, a1, Or.inl a2, a3, a4⟩)
    obtain ⟨μ', u1, u2, u3, u4⟩ := ih fl (x + 1) (sI μ 42 x (mv np (μ 42 x))) (by omega) (by omega) h3 (fun y q1 q2 => by
      rw [sI_nj (by omega)]
      exact h4 y (by omega) q2)
    refine ⟨μ', ?_, fun k hk => by rw [u2 k hk, sI_nk hk], fun y hy => by rw [u3 y (by omega), sI_nj (by omega)], fun y q1 q2 => ?_⟩
    · unfold f_CO_moveMarks_44
      rw [h3, if_neg (nI_ge (by omega) (by omega)), rd_n (by omega) (by decide), b1_s, hm, b1_s, wr_n (by omega) (by decide), b1_s, nI_1]
      exact u1
    · by_cases e : y = x
      · subst e; rw [u3 y (by omega), sI_at]
      · rw [u4 y (by omega) q2, sI_nj e]
/-- the reference gives the cells back that are not marked -/
theorem fr_184 {mn : Int32} (d : Nat) : ∀ (fl x s : Nat) (ν : Mu), x + d = 240 → d < fl → s ≤ x → ν 70 34 = mn →
    ∃ ν' s', f_MO_free_184 fl (nI s) (nI x) ν = some (nI s', ν') ∧ (∀ k, k ≠ 74 → ν' k = ν k) ∧ (∀ y, y < x → ν' 74 y = ν 74 y) ∧ (∀ y, x ≤ y → y < 240 → ν' 74 y = if ¬ ν 74 y ≤ 0 ∧ ν 90 y ≠ mn then 0 else ν 74 y) ∧ s' + cnt (fun y => decide (¬ ν 74 y ≤ 0 ∧ ν 90 y ≠ mn)) x = s + cnt (fun y => decide (¬ ν 74 y ≤ 0 ∧ ν 90 y ≠ mn)) 240 := by
  induction d with
  | zero =>
    intro fl x s ν h1 h2 h3 h4
    cases fl with
    | zero => omega
    | succ fl =>
    have e : x = 240 := by omega
    subst e
    refine ⟨ν, s, ?_, fun _ _ => rfl, fun _ _ => rfl, fun y q1 q2 => by omega, rfl⟩
    unfold f_MO_free_184
    rw [if_pos (by decide)]
  | succ d ih =>
    intro fl x s ν h1 h2 h3 h4
    cases fl with
    | zero => omega
    | succ fl =>
    have hun : ∀ v69, (if ν 74 x ≤ 0 then some (0 : Int32) else if ν 90 x = ν 70 34 then some (0 : Int32) else some (1 : Int32)) = some v69 → f_MO_free_184 (fl + 1) (nI s) (nI x) ν = (b1 (if v69 = 0 then some (0 : Int32) else some (1 : Int32)) fun v76 => b1 (if v69 = 0 then b1 (rd (ν 74) 240 (nI x)) fun v84 => some v84 else some (0 : Int32)) fun v80 => b1 (wr ν 74 240 (nI x) v80) fun μ86 => f_MO_free_184 fl (nI s + v76) (nI (x + 1)) μ86) := by
      intro v69 h
      rw [f_MO_free_184]
      rw [if_neg (show ¬ 240 ≤ nI x from nI_ge (b := 240) (by omega) (by decide)), rd_n (by omega) (by decide), b1_s, rd_n (by omega) (by decide), b1_s, h, b1_s, nI_1]
    by_cases hgo : ¬ ν 74 x ≤ 0 ∧ ν 90 x ≠ mn
    · obtain ⟨ν', s', u1, u2, u3, u4, u5⟩ := ih fl (x + 1) (s + 1) (sI ν 74 x 0) (by omega) (by omega) (by omega) h4
      have hx : ν' 74 x = 0 := by rw [u3 x (by omega), sI_at]
      refine ⟨ν', s', ?_, fun k hk => by rw [u2 k hk, sI_nk hk], fun y hy => by rw [u3 y (by omega), sI_nj (by omega)], fun y q1 q2 => ?_, ?_⟩
      · rw [hun 1 (by rw [if_neg hgo.1, h4, if_neg hgo.2]), if_neg (by decide), b1_s, if_neg (by decide), b1_s, wr_n (by omega) (by decide), b1_s, nI_1]
        exact u1
      · by_cases e : y = x
        · subst e; rw [hx, if_pos hgo]
        · rw [u4 y (by omega) q2]
          show (if ¬ sI ν 74 x 0 74 y ≤ 0 ∧ ν 90 y ≠ mn then 0 else sI ν 74 x 0 74 y) = _
          rw [sI_nj e]
      · rw [cnt_s] at u5
        have c1 : cnt (fun y => decide (¬ sI ν 74 x 0 74 y ≤ 0 ∧ sI ν 74 x 0 90 y ≠ mn)) x = cnt (fun y => decide (¬ ν 74 y ≤ 0 ∧ ν 90 y ≠ mn)) x := cnt_eq x (fun y hy => by
          rw [sI_nj (show y ≠ x by omega)]; rfl)
        have c2 : cnt (fun y => decide (¬ ν 74 y ≤ 0 ∧ ν 90 y ≠ mn)) 240 = cnt (fun y => decide (¬ sI ν 74 x 0 74 y ≤ 0 ∧ sI ν 74 x 0 90 y ≠ mn)) 240 + 1 := by
          refine cnt_set (k := x) (by omega) (fun y hy hne => ?_) (decide_eq_false (fun q => ?_)) (decide_eq_true hgo)
          · rw [sI_nj hne]; rfl
          · have := q.1
            rw [sI_at] at this
            exact this (by decide)
        have c3 : ¬ (decide (¬ sI ν 74 x 0 74 x ≤ 0 ∧ sI ν 74 x 0 90 x ≠ mn) = true) := by
          intro q
          have := (of_decide_eq_true q).1
          rw [sI_at] at this
          exact this (by decide)
        rw [if_neg c3] at u5
        omega
    · obtain ⟨ν', s', u1, u2, u3, u4, u5⟩ := ih fl (x + 1) s ν (by omega) (by omega) (by omega) h4
      refine ⟨ν', s', ?_, u2, fun y hy => u3 y (by omega), fun y q1 q2 => ?_, ?_⟩
      · have hv : (if ν 74 x ≤ 0 then some (0 : Int32) else if ν 90 x = ν 70 34 then some (0 : Int32) else some (1 : Int32)) = some 0 := by
          by_cases e : ν 74 x ≤ 0
          · rw [if_pos e]
          · rw [if_neg e, if_pos]
            apply Classical.byContradiction
            intro w
            exact hgo ⟨e, by rw [← h4]; exact w⟩
        rw [hun 0 hv, if_pos rfl, b1_s, if_pos rfl, rd_n (by omega) (by decide), b1_s, b1_s, wr_n (by omega) (by decide), b1_s, sI_same rfl, show nI s + 0 = nI (s + 0) from nI_add s 0]
        exact u1
      · by_cases e : y = x
        · subst e; rw [u3 y (by omega), if_neg hgo]
        · exact u4 y (by omega) q2
      · rw [cnt_s, if_neg (by rw [decide_eq_false hgo]; decide)] at u5
        omega
end MVB
