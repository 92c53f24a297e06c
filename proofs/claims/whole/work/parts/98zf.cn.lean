/-! count -/
section CNA
theorem c_count {z n g cap : Nat} {acc : Nat × Nat} {μ ν : Mu} (h : glR z n acc g cap μ ν) (x : Int32) :
    ∃ (cd : Nat) (r b : Int32), f_GE_count g cap x μ = some (cd, r) ∧ f_MO_count x ν = some (b, sI ν 70 0 (nI cd)) ∧ (cd = 0 ∨ cd = 1) ∧ (cd = 0 → r = b) := by
  obtain ⟨ha, R, t, hb, hs⟩ := h
  obtain ⟨⟨tn, t1, t2, t3, t4⟩, ⟨r1, r2, r3, r4⟩, ht3, ht1, ht2, hco⟩ := hb
  have hcap := ha.2.2.2.2.2.1
  -- cells, choices, goals
  obtain ⟨va, vb, vc, ln, e1, e2, e3, e4, e5, e6⟩ : ∃ (va vb vc : Int32) (ln : Nat), f_SE_cellsInUse μ = some va ∧ f_MO_inUse ν = some va ∧ f_SE_choicesLeft μ = some vb ∧ ν 70 18 = vb ∧ f_SE_goalsAtHand g cap μ = some (nI ln) ∧ f_MO_count_26 2 fu 0 (ν 70 16) ν = some (nI ln) := by
    have hB : ∀ s : Int32, μ 37 11 = s → s ≠ 0 → actB g cap R t z μ ν → ∃ (va vb vc : Int32) (ln : Nat), f_SE_cellsInUse μ = some va ∧ f_MO_inUse ν = some va ∧ f_SE_choicesLeft μ = some vb ∧ ν 70 18 = vb ∧ f_SE_goalsAtHand g cap μ = some (nI ln) ∧ f_MO_count_26 2 fu 0 (ν 70 16) ν = some (nI ln) := by
      rintro s q1 q2 ⟨has, N, S, c, tr, tb, nq, GT, P, M, φ, K, τ, cm, tm, gm, cs, ct, ⟨hR, ⟨p1, p2, p3⟩, ⟨n1, n2, n3, n4⟩, htrl, hseg, hdn, hmrk, hrows, hchg, hcur, hque, hseen, hpot, hbnd, hmk, hlow⟩, b1, b2, b3, b4, b5⟩
      have hne : ¬ μ 37 11 = 0 := by rw [q1]; exact q2
      obtain ⟨⟨ln, hch⟩, hc2, hc3, -⟩ := hcur
      have hgb : ∀ x, x < 2 ^ 29 → ν 70 16 = nI x → x < GT := by
        intro x hx q
        rcases hc3 with w | ⟨gg, w1, w2⟩
        · rw [w] at q; exact absurd q (n_m1 (by omega))
        · rw [w1] at q
          have := (nI_eq (by omega) (by omega)).mp q
          omega
      have hpb : ∀ x, x < 2 ^ 29 → μ 37 9 = nI x → x < cap := by
        intro x hx q
        rcases hc2 with w | ⟨pp, w1, w2, w3⟩
        · rw [w] at q; exact absurd q (n_m1 (by omega))
        · rw [w1] at q
          have := (nI_eq (by omega) (by omega)).mp q
          omega
      have hln := chR_len ln _ _ GT hch hgb
      refine ⟨nI N, nI c, 0, ln, ?_, inUse_s (Q_of hR) rfl, ?_, n3, ?_, ?_⟩
      · unfold f_SE_cellsInUse; rw [if_pos hne, p1]
      · unfold f_SE_choicesLeft; rw [if_pos hne, p3]
      · unfold f_SE_goalsAtHand f_GO_lengthFrom
        rw [if_pos hne, if_pos ha.2.1, show f_GO_lengthFrom_4 g cap fu 0 (μ 37 9) μ = some (nI (0 + ln)) from len_c (E := cap) (by omega) (Nat.le_refl _) ln fu 0 _ _ hch hpb (by unfold fu; omega) (by omega), b1_s, b1_s, Nat.zero_add]
      · have := len_m (GT := GT) (by omega) ln fu 0 _ _ hch hgb (by unfold fu; omega)
        rw [Nat.zero_add] at this
        exact this
    rcases hs with ⟨s1, ⟨s2, s3, s4, s5, s6⟩, -⟩ | ⟨s1, s2, s3, s4, -⟩ | ⟨s1, s2, s3, s4, -⟩
    · have hQ : cellsQ (fun _ => False) (μ 41) (ν 74) (ν 75) (ν 76) (ν 77) (ν 78) (ν 79) 0 0 (fun _ => 0) (fun _ => 0) (fun _ => 0) := ⟨by omega, by decide, fun i hi => by omega, fun i j _ hj => by omega, fun c hc => Or.inl (s6 c hc), fun i hi => by omega, fun i hi => by omega⟩
      refine ⟨0, 0, 0, 0, ?_, inUse_s hQ rfl, ?_, s4, ?_, ?_⟩
      · unfold f_SE_cellsInUse; rw [if_neg (not_not_intro s1)]
      · unfold f_SE_choicesLeft; rw [if_neg (not_not_intro s1)]
      · unfold f_SE_goalsAtHand; rw [if_neg (not_not_intro s1)]; rfl
      · rw [s5, show fu = 99999 + 1 from rfl, f_MO_count_26, if_pos (by decide)]; rfl
    · exact hB 1 s1 (by decide) s4
    · exact hB 2 s1 (by decide) s4
  have h26 : ∀ v : Int32, ¬ x = 2 → f_MO_count_26 x fu 0 (ν 70 16) (sI ν 70 0 v) = some 0 := by
    intro v q
    rw [show fu = 99999 + 1 from rfl, f_MO_count_26]
    by_cases e : ν 70 16 < 0
    · rw [if_pos e]
    · rw [if_neg e, if_pos q]
  -- the reference reads 80, 81 alone there
  have h262 : ∀ (fl : Nat) (y p : Int32) (ν1 ν2 : Mu), ν1 81 = ν2 81 → f_MO_count_26 2 fl y p ν1 = f_MO_count_26 2 fl y p ν2 := by
    intro fl
    induction fl with
    | zero => intro y p ν1 ν2 _; rfl
    | succ fl ih =>
      intro y p ν1 ν2 q
      rw [f_MO_count_26, f_MO_count_26, q]
      by_cases e : p < 0
      · rw [if_pos e, if_pos e]
      · rw [if_neg e, if_neg e, if_neg (not_not_intro rfl), if_neg (not_not_intro rfl)]
        cases hr : rd (ν2 81) 8900 p with
        | none => rfl
        | some v => rw [b1_s, b1_s]; exact ih _ _ _ _ q
  have hin : f_MO_inUse (sI ν 70 0 0) = some va := by
    have : ∀ (fl : Nat) (a b : Int32) (ν1 ν2 : Mu), ν1 74 = ν2 74 → f_MO_inUse_4 fl a b ν1 = f_MO_inUse_4 fl a b ν2 := by
      intro fl
      induction fl with
      | zero => intro a b ν1 ν2 _; rfl
      | succ fl ih =>
        intro a b ν1 ν2 q
        rw [f_MO_inUse_4, f_MO_inUse_4, q]
        by_cases e : 240 ≤ b
        · rw [if_pos e, if_pos e]
        · rw [if_neg e, if_neg e]
          cases hr : rd (ν2 74) 240 b with
          | none => rfl
          | some v =>
            rw [b1_s, b1_s]
            by_cases e2 : v ≤ 0
            · rw [if_pos e2, b1_s, b1_s]; exact ih _ _ _ _ q
            · rw [if_neg e2, b1_s, b1_s]; exact ih _ _ _ _ q
    unfold f_MO_inUse at e2 ⊢
    rw [this fu 0 0 (sI ν 70 0 0) ν rfl]; exact e2
  by_cases x0 : x = 0
  · subst x0
    refine ⟨0, va, va, ?_, ?_, Or.inl rfl, fun _ => rfl⟩
    · unfold f_GE_count; rw [if_pos rfl, e1, b1_s]
    · unfold f_MO_count
      rw [if_neg (by decide), if_pos (by decide), b1_s, h26 0 (by decide), b1_s, if_pos rfl, if_neg (not_not_intro rfl), hin, b1_s]
      rfl
  by_cases x1 : x = 1
  · subst x1
    refine ⟨0, vb, vb, ?_, ?_, Or.inl rfl, fun _ => rfl⟩
    · unfold f_GE_count; rw [if_neg (by decide), if_pos rfl, e3, b1_s]
    · unfold f_MO_count
      rw [if_neg (by decide), if_pos (by decide), b1_s, h26 0 (by decide), b1_s, if_pos rfl, if_pos (by decide), if_neg (not_not_intro rfl), e4]
      rfl
  by_cases x2 : x = 2
  · subst x2
    refine ⟨0, nI ln, nI ln, ?_, ?_, Or.inl rfl, fun _ => rfl⟩
    · unfold f_GE_count; rw [if_neg (by decide), if_neg (by decide), if_pos rfl, e5, b1_s]
    · unfold f_MO_count
      rw [if_neg (by decide), if_pos (by decide), b1_s, h262 fu 0 (ν 70 16) (sI ν 70 0 0) ν rfl, e6, b1_s, if_pos rfl, if_pos (by decide), if_pos (by decide), if_neg (not_not_intro rfl)]
      rfl
  by_cases x3 : x = 3
  · subst x3
    refine ⟨0, nI t, nI t, ?_, ?_, Or.inl rfl, fun _ => rfl⟩
    · unfold f_GE_count; rw [if_neg (by decide), if_neg (by decide), if_neg (by decide), if_pos rfl, ht1]
    · unfold f_MO_count
      rw [if_neg (by decide), if_pos (by decide), b1_s, h26 0 (by decide), b1_s, if_pos rfl, if_pos (by decide), if_pos (by decide), if_pos (by decide), if_neg (not_not_intro rfl), ht2]
      rfl
  by_cases x4 : x = 4
  · subst x4
    refine ⟨0, nI R, nI R, ?_, ?_, Or.inl rfl, fun _ => rfl⟩
    · unfold f_GE_count; rw [if_neg (by decide), if_neg (by decide), if_neg (by decide), if_neg (by decide), if_pos rfl, r2]
    · unfold f_MO_count
      rw [if_neg (by decide), if_pos (by decide), b1_s, h26 0 (by decide), b1_s, if_pos rfl, if_pos (by decide), if_pos (by decide), if_pos (by decide), if_pos (by decide), if_neg (not_not_intro rfl), r3]
      rfl
  by_cases x5 : x = 5
  · subst x5
    refine ⟨0, nI tn, nI tn, ?_, ?_, Or.inl rfl, fun _ => rfl⟩
    · unfold f_GE_count; rw [if_neg (by decide), if_neg (by decide), if_neg (by decide), if_neg (by decide), if_neg (by decide), if_pos rfl, t2]
    · unfold f_MO_count
      rw [if_neg (by decide), if_pos (by decide), b1_s, h26 0 (by decide), b1_s, if_pos rfl, if_pos (by decide), if_pos (by decide), if_pos (by decide), if_pos (by decide), if_pos (by decide), if_neg (not_not_intro rfl), t3]
      rfl
  by_cases x6 : x = 6
  · subst x6
    refine ⟨0, ν 70 28, ν 70 28, ?_, ?_, Or.inl rfl, fun _ => rfl⟩
    · unfold f_GE_count f_SE_collections; rw [if_neg (by decide), if_neg (by decide), if_neg (by decide), if_neg (by decide), if_neg (by decide), if_neg (by decide), if_pos rfl, b1_s, hco]
    · unfold f_MO_count
      rw [if_neg (by decide), if_pos (by decide), b1_s, h26 0 (by decide), b1_s, if_pos rfl, if_pos (by decide), if_pos (by decide), if_pos (by decide), if_pos (by decide), if_pos (by decide), if_pos (by decide)]
      rfl
  · refine ⟨1, 0, 0, ?_, ?_, Or.inr rfl, fun q => by omega⟩
    · unfold f_GE_count; rw [if_neg x0, if_neg x1, if_neg x2, if_neg x3, if_neg x4, if_neg x5, if_neg x6]
    · have hv : (if x < 0 then some ((1 : Int32)) else (if x ≤ 6 then some ((0 : Int32)) else some ((1 : Int32)))) = some 1 := by
        by_cases e : x < 0
        · rw [if_pos e]
        · rw [if_neg e, if_neg]
          intro q
          obtain ⟨k, k1, k2⟩ := nI_of2 (M := 6) (n := 6) (by decide) e q
          rcases (show k = 0 ∨ k = 1 ∨ k = 2 ∨ k = 3 ∨ k = 4 ∨ k = 5 ∨ k = 6 by omega) with w | w | w | w | w | w | w <;> subst w
          · exact x0 k2
          · exact x1 k2
          · exact x2 k2
          · exact x3 k2
          · exact x4 k2
          · exact x5 k2
          · exact x6 k2
      unfold f_MO_count
      rw [hv, b1_s, h26 1 x2, b1_s, if_neg (by decide)]
      rfl
end CNA
