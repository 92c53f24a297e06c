/-! next, stop, collect, count -/
section NXA
theorem stR_0 {g cap R t z : Nat} {μ ν : Mu} {x : Int32} (h : stR g cap R t z μ ν) : stR g cap R t z μ (sI ν 70 0 x) := by
  rcases h with ⟨a, b, c, M, d, e⟩ | ⟨a, b, c, d, e⟩ | ⟨a, b, c, d, e⟩
  · exact Or.inl ⟨a, b, c, M, d, e⟩
  · exact Or.inr (Or.inl ⟨a, b, c, d, e⟩)
  · exact Or.inr (Or.inr ⟨a, b, c, d, e⟩)
theorem baR_0 {R t : Nat} {μ ν : Mu} {x : Int32} (h : baR R t μ ν) : baR R t μ (sI ν 70 0 x) := h
/-- seen and marks, in any state -/
theorem stR_x {g cap R t z : Nat} {μ ν : Mu} (h : stR g cap R t z μ ν) : (∀ p, p < cap → μ (g + 3) p = 0) ∧ ∃ M, mkB M ν ∧ M ≤ 302 * (300 - t) + z ∧ 0 ≤ μ 58 5 := by
  have hB : actB g cap R t z μ ν → (∀ p, p < cap → μ (g + 3) p = 0) ∧ ∃ M, mkB M ν ∧ M ≤ 302 * (300 - t) + z ∧ 0 ≤ μ 58 5 := by
    rintro ⟨has, N, S, c, tr, tb, nq, GT, P, M, φ, K, τ, cm, tm, gm, cs, ct, ⟨hR, hp, hn, htrl, hseg, hdn, hmrk, hrows, hchg, hcur, hque, hseen, hpot, hbnd, hmk, hlow⟩, b1, b2, b3, b4, b5⟩
    exact ⟨hseen, M, hmk, b5, by rw [hp.2.2]; exact nI_pos' (by omega)⟩
  rcases h with ⟨a, b, c, d⟩ | ⟨a, b, c, d, e⟩ | ⟨a, b, c, d, e⟩
  · exact ⟨c, d⟩
  · exact hB d
  · exact hB d
/-- both searches end -/
theorem over_s {g cap R t z : Nat} {μ ν : Mu} (hg : gOK g) (hs : stR g cap R t z μ ν) : ∃ ν', f_MO_end ν = some ν' ∧ stR g cap R t z (sI μ 37 11 0) ν' ∧ ν' 70 25 = 0 ∧ ν' 70 0 = ν 70 0 ∧ (∀ k, k ≠ 70 → k ≠ 74 → ν' k = ν k) ∧ (∀ j, j = 1 ∨ j = 3 ∨ j = 27 ∨ j = 28 → ν' 70 j = ν 70 j) := by
  obtain ⟨hse, M, hmk, hM⟩ := stR_x hs
  obtain ⟨ν', u1, u2, u3, u4, u5⟩ := end_s ν
  refine ⟨ν', u1, Or.inl ⟨rfl, u2, fun p hp => ?_, M, ?_, hM⟩, u2.1, u5 0 (by decide) (by decide) (by decide) (by decide) (by decide), u4, fun j hj => u5 j (by omega) (by omega) (by omega) (by omega) (by omega)⟩
  · rw [sI_nk (by unfold gOK at hg; omega)]; exact hse p hp
  · unfold mkB
    rw [u4 90 (by decide) (by decide), u5 34 (by decide) (by decide) (by decide) (by decide) (by decide)]; exact hmk
theorem tow_s {g cap R t z : Nat} {μ ν : Mu} (hg : gOK g) (hR16 : R ≤ 16) (ht : t ≤ 300) (h : actB g cap R t z μ ν) (h25 : ν 70 25 = 1) (h26 : ν 70 26 = 0) :
    ∃ μ' ν', f_SE_tryOtherWay μ = some μ' ∧ f_MO_fail ν = some ν' ∧ stR g cap R t z μ' ν' ∧ ((μ' 37 11 = 0 ∧ ν' 70 25 = 0) ∨ (μ' 37 11 = 1 ∧ ν' 70 25 = 1)) ∧ ν' 70 0 = ν 70 0 ∧ (∀ k, k ≠ 37 → k ≠ 40 → k ≠ 41 → k ≠ 58 → μ' k = μ k) ∧ μ' 37 12 = μ 37 12 ∧ (∀ k, k ≠ 70 → k ≠ 74 → k ≠ 76 → ν' k = ν k) ∧ (∀ j, j = 1 ∨ j = 3 ∨ j = 27 ∨ j = 28 → ν' 70 j = ν 70 j) := by
  obtain ⟨has, N, S, c, tr, tb, nq, GT, P, M, φ, K, τ, cm, tm, gm, cs, ct, ha, b1', b2', b3, b4, b5⟩ := h
  obtain ⟨hR, ⟨p1, p2, p3⟩, ⟨n1, n2, n3, n4⟩, htrl, hseg, hdn, hmrk, hrows, hchg, hcur, hque, hseen, hpot, hbnd, hmk, hlow⟩ := id ha
  have hng : g ≠ 37 ∧ g + 1 ≠ 37 ∧ g + 2 ≠ 37 ∧ g + 3 ≠ 37 := by unfold gOK at hg; omega
  by_cases ec : c = 0
  · subst ec
    obtain ⟨ν', u1, u2, u3, u4, u5⟩ := end_s ν
    refine ⟨sI μ 37 11 0, ν', ?_, ?_, Or.inl ⟨rfl, u2, fun p hp => ?_, M, ?_, b5, (show 0 ≤ μ 58 5 by rw [p3]; decide)⟩, Or.inl ⟨rfl, u2.1⟩, u5 0 (by decide) (by decide) (by decide) (by decide) (by decide), fun k a _ _ _ => sI_nk a, rfl, fun k a b _ => u4 k a b, fun j hj => u5 j (by omega) (by omega) (by omega) (by omega) (by omega)⟩
    · unfold f_SE_tryOtherWay
      rw [p3, if_neg (not_not_intro (show nI 0 = 0 from rfl))]
    · unfold f_MO_fail
      rw [n3, if_neg (not_not_intro (show nI 0 = 0 from rfl)), u1, b1_s]
    · rw [sI_nk (by omega)]; exact hseen p hp
    · unfold mkB
      rw [u4 90 (by decide) (by decide), u5 34 (by decide) (by decide) (by decide) (by decide) (by decide)]; exact hmk
  · obtain ⟨c0, hc0⟩ : ∃ c0, c = c0 + 1 := ⟨c - 1, by omega⟩
    subst hc0
    obtain ⟨μ', ν', u1, u2, u3, u4, u5, u6, u7, u8⟩ := back_s ha hg (by omega) (by omega) (by omega) hR16
    have e25 : ν' 70 25 = 1 := by rw [u8 25 (by decide) (by decide) (by decide) (by decide)]; exact h25
    refine ⟨μ', ν', u1, u2, Or.inr (Or.inl ⟨u3, e25, ?_, ⟨has, cm c0, S, c0, tm c0, ct c0, nq, GT, P, M, φ, K, τ, cm, tm, gm, cs, ct, u4, by omega, b2', b3, b4, b5⟩, ?_⟩), Or.inr ⟨u3, e25⟩, u8 0 (by decide) (by decide) (by decide) (by decide), u5, u6 12 (by decide) (by decide) (by decide), u7, fun j hj => u8 j (by omega) (by omega) (by omega) (by omega)⟩
    · rw [u8 26 (by decide) (by decide) (by decide) (by decide)]; exact h26
    · rcases cur_e u4.2.2.2.2.2.2.2.2.2.1 with ⟨c1, c2⟩ | ⟨pp, gg, m, c1, c2, c3, c4, c5⟩
      · exfalso
        obtain ⟨q1, q2, nn, pp, gg, r2, d1, d2, d3, d4, d5, d6, d7, d8, d9⟩ := hchg c0 (by omega)
        unfold f_SE_tryOtherWay at u1
        rw [p3, if_pos (nI_ne0 (by omega) (by omega)), nI_pred] at u1
        obtain ⟨μ3, g1, u1⟩ := b1_e u1
        obtain ⟨v5, -, u1⟩ := b1_e u1
        obtain ⟨v7, -, u1⟩ := b1_e u1
        obtain ⟨μ10, g2, u1⟩ := b1_e u1
        obtain ⟨v12, g3, u1⟩ := b1_e u1
        obtain ⟨v14, -, u1⟩ := b1_e u1
        have e10 : μ10 59 = μ 59 := by
          funext j
          rw [fr_CE_goBack g2 (by unfold W_CE_goBack; omega)]
          unfold f_CH_cutTo at g1
          rw [← Option.some.inj g1]
          rfl
        rw [e10, rd_n (by omega) (by decide)] at g3
        have g4 := Option.some.inj g3
        have g5 := Option.some.inj u1
        rw [← g5] at c1
        have c1' : v12 = -1 := c1
        rw [← g4, d2] at c1'
        exact n_m1 (x := pp) (by omega) c1'.symm
      · exact ⟨pp, c1, c3⟩
theorem baR_c {R t : Nat} {μ ν μ' ν' : Mu} (h : baR R t μ ν) (h1 : ∀ k, k < 37 → μ' k = μ k) (h2 : μ' 37 12 = μ 37 12) (h3 : μ' 64 5 = μ 64 5) (h4 : ν' 71 = ν 71) (h5 : ν' 72 = ν 72) (h6 : ν' 73 = ν 73) (h7 : ∀ j, j = 1 ∨ j = 3 ∨ j = 27 ∨ j = 28 → ν' 70 j = ν 70 j) : baR R t μ' ν' := by
  obtain ⟨a1, a2, a3, a4, a5, a6⟩ := h
  exact ⟨typR_c a1 (by rw [h1 1 (by decide)]) (h1 2 (by decide)) (h7 1 (by omega)) h4, rulR_c a2 h1 h5 h6 (h7 3 (by omega)), a3, h2.trans a4, (h7 27 (by omega)).trans a5, by rw [h3, h7 28 (by omega)]; exact a6⟩
theorem c_next {z n g cap : Nat} {acc : Nat × Nat} {μ ν : Mu} (h : glR z n acc g cap μ ν) :
    ∃ (cd : Nat) (r : Int32) (μ' : Mu) (b : Int32) (ν' : Mu), f_GE_next μ = some (cd, r, μ') ∧ f_MO_next ν = some (b, ν') ∧ ((cd = 0 ∧ ν' 70 0 = 0 ∧ r = b ∧ (b = 0 ∨ b = 1)) ∨ (cd = 2 ∧ ν' 70 0 = 1 ∧ (b = 0 ∨ b = 1))) ∧ ∃ R t, baR R t μ' ν' ∧ stR g cap R t z μ' ν' := by
  obtain ⟨ha, R, t, hb, hs⟩ := h
  have hno : (μ 37 11 = 0 ∨ μ 37 11 = 1) → ν 70 26 = 0 → ∃ (cd : Nat) (r : Int32) (μ' : Mu) (b : Int32) (ν' : Mu), f_GE_next μ = some (cd, r, μ') ∧ f_MO_next ν = some (b, ν') ∧ ((cd = 0 ∧ ν' 70 0 = 0 ∧ r = b ∧ (b = 0 ∨ b = 1)) ∨ (cd = 2 ∧ ν' 70 0 = 1 ∧ (b = 0 ∨ b = 1))) ∧ ∃ R t, baR R t μ' ν' ∧ stR g cap R t z μ' ν' := by
    intro q1 q2
    refine ⟨2, 0, μ, 0, sI ν 70 0 1, ?_, ?_, Or.inr ⟨rfl, rfl, Or.inl rfl⟩, R, t, hb, stR_0 hs⟩
    · unfold f_GE_next
      rw [if_neg (by rcases q1 with q | q <;> rw [q] <;> decide)]
    · unfold f_MO_next
      rw [if_pos q2, b1_s, if_neg (by decide)]
  rcases id hs with ⟨s1, s2, -⟩ | ⟨s1, s2, s3, -⟩ | ⟨s1, s2, s3, s4, s5⟩
  · exact hno (Or.inl s1) s2.2.1
  · exact hno (Or.inr s1) s3
  · obtain ⟨has, N, S, c, tr, tb, nq, GT, P, M, φ, K, τ, cm, tm, gm, cs, ct, hact, b1', b2', b3, b4, b5⟩ := s4
    have hact2 : actR g cap R has N S c tr tb nq GT P M φ K τ cm tm gm cs ct μ (sI (sI ν 70 0 0) 70 26 0) := hact
    obtain ⟨μ', ν', u1, u2, u3, u4, u5, u6, u7, u8, u9⟩ := tow_s (ν := sI (sI ν 70 0 0) 70 26 0) ha.1 hb.2.1.1 hb.2.2.1 ⟨has, N, S, c, tr, tb, nq, GT, P, M, φ, K, τ, cm, tm, gm, cs, ct, hact2, b1', b2', b3, b4, b5⟩ s2 rfl
    have hb2 : baR R t μ' ν' := baR_c hb (fun k hk => u6 k (by omega) (by omega) (by omega) (by omega)) u7 (by rw [u6 64 (by decide) (by decide) (by decide) (by decide)]) (u8 71 (by decide) (by decide) (by decide)) (u8 72 (by decide) (by decide) (by decide)) (u8 73 (by decide) (by decide) (by decide)) (fun j hj => by rw [u9 j hj, sI_nj (by omega), sI_nj (by omega)])
    have hm : f_MO_next ν = (if ((ν' 70 25) = 0 ∨ (ν' 70 25) = 1) then some ((ν' 70 25), ν') else none) := by
      unfold f_MO_next
      rw [if_neg (by rw [s3]; decide), b1_s, if_pos rfl, u2, b1_s]
    rcases u4 with ⟨w1, w2⟩ | ⟨w1, w2⟩
    · refine ⟨0, 0, μ', 0, ν', ?_, ?_, Or.inl ⟨rfl, u5, rfl, Or.inl rfl⟩, R, t, hb2, u3⟩
      · unfold f_GE_next
        rw [if_pos s1, u1, b1_s, if_pos w1]
      · rw [hm, if_pos (Or.inl w2), w2]
    · refine ⟨0, 1, μ', 1, ν', ?_, ?_, Or.inl ⟨rfl, u5, rfl, Or.inr rfl⟩, R, t, hb2, u3⟩
      · unfold f_GE_next
        rw [if_pos s1, u1, b1_s, if_neg (by rw [w1]; decide)]
      · rw [hm, if_pos (Or.inr w2), w2]
theorem c_stop {z n g cap : Nat} {acc : Nat × Nat} {μ ν : Mu} (h : glR z n acc g cap μ ν) :
    ∃ μ' ν', f_GE_stop μ = some μ' ∧ f_MO_stop ν = some ν' ∧ ∃ R t, baR R t μ' ν' ∧ stR g cap R t z μ' ν' := by
  obtain ⟨ha, R, t, hb, hs⟩ := h
  by_cases e : ν 70 25 = 0
  · have hov : μ 37 11 = 0 := by
      rcases hs with ⟨s1, -⟩ | ⟨-, s2, -⟩ | ⟨-, s2, -⟩
      · exact s1
      · rw [s2] at e; exact absurd e (by decide)
      · rw [s2] at e; exact absurd e (by decide)
    refine ⟨sI μ 37 11 0, sI ν 70 0 0, rfl, ?_, R, t, ?_, ?_⟩
    · unfold f_MO_stop
      rw [if_pos e]
    · rw [sI_same hov]; exact hb
    · rw [sI_same hov]; exact stR_0 hs
  · obtain ⟨ν', u1, u2, u3, u4, u5, u6⟩ := over_s (ν := sI ν 70 0 0) ha.1 (stR_0 hs)
    refine ⟨sI μ 37 11 0, ν', rfl, ?_, R, t, baR_c hb (fun k hk => sI_nk (by omega)) rfl rfl (u5 71 (by decide) (by decide)) (u5 72 (by decide) (by decide)) (u5 73 (by decide) (by decide)) (fun j hj => by rw [u6 j hj, sI_nj (by omega)]), u2⟩
    unfold f_MO_stop
    rw [if_neg e, u1, b1_s]
theorem c_collect {z n g cap : Nat} {acc : Nat × Nat} {μ ν : Mu} (hz : z ≤ 2000) (h : glR z n acc g cap μ ν) :
    ∃ r μ' ν', f_GE_collect g cap μ = some (r, μ') ∧ f_MO_collect ν = some (r, ν') ∧ ∃ R t, baR R t μ' ν' ∧ stR g cap R t (z + 1) μ' ν' := by
  obtain ⟨ha, R, t, hb, hs⟩ := h
  -- within a search
  have hin : ∀ (s : Int32), μ 37 11 = s → s ≠ 0 → ν 70 25 = 1 → actB g cap R t z μ ν → ∃ r μ' ν', f_GE_collect g cap μ = some (r, μ') ∧ f_MO_collect ν = some (r, ν') ∧ baR R t μ' ν' ∧ actB g cap R t (z + 1) μ' ν' ∧ μ' 37 = μ 37 ∧ ν' 70 25 = ν 70 25 ∧ ν' 70 26 = ν 70 26 := by
    intro s q1 q2 q3 hB
    obtain ⟨has, N, S, c, tr, tb, nq, GT, P, M, φ, K, τ, cm, tm, gm, cs, ct, hact, b1', b2', b3, b4, b5⟩ := hB
    obtain ⟨hR, ⟨p1, p2, p3⟩, ⟨n1, n2, n3, n4⟩, htrl, hseg, hdn, hmrk, hrows, hchg, hcur, hque, hseen, hpot, hbnd, hmk, hlow⟩ := id hact
    have hact0 : actR g cap R has N S c tr tb nq GT P M φ K τ cm tm gm cs ct μ (sI ν 70 0 0) := hact
    have ht := hb.2.2.1
    obtain ⟨n0, hch⟩ := hcur.1
    obtain ⟨μ', ν', N', tr', φ', K', τ', cm', tm', u1, u2, u3, u4, u5, u6⟩ := coll_s (k := -1) (v := 0) (n0 := n0) (x0 := μ 37 9) (q0 := ν 70 16) hact0 ha.1 ha.2.1 (by have := ha.2.2.2.2.2.1; omega) (by omega) hb.2.1.1 (by omega) (by omega) (by omega) hch (by
      rcases hcur.2.1 with w | ⟨pp, w1, w2, w3⟩
      · exact Or.inl w
      · exact Or.inr ⟨pp, w1, w3⟩) hcur.2.2.1 (Or.inl ⟨by decide, rfl, rfl⟩)
    have hlow37 : ∀ k, k ≤ 37 → μ' k = μ k := by
      intro k hk
      funext j
      exact fr_CO_run u1 (by unfold W_CO_run; omega)
    have hν : ∀ k, k = 71 ∨ k = 72 ∨ k = 73 → ν' k = ν k := by
      intro k hk
      funext j
      rw [fr_MO_free u2 (by unfold W_MO_free; omega), sI_nk (by omega)]
    have hν7 : ∀ j, j ≠ 0 → j ≠ 28 → j ≠ 30 → j ≠ 34 → ν' 70 j = ν 70 j := by
      intro j a0 a1 a2 a3
      rw [fr_MO_free u2 (by unfold W_MO_free; omega), sI_nj a0]
    refine ⟨nI (N - N'), μ', ν', ?_, ?_, ?_, ⟨has, N', S, c, tr', tb, nq, GT, P, M + 1, φ', K', τ', cm', tm', gm, cs, ct, u4, b1', b2', b3, b4, by omega⟩, hlow37 37 (by omega), hν7 25 (by decide) (by decide) (by decide) (by decide), hν7 26 (by decide) (by decide) (by decide) (by decide)⟩
    · unfold f_GE_collect f_SE_freeCells
      rw [if_pos (by rw [q1]; exact q2), hque.2.2.2.1, u1, b2_s, b2_s]
    · unfold f_MO_collect
      rw [if_neg (by rw [q3]; decide), u2, b2_s]
    · obtain ⟨a1, a2, a3, a4, a5, a6⟩ := hb
      refine ⟨typR_c a1 (by rw [hlow37 1 (by omega)]) (hlow37 2 (by omega)) (hν7 1 (by decide) (by decide) (by decide) (by decide)) (hν 71 (by omega)), rulR_c a2 (fun k hk => hlow37 k (by omega)) (hν 72 (by omega)) (hν 73 (by omega)) (hν7 3 (by decide) (by decide) (by decide) (by decide)), a3, by rw [hlow37 37 (by omega)]; exact a4, by rw [hν7 27 (by decide) (by decide) (by decide) (by decide)]; exact a5, ?_⟩
      rw [col_c u1, col_m u2, a6]
      rfl
  rcases id hs with ⟨s1, s2, -⟩ | ⟨s1, s2, s3, s4, pp, s5, s6⟩ | ⟨s1, s2, s3, s4, s5⟩
  · refine ⟨0, μ, sI ν 70 0 0, ?_, ?_, R, t, hb, stR_z (stR_0 hs) (by omega)⟩
    · unfold f_GE_collect
      rw [if_neg (not_not_intro s1)]
    · unfold f_MO_collect
      rw [if_pos s2.1]
  · obtain ⟨r, μ', ν', u1, u2, u3, u4, u5, u6, u7⟩ := hin 1 s1 (by decide) s2 s4
    exact ⟨r, μ', ν', u1, u2, R, t, u3, Or.inr (Or.inl ⟨by rw [u5]; exact s1, by rw [u6]; exact s2, by rw [u7]; exact s3, u4, pp, s5, by rw [u5]; exact s6⟩)⟩
  · obtain ⟨r, μ', ν', u1, u2, u3, u4, u5, u6, u7⟩ := hin 2 s1 (by decide) s2 s4
    exact ⟨r, μ', ν', u1, u2, R, t, u3, Or.inr (Or.inr ⟨by rw [u5]; exact s1, by rw [u6]; exact s2, by rw [u7]; exact s3, u4, by rw [u5]; exact s5⟩)⟩
/-- the goals at hand are as many -/
theorem len_c {g cap E : Nat} {N : Nat} {φ K : Nat → Nat} {HH G GN : Nat → Int32} {μ : Mu} (hcap : cap < 2 ^ 29) (hE : E ≤ cap) (n : Nat) : ∀ (fl y : Nat) (p q : Int32), chR N φ K (μ g) HH (μ (g + 2)) G GN n p q → (∀ x, x < 2 ^ 29 → p = nI x → x < E) → n < fl → y + n < 9030 → f_GO_lengthFrom_4 g cap fl (nI y) p μ = some (nI (y + n)) := by
  induction n with
  | zero =>
    intro fl y p q h hp hfl hy
    cases fl with
    | zero => omega
    | succ fl =>
    unfold f_GO_lengthFrom_4
    rw [h.1, if_pos (by decide)]
    rfl
  | succ n ih =>
    intro fl y p q h hp hfl hy
    cases fl with
    | zero => omega
    | succ fl =>
    obtain ⟨pp, gg, e1, e2, e3, e4, e5, e6, e7, e8⟩ := h
    have := hp pp e3 e1
    unfold f_GO_lengthFrom_4
    rw [e1, if_neg (nI_pos (by omega)), if_neg (show ¬ 9030 ≤ nI y from nI_ge (b := 9030) (by omega) (by decide)), rd_n (by omega) (by omega), b1_s, nI_1, show y + (n + 1) = y + 1 + n by omega]
    exact ih fl (y + 1) _ _ e8 (fun x a b => by have := e6 x a b; omega) (by omega) (by omega)
theorem len_m {N GT : Nat} {φ K : Nat → Nat} {TT HH BB : Nat → Int32} {ν : Mu} (hGT : GT ≤ 8900) (n : Nat) : ∀ (fl y : Nat) (p q : Int32), chR N φ K TT HH BB (ν 80) (ν 81) n p q → (∀ x, x < 2 ^ 29 → q = nI x → x < GT) → n < fl → f_MO_count_26 2 fl (nI y) q ν = some (nI (y + n)) := by
  induction n with
  | zero =>
    intro fl y p q h hp hfl
    cases fl with
    | zero => omega
    | succ fl =>
    unfold f_MO_count_26
    rw [h.2, if_pos (by decide)]
    rfl
  | succ n ih =>
    intro fl y p q h hp hfl
    cases fl with
    | zero => omega
    | succ fl =>
    obtain ⟨pp, gg, e1, e2, e3, e4, e5, e6, e7, e8⟩ := h
    have := hp gg e4 e2
    unfold f_MO_count_26
    rw [e2, if_neg (nI_pos (by omega)), if_neg (not_not_intro rfl), rd_n (by omega) (by decide), b1_s, nI_1, show y + (n + 1) = y + 1 + n by omega]
    exact ih fl (y + 1) _ _ e8 (fun x a b => by have := e7 x a b; omega) (by omega)
end NXA
