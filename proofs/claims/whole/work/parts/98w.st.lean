/-! unify within a search; a cut; a new choice -/
section STU
variable {g cap R : Nat} {has : Nat → Bool} {N S c tr tb nq GT P M : Nat} {φ K τ cm tm gm cs ct : Nat → Nat} {μ ν : Mu}
theorem trA_f {C C0 TR0 B0 : Nat → Int32} {n : Nat} (hN : N ≤ 240) (h : trA C N φ K C0 TR0 B0 tr tb n μ ν) : n + frc C K N ≤ frc C0 K N := by
  obtain ⟨e1, e2, e3, e4, e5, e6, e7, e8, e9⟩ := h
  have key : ∀ m, m ≤ n → m + frc C K N ≤ cnt (fun i => clB ((K i = 1 ∧ C i = wd i 0) ∨ ∃ x, x < m ∧ μ 42 (tr + x) = wd i 0)) N := by
    intro m
    induction m with
    | zero =>
      intro _
      rw [Nat.zero_add]
      exact cnt_mono N (fun i hi q => clB_t.mpr (Or.inl (of_decide_eq_true q)))
    | succ m ih =>
      intro hm
      obtain ⟨i, i1, i2, i3, i4, i5, i6⟩ := e7 m (by omega)
      have h1 := ih (by omega)
      have h2 : cnt (fun i => clB ((K i = 1 ∧ C i = wd i 0) ∨ ∃ x, x < m + 1 ∧ μ 42 (tr + x) = wd i 0)) N = cnt (fun i => clB ((K i = 1 ∧ C i = wd i 0) ∨ ∃ x, x < m ∧ μ 42 (tr + x) = wd i 0)) N + 1 := by
        refine cnt_set (k := i) i1 (fun j hj hne => ?_) ?_ (clB_t.mpr (Or.inr ⟨m, by omega, i5⟩))
        · cases e : clB ((K j = 1 ∧ C j = wd j 0) ∨ ∃ x, x < m ∧ μ 42 (tr + x) = wd j 0) with
          | true =>
            rcases clB_t.mp e with q | ⟨x, x1, x2⟩
            · exact (clB_t.mpr (Or.inl q)).symm
            · exact (clB_t.mpr (Or.inr ⟨x, by omega, x2⟩)).symm
          | false =>
            cases e2 : clB ((K j = 1 ∧ C j = wd j 0) ∨ ∃ x, x < m + 1 ∧ μ 42 (tr + x) = wd j 0) with
            | false => rfl
            | true =>
              rcases clB_t.mp e2 with q | ⟨x, x1, x2⟩
              · rw [clB_t.mpr (Or.inl q)] at e; cases e
              · by_cases ex : x = m
                · rw [ex, i5] at x2
                  exact absurd ((wd_eq (by omega) (by omega) (by omega) (by omega)).mp x2).1.symm hne
                · rw [clB_t.mpr (Or.inr ⟨x, by omega, x2⟩)] at e
                  cases e
        · cases e : clB ((K i = 1 ∧ C i = wd i 0) ∨ ∃ x, x < m ∧ μ 42 (tr + x) = wd i 0) with
          | false => rfl
          | true =>
            rcases clB_t.mp e with q | ⟨x, x1, x2⟩
            · exact absurd q.2 i4
            · exact absurd (x2.trans i5.symm) (e9 x m x1 (by omega))
      omega
  have h1 := key n (Nat.le_refl _)
  have h2 : cnt (fun i => clB ((K i = 1 ∧ C i = wd i 0) ∨ ∃ x, x < n ∧ μ 42 (tr + x) = wd i 0)) N ≤ frc C0 K N := cnt_mono N (fun i hi q => by
    refine decide_eq_true ?_
    rcases clB_t.mp q with ⟨q1, q2⟩ | ⟨x, x1, x2⟩
    · refine ⟨q1, Classical.byContradiction fun w => ?_⟩
      rw [e5 i hi w] at q2
      exact w q2
    · obtain ⟨i', i1, i2, i3, i4, i5, i6⟩ := e7 x x1
      rw [x2] at i5
      have := ((wd_eq (by omega) (by omega) (by omega) (by omega)).mp i5).1
      subst this
      exact ⟨i2, i3⟩)
  omega
/-- unify, as the search sees it -/
theorem un_act (h : actR g cap R has N S c tr tb nq GT P M φ K τ cm tm gm cs ct μ ν) (hg : gOK g) (hR16 : R ≤ 16) (hGT : GT < 2 ^ 29) (hP : P ≤ 2600) (hM : M < 2 ^ 28) {t1 k1 v1 t2 k2 v2 : Int32} (h1 : tmR N φ K t1 k1 v1) (h2 : tmR N φ K t2 k2 v2) :
    ∃ (r : Nat) (μ' ν' : Mu) (tr' tb' M' : Nat), f_UN_unify t1 t2 μ = some (nI r, μ') ∧ f_MO_unify k1 v1 k2 v2 ν = some ν' ∧ ν' 70 49 = nI r ∧ (r = 0 ∨ r = 1 ∨ r = 3) ∧ M' ≤ M + 300 ∧ tb' ≤ P ∧ actR g cap R has N S c tr' tb' nq GT P M' φ K τ cm tm gm cs ct μ' ν' := by
  have ha := h
  obtain ⟨hR, ⟨p1, p2, p3⟩, ⟨n1, n2, n3, n4⟩, htrl, hseg, hdn, hmrk, hrows, hchg, hcur, hque, hseen, hpot, hbnd, hmk, hlow⟩ := h
  have hN := hR.1
  have htr := trl_le hN htrl
  have hU : unC (ν 74) (ν 75) (ν 78) (ν 79) N S φ K τ (μ 41) (μ 42) (ν 86) tr tb (μ 41) (ν 76) (ν 77) 0 M μ ν := by
    refine ⟨hR, rfl, p1, ⟨rfl, rfl, rfl, rfl⟩, rfl, ⟨p2, n2, fun _ _ => rfl, fun _ _ => rfl, fun _ _ _ => rfl, fun _ _ _ => rfl, fun x hx => by omega, fun i _ _ q1 q2 => absurd q1 q2, fun x y _ hy => by omega⟩, by omega, by omega, hmk⟩
  obtain ⟨r, μ', ν', C', KK', V', n', M', u1, u2, u3, u4, u5, u6⟩ := un_s hM hU h1 h2
  obtain ⟨hR', w1, w2, w3, w4, hT, w6, w7, w8⟩ := u6
  have hfr := trA_f hN hT
  obtain ⟨e1, e2, e3, e4, e5, e6, e7, e8, e9⟩ := hT
  have frμ : ∀ k j, ¬ (k = 40 ∧ j = 3) ∧ ¬ (k = 46 ∧ j = 3) ∧ ¬ (k = 49 ∧ j = 4) ∧ k ≠ 41 ∧ k ≠ 42 ∧ k ≠ 47 ∧ k ≠ 48 ∧ k ≠ 50 ∧ k ≠ 51 → μ' k j = μ k j := fun k j hk => fr_UN_unify u1 hk
  have frν : ∀ k j, W_MO_unify k j → ν' k j = ν k j := fun k j hk => fr_MO_unify u2 hk
  have rμ : ∀ k, k ≠ 40 → k ≠ 41 → k ≠ 42 → k ≠ 46 → k ≠ 47 → k ≠ 48 → k ≠ 49 → k ≠ 50 → k ≠ 51 → μ' k = μ k := by
    intro k a1 a2 a3 a4 a5 a6 a7 a8 a9
    funext j
    exact frμ k j (by omega)
  have rν : ∀ k, k ≠ 70 → k ≠ 76 → k ≠ 77 → k ≠ 86 → k ≠ 88 → k ≠ 89 → k ≠ 90 → ν' k = ν k := by
    intro k a1 a2 a3 a4 a5 a6 a7
    funext j
    exact frν k j (by unfold W_MO_unify; omega)
  have rν7 : ∀ j, j ≠ 23 → j ≠ 30 → j ≠ 34 → j ≠ 35 → j ≠ 40 → j ≠ 41 → j ≠ 49 → ν' 70 j = ν 70 j := by
    intro j a1 a2 a3 a4 a5 a6 a7
    exact frν 70 j (by unfold W_MO_unify; omega)
  have hgg : ∀ k, k = g ∨ k = g + 1 ∨ k = g + 2 ∨ k = g + 3 → μ' k = μ k := by
    intro k hk
    unfold gOK at hg
    exact rμ k (by omega) (by omega) (by omega) (by omega) (by omega) (by omega) (by omega) (by omega) (by omega)
  have hC2 : ∀ i, i < N → K i = 2 → μ' 41 i = μ 41 i := by
    intro i hi hK
    rw [w1]; exact e6 i hi (by omega)
  have e74 : ν' 74 = ν 74 := rν 74 (by decide) (by decide) (by decide) (by decide) (by decide) (by decide) (by decide)
  have holdrow : ∀ x, x < tr → μ' 42 x = μ 42 x := e3
  refine ⟨r, μ', ν', tr + n', tb + n', M', u1, u2, u3, u4, u5, by omega, ⟨?_, ⟨?_, e1, ?_⟩, ⟨?_, e2, ?_, ?_⟩, ⟨fun x hx => ?_, fun x y a1 a2 => ?_⟩, fun j hj i hi => ?_, fun j hj i hi hK a1 y a2 a3 => ?_, ⟨fun j hj => ?_, hmrk.2⟩, fun j hj => ?_, ?_, ?_, ?_, fun p hp => ?_, ?_, fun y hy => ?_, w8, fun j hj x hx => ?_⟩⟩
  · rw [w1, e74, w4, w3.1, w3.2.1, w3.2.2.1, w3.2.2.2]; exact hR'
  · exact w2
  · rw [frμ 58 5 (by omega)]; exact p3
  · rw [rν7 12 (by decide) (by decide) (by decide) (by decide) (by decide) (by decide) (by decide)]; exact n1
  · rw [rν7 18 (by decide) (by decide) (by decide) (by decide) (by decide) (by decide) (by decide)]; exact n3
  · rw [rν7 13 (by decide) (by decide) (by decide) (by decide) (by decide) (by decide) (by decide)]; exact n4
  · -- the trail
    rw [w1]
    by_cases e : x < tr
    · obtain ⟨i, i1, i2, i3, i4⟩ := htrl.1 x e
      exact ⟨i, i1, i2, by rw [e5 i i1 i3]; exact i3, by rw [holdrow x e]; exact i4⟩
    · obtain ⟨i, i1, i2, i3, i4, i5, i6⟩ := e7 (x - tr) (by omega)
      rw [show tr + (x - tr) = x by omega] at i5
      exact ⟨i, i1, i2, i4, i5⟩
  · by_cases ey : y < tr
    · rw [holdrow x (by omega), holdrow y ey]; exact htrl.2 x y a1 ey
    · obtain ⟨i, i1, i2, i3, i4, i5, i6⟩ := e7 (y - tr) (by omega)
      rw [show tr + (y - tr) = y by omega] at i5
      by_cases ex : x < tr
      · obtain ⟨i', j1, j2, j3, j4⟩ := htrl.1 x ex
        rw [holdrow x ex, j4, i5]
        intro q
        have := ((wd_eq (by omega) (by omega) (by omega) (by omega)).mp q).1
        rw [this] at j3
        exact j3 i3
      · have := e9 (x - tr) (y - tr) (by omega) (by omega)
        rw [show tr + (x - tr) = x by omega, show tr + (y - tr) = y by omega] at this
        exact this
  · -- the segments
    have hcj := (hmrk.1 j hj).1
    have htj := (hmrk.1 j hj).2.2.2.1
    have hctj := (hmrk.1 j hj).2.2.2.2.1
    have hold := hseg j hj i hi
    unfold segE at hold ⊢
    by_cases e : j + 1 < c
    · rw [if_pos e, if_pos e] at hold ⊢
      have ht1 := (hmrk.1 (j + 1) e).2.2.2.1
      have ht2 := (hmrk.1 (j + 1) e).2.2.2.2.1
      constructor
      · rintro ⟨x, q1, q2, q3⟩
        rw [holdrow x (by omega)] at q3
        obtain ⟨y, y1, y2, y3⟩ := hold.mp ⟨x, q1, q2, q3⟩
        exact ⟨y, y1, y2, by rw [e4 y (by omega)]; exact y3⟩
      · rintro ⟨y, q1, q2, q3⟩
        rw [e4 y (by omega)] at q3
        obtain ⟨x, y1, y2, y3⟩ := hold.mpr ⟨y, q1, q2, q3⟩
        exact ⟨x, y1, y2, by rw [holdrow x (by omega)]; exact y3⟩
    · rw [if_neg e, if_neg e] at hold ⊢
      constructor
      · rintro ⟨x, q1, q2, q3⟩
        by_cases ex : x < tr
        · rw [holdrow x ex] at q3
          obtain ⟨y, y1, y2, y3⟩ := hold.mp ⟨x, q1, ex, q3⟩
          exact ⟨y, y1, by omega, by rw [e4 y y2]; exact y3⟩
        · obtain ⟨i', i1, i2, i3, i4, i5, i6⟩ := e7 (x - tr) (by omega)
          rw [show tr + (x - tr) = x by omega, q3] at i5
          have := ((wd_eq (by omega) (by omega) (by omega) (by omega)).mp i5).1
          subst this
          exact ⟨tb + (x - tr), by omega, by omega, i6⟩
      · rintro ⟨y, q1, q2, q3⟩
        by_cases ey : y < tb
        · rw [e4 y ey] at q3
          obtain ⟨x, y1, y2, y3⟩ := hold.mpr ⟨y, q1, ey, q3⟩
          exact ⟨x, y1, by omega, by rw [holdrow x y2]; exact y3⟩
        · obtain ⟨i', i1, i2, i3, i4, i5, i6⟩ := e7 (y - tb) (by omega)
          rw [show tb + (y - tb) = y by omega, q3] at i6
          have f1 := (hR.2.2.1 i (by omega)).1
          have f2 := (hR.2.2.1 i' i1).1
          have := phi_inj hR (by omega) i1 ((nI_eq (by omega) (by omega)).mp i6)
          subst this
          exact ⟨tr + (y - tb), by omega, by omega, i5⟩
  · have hcj := (hmrk.1 j hj).1
    have htj := (hmrk.1 j hj).2.2.2.1
    have hsame : μ' 41 i = μ 41 i := by
      rw [w1]
      by_cases e : K i = 1
      · by_cases ef : μ 41 i = wd i 0
        · by_cases ec : C' i = wd i 0
          · rw [ec, ef]
          · obtain ⟨x, x1, x2⟩ := e8 i (by omega) e ef ec
            exact absurd x2 (a1 (tr + x) (by omega) (by omega))
        · exact e5 i (by omega) ef
      · exact e6 i (by omega) e
    rw [hsame] at a3
    exact hdn j hj i hi hK (fun x q1 q2 => by have := a1 x q1 (by omega); rw [holdrow x q2] at this; exact this) y a2 a3
  · obtain ⟨b1, b2, b3, b4, b5, b6, b7⟩ := hmrk.1 j hj
    exact ⟨b1, b2, b3, by omega, by omega, b6, b7⟩
  · rw [rμ 61 (by decide) (by decide) (by decide) (by decide) (by decide) (by decide) (by decide) (by decide) (by decide), rμ 62 (by decide) (by decide) (by decide) (by decide) (by decide) (by decide) (by decide) (by decide) (by decide), rμ 63 (by decide) (by decide) (by decide) (by decide) (by decide) (by decide) (by decide) (by decide) (by decide), rν 84 (by decide) (by decide) (by decide) (by decide) (by decide) (by decide) (by decide), rν 85 (by decide) (by decide) (by decide) (by decide) (by decide) (by decide) (by decide)]
    exact hrows j hj
  · refine chg_c (N := N) hchg (fun j hj => (hmrk.1 j hj).1) hN hGT hR16 (fun k hk => ?_) (fun k a b => rν k (by omega) (by omega) (by omega) (by omega) (by omega) (by omega) (by omega)) hC2
    by_cases e : k = g ∨ k = g + 1 ∨ k = g + 2
    · exact hgg k (by omega)
    · exact rμ k (by omega) (by omega) (by omega) (by omega) (by omega) (by omega) (by omega) (by omega) (by omega)
  · obtain ⟨⟨m, a1⟩, a2, a3, a4⟩ := hcur
    unfold curR
    rw [hgg g (by omega), hgg (g + 1) (by omega), hgg (g + 2) (by omega), rμ 37 (by decide) (by decide) (by decide) (by decide) (by decide) (by decide) (by decide) (by decide) (by decide), rν 80 (by decide) (by decide) (by decide) (by decide) (by decide) (by decide) (by decide), rν 81 (by decide) (by decide) (by decide) (by decide) (by decide) (by decide) (by decide), rν7 16 (by decide) (by decide) (by decide) (by decide) (by decide) (by decide) (by decide), rν7 17 (by decide) (by decide) (by decide) (by decide) (by decide) (by decide) (by decide)]
    refine ⟨⟨m, a1⟩, a2, a3, ?_⟩
    rcases a4 with a4 | ⟨rr, pp, d1, d0, d2, d3, d4, d5⟩
    · exact Or.inl a4
    · refine Or.inr ⟨rr, pp, d1, d0, d2, d3, d4, ?_⟩
      rw [rμ (6 + 2 * rr) (by omega) (by omega) (by omega) (by omega) (by omega) (by omega) (by omega) (by omega) (by omega)]
      cases m with
      | zero => have := a1.1; rw [d4] at this; exact absurd this.symm (n_m1 (by omega))
      | succ m =>
        obtain ⟨gw, hh, hgo⟩ := chR_h a1 d4 d0
        exact nmR_m hN hgo d5 hC2
  · unfold queR
    rw [rμ 38 (by decide) (by decide) (by decide) (by decide) (by decide) (by decide) (by decide) (by decide) (by decide), rν 87 (by decide) (by decide) (by decide) (by decide) (by decide) (by decide) (by decide)]
    exact hque
  · rw [hgg (g + 3) (by omega)]; exact hseen p hp
  · rw [w1]; omega
  · by_cases e : y < tb
    · rw [e4 y e]; exact hbnd y e
    · obtain ⟨i, i1, i2, i3, i4, i5, i6⟩ := e7 (y - tb) (by omega)
      rw [show tb + (y - tb) = y by omega] at i6
      exact ⟨φ i, (hR.2.2.1 i i1).1, i6⟩
  · have htj := (hmrk.1 j hj).2.2.2.1
    obtain ⟨i, i1, i2, i3⟩ := hlow j hj x hx
    exact ⟨i, i1, i2, by rw [holdrow x (by omega)]; exact i3⟩
/-- choices are given up -/
theorem cut_R {c' : Nat} {μ' ν' : Mu} (h : actR g cap R has N S c tr tb nq GT P M φ K τ cm tm gm cs ct μ ν) (hg : gOK g) (hcc : c' ≤ c) (hR16 : R ≤ 16) (hGT : GT < 2 ^ 29) (hμ : ∀ k, k ≠ 58 → μ' k = μ k) (h5 : μ' 58 5 = nI c') (hν : ∀ k, k ≠ 70 → ν' k = ν k) (h18 : ν' 70 18 = nI c') (hν7 : ∀ j, j ≠ 18 → ν' 70 j = ν 70 j) : actR g cap R has N S c' tr tb nq GT P M φ K τ cm tm gm cs ct μ' ν' := by
  obtain ⟨hR, ⟨p1, p2, p3⟩, ⟨n1, n2, n3, n4⟩, htrl, hseg, hdn, hmrk, hrows, hchg, hcur, hque, hseen, hpot, hbnd, hmk, hlow⟩ := h
  have hN := hR.1
  have hgg : g ≠ 58 ∧ g + 1 ≠ 58 ∧ g + 2 ≠ 58 ∧ g + 3 ≠ 58 := by unfold gOK at hg; omega
  have hm : ∀ j k, j < k → k < c → tm j ≤ tm k := fun j k a b => (hmrk.2 j k a b).2.1
  have hct : ∀ j k, j < k → k < c → ct j ≤ ct k := fun j k a b => (hmrk.2 j k a b).2.2.1
  have hcm : ∀ j k, j ≤ k → k < c → cm j ≤ cm k := by
    intro j k a b
    by_cases e : j = k
    · rw [e]; exact Nat.le_refl _
    · exact (hmrk.2 j k (by omega) b).1
  refine ⟨?_, ⟨by rw [hμ 40 (by decide)]; exact p1, by rw [hμ 40 (by decide)]; exact p2, h5⟩, ⟨by rw [hν7 12 (by decide)]; exact n1, by rw [hν7 23 (by decide)]; exact n2, h18, by rw [hν7 13 (by decide)]; exact n4⟩, by rw [hμ 41 (by decide), hμ 42 (by decide)]; exact htrl, ?_, ?_, ⟨fun j hj => hmrk.1 j (by omega), fun j k a b => hmrk.2 j k a (by omega)⟩, fun j hj => ?_, ?_, ?_, ?_, fun p hp => by rw [hμ (g + 3) (by omega)]; exact hseen p hp, by rw [hμ 41 (by decide)]; exact hpot, by rw [hν 86 (by decide)]; exact hbnd, by unfold mkB; rw [hν 90 (by decide), hν7 34 (by decide)]; exact hmk, by rw [hμ 42 (by decide)]; exact fun j hj => hlow j (by omega)⟩
  · rw [hμ 41 (by decide), hν 74 (by decide), hν 75 (by decide), hν 76 (by decide), hν 77 (by decide), hν 78 (by decide), hν 79 (by decide)]; exact hR
  · rw [hμ 42 (by decide), hν 86 (by decide)]
    intro j hj i hi
    by_cases e : j + 1 < c'
    · have := hseg j (by omega) i hi
      unfold segE at this ⊢
      rw [if_pos (show j + 1 < c by omega), if_pos (show j + 1 < c by omega)] at this
      rw [if_pos e, if_pos e]
      exact this
    · unfold segE
      rw [if_neg e, if_neg e]
      constructor
      · rintro ⟨x, q1, q2, q3⟩
        have hj2 := (psd_t (c := c) (tm := tm) (x := x) hm (by omega)).mp q1
        have hle : psd c tm x ≤ c := psd_le
        have hjj : psd c tm x - 1 < c := by omega
        have hcj : tm (psd c tm x - 1) ≤ x := (psd_t hm hjj).mpr (by omega)
        have := hcm j (psd c tm x - 1) (by omega) hjj
        obtain ⟨y, y1, y2, y3⟩ := (hseg (psd c tm x - 1) hjj i (by omega)).mp ⟨x, hcj, by
          unfold segE
          by_cases e : psd c tm x - 1 + 1 < c
          · rw [if_pos e]
            apply Classical.byContradiction
            intro w
            have := (psd_t hm e).mp (by omega : tm (psd c tm x - 1 + 1) ≤ x)
            omega
          · rw [if_neg e]; exact q2, q3⟩
        refine ⟨y, ?_, ?_, y3⟩
        · by_cases ej : j = psd c tm x - 1
          · rw [ej]; exact y1
          · have := hct j (psd c tm x - 1) (by omega) hjj
            omega
        · unfold segE at y2
          by_cases e : psd c tm x - 1 + 1 < c
          · rw [if_pos e] at y2
            have := (hmrk.1 (psd c tm x - 1 + 1) e).2.2.2.2.1
            omega
          · rw [if_neg e] at y2; exact y2
      · rintro ⟨y, q1, q2, q3⟩
        have hj2 := (psd_t (c := c) (tm := ct) (x := y) hct (by omega)).mp q1
        have hle : psd c ct y ≤ c := psd_le
        have hjj : psd c ct y - 1 < c := by omega
        have hcj : ct (psd c ct y - 1) ≤ y := (psd_t hct hjj).mpr (by omega)
        have := hcm j (psd c ct y - 1) (by omega) hjj
        obtain ⟨x, y1, y2, y3⟩ := (hseg (psd c ct y - 1) hjj i (by omega)).mpr ⟨y, hcj, by
          unfold segE
          by_cases e : psd c ct y - 1 + 1 < c
          · rw [if_pos e]
            apply Classical.byContradiction
            intro w
            have := (psd_t hct e).mp (by omega : ct (psd c ct y - 1 + 1) ≤ y)
            omega
          · rw [if_neg e]; exact q2, q3⟩
        refine ⟨x, ?_, ?_, y3⟩
        · by_cases ej : j = psd c ct y - 1
          · rw [ej]; exact y1
          · have := hm j (psd c ct y - 1) (by omega) hjj
            omega
        · unfold segE at y2
          by_cases e : psd c ct y - 1 + 1 < c
          · rw [if_pos e] at y2
            have := (hmrk.1 (psd c ct y - 1 + 1) e).2.2.2.1
            omega
          · rw [if_neg e] at y2; exact y2
  · rw [hμ 41 (by decide), hμ 42 (by decide)]
    exact fun j hj => hdn j (by omega)
  · rw [hμ 61 (by decide), hμ 62 (by decide), hμ 63 (by decide), hν 84 (by decide), hν 85 (by decide)]; exact hrows j (by omega)
  · refine chg_c (N := N) (fun j hj => hchg j (by omega)) (fun j hj => (hmrk.1 j (by omega)).1) hN hGT hR16 (fun k hk => hμ k (by omega)) (fun k a b => hν k (by omega)) (fun i _ _ => by rw [hμ 41 (by decide)])
  · obtain ⟨a1, a2, a3, a4⟩ := hcur
    unfold curR
    rw [hμ g (by omega), hμ (g + 1) (by omega), hμ (g + 2) (by omega), hμ 37 (by decide), hμ 41 (by decide), hν 80 (by decide), hν 81 (by decide), hν7 16 (by decide), hν7 17 (by decide)]
    refine ⟨a1, a2, a3, ?_⟩
    rcases a4 with a4 | ⟨r, pp, d1, d0, d2, d3, d4, d5⟩
    · exact Or.inl a4
    · exact Or.inr ⟨r, pp, d1, d0, d2, d3, d4, by rw [hμ (6 + 2 * r) (by omega)]; exact d5⟩
  · unfold queR
    rw [hμ 38 (by decide), hν 87 (by decide)]; exact hque
end STU
