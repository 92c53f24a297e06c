/-! ask -/
section AKA
variable {g cap R : Nat} {has : Nat → Bool} {N S c tr tb nq GT P M M' : Nat} {φ K τ cm tm gm cs ct : Nat → Nat} {μ ν μ' ν' : Mu}
theorem actR_f (h : actR g cap R has N S c tr tb nq GT P M φ K τ cm tm gm cs ct μ ν) (hR16 : R ≤ 16) (hμ : ∀ k, k = 41 ∨ k = 42 ∨ (59 ≤ k ∧ k ≤ 63) ∨ k = g ∨ k = g + 1 ∨ k = g + 2 ∨ k = g + 3 ∨ (5 ≤ k ∧ k < 37) ∨ k = 38 → μ' k = μ k) (h1 : μ' 40 1 = μ 40 1) (h3 : μ' 40 3 = μ 40 3) (h5 : μ' 58 5 = μ 58 5) (h9 : μ' 37 9 = μ 37 9) (h10 : μ' 37 10 = μ 37 10) (hν : ∀ k, 74 ≤ k → k ≤ 87 → ν' k = ν k) (h70 : ∀ j, j = 12 ∨ j = 13 ∨ j = 16 ∨ j = 17 ∨ j = 18 ∨ j = 23 → ν' 70 j = ν 70 j) (hm : mkB M' ν') : actR g cap R has N S c tr tb nq GT P M' φ K τ cm tm gm cs ct μ' ν' := by
  obtain ⟨hR, ⟨p1, p2, p3⟩, ⟨n1, n2, n3, n4⟩, htrl, hseg, hdn, hmrk, hrows, hchg, hcur, hque, hseen, hpot, hbnd, hmk, hlow⟩ := h
  have e41 := hμ 41 (by omega)
  have e42 := hμ 42 (by omega)
  refine ⟨?_, ⟨h1.trans p1, h3.trans p2, h5.trans p3⟩, ⟨?_, ?_, ?_, ?_⟩, ?_, ?_, ?_, hmrk, fun j hj => ?_, fun j hj => ?_, ?_, ?_, fun p hp => ?_, ?_, ?_, hm, ?_⟩
  · rw [e41, hν 74 (by omega) (by omega), hν 75 (by omega) (by omega), hν 76 (by omega) (by omega), hν 77 (by omega) (by omega), hν 78 (by omega) (by omega), hν 79 (by omega) (by omega)]; exact hR
  · rw [h70 12 (by omega)]; exact n1
  · rw [h70 23 (by omega)]; exact n2
  · rw [h70 18 (by omega)]; exact n3
  · rw [h70 13 (by omega)]; exact n4
  · rw [e41, e42]; exact htrl
  · rw [e42, hν 86 (by omega) (by omega)]; exact hseg
  · rw [e41, e42]; exact hdn
  · rw [hμ 61 (by omega), hμ 62 (by omega), hμ 63 (by omega), hν 84 (by omega) (by omega), hν 85 (by omega) (by omega)]; exact hrows j hj
  · obtain ⟨q1, q2, nn, pp, gg, r2, d1, d2, d3, d4, d5, d6, d7, d8, d9⟩ := hchg j hj
    refine ⟨q1, q2, nn, pp, gg, r2, ?_, ?_, d3, ?_, d5, ?_, ?_, d8, ?_⟩
    · rw [hμ g (by omega), hμ (g + 1) (by omega), hμ (g + 2) (by omega), hν 80 (by omega) (by omega), hν 81 (by omega) (by omega), hμ 59 (by omega), hν 82 (by omega) (by omega)]; exact d1
    · rw [hμ 59 (by omega)]; exact d2
    · rw [hν 82 (by omega) (by omega)]; exact d4
    · rw [hμ 60 (by omega)]; exact d6
    · rw [hν 83 (by omega) (by omega)]; exact d7
    · rw [e41, hμ g (by omega), hμ (6 + 2 * r2) (by omega)]; exact d9
  · unfold curR
    rw [hμ g (by omega), hμ (g + 1) (by omega), hμ (g + 2) (by omega), hν 80 (by omega) (by omega), hν 81 (by omega) (by omega), h9, h10, h70 16 (by omega), h70 17 (by omega), e41]
    obtain ⟨a1, a2, a3, a4⟩ := hcur
    refine ⟨a1, a2, a3, ?_⟩
    rcases a4 with a4 | ⟨r, pp, d1, d0, d2, d3, d4, d5⟩
    · exact Or.inl a4
    · exact Or.inr ⟨r, pp, d1, d0, d2, d3, d4, by rw [hμ (6 + 2 * r) (by omega)]; exact d5⟩
  · unfold queR
    rw [hμ 38 (by omega), hν 87 (by omega) (by omega)]; exact hque
  · rw [hμ (g + 3) (by omega)]; exact hseen p hp
  · rw [e41]; exact hpot
  · rw [hν 86 (by omega) (by omega)]; exact hbnd
  · rw [e42]; exact hlow
theorem stR_d {t z : Nat} (h : stR g cap R t z μ ν) (hR16 : R ≤ 16) (hμ : ∀ k, k = 41 ∨ k = 42 ∨ (59 ≤ k ∧ k ≤ 63) ∨ k = g ∨ k = g + 1 ∨ k = g + 2 ∨ k = g + 3 ∨ (5 ≤ k ∧ k < 37) ∨ k = 38 → μ' k = μ k) (h1 : μ' 40 1 = μ 40 1) (h3 : μ' 40 3 = μ 40 3) (h5 : μ' 58 5 = μ 58 5) (h9 : μ' 37 9 = μ 37 9) (h10 : μ' 37 10 = μ 37 10) (h11 : μ' 37 11 = μ 37 11) (hν : ∀ k, 74 ≤ k → k ≤ 87 → ν' k = ν k) (h70 : ∀ j, j = 12 ∨ j = 13 ∨ j = 16 ∨ j = 17 ∨ j = 18 ∨ j = 23 ∨ j = 25 ∨ j = 26 → ν' 70 j = ν 70 j) (hm : ∀ M, mkB M ν → mkB M ν') : stR g cap R t z μ' ν' := by
  have hB : actB g cap R t z μ ν → actB g cap R t z μ' ν' := by
    rintro ⟨has, N, S, c, tr, tb, nq, GT, P, M, φ, K, τ, cm, tm, gm, cs, ct, h, b1, b2, b3, b4, b5⟩
    exact ⟨has, N, S, c, tr, tb, nq, GT, P, M, φ, K, τ, cm, tm, gm, cs, ct, actR_f h hR16 hμ h1 h3 h5 h9 h10 hν (fun j hj => h70 j (by omega)) (hm M h.2.2.2.2.2.2.2.2.2.2.2.2.2.2.1), b1, b2, b3, b4, b5⟩
  rcases h with ⟨a, ⟨b1, b2, b3, b4, b5⟩, c, M, d, e⟩ | ⟨a, b, c, d, e⟩ | ⟨a, b, c, d, e⟩
  · exact Or.inl ⟨h11.trans a, ⟨(h70 25 (by omega)).trans b1, (h70 26 (by omega)).trans b2, (h70 18 (by omega)).trans b3, (h70 16 (by omega)).trans b4, fun x hx => by rw [hν 74 (by omega) (by omega)]; exact b5 x hx⟩, fun p hp => by rw [hμ (g + 3) (by omega)]; exact c p hp, M, hm M d, e.1, by rw [h5]; exact e.2⟩
  · exact Or.inr (Or.inl ⟨h11.trans a, (h70 25 (by omega)).trans b, (h70 26 (by omega)).trans c, hB d, by rw [h9]; exact e⟩)
  · exact Or.inr (Or.inr ⟨h11.trans a, (h70 25 (by omega)).trans b, (h70 26 (by omega)).trans c, hB d, by rw [h9]; exact e⟩)
theorem a77_l {k1 : Int32} : ∀ (d f y : Nat) (ν : Mu), y + d = 8 → d < f → ∃ ν', f_MO_ask_77 k1 f (nI y) ν = some ν' ∧ (∀ k, k ≠ 87 → ν' k = ν k) ∧ (∀ v, v < y → ν' 87 v = ν 87 v) ∧ ∀ v, y ≤ v → v < 8 → ν' 87 v = ν 93 v := by
  intro d
  induction d with
  | zero =>
    intro f y ν h1 h2
    obtain ⟨f, rfl⟩ : ∃ f0, f = f0 + 1 := ⟨f - 1, by omega⟩
    refine ⟨ν, ?_, fun _ _ => rfl, fun _ _ => rfl, fun v a b => by omega⟩
    rw [f_MO_ask_77, show nI y = 8 by rw [show y = 8 by omega]; rfl, if_pos (by decide)]
  | succ d ih =>
    intro f y ν h1 h2
    obtain ⟨f, rfl⟩ : ∃ f0, f = f0 + 1 := ⟨f - 1, by omega⟩
    obtain ⟨ν', u1, u2, u3, u4⟩ := ih f (y + 1) (sI ν 87 y (ν 93 y)) (by omega) (by omega)
    refine ⟨ν', ?_, fun k hk => by rw [u2 k hk, sI_nk hk], fun v hv => by rw [u3 v (by omega), sI_nj (by omega)], fun v a b => ?_⟩
    · rw [f_MO_ask_77, if_neg (show ¬ 8 ≤ nI y from nI_ge (b := 8) (by omega) (by decide)), rd_n (by omega) (by decide), b1_s, wr_n (by omega) (by decide), b1_s, nI_1]
      exact u1
    · by_cases e : v = y
      · subst e; rw [u3 v (by omega), sI_at]
      · rw [u4 v (by omega) b, sI_nk (by decide)]
/-- an empty search with the question's goals still to be linked -/
theorem begin_R {tn : Nat} {W : Nat → Int32} {m : Nat} (hg : gOK g) (hcl : clR 38 71 30 0 tn W (fun v => hasB W v tn) μ ν) (hm : m < 256) (hmb : ∀ v, v < 8 → Nat.testBit m v = hasB W v tn) (h38 : μ 38 2 = nI m) (h1 : μ 40 1 = 0) (h3 : μ 40 3 = 0) (h5 : μ 58 5 = 0) (hse : ∀ p, p < cap → μ (g + 3) p = 0) (hov : ∀ x, x < 240 → ν 74 x = 0) (n12 : ν 70 12 = 0) (n23 : ν 70 23 = 0) (n18 : ν 70 18 = 0) (n13 : ν 70 13 = 0) (n16 : ν 70 16 = -1) (n17 : ν 70 17 = -1) (hmk : mkB M ν) {y : Int32} :
    ∃ (μ1 ν1 ν2 : Mu) (hc N S nq : Nat) (φ K τ : Nat → Nat), f_CE_copy 38 μ = some μ1 ∧ f_MO_copy 71 30 0 (nI tn) ν = some ν1 ∧ f_MO_ask_77 y fu 0 ν1 = some ν2 ∧ 0 < hc ∧ hc ≤ 30 ∧ S ≤ 128 ∧ actR g cap R (fun v => hasB W v tn) N S 0 0 0 nq 0 8 M φ K τ (fun _ => 0) (fun _ => 0) (fun _ => 0) (fun _ => 0) (fun _ => 0) (sI (sI μ1 37 9 (-1)) 37 10 (-1)) ν2 ∧ μ1 40 8 = nI hc ∧ ν2 70 46 = nI hc ∧ (∀ x, x < hc → gtR N φ K (μ1 45 x) (ν2 96 x) (ν2 97 x)) := by
  have hsl := sca_le (f := fun j => kd (W j)) tn 0
  have htn := hcl.2.2.1.2
  have hcn := cnt_le (fun v => hasB W v tn) 8
  have hR0 : cellsR (μ 41) (ν 74) (ν 75) (ν 76) (ν 77) (ν 78) (ν 79) 0 0 (fun _ => 0) (fun _ => 0) (fun _ => 0) := ⟨by omega, by decide, fun i hi => by omega, fun i j _ hj => by omega, fun c hc => Or.inl (hov c hc), fun i hi => by omega⟩
  obtain ⟨μ', ν', hc, S', C', U', T', KK', V', NM', A', φ', K', τ', u1, u2, u3, u4, u5, u6, u7, u8, u9, u10, u11, u12, u13, u14, u15, u16, u17, u18, u19, u20, u21⟩ := cp_s hcl hR0 rfl h1 rfl rfl ⟨rfl, rfl, rfl, rfl⟩ n12 (by omega) (by omega)
  obtain ⟨ν2, w1, w2, w3, w4⟩ := a77_l (k1 := y) 8 fu 0 ν' (by omega) (by unfold fu; omega)
  have rμ : ∀ k, k ≠ 40 → k ≠ 41 → k ≠ 43 → k ≠ 44 → k ≠ 45 → μ' k = μ k := by
    intro k a1 a2 a3 a4 a5
    funext j
    exact fr_CE_copy u1 (by unfold W_CE_copy; omega)
  have rν : ∀ k, k < 70 ∨ (70 < k ∧ k < 74) ∨ (79 < k ∧ k < 93) → ν' k = ν k := by
    intro k hk
    funext j
    exact fr_MO_copy u2 (by unfold W_MO_copy; omega)
  have rν7 : ∀ j, j ≠ 12 → j ≠ 40 → j ≠ 41 → j ≠ 43 → j ≠ 46 → ν' 70 j = ν 70 j := by
    intro j a1 a2 a3 a4 a5
    exact fr_MO_copy u2 (by unfold W_MO_copy; omega)
  have h403 : μ' 40 3 = 0 := by
    rw [fr_CE_copy u1 (show W_CE_copy 38 40 3 by unfold W_CE_copy; omega)]; exact h3
  have hgk : g + 3 ≠ 40 ∧ g + 3 ≠ 41 ∧ g + 3 ≠ 43 ∧ g + 3 ≠ 44 ∧ g + 3 ≠ 45 ∧ g + 3 ≠ 37 := by unfold gOK at hg; omega
  have e70 := w2 70 (by decide)
  refine ⟨μ', ν', ν2, hc, 0 + cnt (fun v => hasB W v tn) 8 + sca (fun j => kd (W j)) tn 0, S', cnt (fun v => hasB W v tn) 8, φ', K', τ', u1, u2, w1, u3, by omega, by omega, ⟨?_, ⟨u8, h403, ?_⟩, ⟨?_, ?_, ?_, ?_⟩, ⟨fun x hx => by omega, fun x y a b => by omega⟩, fun j hj => by omega, fun j hj => by omega, ⟨fun j hj => by omega, fun j k a b => by omega⟩, fun j hj => by omega, fun j hj => by omega, ?_, ?_, fun p hp => ?_, ?_, fun x hx => by omega, ?_, fun j hj => by omega⟩, u13, ?_, fun x hx => ?_⟩
  · show cellsR (μ' 41) _ _ _ _ _ _ _ _ _ _ _
    rw [u7, w2 74 (by decide), w2 75 (by decide), w2 76 (by decide), w2 77 (by decide), w2 78 (by decide), w2 79 (by decide), u9, u10, u11.1, u11.2.1, u11.2.2.1, u11.2.2.2]; exact u6
  · show μ' 58 5 = _
    rw [rμ 58 (by decide) (by decide) (by decide) (by decide) (by decide), h5]; rfl
  · rw [e70]; exact u12
  · rw [e70, rν7 23 (by decide) (by decide) (by decide) (by decide) (by decide), n23]; rfl
  · rw [e70, rν7 18 (by decide) (by decide) (by decide) (by decide) (by decide), n18]; rfl
  · rw [e70, rν7 13 (by decide) (by decide) (by decide) (by decide) (by decide), n13]; rfl
  · have e16 : ν2 70 16 = -1 := by rw [e70, rν7 16 (by decide) (by decide) (by decide) (by decide) (by decide), n16]
    have e17 : ν2 70 17 = -1 := by rw [e70, rν7 17 (by decide) (by decide) (by decide) (by decide) (by decide), n17]
    exact ⟨⟨0, rfl, e16⟩, Or.inl rfl, Or.inl e16, Or.inl ⟨rfl, e17⟩⟩
  · refine ⟨rfl, by omega, fun i hi => ?_, ?_, fun v hv => ?_⟩
    · obtain ⟨v, v1, v2, v3⟩ := cnt_inv 8 hi
      have := ((u21 v v1).1 v2).1
      rw [v3, Nat.zero_add] at this
      exact this
    · show jbit (μ' 38 2) = _
      rw [rμ 38 (by decide) (by decide) (by decide) (by decide) (by decide), h38, mk_cnt m hm, cnt_eq (q := fun v => hasB W v tn) 8 (fun v hv => hmb v hv)]
    · have := u21 v hv
      rw [w4 v (by omega) hv]
      refine ⟨fun q => ?_, fun q => this.2 q⟩
      have := (this.1 q).2
      rw [Nat.zero_add] at this
      exact this
  · rw [sI_nk hgk.2.2.2.2.2, sI_nk hgk.2.2.2.2.2, rμ (g + 3) hgk.1 hgk.2.1 hgk.2.2.1 hgk.2.2.2.1 hgk.2.2.2.2.1]; exact hse p hp
  · show 0 + frc (μ' 41) K' _ ≤ 8
    rw [u7]
    have : frc (μ 41) (fun _ => 0) 0 = 0 := rfl
    omega
  · show ν2 70 34 = _ ∧ ∀ c, c < 240 → ∃ n, n ≤ M ∧ ν2 90 c = nI n
    rw [e70, w2 90 (by decide), rν 90 (by omega), rν7 34 (by decide) (by decide) (by decide) (by decide) (by decide)]; exact hmk
  · rw [e70]; exact u14
  · rw [w2 96 (by decide), w2 97 (by decide)]; exact u15 x hx

theorem lnk_ge {a b c d v : Int32} {ν ν1 : Mu} (h : f_MO_link a b c d ν = some (v, ν1)) : ¬ v < 0 := by
  unfold f_MO_link at h
  obtain ⟨μ1, e1, h⟩ := b1_e h
  obtain ⟨μ4, e2, h⟩ := b1_e h
  have h2 := (Prod.mk.inj (Option.some.inj h)).1
  have q1 : μ1 70 13 = ν 70 13 := wr_f e1 (by decide)
  have q2 : μ4 70 13 = ν 70 13 := (wr_f e2 (by decide)).trans q1
  rw [q2, Int32.add_sub_cancel] at h2
  rw [← h2]
  intro q
  unfold wr at e1
  rw [if_pos (Or.inl q)] at e1
  cases e1
theorem a108_ne {k1 : Int32} : ∀ (f : Nat) (y : Int32) (ν ν' : Mu), f_MO_ask_108 k1 f y ν = some ν' → (y < 0 ∧ ν' 70 16 = ν 70 16) ∨ ¬ ν' 70 16 < 0 := by
  intro f
  induction f with
  | zero => intro y ν ν' h; cases h
  | succ f ih =>
    intro y ν ν' h
    rw [f_MO_ask_108] at h
    by_cases e : y < 0
    · rw [if_pos e] at h
      rw [Option.some.inj h]
      exact Or.inl ⟨e, rfl⟩
    · rw [if_neg e] at h
      obtain ⟨v33, -, h⟩ := b1_e h
      obtain ⟨v35, -, h⟩ := b1_e h
      obtain ⟨v38, μ39, e2, h⟩ := b2_e h
      rcases ih _ _ _ h with ⟨-, q⟩ | q
      · refine Or.inr ?_
        rw [q]
        exact lnk_ge e2
      · exact Or.inr q
theorem jmin_0 {x : Int32} (h : 0 ≤ x) : jmin x 0 = 0 := by
  unfold jmin
  by_cases e : (0 : Int32) < x
  · rw [if_pos e]
  · rw [if_neg e]
    exact Int32.le_antisymm (Int32.not_lt.mp e) h
theorem c_ask {z n : Nat} {acc : Nat × Nat} (h : glR z n acc g cap μ ν) :
    ∃ (cd : Nat) (r : Int32) (n' : Nat) (acc' : Nat × Nat) (g' cap' : Nat) (μ' : Mu) (b : Int32) (ν' : Mu), f_GE_ask n acc g cap μ = some (cd, r, n', acc', g', cap', μ') ∧ f_MO_ask ν = some (b, ν') ∧ cd ≤ 1 ∧ ν' 70 0 = nI cd ∧ (cd = 0 → r = b) ∧ alR n' acc' g' cap' (98 + z) (BS + 6 * z) ∧ ∃ R t, baR R t μ' ν' ∧ stR g' cap' R t z μ' ν' := by
  obtain ⟨ha, R, t, hb, hs⟩ := h
  obtain ⟨⟨tn, t1, t2, t3, t4⟩, ⟨r1, r2, r3, r4⟩, ht3, ht1, ht2, hco⟩ := id hb
  have hg := ha.1
  have hW : ∀ j, j < tn → wOK (μ 2 j) := fun j hj => (t4 j hj).2
  have h71 : ∀ j, j < tn → ν 71 j = μ 2 j := fun j hj => (t4 j hj).1.symm
  have hqc : f_GE_isQuestion (nI tn) (sI μ 1 1 0) = some (bI (decide (0 < tn) && qsc (fun j => kd (μ 2 j)) tn 0 0)) := q_c t1 (fun j hj => rfl)
  have hqm : f_MO_areGoals 0 ν = some (bI (qsc (fun j => kd (μ 2 j)) tn 0 0)) := q_m t1 t3 (fun j hj => by rw [h71 j hj])
  have hng : g ≠ 1 ∧ g + 1 ≠ 1 ∧ g + 2 ≠ 1 ∧ g + 3 ≠ 1 := by unfold gOK at hg; omega
  -- refused
  have hbad : (decide (0 < tn) && qsc (fun j => kd (μ 2 j)) tn 0 0) = false → ∃ (cd : Nat) (r : Int32) (n' : Nat) (acc' : Nat × Nat) (g' cap' : Nat) (μ' : Mu) (b : Int32) (ν' : Mu), f_GE_ask n acc g cap μ = some (cd, r, n', acc', g', cap', μ') ∧ f_MO_ask ν = some (b, ν') ∧ cd ≤ 1 ∧ ν' 70 0 = nI cd ∧ (cd = 0 → r = b) ∧ alR n' acc' g' cap' (98 + z) (BS + 6 * z) ∧ ∃ R t, baR R t μ' ν' ∧ stR g' cap' R t z μ' ν' := by
    intro q
    have hv : (if (ν 70 1) ≤ 0 then some ((0 : Int32)) else (b1 (f_MO_areGoals 0 ν) fun v6 => if v6 = 0 then some ((0 : Int32)) else some ((1 : Int32)))) = some 0 := by
      rw [t3]
      by_cases e : tn = 0
      · rw [e, if_pos (by decide)]
      · rw [if_neg (nI_nle (by omega) (by omega)), hqm, b1_s]
        rw [decide_eq_true (show 0 < tn by omega), Bool.true_and] at q
        rw [q, if_pos (by rfl)]
    refine ⟨1, 0, n, acc, g, cap, sI μ 1 1 0, 0, sI (sI ν 70 0 1) 70 1 0, ?_, ?_, by omega, rfl, fun q => by omega, ha, R, t, ⟨⟨0, by omega, rfl, rfl, fun j hj => by omega⟩, ⟨r1, r2, r3, fun r hr => ?_⟩, ht3, ht1, ht2, hco⟩, stR_d hs r1 (fun k hk => sI_nk (by omega)) rfl rfl rfl rfl rfl rfl (fun k a b => by rw [sI_nk (by omega), sI_nk (by omega)]) (fun j hj => by rw [sI_nj (by omega), sI_nj (by omega)]) (fun M h => h)⟩
    · unfold f_GE_ask f_GE_takeTyped
      rw [b2_s, t2, hqc, b1_s, q, if_neg (by decide)]
    · unfold f_MO_ask
      rw [hv, b1_s, if_pos rfl, b1_s, if_pos rfl, b1_s, if_pos rfl]
    · have := r4 r hr
      unfold ruR at this ⊢
      rw [sI_nk (by omega), sI_nk (by omega)]
      exact this
  by_cases e : (decide (0 < tn) && qsc (fun j => kd (μ 2 j)) tn 0 0) = true
  rotate_left
  · refine hbad ?_
    cases hq : (decide (0 < tn) && qsc (fun j => kd (μ 2 j)) tn 0 0) with
    | true => exact absurd hq e
    | false => rfl
  clear hbad
  have e2 := (Bool.and_eq_true _ _).mp e
  have e0 : 0 < tn := of_decide_eq_true e2.1
  have hqs : qsc (fun j => kd (μ 2 j)) tn 0 0 = true := e2.2
  obtain ⟨hse, M, hmk, hM, h58⟩ := stR_x hs
  -- the class reads the question
  obtain ⟨μ1, m, u1, u2, u3, u4, u5, u6, u7⟩ := rd_s (q := 38) (L := tn) (W := μ 2) (μ := sI μ 1 1 0) rfl (by omega) (by omega) t1 hW (fun j hj => rfl)
  have hfr : ∀ k j, k ≠ 38 → k ≠ 39 → μ1 k j = (sI μ 1 1 0) k j := fun k j a b => fr_CL_read u1 (by unfold W_CL_read; omega)
  obtain ⟨ν1, w1, ⟨w2, w2b, w2c, w2d, w2e⟩, w3, w4, w5⟩ := end_s (sI ν 70 0 0)
  have hng3 : g + 3 ≠ 38 ∧ g + 3 ≠ 39 ∧ g + 3 ≠ 40 ∧ g + 3 ≠ 58 := by unfold gOK at hg; omega
  generalize hμ3 : sI (sI (sI μ1 40 1 0) 40 3 0) 58 5 0 = μ3
  generalize hν3 : sI (sI (sI (sI ν1 70 25 1) 70 13 0) 70 17 (-1)) 70 12 0 = ν3
  have hcl : clR 38 71 30 0 tn (μ 2) (fun v => hasB (μ 2) v tn) μ3 ν3 := by
    have h72 : ∀ j, j < tn → ν3 71 (0 + j) = μ 2 j := fun j hj => by
      rw [← hν3, Nat.zero_add]
      show ν1 71 j = _
      rw [w4 71 (by decide) (by decide)]
      exact h71 j hj
    refine ⟨⟨rfl, by omega⟩, ⟨Or.inl rfl, rfl, by omega, by decide⟩, ⟨e0, t1⟩, hW, hqs, fun j v hj hv q => hasB_t.mpr ⟨j, hj, q⟩, ?_, fun j hj => ?_, h72, fun v hv => ?_, fun v hv ν1 hν1 => hv_s rfl t1 (by omega) (by decide) hv (fun j hj => by rw [hν1]; exact h72 j hj)⟩
    · rw [← hμ3]; exact u4
    · rw [← hμ3]; exact u7 j hj
    · rw [← hμ3]
      show ((μ1 38 2 >>> (nI v &&& 31)) &&& 1) = 1 ↔ _
      rw [u5, mk_bit m u2 v hv, u3 v hv]
  obtain ⟨μ4, ν4, ν5, hc, N, S, nq, φ, K, τ, x1, x2, x3, x4, x5, x6, x7, x8, x9, x10⟩ := begin_R (R := R) (cap := cap) (M := M) (y := 1) hg hcl u2 u3 (by rw [← hμ3]; exact u5) (by rw [← hμ3]; rfl) (by rw [← hμ3]; rfl) (by rw [← hμ3]; rfl) (fun p hp => by
    rw [← hμ3, sI_nk hng3.2.2.2, sI_nk hng3.2.2.1, sI_nk hng3.2.2.1, hfr _ _ hng3.1 hng3.2.1, sI_nk hng.2.2.2]; exact hse p hp) (fun x hx => by rw [← hν3]; exact w2e x hx) (by rw [← hν3]; rfl) (by rw [← hν3]; exact w3) (by rw [← hν3]; exact w2c) (by rw [← hν3]; rfl) (by rw [← hν3]; exact w2d) (by rw [← hν3]; rfl) (by
    rw [← hν3]
    show ν1 70 34 = _ ∧ ∀ c, c < 240 → ∃ n, n ≤ M ∧ ν1 90 c = nI n
    rw [w4 90 (by decide) (by decide), w5 34 (by decide) (by decide) (by decide) (by decide) (by decide)]; exact hmk)
  have h5_17 : ν5 70 17 = -1 := by
    have := x7.2.2.2.2.2.2.2.2.2.1.2.2.2
    rcases this with q | ⟨r, pp, q1, q2, q3, -⟩
    · exact q.2
    · exact absurd q3 (n_m1 (by omega))
  obtain ⟨n', acc', g', cap', μ6, ν6, y1, y2, y3, y4, y5, y6, y7, y8⟩ := bring_b (y := 1) ha x7 r1 (by omega) (by omega) x5 x8 x9 ⟨rfl, h5_17⟩ x10
  -- what stays, in the class
  have rμ : ∀ k, k < 38 → k ≠ 37 → μ6 k = (sI μ 1 1 0) k := by
    intro k a b
    rw [y5 k (by omega) b, sI_nk b, sI_nk b]
    funext j
    rw [fr_CE_copy x1 (by unfold W_CE_copy; omega), ← hμ3, sI_nk (by omega), sI_nk (by omega), sI_nk (by omega), hfr k j (by omega) (by omega)]
  have rμ37 : ∀ j, j ≠ 9 → j ≠ 10 → μ6 37 j = μ 37 j := by
    intro j a b
    rw [y6 j a, sI_nj b, sI_nj a, fr_CE_copy x1 (by unfold W_CE_copy; omega), ← hμ3]
    show μ1 37 j = _
    rw [hfr 37 j (by omega) (by omega), sI_nk (by decide)]
  have rμ64 : μ6 64 5 = μ 64 5 := by
    rw [y5 64 (by omega) (by omega), sI_nk (by decide), sI_nk (by decide), fr_CE_copy x1 (by unfold W_CE_copy; omega), ← hμ3]
    show μ1 64 5 = _
    rw [hfr 64 5 (by omega) (by omega), sI_nk (by decide)]
  -- and in the reference
  have r77 : ∀ k j, k ≠ 87 → ν5 k j = ν4 k j := by
    intro k j a
    obtain ⟨νx, q1, q2, -⟩ := a77_l (k1 := 1) 8 fu 0 ν4 (by omega) (by unfold fu; omega)
    have q3 : some νx = some ν5 := q1.symm.trans x3
    rw [← Option.some.inj q3, q2 k a]
  have rν : ∀ k, k = 71 ∨ k = 72 ∨ k = 73 → ν6 k = ν k := by
    intro k hk
    rw [y7 k (by omega) (by omega) (by omega)]
    funext j
    rw [r77 k j (by omega), fr_MO_copy x2 (by unfold W_MO_copy; omega), ← hν3, sI_nk (by omega), sI_nk (by omega), sI_nk (by omega), sI_nk (by omega), w4 k (by omega) (by omega), sI_nk (by omega)]
  have rν7 : ∀ j, j = 0 ∨ j = 1 ∨ j = 3 ∨ j = 27 ∨ j = 28 ∨ j = 25 ∨ j = 26 → ν6 70 j = ν3 70 j := by
    intro j hj
    rw [y8 j (by omega) (by omega), r77 70 j (by decide), fr_MO_copy x2 (by unfold W_MO_copy; omega)]
  have r3' : ∀ j, j = 0 ∨ j = 1 ∨ j = 3 ∨ j = 27 ∨ j = 28 → ν3 70 j = (sI ν 70 0 0) 70 j := by
    intro j hj
    rw [← hν3, sI_nj (by omega), sI_nj (by omega), sI_nj (by omega), sI_nj (by omega), w5 j (by omega) (by omega) (by omega) (by omega) (by omega)]
  have e25 : ν6 70 25 = 1 := by rw [rν7 25 (by omega), ← hν3]; rfl
  have e26 : ν6 70 26 = 0 := by rw [rν7 26 (by omega), ← hν3]; exact w2b
  obtain ⟨pp, e9a, e9⟩ : ∃ pp, pp < 2 ^ 29 ∧ μ6 37 9 = nI pp := by
    have hcu := y4.2.2.2.2.2.2.2.2.2.1
    rcases cur_e hcu with ⟨c1, c2⟩ | ⟨pp, gg, mm, c1, c2, c3, c4, c5⟩
    · exfalso
      rcases a108_ne _ _ _ _ y2 with ⟨q, -⟩ | q
      · rw [x9, nI_m1 x4] at q
        exact nI_pos (by omega) q
      · rw [c2] at q
        exact q (by decide)
    · exact ⟨pp, c1, c3⟩
  have hg' := y3.1
  have hact : actR g' cap' R (fun v => hasB (μ 2) v tn) N S 0 0 0 nq (0 + hc) 8 M φ K τ (fun _ => 0) (fun _ => 0) (fun _ => 0) (fun _ => 0) (fun _ => 0) (sI μ6 37 11 1) (sI ν6 70 1 0) :=
    actR_f y4 r1 (fun k hk => sI_nk (by unfold gOK at hg'; omega)) rfl rfl rfl rfl rfl (fun k a b => sI_nk (by omega)) (fun j hj => sI_nj (by omega)) y4.2.2.2.2.2.2.2.2.2.2.2.2.2.2.1
  have hin : f_MO_inUse (sI ν6 70 1 0) = some (nI N) := inUse_s (Q_of hact.1) rfl
  refine ⟨0, nI N, n', acc', g', cap', sI μ6 37 11 1, nI N, sI ν6 70 1 0, ?_, ?_, by omega, ?_, fun _ => rfl, y3, R, t, ⟨⟨0, by omega, ?_, rfl, fun j hj => by omega⟩, ⟨r1, ?_, ?_, fun r hr => ?_⟩, ht3, ?_, ?_, ?_⟩, Or.inr (Or.inl ⟨rfl, e25, e26, ⟨_, N, S, 0, 0, 0, nq, 0 + hc, 8, M, φ, K, τ, _, _, _, _, _, hact, by omega, by omega, by omega, by omega, hM⟩, pp, e9a, e9⟩)⟩
  · unfold f_GE_ask f_GE_takeTyped
    rw [b2_s, t2, hqc, b1_s, e, if_pos (by decide)]
    unfold f_SE_begin f_CE_clear f_CH_cutTo
    have e58 : (sI (sI μ1 40 1 0) 40 3 0) 58 5 = μ 58 5 := by
      show μ1 58 5 = _
      rw [hfr 58 5 (by omega) (by omega), sI_nk (by decide)]
    rw [u1, b1_s, b1_s, e58, jmin_0 h58, b1_s, hμ3, x1, b1_s, y1, b5_s, b5_s]
    unfold f_SE_cellsInUse
    rw [if_pos (by rw [sI_at]; decide), b1_s]
    show some (0, μ6 40 1, _) = _
    rw [y4.2.1.1]
  · have hv : (if (ν 70 1) ≤ 0 then some ((0 : Int32)) else (b1 (f_MO_areGoals 0 ν) fun v6 => if v6 = 0 then some ((0 : Int32)) else some ((1 : Int32)))) = some 1 := by
      rw [t3, if_neg (nI_nle (by omega) (by omega)), hqm, b1_s, hqs, if_neg (by decide)]
    have e1 : ν1 70 1 = nI tn := by rw [w5 1 (by decide) (by decide) (by decide) (by decide) (by decide)]; exact t3
    unfold f_MO_ask
    rw [hv, b1_s, if_neg (by decide), b1_s, if_neg (by decide), w1, b1_s, e1, hν3, x2, b1_s, x3, b1_s, y2, b1_s, b1_s, if_neg (by decide), hin, b1_s]
  · show ν6 70 0 = _
    rw [rν7 0 (by omega), r3' 0 (by omega)]; rfl
  · show μ6 1 1 = _
    rw [rμ 1 (by omega) (by omega)]; rfl
  · show μ6 3 1 = _
    rw [rμ 3 (by omega) (by omega)]; exact r2
  · show ν6 70 3 = _
    rw [rν7 3 (by omega), r3' 3 (by omega)]; exact r3
  · have := r4 r hr
    unfold ruR at this ⊢
    rw [sI_nk (by omega), sI_nk (by omega), rμ _ (by omega) (by omega), rμ _ (by omega) (by omega), sI_nk (by omega), sI_nk (by omega), sI_nk (by decide), sI_nk (by decide), rν 72 (by omega), rν 73 (by omega)]
    exact this
  · show μ6 37 12 = _
    rw [rμ37 12 (by omega) (by omega)]; exact ht1
  · show ν6 70 27 = _
    rw [rν7 27 (by omega), r3' 27 (by omega)]; exact ht2
  · show μ6 64 5 = ν6 70 28
    rw [rν7 28 (by omega), r3' 28 (by omega), rμ64]; exact hco
end AKA
