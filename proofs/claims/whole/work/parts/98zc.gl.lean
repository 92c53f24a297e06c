/-! the state of the whole; the end of a step -/
section GLA
theorem end_l (d : Nat) : ∀ (fl i : Nat) (ν : Mu), i + d = 240 → d < fl → ∃ ν', f_MO_end_27 fl (nI i) ν = some ν' ∧ (∀ k, k ≠ 74 → ν' k = ν k) ∧ ∀ x, x < 240 → (x < i → ν' 74 x = ν 74 x) ∧ (i ≤ x → ν' 74 x = 0) := by
  induction d with
  | zero =>
    intro fl i ν h1 h2
    cases fl with
    | zero => omega
    | succ fl =>
    have e : i = 240 := by omega
    subst e
    refine ⟨ν, ?_, fun _ _ => rfl, fun x hx => ⟨fun _ => rfl, fun q => by omega⟩⟩
    unfold f_MO_end_27
    rw [if_pos (by decide)]
  | succ d ih =>
    intro fl i ν h1 h2
    cases fl with
    | zero => omega
    | succ fl =>
    obtain ⟨ν', u1, u2, u3⟩ := ih fl (i + 1) (sI ν 74 i 0) (by omega) (by omega)
    refine ⟨ν', ?_, fun k hk => by rw [u2 k hk, sI_nk hk], fun x hx => ⟨fun q => ?_, fun q => ?_⟩⟩
    · unfold f_MO_end_27
      rw [if_neg (show ¬ 240 ≤ nI i from nI_ge (b := 240) (by omega) (by decide)), wr_n (by omega) (by decide), b1_s, nI_1]
      exact u1
    · rw [(u3 x hx).1 (by omega), sI_nj (by omega)]
    · by_cases e : x = i
      · subst e; rw [(u3 x hx).1 (by omega), sI_at]
      · exact (u3 x hx).2 (by omega)
/-- no search, in the reference -/
def ovR (ν : Mu) : Prop := ν 70 25 = 0 ∧ ν 70 26 = 0 ∧ ν 70 18 = 0 ∧ ν 70 16 = -1 ∧ ∀ x, x < 240 → ν 74 x = 0
theorem end_s (ν : Mu) : ∃ ν', f_MO_end ν = some ν' ∧ ovR ν' ∧ ν' 70 23 = 0 ∧ (∀ k, k ≠ 70 → k ≠ 74 → ν' k = ν k) ∧ (∀ j, j ≠ 25 → j ≠ 26 → j ≠ 18 → j ≠ 16 → j ≠ 23 → ν' 70 j = ν 70 j) := by
  obtain ⟨ν', u1, u2, u3⟩ := end_l 240 fu 0 (sI (sI (sI (sI (sI ν 70 25 0) 70 26 0) 70 18 0) 70 16 (-1)) 70 23 0) (by omega) (by unfold fu; omega)
  have e7 := u2 70 (by decide)
  refine ⟨ν', ?_, ⟨by rw [e7]; rfl, by rw [e7]; rfl, by rw [e7]; rfl, by rw [e7]; rfl, fun x hx => (u3 x hx).2 (by omega)⟩, by rw [e7]; rfl, fun k a b => ?_, fun j a b c d e => ?_⟩
  · unfold f_MO_end
    rw [show f_MO_end_27 fu 0 _ = some ν' from u1, b1_s]
  · rw [u2 k b, sI_nk a, sI_nk a, sI_nk a, sI_nk a, sI_nk a]
  · rw [e7, sI_nj e, sI_nj d, sI_nj c, sI_nj b, sI_nj a]
/-- a search, with the bounds that t steps left give -/
def actB (g cap R t z : Nat) (μ ν : Mu) : Prop :=
  ∃ (has : Nat → Bool) (N S c tr tb nq GT P M : Nat) (φ K τ cm tm gm cs ct : Nat → Nat), actR g cap R has N S c tr tb nq GT P M φ K τ cm tm gm cs ct μ ν ∧ c ≤ 300 - t ∧ GT ≤ 30 + 29 * (300 - t) ∧ S ≤ 128 * (301 - t) ∧ P ≤ 8 * (301 - t) ∧ M ≤ 302 * (300 - t) + z
def stR (g cap R t z : Nat) (μ ν : Mu) : Prop :=
  (μ 37 11 = 0 ∧ ovR ν ∧ (∀ p, p < cap → μ (g + 3) p = 0) ∧ ∃ M, mkB M ν ∧ M ≤ 302 * (300 - t) + z ∧ 0 ≤ μ 58 5) ∨ (μ 37 11 = 1 ∧ ν 70 25 = 1 ∧ ν 70 26 = 0 ∧ actB g cap R t z μ ν ∧ ∃ pp, pp < 2 ^ 29 ∧ μ 37 9 = nI pp) ∨ (μ 37 11 = 2 ∧ ν 70 25 = 1 ∧ ν 70 26 = 1 ∧ actB g cap R t z μ ν ∧ μ 37 9 = -1)
/-- the chains of both are empty together -/
theorem cur_e {g cap GT R N : Nat} {φ K : Nat → Nat} {μ ν : Mu} (h : curR g cap GT R N φ K μ ν) : (μ 37 9 = -1 ∧ ν 70 16 = -1) ∨ ∃ pp gg m, pp < 2 ^ 29 ∧ gg < 2 ^ 29 ∧ μ 37 9 = nI pp ∧ ν 70 16 = nI gg ∧ chR N φ K (μ g) (μ (g + 1)) (μ (g + 2)) (ν 80) (ν 81) (m + 1) (nI pp) (nI gg) := by
  obtain ⟨⟨n, h1⟩, -⟩ := h
  cases n with
  | zero => exact Or.inl h1
  | succ n =>
    have h2 := h1
    obtain ⟨pp, gg, e1, e2, e3, e4, -⟩ := h1
    rw [e1, e2] at h2
    exact Or.inr ⟨pp, gg, n, e3, e4, e1, e2, h2⟩
theorem settle_s {g cap R t z rr : Nat} {μ ν : Mu} (hg : gOK g) (hR16 : R ≤ 16) (ht : t ≤ 300) (h : actB g cap R t z μ ν) (h11 : μ 37 11 = 1) (h25 : ν 70 25 = 1) (h26 : ν 70 26 = 0) (h0 : ν 70 0 = 0) (h49 : ν 70 49 = nI rr) (hrr : rr = 0 ∨ rr = 1 ∨ rr = 2 ∨ rr = 3) :
    ∃ μ' ν', f_SE_settle (nI rr) μ = some μ' ∧ mfin ν = some ν' ∧ stR g cap R t z μ' ν' ∧ ν' 70 0 = (if 2 ≤ rr then nI (rr + 1) else 0) ∧ (2 ≤ rr → μ' 37 11 = 0) ∧ (∀ k, k ≠ 37 → k ≠ 40 → k ≠ 41 → k ≠ 58 → μ' k = μ k) ∧ μ' 37 12 = μ 37 12 ∧ (∀ k, k ≠ 70 → k ≠ 74 → k ≠ 76 → ν' k = ν k) ∧ (∀ j, j = 1 ∨ j = 3 ∨ j = 27 ∨ j = 28 → ν' 70 j = ν 70 j) := by
  obtain ⟨has, N, S, c, tr, tb, nq, GT, P, M, φ, K, τ, cm, tm, gm, cs, ct, ha, b1', b2', b3, b4, b5⟩ := h
  obtain ⟨hR, ⟨p1, p2, p3⟩, ⟨n1, n2, n3, n4⟩, htrl, hseg, hdn, hmrk, hrows, hchg, hcur, hque, hseen, hpot, hbnd, hmk, hlow⟩ := id ha
  have hng : g ≠ 37 ∧ g + 1 ≠ 37 ∧ g + 2 ≠ 37 ∧ g + 3 ≠ 37 := by unfold gOK at hg; omega
  -- both end
  have over : ∀ (ν0 : Mu), (∀ k, k ≠ 70 → ν0 k = ν k) → (∀ j, j ≠ 0 → ν0 70 j = ν 70 j) → ∃ ν', f_MO_end ν0 = some ν' ∧ stR g cap R t z (sI μ 37 11 0) ν' ∧ ν' 70 0 = ν0 70 0 ∧ (∀ k, k ≠ 70 → k ≠ 74 → k ≠ 76 → ν' k = ν k) ∧ (∀ j, j = 1 ∨ j = 3 ∨ j = 27 ∨ j = 28 → ν' 70 j = ν 70 j) := by
    intro ν0 q1 q2
    obtain ⟨ν', u1, u2, u3, u4, u5⟩ := end_s ν0
    refine ⟨ν', u1, Or.inl ⟨rfl, u2, fun p hp => ?_, M, ?_, b5, (show 0 ≤ μ 58 5 by rw [p3]; exact nI_pos' (by omega))⟩, u5 0 (by decide) (by decide) (by decide) (by decide) (by decide), fun k a b e => ?_, fun j hj => ?_⟩
    · rw [sI_nk (by omega)]; exact hseen p hp
    · unfold mkB
      rw [u4 90 (by decide) (by decide), q1 90 (by decide), u5 34 (by decide) (by decide) (by decide) (by decide) (by decide), q2 34 (by decide)]; exact hmk
    · rw [u4 k a b, q1 k a]
    · rw [u5 j (by omega) (by omega) (by omega) (by omega) (by omega), q2 j (by omega)]
  rcases hrr with e | e | e | e
  · -- well
    subst e
    have hm0 : ∀ v64 : Int32, (if 0 ≤ (ν 70 16) then some ((0 : Int32)) else some ((1 : Int32))) = some v64 → (v64 = 0 ∨ v64 = 1) → mfin ν = some (sI ν 70 26 v64) := by
      intro v64 a1 a2
      unfold mfin
      rw [if_pos (by rw [h49]; decide), if_pos (by rw [h49]; decide), a1, b1_s, if_pos a2]
    rcases cur_e hcur with ⟨c1, c2⟩ | ⟨pp, gg, m, c1, c2, c3, c4, c5⟩
    · have hact : actR g cap R has N S c tr tb nq GT P M φ K τ cm tm gm cs ct (sI μ 37 11 2) (sI ν 70 26 1) := actR_c ha hR16 (by omega) (fun k hk => sI_nk (by omega)) rfl rfl rfl rfl rfl (fun k a b => sI_nk (by omega)) rfl (fun j hj => sI_nj (by omega))
      refine ⟨sI μ 37 11 2, sI ν 70 26 1, ?_, hm0 1 (by rw [c2, if_neg (by decide)]) (Or.inr rfl), Or.inr (Or.inr ⟨rfl, h25, rfl, ⟨has, N, S, c, tr, tb, nq, GT, P, M, φ, K, τ, cm, tm, gm, cs, ct, hact, b1', b2', b3, b4, b5⟩, c1⟩), by rw [if_neg (by omega)]; exact h0, fun q => by omega, fun k a _ _ _ => sI_nk a, rfl, fun k a _ _ => sI_nk a, fun j hj => sI_nj (by omega)⟩
      unfold f_SE_settle
      rw [if_pos (by decide), if_pos (show nI 0 = 0 from rfl), if_neg (not_not_intro c1)]
    · have hact : actR g cap R has N S c tr tb nq GT P M φ K τ cm tm gm cs ct μ (sI ν 70 26 0) := actR_c ha hR16 (by omega) (fun _ _ => rfl) rfl rfl rfl rfl rfl (fun k a b => sI_nk (by omega)) rfl (fun j hj => sI_nj (by omega))
      refine ⟨μ, sI ν 70 26 0, ?_, hm0 0 (by rw [c4, if_pos (nI_pos' (by omega))]) (Or.inl rfl), Or.inr (Or.inl ⟨h11, h25, rfl, ⟨has, N, S, c, tr, tb, nq, GT, P, M, φ, K, τ, cm, tm, gm, cs, ct, hact, b1', b2', b3, b4, b5⟩, pp, c1, c3⟩), by rw [if_neg (by omega)]; exact h0, fun q => by omega, fun _ _ _ _ _ => rfl, rfl, fun k a _ _ => sI_nk a, fun j hj => sI_nj (by omega)⟩
      unfold f_SE_settle
      rw [if_pos (by decide), if_pos (show nI 0 = 0 from rfl), if_pos (by rw [c3]; exact fun q => n_m1 (x := pp) (by omega) q.symm)]
  · -- failed
    subst e
    have hm1 : mfin ν = (b1 (f_MO_fail ν) fun μ73 => some μ73) := by
      unfold mfin
      rw [if_neg (not_not_intro (show ν 70 49 = 1 from h49))]
    by_cases ec : c = 0
    · subst ec
      obtain ⟨ν', u1, u2, u3, u4, u5⟩ := over ν (fun _ _ => rfl) (fun _ _ => rfl)
      refine ⟨sI μ 37 11 0, ν', ?_, ?_, u2, by rw [u3, h0, if_neg (by omega)], fun q => by omega, fun k a _ _ _ => sI_nk a, rfl, u4, u5⟩
      · unfold f_SE_settle
        rw [if_neg (not_not_intro (show nI 1 = 1 from rfl))]
        unfold f_SE_tryOtherWay
        rw [p3, if_neg (not_not_intro (show nI 0 = 0 from rfl)), b1_s]
      · rw [hm1]
        unfold f_MO_fail
        rw [n3, if_neg (not_not_intro (show nI 0 = 0 from rfl)), u1, b1_s, b1_s]
    · obtain ⟨c0, hc0⟩ : ∃ c0, c = c0 + 1 := ⟨c - 1, by omega⟩
      subst hc0
      obtain ⟨μ', ν', u1, u2, u3, u4, u5, u6, u7, u8⟩ := back_s ha hg (by omega) (by omega) (by omega) hR16
      refine ⟨μ', ν', ?_, ?_, Or.inr (Or.inl ⟨u3, ?_, ?_, ⟨has, cm c0, S, c0, tm c0, ct c0, nq, GT, P, M, φ, K, τ, cm, tm, gm, cs, ct, u4, by omega, b2', b3, b4, b5⟩, ?_⟩), ?_, fun q => by omega, u5, u6 12 (by decide) (by decide) (by decide), u7, fun j hj => u8 j (by omega) (by omega) (by omega) (by omega)⟩
      · unfold f_SE_settle
        rw [if_neg (not_not_intro (show nI 1 = 1 from rfl)), u1, b1_s]
      · rw [hm1, u2, b1_s]
      · rw [u8 25 (by decide) (by decide) (by decide) (by decide)]; exact h25
      · rw [u8 26 (by decide) (by decide) (by decide) (by decide)]; exact h26
      · rcases cur_e u4.2.2.2.2.2.2.2.2.2.1 with ⟨c1, c2⟩ | ⟨pp, gg, m, c1, c2, c3, c4, c5⟩
        · exfalso
          obtain ⟨q1, q2, nn, pp, gg, r2, d1, d2, d3, d4, d5, d6, d7, d8, d9⟩ := hchg c0 (by omega)
          have hsd := u4.2.2.2.2.2.2.2.2.2.1.2.2.2
          unfold f_SE_tryOtherWay at u1
          rw [p3, if_pos (nI_ne0 (by omega) (by omega)), nI_pred] at u1
          obtain ⟨μ3, g1, u1⟩ := b1_e u1
          obtain ⟨v5, -, u1⟩ := b1_e u1
          obtain ⟨v7, -, u1⟩ := b1_e u1
          obtain ⟨μ10, g2, u1⟩ := b1_e u1
          obtain ⟨v12, g3, u1⟩ := b1_e u1
          obtain ⟨v14, -, u1⟩ := b1_e u1
          have e10 : μ10 59 = μ 59 := by
            funext j
            rw [fr_CE_goBack g2 (by unfold W_CE_goBack; omega)]
            unfold f_CH_cutTo at g1
            rw [← Option.some.inj g1]
            rfl
          rw [e10, rd_n (by omega) (by decide)] at g3
          have g4 := Option.some.inj g3
          have g5 := Option.some.inj u1
          rw [← g5] at c1
          have c1' : v12 = -1 := c1
          rw [← g4, d2] at c1'
          exact n_m1 (x := pp) (by omega) c1'.symm
        · exact ⟨pp, c1, c3⟩
      · rw [u8 0 (by decide) (by decide) (by decide) (by decide), h0, if_neg (by omega)]
  all_goals
    subst e
    obtain ⟨ν', u1, u2, u3, u4, u5⟩ := over (sI ν 70 0 (ν 70 49 + 1)) (fun k hk => sI_nk hk) (fun j hj => sI_nj hj)
    refine ⟨sI μ 37 11 0, ν', ?_, ?_, u2, ?_, fun _ => rfl, fun k a _ _ _ => sI_nk a, rfl, u4, u5⟩
    · unfold f_SE_settle
      rw [if_pos (by decide), if_neg (by decide)]
    · unfold mfin
      rw [if_pos (by rw [h49]; decide), if_neg (by rw [h49]; decide), u1, b1_s]
    · rw [u3, sI_at, h49]
      rfl
end GLA
