section CPY
variable {g cap R : Nat} {has : Nat → Bool} {N S c tr tb nq GT P M : Nat} {φ K τ cm tm gm cs ct : Nat → Nat} {μ ν : Mu}
theorem goR_x {N1 N2 : Nat} {φ' K' : Nat → Nat} {t hh gw : Int32} (hN : N1 ≤ N2) (hφ : ∀ i, i < N1 → φ' i = φ i ∧ K' i = K i) (h : goR N1 φ K t hh gw) : goR N2 φ' K' t hh gw := by
  obtain ⟨x, x1, x2, x3⟩ := h
  refine ⟨x, x1, x2, ?_⟩
  rcases x3 with x3 | ⟨i, i1, i2, i3, i4, i5⟩ | x3
  · exact Or.inl x3
  · obtain ⟨e1, e2⟩ := hφ i i1
    exact Or.inr (Or.inl ⟨i, by omega, by rw [e2]; exact i2, by rw [e1]; exact i3, i4, by rw [e1]; exact i5⟩)
  · exact Or.inr (Or.inr x3)
theorem chR_x {N1 N2 : Nat} {φ' K' : Nat → Nat} {TT HH BB G GN : Nat → Int32} (hN : N1 ≤ N2) (hφ : ∀ i, i < N1 → φ' i = φ i ∧ K' i = K i) (n : Nat) : ∀ (p q : Int32), chR N1 φ K TT HH BB G GN n p q → chR N2 φ' K' TT HH BB G GN n p q := by
  induction n with
  | zero => intro p q h; exact h
  | succ n ih =>
    intro p q hh
    obtain ⟨pp, gg, e1, e2, e3, e4, e5, e6, e7, e8⟩ := hh
    exact ⟨pp, gg, e1, e2, e3, e4, goR_x hN hφ e5, e6, e7, ih _ _ e8⟩
theorem cp_act {q ob nof from' L : Nat} {W : Nat → Int32} {hs : Nat → Bool} (h : actR g cap R has N S c tr tb nq GT P M φ K τ cm tm gm cs ct μ ν) (hg : gOK g) (hR16 : R ≤ 16) (hGT : GT < 2 ^ 29) (hcl : clR q ob nof from' L W hs μ ν) (hN : N + cnt hs 8 + sca (fun j => kd (W j)) L 0 ≤ 240) (hS : S + 8 + sca (fun j => kd (W j)) L 0 < 2 ^ 30) :
    ∃ (μ' ν' : Mu) (hc S' : Nat) (φ' K' τ' : Nat → Nat), f_CE_copy q μ = some μ' ∧ f_MO_copy ob nof (nI from') (nI L) ν = some ν' ∧ 0 < hc ∧ hc ≤ L ∧ S' ≤ S + 8 + sca (fun j => kd (W j)) L 0 ∧ actR g cap R has (N + cnt hs 8 + sca (fun j => kd (W j)) L 0) S' c tr tb nq GT (P + 8) M φ' K' τ' cm tm gm cs ct μ' ν' ∧ μ' 40 8 = nI hc ∧ ν' 70 46 = nI hc ∧ (∀ x, x < hc → gtR (N + cnt hs 8 + sca (fun j => kd (W j)) L 0) φ' K' (μ' 45 x) (ν' 96 x) (ν' 97 x)) ∧ (kd (W 0) ≠ 6 → kd (μ' 45 0) ≠ 6) ∧ (∀ i, i < N → φ' i = φ i ∧ K' i = K i) := by
  obtain ⟨hR, ⟨p1, p2, p3⟩, ⟨n1, n2, n3, n4⟩, htrl, hseg, hdn, hmrk, hrows, hchg, hcur, hque, hseen, hpot, hbnd, hmk, hlow⟩ := h
  have hN0 := hR.1
  obtain ⟨μ', ν', hc, S', C', U', T', KK', V', NM', A', φ', K', τ', u1, u2, u3, u4, u5, u6, u7, u8, u9, u10, u11, u12, u13, u14, u15, u16, u17, u18, u19, u20, u21⟩ := cp_s hcl hR rfl p1 rfl rfl ⟨rfl, rfl, rfl, rfl⟩ n1 hN hS
  generalize hNN : N + cnt hs 8 + sca (fun j => kd (W j)) L 0 = N' at *
  have hle : N ≤ N' := by omega
  have rμ : ∀ k, k ≠ 40 → k ≠ 41 → k ≠ 43 → k ≠ 44 → k ≠ 45 → μ' k = μ k := by
    intro k a1 a2 a3 a4 a5
    funext j
    exact fr_CE_copy u1 (by unfold W_CE_copy; omega)
  have rν : ∀ k, k < 70 ∨ (70 < k ∧ k < 74) ∨ (79 < k ∧ k < 93) → ν' k = ν k := by
    intro k hk
    funext j
    exact fr_MO_copy u2 (by unfold W_MO_copy; omega)
  have rν7 : ∀ j, j ≠ 12 → j ≠ 40 → j ≠ 41 → j ≠ 43 → j ≠ 46 → ν' 70 j = ν 70 j := by
    intro j a1 a2 a3 a4 a5
    exact fr_MO_copy u2 (by unfold W_MO_copy; omega)
  have e42 := rμ 42 (by decide) (by decide) (by decide) (by decide) (by decide)
  have e37 := rμ 37 (by decide) (by decide) (by decide) (by decide) (by decide)
  have hgg : ∀ k, k = g ∨ k = g + 1 ∨ k = g + 2 ∨ k = g + 3 → μ' k = μ k := by
    intro k hk
    unfold gOK at hg
    exact rμ k (by omega) (by omega) (by omega) (by omega) (by omega)
  have hC : ∀ i, i < N → μ' 41 i = μ 41 i := by
    intro i hi
    rw [u7]; exact (u17 i hi).1
  have hφK : ∀ i, i < N → φ' i = φ i ∧ K' i = K i := fun i hi => ⟨(u17 i hi).2.1, (u17 i hi).2.2.1⟩
  have h403 : μ' 40 3 = nI tr := by
    rw [fr_CE_copy u1 (show W_CE_copy q 40 3 by unfold W_CE_copy; omega)]; exact p2
  refine ⟨μ', ν', hc, S', φ', K', τ', u1, u2, u3, u4, u5, ⟨?_, ⟨u8, h403, ?_⟩, ⟨u12, ?_, ?_, ?_⟩, ⟨fun x hx => ?_, fun x y a b => ?_⟩, ?_, fun j hj i hi hK a1 y a2 a3 => ?_, ⟨fun j hj => ?_, hmrk.2⟩, fun j hj => ?_, fun j hj => ?_, ?_, ?_, fun p hp => ?_, ?_, ?_, ?_, fun j hj x hx => ?_⟩, u13, u14, u15, u16, hφK⟩
  · rw [u7, u9, u10, u11.1, u11.2.1, u11.2.2.1, u11.2.2.2]; exact u6
  · rw [rμ 58 (by decide) (by decide) (by decide) (by decide) (by decide)]; exact p3
  · rw [rν7 23 (by decide) (by decide) (by decide) (by decide) (by decide)]; exact n2
  · rw [rν7 18 (by decide) (by decide) (by decide) (by decide) (by decide)]; exact n3
  · rw [rν7 13 (by decide) (by decide) (by decide) (by decide) (by decide)]; exact n4
  · obtain ⟨i, i1, i2, i3, i4⟩ := htrl.1 x hx
    exact ⟨i, by omega, by rw [(hφK i i1).2]; exact i2, by rw [hC i i1]; exact i3, by rw [e42]; exact i4⟩
  · rw [e42]; exact htrl.2 x y a b
  · rw [e42, rν 86 (by omega)]
    intro j hj i hi
    have hcj := (hmrk.1 j hj).1
    rw [(hφK i (by omega)).1]
    exact hseg j hj i hi
  · have hcj := (hmrk.1 j hj).1
    rw [hC i (by omega)] at a3
    rw [e42] at a1
    rw [(hφK i (by omega)).2] at hK
    have hyN : y < N := by
      rcases cont hR (show i < N by omega) with ⟨y', y1, y2, y3⟩ | q
      · rw [← tgt_u y3 a3 (by omega) (by have := u6.1; omega)]; exact y1
      · exact absurd a3 (tgt_no q (by have := u6.1; omega))
    exact hdn j hj i hi hK a1 y hyN a3
  · obtain ⟨b1, b2, b3, b4, b5, b6, b7⟩ := hmrk.1 j hj
    refine ⟨by omega, by omega, fun i hi => ?_, b4, b5, ?_, b7⟩
    · by_cases e : i < N
      · rw [(u17 i e).2.2.2]; exact b3 i e
      · have := u19 i (by omega) hi
        constructor
        · intro q; omega
        · intro q; omega
    · by_cases e : cm j = N'
      · exact Or.inl e
      · right
        by_cases e2 : cm j < N
        · rw [(hφK _ e2).2]
          rcases b6 with b6 | b6
          · omega
          · exact b6
        · -- the first cell of the copy
          have ecm : cm j = N := by omega
          rw [ecm]
          intro q
          rcases u6.2.2.2.2.2 N (by omega) with ⟨w, -⟩ | ⟨w, -⟩ | ⟨-, -, o, a, nm, h1, h2, h3, h4, h5, h6⟩
          · omega
          · omega
          · obtain ⟨x1, x2⟩ := hφK o h1
            rw [x2] at h2
            rw [(u17 o h1).1] at h4
            obtain ⟨a', nm', g1, g2, g3, g4, g5, g6, -⟩ := st_of hR h1 h2
            have e := (wd_eq (by omega) (by omega) (by omega) (by omega)).mp (h4.symm.trans g4)
            omega
  · rw [rμ 61 (by decide) (by decide) (by decide) (by decide) (by decide), rμ 62 (by decide) (by decide) (by decide) (by decide) (by decide), rμ 63 (by decide) (by decide) (by decide) (by decide) (by decide), rν 84 (by omega), rν 85 (by omega)]; exact hrows j hj
  · obtain ⟨b1, b2, n', pp', gg', r', b3, b4, b5, b6, b7, b8, b9, b10, b11⟩ := hchg j hj
    have hcj := (hmrk.1 j hj).1
    obtain ⟨gw, hh, hgo⟩ := chR_h b3 b4 (by omega)
    refine ⟨b1, b2, n', pp', gg', r', ?_⟩
    rw [hgg g (by omega), hgg (g + 1) (by omega), hgg (g + 2) (by omega), rμ 59 (by decide) (by decide) (by decide) (by decide) (by decide), rμ 60 (by decide) (by decide) (by decide) (by decide) (by decide), rμ (6 + 2 * r') (by omega) (by omega) (by omega) (by omega) (by omega), rν 80 (by omega), rν 81 (by omega), rν 82 (by omega), rν 83 (by omega)]
    exact ⟨chR_x (Nat.le_refl _) (fun i hi => hφK i (by omega)) _ _ _ b3, b4, b5, b6, b7, b8, b9, b10, nmR_m (by omega) hgo b11 (fun i hi _ => hC i (by omega))⟩
  · obtain ⟨⟨m, a1⟩, a2, a3, a4⟩ := hcur
    unfold curR
    rw [hgg g (by omega), hgg (g + 1) (by omega), hgg (g + 2) (by omega), e37, rν 80 (by omega), rν 81 (by omega), rν7 16 (by decide) (by decide) (by decide) (by decide) (by decide), rν7 17 (by decide) (by decide) (by decide) (by decide) (by decide)]
    refine ⟨⟨m, chR_x hle hφK _ _ _ a1⟩, a2, a3, ?_⟩
    rcases a4 with a4 | ⟨rr, pp, d1, d0, d2, d3, d4, d5⟩
    · exact Or.inl a4
    · refine Or.inr ⟨rr, pp, d1, d0, d2, d3, d4, ?_⟩
      rw [rμ (6 + 2 * rr) (by omega) (by omega) (by omega) (by omega) (by omega)]
      cases m with
      | zero => have := a1.1; rw [d4] at this; exact absurd this.symm (n_m1 (by omega))
      | succ m =>
        obtain ⟨gw, hh, hgo⟩ := chR_h a1 d4 d0
        exact nmR_m hN0 hgo d5 (fun i hi _ => hC i hi)
  · obtain ⟨b1, b2, b3, b4, b5⟩ := hque
    refine ⟨b1, by omega, fun i hi => by rw [(hφK i (by omega)).2]; exact b3 i hi, by rw [rμ 38 (by decide) (by decide) (by decide) (by decide) (by decide)]; exact b4, fun v hv => ?_⟩
    rw [rν 87 (by omega)]
    obtain ⟨d1, d2⟩ := b5 v hv
    refine ⟨fun q => ?_, d2⟩
    have hcv : cnt has (v + 1) = cnt has v + 1 := by rw [cnt_s, q]; rfl
    have := cnt_n (p := has) (m := v + 1) 8 (by omega)
    rw [(hφK (cnt has v) (by omega)).1]
    exact d1 q
  · rw [hgg (g + 3) (by omega)]; exact hseen p hp
  · rw [u7]; omega
  · rw [rν 86 (by omega)]; exact hbnd
  · unfold mkB
    rw [rν 90 (by omega), rν7 34 (by decide) (by decide) (by decide) (by decide) (by decide)]; exact hmk
  · obtain ⟨i, i1, i2, i3⟩ := hlow j hj x hx
    exact ⟨i, i1, by omega, by rw [e42]; exact i3⟩
end CPY
