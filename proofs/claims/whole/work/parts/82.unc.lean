section UNC
variable {C U T KK V NM A C0 TR0 B0 : Nat → Int32} {N S tr tb n M q : Nat} {φ K τ : Nat → Nat} {μ ν : Mu}
/-- class and reference between unifications -/
def unC (U T NM A : Nat → Int32) (N S : Nat) (φ K τ : Nat → Nat) (C0 TR0 B0 : Nat → Int32) (tr tb : Nat) (C KK V : Nat → Int32) (n M : Nat) (μ ν : Mu) : Prop :=
  cellsR C U T KK V NM A N S φ K τ ∧ μ 41 = C ∧ μ 40 1 = nI N ∧ okM KK V NM A ν ∧ ν 75 = T ∧ trA C N φ K C0 TR0 B0 tr tb n μ ν ∧ tr + n + frc C K N ≤ 240 ∧ tb + n + frc C K N ≤ 2600 ∧ mkB M ν
theorem unB_C (h : unB U T NM A N S φ K τ C0 TR0 B0 tr tb C KK V n M q μ ν) : unC U T NM A N S φ K τ C0 TR0 B0 tr tb C KK V n M μ ν := by
  obtain ⟨h1, h2, h3, h4, h5, h6, h7, h8, h9, h10⟩ := h
  exact ⟨h1, h2, h3, h4, h5, h6, h7, h8, h9⟩
theorem un_l {M0 : Nat} (hM0 : M0 < 2 ^ 28) (d : Nat) : ∀ (f1 f2 l q n M : Nat) (C KK V : Nat → Int32) (μ ν : Mu), l + d = 300 → d < f1 → d + 1 < f2 → unB U T NM A N S φ K τ C0 TR0 B0 tr tb C KK V n M q μ ν → ν 70 49 = 0 → ν 70 35 = nI l → q ≤ 1 + 2 * l → M ≤ M0 + l →
    ∃ r μ' ν' C' KK' V' n' M', f_UN_unify_21 f1 (nI l) μ = some (nI r, μ') ∧ f_MO_unify_28 f2 ν = some ν' ∧ ν' 70 49 = nI r ∧ (r = 0 ∨ r = 1 ∨ r = 3) ∧ M' ≤ M0 + 300 ∧ unC U T NM A N S φ K τ C0 TR0 B0 tr tb C' KK' V' n' M' μ' ν' := by
  have stop : ∀ (f : Nat) (ν : Mu), ν 70 49 ≠ 0 → f_MO_unify_28 (f + 1) ν = some ν := by
    intro f ν h
    unfold f_MO_unify_28
    by_cases e : ν 70 30 ≤ 0
    · rw [if_pos e]
    · rw [if_neg e, if_pos h]
  induction d with
  | zero =>
    intro f1 f2 l q n M C KK V μ ν hl h1 h2 hU h49 h35 hq hM
    have hp := hU.2.2.2.2.2.2.2.2.2
    cases f1 with
    | zero => omega
    | succ f1 =>
    cases f2 with
    | zero => omega
    | succ f2 =>
    cases f2 with
    | zero => omega
    | succ f2 =>
    by_cases e : q = 0
    · subst e
      refine ⟨0, μ, ν, C, KK, V, n, M, ?_, ?_, h49, Or.inl rfl, by omega, unB_C hU⟩
      · unfold f_UN_unify_21
        rw [if_pos (show 300 ≤ nI l from nI_le (a := 300) (by omega) (by omega)), hp.1, if_neg (not_not_intro (show nI 0 = 0 from rfl))]
        rfl
      · unfold f_MO_unify_28
        rw [hp.2.1, if_pos (by decide)]
    · refine ⟨3, μ, sI (sI (sI ν 70 30 (ν 70 30 - 2)) 70 35 (ν 70 35 + 1)) 70 49 3, C, KK, V, n, M, ?_, ?_, rfl, Or.inr (Or.inr rfl), by omega, ?_⟩
      · unfold f_UN_unify_21
        rw [if_pos (show 300 ≤ nI l from nI_le (a := 300) (by omega) (by omega)), hp.1, if_pos (nI_ne0 (by omega) (by omega))]
        rfl
      · rw [f_MO_unify_28]
        rw [if_neg (by rw [hp.2.1]; exact nI_nle (by omega) (by omega)), if_neg (not_not_intro h49), if_neg (by rw [h35, nI_1]; exact nI_ge (b := l + 1) (a := 300) (by omega) (by omega))]
        exact stop f2 _ (by rw [sI_at]; decide)
      · have hc := unB_C hU
        exact hc
  | succ d ih =>
    intro f1 f2 l q n M C KK V μ ν hl h1 h2 hU h49 h35 hq hM
    have hp := hU.2.2.2.2.2.2.2.2.2
    cases f1 with
    | zero => omega
    | succ f1 =>
    cases f2 with
    | zero => omega
    | succ f2 =>
    by_cases e : q = 0
    · subst e
      refine ⟨0, μ, ν, C, KK, V, n, M, ?_, ?_, h49, Or.inl rfl, by omega, unB_C hU⟩
      · unfold f_UN_unify_21
        rw [if_neg (show ¬ 300 ≤ nI l from nI_ge (b := 300) (by omega) (by omega)), hp.1, if_pos (by decide), if_neg (not_not_intro (show nI 0 = 0 from rfl))]
        rfl
      · unfold f_MO_unify_28
        rw [hp.2.1, if_pos (by decide)]
    · have hU0 := hU
      obtain ⟨hR, g2, g3, g4, g5, g6, g7, g8, g9, p1, p2, p3⟩ := hU
      obtain ⟨x1, x2⟩ := p3 (q - 1) (by omega)
      obtain ⟨t1, k1, v1, m1, m2, m3, m4⟩ := mean_s hR x1
      obtain ⟨t2, k2, v2, n1, n2, n3, n4⟩ := mean_s hR x2
      -- the state in which the pair is looked at
      have hU1 : unB U T NM A N S φ K τ C0 TR0 B0 tr tb C KK V n M (q - 1) (sI μ 49 4 (nI (q - 1))) (sI (sI (sI (sI (sI (sI ν 70 30 (nI (2 * (q - 1)))) 70 35 (nI (l + 1))) 70 40 k1) 70 41 v1) 70 40 k2) 70 41 v2) :=
        ⟨hR, g2, g3, g4, g5, g6, g7, g8, g9, rfl, rfl, fun x hx => p3 x (by omega)⟩
      obtain ⟨r, μ', ν', C', KK', V', n', M', q', u1, u2, u3, u4, u5, u6⟩ := look_s hU1 (by omega) (by omega) m1 n1 m2 n2
      have hcl : f_UN_unify_21 (f1 + 1) (nI l) μ = (if ¬ r = 0 then f_UN_unify_21 f1 (nI (l + 1)) μ' else some (1, μ')) := by
        rw [f_UN_unify_21]
        rw [if_neg (show ¬ 300 ≤ nI l from nI_ge (b := 300) (by omega) (by omega)), p1, if_neg (nI_nle (by omega) (by omega)), nI_m1 (by omega), rd_n (by omega) (by decide), b1_s, m3 (sI μ 49 4 (nI (q - 1))) g2, b1_s, rd_n (by omega) (by decide), b1_s, n3 (sI μ 49 4 (nI (q - 1))) g2, b1_s, u1, b2_s, nI_1]
      have hmo : f_MO_unify_28 (f2 + 1) ν = f_MO_unify_28 f2 ν' := by
        rw [f_MO_unify_28]
        have e2 : nI (2 * q) - 2 = nI (2 * (q - 1)) := by
          have := pk_sub (a := 2 * q) (b := 2) (by omega)
          rw [show 2 * q - 2 = 2 * (q - 1) by omega] at this
          exact this
        rw [p2, if_neg (nI_nle (by omega) (by omega)), if_neg (not_not_intro h49), h35, nI_1, if_pos (show nI (l + 1) ≤ 300 from nI_le (b := 300) (by omega) (by omega)), e2, nI_1, rd_n (by omega) (by decide), b1_s, rd_n (by omega) (by decide), b1_s]
        rw [m4 (sI (sI ν 70 30 (nI (2 * (q - 1)))) 70 35 (nI (l + 1))) g4, b1_s]
        rw [show sI (sI (sI (sI ν 70 30 (nI (2 * (q - 1)))) 70 35 (nI (l + 1))) 70 40 k1) 70 41 v1 70 30 = nI (2 * (q - 1)) from rfl, show sI (sI (sI (sI ν 70 30 (nI (2 * (q - 1)))) 70 35 (nI (l + 1))) 70 40 k1) 70 41 v1 88 = ν 88 from rfl, show sI (sI (sI (sI ν 70 30 (nI (2 * (q - 1)))) 70 35 (nI (l + 1))) 70 40 k1) 70 41 v1 89 = ν 89 from rfl, rd_n (by omega) (by decide), b1_s, rd_n (by omega) (by decide), b1_s]
        rw [n4 (sI (sI (sI (sI ν 70 30 (nI (2 * (q - 1)))) 70 35 (nI (l + 1))) 70 40 k1) 70 41 v1) g4, b1_s]
        rw [show sI (sI (sI (sI (sI (sI ν 70 30 (nI (2 * (q - 1)))) 70 35 (nI (l + 1))) 70 40 k1) 70 41 v1) 70 40 k2) 70 41 v2 70 40 = k2 from rfl, show sI (sI (sI (sI (sI (sI ν 70 30 (nI (2 * (q - 1)))) 70 35 (nI (l + 1))) 70 40 k1) 70 41 v1) 70 40 k2) 70 41 v2 70 41 = v2 from rfl, show sI (sI (sI (sI ν 70 30 (nI (2 * (q - 1)))) 70 35 (nI (l + 1))) 70 40 k1) 70 41 v1 70 40 = k1 from rfl, show sI (sI (sI (sI ν 70 30 (nI (2 * (q - 1)))) 70 35 (nI (l + 1))) 70 40 k1) 70 41 v1 70 41 = v1 from rfl, u2, b1_s]
      rcases u3 with ⟨w1, w2⟩ | ⟨w1, w2⟩
      · subst w1
        cases f2 with
        | zero => omega
        | succ f2 =>
        refine ⟨1, μ', ν', C', KK', V', n', M', ?_, ?_, w2, Or.inr (Or.inl rfl), by omega, unB_C u6⟩
        · rw [hcl, if_neg (not_not_intro rfl)]; rfl
        · rw [hmo]; exact stop f2 _ (by rw [w2]; decide)
      · subst w1
        have h35' : ν' 70 35 = nI (l + 1) := by
          rw [fr_MO_meet u2 (by unfold W_MO_meet; omega)]
          rfl
        obtain ⟨r2, μ2, ν2, C2, KK2, V2, n2', M2, z1, z2, z3, z4, z5, z6⟩ := ih f1 f2 (l + 1) q' n' M' C' KK' V' μ' ν' (by omega) (by omega) (by omega) u6 (by rw [w2]; exact h49) h35' (by omega) (by omega)
        refine ⟨r2, μ2, ν2, C2, KK2, V2, n2', M2, ?_, ?_, z3, z4, z5, z6⟩
        · rw [hcl, if_pos (by decide)]; exact z1
        · rw [hmo]; exact z2
/-- unify: the same outcome, 0 well, 1 failed, 3 beyond the limit; the same bindings -/
theorem un_s (hM : M < 2 ^ 28) (h : unC U T NM A N S φ K τ C0 TR0 B0 tr tb C KK V n M μ ν) {t1 k1 v1 t2 k2 v2 : Int32} (h1 : tmR N φ K t1 k1 v1) (h2 : tmR N φ K t2 k2 v2) :
    ∃ r μ' ν' C' KK' V' n' M', f_UN_unify t1 t2 μ = some (nI r, μ') ∧ f_MO_unify k1 v1 k2 v2 ν = some ν' ∧ ν' 70 49 = nI r ∧ (r = 0 ∨ r = 1 ∨ r = 3) ∧ M' ≤ M + 300 ∧ unC U T NM A N S φ K τ C0 TR0 B0 tr tb C' KK' V' n' M' μ' ν' := by
  obtain ⟨hR, g2, g3, g4, g5, g6, g7, g8, g9⟩ := h
  obtain ⟨ν1, u1, u2, u3, u4, u5⟩ := push_s (ν := sI (sI (sI ν 70 49 0) 70 35 0) 70 30 0) (p := 0) (k := k2) (v := v2) rfl (by omega)
  obtain ⟨ν2, w1, w2, w3, w4, w5⟩ := push_s (ν := ν1) (p := 1) (k := k1) (v := v1) u2 (by omega)
  have hfr : ∀ k, k ≠ 70 → k ≠ 88 → k ≠ 89 → ν2 k = ν k := by
    intro k q1 q2 q3
    rw [w5.1 k q1 q2 q3, u5.1 k q1 q2 q3, sI_nk q1, sI_nk q1, sI_nk q1]
  have hf7 : ∀ j, j ≠ 30 → ν2 70 j = sI (sI (sI ν 70 49 0) 70 35 0) 70 30 0 70 j := by
    intro j q1
    rw [w5.2.1 j q1, u5.2.1 j q1]
  have hU : unB U T NM A N S φ K τ C0 TR0 B0 tr tb C KK V n M 1 (sI (sI (sI μ 50 0 t1) 51 0 t2) 49 4 1) ν2 := by
    refine ⟨hR, g2, g3, pfr_ok w5 (pfr_ok u5 g4), by rw [hfr 75 (by decide) (by decide) (by decide)]; exact g5, trA_c g6 rfl rfl (by rw [hf7 23 (by decide)]; rfl) (hfr 86 (by decide) (by decide) (by decide)), g7, g8, ?_, rfl, w2, fun x hx => ?_⟩
    · unfold mkB
      rw [hfr 90 (by decide) (by decide) (by decide), hf7 34 (by decide)]
      exact g9
    · have e : x = 0 := by omega
      subst e
      rw [show 2 * 0 + 1 = 1 from rfl, show 2 * 0 = 0 from rfl, w3, w4, (w5.2.2 0 (by omega)).1, (w5.2.2 0 (by omega)).2, u3, u4]
      exact ⟨h1, h2⟩
  obtain ⟨r, μ', ν', C', KK', V', n', M', z1, z2, z3, z4, z5, z6⟩ := un_l hM 300 fu fu 0 1 n M C KK V _ ν2 (by omega) (by unfold fu; omega) (by unfold fu; omega) hU (by rw [hf7 49 (by decide)]; rfl) (by rw [hf7 35 (by decide)]; rfl) (by omega) (by omega)
  refine ⟨r, μ', ν', C', KK', V', n', M', ?_, ?_, z3, z4, z5, z6⟩
  · unfold f_UN_unify
    rw [show (0 : Int32) = nI 0 from rfl, wr_n (by omega) (by decide), b1_s, wr_n (by omega) (by decide), b1_s]
    exact z1
  · unfold f_MO_unify
    rw [u1, b1_s, w1, b1_s, z2, b1_s]
end UNC
