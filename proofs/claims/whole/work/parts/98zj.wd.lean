/-! words and word -/
section WDA
variable {C U T KK V NM A : Nat → Int32} {N S : Nat} {φ K τ : Nat → Nat}
theorem fa_l (hR : cellsR C U T KK V NM A N S φ K τ) {has : Nat → Bool} {nq : Nat} {Q : Nat → Int32} {k1 : Int32} (hnq : nq = cnt has 8) (hN : nq ≤ N) (hK : ∀ i, i < nq → K i = 1) (hQ : ∀ v, v < 8 → (has v = true → Q v = nI (φ (cnt has v))) ∧ (has v = false → Q v = -1)) (d : Nat) :
    ∀ (f1 f2 v ln fc : Nat) (μ ν : Mu), v + d = 8 → d < f1 → d < f2 → fc ≤ ln → ln ≤ 90 → ν 70 26 = 1 → ν 87 = Q → anR C KK V NM A N φ K ln fc 0 (sI μ 66 6 0) (sI ν 70 30 0) →
    ∃ ln' fc' μ' ν', f_AN_write_12 (nI nq) f1 (nI (cnt has v)) μ = some μ' ∧ f_MO_findAnswer_39 k1 f2 (nI v) ν = some ν' ∧ ln' ≤ 90 ∧ fc' ≤ ln' ∧ anR C KK V NM A N φ K ln' fc' 0 (sI μ' 66 6 0) (sI ν' 70 30 0) := by
  have hN0 := hR.1
  induction d with
  | zero =>
    intro f1 f2 v ln fc μ ν h1 h2 h3 h4 h5 h6 h7 hA
    obtain ⟨f1, rfl⟩ : ∃ f0, f1 = f0 + 1 := ⟨f1 - 1, by omega⟩
    obtain ⟨f2, rfl⟩ : ∃ f0, f2 = f0 + 1 := ⟨f2 - 1, by omega⟩
    have ev : v = 8 := by omega
    subst ev
    refine ⟨ln, fc, μ, ν, ?_, ?_, h5, h4, hA⟩
    · rw [f_AN_write_12, ← hnq, if_pos (nI_le (Nat.le_refl _) (by omega))]
    · rw [f_MO_findAnswer_39, if_pos (show (8 : Int32) ≤ nI 8 by decide)]
  | succ d ih =>
    intro f1 f2 v ln fc μ ν h1 h2 h3 h4 h5 h6 h7 hA
    obtain ⟨f2, rfl⟩ : ∃ f0, f2 = f0 + 1 := ⟨f2 - 1, by omega⟩
    obtain ⟨q1, q2⟩ := hQ v (by omega)
    cases hv : has v with
    | false =>
      have e1 : cnt has (v + 1) = cnt has v := by rw [cnt_s, hv]; rfl
      obtain ⟨ln', fc', μ', ν', u1, u2, u3, u4, u5⟩ := ih f1 f2 (v + 1) ln fc μ (sI ν 70 30 0) (by omega) (by omega) (by omega) h4 h5 h6 h7 hA
      refine ⟨ln', fc', μ', ν', by rw [← e1]; exact u1, ?_, u3, u4, u5⟩
      rw [f_MO_findAnswer_39, if_neg (show ¬ 8 ≤ nI v from nI_ge (b := 8) (by omega) (by decide)), h6, if_neg (by decide), h7, rd_n (by omega) (by decide), b1_s, q2 hv, if_pos (by decide), b1_s, nI_1]
      exact u2
    | true =>
      obtain ⟨f1, rfl⟩ : ∃ f0, f1 = f0 + 1 := ⟨f1 - 1, by omega⟩
      have e1 : cnt has (v + 1) = cnt has v + 1 := by rw [cnt_s, hv]; rfl
      have hy : cnt has v < nq := by rw [hnq]; exact cnt_lt (by omega) hv
      generalize hyy : cnt has v = y at *
      have hφ := (hR.2.2.1 y (by omega)).1
      obtain ⟨ν1, p1, p2, p3, p4, p5⟩ := push_s (ν := sI ν 70 30 0) (p := 0) (k := 0) (v := nI (φ y)) rfl (by omega)
      obtain ⟨⟨a1, a1m⟩, ⟨a2, a2m⟩, ⟨a3, a3m⟩, a4, a5, ⟨a6, a6m⟩, a7⟩ := id hA
      have hB : anR C KK V NM A N φ K ln fc 1 (sI (sI μ 69 0 (wd y 0)) 66 6 1) ν1 := by
        refine ⟨⟨a1, pfr_ok p5 a1m⟩, ⟨a2, ?_⟩, ⟨a3, ?_⟩, fun x hx => ?_, ?_, ⟨rfl, p2⟩, fun x hx => ?_⟩
        · rw [p5.2.1 38 (by decide)]; exact a2m
        · rw [p5.2.1 34 (by decide)]; exact a3m
        · rw [p5.1 92 (by decide) (by decide) (by decide)]; exact a4 x hx
        · rw [p5.1 90 (by decide) (by decide) (by decide)]; exact a5
        · have ex : x = 0 := by omega
          subst ex
          rw [p3, p4]
          exact Or.inl ⟨y, by omega, hK y hy, rfl, rfl, rfl⟩
      obtain ⟨ln1, fc1, w1, μ1, ν2, u1, u2, u3, u4, u5⟩ := an_l hR (90 - ln) fu fu ln fc 1 _ _ (by omega) (by unfold fu; omega) (by unfold fu; omega) h4 (by omega) hB
      have hs : f_MO_sayTerm ν1 = some ν2 := by
        unfold f_MO_sayTerm
        rw [u2, b1_s]
      have k26 : ν2 70 26 = 1 := by
        rw [fr_MO_sayTerm hs (by unfold W_MO_sayTerm; omega), p5.2.1 26 (by decide)]; exact h6
      have k87 : ν2 87 = Q := by
        funext j
        rw [fr_MO_sayTerm hs (by unfold W_MO_sayTerm; omega), p5.1 87 (by decide) (by decide) (by decide)]
        rw [← h7]; rfl
      have hC : anR C KK V NM A N φ K ln1 fc1 0 (sI μ1 66 6 0) (sI ν2 70 30 0) := by
        obtain ⟨⟨a1, a1m⟩, ⟨a2, a2m⟩, ⟨a3, a3m⟩, a4, a5, ⟨a6, a6m⟩, a7⟩ := u5
        exact ⟨⟨a1, a1m⟩, ⟨a2, a2m⟩, ⟨a3, a3m⟩, a4, a5, ⟨rfl, rfl⟩, fun x hx => by omega⟩
      obtain ⟨ln', fc', μ', ν', x1, x2, x3, x4, x5⟩ := ih f1 f2 (v + 1) ln1 fc1 μ1 ν2 (by omega) (by omega) (by omega) u4 u3 k26 k87 hC
      refine ⟨ln', fc', μ', ν', ?_, ?_, x3, x4, x5⟩
      · rw [f_AN_write_12, if_neg (nI_ge hy (by omega)), wd_shl (by omega)]
        unfold f_AN_writeTerm
        rw [show wr μ 69 181 0 (wd y 0) = some (sI μ 69 0 (wd y 0)) from wr_n (i := 0) (by omega) (by decide), b1_s, u1, b1_s, b1_s, nI_1, ← e1]
        exact x1
      · rw [f_MO_findAnswer_39, if_neg (show ¬ 8 ≤ nI v from nI_ge (b := 8) (by omega) (by decide)), h6, if_neg (by decide), h7, rd_n (by omega) (by decide), b1_s, q1 hv, if_neg (nI_pos (by omega)), b1_s, p1, b1_s, hs, b1_s, b1_s, nI_1]
        exact x2
theorem z12_l {k1 : Int32} : ∀ (d f y : Nat) (ν : Mu), y + d = 240 → d < f → ∃ ν', f_MO_findAnswer_12 k1 f (nI y) ν = some ν' ∧ (∀ k, k ≠ 90 → ν' k = ν k) ∧ (∀ c, c < y → ν' 90 c = ν 90 c) ∧ ∀ c, y ≤ c → c < 240 → ν' 90 c = 0 := by
  intro d
  induction d with
  | zero =>
    intro f y ν h1 h2
    obtain ⟨f, rfl⟩ : ∃ f0, f = f0 + 1 := ⟨f - 1, by omega⟩
    have ey : y = 240 := by omega
    subst ey
    exact ⟨ν, by rw [f_MO_findAnswer_12, if_pos (show (240 : Int32) ≤ nI 240 by decide)], fun _ _ => rfl, fun _ _ => rfl, fun c a b => by omega⟩
  | succ d ih =>
    intro f y ν h1 h2
    obtain ⟨f, rfl⟩ : ∃ f0, f = f0 + 1 := ⟨f - 1, by omega⟩
    obtain ⟨ν', u1, u2, u3, u4⟩ := ih f (y + 1) (sI ν 90 y 0) (by omega) (by omega)
    refine ⟨ν', ?_, fun k hk => by rw [u2 k hk, sI_nk hk], fun c hc => by rw [u3 c (by omega), sI_nj (by omega)], fun c a b => ?_⟩
    · rw [f_MO_findAnswer_12, if_neg (show ¬ 240 ≤ nI y from nI_ge (b := 240) (by omega) (by decide)), wr_n (by omega) (by decide), b1_s, nI_1]
      exact u1
    · by_cases e : c = y
      · subst e; rw [u3 c (by omega), sI_at]
      · exact u4 c (by omega) b
theorem z89_e {k1 : Int32} : ∀ (f : Nat) (y : Int32) (ν : Mu), f_MO_findAnswer_89 k1 f y ν = f_MO_findAnswer_12 k1 f y ν := by
  intro f
  induction f with
  | zero => intro y ν; rfl
  | succ f ih =>
    intro y ν
    rw [f_MO_findAnswer_89, f_MO_findAnswer_12]
    by_cases e : 240 ≤ y
    · rw [if_pos e, if_pos e]
    · rw [if_neg e, if_neg e]
      cases wr ν 90 240 y 0 with
      | none => rfl
      | some ν2 => rw [b1_s, b1_s]; exact ih _ _
theorem fa_s {g cap R t z : Nat} {μ ν : Mu} (hg : gOK g) (hb : baR R t μ ν) (hs : stR g cap R t z μ ν) :
    ∃ ln μ' ν', f_SE_answerLength μ = some (nI ln, μ') ∧ f_MO_findAnswer ν = some ν' ∧ ln ≤ 90 ∧ ν' 70 38 = nI ln ∧ (∀ x, x < ln → μ' 67 x = ν' 92 x) ∧ ν' 70 0 = ν 70 0 ∧ (baR R t μ' ν' ∧ stR g cap R t z μ' ν') ∧ (baR R t μ ν' ∧ stR g cap R t z μ ν') := by
  have hR16 := hb.2.1.1
  obtain ⟨ν5, e1, e2, e3, e4⟩ := z12_l (k1 := ν 70 34) 240 fu 0 (sI ν 70 38 0) (by omega) (by unfold fu; omega)
  -- the loop over the question's variables
  obtain ⟨ln, μ', ν6, u1, u2, u3, u4, u5⟩ : ∃ ln μ' ν6, f_SE_answerLength μ = some (nI ln, μ') ∧ f_MO_findAnswer_39 (ν 70 34) fu 0 (sI ν5 70 34 1) = some ν6 ∧ ln ≤ 90 ∧ ν6 70 38 = nI ln ∧ ∀ x, x < ln → μ' 67 x = ν6 92 x := by
    have hno : ¬ μ 37 11 = 2 → ν 70 26 = 0 → ∃ ln μ' ν6, f_SE_answerLength μ = some (nI ln, μ') ∧ f_MO_findAnswer_39 (ν 70 34) fu 0 (sI ν5 70 34 1) = some ν6 ∧ ln ≤ 90 ∧ ν6 70 38 = nI ln ∧ ∀ x, x < ln → μ' 67 x = ν6 92 x := by
      intro q1 q2
      refine ⟨0, μ, sI ν5 70 34 1, ?_, ?_, by omega, ?_, fun x hx => by omega⟩
      · unfold f_SE_answerLength
        rw [if_pos q1]; rfl
      · rw [show fu = 99999 + 1 from rfl, f_MO_findAnswer_39, if_neg (by decide), if_pos]
        show ν5 70 26 = 0
        rw [e2 70 (by decide)]; exact q2
      · show ν5 70 38 = _
        rw [e2 70 (by decide)]; rfl
    rcases hs with ⟨s1, s2, -⟩ | ⟨s1, s2, s3, -⟩ | ⟨s1, s2, s3, s4, s5⟩
    · exact hno (by rw [s1]; decide) s2.2.1
    · exact hno (by rw [s1]; decide) s3
    · obtain ⟨has, N, S, c, tr, tb, nq, GT, P, M, φ, K, τ, cm, tm, gm, cs, ct, ⟨hR, hp, hn, htrl, hseg, hdn, hmrk, hrows, hchg, hcur, hque, hseen, hpot, hbnd, hmk, hlow⟩, b1', b2', b3, b4, b5⟩ := s4
      obtain ⟨w1, w2, w3, w4, w5⟩ := hque
      have hA : anR (μ 41) (ν 76) (ν 77) (ν 78) (ν 79) N φ K 0 0 0 (sI (sI (sI μ 66 2 0) 66 4 0) 66 6 0) (sI (sI ν5 70 34 1) 70 30 0) := by
        refine ⟨⟨rfl, ?_⟩, ⟨rfl, ?_⟩, ⟨rfl, rfl⟩, fun x hx => by omega, fun i hi hK => Or.inl ⟨?_, fun x hx => by omega⟩, ⟨rfl, rfl⟩, fun x hx => by omega⟩
        · show ν5 76 = ν 76 ∧ ν5 77 = ν 77 ∧ ν5 78 = ν 78 ∧ ν5 79 = ν 79
          rw [e2 76 (by decide), e2 77 (by decide), e2 78 (by decide), e2 79 (by decide)]; exact ⟨rfl, rfl, rfl, rfl⟩
        · show ν5 70 38 = _
          rw [e2 70 (by decide)]; rfl
        · show ν5 90 (φ i) = 0
          exact e4 _ (by omega) (hR.2.2.1 i hi).1
      obtain ⟨ln', fc', μ', ν', x1, x2, x3, x4, x5⟩ := fa_l hR (k1 := ν 70 34) (Q := ν 87) w1 w2 w3 w5 8 fu fu 0 0 0 (sI (sI μ 66 2 0) 66 4 0) (sI ν5 70 34 1) (by omega) (by unfold fu; omega) (by unfold fu; omega) (by omega) (by omega) (by show ν5 70 26 = 1; rw [e2 70 (by decide)]; exact s3) (by show ν5 87 = _; rw [e2 87 (by decide)]; rfl) hA
      have x1' : f_AN_write_12 (nI nq) fu 0 (sI (sI μ 66 2 0) 66 4 0) = some μ' := x1
      refine ⟨ln', μ', ν', ?_, x2, x3, x5.2.1.2, x5.2.2.2.1⟩
      unfold f_SE_answerLength f_AN_write
      rw [if_neg (not_not_intro s1), w4, x1', b1_s, b2_s, show μ' 66 2 = nI ln' from x5.2.1.1]
  obtain ⟨ν7, v1, v2, v3, v4⟩ := z12_l (k1 := ν 70 34) 240 fu 0 ν6 (by omega) (by unfold fu; omega)
  have hfa : f_MO_findAnswer ν = some (sI ν7 70 34 (ν 70 34)) := by
    unfold f_MO_findAnswer
    rw [show f_MO_findAnswer_12 (ν 70 34) fu 0 (sI ν 70 38 0) = some ν5 from e1, b1_s, u2, b1_s, z89_e, show f_MO_findAnswer_12 (ν 70 34) fu 0 ν6 = some ν7 from v1, b1_s]
  have hmk : ∀ M, mkB M ν → mkB M (sI ν7 70 34 (ν 70 34)) := fun M h => ⟨h.1, fun c hc => ⟨0, by omega, v4 c (by omega) hc⟩⟩
  have fν : ∀ k j, ¬ (k = 70 ∧ j = 30) → ¬ (k = 70 ∧ j = 34) → ¬ (k = 70 ∧ j = 38) → ¬ (k = 70 ∧ j = 40) → ¬ (k = 70 ∧ j = 41) → k ≠ 88 → k ≠ 89 → k ≠ 90 → k ≠ 92 → (sI ν7 70 34 (ν 70 34)) k j = ν k j := fun k j a b c d e f g h i => fr_MO_findAnswer hfa ⟨a, b, c, d, e, f, g, h, i⟩
  have fμ : ∀ k, k < 66 ∨ 69 < k → μ' k = μ k := fun k hk => funext fun j => fr_SE_answerLength u1 (by unfold W_SE_answerLength; omega)
  have hνk : ∀ k, k ≠ 70 → k ≠ 88 → k ≠ 89 → k ≠ 90 → k ≠ 92 → (sI ν7 70 34 (ν 70 34)) k = ν k := fun k a b c d e => funext fun j => fν k j (by omega) (by omega) (by omega) (by omega) (by omega) b c d e
  have hν7 : ∀ j, j ≠ 30 → j ≠ 34 → j ≠ 38 → j ≠ 40 → j ≠ 41 → (sI ν7 70 34 (ν 70 34)) 70 j = ν 70 j := fun j a b c d e => fν 70 j (by omega) (by omega) (by omega) (by omega) (by omega) (by decide) (by decide) (by decide) (by decide)
  generalize hνe : sI ν7 70 34 (ν 70 34) = νe at *
  have hB : ∀ μx : Mu, (∀ k, k < 66 ∨ 69 < k → μx k = μ k) → baR R t μx νe ∧ stR g cap R t z μx νe := by
    intro μx hx
    refine ⟨baR_c hb (fun k hk => hx k (by omega)) (by rw [hx 37 (by omega)]) (by rw [hx 64 (by omega)]) (hνk 71 (by decide) (by decide) (by decide) (by decide) (by decide)) (hνk 72 (by decide) (by decide) (by decide) (by decide) (by decide)) (hνk 73 (by decide) (by decide) (by decide) (by decide) (by decide)) (fun j hj => hν7 j (by omega) (by omega) (by omega) (by omega) (by omega)), ?_⟩
    exact stR_d hs hR16 (fun k hk => hx k (by unfold gOK at hg; omega)) (by rw [hx 40 (by omega)]) (by rw [hx 40 (by omega)]) (by rw [hx 58 (by omega)]) (by rw [hx 37 (by omega)]) (by rw [hx 37 (by omega)]) (by rw [hx 37 (by omega)]) (fun k a b => hνk k (by omega) (by omega) (by omega) (by omega) (by omega)) (fun j hj => hν7 j (by omega) (by omega) (by omega) (by omega) (by omega)) hmk
  refine ⟨ln, μ', νe, u1, hfa, u3, ?_, fun x hx => ?_, hν7 0 (by decide) (by decide) (by decide) (by decide) (by decide), hB μ' fμ, hB μ (fun _ _ => rfl)⟩
  · rw [← hνe]
    show ν7 70 38 = _
    rw [v2 70 (by decide)]; exact u4
  · rw [← hνe]
    show _ = ν7 92 x
    rw [v2 92 (by decide)]; exact u5 x hx
theorem c_words {z n g cap : Nat} {acc : Nat × Nat} {μ ν : Mu} (h : glR z n acc g cap μ ν) :
    ∃ r μ' ν', f_GE_words μ = some (r, μ') ∧ f_MO_words ν = some (r, ν') ∧ ∃ R t, baR R t μ' ν' ∧ stR g cap R t z μ' ν' := by
  obtain ⟨ha, R, t, hb, hs⟩ := h
  obtain ⟨ln, μ', ν', u1, u2, u3, u4, u5, u6, u7, u8⟩ := fa_s (ν := sI ν 70 0 0) ha.1 (baR_0 hb) (stR_0 hs)
  refine ⟨nI ln, μ', ν', ?_, ?_, R, t, u7⟩
  · unfold f_GE_words
    rw [u1, b2_s]
  · unfold f_MO_words
    rw [u2, b1_s, u4]
theorem c_word {z n g cap : Nat} {acc : Nat × Nat} {μ ν : Mu} (h : glR z n acc g cap μ ν) (x : Int32) :
    ∃ (cd : Nat) (r : Int32) (μ' : Mu) (b : Int32) (ν' : Mu), f_GE_word x μ = some (cd, r, μ') ∧ f_MO_word x ν = some (b, ν') ∧ ((cd = 0 ∧ ν' 70 0 = 0 ∧ r = b) ∨ (cd = 5 ∧ ν' 70 0 = 1)) ∧ ∃ R t, baR R t μ' ν' ∧ stR g cap R t z μ' ν' := by
  obtain ⟨ha, R, t, hb, hs⟩ := h
  obtain ⟨ln, μ', ν', u1, u2, u3, u4, u5, u6, u7, u8⟩ := fa_s ha.1 hb hs
  by_cases e : x < 0
  · refine ⟨5, 0, μ, 0, sI ν' 70 0 1, ?_, ?_, Or.inr ⟨rfl, rfl⟩, R, t, baR_0 u8.1, stR_0 u8.2⟩
    · unfold f_GE_word
      rw [if_pos e]
    · unfold f_MO_word
      rw [u2, b1_s, if_pos e, b1_s, if_pos (by decide)]
  · obtain ⟨j, j1, j2⟩ := nI_of e
    subst j2
    by_cases e2 : j < ln
    · refine ⟨0, μ' 67 j, μ', μ' 67 j, sI ν' 70 0 0, ?_, ?_, Or.inl ⟨rfl, rfl, rfl⟩, R, t, baR_0 u7.1, stR_0 u7.2⟩
      · unfold f_GE_word
        rw [if_neg e, u1, b2_s, if_pos (nI_lt e2 (by omega))]
        unfold f_SE_answerWord f_AN_at
        rw [rd_n (by omega) (by decide), b1_s, b1_s, b1_s]
      · unfold f_MO_word
        rw [u2, b1_s, if_neg e, u4, if_pos (nI_lt e2 (by omega)), b1_s, if_neg (by decide), rd_n (by omega) (by decide), b1_s, u5 j e2]
    · refine ⟨5, 0, μ', 0, sI ν' 70 0 1, ?_, ?_, Or.inr ⟨rfl, rfl⟩, R, t, baR_0 u7.1, stR_0 u7.2⟩
      · unfold f_GE_word
        rw [if_neg e, u1, b2_s, if_neg (nI_nlt (by omega) (by omega))]
      · unfold f_MO_word
        rw [u2, b1_s, if_neg e, u4, if_neg (nI_nlt (by omega) (by omega)), b1_s, if_pos (by decide)]
end WDA
