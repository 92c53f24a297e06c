/-! rule -/
section RLA
/-- the reference's rule row is written -/
theorem rl_l {R L : Nat} {W : Nat → Int32} {k1 : Int32} (hR : R < 16) (hL : L ≤ 30) : ∀ (d f y : Nat) (ν : Mu), y + d = L → d < f → ν 70 1 = nI L → ν 70 3 = nI R → (∀ j, j < L → ν 71 j = W j) → (∀ j, j < y → ν 72 (30 * R + j) = W j) →
    ∃ ν', f_MO_rule_101 k1 f (nI y) ν = some ν' ∧ (∀ j, j < L → ν' 72 (30 * R + j) = W j) ∧ (∀ k, k ≠ 72 → ν' k = ν k) ∧ ∀ i, i < 30 * R → ν' 72 i = ν 72 i := by
  intro d
  induction d with
  | zero =>
    intro f y ν h1 h2 h3 h4 h5 h6
    obtain ⟨f, rfl⟩ : ∃ f0, f = f0 + 1 := ⟨f - 1, by omega⟩
    refine ⟨ν, ?_, fun j hj => h6 j (by omega), fun _ _ => rfl, fun _ _ => rfl⟩
    rw [f_MO_rule_101, h3, if_pos (nI_le (by omega) (by omega))]
  | succ d ih =>
    intro f y ν h1 h2 h3 h4 h5 h6
    obtain ⟨f, rfl⟩ : ∃ f0, f = f0 + 1 := ⟨f - 1, by omega⟩
    obtain ⟨ν', u1, u2, u3, u4⟩ := ih f (y + 1) (sI ν 72 (30 * R + y) (W y)) (by omega) (by omega) h3 h4 h5 (fun j hj => by
      by_cases e : j = y
      · subst e; exact sI_at
      · rw [sI_nj (by omega)]; exact h6 j (by omega))
    refine ⟨ν', ?_, u2, fun k hk => by rw [u3 k hk, sI_nk hk], fun i hi => by rw [u4 i hi, sI_nj (by omega)]⟩
    have e30 : (30 : Int32) * nI R = nI (30 * R) := pk_mul 30 R
    rw [f_MO_rule_101, h3, if_neg (nI_ge (by omega) (by omega)), rd_n (by omega) (by decide), b1_s, h4, e30, nI_add, wr_n (by omega) (by decide), b1_s, nI_1, h5 y (by omega)]
    exact u1
theorem c_rule {z n g cap : Nat} {acc : Nat × Nat} {μ ν : Mu} (h : glR z n acc g cap μ ν) :
    ∃ (cd : Nat) (r : Int32) (μ' : Mu) (b : Int32) (ν' : Mu), f_GE_rule μ = some (cd, r, μ') ∧ f_MO_rule ν = some (b, ν') ∧ ((cd = 0 ∧ ν' 70 0 = 0 ∧ r = b) ∨ (cd = 2 ∧ ν' 70 0 = 1) ∨ (cd = 1 ∧ ν' 70 0 = 2)) ∧ ∃ R t, baR R t μ' ν' ∧ stR g cap R t z μ' ν' := by
  obtain ⟨ha, R, t, hb, hs⟩ := h
  obtain ⟨⟨tn, t1, t2, t3, t4⟩, ⟨r1, r2, r3, r4⟩, ht3, ht1, ht2, hco⟩ := id hb
  have hno : (∃ v, (if 16 ≤ μ 3 1 then some ((2 : Nat), (0 : Int32), μ) else if μ 37 11 = 0 then v else some (2, 0, μ)) = some (2, 0, μ) ∧ f_GE_rule μ = (if 16 ≤ μ 3 1 then some ((2 : Nat), (0 : Int32), μ) else if μ 37 11 = 0 then v else some (2, 0, μ))) → (if (ν 70 3) = 16 then some ((1 : Int32)) else (if (ν 70 25) = 0 then some ((0 : Int32)) else some ((1 : Int32)))) = some 1 → ∃ (cd : Nat) (r : Int32) (μ' : Mu) (b : Int32) (ν' : Mu), f_GE_rule μ = some (cd, r, μ') ∧ f_MO_rule ν = some (b, ν') ∧ ((cd = 0 ∧ ν' 70 0 = 0 ∧ r = b) ∨ (cd = 2 ∧ ν' 70 0 = 1) ∨ (cd = 1 ∧ ν' 70 0 = 2)) ∧ ∃ R t, baR R t μ' ν' ∧ stR g cap R t z μ' ν' := by
    rintro ⟨v, q1, q2⟩ q3
    refine ⟨2, 0, μ, 0, sI ν 70 0 1, q2.trans q1, ?_, Or.inr (Or.inl ⟨rfl, rfl⟩), R, t, hb, stR_0 hs⟩
    unfold f_MO_rule
    rw [q3, b1_s, if_neg (by decide)]
  by_cases e16 : R = 16
  · subst e16
    refine hno ⟨_, ?_, rfl⟩ ?_
    · rw [r2, if_pos (by decide)]
    · rw [r3, if_pos (by decide)]
  have hge : ¬ 16 ≤ μ 3 1 := by rw [r2]; exact nI_ge (b := 16) (by omega) (by decide)
  have hne : ¬ ν 70 3 = 16 := by
    rw [r3]
    intro q
    exact e16 ((nI_eq (b := 16) (by omega) (by decide)).mp q)
  by_cases e0 : μ 37 11 = 0
  rotate_left
  · have e25 : ¬ ν 70 25 = 0 := by
      rcases hs with ⟨s1, -⟩ | ⟨-, s2, -⟩ | ⟨-, s2, -⟩
      · exact absurd s1 e0
      · rw [s2]; decide
      · rw [s2]; decide
    refine hno ⟨_, ?_, rfl⟩ ?_
    · rw [if_neg hge, if_neg e0]
    · rw [if_neg hne, if_neg e25]
  obtain ⟨s1, ⟨s2, s3, s4, s5, s6⟩, s7, M, s8, s9⟩ : (μ 37 11 = 0 ∧ ovR ν ∧ (∀ p, p < cap → μ (g + 3) p = 0) ∧ ∃ M, mkB M ν ∧ M ≤ 302 * (300 - t) + z ∧ 0 ≤ μ 58 5) := by
    rcases hs with s | ⟨s1, -⟩ | ⟨s1, -⟩
    · exact s
    · rw [s1] at e0; exact absurd e0 (by decide)
    · rw [s1] at e0; exact absurd e0 (by decide)
  -- what is typed
  have hW : ∀ j, j < tn → wOK (μ 2 j) := fun j hj => (t4 j hj).2
  have h71 : ∀ j, j < tn → ν 71 j = μ 2 j := fun j hj => (t4 j hj).1.symm
  have hqc : f_GE_isQuestion (nI tn) (sI μ 1 1 0) = some (bI (decide (0 < tn) && qsc (fun j => kd (μ 2 j)) tn 0 0)) := q_c t1 (fun j hj => rfl)
  have hqm : f_MO_areGoals 0 (sI ν 70 0 0) = some (bI (qsc (fun j => kd (μ 2 j)) tn 0 0)) := q_m t1 t3 (fun j hj => by rw [sI_nk (by decide), h71 j hj])
  have hg := ha.1
  have hng : g + 3 ≠ 1 ∧ g + 3 ≠ 3 ∧ (∀ r, r < 16 → g + 3 ≠ 5 + 2 * r ∧ g + 3 ≠ 6 + 2 * r) := by
    unfold gOK at hg
    exact ⟨by omega, by omega, fun r hr => ⟨by omega, by omega⟩⟩
  have hcla : f_GE_rule μ = (b1 (f_GE_isRule (nI tn) (sI μ 1 1 0)) fun v8 => if ¬ v8 = 0 then (b1 (f_RB_add (nI tn) (sI μ 1 1 0)) fun μ11 => some ((0 : Nat), (μ11 3 1), μ11)) else some ((1 : Nat), (0 : Int32), (sI μ 1 1 0))) := by
    unfold f_GE_rule f_GE_takeTyped
    rw [if_neg hge, if_pos e0, b2_s, t2]
  have hmod : f_MO_rule ν = (b1 (if (nI tn) ≤ 0 then some ((0 : Int32)) else (b1 (rd (ν 71) 30 0) fun v11 => if (v11 &&& 7) = 6 then some ((0 : Int32)) else (b1 (rd (ν 71) 30 0) fun v14 => if 24 ≤ (v14 >>> ((3 : Int32) &&& 31)) then some ((0 : Int32)) else (b1 (f_MO_areGoals 0 (sI ν 70 0 0)) fun v18 => if v18 = 0 then some ((0 : Int32)) else some ((1 : Int32)))))) fun v7 =>
      b1 (if v7 = 0 then some ((2 : Int32)) else some ((0 : Int32))) fun v20 =>
      b1 (if v7 = 0 then some ((sI (sI ν 70 0 0) 70 0 v20)) else (b1 (f_MO_rule_101 v7 fu 0 (sI (sI ν 70 0 0) 70 0 v20)) fun μ34 => b1 (wr μ34 73 16 (μ34 70 3) (μ34 70 1)) fun μ38 => some ((sI μ38 70 3 ((μ38 70 3) + 1))))) fun μ24 => if v7 = 0 then some (0, (sI μ24 70 1 0)) else some ((μ24 70 3), (sI μ24 70 1 0))) := by
    unfold f_MO_rule
    rw [if_neg hne, if_pos s2, b1_s, if_pos rfl, t3]
  have hbad : f_GE_isRule (nI tn) (sI μ 1 1 0) = some 0 → (if (nI tn) ≤ 0 then some ((0 : Int32)) else (b1 (rd (ν 71) 30 0) fun v11 => if (v11 &&& 7) = 6 then some ((0 : Int32)) else (b1 (rd (ν 71) 30 0) fun v14 => if 24 ≤ (v14 >>> ((3 : Int32) &&& 31)) then some ((0 : Int32)) else (b1 (f_MO_areGoals 0 (sI ν 70 0 0)) fun v18 => if v18 = 0 then some ((0 : Int32)) else some ((1 : Int32)))))) = some 0 → ∃ (cd : Nat) (r : Int32) (μ' : Mu) (b : Int32) (ν' : Mu), f_GE_rule μ = some (cd, r, μ') ∧ f_MO_rule ν = some (b, ν') ∧ ((cd = 0 ∧ ν' 70 0 = 0 ∧ r = b) ∨ (cd = 2 ∧ ν' 70 0 = 1) ∨ (cd = 1 ∧ ν' 70 0 = 2)) ∧ ∃ R t, baR R t μ' ν' ∧ stR g cap R t z μ' ν' := by
    intro q1 q2
    refine ⟨1, 0, sI μ 1 1 0, 0, sI (sI (sI ν 70 0 0) 70 0 2) 70 1 0, ?_, ?_, Or.inr (Or.inr ⟨rfl, rfl⟩), R, t, ⟨⟨0, by omega, rfl, rfl, fun j hj => by omega⟩, ⟨r1, r2, r3, fun r hr => ?_⟩, ht3, ht1, ht2, hco⟩, Or.inl ⟨e0, ⟨s2, s3, s4, s5, s6⟩, fun p hp => ?_, M, s8, s9⟩⟩
    · rw [hcla, q1, b1_s, if_neg (by decide)]
    · rw [hmod, q2, b1_s, if_pos rfl, b1_s, if_pos rfl, b1_s, if_pos rfl]
    · have := r4 r hr
      unfold ruR at this ⊢
      rw [sI_nk (by omega), sI_nk (by omega)]
      exact this
    · rw [sI_nk hng.1]; exact s7 p hp
  by_cases e1 : tn = 0
  · subst e1
    refine hbad ?_ ?_
    · unfold f_GE_isRule
      rw [hqc, b1_s, if_pos (by rfl)]
    · rw [if_pos (by decide)]
  have hr0 : rd (μ 2) 30 0 = some (μ 2 0) := rd_x (i := 0) rfl (by decide) (by decide)
  have hr1 : rd (ν 71) 30 0 = some (μ 2 0) := by rw [← h71 0 (by omega)]; exact rd_x (i := 0) rfl (by decide) (by decide)
  have hr0' : rd ((sI μ 1 1 0) 2) 30 0 = some (μ 2 0) := hr0
  by_cases e2 : qsc (fun j => kd (μ 2 j)) tn 0 0 = true
  rotate_left
  · have e2' : qsc (fun j => kd (μ 2 j)) tn 0 0 = false := by
      cases hq : qsc (fun j => kd (μ 2 j)) tn 0 0 with
      | true => exact absurd hq e2
      | false => rfl
    rw [e2', Bool.and_false] at hqc
    rw [e2'] at hqm
    refine hbad ?_ ?_
    · unfold f_GE_isRule
      rw [hqc, b1_s, if_pos (by rfl)]
    · rw [if_neg (nI_nle (by omega) (by omega)), hr1, b1_s, b1_s, hqm, b1_s, if_pos (show bI false = 0 from rfl)]
      by_cases c1 : μ 2 0 &&& 7 = 6
      · rw [if_pos c1]
      · rw [if_neg c1]
        by_cases c2 : 24 ≤ (μ 2 0 >>> ((3 : Int32) &&& 31))
        · rw [if_pos c2]
        · rw [if_neg c2]
  rw [e2, decide_eq_true (show 0 < tn by omega)] at hqc
  rw [e2] at hqm
  have hisr : f_GE_isRule (nI tn) (sI μ 1 1 0) = (if (μ 2 0 &&& 7) = 6 then some (0) else if 24 ≤ (μ 2 0 >>> ((3 : Int32) &&& 31)) then some (0) else some (1)) := by
    unfold f_GE_isRule
    rw [hqc, b1_s, if_neg (by decide), hr0', b1_s, b1_s]
  by_cases c1 : μ 2 0 &&& 7 = 6
  · refine hbad ?_ ?_
    · rw [hisr, if_pos c1]
    · rw [if_neg (nI_nle (by omega) (by omega)), hr1, b1_s, if_pos c1]
  by_cases c2 : 24 ≤ (μ 2 0 >>> ((3 : Int32) &&& 31))
  · refine hbad ?_ ?_
    · rw [hisr, if_neg c1, if_pos c2]
    · rw [if_neg (nI_nle (by omega) (by omega)), hr1, b1_s, if_neg c1, b1_s, if_pos c2]
  -- a rule
  have hq : clPb (5 + 2 * R) = true := by
    have : ∀ r, r < 16 → clPb (5 + 2 * r) = true := by decide
    exact this R (by omega)
  obtain ⟨μ1, m, u1, u2, u3, u4, u5, u6, u7⟩ := rd_s (q := 5 + 2 * R) (L := tn) (W := μ 2) (μ := sI μ 1 1 0) hq (by omega) (by omega) t1 hW (fun j hj => rfl)
  have hfr : ∀ k j, k ≠ 5 + 2 * R → k ≠ 6 + 2 * R → μ1 k j = (sI μ 1 1 0) k j := fun k j a b => fr_CL_read u1 (by unfold W_CL_read; omega)
  obtain ⟨ν1, w1, w2, w3, w4⟩ := rl_l (R := R) (L := tn) (W := μ 2) (k1 := 1) (by omega) t1 tn fu 0 (sI (sI ν 70 0 0) 70 0 0) (by omega) (by unfold fu; omega) t3 r3 h71 (fun j hj => by omega)
  have h31 : μ1 3 1 = nI R := by rw [hfr 3 1 (by omega) (by omega)]; exact r2
  have n31 : ν1 70 3 = nI R := by rw [w3 70 (by decide)]; exact r3
  have n11 : ν1 70 1 = nI tn := by rw [w3 70 (by decide)]; exact t3
  refine ⟨0, nI (R + 1), sI μ1 3 1 (nI (R + 1)), nI (R + 1), sI (sI (sI ν1 73 R (nI tn)) 70 3 (nI (R + 1))) 70 1 0, ?_, ?_, Or.inl ⟨rfl, ?_, rfl⟩, R + 1, t, ⟨⟨0, by omega, ?_, rfl, fun j hj => by omega⟩, ⟨by omega, rfl, rfl, fun r hr => ?_⟩, ht3, ?_, ?_, ?_⟩, Or.inl ⟨?_, ⟨?_, ?_, ?_, ?_, fun x hx => ?_⟩, fun p hp => ?_, M, ?_, s9.1, ?_⟩⟩
  · have hcl : clA (μ 3 1) = some (5 + 2 * R) := by
      rw [r2]
      unfold clA
      rw [nI_clamp (by omega), if_neg]
      rintro (q | q)
      · exact nI_pos (by omega) q
      · omega
    rw [hcla, hisr, if_neg c1, if_neg c2, b1_s, if_pos (by decide)]
    unfold f_RB_add
    rw [show (sI μ 1 1 0) 3 1 = μ 3 1 from rfl, hcl, b1_s, u1, b1_s, b1_s, h31, nI_1]
    rfl
  · rw [hmod, if_neg (nI_nle (by omega) (by omega)), hr1, b1_s, if_neg c1, b1_s, if_neg c2, hqm, b1_s, if_neg (by decide), b1_s, if_neg (by decide), b1_s, if_neg (by decide), show f_MO_rule_101 1 fu 0 (sI (sI ν 70 0 0) 70 0 0) = some ν1 from w1, b1_s, n31, n11, wr_n (by omega) (by decide), b1_s, b1_s, if_neg (by decide)]
    show some ((ν1 70 3 + 1), sI (sI (sI ν1 73 R (nI tn)) 70 3 (ν1 70 3 + 1)) 70 1 0) = _
    rw [n31, nI_1]
  · show ν1 70 0 = 0
    rw [w3 70 (by decide)]; rfl
  · show μ1 1 1 = _
    rw [hfr 1 1 (by omega) (by omega)]; rfl
  · by_cases er : r = R
    · subst er
      refine ⟨tn, μ 2, m, by omega, t1, hW, e2, fun q => c1 ?_, ?_, u2, u3, ?_, ?_, ?_, fun j hj => ?_, ?_, fun j hj => ?_⟩
      · rw [kd_e, q]; rfl
      · exact Int32.not_le.mp c2
      · rw [sI_nk (by omega)]; exact u4
      · rw [sI_nk (by omega)]; exact u5
      · rw [sI_nk (by omega)]; exact u6
      · rw [sI_nk (by omega)]
        have := u7 j hj
        rw [show 5 + 2 * r + 1 = 6 + 2 * r by omega] at this
        exact this
      · rw [sI_nk (by decide), sI_nk (by decide), sI_at]
      · rw [sI_nk (by decide), sI_nk (by decide), sI_nk (by decide)]
        exact w2 j hj
    · obtain ⟨L, W, m', p1, p2, p3, p4, p5, p6, p7, p8, p9, p10, p11, p12, p13, p14⟩ := r4 r (by omega)
      refine ⟨L, W, m', p1, p2, p3, p4, p5, p6, p7, p8, ?_, ?_, ?_, fun j hj => ?_, ?_, fun j hj => ?_⟩
      · rw [sI_nk (by omega), hfr _ _ (by omega) (by omega), sI_nk (by omega)]; exact p9
      · rw [sI_nk (by omega), hfr _ _ (by omega) (by omega), sI_nk (by omega)]; exact p10
      · rw [sI_nk (by omega), hfr _ _ (by omega) (by omega), sI_nk (by omega)]; exact p11
      · rw [sI_nk (by omega), hfr _ _ (by omega) (by omega), sI_nk (by omega)]; exact p12 j hj
      · rw [sI_nk (by decide), sI_nk (by decide), sI_nj (by omega), w3 73 (by decide)]; exact p13
      · rw [sI_nk (by decide), sI_nk (by decide), sI_nk (by decide), w4 _ (by omega)]; exact p14 j hj
  · show μ1 37 12 = _
    rw [hfr 37 12 (by omega) (by omega)]; exact ht1
  · show ν1 70 27 = _
    rw [w3 70 (by decide)]; exact ht2
  · show μ1 64 5 = ν1 70 28
    rw [w3 70 (by decide), hfr 64 5 (by omega) (by omega)]; exact hco
  · show μ1 37 11 = _
    rw [hfr 37 11 (by omega) (by omega)]; exact e0
  · show ν1 70 25 = _
    rw [w3 70 (by decide)]; exact s2
  · show ν1 70 26 = _
    rw [w3 70 (by decide)]; exact s3
  · show ν1 70 18 = _
    rw [w3 70 (by decide)]; exact s4
  · show ν1 70 16 = _
    rw [w3 70 (by decide)]; exact s5
  · show ν1 74 x = _
    rw [w3 74 (by decide)]; exact s6 x hx
  · have := hng.2.2 R (by omega)
    rw [sI_nk hng.2.1, hfr _ _ this.1 this.2, sI_nk hng.1]; exact s7 p hp
  · show ν1 70 34 = _ ∧ ∀ c, c < 240 → ∃ n, n ≤ M ∧ ν1 90 c = nI n
    rw [w3 70 (by decide), w3 90 (by decide)]; exact s8
  · show 0 ≤ μ1 58 5
    rw [hfr 58 5 (by omega) (by omega)]; exact s9.2
end RLA
