/-! rules; a new choice; a copy within a search -/
section RUA
variable {g cap R : Nat} {has : Nat → Bool} {N S c tr tb nq GT P M : Nat} {φ K τ cm tm gm cs ct : Nat → Nat} {μ ν : Mu}
/-- rule r of both -/
def ruR (r : Nat) (μ ν : Mu) : Prop :=
  ∃ (L : Nat) (W : Nat → Int32) (m : Nat), 0 < L ∧ L ≤ 30 ∧ (∀ j, j < L → wOK (W j)) ∧ qsc (fun j => kd (W j)) L 0 0 = true ∧ kd (W 0) ≠ 6 ∧ W 0 >>> ((3 : Int32) &&& 31) < 24 ∧ m < 256 ∧ (∀ v, v < 8 → Nat.testBit m v = hasB W v L) ∧ μ (5 + 2 * r) 1 = nI L ∧ μ (5 + 2 * r) 2 = nI m ∧ μ (5 + 2 * r) 3 = nI (cnt (fun v => hasB W v L) 8 + sca (fun j => kd (W j)) L 0) ∧ (∀ j, j < L → μ (6 + 2 * r) j = W j) ∧ ν 73 r = nI L ∧ ∀ j, j < L → ν 72 (30 * r + j) = W j
def rulR (R : Nat) (μ ν : Mu) : Prop := R ≤ 16 ∧ μ 3 1 = nI R ∧ ν 70 3 = nI R ∧ ∀ r, r < R → ruR r μ ν
theorem rulR_c {μ' ν' : Mu} (h : rulR R μ ν) (hμ : ∀ k, k < 37 → μ' k = μ k) (h72 : ν' 72 = ν 72) (h73 : ν' 73 = ν 73) (h3 : ν' 70 3 = ν 70 3) : rulR R μ' ν' := by
  obtain ⟨a1, a2, a3, a4⟩ := h
  refine ⟨a1, by rw [hμ 3 (by decide)]; exact a2, h3.trans a3, fun r hr => ?_⟩
  unfold ruR
  rw [hμ (5 + 2 * r) (by omega), hμ (6 + 2 * r) (by omega), h72, h73]
  exact a4 r hr
theorem clA_n {r : Nat} (h : r < 16) : clA (nI r) = some (5 + 2 * r) := by
  unfold clA
  rw [if_neg (nI_in h (by decide)), nI_clamp (by omega)]
theorem sca_le {f : Nat → Nat} (r : Nat) : ∀ i, sca f r i ≤ 4 * r := by
  induction r with
  | zero => intro i; exact Nat.le_refl _
  | succ r ih =>
    intro i
    have h1 := ih (i + 1)
    have h2 : ca (f i) ≤ 4 := by unfold ca; have := arK_le (f i); split <;> omega
    show ca (f i) + sca f r (i + 1) ≤ 4 * (r + 1)
    omega
/-- a rule as a clause to copy -/
theorem ru_cl {r : Nat} (hr : r < 16) (h : ruR r μ ν) : ∃ L W, clR (5 + 2 * r) 72 480 (30 * r) L W (fun v => hasB W v L) μ ν ∧ kd (W 0) ≠ 6 ∧ μ (5 + 2 * r) 3 = nI (cnt (fun v => hasB W v L) 8 + sca (fun j => kd (W j)) L 0) ∧ ν 73 r = nI L ∧ f_MO_needs 72 480 (nI (30 * r)) (nI L) ν = some (nI (cnt (fun v => hasB W v L) 8 + sca (fun j => kd (W j)) L 0)) := by
  obtain ⟨L, W, m, h1, h2, h3, h4, h5, h5', h6, h7, h8, h9, h10, h11, h12, h13⟩ := h
  refine ⟨L, W, ⟨⟨?_, by omega⟩, ⟨Or.inr rfl, rfl, by omega, by decide⟩, ⟨h1, h2⟩, h3, h4, fun j v hj hv q => hasB_t.mpr ⟨j, hj, q⟩, h8, fun j hj => by rw [show 5 + 2 * r + 1 = 6 + 2 * r by omega]; exact h11 j hj, h13, fun v hv => ?_, fun v hv ν1 hν1 => hv_s rfl h2 (by omega) (by decide) hv (fun j hj => by rw [hν1]; exact h13 j hj)⟩, h5, h10, h12, nd_s rfl h2 (by omega) (by decide) h13⟩
  · have : ∀ r, r < 16 → clPb (5 + 2 * r) = true := by decide
    exact this r hr
  · rw [h9, mk_bit m h6 v hv, h7 v hv]
/-- the first rule for a name: the same -/
theorem ff_s (h : rulR R μ ν) (w : Int32) (d : Nat) : ∀ (f1 f2 i : Nat), i + d = R → d < f1 → d < f2 → (f_RB_firstFor_2 w f1 (nI i) μ = some (-1) ∧ f_MO_ruleFor_2 w f2 (nI i) ν = some (-1)) ∨ ∃ r, r < R ∧ i ≤ r ∧ μ (6 + 2 * r) 0 = w ∧ f_RB_firstFor_2 w f1 (nI i) μ = some (nI r) ∧ f_MO_ruleFor_2 w f2 (nI i) ν = some (nI r) := by
  obtain ⟨a1, a2, a3, a4⟩ := h
  induction d with
  | zero =>
    intro f1 f2 i h1 h2 h3
    cases f1 with
    | zero => omega
    | succ f1 =>
    cases f2 with
    | zero => omega
    | succ f2 =>
    refine Or.inl ⟨?_, ?_⟩
    · unfold f_RB_firstFor_2
      rw [a2, if_pos (nI_le (by omega) (by omega))]
    · unfold f_MO_ruleFor_2
      rw [a3, if_pos (nI_le (by omega) (by omega))]
  | succ d ih =>
    intro f1 f2 i h1 h2 h3
    cases f1 with
    | zero => omega
    | succ f1 =>
    cases f2 with
    | zero => omega
    | succ f2 =>
    obtain ⟨L, W, m, b1, b2, b3, b4, b5, b5', b6, b7, b8, b9, b10, b11, b12, b13⟩ := a4 i (by omega)
    have hc : f_RB_firstFor_2 w (f1 + 1) (nI i) μ = if ¬ W 0 = w then f_RB_firstFor_2 w f1 (nI (i + 1)) μ else some (nI i) := by
      rw [f_RB_firstFor_2]
      rw [a2, if_neg (nI_ge (by omega) (by omega)), clA_n (by omega), b1_s, show (0 : Int32) = nI 0 from rfl, rd_n (by decide) (by decide), b1_s, show 5 + 2 * i + 1 = 6 + 2 * i by omega, b11 0 b1, nI_1]
    have hm : f_MO_ruleFor_2 w (f2 + 1) (nI i) ν = if ¬ W 0 = w then f_MO_ruleFor_2 w f2 (nI (i + 1)) ν else some (nI i) := by
      rw [f_MO_ruleFor_2]
      have e30 : (30 : Int32) * nI i = nI (30 * i) := pk_mul 30 i
      rw [a3, if_neg (nI_ge (by omega) (by omega)), e30, rd_n (by omega) (by decide), b1_s, show ν 72 (30 * i) = W 0 from b13 0 b1, nI_1]
    rw [hc, hm]
    by_cases e : W 0 = w
    · exact Or.inr ⟨i, by omega, Nat.le_refl _, by rw [b11 0 b1]; exact e, by rw [if_neg (not_not_intro e)], by rw [if_neg (not_not_intro e)]⟩
    · rw [if_pos e, if_pos e]
      rcases ih f1 f2 (i + 1) (by omega) (by omega) (by omega) with q | ⟨r, q1, q2, q3, q4, q5⟩
      · exact Or.inl q
      · exact Or.inr ⟨r, q1, by omega, q3, q4, q5⟩
theorem ff_f (h : rulR R μ ν) (w : Int32) {i : Nat} (hi : i ≤ R) : (f_RB_firstFor w (nI i) μ = some (-1) ∧ f_MO_ruleFor w (nI i) ν = some (-1)) ∨ ∃ r, r < R ∧ i ≤ r ∧ μ (6 + 2 * r) 0 = w ∧ f_RB_firstFor w (nI i) μ = some (nI r) ∧ f_MO_ruleFor w (nI i) ν = some (nI r) := by
  have h16 := h.1
  exact ff_s h w (R - i) fu fu i (by omega) (by unfold fu; omega) (by unfold fu; omega)
/-- a new choice -/
theorem make_R (h : actR g cap R has N S c tr tb nq GT P M φ K τ cm tm gm cs ct μ ν) (hg : gOK g) (hR16 : R ≤ 16) (hGT : GT ≤ 8900) (hcap : cap ≤ 17800) (hc : c < 300) {pp gg n r : Nat} (hch : chR N φ K (μ g) (μ (g + 1)) (μ (g + 2)) (ν 80) (ν 81) (n + 1) (nI pp) (nI gg)) (hpp : pp < GT ∧ pp < cap) (hgg : gg < GT) (hr : r < R) (hnm : nmR (μ 41) (μ g pp) (μ (6 + 2 * r) 0)) :
    ∃ (μ' : Mu) (gm' : Nat), f_CH_make (nI pp) (nI r) μ = some μ' ∧ actR g cap R has N S (c + 1) tr tb nq GT P M φ K τ (upn cm c N) (upn tm c tr) (upn gm c gm') (upn cs c S) (upn ct c tb) μ' (sI (sI (sI (sI (sI ν 82 c (nI gg)) 83 c (nI r)) 84 c (nI S)) 85 c (nI tb)) 70 18 (nI (c + 1))) ∧ (∀ k, k ≠ 58 → k ≠ 59 → k ≠ 60 → k ≠ 61 → k ≠ 62 → k ≠ 63 → μ' k = μ k) := by
  have h0 := h
  obtain ⟨hR, ⟨p1, p2, p3⟩, ⟨n1, n2, n3, n4⟩, htrl, hseg, hdn, hmrk, hrows, hchg, hcur, hque, hseen, hpot, hbnd, hmk, hlow⟩ := h
  have hN := hR.1
  have hkp : f_CH_goalsKept μ = some (nI (if c = 0 then 0 else gm (c - 1))) := by
    unfold f_CH_goalsKept
    by_cases e : c = 0
    · rw [p3, e, if_neg (not_not_intro (show nI 0 = 0 from rfl)), if_pos rfl]; rfl
    · rw [p3, if_pos (nI_ne0 (by omega) (by omega)), nI_m1 (by omega), rd_n (by omega) (by decide), b1_s, (hrows (c - 1) (by omega)).2.2.1, if_neg e]
  have hkc : (if c = 0 then 0 else gm (c - 1)) ≤ cap ∧ (if c = 0 then 0 else gm (c - 1)) ≤ GT := by
    by_cases e : c = 0
    · rw [if_pos e]; omega
    · rw [if_neg e]; exact ⟨(hchg (c - 1) (by omega)).2.1, (hchg (c - 1) (by omega)).1⟩
  have hjk : ∀ j, j < c → gm j ≤ (if c = 0 then 0 else gm (c - 1)) := by
    intro j hj
    rw [if_neg (by omega)]
    by_cases e : j = c - 1
    · rw [e]; exact Nat.le_refl _
    · exact (hmrk.2 j (c - 1) (by omega) (by omega)).2.2.2
  generalize hkk : (if c = 0 then 0 else gm (c - 1)) = kk at hkp hkc hjk
  have hjm : jmax (nI kk) (nI pp + 1) = nI (max kk (pp + 1)) := by
    rw [nI_1]
    unfold jmax
    by_cases e : kk < pp + 1
    · rw [if_pos (nI_lt e (by omega))]; congr 1; omega
    · rw [if_neg (nI_nlt (by omega) (by omega))]; congr 1; omega
  have hgo : g ≠ 58 ∧ g ≠ 59 ∧ g ≠ 60 ∧ g ≠ 61 ∧ g ≠ 62 ∧ g ≠ 63 ∧ g + 1 ≠ 58 ∧ g + 1 ≠ 59 ∧ g + 1 ≠ 60 ∧ g + 1 ≠ 61 ∧ g + 1 ≠ 62 ∧ g + 1 ≠ 63 ∧ g + 2 ≠ 58 ∧ g + 2 ≠ 59 ∧ g + 2 ≠ 60 ∧ g + 2 ≠ 61 ∧ g + 2 ≠ 62 ∧ g + 2 ≠ 63 ∧ g + 3 ≠ 58 ∧ g + 3 ≠ 59 ∧ g + 3 ≠ 60 ∧ g + 3 ≠ 61 ∧ g + 3 ≠ 62 ∧ g + 3 ≠ 63 := by unfold gOK at hg; omega
  generalize hμ1 : sI (sI (sI (sI (sI (sI μ 59 c (nI pp)) 60 c (nI r)) 61 c (nI N)) 62 c (nI tr)) 63 c (nI (max kk (pp + 1)))) 58 5 (nI (c + 1)) = μ1
  have m0 : ∀ k, k ≠ 58 → k ≠ 59 → k ≠ 60 → k ≠ 61 → k ≠ 62 → k ≠ 63 → μ1 k = μ k := by
    intro k a1 a2 a3 a4 a5 a6
    rw [← hμ1, sI_nk a1, sI_nk a6, sI_nk a5, sI_nk a4, sI_nk a3, sI_nk a2]
  have m59 : μ1 59 = upd (μ 59) c (nI pp) := by rw [← hμ1]; show sI μ 59 c (nI pp) 59 = _; exact sI_r
  have m60 : μ1 60 = upd (μ 60) c (nI r) := by rw [← hμ1]; show sI (sI μ 59 c (nI pp)) 60 c (nI r) 60 = _; exact sI_r
  have m61 : μ1 61 = upd (μ 61) c (nI N) := by rw [← hμ1]; show sI (sI (sI μ 59 c (nI pp)) 60 c (nI r)) 61 c (nI N) 61 = _; exact sI_r
  have m62 : μ1 62 = upd (μ 62) c (nI tr) := by rw [← hμ1]; show sI (sI (sI (sI μ 59 c (nI pp)) 60 c (nI r)) 61 c (nI N)) 62 c (nI tr) 62 = _; exact sI_r
  have m63 : μ1 63 = upd (μ 63) c (nI (max kk (pp + 1))) := by rw [← hμ1]; show sI (sI (sI (sI (sI μ 59 c (nI pp)) 60 c (nI r)) 61 c (nI N)) 62 c (nI tr)) 63 c (nI (max kk (pp + 1))) 63 = _; exact sI_r
  generalize hν1 : sI (sI (sI (sI (sI ν 82 c (nI gg)) 83 c (nI r)) 84 c (nI S)) 85 c (nI tb)) 70 18 (nI (c + 1)) = ν1
  have v0 : ∀ k, k ≠ 70 → k ≠ 82 → k ≠ 83 → k ≠ 84 → k ≠ 85 → ν1 k = ν k := by
    intro k a1 a2 a3 a4 a5
    rw [← hν1, sI_nk a1, sI_nk a5, sI_nk a4, sI_nk a3, sI_nk a2]
  have v7 : ∀ j, j ≠ 18 → ν1 70 j = ν 70 j := by
    intro j hj
    rw [← hν1, sI_nj hj]; rfl
  have v82 : ν1 82 = upd (ν 82) c (nI gg) := by rw [← hν1]; show sI ν 82 c (nI gg) 82 = _; exact sI_r
  have v83 : ν1 83 = upd (ν 83) c (nI r) := by rw [← hν1]; show sI (sI ν 82 c (nI gg)) 83 c (nI r) 83 = _; exact sI_r
  have v84 : ν1 84 = upd (ν 84) c (nI S) := by rw [← hν1]; show sI (sI (sI ν 82 c (nI gg)) 83 c (nI r)) 84 c (nI S) 84 = _; exact sI_r
  have v85 : ν1 85 = upd (ν 85) c (nI tb) := by rw [← hν1]; show sI (sI (sI (sI ν 82 c (nI gg)) 83 c (nI r)) 84 c (nI S)) 85 c (nI tb) 85 = _; exact sI_r
  have w : ∀ k, k ≠ 58 → k ≠ 59 → k ≠ 60 → k ≠ 61 → k ≠ 62 → k ≠ 63 → μ1 k = μ k := m0
  have e41 := m0 41 (by decide) (by decide) (by decide) (by decide) (by decide) (by decide)
  have e42 := m0 42 (by decide) (by decide) (by decide) (by decide) (by decide) (by decide)
  have e40 := m0 40 (by decide) (by decide) (by decide) (by decide) (by decide) (by decide)
  have e37 := m0 37 (by decide) (by decide) (by decide) (by decide) (by decide) (by decide)
  have eg := m0 g (by omega) (by omega) (by omega) (by omega) (by omega) (by omega)
  have eg1 := m0 (g + 1) (by omega) (by omega) (by omega) (by omega) (by omega) (by omega)
  have eg2 := m0 (g + 2) (by omega) (by omega) (by omega) (by omega) (by omega) (by omega)
  have eg3 := m0 (g + 3) (by omega) (by omega) (by omega) (by omega) (by omega) (by omega)
  refine ⟨μ1, max kk (pp + 1), ?_, ⟨?_, ⟨by rw [e40]; exact p1, by rw [e40]; exact p2, by rw [← hμ1]; rfl⟩, ⟨by rw [v7 12 (by decide)]; exact n1, by rw [v7 23 (by decide)]; exact n2, by rw [← hν1]; rfl, by rw [v7 13 (by decide)]; exact n4⟩, by rw [e41, e42]; exact htrl, ?_, ?_, ⟨fun j hj => ?_, fun j k a1 a2 => ?_⟩, fun j hj => ?_, fun j hj => ?_, ?_, ?_, fun p hp => by rw [eg3]; exact hseen p hp, by rw [e41]; exact hpot, by rw [v0 86 (by decide) (by decide) (by decide) (by decide) (by decide)]; exact hbnd, by unfold mkB; rw [v0 90 (by decide) (by decide) (by decide) (by decide) (by decide), v7 34 (by decide)]; exact hmk, fun j hj x hx => ?_⟩, m0⟩
  · unfold f_CH_make
    rw [hkp, b1_s, p3, wr_n (by omega) (by decide), b1_s, show sI μ 59 c (nI pp) 58 5 = nI c from p3, wr_n (by omega) (by decide), b1_s]
    rw [show sI (sI μ 59 c (nI pp)) 60 c (nI r) 58 5 = nI c from p3, show sI (sI μ 59 c (nI pp)) 60 c (nI r) 40 1 = nI N from p1, wr_n (by omega) (by decide), b1_s]
    rw [show sI (sI (sI μ 59 c (nI pp)) 60 c (nI r)) 61 c (nI N) 58 5 = nI c from p3, show sI (sI (sI μ 59 c (nI pp)) 60 c (nI r)) 61 c (nI N) 40 3 = nI tr from p2, wr_n (by omega) (by decide), b1_s]
    rw [show sI (sI (sI (sI μ 59 c (nI pp)) 60 c (nI r)) 61 c (nI N)) 62 c (nI tr) 58 5 = nI c from p3, hjm, wr_n (by omega) (by decide), b1_s]
    rw [show sI (sI (sI (sI (sI μ 59 c (nI pp)) 60 c (nI r)) 61 c (nI N)) 62 c (nI tr)) 63 c (nI (max kk (pp + 1))) 58 5 = nI c from p3, nI_1, hμ1]
  · rw [e41, v0 74 (by decide) (by decide) (by decide) (by decide) (by decide), v0 75 (by decide) (by decide) (by decide) (by decide) (by decide), v0 76 (by decide) (by decide) (by decide) (by decide) (by decide), v0 77 (by decide) (by decide) (by decide) (by decide) (by decide), v0 78 (by decide) (by decide) (by decide) (by decide) (by decide), v0 79 (by decide) (by decide) (by decide) (by decide) (by decide)]; exact hR
  · rw [e42, v0 86 (by decide) (by decide) (by decide) (by decide) (by decide)]
    intro j hj i hi
    by_cases e : j = c
    · subst e
      rw [upn_a, upn_a]
      unfold segE
      rw [if_neg (by omega), if_neg (by omega)]
      exact ⟨fun ⟨x, q1, q2, _⟩ => by omega, fun ⟨x, q1, q2, _⟩ => by omega⟩
    · rw [upn_n e] at hi
      rw [upn_n e, upn_n e]
      have := hseg j (by omega) i hi
      unfold segE at this ⊢
      by_cases e2 : j + 1 < c
      · rw [if_pos e2, if_pos e2] at this
        rw [if_pos (by omega), if_pos (by omega), upn_n (by omega), upn_n (by omega)]
        exact this
      · rw [if_neg e2, if_neg e2] at this
        have ej : j + 1 = c := by omega
        rw [if_pos (by omega), if_pos (by omega), ej, upn_a, upn_a]
        exact this
  · rw [e41, e42]
    intro j hj i hi hK a1 y a2 a3
    by_cases e : j = c
    · subst e; rw [upn_a]; exact a2
    · rw [upn_n e] at hi a1 ⊢
      exact hdn j (by omega) i hi hK a1 y a2 a3
  · by_cases e : j = c
    · subst e
      rw [upn_a, upn_a, upn_a, upn_a]
      exact ⟨Nat.le_refl _, Nat.le_refl _, fun i hi => ⟨fun _ => (hR.2.2.1 i hi).2.2.2, fun _ => hi⟩, Nat.le_refl _, Nat.le_refl _, Or.inl rfl, hque.2.1⟩
    · rw [upn_n e, upn_n e, upn_n e, upn_n e]
      exact hmrk.1 j (by omega)
  · by_cases e : k = c
    · subst e
      rw [upn_a, upn_a, upn_a, upn_a, upn_n (by omega), upn_n (by omega), upn_n (by omega), upn_n (by omega)]
      obtain ⟨b1, b2, b3, b4, b5, b6, b7⟩ := hmrk.1 j (by omega)
      have := hjk j (by omega)
      exact ⟨b1, b4, b5, by omega⟩
    · rw [upn_n e, upn_n e, upn_n e, upn_n e, upn_n (by omega), upn_n (by omega), upn_n (by omega), upn_n (by omega)]
      exact hmrk.2 j k a1 (by omega)
  · rw [m61, m62, m63, v84, v85]
    by_cases e : j = c
    · subst e
      rw [upd_a, upd_a, upd_a, upd_a, upd_a, upn_a, upn_a, upn_a, upn_a, upn_a]
      exact ⟨rfl, rfl, rfl, rfl, rfl⟩
    · rw [upd_n e, upd_n e, upd_n e, upd_n e, upd_n e, upn_n e, upn_n e, upn_n e, upn_n e, upn_n e]
      exact hrows j (by omega)
  · by_cases e : j = c
    · subst e
      rw [upn_a, upn_a]
      refine ⟨by omega, by omega, n, pp, gg, r, ?_, ?_, by omega, ?_, hgg, ?_, ?_, hr, ?_⟩
      · rw [eg, eg1, eg2, v0 80 (by decide) (by decide) (by decide) (by decide) (by decide), v0 81 (by decide) (by decide) (by decide) (by decide) (by decide), m59, v82, upd_a, upd_a]; exact hch
      · rw [m59, upd_a]
      · rw [v82, upd_a]
      · rw [m60, upd_a]
      · rw [v83, upd_a]
      · rw [e41, eg, m0 (6 + 2 * r) (by omega) (by omega) (by omega) (by omega) (by omega) (by omega)]; exact hnm
    · rw [upn_n e, upn_n e]
      obtain ⟨b1, b2, n', pp', gg', r', b3, b4, b5, b6, b7, b8, b9, b10, b11⟩ := hchg j (by omega)
      refine ⟨b1, b2, n', pp', gg', r', ?_, ?_, b5, ?_, b7, ?_, ?_, b10, ?_⟩
      · rw [eg, eg1, eg2, v0 80 (by decide) (by decide) (by decide) (by decide) (by decide), v0 81 (by decide) (by decide) (by decide) (by decide) (by decide), m59, v82, upd_n e, upd_n e]; exact b3
      · rw [m59, upd_n e]; exact b4
      · rw [v82, upd_n e]; exact b6
      · rw [m60, upd_n e]; exact b8
      · rw [v83, upd_n e]; exact b9
      · rw [e41, eg, m0 (6 + 2 * r') (by omega) (by omega) (by omega) (by omega) (by omega) (by omega)]; exact b11
  · obtain ⟨a1, a2, a3, a4⟩ := hcur
    unfold curR
    rw [eg, eg1, eg2, e37, e41, v0 80 (by decide) (by decide) (by decide) (by decide) (by decide), v0 81 (by decide) (by decide) (by decide) (by decide) (by decide), v7 16 (by decide), v7 17 (by decide)]
    refine ⟨a1, a2, a3, ?_⟩
    rcases a4 with a4 | ⟨r2, pp2, d1, d0, d2, d3, d4, d5⟩
    · exact Or.inl a4
    · exact Or.inr ⟨r2, pp2, d1, d0, d2, d3, d4, by rw [m0 (6 + 2 * r2) (by omega) (by omega) (by omega) (by omega) (by omega) (by omega)]; exact d5⟩
  · unfold queR
    rw [m0 38 (by decide) (by decide) (by decide) (by decide) (by decide) (by decide), v0 87 (by decide) (by decide) (by decide) (by decide) (by decide)]; exact hque
  · rw [e42]
    by_cases e : j = c
    · subst e
      rw [upn_a] at hx
      rw [upn_a]
      obtain ⟨i, i1, i2, i3, i4⟩ := htrl.1 x hx
      exact ⟨i, i1, i1, i4⟩
    · rw [upn_n e] at hx
      rw [upn_n e]
      exact hlow j (by omega) x hx
end RUA
