/-! going back to the last choice -/
section BKA
variable {g cap R : Nat} {has : Nat → Bool} {N S c tr tb nq GT P M : Nat} {φ K τ cm tm gm cs ct : Nat → Nat} {μ ν : Mu}
theorem tgt_m {t : Int32} {N' : Nat} {k v : Int32} (hN : N ≤ 240) (h : tmR N φ K t k v) (h1 : ∀ y, y < N → tgt t y → y < N') : tmR N' φ K t k v := by
  rcases h with ⟨i, h2, h3, h4, h5, h6⟩ | h | h | ⟨i, h2, h3, h4, h5, h6⟩
  · exact Or.inl ⟨i, h1 i h2 (Or.inl h4), h3, h4, h5, h6⟩
  · exact Or.inr (Or.inl h)
  · exact Or.inr (Or.inr (Or.inl h))
  · exact Or.inr (Or.inr (Or.inr ⟨i, h1 i h2 (Or.inr h4), h3, h4, h5, h6⟩))
/-- the cells, when the search goes back -/
theorem back_R {C U T KK V NM A C' U' KK' TR B : Nat → Int32} {N' cs' tm' ct' : Nat} (hR : cellsR C U T KK V NM A N S φ K τ) (hN : N' ≤ N) (hb : N' = N ∨ K N' ≠ 3) (hτ : ∀ i, i < N → (i < N' ↔ τ i < cs')) (hcs : cs' ≤ S)
    (hC : ∀ i, i < 240 → (C' i = wd i 0 ∧ ∃ x, tm' ≤ x ∧ x < tr ∧ TR x = wd i 0) ∨ (C' i = C i ∧ ∀ x, tm' ≤ x → x < tr → TR x ≠ wd i 0)) (hTR : ∀ x, x < tr → ∃ i, i < N ∧ K i = 1 ∧ TR x = wd i 0)
    (hKK : ∀ x, x < 240 → (KK' x = -1 ∧ ∃ y, ct' ≤ y ∧ y < tb ∧ B y = nI x) ∨ (KK' x = KK x ∧ ∀ y, ct' ≤ y → y < tb → B y ≠ nI x)) (hseg : ∀ i, i < N' → ((∃ x, tm' ≤ x ∧ x < tr ∧ TR x = wd i 0) ↔ (∃ y, ct' ≤ y ∧ y < tb ∧ B y = nI (φ i))))
    (hdn : ∀ i, i < N' → K i ≠ 2 → (∀ x, tm' ≤ x → x < tr → TR x ≠ wd i 0) → ∀ y, y < N → tgt (C i) y → y < N') (hU : ∀ x, x < 240 → U' x = if T x < nI cs' then U x else 0) : cellsR C' U' T KK' V NM A N' S φ K τ := by
  have hR0 := hR
  obtain ⟨a1, a2, a3, a4, a5, a6⟩ := hR
  have hC3 : ∀ i, i < N → K i ≠ 1 → C' i = C i ∧ ∀ x, tm' ≤ x → x < tr → TR x ≠ wd i 0 := by
    intro i hi hK
    have : ∀ x, tm' ≤ x → x < tr → TR x ≠ wd i 0 := by
      intro x q1 q2 q3
      obtain ⟨j, e1, e2, e3⟩ := hTR x q2
      rw [q3] at e3
      have := ((wd_eq (by omega) (by omega) (by omega) (by omega)).mp e3).1
      subst this
      exact hK e2
    rcases hC i (by omega) with ⟨-, x, q1, q2, q3⟩ | ⟨q, -⟩
    · exact absurd q3 (this x q1 q2)
    · exact ⟨q, this⟩
  have hKn : ∀ i, i < N' → (∀ x, tm' ≤ x → x < tr → TR x ≠ wd i 0) → KK' (φ i) = KK (φ i) := by
    intro i hi q
    rcases hKK (φ i) (a3 i (by omega)).1 with ⟨-, w⟩ | ⟨w, -⟩
    · obtain ⟨x, w1, w2, w3⟩ := (hseg i hi).mpr w
      exact absurd w3 (q x w1 w2)
    · exact w
  refine ⟨by omega, a2, fun i hi => ?_, fun i j hi hj => a4 i j hi (by omega), fun x hx => ?_, fun i hi => ?_⟩
  · obtain ⟨b1, b2, b3, b4⟩ := a3 i (by omega)
    refine ⟨b1, ?_, b3, b4⟩
    rw [hU _ b1, b3, if_pos (nI_lt ((hτ i (by omega)).mp hi) (by omega))]
    exact b2
  · rw [hU x hx]
    by_cases e : T x < nI cs'
    · rw [if_pos e]
      rcases a5 x hx with q | ⟨i, q1, q2⟩
      · exact Or.inl q
      · refine Or.inr ⟨i, ?_, q2⟩
        obtain ⟨b1, b2, b3, b4⟩ := a3 i q1
        rw [← q2, b3] at e
        exact (hτ i q1).mpr ((nI_ltI (by omega) (by omega)).mp e)
    · rw [if_neg e]; exact Or.inl rfl
  · obtain ⟨b1, -⟩ := a3 i (by omega)
    rcases a6 i (by omega) with ⟨h1, h2⟩ | ⟨h1, a, nm, h2, h3, h4, h5, h6, h7, h8⟩ | ⟨h1, h2, j, a, nm, h3, h4, h5, h6, h7, h8⟩
    · refine Or.inl ⟨h1, ?_⟩
      rcases hC i (by omega) with ⟨q, x, w1, w2, w3⟩ | ⟨q, w⟩
      · refine Or.inl ⟨q, ?_⟩
        rcases hKK (φ i) b1 with ⟨e, -⟩ | ⟨-, e⟩
        · exact e
        · obtain ⟨y, e1, e2, e3⟩ := (hseg i hi).mp ⟨x, w1, w2, w3⟩
          exact absurd e3 (e y e1 e2)
      · rw [q, hKn i hi w]
        rcases h2 with h2 | ⟨h2, h3, h4⟩
        · exact Or.inl h2
        · exact Or.inr ⟨h2, tgt_m a1 h3 (hdn i hi (by omega) w), fun j hj e => h4 j (by omega) e⟩
    · obtain ⟨q, -⟩ := hC3 i (by omega) (by omega)
      have hia : i + a < N' := by
        rcases hb with e | e
        · omega
        · apply Classical.byContradiction
          intro w
          have := (h8 (N' - i - 1) (by omega)).1
          rw [show i + 1 + (N' - i - 1) = N' by omega] at this
          exact e this
      exact Or.inr (Or.inl ⟨h1, a, nm, h2, h3, h4, by rw [q]; exact h5, by rw [q]; exact h6, hia, h8⟩)
    · obtain ⟨q, w⟩ := hC3 i (by omega) (by omega)
      obtain ⟨q2, -⟩ := hC3 j (by omega) (by omega)
      refine Or.inr (Or.inr ⟨h1, ?_, j, a, nm, h3, h4, h5, by rw [q2]; exact h6, h7, h8⟩)
      rw [q, hKn i hi w]
      exact tgt_m a1 h2 (hdn i hi (by omega) w)
theorem frc_back {C' C B : Nat → Int32} {N' : Nat} (hN' : N' ≤ N) (hinj : ∀ i j, i < N → j < N → φ i = φ j → i = j) (hφ : ∀ i, i < N → φ i < 240) (a d : Nat) (h : ∀ i, i < N' → K i = 1 → C' i = wd i 0 → C i = wd i 0 ∨ ∃ y, a ≤ y ∧ y < a + d ∧ B y = nI (φ i)) : frc C' K N' ≤ frc C K N + d := by
  have h1 : frc C' K N' ≤ cnt (fun i => clB ((K i = 1 ∧ C i = wd i 0) ∨ ∃ y, a ≤ y ∧ y < a + d ∧ B y = nI (φ i))) N' := cnt_mono N' (fun i hi q => by
    have q := of_decide_eq_true q
    exact clB_t.mpr ((h i hi q.1 q.2).imp (fun w => ⟨q.1, w⟩) id))
  have h2 : ∀ d, cnt (fun i => clB ((K i = 1 ∧ C i = wd i 0) ∨ ∃ y, a ≤ y ∧ y < a + d ∧ B y = nI (φ i))) N' ≤ cnt (fun i => decide (K i = 1 ∧ C i = wd i 0)) N' + d := by
    intro d
    induction d with
    | zero =>
      refine cnt_mono N' (fun i hi q => ?_)
      rcases clB_t.mp q with w | ⟨y, w1, w2, -⟩
      · exact decide_eq_true w
      · omega
    | succ d ih =>
      by_cases e : ∃ k, k < N' ∧ B (a + d) = nI (φ k)
      · obtain ⟨k, k1, k2⟩ := e
        have := cnt_one (p := fun i => clB ((K i = 1 ∧ C i = wd i 0) ∨ ∃ y, a ≤ y ∧ y < a + d ∧ B y = nI (φ i))) (q := fun i => clB ((K i = 1 ∧ C i = wd i 0) ∨ ∃ y, a ≤ y ∧ y < a + (d + 1) ∧ B y = nI (φ i))) (n := N') (k := k) (fun i hi q => by
          rcases clB_t.mp q with w | ⟨y, w1, w2, w3⟩
          · exact Or.inl (clB_t.mpr (Or.inl w))
          · by_cases ey : y = a + d
            · rw [ey, k2] at w3
              have f1 := hφ i (by omega)
              have f2 := hφ k (by omega)
              exact Or.inr (hinj i k (by omega) (by omega) ((nI_eq (by omega) (by omega)).mp w3).symm)
            · exact Or.inl (clB_t.mpr (Or.inr ⟨y, w1, by omega, w3⟩)))
        omega
      · have := cnt_mono (p := fun i => clB ((K i = 1 ∧ C i = wd i 0) ∨ ∃ y, a ≤ y ∧ y < a + (d + 1) ∧ B y = nI (φ i))) (q := fun i => clB ((K i = 1 ∧ C i = wd i 0) ∨ ∃ y, a ≤ y ∧ y < a + d ∧ B y = nI (φ i))) N' (fun i hi q => by
          rcases clB_t.mp q with w | ⟨y, w1, w2, w3⟩
          · exact clB_t.mpr (Or.inl w)
          · by_cases ey : y = a + d
            · exact absurd ⟨i, hi, by rw [← ey]; exact w3⟩ e
            · exact clB_t.mpr (Or.inr ⟨y, w1, by omega, w3⟩))
        omega
  have h3 := h2 d
  have h4 : cnt (fun i => decide (K i = 1 ∧ C i = wd i 0)) N' ≤ cnt (fun i => decide (K i = 1 ∧ C i = wd i 0)) N := cnt_n N hN'
  unfold frc at h1 ⊢
  omega

/-- where the rows of goals lie -/
def gOK (g : Nat) : Prop := g = 54 ∨ 99 ≤ g
theorem nmR_m {t hh gw w : Int32} {C C' : Nat → Int32} {N1 : Nat} (hN : N1 ≤ 240) (h : goR N1 φ K t hh gw) (h2 : nmR C t w) (hC : ∀ i, i < N1 → K i = 2 → C' i = C i) : nmR C' t w := by
  rcases h2 with ⟨i, i1, i2, i3⟩ | h2
  · obtain ⟨x, -, -, ⟨a, a1, a2, -⟩ | ⟨j, j1, j2, -, j3, -⟩ | ⟨a2, -⟩⟩ := h
    · have := ((wd_eq (by omega) (by omega) (by omega) (by omega)).mp (i2.symm.trans a2)).2
      omega
    · have := ((wd_eq (by omega) (by omega) (by omega) (by omega)).mp (i2.symm.trans j3)).1
      subst this
      exact Or.inl ⟨i, i1, i2, by rw [hC i j1 j2]; exact i3⟩
    · have := ((wd_eq (by omega) (by omega) (by omega) (by omega)).mp (i2.symm.trans a2)).2
      omega
  · exact Or.inr h2
theorem chR_h {TT HH BB G GN : Nat → Int32} {n : Nat} {p q : Int32} {pp : Nat} (h : chR N φ K TT HH BB G GN (n + 1) p q) (hp : p = nI pp) (hpp : pp < 2 ^ 29) : ∃ gw hh, goR N φ K (TT pp) hh gw := by
  obtain ⟨p', gg, e1, e2, e3, e4, e5, -⟩ := h
  rw [hp] at e1
  have := (nI_eq (by omega) (by omega)).mp e1
  subst this
  exact ⟨_, _, e5⟩
theorem chg_c {μ' ν' : Mu} (h : chgR c g cap GT R φ K cm gm μ ν) (hcm : ∀ j, j < c → cm j ≤ N) (hN : N ≤ 240) (hGT : GT < 2 ^ 29) (hR16 : R ≤ 16) (hμ : ∀ k, k = g ∨ k = g + 1 ∨ k = g + 2 ∨ k = 59 ∨ k = 60 ∨ k < 37 → μ' k = μ k) (hν : ∀ k, 80 ≤ k → k ≤ 83 → ν' k = ν k) (hC : ∀ i, i < N → K i = 2 → μ' 41 i = μ 41 i) : chgR c g cap GT R φ K cm gm μ' ν' := by
  intro j hj
  obtain ⟨b1, b2, n', pp', gg', r', b3, b4, b5, b6, b7, b8, b9, b10, b11⟩ := h j hj
  obtain ⟨gw, hh, hgo⟩ := chR_h b3 b4 (by omega)
  have := hcm j hj
  refine ⟨b1, b2, n', pp', gg', r', ?_⟩
  rw [hμ g (by omega), hμ (g + 1) (by omega), hμ (g + 2) (by omega), hμ 59 (by omega), hμ 60 (by omega), hμ (6 + 2 * r') (by omega), hν 80 (by omega) (by omega), hν 81 (by omega) (by omega), hν 82 (by omega) (by omega), hν 83 (by omega) (by omega)]
  exact ⟨b3, b4, b5, b6, b7, b8, b9, b10, nmR_m (by omega) hgo b11 (fun i hi hK => hC i (by omega) hK)⟩
theorem back_s (h : actR g cap R has N S (c + 1) tr tb nq GT P M φ K τ cm tm gm cs ct μ ν) (hg : gOK g) (hc : c + 1 ≤ 300) (htb : tb ≤ 2600) (hGT : GT < 2 ^ 29) (hR16 : R ≤ 16) :
    ∃ μ' ν', f_SE_tryOtherWay μ = some μ' ∧ f_MO_fail ν = some ν' ∧ μ' 37 11 = 1 ∧ actR g cap R has (cm c) S c (tm c) (ct c) nq GT P M φ K τ cm tm gm cs ct μ' ν' ∧ (∀ k, k ≠ 37 → k ≠ 40 → k ≠ 41 → k ≠ 58 → μ' k = μ k) ∧ (∀ j, j ≠ 9 → j ≠ 10 → j ≠ 11 → μ' 37 j = μ 37 j) ∧ (∀ k, k ≠ 70 → k ≠ 74 → k ≠ 76 → ν' k = ν k) ∧ (∀ j, j ≠ 16 → j ≠ 17 → j ≠ 18 → j ≠ 23 → ν' 70 j = ν 70 j) := by
  obtain ⟨hR, ⟨p1, p2, p3⟩, ⟨n1, n2, n3, n4⟩, htrl, hseg, hdn, hmrk, hrows, hchg, hcur, hque, hseen, hpot, hbnd, hmk, hlow⟩ := h
  have hN := hR.1
  obtain ⟨r1, r2, r3, r4, r5⟩ := hrows c (by omega)
  obtain ⟨k1, k2, k3, k4, k5, k6, k7⟩ := hmrk.1 c (by omega)
  have htrN : tr ≤ 240 := by
    -- distinct variables below N
    have key : ∀ n, n ≤ tr → n ≤ cnt (fun i => clB (∃ x, x < n ∧ μ 42 x = wd i 0)) N := by
      intro n
      induction n with
      | zero => intro _; omega
      | succ n ih =>
        intro hn
        obtain ⟨i, i1, i2, i3, i4⟩ := htrl.1 n (by omega)
        have h1 := ih (by omega)
        have h2 : cnt (fun i => clB (∃ x, x < n + 1 ∧ μ 42 x = wd i 0)) N = cnt (fun i => clB (∃ x, x < n ∧ μ 42 x = wd i 0)) N + 1 := by
          refine cnt_set (k := i) i1 (fun j hj hne => ?_) ?_ (clB_t.mpr ⟨n, by omega, i4⟩)
          · cases e : clB (∃ x, x < n ∧ μ 42 x = wd j 0) with
            | true =>
              obtain ⟨x, x1, x2⟩ := clB_t.mp e
              exact (clB_t.mpr ⟨x, by omega, x2⟩).symm
            | false =>
              cases e2 : clB (∃ x, x < n + 1 ∧ μ 42 x = wd j 0) with
              | false => rfl
              | true =>
                obtain ⟨x, x1, x2⟩ := clB_t.mp e2
                by_cases ex : x = n
                · rw [ex, i4] at x2
                  exact absurd ((wd_eq (by omega) (by omega) (by omega) (by omega)).mp x2).1.symm hne
                · rw [clB_t.mpr ⟨x, by omega, x2⟩] at e
                  cases e
          · cases e : clB (∃ x, x < n ∧ μ 42 x = wd i 0) with
            | false => rfl
            | true =>
              obtain ⟨x, x1, x2⟩ := clB_t.mp e
              exact absurd (x2.trans i4.symm) (htrl.2 x n x1 (by omega))
        omega
    have h1 := key tr (Nat.le_refl _)
    have h2 := cnt_le (fun i => clB (∃ x, x < tr ∧ μ 42 x = wd i 0)) N
    omega
  -- the class
  obtain ⟨μ1, u1, u2, u3⟩ := gb_l (k1 := nI (cm c)) (tm := tm c) (N := N) (TR := μ 42) hN (tr - tm c) fu (sI μ 58 5 (nI c)) (by unfold fu; omega) (by omega) rfl (fun x q1 q2 => by
    obtain ⟨i, i1, i2, i3, i4⟩ := htrl.1 x (by omega)
    exact ⟨i, i1, i4⟩)
  rw [show tm c + (tr - tm c) = tr by omega] at u1 u3
  -- the reference
  obtain ⟨ν1, v1, v2, v3, v4, v5⟩ := fb_l (ct := ct c) (c := c) (B := ν 86) (by omega) (by omega) (tb - ct c) fu (sI ν 70 18 (nI c)) (by unfold fu; omega) (by omega) rfl rfl r5 (by rw [show ct c + (tb - ct c) = tb by omega]; exact n2) (fun y hy => hbnd y (by omega))
  rw [show ct c + (tb - ct c) = tb by omega] at v5
  obtain ⟨ν2, w1, w2, w3⟩ := fu_l (cs := cs c) (c := c) (by omega) 240 fu 0 ν1 (by omega) (by unfold fu; omega) (by rw [v3 18 (by decide)]; rfl) (by rw [v2 84 (by decide) (by decide)]; exact r4)
  obtain ⟨q1, q2, nn, pp, gg, rr, e1, e2, e3, e4, e5, e6, e7, e8, e9⟩ := hchg c (by omega)
  have hν2 : ∀ k, k ≠ 70 → k ≠ 74 → k ≠ 76 → ν2 k = ν k := by
    intro k a1 a2 a3
    rw [w2 k a2, v2 k a1 a3, sI_nk a1]
  have hν7 : ∀ j, j ≠ 18 → j ≠ 23 → ν2 70 j = ν 70 j := by
    intro j a1 a2
    rw [w2 70 (by decide), v3 j a2, sI_nj a1]
  have hν18 : ν2 70 18 = nI c := by rw [w2 70 (by decide), v3 18 (by decide)]; rfl
  have hμ1 : ∀ k, k ≠ 41 → k ≠ 58 → μ1 k = μ k := by
    intro k a1 a2
    rw [u2 k a1, sI_nk a2]
  have hgr : ∀ k, k = g ∨ k = g + 1 ∨ k = g + 2 ∨ k = g + 3 → k ≠ 37 ∧ k ≠ 40 ∧ k ≠ 41 ∧ k ≠ 58 := by
    intro k hk
    unfold gOK at hg
    omega
  -- the cells
  have hsegc : ∀ i, i < cm c → ((∃ x, tm c ≤ x ∧ x < tr ∧ μ 42 x = wd i 0) ↔ (∃ y, ct c ≤ y ∧ y < tb ∧ ν 86 y = nI (φ i))) := by
    intro i hi
    have := hseg c (by omega) i hi
    unfold segE at this
    rw [if_neg (by omega), if_neg (by omega)] at this
    exact this
  have hR' : cellsR (μ1 41) (ν2 74) (ν2 75) (ν2 76) (ν2 77) (ν2 78) (ν2 79) (cm c) S φ K τ := by
    rw [hν2 75 (by decide) (by decide) (by decide), hν2 77 (by decide) (by decide) (by decide), hν2 78 (by decide) (by decide) (by decide), hν2 79 (by decide) (by decide) (by decide)]
    refine back_R (TR := μ 42) (B := ν 86) (tr := tr) (tb := tb) (tm' := tm c) (ct' := ct c) (cs' := cs c) hR k1 k6 k3 k2 ?_ ?_ ?_ hsegc ?_ ?_
    · intro i hi
      exact u3 i hi
    · intro x hx
      obtain ⟨i, i1, i2, i3, i4⟩ := htrl.1 x hx
      exact ⟨i, i1, i2, i4⟩
    · intro x hx
      rw [w2 76 (by decide)]
      exact v5 x hx
    · intro i hi hK q y hy hty
      exact hdn c (by omega) i hi hK q y hy hty
    · intro x hx
      have := (w3 x hx).2 (by omega)
      rw [this, v2 75 (by decide) (by decide), v2 74 (by decide) (by decide)]
      rfl
  -- a cell that is no variable stays as it is
  have hC2 : ∀ i, i < N → K i ≠ 1 → μ1 41 i = μ 41 i := by
    intro i hi hK
    rcases u3 i (by omega) with ⟨-, x, a1, a2, a3⟩ | ⟨a, -⟩
    · obtain ⟨j, j1, j2, j3, j4⟩ := htrl.1 x a2
      rw [a3] at j4
      have := ((wd_eq (by omega) (by omega) (by omega) (by omega)).mp j4).1
      subst this
      exact absurd j2 hK
    · exact a
  have hnm : ∀ {t hh gw w : Int32} {N1 : Nat}, N1 ≤ N → goR N1 φ K t hh gw → nmR (μ 41) t w → nmR (μ1 41) t w := by
    intro t hh gw w N1 a1 a2 a3
    exact nmR_m (by omega) a2 a3 (fun i hi hK => hC2 i (by omega) (by omega))
  refine ⟨sI (sI (sI (sI (sI μ1 40 3 (nI (tm c))) 40 1 (nI (cm c))) 37 9 (μ 59 c)) 37 10 (μ 60 c)) 37 11 1, sI (sI ν2 70 16 (ν 82 c)) 70 17 (ν 83 c), ?_, ?_, rfl, ?_, fun k a1 a2 a3 a4 => ?_, fun j a1 a2 a3 => ?_, fun k a1 a2 a3 => ?_, fun j a1 a2 a3 a4 => ?_⟩
  · unfold f_SE_tryOtherWay f_CH_cutTo
    have ej : jmin (nI (c + 1)) (nI c) = nI c := by
      unfold jmin
      rw [if_pos (nI_lt (by omega) (by omega))]
    rw [p3, if_pos (nI_ne0 (by omega) (by omega)), nI_pred, ej, b1_s]
    rw [show sI μ 58 5 (nI c) 61 = μ 61 from rfl, show sI μ 58 5 (nI c) 62 = μ 62 from rfl, rd_n (by omega) (by decide), b1_s, rd_n (by omega) (by decide), b1_s, r1, r2]
    unfold f_CE_goBack
    rw [show sI μ 58 5 (nI c) 40 3 = nI tr from p2, u1, b1_s, b1_s]
    rw [show sI (sI μ1 40 3 (nI (tm c))) 40 1 (nI (cm c)) 59 = μ 59 from hμ1 59 (by decide) (by decide), show sI (sI μ1 40 3 (nI (tm c))) 40 1 (nI (cm c)) 60 = μ 60 from hμ1 60 (by decide) (by decide), rd_n (by omega) (by decide), b1_s, rd_n (by omega) (by decide), b1_s]
  · unfold f_MO_fail
    rw [n3, if_pos (nI_ne0 (by omega) (by omega)), nI_pred, v1, b1_s, show f_MO_fail_68 fu 0 ν1 = some ν2 from w1, b1_s, hν18, hν2 82 (by decide) (by decide) (by decide), rd_n (by omega) (by decide), b1_s, hν2 83 (by decide) (by decide) (by decide), rd_n (by omega) (by decide), b1_s]
  · refine ⟨hR', ⟨rfl, rfl, ?_⟩, ⟨?_, ?_, ?_, ?_⟩, ⟨fun x hx => ?_, fun x y a1 a2 => ?_⟩, fun j hj i hi => ?_, fun j hj i hi hK a1 y a2 a3 => ?_, ⟨fun j hj => ?_, fun j k a1 a2 => hmrk.2 j k a1 (by omega)⟩, fun j hj => ?_, fun j hj => ?_, ?_, ?_, fun p hp => ?_, ?_, fun y hy => ?_, ?_, fun j hj x hx => ?_⟩
    · show μ1 58 5 = nI c
      rw [u2 58 (by decide)]; rfl
    · show ν2 70 12 = nI S
      rw [hν7 12 (by decide) (by decide)]; exact n1
    · show ν2 70 23 = nI (ct c)
      rw [w2 70 (by decide)]; exact v4
    · exact hν18
    · show ν2 70 13 = nI GT
      rw [hν7 13 (by decide) (by decide)]; exact n4
    · -- the trail
      obtain ⟨i, i1, i2, i3⟩ := hlow c (by omega) x hx
      obtain ⟨i', a1, a2, a3, a4⟩ := htrl.1 x (by omega)
      rw [i3] at a4
      have := ((wd_eq (by omega) (by omega) (by omega) (by omega)).mp a4).1
      subst this
      refine ⟨i, i1, a2, ?_, ?_⟩
      · show μ1 41 i ≠ wd i 0
        rcases u3 i (by omega) with ⟨-, y, b1, b2, b3⟩ | ⟨b1, -⟩
        · exact absurd (i3.trans b3.symm) (htrl.2 x y (by omega) b2)
        · rw [b1]; exact a3
      · show μ1 42 x = wd i 0
        rw [hμ1 42 (by decide) (by decide)]; exact i3
    · show μ1 42 x ≠ μ1 42 y
      rw [hμ1 42 (by decide) (by decide)]
      exact htrl.2 x y a1 (by omega)
    · show (∃ x, tm j ≤ x ∧ x < segE c j tm (tm c) ∧ μ1 42 x = wd i 0) ↔ (∃ y, ct j ≤ y ∧ y < segE c j ct (ct c) ∧ ν2 86 y = nI (φ i))
      rw [hμ1 42 (by decide) (by decide), hν2 86 (by decide) (by decide) (by decide)]
      have := hseg j (by omega) i hi
      have e1 : ∀ (f : Nat → Nat) (e : Nat), segE (c + 1) j f e = segE c j f (f c) := by
        intro f e
        unfold segE
        rw [if_pos (by omega)]
        by_cases q : j + 1 < c
        · rw [if_pos q]
        · rw [if_neg q, show j + 1 = c by omega]
      rw [e1, e1] at this
      exact this
    · -- what hangs below the mark
      have hi2 : i < N := by have := (hmrk.1 j (by omega)).1; omega
      have a3' : tgt (μ1 41 i) y := a3
      have a1' : ∀ x, tm j ≤ x → x < tm c → μ 42 x ≠ wd i 0 := by
        intro x b1 b2
        have := a1 x b1 b2
        rw [show sI (sI (sI (sI (sI μ1 40 3 (nI (tm c))) 40 1 (nI (cm c))) 37 9 (μ 59 c)) 37 10 (μ 60 c)) 37 11 1 42 = μ 42 from hμ1 42 (by decide) (by decide)] at this
        exact this
      rcases u3 i (by omega) with ⟨b1, -⟩ | ⟨b1, b2⟩
      · rw [b1] at a3'
        have := tgt_u (i := i) (Or.inl rfl) a3' (by omega) (by omega)
        omega
      · rw [b1] at a3'
        refine hdn j (by omega) i hi hK (fun x c1 c2 => ?_) y (by omega) a3'
        by_cases ex : x < tm c
        · exact a1' x c1 ex
        · exact b2 x (by omega) c2
    · obtain ⟨b1, b2, b3, b4, b5, b6, b7⟩ := hmrk.1 j (by omega)
      obtain ⟨d1, d2, d3, d4⟩ := hmrk.2 j c hj (by omega)
      refine ⟨d1, b2, fun i hi => b3 i (by omega), d2, d3, ?_, b7⟩
      rcases b6 with b6 | b6
      · exact Or.inl (by omega)
      · exact Or.inr b6
    · obtain ⟨b1, b2, b3, b4, b5⟩ := hrows j (by omega)
      show μ1 61 j = _ ∧ μ1 62 j = _ ∧ μ1 63 j = _ ∧ ν2 84 j = _ ∧ ν2 85 j = _
      rw [hμ1 61 (by decide) (by decide), hμ1 62 (by decide) (by decide), hμ1 63 (by decide) (by decide), hν2 84 (by decide) (by decide) (by decide), hν2 85 (by decide) (by decide) (by decide)]
      exact ⟨b1, b2, b3, b4, b5⟩
    · refine chg_c (N := N) (c := c) (ν := ν) (μ := μ) (μ' := sI (sI (sI (sI (sI μ1 40 3 (nI (tm c))) 40 1 (nI (cm c))) 37 9 (μ 59 c)) 37 10 (μ 60 c)) 37 11 1) (ν' := sI (sI ν2 70 16 (ν 82 c)) 70 17 (ν 83 c)) (fun j hj => hchg j (by omega)) (fun j hj => (hmrk.1 j (by omega)).1) hN hGT hR16 (fun k hk => ?_) (fun k b1 b2 => ?_) (fun i hi hK => hC2 i hi (by omega)) j hj
      · obtain ⟨g1, g2, g3, g4⟩ : k ≠ 37 ∧ k ≠ 40 ∧ k ≠ 41 ∧ k ≠ 58 := by
          unfold gOK at hg
          omega
        rw [sI_nk g1, sI_nk g1, sI_nk g1, sI_nk g2, sI_nk g2, hμ1 k g3 g4]
      · rw [sI_nk (by omega), sI_nk (by omega)]
        exact hν2 k (by omega) (by omega) (by omega)
    · -- the goals at hand
      have e37 : ∀ k, k ≠ 37 → k ≠ 40 → k ≠ 41 → k ≠ 58 → sI (sI (sI (sI (sI μ1 40 3 (nI (tm c))) 40 1 (nI (cm c))) 37 9 (μ 59 c)) 37 10 (μ 60 c)) 37 11 1 k = μ k := by
        intro k a1 a2 a3 a4
        rw [sI_nk a1, sI_nk a1, sI_nk a1, sI_nk a2, sI_nk a2, hμ1 k a3 a4]
      obtain ⟨g1, g2, g3, g4⟩ := hgr g (by omega)
      obtain ⟨g5, g6, g7, g8⟩ := hgr (g + 1) (by omega)
      obtain ⟨g9, g10, g11, g12⟩ := hgr (g + 2) (by omega)
      unfold curR
      rw [e37 g g1 g2 g3 g4, e37 (g + 1) g5 g6 g7 g8, e37 (g + 2) g9 g10 g11 g12]
      have f80 : sI (sI ν2 70 16 (ν 82 c)) 70 17 (ν 83 c) 80 = ν 80 := hν2 80 (by decide) (by decide) (by decide)
      have f81 : sI (sI ν2 70 16 (ν 82 c)) 70 17 (ν 83 c) 81 = ν 81 := hν2 81 (by decide) (by decide) (by decide)
      rw [f80, f81]
      refine ⟨⟨nn + 1, e1⟩, Or.inr ⟨pp, e2, by omega, by omega⟩, Or.inr ⟨gg, e4, e5⟩, Or.inr ⟨rr, pp, e8, by omega, e6, e7, e2, ?_⟩⟩
      rw [e37 (6 + 2 * rr) (by omega) (by omega) (by omega) (by omega)]
      obtain ⟨gw, hh, hgo⟩ := chR_h e1 e2 (by omega)
      exact hnm k1 hgo e9
    · obtain ⟨b1, b2, b3, b4, b5⟩ := hque
      refine ⟨b1, by omega, b3, ?_, fun v hv => ?_⟩
      · show jbit (μ1 38 2) = nI nq
        rw [hμ1 38 (by decide) (by decide)]; exact b4
      · show (has v = true → ν2 87 v = nI (φ (cnt has v))) ∧ (has v = false → ν2 87 v = -1)
        rw [hν2 87 (by decide) (by decide) (by decide)]; exact b5 v hv
    · obtain ⟨g1, g2, g3, g4⟩ := hgr (g + 3) (by omega)
      rw [sI_nk g1, sI_nk g1, sI_nk g1, sI_nk g2, sI_nk g2, hμ1 _ g3 g4]
      exact hseen p hp
    · have := frc_back (C' := μ1 41) (C := μ 41) (B := ν 86) (K := K) (φ := φ) (N := N) (N' := cm c) k1 (fun i j hi hj q => phi_inj hR hi hj q) (fun i hi => (hR.2.2.1 i hi).1) (ct c) (tb - ct c) (fun i hi hK q => by
        rcases u3 i (by omega) with ⟨-, x, a1, a2, a3⟩ | ⟨a1, -⟩
        · obtain ⟨y, y1, y2, y3⟩ := (hsegc i hi).mp ⟨x, a1, a2, a3⟩
          exact Or.inr ⟨y, y1, by omega, y3⟩
        · rw [a1] at q; exact Or.inl q)
      show ct c + frc (μ1 41) K (cm c) ≤ P
      omega
    · show ∃ x, x < 240 ∧ ν2 86 y = nI x
      rw [hν2 86 (by decide) (by decide) (by decide)]
      exact hbnd y (by omega)
    · show mkB M ν2
      unfold mkB
      rw [hν2 90 (by decide) (by decide) (by decide), hν7 34 (by decide) (by decide)]
      exact hmk
    · obtain ⟨i, i1, i2, i3⟩ := hlow j (by omega) x hx
      have := (hmrk.2 j c hj (by omega)).1
      refine ⟨i, i1, by omega, ?_⟩
      show μ1 42 x = wd i 0
      rw [hμ1 42 (by decide) (by decide)]
      exact i3
  · rw [sI_nk a1, sI_nk a1, sI_nk a1, sI_nk a2, sI_nk a2, hμ1 k a3 a4]
  · rw [sI_nj a3, sI_nj a2, sI_nj a1]
    show μ1 37 j = _
    rw [hμ1 37 (by decide) (by decide)]
  · rw [sI_nk a1, sI_nk a1]; exact hν2 k a1 a2 a3
  · rw [sI_nj a2, sI_nj a1]; exact hν7 j a3 a4
end BKA
