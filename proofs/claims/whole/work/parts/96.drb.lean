section DRB
theorem cnt_inv {p : Nat → Bool} {y : Nat} (n : Nat) : y < cnt p n → ∃ x, x < n ∧ p x = true ∧ cnt p x = y := by
  induction n with
  | zero => intro h; exact absurd h (by unfold cnt; omega)
  | succ n ih =>
    intro h
    rw [cnt_s] at h
    by_cases e : y < cnt p n
    · obtain ⟨x, h1, h2, h3⟩ := ih e
      exact ⟨x, by omega, h2, h3⟩
    · by_cases e2 : p n = true
      · rw [if_pos e2] at h
        exact ⟨n, by omega, e2, by omega⟩
      · rw [if_neg e2] at h; omega
theorem cnt_lt {p : Nat → Bool} {x y : Nat} (h : x < y) (hp : p x = true) : cnt p x < cnt p y := by
  have h1 : cnt p (x + 1) = cnt p x + 1 := by rw [cnt_s, hp]; rfl
  have h2 : cnt p (x + 1) ≤ cnt p y := cnt_n y (by omega)
  omega
/-- distinct variables: never more entries than cells -/
theorem trl_le {N : Nat} {K : Nat → Nat} {tr : Nat} {C TR : Nat → Int32} (hN : N ≤ 240) (htrl : trlR N K tr C TR) : tr + frc C K N ≤ N := by
  have key : ∀ n, n ≤ tr → n + frc C K N ≤ cnt (fun i => clB ((K i = 1 ∧ C i = wd i 0) ∨ ∃ x, x < n ∧ TR x = wd i 0)) N := by
    intro n
    induction n with
    | zero =>
      intro _
      rw [Nat.zero_add]
      exact cnt_mono N (fun i hi q => clB_t.mpr (Or.inl (of_decide_eq_true q)))
    | succ n ih =>
      intro hn
      obtain ⟨i, i1, i2, i3, i4⟩ := htrl.1 n (by omega)
      have h1 := ih (by omega)
      have h2 : cnt (fun i => clB ((K i = 1 ∧ C i = wd i 0) ∨ ∃ x, x < n + 1 ∧ TR x = wd i 0)) N = cnt (fun i => clB ((K i = 1 ∧ C i = wd i 0) ∨ ∃ x, x < n ∧ TR x = wd i 0)) N + 1 := by
        refine cnt_set (k := i) i1 (fun j hj hne => ?_) ?_ (clB_t.mpr (Or.inr ⟨n, by omega, i4⟩))
        · cases e : clB ((K j = 1 ∧ C j = wd j 0) ∨ ∃ x, x < n ∧ TR x = wd j 0) with
          | true =>
            rcases clB_t.mp e with q | ⟨x, x1, x2⟩
            · exact (clB_t.mpr (Or.inl q)).symm
            · exact (clB_t.mpr (Or.inr ⟨x, by omega, x2⟩)).symm
          | false =>
            cases e2 : clB ((K j = 1 ∧ C j = wd j 0) ∨ ∃ x, x < n + 1 ∧ TR x = wd j 0) with
            | false => rfl
            | true =>
              rcases clB_t.mp e2 with q | ⟨x, x1, x2⟩
              · rw [clB_t.mpr (Or.inl q)] at e; cases e
              · by_cases ex : x = n
                · rw [ex, i4] at x2
                  exact absurd ((wd_eq (by omega) (by omega) (by omega) (by omega)).mp x2).1.symm hne
                · rw [clB_t.mpr (Or.inr ⟨x, by omega, x2⟩)] at e
                  cases e
        · cases e : clB ((K i = 1 ∧ C i = wd i 0) ∨ ∃ x, x < n ∧ TR x = wd i 0) with
          | false => rfl
          | true =>
            rcases clB_t.mp e with q | ⟨x, x1, x2⟩
            · exact absurd q.2 i3
            · exact absurd (x2.trans i4.symm) (htrl.2 x n x1 (by omega))
      omega
  have h1 := key tr (Nat.le_refl _)
  have h2 := cnt_le (fun i => clB ((K i = 1 ∧ C i = wd i 0) ∨ ∃ x, x < tr ∧ TR x = wd i 0)) N
  omega
variable {g cap R : Nat} {has : Nat → Bool} {N S c tr tb nq GT P M : Nat} {φ K τ cm tm gm cs ct : Nat → Nat} {μ ν : Mu}
theorem drop_s (h : actR g cap R has N S c tr tb nq GT P M φ K τ cm tm gm cs ct μ ν) (hg : gOK g) (hc : c ≤ 300) (hR16 : R ≤ 16) (hGT : GT < 2 ^ 29) :
    ∃ (μ' : Mu) (tr' : Nat) (tm' : Nat → Nat), f_CO_dropNeedlessTrail μ = some μ' ∧ actR g cap R has N S c tr' tb nq GT P M φ K τ cm tm' gm cs ct μ' ν ∧ (∀ x, x < tr' → ∃ j i, j < c ∧ i < cm j ∧ tm' j ≤ x ∧ x < segE c j tm' tr' ∧ μ' 42 x = wd i 0) ∧ (∀ k, k ≠ 40 → k ≠ 42 → k ≠ 62 → μ' k = μ k) ∧ (∀ j, j ≠ 3 → μ' 40 j = μ 40 j) := by
  obtain ⟨hR, ⟨p1, p2, p3⟩, ⟨n1, n2, n3, n4⟩, htrl, hseg, hdn, hmrk, hrows, hchg, hcur, hque, hseen, hpot, hbnd, hmk, hlow⟩ := h
  have hN := hR.1
  have htr := trl_le hN htrl
  have hm : ∀ j k, j < k → k < c → tm j ≤ tm k := fun j k a b => (hmrk.2 j k a b).2.1
  have hcm : ∀ j k, j ≤ k → k < c → cm j ≤ cm k := by
    intro j k a b
    by_cases e : j = k
    · rw [e]; exact Nat.le_refl _
    · exact (hmrk.2 j k (by omega) b).1
  obtain ⟨μ1, u1, u2, u3, u4⟩ := d6 (c := c) (tr := tr) (cm := cm) (tm := tm) (TR := μ 42) hm (fun j hj => (hmrk.1 j hj).2.2.2.1) (fun j hj => by have := (hmrk.1 j hj).1; omega) hc (by omega) (fun x hx => by
    obtain ⟨i, i1, i2, i3, i4⟩ := htrl.1 x hx
    exact ⟨i, by omega, i4⟩) (tr + 1) fu 0 0 μ (by omega) (by unfold fu; omega) p3 p2 (fun j hj => (hrows j hj).1) (by omega) (fun j hj => by omega) (fun j hj => by omega) (fun j _ hj => (hrows j hj).2.1) (fun x hx => by omega) (fun x _ _ => rfl)
  rw [if_pos (by omega), show nI (kst c cm tm (μ 42) 0) = 0 from rfl] at u1
  have kmono : ∀ {x y : Nat}, x ≤ y → kst c cm tm (μ 42) x ≤ kst c cm tm (μ 42) y := fun h => cnt_n _ h
  have kinv : ∀ y, y < kst c cm tm (μ 42) tr → ∃ x, x < tr ∧ kpt c cm tm (μ 42) x = true ∧ kst c cm tm (μ 42) x = y := fun y hy => cnt_inv tr hy
  have klt : ∀ {x y : Nat}, x < y → kpt c cm tm (μ 42) x = true → kst c cm tm (μ 42) x < kst c cm tm (μ 42) y := fun h hp => cnt_lt h hp
  have hrow : ∀ x, x < tr → kpt c cm tm (μ 42) x = true → μ1 42 (kst c cm tm (μ 42) x) = μ 42 x := u3
  have hsE : ∀ j, segE c j (fun j => kst c cm tm (μ 42) (tm j)) (kst c cm tm (μ 42) tr) = kst c cm tm (μ 42) (segE c j tm tr) := by
    intro j
    unfold segE
    by_cases e : j + 1 < c
    · rw [if_pos e, if_pos e]
    · rw [if_neg e, if_neg e]
  have hsle : ∀ j, j < c → segE c j tm tr ≤ tr := by
    intro j hj
    unfold segE
    by_cases e : j + 1 < c
    · rw [if_pos e]; exact (hmrk.1 (j + 1) e).2.2.2.1
    · rw [if_neg e]; exact Nat.le_refl _
  -- an entry in the segment of choice j that lies below its mark is kept
  have hkeep : ∀ j i x, j < c → i < cm j → tm j ≤ x → x < tr → μ 42 x = wd i 0 → kpt c cm tm (μ 42) x = true := by
    intro j i x hj hi h1 h2 h3
    have hj2 := (psd_t hm hj).mp h1
    have hle : psd c tm x ≤ c := psd_le
    have := hcm j (psd c tm x - 1) (by omega) (by omega)
    have := (hmrk.1 j hj).1
    exact clB_t.mpr ⟨by omega, i, by omega, h3, by omega⟩
  refine ⟨sI μ1 40 3 (nI (kst c cm tm (μ 42) tr)), kst c cm tm (μ 42) tr, fun j => kst c cm tm (μ 42) (tm j), ?_, ⟨?_, ⟨?_, rfl, ?_⟩, ⟨n1, n2, n3, n4⟩, ⟨fun x hx => ?_, fun x y h1 h2 => ?_⟩, fun j hj i hi => ?_, fun j hj i hi hK a1 y a2 a3 => ?_, ⟨fun j hj => ?_, fun j k h1 h2 => ?_⟩, fun j hj => ?_, ?_, ?_, ?_, fun p hp => ?_, ?_, hbnd, hmk, fun j hj x hx => ?_⟩, fun x hx => ?_, fun k a1 a2 a3 => ?_, fun j hj => ?_⟩
  · unfold f_CO_dropNeedlessTrail
    rw [show f_CO_dropNeedlessTrail_6 fu 0 0 0 μ = _ from u1, b2_s]
  · show cellsR (μ1 41) _ _ _ _ _ _ _ _ _ _ _
    rw [u4 41 (by decide) (by decide)]; exact hR
  · show μ1 40 1 = _
    rw [u4 40 (by decide) (by decide)]; exact p1
  · show μ1 58 5 = _
    rw [u4 58 (by decide) (by decide)]; exact p3
  · obtain ⟨y, y1, y2, y3⟩ := kinv x hx
    obtain ⟨i, i1, i2, i3, i4⟩ := htrl.1 y y1
    refine ⟨i, i1, i2, ?_, ?_⟩
    · show μ1 41 i ≠ _
      rw [u4 41 (by decide) (by decide)]; exact i3
    · show μ1 42 x = _
      rw [← y3, hrow y y1 y2]; exact i4
  · obtain ⟨a, a1, a2, a3⟩ := kinv y h2
    obtain ⟨b, b1, b2, b3⟩ := kinv x (by omega)
    show μ1 42 x ≠ μ1 42 y
    rw [← a3, ← b3, hrow a a1 a2, hrow b b1 b2]
    refine htrl.2 b a ?_ a1
    apply Classical.byContradiction
    intro w
    have := kmono (x := a) (y := b) (by omega)
    omega
  · -- the segments
    rw [hsE]
    show (∃ x, kst c cm tm (μ 42) (tm j) ≤ x ∧ x < kst c cm tm (μ 42) (segE c j tm tr) ∧ μ1 42 x = wd i 0) ↔ _
    rw [← hseg j hj i hi]
    have hsl := hsle j hj
    constructor
    · rintro ⟨x', q1, q2, q3⟩
      have := kmono hsl
      obtain ⟨x, x1, x2, x3⟩ := kinv x' (by omega)
      refine ⟨x, ?_, ?_, ?_⟩
      · apply Classical.byContradiction
        intro w
        have := klt (x := x) (y := tm j) (by omega) x2
        omega
      · apply Classical.byContradiction
        intro w
        have := kmono (x := segE c j tm tr) (y := x) (by omega)
        omega
      · rw [← x3, hrow x x1 x2] at q3; exact q3
    · rintro ⟨x, q1, q2, q3⟩
      have hk := hkeep j i x hj hi q1 (by omega) q3
      exact ⟨kst c cm tm (μ 42) x, kmono q1, klt q2 hk, by rw [hrow x (by omega) hk]; exact q3⟩
  · have a3' : tgt (μ 41 i) y := by
      have : tgt (μ1 41 i) y := a3
      rw [u4 41 (by decide) (by decide)] at this; exact this
    refine hdn j hj i hi hK (fun x q1 q2 q3 => ?_) y a2 a3'
    have hk := hkeep j i x hj hi q1 q2 q3
    refine a1 (kst c cm tm (μ 42) x) (kmono q1) (klt q2 hk) ?_
    show μ1 42 _ = _
    rw [hrow x q2 hk]; exact q3
  · obtain ⟨b1, b2, b3, b4, b5, b6, b7⟩ := hmrk.1 j hj
    exact ⟨b1, b2, b3, kmono b4, b5, b6, b7⟩
  · obtain ⟨b1, b2, b3, b4⟩ := hmrk.2 j k h1 h2
    exact ⟨b1, kmono b2, b3, b4⟩
  · obtain ⟨b1, b2, b3, b4, b5⟩ := hrows j hj
    refine ⟨?_, u2 j hj, ?_, b4, b5⟩
    · show μ1 61 j = _
      rw [u4 61 (by decide) (by decide)]; exact b1
    · show μ1 63 j = _
      rw [u4 63 (by decide) (by decide)]; exact b3
  · refine chg_c (N := N) (μ := μ) (ν := ν) hchg (fun j hj => (hmrk.1 j hj).1) hN hGT hR16 (fun k hk => ?_) (fun _ _ _ => rfl) (fun i hi _ => ?_)
    · obtain ⟨g1, g2, g3⟩ : k ≠ 40 ∧ k ≠ 42 ∧ k ≠ 62 := by
        unfold gOK at hg
        omega
      rw [sI_nk g1, u4 k g3 g2]
    · show μ1 41 i = _
      rw [u4 41 (by decide) (by decide)]
  · have e : ∀ k, k ≠ 40 → k ≠ 42 → k ≠ 62 → sI μ1 40 3 (nI (kst c cm tm (μ 42) tr)) k = μ k := by
      intro k a b d
      rw [sI_nk a, u4 k d b]
    unfold gOK at hg
    unfold curR
    rw [e g (by omega) (by omega) (by omega), e (g + 1) (by omega) (by omega) (by omega), e (g + 2) (by omega) (by omega) (by omega), e 37 (by decide) (by decide) (by decide), e 41 (by decide) (by decide) (by decide)]
    obtain ⟨c1, c2, c3, c4⟩ := hcur
    refine ⟨c1, c2, c3, ?_⟩
    rcases c4 with c4 | ⟨r, pp, d1, d0, d2, d3, d4, d5⟩
    · exact Or.inl c4
    · exact Or.inr ⟨r, pp, d1, d0, d2, d3, d4, by rw [e (6 + 2 * r) (by omega) (by omega) (by omega)]; exact d5⟩
  · obtain ⟨b1, b2, b3, b4, b5⟩ := hque
    refine ⟨b1, b2, b3, ?_, b5⟩
    show jbit (μ1 38 2) = _
    rw [u4 38 (by decide) (by decide)]; exact b4
  · unfold gOK at hg
    rw [sI_nk (by omega), u4 _ (by omega) (by omega)]
    exact hseen p hp
  · show tb + frc (μ1 41) K N ≤ P
    rw [u4 41 (by decide) (by decide)]; exact hpot
  · have hx2 : x < kst c cm tm (μ 42) (tm j) := hx
    have htj := (hmrk.1 j hj).2.2.2.1
    have := kmono htj
    obtain ⟨y, y1, y2, y3⟩ := kinv x (by omega)
    have hy : y < tm j := by
      apply Classical.byContradiction
      intro w
      have := kmono (x := tm j) (y := y) (by omega)
      omega
    obtain ⟨i, i1, i2, i3⟩ := hlow j hj y hy
    refine ⟨i, i1, i2, ?_⟩
    show μ1 42 x = _
    rw [← y3, hrow y y1 y2]; exact i3
  · obtain ⟨y, y1, y2, y3⟩ := kinv x hx
    obtain ⟨q1, i, q2, q3, q4⟩ := clB_t.mp y2
    have hle : psd c tm y ≤ c := psd_le
    have hj : psd c tm y - 1 < c := by omega
    have htj : tm (psd c tm y - 1) ≤ y := (psd_t hm hj).mpr (by omega)
    refine ⟨psd c tm y - 1, i, hj, q4, ?_, ?_, ?_⟩
    · show kst c cm tm (μ 42) (tm _) ≤ x
      rw [← y3]; exact kmono htj
    · rw [hsE, ← y3]
      refine klt ?_ y2
      unfold segE
      by_cases e : psd c tm y - 1 + 1 < c
      · rw [if_pos e]
        apply Classical.byContradiction
        intro w
        have := (psd_t hm e).mp (by omega : tm (psd c tm y - 1 + 1) ≤ y)
        omega
      · rw [if_neg e]; exact y1
    · show μ1 42 x = _
      rw [← y3, hrow y y1 y2]; exact q3
  · rw [sI_nk a1, u4 k a3 a2]
  · rw [sI_nj hj, u4 40 (by decide) (by decide)]
end DRB
