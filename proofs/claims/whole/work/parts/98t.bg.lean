/-! goals come in front: class and reference alike -/
section BGA
variable {g cap R : Nat} {has : Nat → Bool} {N S c tr tb nq GT P M : Nat} {φ K τ cm tm gm cs ct : Nat → Nat} {μ ν : Mu}
theorem chR_cg {N1 b : Nat} {TT HH BB G GN TT' HH' BB' G' GN' : Nat → Int32} {bg : Nat} (h1 : ∀ p, p < b → TT' p = TT p ∧ HH' p = HH p ∧ BB' p = BB p) (h2 : ∀ x, x < bg → G' x = G x ∧ GN' x = GN x) (n : Nat) : ∀ (p q : Int32), chR N1 φ K TT HH BB G GN n p q → (∀ x, x < 2 ^ 29 → p = nI x → x < b) → (∀ x, x < 2 ^ 29 → q = nI x → x < bg) → chR N1 φ K TT' HH' BB' G' GN' n p q := by
  induction n with
  | zero => intro p q h _ _; exact h
  | succ n ih =>
    intro p q h hp hq
    obtain ⟨pp, gg, e1, e2, e3, e4, e5, e6, e7, e8⟩ := h
    have hb := hp pp e3 e1
    have hbg := hq gg e4 e2
    obtain ⟨t1, t2, t3⟩ := h1 pp hb
    obtain ⟨t4, t5⟩ := h2 gg hbg
    refine ⟨pp, gg, e1, e2, e3, e4, by rw [t1, t2, t4]; exact e5, by rw [t3]; exact e6, by rw [t5]; exact e7, ?_⟩
    rw [t3, t5]
    exact ih _ _ e8 (fun x a b' => by have := e6 x a b'; omega) (fun x a b' => by have := e7 x a b'; omega)
theorem gw_o {n k : Nat} (h : k < n) : gwM n g cap μ k = μ k := by
  unfold gwM
  rw [upM_ne (by omega), upM_ne (by omega), upM_ne (by omega), upM_ne (by omega)]
theorem gw_r {n : Nat} (hg : g + 3 < n) : (∀ p, p < cap → gwM n g cap μ n p = μ g p ∧ gwM n g cap μ (n + 1) p = μ (g + 1) p ∧ gwM n g cap μ (n + 2) p = μ (g + 2) p) ∧ ∀ p, gwM n g cap μ (n + 3) p = 0 := by
  unfold gwM
  refine ⟨fun p hp => ⟨?_, ?_, ?_⟩, fun p => ?_⟩
  · rw [upM_ne (by omega), upM_ne (by omega), upM_ne (by omega), upM_at]
    unfold va_cpy
    rw [if_pos (by omega)]
    congr 1
    omega
  · rw [upM_ne (by omega), upM_ne (by omega), upM_at]
    unfold va_cpy
    rw [if_pos (by omega)]
    congr 1
    omega
  · rw [upM_ne (by omega), upM_at]
    unfold va_cpy
    rw [if_pos (by omega)]
    congr 1
    omega
  · rw [upM_at]
/-- the rows of goals are made anew -/
theorem grow_R {n : Nat} (h : actR g cap R has N S c tr tb nq GT P M φ K τ cm tm gm cs ct μ ν) (hg : gOK g) (hn : 99 ≤ n) (hgn : g + 3 < n) (hR16 : R ≤ 16) (hGT : GT < 2 ^ 29) (hcap : cap < 2 ^ 28) : actR n (2 * cap) R has N S c tr tb nq GT P M φ K τ cm tm gm cs ct (gwM n g cap μ) ν := by
  obtain ⟨hR, ⟨p1, p2, p3⟩, hn4, htrl, hseg, hdn, hmrk, hrows, hchg, hcur, hque, hseen, hpot, hbnd, hmk, hlow⟩ := h
  have o : ∀ k, k < 99 → gwM n g cap μ k = μ k := fun k hk => gw_o (by omega)
  obtain ⟨r1, r2⟩ := gw_r (μ := μ) (cap := cap) hgn
  have e41 := o 41 (by decide)
  have e42 := o 42 (by decide)
  refine ⟨by rw [e41]; exact hR, ⟨by rw [o 40 (by decide)]; exact p1, by rw [o 40 (by decide)]; exact p2, by rw [o 58 (by decide)]; exact p3⟩, hn4, by rw [e41, e42]; exact htrl, by rw [e42]; exact hseg, by rw [e41, e42]; exact hdn, hmrk, fun j hj => ?_, fun j hj => ?_, ?_, ?_, fun p hp => r2 p, by rw [e41]; exact hpot, hbnd, hmk, by rw [e42]; exact hlow⟩
  · rw [o 61 (by decide), o 62 (by decide), o 63 (by decide)]; exact hrows j hj
  · obtain ⟨b1, b2, n', pp', gg', r', b3, b4, b5, b6, b7, b8, b9, b10, b11⟩ := hchg j hj
    refine ⟨b1, by omega, n', pp', gg', r', ?_⟩
    rw [o 59 (by decide), o 60 (by decide), o (6 + 2 * r') (by omega), e41, (r1 pp' (by omega)).1]
    refine ⟨?_, b4, b5, b6, b7, b8, b9, b10, b11⟩
    refine chR_cg (b := cap) (bg := GT) (fun p hp => r1 p hp) (fun _ _ => ⟨rfl, rfl⟩) _ _ _ b3 (fun x a b => ?_) (fun x a b => ?_)
    · rw [b4] at b
      have := (nI_eq (by omega) (by omega)).mp b
      omega
    · rw [b6] at b
      have := (nI_eq (by omega) (by omega)).mp b
      omega
  · obtain ⟨⟨n', a1⟩, a2, a3, a4⟩ := hcur
    unfold curR
    rw [o 37 (by decide), e41]
    refine ⟨⟨n', ?_⟩, ?_, a3, ?_⟩
    · refine chR_cg (b := cap) (bg := GT) (fun p hp => r1 p hp) (fun _ _ => ⟨rfl, rfl⟩) _ _ _ a1 (fun x a b => ?_) (fun x a b => ?_)
      · rcases a2 with w | ⟨pp, w1, w2, w3⟩
        · rw [w] at b; exact absurd b (n_m1 (by omega))
        · rw [w1] at b
          have := (nI_eq (by omega) (by omega)).mp b
          omega
      · rcases a3 with w | ⟨gg, w1, w2⟩
        · rw [w] at b; exact absurd b (n_m1 (by omega))
        · rw [w1] at b
          have := (nI_eq (by omega) (by omega)).mp b
          omega
    · rcases a2 with w | ⟨pp, w1, w2, w3⟩
      · exact Or.inl w
      · exact Or.inr ⟨pp, w1, w2, by omega⟩
    · rcases a4 with a4 | ⟨r, pp, d1, d0, d2, d3, d4, d5⟩
      · exact Or.inl a4
      · refine Or.inr ⟨r, pp, d1, d0, d2, d3, d4, ?_⟩
        rw [o (6 + 2 * r) (by omega), (r1 pp (by
          rcases a2 with w | ⟨x, w1, w2, w3⟩
          · rw [w] at d4; exact absurd d4 (n_m1 (by omega))
          · rw [w1] at d4
            have := (nI_eq (by omega) (by omega)).mp d4
            omega)).1]
        exact d5
  · unfold queR
    rw [o 38 (by decide)]; exact hque
theorem gt_go {t k v : Int32} {h : Nat} (hR : cellsR (μ 41) (ν 74) (ν 75) (ν 76) (ν 77) (ν 78) (ν 79) N S φ K τ) (hg : gtR N φ K t k v) (hh : h ≤ 300) : goR N φ K t (nI h) (k + 8 * v + 2048 * nI h) := by
  refine ⟨h, hh, rfl, ?_⟩
  rcases hg with ⟨a, a1, a2, a3, a4⟩ | ⟨i, i1, i2, i3, i4, i5⟩ | ⟨a1, a2, a3⟩
  · refine Or.inl ⟨a, a1, a2, ?_⟩
    rw [a3, a4, show (2 : Int32) = nI 2 from rfl, show (8 : Int32) = nI 8 from rfl, show (2048 : Int32) = nI 2048 from rfl, pk_mul, pk_mul, nI_add, nI_add]
  · refine Or.inr (Or.inl ⟨i, i1, i2, (hR.2.2.1 i i1).1, i3, ?_⟩)
    rw [i4, i5, show (3 : Int32) = nI 3 from rfl, show (8 : Int32) = nI 8 from rfl, show (2048 : Int32) = nI 2048 from rfl, pk_mul, pk_mul, nI_add, nI_add]
  · refine Or.inr (Or.inr ⟨a1, ?_⟩)
    rw [a2, a3, show (6 : Int32) = nI 6 from rfl, show (8 : Int32) * 0 = nI 0 from rfl, show (2048 : Int32) = nI 2048 from rfl, pk_mul, nI_add, nI_add]
/-- one goal more, in rows that have the place -/
theorem link_0 (h : actR g cap R has N S c tr tb nq GT P M φ K τ cm tm gm cs ct μ ν) (hg : gOK g) (hR16 : R ≤ 16) (hGT : GT + 1 ≤ 8900) (hcap : cap < 2 ^ 29) {at' hh : Nat} (hat : at' < cap) (hag : at' ≤ GT) (hf : ∀ x, x < 2 ^ 29 → μ 37 9 = nI x → x < at') (hk : ∀ j, j < c → gm j ≤ at') (hhh : hh ≤ 300) {t k v : Int32} (ht : gtR N φ K t k v) (hsd : μ 37 10 = -1 ∧ ν 70 17 = -1) :
    ∃ μ1 ν1, f_GO_w3 g cap (nI at') t (nI hh) (μ 37 9) μ = some μ1 ∧ f_MO_link k v (nI hh) (ν 70 16) ν = some (nI GT, ν1) ∧ actR g cap R has N S c tr tb nq (GT + 1) P M φ K τ cm tm gm cs ct (sI μ1 37 9 (nI at')) (sI ν1 70 16 (nI GT)) ∧ (∀ k, k ≠ g → k ≠ g + 1 → k ≠ g + 2 → μ1 k = μ k) ∧ (∀ k, k ≠ 70 → k ≠ 80 → k ≠ 81 → ν1 k = ν k) ∧ (∀ j, j ≠ 13 → ν1 70 j = ν 70 j) := by
  obtain ⟨hR, ⟨p1, p2, p3⟩, ⟨n1, n2, n3, n4⟩, htrl, hseg, hdn, hmrk, hrows, hchg, hcur, hque, hseen, hpot, hbnd, hmk, hlow⟩ := h
  have hgo := gt_go hR ht hhh
  have hgg : g ≠ g + 1 := by omega
  have hne : ∀ k, k < 54 ∨ (58 ≤ k ∧ k < 99) → k ≠ g ∧ k ≠ g + 1 ∧ k ≠ g + 2 ∧ k ≠ g + 3 := by
    intro k hk
    unfold gOK at hg
    omega
  obtain ⟨ne37, ne37a, ne37b, ne37c⟩ := hne 37 (by omega)
  generalize hμ1 : sI (sI (sI μ g at' t) (g + 1) at' (nI hh)) (g + 2) at' (μ 37 9) = μ1
  generalize hν1 : sI (sI (sI ν 80 GT (k + 8 * v + 2048 * nI hh)) 81 GT (ν 70 16)) 70 13 (nI (GT + 1)) = ν1
  have m0 : ∀ k, k ≠ g → k ≠ g + 1 → k ≠ g + 2 → μ1 k = μ k := by
    intro k a b d
    rw [← hμ1, sI_nk d, sI_nk b, sI_nk a]
  have mg : μ1 g = upd (μ g) at' t := by
    rw [← hμ1, sI_nk (by omega), sI_nk (by omega)]; exact sI_r
  have mg1 : μ1 (g + 1) = upd (μ (g + 1)) at' (nI hh) := by
    rw [← hμ1, sI_nk (by omega), sI_r, sI_nk (by omega)]
  have mg2 : μ1 (g + 2) = upd (μ (g + 2)) at' (μ 37 9) := by
    rw [← hμ1, sI_r, sI_nk (by omega), sI_nk (by omega)]
  have v0 : ∀ k, k ≠ 70 → k ≠ 80 → k ≠ 81 → ν1 k = ν k := by
    intro k a b d
    rw [← hν1, sI_nk a, sI_nk d, sI_nk b]
  have v7 : ∀ j, j ≠ 13 → ν1 70 j = ν 70 j := by
    intro j a
    rw [← hν1, sI_nj a]
    rfl
  have v80 : ν1 80 = upd (ν 80) GT (k + 8 * v + 2048 * nI hh) := by
    rw [← hν1]
    show sI ν 80 GT _ 80 = _
    exact sI_r
  have v81 : ν1 81 = upd (ν 81) GT (ν 70 16) := by
    rw [← hν1]
    show sI (sI ν 80 GT (k + 8 * v + 2048 * nI hh)) 81 GT _ 81 = _
    exact sI_r
  have hrw : ∀ p, p < at' → μ1 g p = μ g p ∧ μ1 (g + 1) p = μ (g + 1) p ∧ μ1 (g + 2) p = μ (g + 2) p := by
    intro p hp
    rw [mg, mg1, mg2, upd_n (by omega), upd_n (by omega), upd_n (by omega)]
    exact ⟨rfl, rfl, rfl⟩
  have hrv : ∀ x, x < GT → ν1 80 x = ν 80 x ∧ ν1 81 x = ν 81 x := by
    intro x hx
    rw [v80, v81, upd_n (by omega), upd_n (by omega)]
    exact ⟨rfl, rfl⟩
  have e37 : ∀ k, k ≠ 37 → k ≠ g → k ≠ g + 1 → k ≠ g + 2 → sI μ1 37 9 (nI at') k = μ k := by
    intro k a b d e
    rw [sI_nk a, m0 k b d e]
  have ek : ∀ k, k ≠ 37 → k < 54 ∨ (58 ≤ k ∧ k < 99) → sI μ1 37 9 (nI at') k = μ k := by
    intro k a b
    obtain ⟨x1, x2, x3, x4⟩ := hne k b
    exact e37 k a x1 x2 x3
  have eg : sI μ1 37 9 (nI at') g = μ1 g := sI_nk (by omega)
  have eg1 : sI μ1 37 9 (nI at') (g + 1) = μ1 (g + 1) := sI_nk (by omega)
  have eg2 : sI μ1 37 9 (nI at') (g + 2) = μ1 (g + 2) := sI_nk (by omega)
  have ev : ∀ k, k ≠ 70 → k ≠ 80 → k ≠ 81 → sI ν1 70 16 (nI GT) k = ν k := by
    intro k a b d
    rw [sI_nk a, v0 k a b d]
  have ev7 : ∀ j, j ≠ 13 → j ≠ 16 → sI ν1 70 16 (nI GT) 70 j = ν 70 j := by
    intro j a b
    rw [sI_nj b, v7 j a]
  refine ⟨μ1, ν1, ?_, ?_, ⟨?_, ⟨?_, ?_, ?_⟩, ⟨?_, ?_, ?_, ?_⟩, ?_, ?_, ?_, hmrk, fun j hj => ?_, fun j hj => ?_, ?_, ?_, fun p hp => ?_, ?_, ?_, ?_, ?_⟩, m0, v0, v7⟩
  · unfold f_GO_w3
    rw [wr_n hat (by omega), b1_s, wr_n hat (by omega), b1_s, wr_n hat (by omega), hμ1]
  · unfold f_MO_link
    rw [n4, wr_n (by omega) (by decide), b1_s, show sI ν 80 GT (k + 8 * v + 2048 * nI hh) 70 13 = nI GT from n4, wr_n (by omega) (by decide), b1_s, show sI (sI ν 80 GT (k + 8 * v + 2048 * nI hh)) 81 GT (ν 70 16) 70 13 = nI GT from n4, nI_1, nI_pred, hν1]
  · rw [ek 41 (by decide) (by omega), ev 74 (by decide) (by decide) (by decide), ev 75 (by decide) (by decide) (by decide), ev 76 (by decide) (by decide) (by decide), ev 77 (by decide) (by decide) (by decide), ev 78 (by decide) (by decide) (by decide), ev 79 (by decide) (by decide) (by decide)]
    exact hR
  · rw [ek 40 (by decide) (by omega)]; exact p1
  · rw [ek 40 (by decide) (by omega)]; exact p2
  · rw [ek 58 (by decide) (by omega)]; exact p3
  · rw [ev7 12 (by decide) (by decide)]; exact n1
  · rw [ev7 23 (by decide) (by decide)]; exact n2
  · rw [ev7 18 (by decide) (by decide)]; exact n3
  · rw [sI_nj (by decide), ← hν1]; rfl
  · rw [ek 41 (by decide) (by omega), ek 42 (by decide) (by omega)]; exact htrl
  · rw [ek 42 (by decide) (by omega), ev 86 (by decide) (by decide) (by decide)]; exact hseg
  · rw [ek 41 (by decide) (by omega), ek 42 (by decide) (by omega)]; exact hdn
  · rw [ek 61 (by decide) (by omega), ek 62 (by decide) (by omega), ek 63 (by decide) (by omega), ev 84 (by decide) (by decide) (by decide), ev 85 (by decide) (by decide) (by decide)]; exact hrows j hj
  · obtain ⟨b1, b2, n', pp', gg', r', b3, b4, b5, b6, b7, b8, b9, b10, b11⟩ := hchg j hj
    have hpa : pp' < at' := by have := hk j hj; omega
    refine ⟨by omega, b2, n', pp', gg', r', ?_⟩
    rw [eg, eg1, eg2, ek 59 (by decide) (by omega), ek 60 (by decide) (by omega), ek (6 + 2 * r') (by omega) (by omega), ek 41 (by decide) (by omega), ev 82 (by decide) (by decide) (by decide), ev 83 (by decide) (by decide) (by decide), sI_nk (show (80 : Nat) ≠ 70 by decide), sI_nk (show (81 : Nat) ≠ 70 by decide), (hrw pp' hpa).1]
    refine ⟨chR_cg (b := at') (bg := GT) hrw hrv _ _ _ b3 (fun x a b => ?_) (fun x a b => ?_), b4, b5, b6, by omega, b8, b9, b10, b11⟩
    · rw [b4] at b
      have := (nI_eq (by omega) (by omega)).mp b
      omega
    · rw [b6] at b
      have := (nI_eq (by omega) (by omega)).mp b
      omega
  · obtain ⟨⟨n', a1⟩, a2, a3, a4⟩ := hcur
    unfold curR
    rw [eg, eg1, eg2, sI_nk (show (80 : Nat) ≠ 70 by decide), sI_nk (show (81 : Nat) ≠ 70 by decide), sI_at, sI_at]
    refine ⟨⟨n' + 1, at', GT, rfl, rfl, by omega, by omega, ?_, ?_, ?_, ?_⟩, Or.inr ⟨at', rfl, by omega, hat⟩, Or.inr ⟨GT, rfl, by omega⟩, Or.inl ⟨?_, ?_⟩⟩
    · rw [mg, mg1, v80, upd_a, upd_a, upd_a]; exact hgo
    · rw [mg2, upd_a]; exact hf
    · rw [v81, upd_a]
      intro y hy q
      rcases a3 with w | ⟨gg, w1, w2⟩
      · rw [w] at q; exact absurd q (n_m1 (by omega))
      · rw [w1] at q
        have := (nI_eq (by omega) (by omega)).mp q
        omega
    · rw [show μ1 (g + 2) at' = μ 37 9 by rw [mg2, upd_a], show ν1 81 GT = ν 70 16 by rw [v81, upd_a]]
      refine chR_cg (b := at') (bg := GT) hrw hrv _ _ _ a1 hf (fun x a b => ?_)
      rcases a3 with w | ⟨gg, w1, w2⟩
      · rw [w] at b; exact absurd b (n_m1 (by omega))
      · rw [w1] at b
        have := (nI_eq (by omega) (by omega)).mp b
        omega
    · rw [sI_nj (by decide), m0 37 ne37 ne37a ne37b]; exact hsd.1
    · rw [sI_nj (by decide), v7 17 (by decide)]; exact hsd.2
  · unfold queR
    rw [ek 38 (by decide) (by omega), ev 87 (by decide) (by decide) (by decide)]; exact hque
  · rw [sI_nk (by omega), m0 (g + 3) (by omega) (by omega) (by omega)]; exact hseen p hp
  · rw [ek 41 (by decide) (by omega)]; exact hpot
  · rw [ev 86 (by decide) (by decide) (by decide)]; exact hbnd
  · unfold mkB
    rw [ev 90 (by decide) (by decide) (by decide), ev7 34 (by decide) (by decide)]; exact hmk
  · rw [ek 42 (by decide) (by omega)]; exact hlow
end BGA
