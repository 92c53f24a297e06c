/-! a pair of terms is looked at: class and reference alike -/
section LKB
/-- the pairs that wait, in both -/
def prs (N : Nat) (φ K : Nat → Nat) (q : Nat) (μ ν : Mu) : Prop :=
  μ 49 4 = nI q ∧ ν 70 30 = nI (2 * q) ∧ ∀ x, x < q → tmR N φ K (μ 50 x) (ν 88 (2 * x + 1)) (ν 89 (2 * x + 1)) ∧ tmR N φ K (μ 51 x) (ν 88 (2 * x)) (ν 89 (2 * x))
def unB (U T NM A : Nat → Int32) (N S : Nat) (φ K τ : Nat → Nat) (C0 TR0 B0 : Nat → Int32) (tr tb : Nat) (C KK V : Nat → Int32) (n M q : Nat) (μ ν : Mu) : Prop :=
  cellsR C U T KK V NM A N S φ K τ ∧ μ 41 = C ∧ μ 40 1 = nI N ∧ okM KK V NM A ν ∧ ν 75 = T ∧ trA C N φ K C0 TR0 B0 tr tb n μ ν ∧ tr + n + frc C K N ≤ 240 ∧ tb + n + frc C K N ≤ 2600 ∧ mkB M ν ∧ prs N φ K q μ ν
variable {C U T KK V NM A C0 TR0 B0 : Nat → Int32} {N S tr tb n M q : Nat} {φ K τ : Nat → Nat} {μ ν : Mu}
theorem trA_c {μ' ν' : Mu} (h : trA C N φ K C0 TR0 B0 tr tb n μ ν) (h1 : μ' 40 3 = μ 40 3) (h2 : μ' 42 = μ 42) (h3 : ν' 70 23 = ν 70 23) (h4 : ν' 86 = ν 86) : trA C N φ K C0 TR0 B0 tr tb n μ' ν' := by
  unfold trA
  rw [h1, h2, h3, h4]
  exact h
theorem prs_c {μ' ν' : Mu} (h : prs N φ K q μ ν) (h1 : μ' 49 4 = μ 49 4) (h2 : μ' 50 = μ 50) (h3 : μ' 51 = μ 51) (h4 : ν' 70 30 = ν 70 30) (h5 : ∀ x, x < 2 * q → ν' 88 x = ν 88 x ∧ ν' 89 x = ν 89 x) : prs N φ K q μ' ν' := by
  obtain ⟨a1, a2, a3⟩ := h
  refine ⟨h1.trans a1, h4.trans a2, fun x hx => ?_⟩
  rw [h2, h3, (h5 (2 * x + 1) (by omega)).1, (h5 (2 * x + 1) (by omega)).2, (h5 (2 * x) (by omega)).1, (h5 (2 * x) (by omega)).2]
  exact a3 x hx
/-- what a step gives: r 1: on; r 0: the terms don't go together -/
def lkR (U T NM A : Nat → Int32) (N S : Nat) (φ K τ : Nat → Nat) (C0 TR0 B0 : Nat → Int32) (tr tb : Nat) (M q : Nat) (t1 t2 k1 v1 k2 v2 : Int32) (μ ν : Mu) : Prop :=
  ∃ r μ' ν' C' KK' V' n' M' q', f_UN_lookAt t1 t2 μ = some (r, μ') ∧ f_MO_meet k1 v1 k2 v2 ν = some ν' ∧ (r = 0 ∧ ν' 70 49 = 1 ∨ r = 1 ∧ ν' 70 49 = ν 70 49) ∧ M' ≤ M + 1 ∧ q' ≤ q + 3 ∧ unB U T NM A N S φ K τ C0 TR0 B0 tr tb C' KK' V' n' M' q' μ' ν'
theorem unB_bind (h : unB U T NM A N S φ K τ C0 TR0 B0 tr tb C KK V n M q μ ν) {ix : Nat} (hix : ix < N) (hK : K ix = 1) (hf : C ix = wd ix 0) {t k v : Int32} (ht : tmR N φ K t k v) (hlow : ∀ j, j < N → t = wd j 0 → j < ix) :
    ∃ μ' ν' C' KK' V', f_CE_bind (wd ix 0) t μ = some μ' ∧ f_MO_bind (nI (φ ix)) k v ν = some ν' ∧ ν' 70 49 = ν 70 49 ∧ unB U T NM A N S φ K τ C0 TR0 B0 tr tb C' KK' V' (n + 1) M q μ' ν' := by
  obtain ⟨hR, h2, h3, h4, h5, h6, h7, h8, h9, h10⟩ := h
  obtain ⟨e1, e2, e3, e4⟩ := bind_s hR hix hK hf ht hlow h6 h2 h4 h7 h8
  refine ⟨_, _, upd C ix t, upd KK (φ ix) k, upd V (φ ix) v, e1, e2, rfl, bind_R hR hix hK ht hlow, ?_, h3, ⟨?_, ?_, h4.2.2.1, h4.2.2.2⟩, h5, e3, by omega, by omega, h9, h10⟩
  · show sI μ 41 ix t 41 = _
    rw [← h2]; exact sI_r
  · show sI ν 76 (φ ix) k 76 = _
    rw [← h4.1]; exact sI_r
  · show sI (sI ν 76 (φ ix) k) 77 (φ ix) v 77 = _
    rw [← h4.2.1]; exact sI_r
theorem jmx {i j : Nat} (h : i < j) (hj : j < 240) : jmax (wd i 0) (wd j 0) = wd j 0 ∧ jmin (wd i 0) (wd j 0) = wd i 0 ∧ jmax (wd j 0) (wd i 0) = wd j 0 ∧ jmin (wd j 0) (wd i 0) = wd i 0 := by
  have h1 : wd i 0 < wd j 0 := nI_lt (by omega) (by omega)
  have h2 : ¬ wd j 0 < wd i 0 := nI_nlt (by omega) (by omega)
  unfold jmax jmin
  rw [if_pos h1, if_neg h2, if_neg h2, if_pos h1]
  exact ⟨rfl, rfl, rfl, rfl⟩
/-- two free variables -/
theorem look_vv (h : unB U T NM A N S φ K τ C0 TR0 B0 tr tb C KK V n M q μ ν) {i j : Nat} (hi : i < N) (hj : j < N) (hKi : K i = 1) (hKj : K j = 1) (hfi : C i = wd i 0) (hfj : C j = wd j 0) : lkR U T NM A N S φ K τ C0 TR0 B0 tr tb M q (wd i 0) (wd j 0) 0 (nI (φ i)) 0 (nI (φ j)) μ ν := by
  have hR := h.1
  have hN := hR.1
  obtain ⟨a1, -, a2, a3⟩ := hR.2.2.1 i hi
  obtain ⟨c1, -, c2, c3⟩ := hR.2.2.1 j hj
  have hS := hR.2.1
  have hT : ν 75 = T := h.2.2.2.2.1
  by_cases e : i = j
  · subst e
    refine ⟨1, μ, ν, C, KK, V, n, M, q, ?_, ?_, Or.inr ⟨rfl, rfl⟩, by omega, by omega, h⟩
    · rw [lk_vv (kd_wd (by omega) (by omega)) (kd_wd (by omega) (by omega))]
      unfold f_UN_bindLater
      rw [if_pos rfl, b1_s]
    · rw [mt_vv, if_pos rfl]
  · have hne : ¬ nI (φ i) = nI (φ j) := fun q => e (phi_inj hR hi hj ((nI_eq (by omega) (by omega)).mp q))
    have hnw : ¬ wd i 0 = wd j 0 := fun q => e ((wd_eq (by omega) (by omega) (by omega) (by omega)).mp q).1
    have hcl : ∀ x y, jmax (wd i 0) (wd j 0) = x → jmin (wd i 0) (wd j 0) = y → f_UN_lookAt (wd i 0) (wd j 0) μ = b1 (f_CE_bind x y μ) fun μ3 => some (1, μ3) := by
      intro x y e1 e2
      rw [lk_vv (kd_wd (by omega) (by omega)) (kd_wd (by omega) (by omega))]
      unfold f_UN_bindLater
      rw [if_neg hnw, e1, e2]
      cases f_CE_bind x y μ <;> rfl
    rcases Nat.lt_or_gt_of_ne e with hl | hl
    · obtain ⟨j1, j2, -, -⟩ := jmx hl (by omega)
      have ht := hR.2.2.2.1 i j hl hj
      obtain ⟨μ', ν', C', KK', V', e1, e2, e3, e4⟩ := unB_bind h hj hKj hfj (t := wd i 0) (k := 0) (v := nI (φ i)) (Or.inl ⟨i, hi, hKi, rfl, rfl, rfl⟩) (fun x hx q => by
        have := ((wd_eq (by omega) (by omega) (by omega) (by omega)).mp q).1
        omega)
      refine ⟨1, μ', ν', C', KK', V', n + 1, M, q, ?_, ?_, Or.inr ⟨rfl, e3⟩, by omega, by omega, e4⟩
      · rw [hcl _ _ j1 j2, e1, b1_s]
      · rw [mt_vv, if_neg hne, hT, rd_n a1 (by decide), b1_s, rd_n c1 (by decide), b1_s, a2, c2, if_pos (nI_le (by omega) (by omega)), b1_s, if_pos rfl, b1_s, if_pos rfl, b1_s, e2, b1_s]
    · obtain ⟨-, -, j1, j2⟩ := jmx hl (by omega)
      have ht := hR.2.2.2.1 j i hl hi
      obtain ⟨μ', ν', C', KK', V', e1, e2, e3, e4⟩ := unB_bind h hi hKi hfi (t := wd j 0) (k := 0) (v := nI (φ j)) (Or.inl ⟨j, hj, hKj, rfl, rfl, rfl⟩) (fun x hx q => by
        have := ((wd_eq (by omega) (by omega) (by omega) (by omega)).mp q).1
        omega)
      refine ⟨1, μ', ν', C', KK', V', n + 1, M, q, ?_, ?_, Or.inr ⟨rfl, e3⟩, by omega, by omega, e4⟩
      · rw [hcl _ _ j1 j2, e1, b1_s]
      · rw [mt_vv, if_neg hne, hT, rd_n a1 (by decide), b1_s, rd_n c1 (by decide), b1_s, a2, c2, if_neg (nI_ge (by omega) (by omega)), b1_s, if_neg (by decide), b1_s, if_neg (by decide), b1_s, e2, b1_s]
/-- a free variable and a term that is none -/
theorem bui_s (h : unB U T NM A N S φ K τ C0 TR0 B0 tr tb C KK V n M q μ ν) (hM : M < 2 ^ 29) (hq : q ≤ 598) {ix : Nat} (hix : ix < N) (hK : K ix = 1) (hf : C ix = wd ix 0) {t k v : Int32} (ht : tmR N φ K t k v) (hk : kd t ≠ 0) :
    ∃ r μ' ν' C' KK' V' n' M', f_UN_bindUnlessInside (wd ix 0) t μ = some (r, μ') ∧ ocB (nI (φ ix)) k v ν = some ν' ∧ (r = 0 ∧ ν' 70 49 = 1 ∨ r = 1 ∧ ν' 70 49 = ν 70 49) ∧ M' ≤ M + 1 ∧ unB U T NM A N S φ K τ C0 TR0 B0 tr tb C' KK' V' n' M' q μ' ν' := by
  obtain ⟨hR, h2, h3, h4, h5, h6, h7, h8, h9, h10⟩ := h
  have hN := hR.1
  have hlow : ∀ j, j < N → t = wd j 0 → j < ix := fun j hj e => absurd (by rw [e, kd_wd (by omega) (by omega)]) hk
  obtain ⟨y, ν1, u1, u2, u3, u4, u5, u6⟩ := occ_s hR hix hK hf ht h4 h10.2.1 (by omega) h9 (by omega)
  have fro : ∀ k, k ≠ 70 → k ≠ 88 → k ≠ 89 → k ≠ 90 → ν1 k = ν k := by
    intro k g1 g2 g3 g4
    funext j
    exact fr_MO_occurs u1 (by unfold W_MO_occurs; omega)
  have fr7 : ∀ j, j ≠ 30 → j ≠ 34 → j ≠ 40 → j ≠ 41 → ν1 70 j = ν 70 j := by
    intro j g1 g2 g3 g4
    exact fr_MO_occurs u1 (by unfold W_MO_occurs; omega)
  have hok1 : okM KK V NM A ν1 := ⟨(fro 76 (by decide) (by decide) (by decide) (by decide)).trans h4.1, (fro 77 (by decide) (by decide) (by decide) (by decide)).trans h4.2.1, (fro 78 (by decide) (by decide) (by decide) (by decide)).trans h4.2.2.1, (fro 79 (by decide) (by decide) (by decide) (by decide)).trans h4.2.2.2⟩
  have h49 : ν1 70 49 = ν 70 49 := fr7 49 (by decide) (by decide) (by decide) (by decide)
  -- any state of the class that differs in the tracer alone
  have stay : ∀ μ1 : Mu, μ1 41 = μ 41 → μ1 40 = μ 40 → μ1 42 = μ 42 → μ1 49 = μ 49 → μ1 50 = μ 50 → μ1 51 = μ 51 → unB U T NM A N S φ K τ C0 TR0 B0 tr tb C KK V n (M + 1) q μ1 ν1 := by
    intro μ1 g1 g2 g3 g4 g5 g6
    refine ⟨hR, g1.trans h2, by rw [g2]; exact h3, hok1, (fro 75 (by decide) (by decide) (by decide) (by decide)).trans h5, trA_c h6 (by rw [g2]) g3 (fr7 23 (by decide) (by decide) (by decide) (by decide)) (fro 86 (by decide) (by decide) (by decide) (by decide)), h7, h8, u5, prs_c h10 (by rw [g4]) g5 g6 (u4.trans h10.2.1.symm) u6⟩
  have bnd : ∀ μ1 : Mu, unB U T NM A N S φ K τ C0 TR0 B0 tr tb C KK V n (M + 1) q μ1 ν1 → y = 0 → ∃ μ' ν' C' KK' V', f_CE_bind (wd ix 0) t μ1 = some μ' ∧ ocB (nI (φ ix)) k v ν = some ν' ∧ ν' 70 49 = ν 70 49 ∧ unB U T NM A N S φ K τ C0 TR0 B0 tr tb C' KK' V' (n + 1) (M + 1) q μ' ν' := by
    intro μ1 hU ey
    obtain ⟨μ', ν', C', KK', V', e1, e2, e3, e4⟩ := unB_bind hU hix hK hf ht hlow
    refine ⟨μ', ν', C', KK', V', e1, ?_, by rw [e3, h49], e4⟩
    unfold ocB
    rw [u1, b2_s, if_pos ey, e2, b1_s, b1_s]
  by_cases e7 : kd t = 7
  · -- a structure
    obtain ⟨μ1, w1, w2, w3⟩ := forget_s (K := K) hN h3 h2
    have ht1 := tm_tgt ht hN
    obtain ⟨μ2, x1, x2, x3, x4, x5⟩ := trace_s hR w2 ht1
    have hre : μ2 47 ix = 1 ↔ hang C N K t ix := by
      refine ⟨fun g P p1 p2 => x5 P p1 p2 (fun i hi q => by rw [w3 i hi] at q; exact absurd q (by decide)) ix hix g, fun g => ?_⟩
      exact g _ x2.2.2.2.2 x4
    have frt : ∀ k, k ≠ 46 → k ≠ 47 → k ≠ 48 → μ2 k = μ k := by
      intro k g1 g2 g3
      funext j
      rw [fr_TR_trace x1 (by unfold W_TR_trace; omega), fr_TR_forget w1 (by unfold W_TR_forget; omega)]
    have hU2 := stay μ2 (frt 41 (by decide) (by decide) (by decide)) (frt 40 (by decide) (by decide) (by decide)) (frt 42 (by decide) (by decide) (by decide)) (frt 49 (by decide) (by decide) (by decide)) (frt 50 (by decide) (by decide) (by decide)) (frt 51 (by decide) (by decide) (by decide))
    have hh : f_TR_hasReached (nI ix) μ2 = some (μ2 47 ix) := by
      unfold f_TR_hasReached
      rw [rd_n (by omega) (by decide), b1_s, if_pos (x2.2.2.1 ix hix)]
    rcases u2 with ey | ey
    · have er : μ2 47 ix = 0 := (x2.2.2.1 ix hix).resolve_right (fun q => by
        have := u3.mpr (hre.mp q)
        rw [ey] at this
        exact absurd this (by decide))
      obtain ⟨μ', ν', C', KK', V', e1, e2, e3, e4⟩ := bnd μ2 hU2 ey
      refine ⟨1, μ', ν', C', KK', V', n + 1, M + 1, ?_, e2, Or.inr ⟨rfl, e3⟩, by omega, e4⟩
      unfold f_UN_bindUnlessInside
      rw [if_neg (not_not_intro (k_eq 7 e7)), w1, b1_s, x1, b1_s, wd_v (by omega) (by omega), hh, b1_s, if_pos er, e1, b1_s]
    · have er : μ2 47 ix = 1 := hre.mpr (u3.mp ey)
      refine ⟨0, μ2, sI ν1 70 49 1, C, KK, V, n, M + 1, ?_, ?_, Or.inl ⟨rfl, rfl⟩, by omega, hU2⟩
      · unfold f_UN_bindUnlessInside
        rw [if_neg (not_not_intro (k_eq 7 e7)), w1, b1_s, x1, b1_s, wd_v (by omega) (by omega), hh, b1_s, er, if_neg (by decide)]
      · unfold ocB
        rw [u1, b2_s, ey, if_neg (by decide), b1_s]
  · -- a number or a name
    have ey : y = 0 := u2.resolve_right (fun q => u3.mp q (fun _ => False) (fun _ _ _ _ g _ => g) (fun j hj g => tgt_no ⟨hk, e7⟩ (by omega) g))
    obtain ⟨μ', ν', C', KK', V', e1, e2, e3, e4⟩ := bnd μ (stay μ rfl rfl rfl rfl rfl rfl) ey
    refine ⟨1, μ', ν', C', KK', V', n + 1, M + 1, ?_, e2, Or.inr ⟨rfl, e3⟩, by omega, e4⟩
    unfold f_UN_bindUnlessInside
    rw [if_pos (k_ne 7 e7), e1, b1_s]
end LKB
