/-! a collection: what lives, by the class and by the reference -/
section LVA
variable {C U T KK V NM A : Nat → Int32} {N S : Nat} {φ K τ : Nat → Nat}
/-- structure i is a goal's term, among n goals from p -/
def inC (TT BB : Nat → Int32) : Nat → Int32 → Nat → Prop
  | 0, _, _ => False
  | n + 1, p, i => ∃ pp, pp < 2 ^ 29 ∧ p = nI pp ∧ (TT pp = wd i 7 ∨ inC TT BB n (BB pp) i)
theorem chR_i (hN : N ≤ 240) {TT HH BB G GN : Nat → Int32} (n : Nat) : ∀ (p q : Int32), chR N φ K TT HH BB G GN n p q → ∀ i, i < 240 → inC TT BB n p i → i < N ∧ K i = 2 := by
  induction n with
  | zero => intro p q h i _ hi; exact absurd hi id
  | succ n ih =>
    intro p q h i h240 hi
    obtain ⟨pp, gg, e1, e2, e3, e4, ⟨x, x1, x2, x3⟩, e6, e7, e8⟩ := h
    obtain ⟨pp', f0, f1, f2⟩ := hi
    rw [e1] at f1
    have := (nI_eq (by omega) (by omega)).mp f1
    subst this
    rcases f2 with f2 | f2
    · rcases x3 with ⟨a, a1, a2, -⟩ | ⟨j, j1, j2, -, j3, -⟩ | ⟨a2, -⟩
      · have := ((wd_eq (by omega) (by omega) (by omega) (by omega)).mp (f2.symm.trans a2)).2
        omega
      · have := ((wd_eq (by omega) (by omega) (by omega) (by omega)).mp (f2.symm.trans j3)).1
        subst this
        exact ⟨j1, j2⟩
      · have := ((wd_eq (by omega) (by omega) (by omega) (by omega)).mp (f2.symm.trans a2)).2
        omega
    · exact ih _ _ e8 i h240 f2
/-- goR names its cell -/
theorem goR_t (hN : N ≤ 240) {t hh gw : Int32} (h : goR N φ K t hh gw) : (∃ i, i < N ∧ K i = 2 ∧ t = wd i 7) ∨ (kd t ≠ 0 ∧ kd t ≠ 7) := by
  obtain ⟨x, -, -, ⟨a, a1, a2, -⟩ | ⟨j, j1, j2, -, j3, -⟩ | ⟨a2, -⟩⟩ := h
  · exact Or.inr ⟨by rw [a2, kd_wd (by omega) (by omega)]; omega, by rw [a2, kd_wd (by omega) (by omega)]; omega⟩
  · exact Or.inl ⟨j, j1, j2, j3⟩
  · exact Or.inr ⟨by rw [a2, kd_wd (by omega) (by omega)]; omega, by rw [a2, kd_wd (by omega) (by omega)]; omega⟩
/-- the goals that were seen; those behind them are, but for what lies at X -/
def snX (g cap E N : Nat) (φ K : Nat → Nat) (X : Int32) (μ : Mu) : Prop :=
  (∀ p, p < cap → μ (g + 3) p = 0 ∨ μ (g + 3) p = 1) ∧ ∀ p, p < cap → μ (g + 3) p = 1 → p < E ∧ (∃ gw hh, goR N φ K (μ g p) hh gw) ∧ (∀ i, i < N → μ g p = wd i 7 → μ 47 i = 1) ∧ (∀ q, q < 2 ^ 29 → μ (g + 2) p = nI q → q < cap → μ (g + 3) q = 1 ∨ μ (g + 2) p = X)
theorem sn_ch {g cap E : Nat} {HH G GN : Nat → Int32} {μ : Mu} (hE : E ≤ cap) (hN : N ≤ 240) (hs : snX g cap E N φ K (-1) μ) (n : Nat) : ∀ (p q : Int32) (pp : Nat), chR N φ K (μ g) HH (μ (g + 2)) G GN n p q → p = nI pp → pp < E → E < 2 ^ 29 → μ (g + 3) pp = 1 → ∀ i, i < N → inC (μ g) (μ (g + 2)) n p i → μ 47 i = 1 := by
  induction n with
  | zero => intro p q pp h _ _ _ _ i _ hi; exact absurd hi id
  | succ n ih =>
    intro p q pp h hp hpE hE2 hse i hi hin
    obtain ⟨pp', gg, e1, e2, e3, e4, e5, e6, e7, e8⟩ := h
    rw [hp] at e1
    have := (nI_eq (by omega) (by omega)).mp e1
    subst this
    obtain ⟨s1, s2, s3, s4⟩ := hs.2 pp (by omega) hse
    obtain ⟨p2, f0, f1, f2⟩ := hin
    rw [hp] at f1
    have := (nI_eq (by omega) (by omega)).mp f1
    subst this
    rcases f2 with f2 | f2
    · exact s3 i hi f2
    · cases n with
      | zero => exact absurd f2 id
      | succ n =>
        have e8' := e8
        obtain ⟨pp2, gg2, y1, y2, y3, y4, -⟩ := e8
        have hlt := e6 pp2 y3 y1
        rcases s4 pp2 y3 y1 (by omega) with w | w
        · exact ih _ _ pp2 e8' y1 (by omega) hE2 w i hi f2
        · rw [y1] at w
          have := congrArg Int32.toInt w
          rw [nI_toInt (by omega), show (-1 : Int32).toInt = -1 by decide] at this
          omega
theorem tg_l {g cap E : Nat} (hR : cellsR C U T KK V NM A N S φ K τ) (hg : gOK g) (hE : E ≤ cap) (hcap : cap < 2 ^ 29) (n : Nat) : ∀ (fl y : Nat) (p q : Int32) (HH G GN : Nat → Int32) (μ : Mu), chR N φ K (μ g) HH (μ (g + 2)) G GN n p q → (p = -1 ∨ ∃ pp, p = nI pp ∧ pp < E) → y + n < 9030 → n < fl → trZ C N K μ → snX g cap E N φ K p μ →
    ∃ μ', f_CO_traceGoals_4 g cap fl p (nI y) μ = some μ' ∧ trZ C N K μ' ∧ snX g cap E N φ K (-1) μ' ∧ (∀ i, i < N → μ 47 i = 1 → μ' 47 i = 1) ∧ (∀ x, x < cap → μ (g + 3) x = 1 → μ' (g + 3) x = 1) ∧ (∀ x, p = nI x → x < E → μ' (g + 3) x = 1) ∧ (∀ i, i < N → inC (μ g) (μ (g + 2)) n p i → μ' 47 i = 1) ∧ (∀ P, clo C N K P → (∀ i, i < N → inC (μ g) (μ (g + 2)) n p i → P i) → (∀ i, i < N → μ 47 i = 1 → P i) → ∀ i, i < N → μ' 47 i = 1 → P i) ∧ (∀ k, k ≠ 46 → k ≠ 47 → k ≠ 48 → k ≠ g + 3 → μ' k = μ k) ∧ (∀ j, j ≠ 3 → μ' 46 j = μ 46 j) := by
  have hN := hR.1
  have hgg : g ≠ 46 ∧ g ≠ 47 ∧ g ≠ 48 ∧ g + 2 ≠ 46 ∧ g + 2 ≠ 47 ∧ g + 2 ≠ 48 ∧ g + 3 ≠ 46 ∧ g + 3 ≠ 47 ∧ g + 3 ≠ 48 ∧ g + 3 ≠ 41 ∧ g + 3 ≠ 40 := by unfold gOK at hg; omega
  induction n with
  | zero =>
    intro fl y p q HH G GN μ hch hp hy hfl hz hs
    cases fl with
    | zero => omega
    | succ fl =>
    obtain ⟨e1, e2⟩ := hch
    subst e1
    refine ⟨μ, ?_, hz, hs, fun _ _ q => q, fun _ _ q => q, fun x q1 q2 => ?_, fun i _ q => absurd q id, fun P p1 p2 p3 => p3, fun _ _ _ _ _ => rfl, fun _ _ => rfl⟩
    · unfold f_CO_traceGoals_4
      rw [if_neg (show ¬ 9030 ≤ nI y from nI_ge (b := 9030) (by omega) (by decide)), if_pos (by decide)]
    · have := congrArg Int32.toInt q1
      rw [nI_toInt (by omega), show (-1 : Int32).toInt = -1 by decide] at this
      omega
  | succ n ih =>
    intro fl y p q HH G GN μ hch hp hy hfl hz hs
    cases fl with
    | zero => omega
    | succ fl =>
    have hch0 := hch
    obtain ⟨pp, gg, e1, e2, e3, e4, e5, e6, e7, e8⟩ := hch
    have hppE : pp < E := by
      rcases hp with w | ⟨x, w1, w2⟩
      · rw [e1] at w
        have := congrArg Int32.toInt w
        rw [nI_toInt (by omega), show (-1 : Int32).toInt = -1 by decide] at this
        omega
      · rw [e1] at w1
        have := (nI_eq (by omega) (by omega)).mp w1
        omega
    have hun : ∀ v3, μ (g + 3) pp = v3 → f_CO_traceGoals_4 g cap (fl + 1) p (nI y) μ = (if ¬ v3 = 0 then some μ else (b1 (wz μ (g + 3) cap (nI pp) 1) fun μ6 => b1 (rd (μ6 g) cap (nI pp)) fun v9 => b1 (if ¬ (v9 &&& 7) = 7 then some μ6 else b1 (f_TR_trace v9 μ6) fun μ16 => some μ16) fun μ11 => b1 (rd (μ11 (g + 2)) cap (nI pp)) fun v19 => f_CO_traceGoals_4 g cap fl v19 (nI (y + 1)) μ11)) := by
      intro v3 h3
      rw [f_CO_traceGoals_4]
      rw [if_neg (show ¬ 9030 ≤ nI y from nI_ge (b := 9030) (by omega) (by decide)), e1, if_neg (nI_pos (by omega)), rd_n (by omega) (by omega), b1_s, h3, nI_1]
    rcases hs.1 pp (by omega) with hse | hse
    · -- not seen yet
      have hrow : sI μ (g + 3) pp 1 g = μ g := sI_nk (by omega)
      -- the trace of the term
      have htr : ∃ μ11, (if ¬ (μ g pp &&& 7) = 7 then some (sI μ (g + 3) pp 1) else b1 (f_TR_trace (μ g pp) (sI μ (g + 3) pp 1)) fun μ16 => some μ16) = some μ11 ∧ trZ C N K μ11 ∧ (∀ i, i < N → μ 47 i = 1 → μ11 47 i = 1) ∧ (∀ i, i < N → μ g pp = wd i 7 → μ11 47 i = 1) ∧ (∀ P, clo C N K P → (∀ i, i < N → μ g pp = wd i 7 → P i) → (∀ i, i < N → μ 47 i = 1 → P i) → ∀ i, i < N → μ11 47 i = 1 → P i) ∧ (∀ k, k ≠ 46 → k ≠ 47 → k ≠ 48 → μ11 k = sI μ (g + 3) pp 1 k) ∧ (∀ j, j ≠ 3 → μ11 46 j = μ 46 j) := by
        have hz1 : trZ C N K (sI μ (g + 3) pp 1) := by
          unfold trZ
          rw [sI_nk (show 41 ≠ g + 3 by omega), sI_nk (show 46 ≠ g + 3 by omega), sI_nk (show 47 ≠ g + 3 by omega)]
          exact hz
        have h47 : sI μ (g + 3) pp 1 47 = μ 47 := sI_nk (by omega)
        rcases goR_t hN e5 with ⟨i, i1, i2, i3⟩ | hk
        · have hk7 : kd (μ g pp) = 7 := by rw [i3, kd_wd (by omega) (by omega)]
          obtain ⟨μ2, x1, x2, x3, x4, x5⟩ := trace_s hR (t := μ g pp) hz1 (Or.inl ⟨i, i1, Or.inr i2, Or.inr i3⟩)
          refine ⟨μ2, by rw [if_neg (not_not_intro (k_eq 7 hk7)), x1, b1_s], x2, fun j hj q => x3 j hj (by rw [h47]; exact q), fun j hj q => x4 j hj (Or.inr q), fun P p1 p2 p3 => x5 P p1 (fun j hj q => ?_) (fun j hj q => p3 j hj (by rw [h47] at q; exact q)), fun k q1 q2 q3 => ?_, fun j hj => ?_⟩
          · rcases q with q | q
            · rw [i3] at q
              have := ((wd_eq (by omega) (by omega) (by omega) (by omega)).mp q).2
              omega
            · exact p2 j hj q
          · funext j
            exact fr_TR_trace x1 (by unfold W_TR_trace; omega)
          · rw [fr_TR_trace x1 (by unfold W_TR_trace; omega), sI_nk (by omega)]
        · refine ⟨sI μ (g + 3) pp 1, by rw [if_pos (k_ne 7 hk.2)], hz1, fun j hj q => by rw [h47]; exact q, fun j hj q => ?_, fun P p1 p2 p3 i hi q => p3 i hi (by rw [h47] at q; exact q), fun k _ _ _ => rfl, fun j hj => by rw [sI_nk (by omega)]⟩
          rw [q, kd_wd (by omega) (by omega)] at hk
          omega
      obtain ⟨μ11, a1, a2, a3, a4, a5, a6, a7⟩ := htr
      have r0 : μ11 g = μ g := by rw [a6 g (by omega) (by omega) (by omega)]; exact hrow
      have r2 : μ11 (g + 2) = μ (g + 2) := by rw [a6 (g + 2) (by omega) (by omega) (by omega)]; exact sI_nk (by omega)
      have r3 : μ11 (g + 3) = upd (μ (g + 3)) pp 1 := by rw [a6 (g + 3) (by omega) (by omega) (by omega)]; exact sI_r
      have hs1 : snX g cap E N φ K (μ (g + 2) pp) μ11 := by
        unfold snX
        rw [r0, r2, r3]
        refine ⟨fun x hx => ?_, fun x hx hx1 => ?_⟩
        · by_cases e : x = pp
          · subst e; exact Or.inr upd_a
          · rw [upd_n e]; exact hs.1 x hx
        · by_cases e : x = pp
          · subst e
            exact ⟨hppE, ⟨_, _, e5⟩, a4, fun q _ _ _ => Or.inr rfl⟩
          · rw [upd_n e] at hx1
            obtain ⟨s1, s2, s3, s4⟩ := hs.2 x hx hx1
            refine ⟨s1, s2, fun i hi q => a3 i hi (s3 i hi q), fun q q1 q2 q3 => ?_⟩
            rcases s4 q q1 q2 q3 with w | w
            · left
              by_cases eq : q = pp
              · subst eq; exact upd_a
              · rw [upd_n eq]; exact w
            · left
              rw [w, e1] at q2
              have := (nI_eq (by omega) (by omega)).mp q2
              subst this
              exact upd_a
      obtain ⟨μ', u1, u2, u3, u4, u5, u6, u7, u8, u9, u10⟩ := ih fl (y + 1) (μ (g + 2) pp) (GN gg) HH G GN μ11 (by rw [r0, r2]; exact e8) (by
        cases n with
        | zero => exact Or.inl e8.1
        | succ n =>
          obtain ⟨p2, g2, y1, y2, y3, -⟩ := e8
          exact Or.inr ⟨p2, y1, by have := e6 p2 y3 y1; omega⟩) (by omega) (by omega) a2 hs1
      rw [r0, r2] at u7 u8
      refine ⟨μ', ?_, u2, u3, fun i hi q => u4 i hi (a3 i hi q), fun x hx q => u5 x hx ?_, fun x q1 q2 => ?_, fun i hi q => ?_, fun P p1 p2 p3 => u8 P p1 (fun i hi q => p2 i hi ⟨pp, e3, e1, Or.inr q⟩) (a5 P p1 (fun i hi q => p2 i hi ⟨pp, e3, e1, Or.inl q⟩) p3), fun k q1 q2 q3 q4 => ?_, fun j hj => by rw [u10 j hj, a7 j hj]⟩
      · rw [hun 0 hse, if_neg (not_not_intro rfl), wz_n (by omega) (by omega) (Or.inr rfl), b1_s, hrow, rd_n (by omega) (by omega), b1_s, a1, b1_s, r2, rd_n (by omega) (by omega), b1_s]
        exact u1
      · rw [r3]
        by_cases e : x = pp
        · subst e; exact upd_a
        · rw [upd_n e]; exact q
      · rw [e1] at q1
        have := (nI_eq (by omega) (by omega)).mp q1
        subst this
        exact u5 pp (by omega) (by rw [r3]; exact upd_a)
      · obtain ⟨p2, f0, f1, f2⟩ := q
        rw [e1] at f1
        have := (nI_eq (by omega) (by omega)).mp f1
        subst this
        rcases f2 with f2 | f2
        · exact u4 i hi (a4 i hi f2)
        · exact u7 i hi f2
      · rw [u9 k q1 q2 q3 q4, a6 k q1 q2 q3, sI_nk q4]
    · -- seen before
      have hs1 : snX g cap E N φ K (-1) μ := by
        refine ⟨hs.1, fun x hx hx1 => ?_⟩
        obtain ⟨s1, s2, s3, s4⟩ := hs.2 x hx hx1
        refine ⟨s1, s2, s3, fun q q1 q2 q3 => ?_⟩
        rcases s4 q q1 q2 q3 with w | w
        · exact Or.inl w
        · left
          rw [w, e1] at q2
          have := (nI_eq (by omega) (by omega)).mp q2
          subst this
          exact hse
      refine ⟨μ, ?_, hz, hs1, fun _ _ q => q, fun _ _ q => q, fun x q1 q2 => ?_, ?_, fun P p1 p2 p3 => p3, fun _ _ _ _ _ => rfl, fun _ _ => rfl⟩
      · rw [hun 1 hse, if_pos (by decide)]
      · rw [e1] at q1
        have := (nI_eq (by omega) (by omega)).mp q1
        subst this
        exact hse
      · exact sn_ch hE hN hs1 (n + 1) p q pp hch0 e1 hppE (by omega) hse
end LVA
