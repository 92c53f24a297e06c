section LVB
variable {g cap R : Nat} {has : Nat → Bool} {N S c tr tb nq GT P M : Nat} {φ K τ cm tm gm cs ct : Nat → Nat}
/-- the class's roots: the question's variables, the trail, the goals of choices, those from x0 -/
def rtC (c nq tr n0 : Nat) (cl : Nat → Nat) (x0 : Int32) (g : Nat) (μ : Mu) (i : Nat) : Prop :=
  i < nq ∨ (∃ x, x < tr ∧ μ 42 x = wd i 0) ∨ (∃ j, j < c ∧ inC (μ g) (μ (g + 2)) (cl j) (μ 59 j) i) ∨ inC (μ g) (μ (g + 2)) n0 x0 i
/-- what the tracing gives -/
theorem live_c {U T KK V NM A : Nat → Int32} {μ : Mu} {x0 q0 : Int32} {n0 E : Nat} {cl : Nat → Nat} {HH G GN : Nat → Int32} {ql : Nat → Int32} (hR : cellsR (μ 41) U T KK V NM A N S φ K τ) (hg : gOK g) (hE : E ≤ cap) (hcap : cap < 2 ^ 29) (hgp : gPb g = true) (p1 : μ 40 1 = nI N) (p2 : μ 40 3 = nI tr) (p3 : μ 58 5 = nI c) (hc : c ≤ 300) (htr : tr ≤ 240) (hnq : nq ≤ N) (hKq : ∀ i, i < nq → K i = 1) (htrl : ∀ x, x < tr → ∃ i, i < N ∧ K i = 1 ∧ μ 42 x = wd i 0) (hseen : ∀ p, p < cap → μ (g + 3) p = 0)
    (hch : ∀ j, j < c → cl j < 9030 ∧ chR N φ K (μ g) HH (μ (g + 2)) G GN (cl j) (μ 59 j) (ql j) ∧ (μ 59 j = -1 ∨ ∃ pp, μ 59 j = nI pp ∧ pp < E)) (h0 : n0 < 9030 ∧ chR N φ K (μ g) HH (μ (g + 2)) G GN n0 x0 q0 ∧ (x0 = -1 ∨ ∃ pp, x0 = nI pp ∧ pp < E)) :
    ∃ μ', f_CO_traceLive g cap x0 (nI nq) μ = some μ' ∧ trZ (μ 41) N K μ' ∧ snX g cap E N φ K (-1) μ' ∧ (∀ j x, j < c → μ 59 j = nI x → x < E → μ' (g + 3) x = 1) ∧ (∀ x, x0 = nI x → x < E → μ' (g + 3) x = 1) ∧ (∀ i, i < N → rtC c nq tr n0 cl x0 g μ i → μ' 47 i = 1) ∧ (∀ Q, clo (μ 41) N K Q → (∀ i, i < N → rtC c nq tr n0 cl x0 g μ i → Q i) → ∀ i, i < N → μ' 47 i = 1 → Q i) ∧ (∀ k, k ≠ 46 → k ≠ 47 → k ≠ 48 → k ≠ g + 3 → μ' k = μ k) := by
  have hN := hR.1
  have hgg : g ≠ 46 ∧ g ≠ 47 ∧ g ≠ 48 ∧ g + 2 ≠ 46 ∧ g + 2 ≠ 47 ∧ g + 2 ≠ 48 ∧ g + 3 ≠ 46 ∧ g + 3 ≠ 47 ∧ g + 3 ≠ 48 ∧ g + 3 ≠ 41 ∧ g + 3 ≠ 40 ∧ g + 3 ≠ 42 ∧ g + 3 ≠ 58 ∧ g + 3 ≠ 59 := by unfold gOK at hg; omega
  obtain ⟨μ1, f1, f2, f3⟩ := forget_s (K := K) hN p1 rfl
  have fr1 : ∀ k, k ≠ 46 → k ≠ 47 → μ1 k = μ k := by
    intro k q1 q2
    funext j
    exact fr_TR_forget f1 (by unfold W_TR_forget; omega)
  -- the question's variables
  have L9 : ∀ (d fl i : Nat) (μ1 : Mu), i + d = nq → d < fl → trZ (μ 41) N K μ1 → (∀ k, k ≠ 46 → k ≠ 47 → k ≠ 48 → μ1 k = μ k) → (∀ x, x < i → μ1 47 x = 1) → (∀ Q, clo (μ 41) N K Q → (∀ x, x < nq → Q x) → ∀ x, x < N → μ1 47 x = 1 → Q x) → ∃ μ2, f_CO_traceLive_9 g cap x0 (nI nq) fl (nI i) μ1 = some μ2 ∧ trZ (μ 41) N K μ2 ∧ (∀ k, k ≠ 46 → k ≠ 47 → k ≠ 48 → μ2 k = μ k) ∧ (∀ x, x < nq → μ2 47 x = 1) ∧ (∀ Q, clo (μ 41) N K Q → (∀ x, x < nq → Q x) → ∀ x, x < N → μ2 47 x = 1 → Q x) := by
    intro d
    induction d with
    | zero =>
      intro fl i μ1 h1 h2 h3 h4 h5 h6
      cases fl with
      | zero => omega
      | succ fl =>
      have e : i = nq := by omega
      subst e
      refine ⟨μ1, ?_, h3, h4, h5, h6⟩
      unfold f_CO_traceLive_9
      rw [if_pos (nI_le (Nat.le_refl _) (by omega))]
    | succ d ih =>
      intro fl i μ1 h1 h2 h3 h4 h5 h6
      cases fl with
      | zero => omega
      | succ fl =>
      obtain ⟨μ2, x1, x2, x3, x4, x5⟩ := trace_s hR (t := wd i 0) h3 (Or.inl ⟨i, by omega, Or.inl (hKq i (by omega)), Or.inl rfl⟩)
      obtain ⟨μ3, y1, y2, y3, y4, y5⟩ := ih fl (i + 1) μ2 (by omega) (by omega) x2 (fun k q1 q2 q3 => by
        rw [← h4 k q1 q2 q3]
        funext j
        exact fr_TR_trace x1 (by unfold W_TR_trace; omega)) (fun x hx => by
        by_cases e : x = i
        · subst e; exact x4 x (by omega) (Or.inl rfl)
        · exact x3 x (by omega) (h5 x (by omega))) (fun Q q1 q2 => x5 Q q1 (fun j hj q => by
          rw [← tgt_u (i := i) (Or.inl rfl) q (by omega) (by omega)]; exact q2 i (by omega)) (h6 Q q1 q2))
      refine ⟨μ3, ?_, y2, y3, y4, y5⟩
      unfold f_CO_traceLive_9
      rw [if_neg (nI_ge (by omega) (by omega)), wd_shl (by omega), x1, b1_s, nI_1]
      exact y1
  obtain ⟨μ2, a1, a2, a3, a4, a5⟩ := L9 nq fu 0 μ1 (by omega) (by unfold fu; omega) f2 (fun k q1 q2 q3 => fr1 k q1 q2) (fun x hx => by omega) (fun Q q1 q2 x hx q => by rw [f3 x hx] at q; exact absurd q (by decide))
  -- the trail
  have L32 : ∀ (d fl i : Nat) (μ1 : Mu), i + d = tr → d < fl → trZ (μ 41) N K μ1 → (∀ k, k ≠ 46 → k ≠ 47 → k ≠ 48 → μ1 k = μ k) → (∀ x, x < nq → μ1 47 x = 1) → (∀ y x, y < i → x < N → μ 42 y = wd x 0 → μ1 47 x = 1) → (∀ Q, clo (μ 41) N K Q → (∀ x, x < nq → Q x) → (∀ y x, y < tr → x < N → μ 42 y = wd x 0 → Q x) → ∀ x, x < N → μ1 47 x = 1 → Q x) → ∃ μ2, f_CO_traceLive_32 g cap x0 fl (nI i) μ1 = some μ2 ∧ trZ (μ 41) N K μ2 ∧ (∀ k, k ≠ 46 → k ≠ 47 → k ≠ 48 → μ2 k = μ k) ∧ (∀ x, x < nq → μ2 47 x = 1) ∧ (∀ y x, y < tr → x < N → μ 42 y = wd x 0 → μ2 47 x = 1) ∧ (∀ Q, clo (μ 41) N K Q → (∀ x, x < nq → Q x) → (∀ y x, y < tr → x < N → μ 42 y = wd x 0 → Q x) → ∀ x, x < N → μ2 47 x = 1 → Q x) := by
    intro d
    induction d with
    | zero =>
      intro fl i μ1 h1 h2 h3 h4 h5 h6 h7
      cases fl with
      | zero => omega
      | succ fl =>
      have e : i = tr := by omega
      subst e
      refine ⟨μ1, ?_, h3, h4, h5, h6, h7⟩
      unfold f_CO_traceLive_32
      rw [h4 40 (by decide) (by decide) (by decide), p2, if_pos (nI_le (Nat.le_refl _) (by omega))]
    | succ d ih =>
      intro fl i μ1 h1 h2 h3 h4 h5 h6 h7
      cases fl with
      | zero => omega
      | succ fl =>
      obtain ⟨v, v1, v2, v3⟩ := htrl i (by omega)
      obtain ⟨μ2, x1, x2, x3, x4, x5⟩ := trace_s hR (t := wd v 0) h3 (Or.inl ⟨v, v1, Or.inl v2, Or.inl rfl⟩)
      obtain ⟨μ3, y1, y2, y3, y4, y5, y6⟩ := ih fl (i + 1) μ2 (by omega) (by omega) x2 (fun k q1 q2 q3 => by
        rw [← h4 k q1 q2 q3]
        funext j
        exact fr_TR_trace x1 (by unfold W_TR_trace; omega)) (fun x hx => x3 x (by omega) (h5 x hx)) (fun y x hy hx q => by
        by_cases e : y = i
        · subst e
          rw [v3] at q
          exact x4 x hx (Or.inl q)
        · exact x3 x hx (h6 y x (by omega) hx q)) (fun Q q1 q2 q3 => x5 Q q1 (fun j hj q => by
          rw [← tgt_u (i := v) (Or.inl rfl) q (by omega) (by omega)]; exact q3 i v (by omega) v1 v3) (h7 Q q1 q2 q3))
      refine ⟨μ3, ?_, y2, y3, y4, y5, y6⟩
      unfold f_CO_traceLive_32
      rw [h4 40 (by decide) (by decide) (by decide), p2, if_neg (nI_ge (by omega) (by omega)), h4 42 (by decide) (by decide) (by decide), rd_n (by omega) (by decide), b1_s, v3, x1, b1_s, nI_1]
      exact y1
  obtain ⟨μ3, b1', b2', b3, b4, b5, b6⟩ := L32 tr fu 0 μ2 (by omega) (by unfold fu; omega) a2 a3 a4 (fun y x hy => by omega) (fun Q q1 q2 _ => a5 Q q1 q2)
  -- the goals of choices
  have L67 : ∀ (d fl i : Nat) (μ1 : Mu), i + d = c → d < fl → trZ (μ 41) N K μ1 → snX g cap E N φ K (-1) μ1 → (∀ k, k ≠ 46 → k ≠ 47 → k ≠ 48 → k ≠ g + 3 → μ1 k = μ k) → (∀ x, x < N → μ3 47 x = 1 → μ1 47 x = 1) → (∀ j x, j < i → μ 59 j = nI x → x < E → μ1 (g + 3) x = 1) → (∀ j x, j < i → x < N → inC (μ g) (μ (g + 2)) (cl j) (μ 59 j) x → μ1 47 x = 1) → (∀ Q, clo (μ 41) N K Q → (∀ x, x < N → μ3 47 x = 1 → Q x) → (∀ j x, j < c → x < N → inC (μ g) (μ (g + 2)) (cl j) (μ 59 j) x → Q x) → ∀ x, x < N → μ1 47 x = 1 → Q x) → ∃ μ2, f_CO_traceLive_67 g cap x0 fl (nI i) μ1 = some μ2 ∧ trZ (μ 41) N K μ2 ∧ snX g cap E N φ K (-1) μ2 ∧ (∀ k, k ≠ 46 → k ≠ 47 → k ≠ 48 → k ≠ g + 3 → μ2 k = μ k) ∧ (∀ x, x < N → μ3 47 x = 1 → μ2 47 x = 1) ∧ (∀ j x, j < c → μ 59 j = nI x → x < E → μ2 (g + 3) x = 1) ∧ (∀ j x, j < c → x < N → inC (μ g) (μ (g + 2)) (cl j) (μ 59 j) x → μ2 47 x = 1) ∧ (∀ Q, clo (μ 41) N K Q → (∀ x, x < N → μ3 47 x = 1 → Q x) → (∀ j x, j < c → x < N → inC (μ g) (μ (g + 2)) (cl j) (μ 59 j) x → Q x) → ∀ x, x < N → μ2 47 x = 1 → Q x) := by
    intro d
    induction d with
    | zero =>
      intro fl i μ1 h1 h2 h3 h4 h5 h6 h7 h8 h9
      cases fl with
      | zero => omega
      | succ fl =>
      have e : i = c := by omega
      subst e
      refine ⟨μ1, ?_, h3, h4, h5, h6, h7, h8, h9⟩
      unfold f_CO_traceLive_67
      rw [h5 58 (by decide) (by decide) (by decide) (by omega), p3, if_pos (nI_le (Nat.le_refl _) (by omega))]
    | succ d ih =>
      intro fl i μ1 h1 h2 h3 h4 h5 h6 h7 h8 h9
      cases fl with
      | zero => omega
      | succ fl =>
      obtain ⟨z1, z2, z3⟩ := hch i (by omega)
      have rg : μ1 g = μ g := h5 g (by omega) (by omega) (by omega) (by omega)
      have rg2 : μ1 (g + 2) = μ (g + 2) := h5 (g + 2) (by omega) (by omega) (by omega) (by omega)
      have hs' : snX g cap E N φ K (μ 59 i) μ1 := by
        refine ⟨h4.1, fun p hp hp1 => ?_⟩
        obtain ⟨s1, s2, s3, s4⟩ := h4.2 p hp hp1
        refine ⟨s1, s2, s3, fun q q1 q2 q3 => ?_⟩
        rcases s4 q q1 q2 q3 with w | w
        · exact Or.inl w
        · rw [w] at q2
          have := congrArg Int32.toInt q2
          rw [nI_toInt (by omega), show (-1 : Int32).toInt = -1 by decide] at this
          omega
      obtain ⟨μ2, x1, x2, x3, x4, x5, x6, x7, x8, x9, x10⟩ := tg_l (g := g) (cap := cap) (E := E) hR hg hE hcap (cl i) fu 0 (μ 59 i) (ql i) HH G GN μ1 (by rw [rg, rg2]; exact z2) z3 (by omega) (by unfold fu; omega) h3 hs'
      rw [rg, rg2] at x7 x8
      obtain ⟨μ4, y1, y2, y3, y4, y5, y6, y7, y8⟩ := ih fl (i + 1) μ2 (by omega) (by omega) x2 x3 (fun k q1 q2 q3 q4 => by rw [x9 k q1 q2 q3 q4, h5 k q1 q2 q3 q4]) (fun x hx q => x4 x hx (h6 x hx q)) (fun j x hj q1 q2 => by
        by_cases e : j = i
        · subst e; exact x6 x q1 q2
        · exact x5 x (by omega) (h7 j x (by omega) q1 q2)) (fun j x hj hx q => by
        by_cases e : j = i
        · subst e; exact x7 x hx q
        · exact x4 x hx (h8 j x (by omega) hx q)) (fun Q q1 q2 q3 => x8 Q q1 (fun x hx q => q3 i x (by omega) hx q) (h9 Q q1 q2 q3))
      refine ⟨μ4, ?_, y2, y3, y4, y5, y6, y7, y8⟩
      rw [f_CO_traceLive_67]
      rw [h5 58 (by decide) (by decide) (by decide) (by omega), p3, if_neg (nI_ge (by omega) (by omega)), h5 59 (by decide) (by decide) (by decide) (by omega), rd_n (by omega) (by decide), b1_s]
      unfold f_CO_traceGoals
      rw [if_pos hgp, show f_CO_traceGoals_4 g cap fu (μ 59 i) 0 μ1 = some μ2 from x1, b1_s, b1_s, nI_1]
      exact y1
  have hs3 : snX g cap E N φ K (-1) μ3 := by
    have e : μ3 (g + 3) = μ (g + 3) := b3 (g + 3) (by omega) (by omega) (by omega)
    refine ⟨fun p hp => Or.inl (by rw [e]; exact hseen p hp), fun p hp q => ?_⟩
    rw [e, hseen p hp] at q
    exact absurd q (by decide)
  obtain ⟨μ4, c1, c2, c3, c4, c5, c6, c7, c8⟩ := L67 c fu 0 μ3 (by omega) (by unfold fu; omega) b2' hs3 (fun k q1 q2 q3 _ => b3 k q1 q2 q3) (fun _ _ q => q) (fun j x hj => by omega) (fun j x hj => by omega) (fun Q q1 q2 _ => q2)
  -- the goals from x0
  obtain ⟨z1, z2, z3⟩ := h0
  have rg : μ4 g = μ g := c4 g (by omega) (by omega) (by omega) (by omega)
  have rg2 : μ4 (g + 2) = μ (g + 2) := c4 (g + 2) (by omega) (by omega) (by omega) (by omega)
  have hs' : snX g cap E N φ K x0 μ4 := by
    refine ⟨c3.1, fun p hp hp1 => ?_⟩
    obtain ⟨s1, s2, s3, s4⟩ := c3.2 p hp hp1
    refine ⟨s1, s2, s3, fun q q1 q2 q3 => ?_⟩
    rcases s4 q q1 q2 q3 with w | w
    · exact Or.inl w
    · rw [w] at q2
      have := congrArg Int32.toInt q2
      rw [nI_toInt (by omega), show (-1 : Int32).toInt = -1 by decide] at this
      omega
  obtain ⟨μ5, x1, x2, x3, x4, x5, x6, x7, x8, x9, x10⟩ := tg_l (g := g) (cap := cap) (E := E) hR hg hE hcap n0 fu 0 x0 q0 HH G GN μ4 (by rw [rg, rg2]; exact z2) z3 (by omega) (by unfold fu; omega) c2 hs'
  rw [rg, rg2] at x7 x8
  refine ⟨μ5, ?_, x2, x3, fun j x hj q1 q2 => x5 x (by omega) (c6 j x hj q1 q2), x6, fun i hi q => ?_, fun Q q1 q2 => ?_, fun k q1 q2 q3 q4 => by rw [x9 k q1 q2 q3 q4, c4 k q1 q2 q3 q4]⟩
  · unfold f_CO_traceLive
    rw [f1, b1_s, show f_CO_traceLive_9 g cap x0 (nI nq) fu 0 μ1 = some μ2 from a1, b1_s, show f_CO_traceLive_32 g cap x0 fu 0 μ2 = some μ3 from b1', b1_s, show f_CO_traceLive_67 g cap x0 fu 0 μ3 = some μ4 from c1, b1_s]
    unfold f_CO_traceGoals
    rw [if_pos hgp, show f_CO_traceGoals_4 g cap fu x0 0 μ4 = some μ5 from x1, b1_s, b1_s]
  · rcases q with q | ⟨x, q, q'⟩ | ⟨j, q, q'⟩ | q
    · exact x4 i hi (c5 i hi (b4 i q))
    · exact x4 i hi (c5 i hi (b5 x i q hi q'))
    · exact x4 i hi (c7 j i q hi q')
    · exact x7 i hi q
  · exact x8 Q q1 (fun i hi q => q2 i hi (Or.inr (Or.inr (Or.inr q)))) (c8 Q q1 (b6 Q q1 (fun x hx => q2 x (by omega) (Or.inl hx)) (fun y x hy hx q => q2 x hx (Or.inr (Or.inl ⟨y, hy, q⟩)))) (fun j x hj hx q => q2 x hx (Or.inr (Or.inr (Or.inl ⟨j, hj, q⟩)))))
end LVB
