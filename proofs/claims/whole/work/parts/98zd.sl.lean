/-! solve -/
section SLA
def typR (μ ν : Mu) : Prop := ∃ tn, tn ≤ 30 ∧ μ 1 1 = nI tn ∧ ν 70 1 = nI tn ∧ ∀ j, j < tn → μ 2 j = ν 71 j ∧ wOK (μ 2 j)
theorem typR_c {μ ν μ' ν' : Mu} (h : typR μ ν) (h1 : μ' 1 1 = μ 1 1) (h2 : μ' 2 = μ 2) (h3 : ν' 70 1 = ν 70 1) (h4 : ν' 71 = ν 71) : typR μ' ν' := by
  unfold typR
  rw [h1, h2, h3, h4]
  exact h
/-- all but the search -/
def baR (R t : Nat) (μ ν : Mu) : Prop := typR μ ν ∧ rulR R μ ν ∧ t ≤ 300 ∧ μ 37 12 = nI t ∧ ν 70 27 = nI t ∧ μ 64 5 = ν 70 28
def BS : Nat := 200000
def glR (z n : Nat) (acc : Nat × Nat) (g cap : Nat) (μ ν : Mu) : Prop := alR n acc g cap (98 + z) (BS + 6 * z) ∧ ∃ R t, baR R t μ ν ∧ stR g cap R t z μ ν
theorem sol_l {R z B1 B2 K : Nat} (hz : z ≤ 2000) (hK : K ≤ 20) (d : Nat) : ∀ (f1 f2 i y n t g cap : Nat) (acc : Nat × Nat) (μ ν : Mu), i + d = K → d < f1 → d < f2 → y ≤ 1 → alR n acc g cap B1 B2 → baR R t μ ν → stR g cap R t z μ ν → ν 70 0 = 0 →
    ∃ (rr n' : Nat) (acc' : Nat × Nat) (g' cap' t' : Nat) (μ' ν' : Mu), f_GE_solve_42 (nI K) f1 (nI y) (nI i) n acc g cap μ = some (nI rr, n', acc', g', cap', μ') ∧ f_MO_solve_40 (nI K) f2 (nI i) ν = some ν' ∧ alR n' acc' g' cap' B1 B2 ∧ baR R t' μ' ν' ∧ stR g' cap' R t' z μ' ν' ∧ ((rr ≤ 1 ∧ ν' 70 0 = 0) ∨ (2 ≤ rr ∧ rr ≤ 3 ∧ ν' 70 0 = nI (rr + 1))) := by
  induction d with
  | zero =>
    intro f1 f2 i y n t g cap acc μ ν h1 h2 h3 hy ha hb hs h0
    cases f1 with
    | zero => omega
    | succ f1 =>
    cases f2 with
    | zero => omega
    | succ f2 =>
    refine ⟨y, n, acc, g, cap, t, μ, ν, ?_, ?_, ha, hb, hs, Or.inl ⟨hy, h0⟩⟩
    · unfold f_GE_solve_42
      rw [if_pos (nI_le (by omega) (by omega))]
    · unfold f_MO_solve_40
      rw [if_pos (nI_le (by omega) (by omega))]
  | succ d ih =>
    intro f1 f2 i y n t g cap acc μ ν h1 h2 h3 hy ha hb hs h0
    cases f1 with
    | zero => omega
    | succ f1 =>
    cases f2 with
    | zero => omega
    | succ f2 =>
    have hki : ¬ nI K ≤ nI i := nI_ge (by omega) (by omega)
    -- no step can be done
    have halt : f_SE_canStep μ = some 0 → ((ν 70 25 = 0) ∨ (ν 70 25 = 1 ∧ ν 70 26 = 1) ∨ (ν 70 25 = 1 ∧ ν 70 26 = 0 ∧ ν 70 27 ≤ 0)) → ∃ (rr n' : Nat) (acc' : Nat × Nat) (g' cap' t' : Nat) (μ' ν' : Mu), f_GE_solve_42 (nI K) (f1 + 1) (nI y) (nI i) n acc g cap μ = some (nI rr, n', acc', g', cap', μ') ∧ f_MO_solve_40 (nI K) (f2 + 1) (nI i) ν = some ν' ∧ alR n' acc' g' cap' B1 B2 ∧ baR R t' μ' ν' ∧ stR g' cap' R t' z μ' ν' ∧ ((rr ≤ 1 ∧ ν' 70 0 = 0) ∨ (2 ≤ rr ∧ rr ≤ 3 ∧ ν' 70 0 = nI (rr + 1))) := by
      intro q1 q2
      refine ⟨y, n, acc, g, cap, t, μ, ν, ?_, ?_, ha, hb, hs, Or.inl ⟨hy, h0⟩⟩
      · unfold f_GE_solve_42
        rw [if_neg hki, q1, b1_s, if_pos rfl]
      · unfold f_MO_solve_40
        rw [if_neg hki, if_neg (not_not_intro h0)]
        rcases q2 with q | ⟨q, q'⟩ | ⟨q, q', q''⟩
        · rw [if_pos q]
        · rw [if_neg (by rw [q]; decide), if_pos (by rw [q']; decide)]
        · rw [if_neg (by rw [q]; decide), if_neg (not_not_intro q'), if_pos q'']
    obtain ⟨hty, hru, ht3, ht1, ht2, hco⟩ := id hb
    rcases hs with ⟨s1, s2, -⟩ | ⟨s1, s2, s3, s4, pp, s5, s6⟩ | ⟨s1, s2, s3, -⟩
    · exact halt (by unfold f_SE_canStep; rw [if_pos (by rw [s1]; decide)]) (Or.inl s2.1)
    · by_cases e0 : t = 0
      · subst e0
        refine halt ?_ (Or.inr (Or.inr ⟨s2, s3, by rw [ht2]; decide⟩))
        unfold f_SE_canStep
        rw [if_neg (not_not_intro s1), ht1, if_pos (by decide)]
      · -- a step
        obtain ⟨t0, et⟩ : ∃ t0, t = t0 + 1 := ⟨t - 1, by omega⟩
        subst et
        obtain ⟨has, N, S, c, tr, tb, nq, GT, P, M, φ, K', τ, cm, tm, gm, cs, ct, hact, b1', b2', b3, b4, b5⟩ := s4
        have hR16 := hru.1
        have hpot := hact.2.2.2.2.2.2.2.2.2.2.2.2.1
        have hcu := hact.2.2.2.2.2.2.2.2.2.1
        rcases cur_e hcu with ⟨c1, -⟩ | ⟨pp2, gg, m, c1, c2, c3, c4, c5⟩
        · rw [s6] at c1; exact absurd c1.symm (n_m1 (by omega))
        · have hppb : pp2 < cap ∧ pp2 < GT := by
            rcases hcu.2.1 with w | ⟨x, w1, w2, w3⟩
            · rw [c3] at w; exact absurd w.symm (n_m1 (by omega))
            · rw [c3] at w1
              have := (nI_eq (by omega) (by omega)).mp w1
              omega
          have hggb : gg < GT := by
            rcases hcu.2.2.1 with w | ⟨x, w1, w2⟩
            · rw [c4] at w; exact absurd w.symm (n_m1 (by omega))
            · rw [c4] at w1
              have := (nI_eq (by omega) (by omega)).mp w1
              omega
          obtain ⟨rr, n1, acc1, g1, cap1, μ1, ν1, u1, u2, u3, u4, u5, u6, u7, u8, N', S', c', tr', tb', GT', P', M', φ', K2, τ', cm', tm', gm', cs', ct', u9, u10, u11, u12, u13, u14⟩ := step_s (t := t0) ha hact hru (by omega) (by omega) (by omega) (by omega) (by omega) (by omega) c3 c4 c5 hppb hggb ht1 ht2
          obtain ⟨y1, y2, y3, y4, y5⟩ := u7
          have e11 : μ1 37 11 = 1 := by rw [fr_SE_step u1 (by unfold W_SE_step; omega)]; exact s1
          have e25 : ν1 70 25 = 1 := (y5 25 (by omega)).trans s2
          have e26 : ν1 70 26 = 0 := (y5 26 (by omega)).trans s3
          have e00 : ν1 70 0 = 0 := (y5 0 (by omega)).trans h0
          have hB : actB g1 cap1 R t0 z μ1 ν1 := ⟨has, N', S', c', tr', tb', nq, GT', P', M', φ', K2, τ', cm', tm', gm', cs', ct', u9, by omega, by omega, by omega, by omega, by omega⟩
          obtain ⟨μ2, ν2, v1, v2, v3, v4, v5, v6, v7, v8, v9⟩ := settle_s u5.1 hR16 (by omega) hB e11 e25 e26 e00 u3 u4
          have hlow : ∀ k, k < 37 → μ2 k = μ k := by
            intro k hk
            rw [v6 k (by omega) (by omega) (by omega) (by omega)]
            funext j
            exact fr_SE_step u1 (by unfold W_SE_step; omega)
          have hb2 : baR R t0 μ2 ν2 := by
            refine ⟨typR_c hty (by rw [hlow 1 (by decide)]) (hlow 2 (by decide)) ?_ ?_, rulR_c hru hlow ?_ ?_ ?_, by omega, v7.trans u6, ?_, ?_⟩
            · rw [v9 1 (by omega)]; exact y5 1 (by omega)
            · rw [v8 71 (by decide) (by decide) (by decide)]; exact y1
            · rw [v8 72 (by decide) (by decide) (by decide)]; exact y2
            · rw [v8 73 (by decide) (by decide) (by decide)]; exact y3
            · rw [v9 3 (by omega)]; exact y5 3 (by omega)
            · rw [v9 27 (by omega)]; exact y5 27 (by omega)
            · rw [v6 64 (by decide) (by decide) (by decide) (by decide), v9 28 (by omega)]; exact u8 hco
          have hcs : f_SE_canStep μ = some 1 := by
            unfold f_SE_canStep
            rw [if_neg (not_not_intro s1), ht1, if_neg (nI_nle (by omega) (by omega))]
          have hcl : f_GE_solve_42 (nI K) (f1 + 1) (nI y) (nI i) n acc g cap μ = f_GE_solve_42 (nI K) f1 (nI rr) (nI (i + 1)) n1 acc1 g1 cap1 μ2 := by
            rw [f_GE_solve_42]
            rw [if_neg hki, hcs, b1_s, if_neg (by decide), u1]
            show (b1 (f_SE_settle (nI rr) μ1) fun μ17 => f_GE_solve_42 (nI K) f1 (nI rr) (nI i + 1) n1 acc1 g1 cap1 μ17) = _
            rw [v1, b1_s, nI_1]
          have hmo : f_MO_solve_40 (nI K) (f2 + 1) (nI i) ν = f_MO_solve_40 (nI K) f2 (nI (i + 1)) ν2 := by
            rw [f_MO_solve_40]
            rw [if_neg hki, if_neg (not_not_intro h0), if_neg (by rw [s2]; decide), if_neg (not_not_intro s3), if_neg (by rw [ht2]; exact nI_nle (by omega) (by omega)), u2, v2, b1_s, nI_1]
          by_cases e2 : 2 ≤ rr
          · rw [if_pos e2] at v4
            refine ⟨rr, n1, acc1, g1, cap1, t0, μ2, ν2, ?_, ?_, u5, hb2, v3, Or.inr ⟨e2, by omega, v4⟩⟩
            · rw [hcl]
              cases f1 with
              | zero => omega
              | succ f1 =>
              unfold f_GE_solve_42
              by_cases ek : nI K ≤ nI (i + 1)
              · rw [if_pos ek]
              · rw [if_neg ek]
                unfold f_SE_canStep
                rw [if_pos (by rw [v5 e2]; decide), b1_s, if_pos rfl]
            · rw [hmo]
              cases f2 with
              | zero => omega
              | succ f2 =>
              unfold f_MO_solve_40
              by_cases ek : nI K ≤ nI (i + 1)
              · rw [if_pos ek]
              · rw [if_neg ek, if_pos (by rw [v4]; exact nI_ne0 (by omega) (by omega))]
          · rw [if_neg e2] at v4
            obtain ⟨r3, n3, acc3, g3, cap3, t3, μ3, ν3, w1, w2, w3⟩ := ih f1 f2 (i + 1) rr n1 t0 g1 cap1 acc1 μ2 ν2 (by omega) (by omega) (by omega) (by omega) u5 hb2 v3 v4
            exact ⟨r3, n3, acc3, g3, cap3, t3, μ3, ν3, hcl.trans w1, hmo.trans w2, w3⟩
    · refine halt ?_ (Or.inr (Or.inl ⟨s2, s3⟩))
      unfold f_SE_canStep
      rw [if_pos (by rw [s1]; decide)]
/-- more calls, looser bounds -/
theorem stR_z {g cap R t z z' : Nat} {μ ν : Mu} (h : stR g cap R t z μ ν) (hz : z ≤ z') : stR g cap R t z' μ ν := by
  have hB : actB g cap R t z μ ν → actB g cap R t z' μ ν := by
    rintro ⟨has, N, S, c, tr, tb, nq, GT, P, M, φ, K, τ, cm, tm, gm, cs, ct, h, b1, b2, b3, b4, b5⟩
    exact ⟨has, N, S, c, tr, tb, nq, GT, P, M, φ, K, τ, cm, tm, gm, cs, ct, h, b1, b2, b3, b4, by omega⟩
  rcases h with ⟨a, b, c, M, d, e⟩ | ⟨a, b, c, d, e⟩ | ⟨a, b, c, d, e⟩
  · exact Or.inl ⟨a, b, c, M, d, by omega, e.2⟩
  · exact Or.inr (Or.inl ⟨a, b, c, hB d, e⟩)
  · exact Or.inr (Or.inr ⟨a, b, c, hB d, e⟩)
theorem alR_z {n n' g cap z : Nat} {acc acc' : Nat × Nat} (h : alR n acc g cap (98 + z) (BS + 6 * z)) (hn : n ≤ n') (h1 : acc'.1 ≤ acc.1 + 1) (h2 : acc'.2 ≤ acc.2 + 6) : alR n' acc' g cap (98 + (z + 1)) (BS + 6 * (z + 1)) := by
  obtain ⟨a1, a2, a3, a4, a5, a6, a7, a8, a9⟩ := h
  exact ⟨a1, a2, by omega, by omega, a5, a6, by omega, by omega, a9⟩
/-- solve: class and reference alike -/
theorem c_solve {z n g cap : Nat} {acc : Nat × Nat} {μ ν : Mu} (hz : z ≤ 2000) (h : glR z n acc g cap μ ν) (x : Int32) :
    ∃ (cd : Nat) (r : Int32) (n' : Nat) (acc' : Nat × Nat) (g' cap' : Nat) (μ' : Mu) (b : Int32) (ν' : Mu), f_GE_solve n acc g cap x μ = some (cd, r, n', acc', g', cap', μ') ∧ f_MO_solve x ν = some (b, ν') ∧ cd ≤ 4 ∧ ν' 70 0 = nI cd ∧ (cd = 0 → r = b) ∧ alR n' acc' g' cap' (98 + z) (BS + 6 * z) ∧ ∃ R t, baR R t μ' ν' ∧ stR g' cap' R t z μ' ν' := by
  obtain ⟨ha, R, t, hb, hs⟩ := h
  -- refused at once
  have ref : ∀ (cd : Nat), cd ≤ 4 → 0 < cd → f_GE_solve n acc g cap x μ = some (cd, (0 : Int32), n, acc, g, cap, μ) → f_MO_solve x ν = some (0, sI ν 70 0 (nI cd)) → ∃ (cd : Nat) (r : Int32) (n' : Nat) (acc' : Nat × Nat) (g' cap' : Nat) (μ' : Mu) (b : Int32) (ν' : Mu), f_GE_solve n acc g cap x μ = some (cd, r, n', acc', g', cap', μ') ∧ f_MO_solve x ν = some (b, ν') ∧ cd ≤ 4 ∧ ν' 70 0 = nI cd ∧ (cd = 0 → r = b) ∧ alR n' acc' g' cap' (98 + z) (BS + 6 * z) ∧ ∃ R t, baR R t μ' ν' ∧ stR g' cap' R t z μ' ν' := by
    intro cd q0 q1 q2 q3
    refine ⟨cd, 0, n, acc, g, cap, μ, 0, sI ν 70 0 (nI cd), q2, q3, q0, rfl, fun q => by omega, ha, R, t, hb, ?_⟩
    rcases hs with ⟨a, b, c, M, d, e⟩ | ⟨a, b, c, d, e⟩ | ⟨a, b, c, d, e⟩
    · exact Or.inl ⟨a, b, c, M, d, e⟩
    · exact Or.inr (Or.inl ⟨a, b, c, d, e⟩)
    · exact Or.inr (Or.inr ⟨a, b, c, d, e⟩)
  have mstop : ∀ (v1 : Int32), v1 ≠ 0 → f_MO_solve_40 x fu 0 (sI ν 70 0 v1) = some (sI ν 70 0 v1) := by
    intro v1 hv
    rw [show fu = 99999 + 1 from rfl, f_MO_solve_40]
    by_cases e : x ≤ 0
    · rw [if_pos e]
    · rw [if_neg e, if_pos (show ¬ sI ν 70 0 v1 70 0 = 0 from hv)]
  have mref : ∀ (v1 : Int32), v1 ≠ 0 → (if x < 1 then some ((1 : Int32)) else (if x ≤ 20 then (if (ν 70 25) = 0 then some ((2 : Int32)) else (if (ν 70 26) = 0 then some ((0 : Int32)) else some ((2 : Int32)))) else some ((1 : Int32)))) = some v1 → f_MO_solve x ν = some (0, sI ν 70 0 v1) := by
    intro v1 hv h1
    unfold f_MO_solve
    rw [h1, b1_s, mstop v1 hv, b1_s, if_neg (show ¬ sI ν 70 0 v1 70 0 = 0 from hv)]
  by_cases e1 : x < 1
  · exact ref 1 (by omega) (by omega) (by unfold f_GE_solve; rw [if_pos e1]) (mref 1 (by decide) (by rw [if_pos e1]))
  · by_cases e2 : x ≤ 20
    · by_cases e3 : μ 37 11 = 1
      · -- the steps
        obtain ⟨k, hk1, hk2⟩ : ∃ k, k ≤ 20 ∧ x = nI k := nI_of2 (M := 20) (n := 20) (by decide) (fun q => e1 (by
          rw [Int32.lt_iff_toInt_lt] at q ⊢
          have : (1 : Int32).toInt = 1 := by decide
          have : (0 : Int32).toInt = 0 := by decide
          omega)) e2
        subst hk2
        have hs25 : ν 70 25 = 1 ∧ ν 70 26 = 0 := by
          rcases hs with ⟨s1, -⟩ | ⟨s1, s2, s3, -⟩ | ⟨s1, -⟩
          · rw [s1] at e3; exact absurd e3 (by decide)
          · exact ⟨s2, s3⟩
          · rw [s1] at e3; exact absurd e3 (by decide)
        have hs0 : stR g cap R t z μ (sI ν 70 0 0) := by
          rcases hs with ⟨a, b, c, M, d, e⟩ | ⟨a, b, c, d, e⟩ | ⟨a, b, c, d, e⟩
          · exact Or.inl ⟨a, b, c, M, d, e⟩
          · exact Or.inr (Or.inl ⟨a, b, c, d, e⟩)
          · exact Or.inr (Or.inr ⟨a, b, c, d, e⟩)
        obtain ⟨rr, n', acc', g', cap', t', μ', ν', u1, u2, u3, u4, u5, u6⟩ := sol_l (R := R) (z := z) (B1 := 98 + z) (B2 := BS + 6 * z) (K := k) hz hk1 k fu fu 0 0 n t g cap acc μ (sI ν 70 0 0) (by omega) (by unfold fu; omega) (by unfold fu; omega) (by omega) ha hb hs0 rfl
        have hcl : f_GE_solve n acc g cap (nI k) μ = (if ¬ nI rr = 2 then (if ¬ nI rr = 3 then (if ¬ (μ' 37 11) = 2 then (if ¬ (μ' 37 11) = 0 then some ((0 : Nat), (2 : Int32), n', acc', g', cap', μ') else some ((0 : Nat), (0 : Int32), n', acc', g', cap', μ')) else some ((0 : Nat), (1 : Int32), n', acc', g', cap', μ')) else some ((4 : Nat), (0 : Int32), n', acc', g', cap', μ')) else some ((3 : Nat), (0 : Int32), n', acc', g', cap', μ')) := by
          unfold f_GE_solve
          rw [if_neg e1, if_pos e2, if_pos e3, show f_GE_solve_42 (nI k) fu 0 0 n acc g cap μ = some (nI rr, n', acc', g', cap', μ') from u1]
          rfl
        have hmo : f_MO_solve (nI k) ν = (if (ν' 70 0) = 0 then (if ¬ (ν' 70 25) = 0 then (if (ν' 70 26) = 0 then some ((2 : Int32), ν') else some (1, ν')) else some (0, ν')) else some (0, ν')) := by
          unfold f_MO_solve
          rw [if_neg e1, if_pos e2, if_neg (by rw [hs25.1]; decide), if_pos hs25.2, b1_s, show f_MO_solve_40 (nI k) fu 0 (sI ν 70 0 0) = some ν' from u2, b1_s]
        rcases u6 with ⟨w1, w2⟩ | ⟨w1, w2, w3⟩
        · have q2 : ¬ nI rr = 2 := fun q => by have := (nI_eq (a := rr) (b := 2) (by omega) (by omega)).mp q; omega
          have q3 : ¬ nI rr = 3 := fun q => by have := (nI_eq (a := rr) (b := 3) (by omega) (by omega)).mp q; omega
          rw [if_pos q2, if_pos q3] at hcl
          rw [if_pos w2] at hmo
          rcases id u5 with ⟨s1, s2, -⟩ | ⟨s1, s2, s3, -⟩ | ⟨s1, s2, s3, -⟩
          · rw [s1, if_pos (by decide), if_neg (not_not_intro rfl)] at hcl
            rw [s2.1, if_neg (not_not_intro rfl)] at hmo
            exact ⟨0, 0, n', acc', g', cap', μ', 0, ν', hcl, hmo, by omega, w2, fun _ => rfl, u3, R, t', u4, u5⟩
          · rw [s1, if_pos (by decide), if_pos (by decide)] at hcl
            rw [s2, s3, if_pos (by decide), if_pos rfl] at hmo
            exact ⟨0, 2, n', acc', g', cap', μ', 2, ν', hcl, hmo, by omega, w2, fun _ => rfl, u3, R, t', u4, u5⟩
          · rw [s1, if_neg (not_not_intro rfl)] at hcl
            rw [s2, s3, if_pos (by decide), if_neg (by decide)] at hmo
            exact ⟨0, 1, n', acc', g', cap', μ', 1, ν', hcl, hmo, by omega, w2, fun _ => rfl, u3, R, t', u4, u5⟩
        · rw [if_neg (by rw [w3]; exact nI_ne0 (by omega) (by omega))] at hmo
          rcases (show rr = 2 ∨ rr = 3 by omega) with e | e
          · subst e
            rw [if_neg (not_not_intro (show nI 2 = 2 from rfl))] at hcl
            exact ⟨3, 0, n', acc', g', cap', μ', 0, ν', hcl, hmo, by omega, w3, fun q => by omega, u3, R, t', u4, u5⟩
          · subst e
            rw [if_pos (show ¬ nI 3 = 2 by decide), if_neg (not_not_intro (show nI 3 = 3 from rfl))] at hcl
            exact ⟨4, 0, n', acc', g', cap', μ', 0, ν', hcl, hmo, by omega, w3, fun q => by omega, u3, R, t', u4, u5⟩
      · refine ref 2 (by omega) (by omega) (by unfold f_GE_solve; rw [if_neg e1, if_pos e2, if_neg e3]) (mref 2 (by decide) ?_)
        rw [if_neg e1, if_pos e2]
        rcases hs with ⟨s1, s2, -⟩ | ⟨s1, -⟩ | ⟨s1, s2, s3, -⟩
        · rw [if_pos s2.1]
        · exact absurd s1 e3
        · rw [if_neg (by rw [s2]; decide), if_neg (by rw [s3]; decide)]
    · exact ref 1 (by omega) (by omega) (by unfold f_GE_solve; rw [if_neg e1, if_neg e2]) (mref 1 (by decide) (by rw [if_neg e1, if_neg e2]))
end SLA
