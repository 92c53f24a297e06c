section CPF
def sca (f : Nat → Nat) : Nat → Nat → Nat
  | 0, _ => 0
  | r + 1, i => ca (f i) + sca f r (i + 1)
theorem qsc_le {f : Nat → Nat} (r : Nat) : ∀ i m, qsc f r i m = true → m ≤ r := by
  induction r with
  | zero => intro i m h; have := of_decide_eq_true h; omega
  | succ r ih =>
    intro i m h
    have h2 : (decide (if m = 0 then 2 ≤ f i else f i ≠ 6) && qsc f r (i + 1) (m - 1 + arK (f i))) = true := h
    rw [Bool.and_eq_true] at h2
    have := ih _ _ h2.2
    omega
variable {N0 S0 F : Nat} {has : Nat → Bool} {C0 : Nat → Int32} {φ0 K0 τ0 : Nat → Nat}
theorem cp_l {q ob nof from' L : Nat} {W : Nat → Int32} (hq : q + 1 < 40) (hof : ob = 71 ∨ ob = 72) (hnof : from' + L ≤ nof) (hn2 : nof < 2 ^ 30) (hL : L ≤ 30) (hW : ∀ j, j < L → wOK (W j)) (hv : ∀ j v, j < L → v < 8 → W j = wd v 0 → has v = true) (r : Nat) : ∀ (f1 f2 i oc hc om N S : Nat) (C U T KK V NM A : Nat → Int32) (φ K τ : Nat → Nat) (μ ν : Mu), i + r = L → r < f1 → r < f2 → cpI N0 S0 F has C0 φ0 K0 τ0 C U T KK V NM A N S φ K τ oc hc om μ ν → μ q 1 = nI L → (∀ j, j < L → μ (q + 1) j = W j) → (∀ j, j < L → ν ob (from' + j) = W j) → qsc (fun j => kd (W j)) r i oc = true → hc ≤ i → om ≤ i → N + sca (fun j => kd (W j)) r i ≤ 240 → S + sca (fun j => kd (W j)) r i < 2 ^ 30 →
    ∃ (μ' ν' : Mu) (hc' : Nat) (C' U' T' KK' V' NM' A' : Nat → Int32) (φ' K' τ' : Nat → Nat), f_CE_copy_20 q f1 (nI i) μ = some μ' ∧ f_MO_copy_57 ob nof (nI from') (nI L) f2 (nI (from' + i)) ν = some ν' ∧ hc' ≤ L ∧ hc ≤ hc' ∧ (0 < r → oc = 0 → 0 < hc') ∧ cpI N0 S0 F has C0 φ0 K0 τ0 C' U' T' KK' V' NM' A' (N + sca (fun j => kd (W j)) r i) (S + sca (fun j => kd (W j)) r i) φ' K' τ' 0 hc' 0 μ' ν' ∧ (0 < hc → μ' 45 0 = μ 45 0) ∧ (0 < r → oc = 0 → hc = 0 → kd (W i) ≠ 6 → kd (μ' 45 0) ≠ 6) ∧ ν' 93 = ν 93 ∧ μ' 43 = μ 43 := by
  induction r with
  | zero =>
    intro f1 f2 i oc hc om N S C U T KK V NM A φ K τ μ ν hi h1 h2 hI hl hw1 hw2 hqs hhc hom hN hS
    cases f1 with
    | zero => omega
    | succ f1 =>
    cases f2 with
    | zero => omega
    | succ f2 =>
    have hoc : oc = 0 := of_decide_eq_true hqs
    subst hoc
    have hom0 : om = 0 := by
      rcases hI.2.2.2.1 with ⟨e, -⟩ | ⟨o2, i, a, nm, nx, oc', g0, g1, g2, g3, g4, g5, g6, g7, g8, g9, g10, g11, -⟩
      · exact e
      · omega
    subst hom0
    refine ⟨μ, ν, hc, C, U, T, KK, V, NM, A, φ, K, τ, ?_, ?_, by omega, Nat.le_refl _, fun q => by omega, hI, fun _ => rfl, fun q => by omega, rfl, rfl⟩
    · unfold f_CE_copy_20
      rw [hl, if_pos (nI_le (by omega) (by omega))]
    · unfold f_MO_copy_57
      rw [nI_add, if_pos (nI_le (by omega) (by omega))]
  | succ r ih =>
    intro f1 f2 i oc hc om N S C U T KK V NM A φ K τ μ ν hi h1 h2 hI hl hw1 hw2 hqs hhc hom hN hS
    cases f1 with
    | zero => omega
    | succ f1 =>
    cases f2 with
    | zero => omega
    | succ f2 =>
    have hqs2 : (decide (if oc = 0 then 2 ≤ kd (W i) else kd (W i) ≠ 6) && qsc (fun j => kd (W j)) r (i + 1) (oc - 1 + arK (kd (W i)))) = true := hqs
    rw [Bool.and_eq_true] at hqs2
    obtain ⟨hd, hq3⟩ := hqs2
    have hd := of_decide_eq_true hd
    have hle := qsc_le _ _ _ hqs
    have hle2 := qsc_le _ _ _ hq3
    have hN' : N + (ca (kd (W i)) + sca (fun j => kd (W j)) r (i + 1)) ≤ 240 := hN
    have hS' : S + (ca (kd (W i)) + sca (fun j => kd (W j)) r (i + 1)) < 2 ^ 30 := hS
    obtain ⟨t, μ1, μ2, ν2, om', C', U', T', KK', V', NM', A', φ', K', τ', u1, u2, u3, u4, u5, u6, u7, u8⟩ := cpW hI (hW i (by omega)) (fun v q1 q2 => hv i v (by omega) q1 q2) (fun e => by rw [if_pos e] at hd; exact hd) (fun e => by rw [if_neg (by omega)] at hd; exact hd) (by omega) (by omega) (by omega) (by omega) (by omega) (by omega)
    have frc2 : ∀ k j, k < 40 → μ2 k j = μ k j := by
      intro k j hk
      rw [fr_CE_takeName u3 (by unfold W_CE_takeName; omega), fr_CE_place u2 (by unfold W_CE_place; omega)]
    have frm2 : ∀ k j, k = 71 ∨ k = 72 ∨ k = 93 → ν2 k j = ν k j := by
      intro k j hk
      exact fr_MO_copyWord u4 (by unfold W_MO_copyWord; omega)
    have hc2 : (if oc = 0 then hc + 1 else hc) ≤ i + 1 := by split <;> omega
    obtain ⟨μ', ν', hc', C2, U2, T2, KK2, V2, NM2, A2, φ2, K2, τ2, v1, v2, v3, v4, v5, v6, v7, v8, v9, v10⟩ := ih f1 f2 (i + 1) _ _ om' _ _ _ _ _ _ _ _ _ _ _ _ μ2 ν2 (by omega) (by omega) (by omega) u6 (by rw [frc2 q 1 (by omega)]; exact hl) (fun j hj => by rw [frc2 (q + 1) j (by omega)]; exact hw1 j hj) (fun j hj => by rw [frm2 ob _ (by omega)]; exact hw2 j hj) hq3 hc2 (by omega) (by omega) (by omega)
    refine ⟨μ', ν', hc', C2, U2, T2, KK2, V2, NM2, A2, φ2, K2, τ2, ?_, ?_, v3, ?_, ?_, ?_, ?_, ?_, ?_, ?_⟩
    · rw [f_CE_copy_20]
      rw [hl, if_neg (nI_ge (by omega) (by omega)), rd_n (by omega) (by decide), b1_s, hw1 i (by omega), u1, b1_s, u2, b1_s, rd_n (by omega) (by decide), b1_s, fr_CE_place u2 (by unfold W_CE_place; omega), hw1 i (by omega), u3, b1_s, nI_1]
      exact v1
    · rw [f_MO_copy_57]
      rw [nI_add, if_neg (nI_ge (by omega) (by omega)), rd_n (by omega) (by omega), b1_s, hw2 i (by omega), u4, b1_s, nI_1, show from' + i + 1 = from' + (i + 1) by omega]
      exact v2
    · split at v4 <;> omega
    · intro _ e
      rw [if_pos e] at v4
      omega
    · rw [show N + sca (fun j => kd (W j)) (r + 1) i = N + ca (kd (W i)) + sca (fun j => kd (W j)) r (i + 1) from (Nat.add_assoc _ _ _).symm, show S + sca (fun j => kd (W j)) (r + 1) i = S + ca (kd (W i)) + sca (fun j => kd (W j)) r (i + 1) from (Nat.add_assoc _ _ _).symm]
      exact v6
    · intro e
      rw [v7 (by split <;> omega)]
      exact u7 e
    · intro _ e1 e2 e3
      rw [v7 (by rw [if_pos e1]; omega)]
      exact u8 e1 e2 e3
    · rw [v9]
      funext j
      exact frm2 93 j (Or.inr (Or.inr rfl))
    · rw [v10]
      funext j
      rw [fr_CE_takeName u3 (by unfold W_CE_takeName; omega), fr_CE_place u2 (by unfold W_CE_place; omega)]
theorem cnt_n {p : Nat → Bool} {m : Nat} (n : Nat) (h : m ≤ n) : cnt p m ≤ cnt p n := by
  induction n with
  | zero => rw [show m = 0 by omega]; exact Nat.le_refl _
  | succ n ih =>
    by_cases e : m = n + 1
    · rw [e]; exact Nat.le_refl _
    · have := ih (by omega)
      rw [cnt_s]
      omega
/-- the variables of a clause: class and reference -/
def vaI (v N0 N : Nat) (has : Nat → Bool) (φ K : Nat → Nat) (μ ν : Mu) : Prop :=
  N = N0 + cnt has v ∧ ∀ u, u < v → (has u = true → N0 + cnt has u < N ∧ K (N0 + cnt has u) = 1 ∧ μ 43 u = nI (N0 + cnt has u) ∧ ν 93 u = nI (φ (N0 + cnt has u))) ∧ (has u = false → ν 93 u = -1)
theorem va_l {ob nof : Nat} {k1 x0 x1 : Int32} {R : Nat → Int32} {F0 : Nat} (hm : ∀ v, v < 8 → (((k1 >>> (nI v &&& 31)) &&& 1) = 1 ↔ has v = true)) (hob : ob = 71 ∨ ob = 72) (hh : ∀ v, v < 8 → ∀ ν : Mu, ν ob = R → f_MO_hasVariable ob nof x0 x1 (nI v) ν = some (bI (has v))) (d : Nat) : ∀ (f1 f2 v N S : Nat) (C U T KK V NM A : Nat → Int32) (φ K τ : Nat → Nat) (μ ν : Mu), v + d = 8 → d < f1 → d < f2 → cellsQ (fun _ => False) C U T KK V NM A N S φ K τ → μ 41 = C → μ 40 1 = nI N → ν 74 = U → ν 75 = T → okM KK V NM A ν → ν 70 12 = nI S → ν ob = R → vaI v N0 N has φ K μ ν → (∀ i, i < N0 → C i = C0 i ∧ φ i = φ0 i ∧ K i = K0 i ∧ τ i = τ0 i) → frc C K N ≤ F0 + v → N0 + cnt has 8 ≤ 240 → S + d < 2 ^ 30 → (S0 ≤ S ∧ ∀ i, N0 ≤ i → i < N → S0 ≤ τ i) →
    ∃ (μ' ν' : Mu) (N' S' : Nat) (C' U' T' KK' V' : Nat → Int32) (φ' K' τ' : Nat → Nat), f_CE_takeVariables_2 k1 f1 (nI v) μ = some μ' ∧ f_MO_copy_13 ob nof x0 x1 f2 (nI v) ν = some ν' ∧ cellsQ (fun _ => False) C' U' T' KK' V' NM A N' S' φ' K' τ' ∧ μ' 41 = C' ∧ μ' 40 1 = nI N' ∧ ν' 74 = U' ∧ ν' 75 = T' ∧ okM KK' V' NM A ν' ∧ ν' 70 12 = nI S' ∧ vaI 8 N0 N' has φ' K' μ' ν' ∧ (∀ i, i < N0 → C' i = C0 i ∧ φ' i = φ0 i ∧ K' i = K0 i ∧ τ' i = τ0 i) ∧ frc C' K' N' ≤ F0 + 8 ∧ (S0 ≤ S' ∧ ∀ i, N0 ≤ i → i < N' → S0 ≤ τ' i) ∧ S' ≤ S + d ∧ (∀ j, j ≠ 1 → μ' 40 j = μ 40 j) ∧ (∀ k, k < 40 → μ' k = μ k) ∧ (∀ j, j ≠ 12 → ν' 70 j = ν 70 j) ∧ ν' ob = R := by
  induction d with
  | zero =>
    intro f1 f2 v N S C U T KK V NM A φ K τ μ ν hd h1 h2 hR c1 c2 m1 m2 m3 m4 hob2 hva hold hfr hN hS hτ
    cases f1 with
    | zero => omega
    | succ f1 =>
    cases f2 with
    | zero => omega
    | succ f2 =>
    have e : v = 8 := by omega
    subst e
    refine ⟨μ, ν, N, S, C, U, T, KK, V, φ, K, τ, ?_, ?_, hR, c1, c2, m1, m2, m3, m4, hva, hold, hfr, hτ, by omega, fun _ _ => rfl, fun _ _ => rfl, fun _ _ => rfl, hob2⟩
    · unfold f_CE_takeVariables_2
      rw [if_pos (by decide)]
    · unfold f_MO_copy_13
      rw [if_pos (by decide)]
  | succ d ih =>
    intro f1 f2 v N S C U T KK V NM A φ K τ μ ν hd h1 h2 hR c1 c2 m1 m2 m3 m4 hob2 hva hold hfr hN hS hτ
    cases f1 with
    | zero => omega
    | succ f1 =>
    cases f2 with
    | zero => omega
    | succ f2 =>
    have hv8 : ¬ 8 ≤ nI v := nI_ge (b := 8) (by omega) (by decide)
    have hhv := hh v (by omega) ν hob2
    obtain ⟨va1, va2⟩ := hva
    cases hb : has v with
    | false =>
      have hmv : ¬ ((k1 >>> (nI v &&& 31)) &&& 1) = 1 := fun e => by rw [(hm v (by omega)).mp e] at hb; cases hb
      have hcn : cnt has (v + 1) = cnt has v := by rw [cnt_s, hb]; rfl
      have hob3 : sI ν 93 v (-1) ob = R := by rcases hob with e | e <;> subst e <;> exact hob2
      obtain ⟨μ', ν', N', S', C', U', T', KK', V', φ', K', τ', u1, u2, u3, u4, u5, u6, u7, u8, u9, u10, u11, u12, u12', u13, u14, u15, u16, u17⟩ := ih f1 f2 (v + 1) N S C U T KK V NM A φ K τ μ (sI ν 93 v (-1)) (by omega) (by omega) (by omega) hR c1 c2 m1 m2 m3 m4 hob3 ⟨by rw [hcn]; exact va1, fun u hu => by
        show (has u = true → N0 + cnt has u < N ∧ K (N0 + cnt has u) = 1 ∧ μ 43 u = nI (N0 + cnt has u) ∧ sI ν 93 v (-1) 93 u = nI (φ (N0 + cnt has u))) ∧ (has u = false → sI ν 93 v (-1) 93 u = -1)
        by_cases e : u = v
        · subst e
          refine ⟨fun w => by (rw [hb] at w; cases w), fun _ => sI_at⟩
        · rw [sI_nj e]; exact va2 u (by omega)⟩ hold (by omega) (by omega) (by omega) hτ
      refine ⟨μ', ν', N', S', C', U', T', KK', V', φ', K', τ', ?_, ?_, u3, u4, u5, u6, u7, u8, u9, u10, u11, u12, u12', by omega, u14, u15, u16, u17⟩
      · rw [f_CE_takeVariables_2]
        rw [if_neg hv8, if_pos hmv, b1_s, nI_1]
        exact u1
      · rw [f_MO_copy_13]
        rw [if_neg hv8, hhv, b1_s, hb, if_pos (show bI false = 0 from rfl), b2_s, wr_n (by omega) (by decide), b1_s, nI_1]
        exact u2
    | true =>
      have hmv : ((k1 >>> (nI v &&& 31)) &&& 1) = 1 := (hm v (by omega)).mpr hb
      have hcn : cnt has (v + 1) = cnt has v + 1 := by rw [cnt_s, hb]; rfl
      have hcm := cnt_n (p := has) (m := v + 1) 8 (by omega)
      obtain ⟨c, ν1, e1, e2, e3, e4, e5, e6, e7, e8⟩ := take_v hR (by omega) (by omega) m1 m2 m3 m4
      have fr1 : ∀ k, k ≠ 70 → k ≠ 74 → k ≠ 75 → k ≠ 76 → k ≠ 77 → ν1 k = ν k := by
        intro k q1 q2 q3 q4 q5
        funext j
        exact fr_MO_take e2 (by unfold W_MO_take; omega)
      have fr7 : ∀ j, j ≠ 12 → ν1 70 j = ν 70 j := fun j q => fr_MO_take e2 (by unfold W_MO_take; omega)
      have hob3 : sI ν1 93 v (nI c) ob = R := by
        rcases hob with e | e <;> subst e
        · show ν1 71 = R
          rw [fr1 71 (by decide) (by decide) (by decide) (by decide) (by decide)]; exact hob2
        · show ν1 72 = R
          rw [fr1 72 (by decide) (by decide) (by decide) (by decide) (by decide)]; exact hob2
      have hfr2 : frc (upd C N (wd N 0)) (upn K N 1) (N + 1) ≤ F0 + (v + 1) := by
        have : frc (upd C N (wd N 0)) (upn K N 1) N = frc C K N := cnt_eq N (fun i hi => by rw [upd_n (by omega), upn_n (by omega)])
        unfold frc at this ⊢
        rw [cnt_s, this]
        unfold frc at hfr
        split <;> omega
      obtain ⟨μ', ν', N', S', C', U', T', KK', V', φ', K', τ', u1, u2, u3, u4, u5, u6, u7, u8, u9, u10, u11, u12, u12', u13, u14, u15, u16, u17⟩ := ih f1 f2 (v + 1) (N + 1) (S + 1) _ _ _ _ _ NM A _ _ _ (sI (sI (sI μ 43 v (nI N)) 41 N (wd N 0)) 40 1 (nI (N + 1))) (sI ν1 93 v (nI c)) (by omega) (by omega) (by omega) e8 (by rw [← c1]; show sI (sI μ 43 v (nI N)) 41 N (wd N 0) 41 = _; exact sI_r) rfl e3 e4 ⟨e5, e6, (fr1 78 (by decide) (by decide) (by decide) (by decide) (by decide)).trans m3.2.2.1, (fr1 79 (by decide) (by decide) (by decide) (by decide) (by decide)).trans m3.2.2.2⟩ e7 hob3 ⟨by rw [hcn]; omega, fun u hu => by
        show (has u = true → N0 + cnt has u < N + 1 ∧ upn K N 1 (N0 + cnt has u) = 1 ∧ sI μ 43 v (nI N) 43 u = nI (N0 + cnt has u) ∧ sI ν1 93 v (nI c) 93 u = nI (upn φ N c (N0 + cnt has u))) ∧ (has u = false → sI ν1 93 v (nI c) 93 u = -1)
        by_cases e : u = v
        · subst e
          refine ⟨fun _ => ?_, fun w => by (rw [hb] at w; cases w)⟩
          rw [← va1, upn_a, upn_a, sI_at, sI_at]
          exact ⟨by omega, rfl, rfl, rfl⟩
        · rw [sI_nj e, sI_nj e, fr1 93 (by decide) (by decide) (by decide) (by decide) (by decide)]
          obtain ⟨w1, w2⟩ := va2 u (by omega)
          refine ⟨fun q => ?_, w2⟩
          obtain ⟨w3, w4, w5, w6⟩ := w1 q
          rw [upn_n (by omega), upn_n (by omega)]
          exact ⟨by omega, w4, w5, w6⟩⟩ (fun i hi => by rw [upd_n (by omega), upn_n (by omega), upn_n (by omega), upn_n (by omega)]; exact hold i hi) hfr2 (by omega) (by omega) ⟨by omega, fun i q1 q2 => by
        by_cases e : i = N
        · rw [e, upn_a]; exact hτ.1
        · rw [upn_n e]; exact hτ.2 i q1 (by omega)⟩
      refine ⟨μ', ν', N', S', C', U', T', KK', V', φ', K', τ', ?_, ?_, u3, u4, u5, u6, u7, u8, u9, u10, u11, u12, u12', by omega, fun j hj => ?_, fun k hk => ?_, fun j hj => ?_, u17⟩
      · rw [f_CE_takeVariables_2]
        rw [if_neg hv8, if_neg (not_not_intro hmv), c2, wr_n (by omega) (by decide), b1_s, show sI μ 43 v (nI N) 40 1 = nI N from c2, wd_shl (by omega), wr_n (by omega) (by decide), b1_s, show sI (sI μ 43 v (nI N)) 41 N (wd N 0) 40 1 = nI N from c2, nI_1, b1_s, nI_1]
        exact u1
      · rw [f_MO_copy_13]
        rw [if_neg hv8, hhv, b1_s, hb, if_neg (show ¬ bI true = 0 by decide), e2, b2_s, b2_s, wr_n (by omega) (by decide), b1_s, nI_1]
        exact u2
      · rw [u14 j hj, sI_nj hj]; rfl
      · rw [u15 k hk, sI_nk (by omega), sI_nk (by omega), sI_nk (by omega)]
      · rw [u16 j hj]
        show ν1 70 j = _
        exact fr7 j hj

/-- a clause of the class and the reference's words of it -/
def clR (q ob nof from' L : Nat) (W : Nat → Int32) (has : Nat → Bool) (μ ν : Mu) : Prop :=
  (clPb q = true ∧ q + 1 < 40) ∧ ((ob = 71 ∨ ob = 72) ∧ ofPb ob nof = true ∧ from' + L ≤ nof ∧ nof < 2 ^ 30) ∧ (0 < L ∧ L ≤ 30) ∧ (∀ j, j < L → wOK (W j)) ∧ qsc (fun j => kd (W j)) L 0 0 = true ∧ (∀ j v, j < L → v < 8 → W j = wd v 0 → has v = true) ∧ μ q 1 = nI L ∧ (∀ j, j < L → μ (q + 1) j = W j) ∧ (∀ j, j < L → ν ob (from' + j) = W j) ∧ (∀ v, v < 8 → (((μ q 2 >>> (nI v &&& 31)) &&& 1) = 1 ↔ has v = true)) ∧ (∀ v, v < 8 → ∀ ν1 : Mu, ν1 ob = ν ob → f_MO_hasVariable ob nof (nI from') (nI L) (nI v) ν1 = some (bI (has v)))
/-- copying a clause -/
theorem cp_s {q ob nof from' L N S : Nat} {W : Nat → Int32} {C U T KK V NM A : Nat → Int32} {φ K τ : Nat → Nat} {μ ν : Mu} (hcl : clR q ob nof from' L W has μ ν) (hR : cellsR C U T KK V NM A N S φ K τ) (c1 : μ 41 = C) (c2 : μ 40 1 = nI N) (m1 : ν 74 = U) (m2 : ν 75 = T) (m3 : okM KK V NM A ν) (m4 : ν 70 12 = nI S) (hN : N + cnt has 8 + sca (fun j => kd (W j)) L 0 ≤ 240) (hS : S + 8 + sca (fun j => kd (W j)) L 0 < 2 ^ 30) :
    ∃ (μ' ν' : Mu) (hc S' : Nat) (C' U' T' KK' V' NM' A' : Nat → Int32) (φ' K' τ' : Nat → Nat), f_CE_copy q μ = some μ' ∧ f_MO_copy ob nof (nI from') (nI L) ν = some ν' ∧ 0 < hc ∧ hc ≤ L ∧ S' ≤ S + 8 + sca (fun j => kd (W j)) L 0 ∧ cellsR C' U' T' KK' V' NM' A' (N + cnt has 8 + sca (fun j => kd (W j)) L 0) S' φ' K' τ' ∧ μ' 41 = C' ∧ μ' 40 1 = nI (N + cnt has 8 + sca (fun j => kd (W j)) L 0) ∧ ν' 74 = U' ∧ ν' 75 = T' ∧ okM KK' V' NM' A' ν' ∧ ν' 70 12 = nI S' ∧ μ' 40 8 = nI hc ∧ ν' 70 46 = nI hc ∧ (∀ x, x < hc → gtR (N + cnt has 8 + sca (fun j => kd (W j)) L 0) φ' K' (μ' 45 x) (ν' 96 x) (ν' 97 x)) ∧ (kd (W 0) ≠ 6 → kd (μ' 45 0) ≠ 6) ∧ (∀ i, i < N → C' i = C i ∧ φ' i = φ i ∧ K' i = K i ∧ τ' i = τ i) ∧ frc C' K' (N + cnt has 8 + sca (fun j => kd (W j)) L 0) ≤ frc C K N + 8 ∧ (∀ i, N ≤ i → i < N + cnt has 8 + sca (fun j => kd (W j)) L 0 → S ≤ τ' i) ∧ S ≤ S' ∧ ∀ v, v < 8 → (has v = true → K' (N + cnt has v) = 1 ∧ ν' 93 v = nI (φ' (N + cnt has v))) ∧ (has v = false → ν' 93 v = -1) := by
  obtain ⟨⟨q1, q2⟩, ⟨o1, o2, o3, o4⟩, ⟨l1, l2⟩, hW, hqs, hv, hl, hw1, hw2, hma, hha⟩ := hcl
  have hR240 := hR.1
  obtain ⟨μa, νa, Na, Sa, Ca, Ua, Ta, KKa, Va, φa, Ka, τa, a1, a2, a3, a4, a5, a6, a7, a8, a9, ⟨a10, a10'⟩, a11, a12, a12', a13, a14, a15, a16, a17⟩ := va_l (N0 := N) (S0 := S) (has := has) (C0 := C) (φ0 := φ) (K0 := K) (τ0 := τ) (F0 := frc C K N) (k1 := μ q 2) (R := ν ob) hma o1 hha 8 fu fu 0 N S C U T KK V NM A φ K τ (sI (sI μ 40 6 0) 40 8 0) (sI (sI ν 70 46 0) 70 43 0) (by omega) (by unfold fu; omega) (by unfold fu; omega) (Q_of hR) c1 c2 m1 m2 m3 m4 (by rcases o1 with e | e <;> subst e <;> rfl) ⟨rfl, fun u hu => by omega⟩ (fun i hi => ⟨rfl, rfl, rfl, rfl⟩) (by omega) (by omega) (by omega) ⟨Nat.le_refl _, fun i q1 q2 => by omega⟩
  have c6 : μa 40 6 = nI 0 := a14 6 (by decide)
  have c8 : μa 40 8 = nI 0 := a14 8 (by decide)
  have m43 : νa 70 43 = nI 0 := a16 43 (by decide)
  have m46 : νa 70 46 = nI 0 := a16 46 (by decide)
  have hQ0 : cellsQ (fun i => ∃ x, x < 0 ∧ μa 44 x = nI i) Ca Ua Ta KKa Va NM A Na Sa φa Ka τa := Q_X a3 (fun i hi _ e => absurd e id)
  have hI : cpI N S (frc C K N + 8) has C φ K τ Ca Ua Ta KKa Va NM A Na Sa φa Ka τa 0 0 0 μa νa := by
    refine ⟨hQ0, ⟨a4, a5, c6, c8⟩, ⟨a6, a7, a8, a9, m43, m46⟩, Or.inl ⟨rfl, rfl⟩, fun x y _ h => by omega, fun x h => by omega, fun v e1 e2 => ?_, by omega, a11, a12, a12'⟩
    obtain ⟨w1, w2, w3, w4⟩ := (a10' v e1).1 e2
    exact ⟨N + cnt has v, w1, w2, w3, w4⟩
  obtain ⟨μ', ν', hc, C', U', T', KK', V', NM', A', φ', K', τ', b1', b2', b3, b4, b5, b6, b7, b8, b9, b10⟩ := cp_l (W := W) q2 o1 o3 o4 l2 hW hv L fu fu 0 0 0 0 Na Sa Ca Ua Ta KKa Va NM A φa Ka τa μa νa (by omega) (by unfold fu; omega) (by unfold fu; omega) hI (by rw [a15 q (by omega), sI_nk (by omega), sI_nk (by omega)]; exact hl) (fun j hj => by rw [a15 (q + 1) (by omega), sI_nk (by omega), sI_nk (by omega)]; exact hw1 j hj) (fun j hj => by rw [a17]; exact hw2 j hj) hqs (by omega) (by omega) (by omega) (by omega)
  subst a10
  obtain ⟨hQ, ⟨d1, d2, d3, d4⟩, ⟨e1, e2, e3, e4, e5, e6⟩, hop, hdis, hhd, hva, hN0, hold, hfr, hτ⟩ := b6
  have hR' : cellsR C' U' T' KK' V' NM' A' (N + cnt has 8 + sca (fun j => kd (W j)) L 0) (Sa + sca (fun j => kd (W j)) L 0) φ' K' τ' := of_Q hQ (fun i hi ⟨x, x1, _⟩ => by omega)
  refine ⟨μ', ν', hc, Sa + sca (fun j => kd (W j)) L 0, C', U', T', KK', V', NM', A', φ', K', τ', ?_, ?_, b5 l1 rfl, b3, by omega, hR', d1, d2, e1, e2, e3, e4, d4, e6, hhd, b8 l1 rfl rfl, hold, hfr, hτ.2, hτ.1, fun v hv8 => ⟨fun hb => ?_, fun hb => ?_⟩⟩
  · unfold f_CE_copy
    rw [if_pos q1]
    unfold f_CE_takeVariables
    have ek : sI (sI μ 40 6 0) 40 8 0 q 2 = μ q 2 := by rw [sI_nk (by omega), sI_nk (by omega)]
    rw [ek, show f_CE_takeVariables_2 (μ q 2) fu 0 (sI (sI μ 40 6 0) 40 8 0) = some μa from a1, b1_s, b1_s, show f_CE_copy_20 q fu 0 μa = some μ' from b1', b1_s]
  · unfold f_MO_copy
    rw [if_pos o2, show f_MO_copy_13 ob nof (nI from') (nI L) fu 0 (sI (sI ν 70 46 0) 70 43 0) = some νa from a2, b1_s, show f_MO_copy_57 ob nof (nI from') (nI L) fu (nI from') νa = some ν' from b2', b1_s]
  · obtain ⟨i, w1, w2, w3, w4⟩ := hva v hv8 hb
    obtain ⟨x1, x2, x3, x4⟩ := (a10' v hv8).1 hb
    rw [b10, x3] at w3
    have ei := (nI_eq (by omega) (by omega)).mp w3
    rw [ei]
    exact ⟨w2, w4⟩
  · rw [b9]
    exact (a10' v hv8).2 hb
end CPF
