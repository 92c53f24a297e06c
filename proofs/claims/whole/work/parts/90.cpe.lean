/-! copying all words -/
section CPE
/-- a word that may be typed -/
def wOK (x : Int32) : Prop := (∃ v, v < 8 ∧ x = wd v 0) ∨ kd x = 1 ∨ (∃ v a, v < 32 ∧ a ≤ 3 ∧ x = wd v (2 + a)) ∨ x = wd 0 6
/-- the cells that a name takes -/
def ca (k : Nat) : Nat := if arK k = 0 then 0 else 1 + arK k
variable {N0 S0 F : Nat} {has : Nat → Bool} {C0 : Nat → Int32} {φ0 K0 τ0 : Nat → Nat} {C U T KK V NM A : Nat → Int32} {N S : Nat} {φ K τ : Nat → Nat} {oc hc om : Nat} {μ ν : Mu}
theorem plc_45 {t : Int32} {μ1 : Mu} (h : f_CE_place t μ = some μ1) (h6 : μ 40 6 = nI oc) (h8 : μ 40 8 = nI hc) (ho : oc < 2 ^ 30) (hh : hc < 2 ^ 30) : (0 < oc → μ1 45 = μ 45) ∧ (oc = 0 → μ1 45 = upd (μ 45) hc t) := by
  unfold f_CE_place at h
  refine ⟨fun e => ?_, fun e => ?_⟩
  · rw [h6, if_neg (nI_nle e (by omega))] at h
    obtain ⟨v, e1, e2⟩ := b1_e h
    obtain ⟨μ2, e3, e4⟩ := b1_e e2
    obtain ⟨-, e5⟩ := wr_e e3
    rw [← Option.some.inj e4, ← e5]
    rfl
  · subst e
    rw [h6, if_pos (by decide)] at h
    obtain ⟨μ2, e3, e4⟩ := b1_e h
    obtain ⟨-, e5⟩ := wr_e e3
    rw [← Option.some.inj e4, ← e5, h8, nI_clamp (by omega)]
    show sI μ 45 hc t 45 = _
    exact sI_r
theorem cpW (h : cpI N0 S0 F has C0 φ0 K0 τ0 C U T KK V NM A N S φ K τ oc hc om μ ν) {x : Int32} (hx : wOK x) (hv : ∀ v, v < 8 → x = wd v 0 → has v = true) (hk0 : oc = 0 → 2 ≤ kd x) (hk1 : 0 < oc → kd x ≠ 6) (hhc : hc < 30) (hom : om ≤ 38) (hoc : oc - 1 + arK (kd x) ≤ 30) (hoc2 : oc ≤ 30) (hNN : N + ca (kd x) ≤ 240) (hS : S + ca (kd x) < 2 ^ 30) :
    ∃ (t : Int32) (μ1 μ2 ν2 : Mu) (om' : Nat) (C' U' T' KK' V' NM' A' : Nat → Int32) (φ' K' τ' : Nat → Nat), f_CE_termOf x μ = some t ∧ f_CE_place t μ = some μ1 ∧ f_CE_takeName x μ1 = some μ2 ∧ f_MO_copyWord x ν = some ν2 ∧ om' ≤ om + 1 ∧ cpI N0 S0 F has C0 φ0 K0 τ0 C' U' T' KK' V' NM' A' (N + ca (kd x)) (S + ca (kd x)) φ' K' τ' (oc - 1 + arK (kd x)) (if oc = 0 then hc + 1 else hc) om' μ2 ν2 ∧ (0 < hc → μ2 45 0 = μ 45 0) ∧ (oc = 0 → hc = 0 → kd x ≠ 6 → kd (μ2 45 0) ≠ 6) := by
  have hN := h.1.1
  have c2 := h.2.1.2.1
  have c3 := h.2.1.2.2.1
  have c4 := h.2.1.2.2.2
  have tail : ∀ {t : Int32} {μ1 μ2 : Mu}, f_CE_place t μ = some μ1 → f_CE_takeName x μ1 = some μ2 → (kd x ≠ 6 → kd t ≠ 6) → (0 < hc → μ2 45 0 = μ 45 0) ∧ (oc = 0 → hc = 0 → kd x ≠ 6 → kd (μ2 45 0) ≠ 6) := by
    intro t μ1 μ2 e1 e2 e3
    obtain ⟨p1, p2⟩ := plc_45 e1 c3 c4 (by omega) (by omega)
    have e4 : ∀ j, μ2 45 j = μ1 45 j := fun j => fr_CE_takeName e2 (by unfold W_CE_takeName; omega)
    refine ⟨fun q => ?_, fun q1 q2 q3 => ?_⟩
    · rw [e4]
      by_cases e : oc = 0
      · rw [p2 e, upd_n (by omega)]
      · rw [p1 (by omega)]
    · rw [e4, p2 q1, q2, upd_a]; exact e3 q3
  -- a word without arguments
  have pl : ∀ (t k v : Int32), arK (kd x) = 0 → f_CE_termOf x μ = some t → (kd x ≠ 6 → kd t ≠ 6) → (oc = 0 → gtR N φ K t k v) → (0 < oc → tmR N φ K t k v) → f_MO_copyWord x ν = f_MO_place (sI (sI ν 70 40 k) 70 41 v) → ∃ (t : Int32) (μ1 μ2 ν2 : Mu) (om' : Nat) (C' U' T' KK' V' NM' A' : Nat → Int32) (φ' K' τ' : Nat → Nat), f_CE_termOf x μ = some t ∧ f_CE_place t μ = some μ1 ∧ f_CE_takeName x μ1 = some μ2 ∧ f_MO_copyWord x ν = some ν2 ∧ om' ≤ om + 1 ∧ cpI N0 S0 F has C0 φ0 K0 τ0 C' U' T' KK' V' NM' A' (N + ca (kd x)) (S + ca (kd x)) φ' K' τ' (oc - 1 + arK (kd x)) (if oc = 0 then hc + 1 else hc) om' μ2 ν2 ∧ (0 < hc → μ2 45 0 = μ 45 0) ∧ (oc = 0 → hc = 0 → kd x ≠ 6 → kd (μ2 45 0) ≠ 6) := by
    intro t k v ha e1 e6 e2 e3 e4
    obtain ⟨μ1, ν1, om', C', KK', V', u1, u2, u3, u4⟩ := cpA h e2 e3 hhc (by omega) hoc2
    have hca : ca (kd x) = 0 := by unfold ca; rw [if_pos ha]
    have htk : f_CE_takeName x μ1 = some μ1 := by
      unfold f_CE_takeName
      rw [ar_c (kd_e x) (kd_lt x), b1_s, ha, if_neg (not_not_intro (show nI 0 = 0 from rfl))]
    obtain ⟨z1, z2⟩ := tail u1 htk e6
    refine ⟨t, μ1, μ1, ν1, om', C', U, T, KK', V', NM, A, φ, K, τ, e1, u1, htk, e4.trans u2, by omega, ?_, z1, z2⟩
    rw [hca, ha]
    exact u4
  have plm : ∀ (k v : Int32), arK (kd x) = 0 → (if ¬ (x &&& 7) = 0 then (if ¬ (x &&& 7) = 1 then (if ¬ (x &&& 7) = 6 then some (2 : Int32) else some (6 : Int32)) else some (1 : Int32)) else some (0 : Int32)) = some k → (if ¬ (x &&& 7) = 0 then some (x >>> ((3 : Int32) &&& 31)) else b1 (rd (ν 93) 8 (x >>> ((3 : Int32) &&& 31))) fun v64 => some v64) = some v → f_MO_copyWord x ν = f_MO_place (sI (sI ν 70 40 k) 70 41 v) := by
    intro k v ha e1 e2
    unfold f_MO_copyWord
    rw [ar_m (kd_e x) (kd_lt x), b1_s, ha, if_neg (not_not_intro (show nI 0 = 0 from rfl)), e1, b1_s, e2, b1_s]
    cases f_MO_place (sI (sI ν 70 40 k) 70 41 v) <;> rfl
  have tc : kd x ≠ 0 → arK (kd x) = 0 → f_CE_termOf x μ = some x := by
    intro q1 q2
    unfold f_CE_termOf
    rw [if_pos (k_ne 0 q1), ar_c (kd_e x) (kd_lt x), b1_s, q2, if_pos (by decide)]
  rcases hx with ⟨v, v1, v2⟩ | hk | ⟨nm, a, n1, n2, n3⟩ | hx
  · -- a variable
    have hkx : kd x = 0 := by rw [v2, kd_wd (by omega) (by omega)]
    obtain ⟨i, i1, i2, i3, i4⟩ := h.2.2.2.2.2.2.1 v v1 (hv v v1 v2)
    refine pl (wd i 0) 0 (nI (φ i)) (by rw [hkx]; rfl) ?_ (fun _ => by rw [kd_wd (by omega) (by omega)]; omega) (fun q => by have := hk0 q; omega) (fun _ => Or.inl ⟨i, i1, i2, rfl, rfl, rfl⟩) (plm _ _ (by rw [hkx]; rfl) ?_ ?_)
    · unfold f_CE_termOf
      rw [if_neg (not_not_intro (k_eq 0 hkx)), v2, wd_v (by omega) (by omega), rd_n (by omega) (by decide), b1_s, i3, wd_shl (by omega)]
    · rw [if_neg (not_not_intro (k_eq 0 hkx))]
    · rw [if_neg (not_not_intro (k_eq 0 hkx)), v2, wd_v (by omega) (by omega), rd_n (by omega) (by decide), b1_s, i4]
  · -- a number
    refine pl x 1 (x >>> ((3 : Int32) &&& 31)) (by rw [hk]; rfl) (tc (by omega) (by rw [hk]; rfl)) id (fun q => by have := hk0 q; omega) (fun _ => Or.inr (Or.inl ⟨hk, rfl, rfl⟩)) (plm _ _ (by rw [hk]; rfl) ?_ ?_)
    · rw [if_pos (k_ne 0 (by omega)), if_neg (not_not_intro (k_eq 1 hk))]
    · rw [if_pos (k_ne 0 (by omega))]
  · have hkx : kd x = 2 + a := by rw [n3, kd_wd (by omega) (by omega)]
    by_cases ea : a = 0
    · -- a name
      subst ea
      refine pl x 2 (nI nm) (by rw [hkx]; rfl) (tc (by omega) (by rw [hkx]; rfl)) id (fun _ => Or.inl ⟨nm, n1, n3, rfl, rfl⟩) (fun _ => Or.inr (Or.inr (Or.inl ⟨nm, n1, n3, rfl, rfl⟩))) (plm _ _ (by rw [hkx]; rfl) ?_ ?_)
      · rw [if_pos (k_ne 0 (by omega)), if_pos (k_ne 1 (by omega)), if_pos (k_ne 6 (by omega))]
      · rw [if_pos (k_ne 0 (by omega)), n3, wd_v (by omega) (by omega)]
    · have har : arK (kd x) = a := by rw [hkx]; exact arK_2 (by omega) n2
      have hca : ca (kd x) = 1 + a := by unfold ca; rw [har, if_neg ea]
      obtain ⟨μ1, μ2, ν2, om', C', U', T', KK', V', NM', A', φ', K', τ', u1, u2, u3, u4, u5⟩ := cpB h (nm := nm) (a := a) n1 (by omega) n2 hhc hom (by omega) hoc2 (by omega) (by omega)
      rw [← n3] at u2 u3
      obtain ⟨z1, z2⟩ := tail u1 u2 (fun _ => by rw [kd_wd (by omega) (by omega)]; omega)
      refine ⟨wd N 7, μ1, μ2, ν2, om', C', U', T', KK', V', NM', A', φ', K', τ', ?_, u1, u2, u3, u4, ?_, z1, z2⟩
      · unfold f_CE_termOf
        rw [if_pos (k_ne 0 (by omega)), ar_c (kd_e x) (kd_lt x), b1_s, har, if_neg (nI_nle (by omega) (by omega)), c2, wd_shl (by omega), nI_or7 (by omega)]
      · rw [hca, har, show N + (1 + a) = N + 1 + a by omega, show S + (1 + a) = S + 1 + a by omega]
        exact u5
  · -- the cut
    have hkx : kd x = 6 := by rw [hx, kd_wd (by omega) (by omega)]
    refine pl x 6 0 (by rw [hkx]; rfl) (tc (by omega) (by rw [hkx]; rfl)) id (fun _ => Or.inr (Or.inr ⟨hx, rfl, rfl⟩)) (fun q => absurd hkx (hk1 q)) (plm _ _ (by rw [hkx]; rfl) ?_ ?_)
    · rw [if_pos (k_ne 0 (by omega)), if_pos (k_ne 1 (by omega)), if_neg (not_not_intro (k_eq 6 hkx))]
    · rw [if_pos (k_ne 0 (by omega)), hx, wd_v (by omega) (by omega)]
      rfl
end CPE
