/-! copying: open arguments -/
section CPA
variable {C U T KK V NM A : Nat → Int32} {N S : Nat} {φ K τ : Nat → Nat}
/-- an argument's cell gets its term -/
theorem fil_Q {X : Nat → Prop} (hR : cellsQ X C U T KK V NM A N S φ K τ) {o : Nat} (ho : o < N) (hKo : K o = 3) (own : ∃ j a nm, j < o ∧ K j = 2 ∧ a ≤ 3 ∧ C j = wd nm (2 + a) ∧ nm < 32 ∧ o ≤ j + a) {t k v : Int32} (ht : tmR N φ K t k v) : cellsQ (fun i => X i ∧ i ≠ o) (upd C o t) U T (upd KK (φ o) k) (upd V (φ o) v) NM A N S φ K τ := by
  have hR0 := hR
  obtain ⟨a1, a2, a3, a4, a5, a6, a7⟩ := hR
  refine ⟨a1, a2, a3, a4, a5, a6, fun i hi hx => ?_⟩
  by_cases e : i = o
  · subst e
    obtain ⟨j, a, nm, h1, h2, h3, h4, h5, h6⟩ := own
    refine Or.inr (Or.inr ⟨hKo, ?_, j, a, nm, h1, h2, h3, ?_, h5, h6⟩)
    · rw [upd_a, upd_a, upd_a]; exact ht
    · rw [upd_n (by omega)]; exact h4
  · have hc := a7 i hi (fun q => hx ⟨q, e⟩)
    have hne : φ i ≠ φ o := fun q => e (Q_inj hR0 hi ho q)
    unfold cellR
    rw [upd_n e, upd_n hne, upd_n hne]
    rcases hc with h | h | ⟨h1, h2, j, a, nm, h3, h4, h5, h6, h7, h8⟩
    · exact Or.inl h
    · exact Or.inr (Or.inl h)
    · refine Or.inr (Or.inr ⟨h1, h2, j, a, nm, h3, h4, h5, ?_, h7, h8⟩)
      rw [upd_n (fun q => by rw [q] at h4; omega)]
      exact h6
/-- the open arguments of both: om structures of the reference, oc cells of the class; all behind N0 -/
def opR (N0 : Nat) (C : Nat → Int32) (N : Nat) (φ K : Nat → Nat) (R44 R94 R95 : Nat → Int32) : Nat → Nat → Prop
  | 0, oc => oc = 0
  | om + 1, oc => ∃ i a nm nx oc', N0 ≤ i ∧ i + a < N ∧ K i = 2 ∧ 1 ≤ a ∧ a ≤ 3 ∧ nm < 32 ∧ C i = wd nm (2 + a) ∧ nx ≤ a ∧ R94 om = nI (φ i) ∧ R95 om = nI nx ∧ oc = oc' + (a - nx) ∧ (∀ m, nx ≤ m → m < a → R44 (oc' + (a - 1 - m)) = nI (i + 1 + m)) ∧ (∀ m, m < a → K (i + 1 + m) = 3) ∧ opR N0 C N φ K R44 R94 R95 om oc'
theorem opR_m {N0 N' : Nat} {C' : Nat → Int32} {φ' K' : Nat → Nat} {R44 R94 R95 R44' R94' R95' : Nat → Int32} (hN : N ≤ N') (hφ : ∀ i, i < N → φ' i = φ i) (hK : ∀ i, i < N → K' i = K i) (hC : ∀ i, i < N → K i = 2 → C' i = C i) (om : Nat) : ∀ oc, opR N0 C N φ K R44 R94 R95 om oc → (∀ x, x < oc → R44' x = R44 x) → (∀ x, x < om → R94' x = R94 x ∧ R95' x = R95 x) → opR N0 C' N' φ' K' R44' R94' R95' om oc := by
  induction om with
  | zero => intro oc h _ _; exact h
  | succ om ih =>
    intro oc h h1 h2
    obtain ⟨i, a, nm, nx, oc', g1, g2, g3, g4, g5, g6, g7, g8, g9, g10, g11, g12, g13, g14⟩ := h
    refine ⟨i, a, nm, nx, oc', g1, by omega, by rw [hK i (by omega)]; exact g3, g4, g5, g6, by rw [hC i (by omega) g3]; exact g7, g8, ?_, ?_, g11, fun m q1 q2 => ?_, fun m q => ?_, ih oc' g14 (fun x hx => h1 x (by omega)) (fun x hx => h2 x (by omega))⟩
    · rw [(h2 om (by omega)).1, hφ i (by omega)]; exact g9
    · rw [(h2 om (by omega)).2]; exact g10
    · rw [h1 _ (by omega)]; exact g12 m q1 q2
    · rw [hK _ (by omega)]; exact g13 m q
/-- what the class's row of open cells holds -/
theorem opR_e {N0 : Nat} {R44 R94 R95 : Nat → Int32} (om : Nat) : ∀ oc, opR N0 C N φ K R44 R94 R95 om oc → ∀ x, x < oc → ∃ i, N0 < i ∧ i < N ∧ K i = 3 ∧ R44 x = nI i := by
  induction om with
  | zero => intro oc h x hx; have : oc = 0 := h; omega
  | succ om ih =>
    intro oc h x hx
    obtain ⟨i, a, nm, nx, oc', g1, g2, g3, g4, g5, g6, g7, g8, g9, g10, g11, g12, g13, g14⟩ := h
    by_cases e : x < oc'
    · exact ih oc' g14 x e
    · have := g12 (a - 1 - (x - oc')) (by omega) (by omega)
      rw [show oc' + (a - 1 - (a - 1 - (x - oc'))) = x by omega] at this
      exact ⟨i + 1 + (a - 1 - (x - oc')), by omega, by omega, g13 _ (by omega), this⟩
/-- the reference drops the structures that are full -/
theorem pop_s {N0 : Nat} {X : Nat → Prop} (hR : cellsQ X C U T KK V NM A N S φ K τ) (hX : ∀ i, i < N → X i → K i = 3) (om : Nat) : ∀ (fl oc : Nat) (R44 : Nat → Int32) (ν : Mu), om < fl → om ≤ 40 → okM KK V NM A ν → ν 70 43 = nI om → opR N0 C N φ K R44 (ν 94) (ν 95) om oc →
    ∃ om' ν', f_MO_place_112 fl ν = some ν' ∧ om' ≤ om ∧ ν' = sI ν 70 43 (nI om') ∧ opR N0 C N φ K R44 (ν 94) (ν 95) om' oc ∧ (om' = 0 ∨ 0 < oc) ∧ (∀ o2, om' = o2 + 1 → ∃ i a nm nx oc', N0 ≤ i ∧ i + a < N ∧ K i = 2 ∧ 1 ≤ a ∧ a ≤ 3 ∧ nm < 32 ∧ C i = wd nm (2 + a) ∧ nx < a ∧ ν 94 o2 = nI (φ i) ∧ ν 95 o2 = nI nx ∧ oc = oc' + (a - nx) ∧ (∀ m, nx ≤ m → m < a → R44 (oc' + (a - 1 - m)) = nI (i + 1 + m)) ∧ (∀ m, m < a → K (i + 1 + m) = 3) ∧ opR N0 C N φ K R44 (ν 94) (ν 95) o2 oc') := by
  have hN := hR.1
  induction om with
  | zero =>
    intro fl oc R44 ν hfl hom hok h43 hop
    cases fl with
    | zero => omega
    | succ fl =>
    refine ⟨0, ν, ?_, Nat.le_refl _, (sI_same h43).symm, hop, Or.inl rfl, fun o2 q => by omega⟩
    unfold f_MO_place_112
    rw [h43, if_pos (by decide)]
  | succ om ih =>
    intro fl oc R44 ν hfl hom hok h43 hop
    cases fl with
    | zero => omega
    | succ fl =>
    have hop0 := hop
    obtain ⟨i, a, nm, nx, oc', g1, g2, g3, g4, g5, g6, g7, g8, g9, g10, g11, g12, g13, g14⟩ := hop
    have hi : i < N := by omega
    obtain ⟨p1, -⟩ := hR.2.2.1 i hi
    have hNM : NM (φ i) = wd nm (2 + a) := by
      rcases hR.2.2.2.2.2.2 i hi (fun q => by have := hX i hi q; omega) with ⟨q, -⟩ | ⟨-, a', nm', q1, q2, q3, q4, q5, -⟩ | ⟨q, -⟩
      · omega
      · rw [q5]; exact g7
      · omega
    have hun : f_MO_place_112 (fl + 1) ν = if ¬ nI nx = nI a then some ν else f_MO_place_112 fl (sI ν 70 43 (nI om)) := by
      rw [f_MO_place_112]
      rw [h43, if_neg (nI_nle (by omega) (by omega)), nI_pred, rd_n (by omega) (by decide), b1_s, rd_n (by omega) (by decide), b1_s, g9, hok.2.2.1, rd_n p1 (by decide), b1_s, hNM, ar_s g6 g4 g5, b1_s, g10]
    by_cases e : nx = a
    · subst e
      obtain ⟨om', ν', u1, u2, u3, u4, u5, u6⟩ := ih fl oc' R44 (sI ν 70 43 (nI om)) (by omega) (by omega) hok rfl g14
      have eo : oc = oc' := by omega
      subst eo
      refine ⟨om', ν', ?_, by omega, ?_, u4, u5, u6⟩
      · rw [hun, if_neg (not_not_intro rfl)]; exact u1
      · rw [u3, sI_sI]
    · refine ⟨om + 1, ν, ?_, Nat.le_refl _, (sI_same h43).symm, hop0, Or.inr (by omega), fun o2 q => ?_⟩
      · rw [hun, if_pos (fun q => e ((nI_eq (by omega) (by omega)).mp q))]
      · have e2 : o2 = om := by omega
        subst e2
        exact ⟨i, a, nm, nx, oc', g1, g2, g3, g4, g5, g6, g7, by omega, g9, g10, g11, g12, g13, g14⟩
end CPA
