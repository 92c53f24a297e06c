section TKB
variable {C U T KK V NM A : Nat → Int32} {N S : Nat} {φ K τ : Nat → Nat}
theorem take_Q {X : Nat → Prop} (hR : cellsQ X C U T KK V NM A N S φ K τ) (hN : N < 240) (hS : S + 1 < 2 ^ 30) {ν : Mu} (h74 : ν 74 = U) (h75 : ν 75 = T) (h76 : ν 76 = KK) (h77 : ν 77 = V) (h12 : ν 70 12 = nI S) {k : Nat} (hk : k = 1 ∨ k = 2 ∨ k = 3) :
    ∃ c ν', c < 240 ∧ (∀ i, i < N → φ i ≠ c) ∧ f_MO_take (nI k) ν = some (nI c, ν') ∧ ν' 74 = upd U c (nI k) ∧ ν' 75 = upd T c (nI S) ∧ ν' 76 = upd KK c (-1) ∧ ν' 77 = upd V c 0 ∧ ν' 70 12 = nI (S + 1) ∧ cellsQ (fun i => X i ∨ i = N) C (upd U c (nI k)) (upd T c (nI S)) (upd KK c (-1)) (upd V c 0) NM A (N + 1) (S + 1) (upn φ N c) (upn K N k) (upn τ N S) := by
  obtain ⟨c, h1, h2, h3⟩ := take_f hR hN h74 (nI k)
  have hfr : ∀ i, i < N → φ i ≠ c := by
    intro i hi q
    obtain ⟨-, h5, -⟩ := hR.2.2.1 i hi
    rw [q, h2] at h5
    have := hR.2.2.2.2.2.1 i hi
    rcases this with e | e | e <;> rw [e] at h5 <;> exact absurd h5 (by decide)
  obtain ⟨a1, a2, a3, a4, a5, a6, a7⟩ := hR
  refine ⟨c, sI (sI (sI (sI (sI ν 74 c (nI k)) 75 c (nI S)) 70 12 (nI (S + 1))) 76 c (-1)) 77 c 0, h1, hfr, ?_, ?_, ?_, ?_, ?_, rfl, by omega, by omega, fun i hi => ?_, fun i j hi hj => ?_, fun d hd => ?_, fun i hi => ?_, fun i hi hx => ?_⟩
  · unfold f_MO_take
    rw [h3, b1_s, wr_n h1 (by decide), b1_s, show sI ν 74 c (nI k) 70 12 = nI S from h12, wr_n h1 (by decide), b1_s, show sI (sI ν 74 c (nI k)) 75 c (nI S) 70 12 = nI S from h12, nI_1, wr_n h1 (by decide), b1_s, wr_n h1 (by decide), b1_s]
  · rw [← h74]; show sI ν 74 c (nI k) 74 = _; exact sI_r
  · rw [← h75]; show sI (sI ν 74 c (nI k)) 75 c (nI S) 75 = _; exact sI_r
  · rw [← h76]; show sI (sI (sI (sI ν 74 c (nI k)) 75 c (nI S)) 70 12 (nI (S + 1))) 76 c (-1) 76 = _; exact sI_r
  · rw [← h77]; exact sI_r
  · by_cases e : i = N
    · subst e
      rw [upn_a, upn_a, upn_a, upd_a, upd_a]
      exact ⟨h1, rfl, rfl, by omega⟩
    · obtain ⟨b1, b2, b3, b4⟩ := a3 i (by omega)
      rw [upn_n e, upn_n e, upn_n e, upd_n (hfr i (by omega)), upd_n (hfr i (by omega))]
      exact ⟨b1, b2, b3, by omega⟩
  · by_cases e : j = N
    · subst e
      rw [upn_a, upn_n (by omega)]
      exact (a3 i hi).2.2.2
    · rw [upn_n e, upn_n (by omega)]
      exact a4 i j hi (by omega)
  · by_cases e : d = c
    · subst e; exact Or.inr ⟨N, by omega, upn_a⟩
    · rw [upd_n e]
      rcases a5 d hd with q | ⟨i, q1, q2⟩
      · exact Or.inl q
      · exact Or.inr ⟨i, by omega, by rw [upn_n (by omega)]; exact q2⟩
  · by_cases e : i = N
    · subst e; rw [upn_a]; exact hk
    · rw [upn_n e]; exact a6 i (by omega)
  · have e : i ≠ N := fun q => hx (Or.inr q)
    have hi2 : i < N := by omega
    exact cellR_m (a7 i hi2 (fun q => hx (Or.inl q))) hi2 (by omega) (by omega) (by omega) (fun j hj => upn_n (by omega)) (fun j hj => upn_n (by omega)) (fun _ _ => rfl) (upd_n (hfr i hi2)) (upd_n (hfr i hi2)) rfl (fun _ _ => rfl)
/-- what lies behind the last cell does not matter -/
theorem Q_C {X : Nat → Prop} (hR : cellsQ X C U T KK V NM A N S φ K τ) {C' : Nat → Int32} (hC : ∀ i, i < N → C' i = C i) : cellsQ X C' U T KK V NM A N S φ K τ := by
  obtain ⟨a1, a2, a3, a4, a5, a6, a7⟩ := hR
  exact ⟨a1, a2, a3, a4, a5, a6, fun i hi hx => cellR_m (a7 i hi hx) hi (Nat.le_refl _) a1 a1 (fun _ _ => rfl) (fun _ _ => rfl) hC rfl rfl rfl (fun _ _ => rfl)⟩
theorem Q_X {X X' : Nat → Prop} (hR : cellsQ X C U T KK V NM A N S φ K τ) (h : ∀ i, i < N → ¬ X' i → X i → cellR C KK V NM A N φ K i) : cellsQ X' C U T KK V NM A N S φ K τ := by
  obtain ⟨a1, a2, a3, a4, a5, a6, a7⟩ := hR
  refine ⟨a1, a2, a3, a4, a5, a6, fun i hi hx => ?_⟩
  by_cases e : X i
  · exact h i hi hx e
  · exact a7 i hi e
/-- a name's word and the places of its arguments are written where no other cell's are -/
theorem Q_NA {X : Nat → Prop} (hR : cellsQ X C U T KK V NM A N S φ K τ) {NM' A' : Nat → Int32} (h1 : ∀ i, i < N → ¬ X i → NM' (φ i) = NM (φ i)) (h2 : ∀ i m, i < N → ¬ X i → m < 3 → A' (3 * φ i + m) = A (3 * φ i + m)) : cellsQ X C U T KK V NM' A' N S φ K τ := by
  obtain ⟨a1, a2, a3, a4, a5, a6, a7⟩ := hR
  exact ⟨a1, a2, a3, a4, a5, a6, fun i hi hx => cellR_m (a7 i hi hx) hi (Nat.le_refl _) a1 a1 (fun _ _ => rfl) (fun _ _ => rfl) (fun _ _ => rfl) rfl rfl (h1 i hi hx) (fun m hm => h2 i m hi hx hm)⟩
/-- a variable's cell is taken -/
theorem take_v {X : Nat → Prop} (hR : cellsQ X C U T KK V NM A N S φ K τ) (hN : N < 240) (hS : S + 1 < 2 ^ 30) {ν : Mu} (h74 : ν 74 = U) (h75 : ν 75 = T) (hok : okM KK V NM A ν) (h12 : ν 70 12 = nI S) :
    ∃ c ν', c < 240 ∧ f_MO_take 1 ν = some (nI c, ν') ∧ ν' 74 = upd U c 1 ∧ ν' 75 = upd T c (nI S) ∧ ν' 76 = upd KK c (-1) ∧ ν' 77 = upd V c 0 ∧ ν' 70 12 = nI (S + 1) ∧ cellsQ X (upd C N (wd N 0)) (upd U c 1) (upd T c (nI S)) (upd KK c (-1)) (upd V c 0) NM A (N + 1) (S + 1) (upn φ N c) (upn K N 1) (upn τ N S) := by
  obtain ⟨c, ν', e1, e2, e3, e4, e5, e6, e7, e8, e9⟩ := take_Q (Q_C hR (C' := upd C N (wd N 0)) (fun i hi => upd_n (by omega))) hN hS h74 h75 hok.1 hok.2.1 h12 (k := 1) (Or.inl rfl)
  refine ⟨c, ν', e1, e3, e4, e5, e6, e7, e8, Q_X e9 (fun i hi q1 q2 => ?_)⟩
  have e : i = N := q2.resolve_left q1
  subst e
  refine Or.inl ⟨upn_a, Or.inl ⟨upd_a, ?_⟩⟩
  rw [upn_a]; exact upd_a
end TKB
