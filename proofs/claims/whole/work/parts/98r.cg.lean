section CGA
variable {g cap R : Nat} {has : Nat → Bool} {N S c tr tb nq GT P M : Nat} {φ K τ cm tm gm cs ct : Nat → Nat} {μ ν μ' ν' : Mu}
/-- the relation reads these places alone -/
theorem actR_c (h : actR g cap R has N S c tr tb nq GT P M φ K τ cm tm gm cs ct μ ν) (hR16 : R ≤ 16) (hGT : GT < 2 ^ 29) (hμ : ∀ k, k = 41 ∨ k = 42 ∨ (59 ≤ k ∧ k ≤ 63) ∨ k = g ∨ k = g + 1 ∨ k = g + 2 ∨ k = g + 3 ∨ k < 37 ∨ k = 38 → μ' k = μ k) (h1 : μ' 40 1 = μ 40 1) (h3 : μ' 40 3 = μ 40 3) (h5 : μ' 58 5 = μ 58 5) (h9 : μ' 37 9 = μ 37 9) (h10 : μ' 37 10 = μ 37 10) (hν : ∀ k, 74 ≤ k → k ≤ 87 → ν' k = ν k) (h90 : ν' 90 = ν 90) (h70 : ∀ j, j = 12 ∨ j = 13 ∨ j = 16 ∨ j = 17 ∨ j = 18 ∨ j = 23 ∨ j = 34 → ν' 70 j = ν 70 j) : actR g cap R has N S c tr tb nq GT P M φ K τ cm tm gm cs ct μ' ν' := by
  obtain ⟨hR, ⟨p1, p2, p3⟩, ⟨n1, n2, n3, n4⟩, htrl, hseg, hdn, hmrk, hrows, hchg, hcur, hque, hseen, hpot, hbnd, hmk, hlow⟩ := h
  have e41 := hμ 41 (by omega)
  have e42 := hμ 42 (by omega)
  refine ⟨?_, ⟨h1.trans p1, h3.trans p2, h5.trans p3⟩, ⟨?_, ?_, ?_, ?_⟩, ?_, ?_, ?_, hmrk, fun j hj => ?_, ?_, ?_, ?_, fun p hp => ?_, ?_, ?_, ?_, ?_⟩
  · rw [e41, hν 74 (by omega) (by omega), hν 75 (by omega) (by omega), hν 76 (by omega) (by omega), hν 77 (by omega) (by omega), hν 78 (by omega) (by omega), hν 79 (by omega) (by omega)]; exact hR
  · rw [h70 12 (by omega)]; exact n1
  · rw [h70 23 (by omega)]; exact n2
  · rw [h70 18 (by omega)]; exact n3
  · rw [h70 13 (by omega)]; exact n4
  · rw [e41, e42]; exact htrl
  · rw [e42, hν 86 (by omega) (by omega)]; exact hseg
  · rw [e41, e42]; exact hdn
  · rw [hμ 61 (by omega), hμ 62 (by omega), hμ 63 (by omega), hν 84 (by omega) (by omega), hν 85 (by omega) (by omega)]; exact hrows j hj
  · exact chg_c (N := N) hchg (fun j hj => (hmrk.1 j hj).1) hR.1 hGT hR16 (fun k hk => hμ k (by omega)) (fun k a b => hν k (by omega) (by omega)) (fun i _ _ => by rw [e41])
  · unfold curR
    rw [hμ g (by omega), hμ (g + 1) (by omega), hμ (g + 2) (by omega), hν 80 (by omega) (by omega), hν 81 (by omega) (by omega), h9, h10, h70 16 (by omega), h70 17 (by omega), e41]
    obtain ⟨a1, a2, a3, a4⟩ := hcur
    refine ⟨a1, a2, a3, ?_⟩
    rcases a4 with a4 | ⟨r, pp, d1, d0, d2, d3, d4, d5⟩
    · exact Or.inl a4
    · exact Or.inr ⟨r, pp, d1, d0, d2, d3, d4, by rw [hμ (6 + 2 * r) (by omega)]; exact d5⟩
  · unfold queR
    rw [hμ 38 (by omega), hν 87 (by omega) (by omega)]; exact hque
  · rw [hμ (g + 3) (by omega)]; exact hseen p hp
  · rw [e41]; exact hpot
  · rw [hν 86 (by omega) (by omega)]; exact hbnd
  · unfold mkB
    rw [h90, h70 34 (by omega)]; exact hmk
  · rw [e42]; exact hlow
theorem cnt_two {p q : Nat → Bool} (n : Nat) : cnt p n = cnt (fun i => p i && q i) n + cnt (fun i => p i && !q i) n := by
  induction n with
  | zero => rfl
  | succ n ih =>
    rw [cnt_s, cnt_s, cnt_s, ih]
    cases p n <;> cases q n <;> simp <;> omega
end CGA
