/-! what a method leaves alone: the tools -/
section FRZ
theorem sI_f {μ : Mu} {a b k j : Nat} {x : Int32} (h : ¬ (k = a ∧ j = b)) : sI μ a b x k j = μ k j := by
  by_cases e : k = a
  · subst e
    exact sI_nj (fun q => h ⟨rfl, q⟩)
  · rw [sI_nk e]
theorem wr_f {μ μ1 : Mu} {a n k j : Nat} {i x : Int32} (h : wr μ a n i x = some μ1) (hk : k ≠ a) : μ1 k j = μ k j := by
  rw [← (wr_e h).2, sI_nk hk]
theorem wz_f {μ μ1 : Mu} {a n k j : Nat} {i x : Int32} (h : wz μ a n i x = some μ1) (hk : k ≠ a) : μ1 k j = μ k j := by
  rw [← (wz_e h).2.2, sI_nk hk]
theorem gk_ne0 {g k : Nat} (hg : gPb g = true) (h : k < 54 ∨ (58 ≤ k ∧ k < 99)) : k ≠ g := by
  rcases gP_or hg with e | e <;> omega
theorem gk_ne1 {g k : Nat} (hg : gPb g = true) (h : k < 54 ∨ (58 ≤ k ∧ k < 99)) : k ≠ g + 1 := by
  rcases gP_or hg with e | e <;> omega
theorem gk_ne2 {g k : Nat} (hg : gPb g = true) (h : k < 54 ∨ (58 ≤ k ∧ k < 99)) : k ≠ g + 2 := by
  rcases gP_or hg with e | e <;> omega
theorem gk_ne3 {g k : Nat} (hg : gPb g = true) (h : k < 54 ∨ (58 ≤ k ∧ k < 99)) : k ≠ g + 3 := by
  rcases gP_or hg with e | e <;> omega
theorem ck_ne {k q : Nat} {i : Int32} (hx : clA i = some q) (h : k < 5 ∨ 36 < k) : k ≠ q ∧ k ≠ q + 1 := by
  obtain ⟨h1, h2, -⟩ := clA_e hx
  have h3 : i.toNatClampNeg < 16 := Nat.not_le.mp fun q => h1 (Or.inr q)
  omega
theorem fr_GO_w3 {g cap : Nat} {x0 x1 x2 x3 : Int32} {μ μ1 : Mu} {k j : Nat} (hg : gPb g = true) (h : f_GO_w3 g cap x0 x1 x2 x3 μ = some μ1) (hW : k < 54 ∨ (58 ≤ k ∧ k < 99)) : μ1 k j = μ k j := by
  unfold f_GO_w3 at h
  obtain ⟨μ2, e1, h⟩ := b1_e h
  obtain ⟨μ3, e2, h⟩ := b1_e h
  exact (wr_f h (gk_ne2 hg hW)).trans ((wr_f e2 (gk_ne1 hg hW)).trans (wr_f e1 (gk_ne0 hg hW)))
theorem fr_GO_set {n : Nat} {acc : Nat × Nat} {g cap : Nat} {x0 x1 x2 x3 : Int32} {μ : Mu} {k j : Nat} {nr : Nat} {ar : Nat × Nat} {gr cr : Nat} {μr : Mu} (h : f_GO_set n acc g cap x0 x1 x2 x3 μ = some (nr, ar, gr, cr, μr)) (hW : k < 54 ∨ (58 ≤ k ∧ k < 99)) : μr k j = μ k j := by
  unfold f_GO_set at h
  by_cases hg : gPb g = true
  rotate_left
  · rw [if_neg hg] at h
    cases h
  rw [if_pos hg] at h
  by_cases c : x0 < Int32.ofNat cap
  · rw [if_pos c] at h
    obtain ⟨μ1, e1, h⟩ := b1_e h
    cases h
    exact fr_GO_w3 hg e1 hW
  · rw [if_neg c] at h
    by_cases q : 99 ≤ n ∧ g + 3 < n ∧ 0 < cap ∧ 2 * cap ≤ 100000
    · rw [if_pos q] at h
      obtain ⟨μ1, e1, h⟩ := b1_e h
      cases h
      have hP : gPb n = true := by
        unfold gPb
        rw [Bool.or_eq_true]
        exact Or.inr (Nat.ble_eq_true_of_le q.1)
      have e8 : gwM n g cap μ k = μ k := (upM_ne (by omega)).trans ((upM_ne (by omega)).trans ((upM_ne (by omega)).trans (upM_ne (by omega))))
      rw [fr_GO_w3 hP e1 hW, e8]
    · rw [if_neg q] at h
      cases h
end FRZ
