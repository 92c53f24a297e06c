/-! binding: class and reference alike -/
section BDA
variable {C U T KK V NM A : Nat → Int32} {N S : Nat} {φ K τ : Nat → Nat}
theorem upd_a {f : Nat → Int32} {k : Nat} {x : Int32} : upd f k x k = x := if_pos rfl
theorem upd_n {f : Nat → Int32} {k j : Nat} {x : Int32} (h : j ≠ k) : upd f k x j = f j := if_neg h
theorem sI_r {μ : Mu} {k j : Nat} {x : Int32} : sI μ k j x k = upd (μ k) j x := upM_at
theorem bind_R (hR : cellsR C U T KK V NM A N S φ K τ) {ix : Nat} (hix : ix < N) (hK : K ix = 1) {t k v : Int32} (ht : tmR N φ K t k v) (hlow : ∀ j, j < N → t = wd j 0 → j < ix) : cellsR (upd C ix t) U T (upd KK (φ ix) k) (upd V (φ ix) v) NM A N S φ K τ := by
  have hR0 := hR
  obtain ⟨hN, hS, hφ, hτ, hu, hc⟩ := hR
  refine ⟨hN, hS, hφ, hτ, hu, fun i hi => ?_⟩
  by_cases e : i = ix
  · subst e
    refine Or.inl ⟨hK, Or.inr ?_⟩
    rw [upd_a, upd_a, upd_a]
    exact ⟨fun q => by have := hlow i hi q; omega, ht, hlow⟩
  · have hne : φ i ≠ φ ix := fun q => e (phi_inj hR0 hi hix q)
    unfold cellR
    rw [upd_n e, upd_n hne, upd_n hne]
    rcases hc i hi with h | h | ⟨h1, h2, j, a, nm, h3, h4, h5, h6, h7, h8⟩
    · exact Or.inl h
    · exact Or.inr (Or.inl h)
    · refine Or.inr (Or.inr ⟨h1, h2, j, a, nm, h3, h4, h5, ?_, h7, h8⟩)
      rw [upd_n (fun q => by rw [q] at h4; omega)]
      exact h6
/-- free variables -/
def frc (C : Nat → Int32) (K : Nat → Nat) (N : Nat) : Nat := cnt (fun i => decide (K i = 1 ∧ C i = wd i 0)) N
theorem frc_b {ix : Nat} {t : Int32} (hix : ix < N) (hK : K ix = 1) (hf : C ix = wd ix 0) (ht : t ≠ wd ix 0) : frc C K N = frc (upd C ix t) K N + 1 := by
  unfold frc
  refine cnt_set (k := ix) hix (fun j hj hne => ?_) (decide_eq_false fun q => ht ?_) (decide_eq_true ⟨hK, hf⟩)
  · rw [upd_n hne]
  · have := q.2
    rw [upd_a] at this
    exact this
/-- both trails, since a time when they held tr and tb: the same variables were bound -/
def trA (C : Nat → Int32) (N : Nat) (φ K : Nat → Nat) (C0 TR0 B0 : Nat → Int32) (tr tb n : Nat) (μ ν : Mu) : Prop :=
  μ 40 3 = nI (tr + n) ∧ ν 70 23 = nI (tb + n) ∧ (∀ x, x < tr → μ 42 x = TR0 x) ∧ (∀ x, x < tb → ν 86 x = B0 x) ∧ (∀ i, i < N → C0 i ≠ wd i 0 → C i = C0 i) ∧ (∀ i, i < N → K i ≠ 1 → C i = C0 i) ∧
  (∀ x, x < n → ∃ i, i < N ∧ K i = 1 ∧ C0 i = wd i 0 ∧ C i ≠ wd i 0 ∧ μ 42 (tr + x) = wd i 0 ∧ ν 86 (tb + x) = nI (φ i)) ∧ (∀ i, i < N → K i = 1 → C0 i = wd i 0 → C i ≠ wd i 0 → ∃ x, x < n ∧ μ 42 (tr + x) = wd i 0) ∧ ∀ x y, x < y → y < n → μ 42 (tr + x) ≠ μ 42 (tr + y)
/-- the bind of both -/
theorem bind_s (hR : cellsR C U T KK V NM A N S φ K τ) {ix : Nat} (hix : ix < N) (hK : K ix = 1) (hf : C ix = wd ix 0) {t k v : Int32} (ht : tmR N φ K t k v) (hlow : ∀ j, j < N → t = wd j 0 → j < ix) {C0 TR0 B0 : Nat → Int32} {tr tb n : Nat} {μ ν : Mu} (hT : trA C N φ K C0 TR0 B0 tr tb n μ ν) (hμ : μ 41 = C) (hok : okM KK V NM A ν) (h1 : tr + n + frc C K N ≤ 240) (h2 : tb + n + frc C K N ≤ 2600) :
    f_CE_bind (wd ix 0) t μ = some (sI (sI (sI μ 41 ix t) 42 (tr + n) (wd ix 0)) 40 3 (nI (tr + n + 1))) ∧ f_MO_bind (nI (φ ix)) k v ν = some (sI (sI (sI (sI ν 76 (φ ix) k) 77 (φ ix) v) 86 (tb + n) (nI (φ ix))) 70 23 (nI (tb + n + 1))) ∧
    trA (upd C ix t) N φ K C0 TR0 B0 tr tb (n + 1) (sI (sI (sI μ 41 ix t) 42 (tr + n) (wd ix 0)) 40 3 (nI (tr + n + 1))) (sI (sI (sI (sI ν 76 (φ ix) k) 77 (φ ix) v) 86 (tb + n) (nI (φ ix))) 70 23 (nI (tb + n + 1))) ∧ frc C K N = frc (upd C ix t) K N + 1 := by
  have hN := hR.1
  obtain ⟨a1, -⟩ := hR.2.2.1 ix hix
  have htn : t ≠ wd ix 0 := fun q => by have := hlow ix hix q; omega
  have hfr := frc_b hix hK hf htn
  obtain ⟨e1, e2, e3, e4, e5, e6, e7, e8, e9⟩ := hT
  have hC0 : C0 ix = wd ix 0 := Classical.byContradiction fun q => q ((e5 ix hix q).symm.trans hf)
  refine ⟨?_, ?_, ⟨rfl, rfl, fun x hx => ?_, fun x hx => ?_, fun i hi q => ?_, fun i hi q => ?_, fun x hx => ?_, fun i hi q1 q2 q3 => ?_, fun x y hx hy => ?_⟩, hfr⟩
  · unfold f_CE_bind
    rw [wd_v (by omega) (by omega), wr_n (by omega) (by decide), b1_s, show sI μ 41 ix t 40 3 = nI (tr + n) from e1, wr_n (by omega) (by decide), b1_s]
    show some (sI _ 40 3 (μ 40 3 + 1)) = _
    rw [e1, nI_1]
  · unfold f_MO_bind
    rw [wr_n a1 (by decide), b1_s, wr_n a1 (by decide), b1_s, show sI (sI ν 76 (φ ix) k) 77 (φ ix) v 70 23 = nI (tb + n) from e2, wr_n (by omega) (by decide), b1_s]
    show some (sI _ 70 23 (ν 70 23 + 1)) = _
    rw [e2, nI_1]
  · show sI (sI μ 41 ix t) 42 (tr + n) (wd ix 0) 42 x = TR0 x
    rw [sI_nj (by omega)]
    exact e3 x hx
  · show sI (sI (sI ν 76 (φ ix) k) 77 (φ ix) v) 86 (tb + n) (nI (φ ix)) 86 x = B0 x
    rw [sI_nj (by omega)]
    exact e4 x hx
  · rw [upd_n (fun e => by rw [e] at q; exact q hC0)]; exact e5 i hi q
  · rw [upd_n (fun e => by rw [e] at q; exact q hK)]; exact e6 i hi q
  · show ∃ i, i < N ∧ K i = 1 ∧ C0 i = wd i 0 ∧ upd C ix t i ≠ wd i 0 ∧ sI (sI μ 41 ix t) 42 (tr + n) (wd ix 0) 42 (tr + x) = wd i 0 ∧ sI (sI (sI ν 76 (φ ix) k) 77 (φ ix) v) 86 (tb + n) (nI (φ ix)) 86 (tb + x) = nI (φ i)
    by_cases e : x = n
    · subst e
      exact ⟨ix, hix, hK, hC0, by rw [upd_a]; exact htn, sI_at, sI_at⟩
    · obtain ⟨i, f1, f2, f3, f4, f5, f6⟩ := e7 x (by omega)
      refine ⟨i, f1, f2, f3, ?_, by rw [sI_nj (by omega)]; exact f5, by rw [sI_nj (by omega)]; exact f6⟩
      by_cases ei : i = ix
      · subst ei; exact absurd hf f4
      · rw [upd_n ei]; exact f4
  · show ∃ x, x < n + 1 ∧ sI (sI μ 41 ix t) 42 (tr + n) (wd ix 0) 42 (tr + x) = wd i 0
    by_cases ei : i = ix
    · subst ei; exact ⟨n, by omega, sI_at⟩
    · rw [upd_n ei] at q3
      obtain ⟨x, f1, f2⟩ := e8 i hi q1 q2 q3
      exact ⟨x, by omega, by rw [sI_nj (by omega)]; exact f2⟩
  · show sI (sI μ 41 ix t) 42 (tr + n) (wd ix 0) 42 (tr + x) ≠ sI (sI μ 41 ix t) 42 (tr + n) (wd ix 0) 42 (tr + y)
    rw [sI_nj (by omega)]
    by_cases e : y = n
    · subst e
      rw [sI_at]
      intro q
      obtain ⟨i, f1, f2, f3, f4, f5, f6⟩ := e7 x hx
      have q2 : μ 42 (tr + x) = wd ix 0 := q
      rw [f5] at q2
      have ei := ((wd_eq (by omega) (by omega) (by omega) (by omega)).mp q2).1
      rw [ei] at f4
      exact f4 hf
    · rw [sI_nj (by omega)]
      exact e9 x y hx (by omega)
end BDA
