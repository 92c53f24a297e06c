/-! copying a word: class and reference alike -/
section CPC
def cpI (N0 S0 F : Nat) (has : Nat → Bool) (C0 : Nat → Int32) (φ0 K0 τ0 : Nat → Nat) (C U T KK V NM A : Nat → Int32) (N S : Nat) (φ K τ : Nat → Nat) (oc hc om : Nat) (μ ν : Mu) : Prop :=
  cellsQ (fun i => ∃ x, x < oc ∧ μ 44 x = nI i) C U T KK V NM A N S φ K τ ∧ (μ 41 = C ∧ μ 40 1 = nI N ∧ μ 40 6 = nI oc ∧ μ 40 8 = nI hc) ∧ (ν 74 = U ∧ ν 75 = T ∧ okM KK V NM A ν ∧ ν 70 12 = nI S ∧ ν 70 43 = nI om ∧ ν 70 46 = nI hc) ∧ opT N0 C N φ K (μ 44) (ν 94) (ν 95) om oc ∧ (∀ x y, x < y → y < oc → μ 44 x ≠ μ 44 y) ∧ (∀ x, x < hc → gtR N φ K (μ 45 x) (ν 96 x) (ν 97 x)) ∧ (∀ v, v < 8 → has v = true → ∃ i, i < N ∧ K i = 1 ∧ μ 43 v = nI i ∧ ν 93 v = nI (φ i)) ∧ N0 ≤ N ∧ (∀ i, i < N0 → C i = C0 i ∧ φ i = φ0 i ∧ K i = K0 i ∧ τ i = τ0 i) ∧ frc C K N ≤ F ∧ (S0 ≤ S ∧ ∀ i, N0 ≤ i → i < N → S0 ≤ τ i)
variable {N0 S0 F : Nat} {has : Nat → Bool} {C0 : Nat → Int32} {φ0 K0 τ0 : Nat → Nat} {C U T KK V NM A : Nat → Int32} {N S : Nat} {φ K τ : Nat → Nat} {oc hc om : Nat} {μ ν : Mu}
theorem frc_3 {o : Nat} {t : Int32} (h : K o = 3) : frc (upd C o t) K N = frc C K N := by
  unfold frc
  refine cnt_eq N (fun i hi => ?_)
  by_cases e : i = o
  · subst e
    rw [decide_eq_false (fun q => by omega), decide_eq_false (fun q => by omega)]
  · rw [upd_n e]
theorem X_3 (h : cpI N0 S0 F has C0 φ0 K0 τ0 C U T KK V NM A N S φ K τ oc hc om μ ν) : ∀ i, i < N → (∃ x, x < oc ∧ μ 44 x = nI i) → K i = 3 := by
  intro i hi ⟨x, x1, x2⟩
  have hN := h.1.1
  obtain ⟨j, e1, e2, e3, e4⟩ := opR_e om oc (opT_R h.2.2.2.1) x x1
  rw [x2] at e4
  rw [(nI_eq (by omega) (by omega)).mp e4]
  exact e3
/-- a term without cells of its own is placed -/
theorem cpA (h : cpI N0 S0 F has C0 φ0 K0 τ0 C U T KK V NM A N S φ K τ oc hc om μ ν) {t k v : Int32} (h0 : oc = 0 → gtR N φ K t k v) (h1 : 0 < oc → tmR N φ K t k v) (hhc : hc < 30) (hom : om ≤ 39) (hoc : oc ≤ 30) :
    ∃ μ1 ν1 om' C' KK' V', f_CE_place t μ = some μ1 ∧ f_MO_place (sI (sI ν 70 40 k) 70 41 v) = some ν1 ∧ om' ≤ om ∧ cpI N0 S0 F has C0 φ0 K0 τ0 C' U T KK' V' NM A N S φ K τ (oc - 1) (if oc = 0 then hc + 1 else hc) om' μ1 ν1 := by
  have hX3 := X_3 h
  obtain ⟨hQ, ⟨c1, c2, c3, c4⟩, ⟨m1, m2, m3, m4, m5, m6⟩, hop, hdis, hhd, hva, hN0, hold, hfr, hτ⟩ := h
  have hN := hQ.1
  by_cases e : oc = 0
  · subst e
    have hom0 : om = 0 := by
      rcases hop with ⟨q, -⟩ | ⟨o2, i, a, nm, nx, oc', g0, g1, g2, g3, g4, g5, g6, g7, g8, g9, g10, g11, -⟩
      · exact q
      · omega
    subst hom0
    refine ⟨sI (sI μ 45 hc t) 40 8 (nI (hc + 1)), sI (sI (sI (sI (sI ν 70 40 k) 70 41 v) 96 hc k) 97 hc v) 70 46 (nI (hc + 1)), 0, C, KK, V, ?_, ?_, Nat.le_refl _, ?_⟩
    · unfold f_CE_place
      rw [c3, if_pos (by decide), c4, wr_n (by omega) (by decide), b1_s, show sI μ 45 hc t 40 8 = nI hc from c4, nI_1]
    · unfold f_MO_place
      rw [show sI (sI ν 70 40 k) 70 41 v 70 43 = nI 0 from m5, if_neg (not_not_intro (show nI 0 = 0 from rfl)), show sI (sI ν 70 40 k) 70 41 v 70 46 = nI hc from m6, show sI (sI ν 70 40 k) 70 41 v 70 40 = k from rfl, wr_n (by omega) (by decide), b1_s]
      rw [show sI (sI (sI ν 70 40 k) 70 41 v) 96 hc k 70 46 = nI hc from m6, show sI (sI (sI ν 70 40 k) 70 41 v) 96 hc k 70 41 = v from rfl, wr_n (by omega) (by decide), b1_s]
      rw [show sI (sI (sI (sI ν 70 40 k) 70 41 v) 96 hc k) 97 hc v 70 46 = nI hc from m6, nI_1]
    · rw [if_pos rfl]
      refine ⟨hQ, ⟨c1, c2, c3, rfl⟩, ⟨m1, m2, m3, m4, m5, rfl⟩, hop, hdis, fun x hx => ?_, hva, hN0, hold, hfr, hτ⟩
      show gtR N φ K (sI μ 45 hc t 45 x) (sI (sI (sI ν 70 40 k) 70 41 v) 96 hc k 96 x) (sI (sI (sI (sI ν 70 40 k) 70 41 v) 96 hc k) 97 hc v 97 x)
      by_cases ex : x = hc
      · subst ex; rw [sI_at, sI_at, sI_at]; exact h0 rfl
      · rw [sI_nj ex, sI_nj ex, sI_nj ex]; exact hhd x (by omega)
  · obtain ⟨o2, i, nx, o, f1, f2, f3, f4, f5, f6, f7, f8, f9, f10, f11, f12, f13⟩ := fill_1 hQ hX3 hop (by omega) (h1 (by omega))
    subst f1
    have hQ' : cellsQ (fun i => ∃ x, x < oc - 1 ∧ μ 44 x = nI i) (upd C o t) U T (upd KK (φ o) k) (upd V (φ o) v) NM A N S φ K τ := by
      refine Q_X f12 (fun j hj q1 q2 => ?_)
      exfalso
      obtain ⟨⟨x, x1, x2⟩, q3⟩ := q2
      apply q1
      by_cases ex : x = oc - 1
      · subst ex
        rw [f11] at x2
        exact absurd ((nI_eq (by omega) (by omega)).mp x2).symm q3
      · exact ⟨x, by omega, x2⟩
    have hXX : ∀ j, j < N → (∃ x, x < oc - 1 ∧ μ 44 x = nI j) → K j = 3 := fun j hj ⟨x, x1, x2⟩ => hX3 j hj ⟨x, by omega, x2⟩
    have hok' : okM (upd KK (φ o) k) (upd V (φ o) v) NM A (sI (sI (sI (sI (sI ν 70 40 k) 70 41 v) 76 (φ o) k) 77 (φ o) v) 95 o2 (nI (nx + 1))) := by
      refine ⟨?_, ?_, m3.2.2.1, m3.2.2.2⟩
      · rw [← m3.1]
        show sI (sI (sI ν 70 40 k) 70 41 v) 76 (φ o) k 76 = _
        exact sI_r
      · rw [← m3.2.1]
        show sI (sI (sI (sI ν 70 40 k) 70 41 v) 76 (φ o) k) 77 (φ o) v 77 = _
        exact sI_r
    have hop2 : opR N0 (upd C o t) N φ K (μ 44) (sI (sI (sI (sI (sI ν 70 40 k) 70 41 v) 76 (φ o) k) 77 (φ o) v) 95 o2 (nI (nx + 1)) 94) (sI (sI (sI (sI (sI ν 70 40 k) 70 41 v) 76 (φ o) k) 77 (φ o) v) 95 o2 (nI (nx + 1)) 95) (o2 + 1) (oc - 1) := by
      rw [sI_r]
      exact f13
    obtain ⟨om', ν1, u1, u2, u3, u4, u5, u6⟩ := pop_s (N0 := N0) hQ' hXX (o2 + 1) fu (oc - 1) (μ 44) (sI (sI (sI (sI (sI ν 70 40 k) 70 41 v) 76 (φ o) k) 77 (φ o) v) 95 o2 (nI (nx + 1))) (by unfold fu; omega) (by omega) hok' m5 hop2
    refine ⟨sI (sI μ 40 6 (nI (oc - 1))) 41 o t, ν1, om', upd C o t, upd KK (φ o) k, upd V (φ o) v, ?_, ?_, u2, ?_⟩
    · unfold f_CE_place
      rw [c3, if_neg (nI_nle (by omega) (by omega)), nI_m1 (by omega), rd_n (by omega) (by decide), b1_s, f11, wr_n (by omega) (by decide), b1_s]
    · unfold f_MO_place
      rw [show sI (sI ν 70 40 k) 70 41 v 70 43 = nI (o2 + 1) from m5, if_pos (nI_ne0 (by omega) (by omega)), nI_pred, show sI (sI ν 70 40 k) 70 41 v 94 = ν 94 from rfl, rd_n (by omega) (by decide), b1_s, f2, show sI (sI ν 70 40 k) 70 41 v 95 = ν 95 from rfl, rd_n (by omega) (by decide), b1_s, f3, mul3, show sI (sI ν 70 40 k) 70 41 v 79 = A from m3.2.2.2, rd_n (by omega) (by decide), b1_s, f6, show sI (sI ν 70 40 k) 70 41 v 70 40 = k from rfl, wr_n f7 (by decide), b1_s]
      rw [show sI (sI (sI ν 70 40 k) 70 41 v) 76 (φ o) k 70 41 = v from rfl, wr_n f7 (by decide), b1_s]
      rw [show sI (sI (sI (sI ν 70 40 k) 70 41 v) 76 (φ o) k) 77 (φ o) v 70 43 = nI (o2 + 1) from m5, nI_pred, show sI (sI (sI (sI ν 70 40 k) 70 41 v) 76 (φ o) k) 77 (φ o) v 95 = ν 95 from rfl, rd_n (by omega) (by decide), b1_s, f3, nI_1, wr_n (by omega) (by decide), b1_s, u1, b1_s]
    · rw [if_neg e]
      subst u3
      refine ⟨hQ', ⟨?_, c2, rfl, c4⟩, ⟨m1, m2, hok', m4, rfl, m6⟩, ?_, fun x y hx hy => hdis x y hx (by omega), hhd, hva, hN0, fun j hj => ?_, ?_, hτ⟩
      · rw [← c1]; exact sI_r
      · show opT N0 (upd C o t) N φ K (μ 44) (ν 94) (sI (sI (sI (sI (sI ν 70 40 k) 70 41 v) 76 (φ o) k) 77 (φ o) v) 95 o2 (nI (nx + 1)) 95) om' (oc - 1)
        cases om' with
        | zero => exact Or.inl ⟨rfl, u4⟩
        | succ o3 =>
          obtain ⟨i', a', nm', nx', oc', v1⟩ := u6 o3 rfl
          exact Or.inr ⟨o3, i', a', nm', nx', oc', rfl, v1⟩
      · rw [upd_n (by omega)]; exact hold j hj
      · rw [frc_3 f10]; exact hfr
end CPC
