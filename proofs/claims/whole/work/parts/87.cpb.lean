section CPB
variable {C U T KK V NM A : Nat → Int32} {N S : Nat} {φ K τ : Nat → Nat}
/-- the open arguments, where the last structure is not full -/
def opT (N0 : Nat) (C : Nat → Int32) (N : Nat) (φ K : Nat → Nat) (R44 R94 R95 : Nat → Int32) (om oc : Nat) : Prop :=
  (om = 0 ∧ oc = 0) ∨ ∃ o2 i a nm nx oc', om = o2 + 1 ∧ N0 ≤ i ∧ i + a < N ∧ K i = 2 ∧ 1 ≤ a ∧ a ≤ 3 ∧ nm < 32 ∧ C i = wd nm (2 + a) ∧ nx < a ∧ R94 o2 = nI (φ i) ∧ R95 o2 = nI nx ∧ oc = oc' + (a - nx) ∧ (∀ m, nx ≤ m → m < a → R44 (oc' + (a - 1 - m)) = nI (i + 1 + m)) ∧ (∀ m, m < a → K (i + 1 + m) = 3) ∧ opR N0 C N φ K R44 R94 R95 o2 oc'
theorem opT_R {N0 : Nat} {R44 R94 R95 : Nat → Int32} {om oc : Nat} (h : opT N0 C N φ K R44 R94 R95 om oc) : opR N0 C N φ K R44 R94 R95 om oc := by
  rcases h with ⟨h1, h2⟩ | ⟨o2, i, a, nm, nx, oc', g0, g1, g2, g3, g4, g5, g6, g7, g8, g9, g10, g11, g12, g13, g14⟩
  · subst h1; exact h2
  · subst g0
    exact ⟨i, a, nm, nx, oc', g1, g2, g3, g4, g5, g6, g7, by omega, g9, g10, g11, g12, g13, g14⟩
/-- the next argument gets its term, in both -/
theorem fill_1 {N0 oc om : Nat} {X : Nat → Prop} {R44 R94 R95 : Nat → Int32} (hR : cellsQ X C U T KK V NM A N S φ K τ) (hX : ∀ i, i < N → X i → K i = 3) (hop : opT N0 C N φ K R44 R94 R95 om oc) (hoc : 0 < oc) {t k v : Int32} (ht : tmR N φ K t k v) :
    ∃ o2 i nx o, om = o2 + 1 ∧ R94 o2 = nI (φ i) ∧ R95 o2 = nI nx ∧ nx < 3 ∧ φ i < 240 ∧ A (3 * φ i + nx) = nI (φ o) ∧ φ o < 240 ∧ o < N ∧ N0 < o ∧ K o = 3 ∧ R44 (oc - 1) = nI o ∧ cellsQ (fun i => X i ∧ i ≠ o) (upd C o t) U T (upd KK (φ o) k) (upd V (φ o) v) NM A N S φ K τ ∧ opR N0 (upd C o t) N φ K R44 R94 (upd R95 o2 (nI (nx + 1))) (o2 + 1) (oc - 1) := by
  rcases hop with ⟨h1, h2⟩ | ⟨o2, i, a, nm, nx, oc', g0, g1, g2, g3, g4, g5, g6, g7, g8, g9, g10, g11, g12, g13, g14⟩
  · omega
  · have hi : i < N := by omega
    have ho : i + 1 + nx < N := by omega
    have hc := hR.2.2.2.2.2.2 i hi (fun q => by have := hX i hi q; omega)
    have hA : A (3 * φ i + nx) = nI (φ (i + 1 + nx)) := by
      rcases hc with ⟨q, -⟩ | ⟨-, a', nm', q1, q2, q3, q4, q5, q6, q7⟩ | ⟨q, -⟩
      · omega
      · have e := (wd_eq (by omega) (by omega) (by omega) (by omega)).mp (g7.symm.trans q4)
        exact (q7 nx (by omega)).2
      · omega
    have hRo := g12 nx (Nat.le_refl _) g8
    rw [show oc' + (a - 1 - nx) = oc - 1 by omega] at hRo
    refine ⟨o2, i, nx, i + 1 + nx, g0, g9, g10, by omega, (hR.2.2.1 i hi).1, hA, (hR.2.2.1 _ ho).1, ho, by omega, g13 nx g8, hRo, fil_Q hR ho (g13 nx g8) ⟨i, a, nm, by omega, g3, g5, g7, g6, by omega⟩ ht, ?_⟩
    refine ⟨i, a, nm, nx + 1, oc', g1, g2, g3, g4, g5, g6, ?_, by omega, g9, upd_a, by omega, fun m q1 q2 => g12 m (by omega) q2, g13, ?_⟩
    · rw [upd_n (by omega)]; exact g7
    · exact opR_m (Nat.le_refl _) (fun _ _ => rfl) (fun _ _ => rfl) (fun j hj hK => upd_n (fun q => by rw [q, g13 nx g8] at hK; omega)) o2 oc' g14 (fun _ _ => rfl) (fun x hx => ⟨rfl, upd_n (by omega)⟩)
/-- a goal's term -/
def gtR (N : Nat) (φ K : Nat → Nat) (t k v : Int32) : Prop :=
  (∃ a, a < 32 ∧ t = wd a 2 ∧ k = 2 ∧ v = nI a) ∨ (∃ i, i < N ∧ K i = 2 ∧ t = wd i 7 ∧ k = 3 ∧ v = nI (φ i)) ∨ (t = wd 0 6 ∧ k = 6 ∧ v = 0)
theorem gtR_m {N' : Nat} {φ' K' : Nat → Nat} {t k v : Int32} (h : gtR N φ K t k v) (hN : N ≤ N') (hφ : ∀ i, i < N → φ' i = φ i) (hK : ∀ i, i < N → K' i = K i) : gtR N' φ' K' t k v := by
  rcases h with h | ⟨i, h1, h2, h3, h4, h5⟩ | h
  · exact Or.inl h
  · exact Or.inr (Or.inl ⟨i, by omega, by rw [hK i h1]; exact h2, h3, h4, by rw [hφ i h1]; exact h5⟩)
  · exact Or.inr (Or.inr h)
/-- the class opens a name's arguments -/
theorem tn_l {N : Nat} {k2 : Int32} (d : Nat) : ∀ (fl oc : Nat) (μ : Mu), d < fl → oc + d ≤ 30 → N + d < 2 ^ 30 → μ 40 6 = nI oc → μ 40 1 = nI N →
    ∃ μ', f_CE_takeName_22 k2 fl (nI d) μ = some μ' ∧ μ' 40 6 = nI (oc + d) ∧ (∀ m, m < d → μ' 44 (oc + (d - 1 - m)) = nI (N + 1 + m)) ∧ (∀ x, x < oc → μ' 44 x = μ 44 x) ∧ (∀ j, j ≠ 6 → μ' 40 j = μ 40 j) ∧ ∀ k, k ≠ 40 → k ≠ 44 → μ' k = μ k := by
  induction d with
  | zero =>
    intro fl oc μ hfl hb hN h6 h1
    cases fl with
    | zero => omega
    | succ fl =>
    refine ⟨μ, ?_, h6, fun m hm => by omega, fun _ _ => rfl, fun _ _ => rfl, fun _ _ _ => rfl⟩
    unfold f_CE_takeName_22
    rw [if_pos (by decide)]
  | succ d ih =>
    intro fl oc μ hfl hb hN h6 h1
    cases fl with
    | zero => omega
    | succ fl =>
    obtain ⟨μ', u1, u2, u3, u4, u5, u6⟩ := ih fl (oc + 1) (sI (sI μ 44 oc (nI (N + (d + 1)))) 40 6 (nI (oc + 1))) (by omega) (by omega) (by omega) rfl h1
    refine ⟨μ', ?_, by rw [u2]; congr 1; omega, fun m hm => ?_, fun x hx => ?_, fun j hj => ?_, fun k q1 q2 => ?_⟩
    · unfold f_CE_takeName_22
      rw [if_neg (show ¬ nI (d + 1) < 1 from nI_nlt (b := 1) (by omega) (by omega)), h6, h1, nI_add, wr_n (by omega) (by decide), b1_s, pk_m1, show sI μ 44 oc (nI (N + (d + 1))) 40 6 = nI oc from h6, nI_1]
      exact u1
    · by_cases e : m = d
      · subst e
        rw [show oc + (m + 1 - 1 - m) = oc by omega, u4 oc (by omega)]
        show sI μ 44 oc (nI (N + (m + 1))) 44 oc = _
        rw [sI_at]; congr 1; omega
      · have := u3 m (by omega)
        rw [show oc + 1 + (d - 1 - m) = oc + (d + 1 - 1 - m) by omega] at this
        exact this
    · rw [u4 x (by omega)]
      show sI μ 44 oc (nI (N + (d + 1))) 44 x = _
      exact sI_nj (by omega)
    · rw [u5 j hj, sI_nj hj]; rfl
    · rw [u6 k q1 q2, sI_nk q1, sI_nk q2]
end CPB
