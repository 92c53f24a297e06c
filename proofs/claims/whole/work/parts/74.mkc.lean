section MKC
variable {C U T KK V NM A : Nat → Int32} {N S : Nat} {φ K τ : Nat → Nat}
theorem mark_l (hR : cellsR C U T KK V NM A N S φ K τ) {P Q : Nat → Prop} (hP : clo C N K P) {mn : Int32} (d : Nat) : ∀ (fl p : Nat) (ν : Mu), p + 3 * unm N φ K mn ν ≤ d → d ≤ 1600 → d < fl → mkI C KK V NM A N φ K P Q mn p ν →
    ∃ ν', f_MO_mark_6 fl ν = some ν' ∧ mkI C KK V NM A N φ K P Q mn 0 ν' ∧ ∀ j, j < N → ν 90 (φ j) = mn → ν' 90 (φ j) = mn := by
  induction d with
  | zero =>
    intro fl p ν h1 h2 h3 hI
    cases fl with
    | zero => omega
    | succ fl =>
    have hp : p = 0 := by omega
    subst hp
    refine ⟨ν, ?_, hI, fun _ _ q => q⟩
    unfold f_MO_mark_6
    rw [hI.2.1, if_pos (by decide)]
  | succ d ih =>
    intro fl p ν h1 h2 h3 hI
    cases fl with
    | zero => omega
    | succ fl =>
    cases p with
    | zero =>
      refine ⟨ν, ?_, hI, fun _ _ q => q⟩
      unfold f_MO_mark_6
      rw [hI.2.1, if_pos (by decide)]
    | succ p =>
      obtain ⟨p', ν1, u1, u2, u3, u4⟩ := mark_1 hR hP hI (by omega)
      obtain ⟨ν2, v1, v2, v3⟩ := ih fl p' ν1 (by omega) (by omega) (by omega) u2
      exact ⟨ν2, (u1 fl).trans v1, v2, fun j hj q => v3 j hj (u4 j hj q)⟩
/-- between marks: the pile is empty, what is marked is closed -/
def mkZ (C KK V NM A : Nat → Int32) (N : Nat) (φ K : Nat → Nat) (mn : Int32) (ν : Mu) : Prop :=
  okM KK V NM A ν ∧ ν 70 30 = 0 ∧ ν 70 34 = mn ∧ mkA C N φ K mn ν ∧ clo C N K (fun i => (K i = 1 ∨ K i = 2) ∧ ν 90 (φ i) = mn)
theorem mark_s (hR : cellsR C U T KK V NM A N S φ K τ) {mn k v : Int32} {ν : Mu} (hz : mkZ C KK V NM A N φ K mn ν) (he : enR N φ K (fun i => K i = 1 ∨ K i = 2) k v) :
    ∃ ν', f_MO_mark k v ν = some ν' ∧ mkZ C KK V NM A N φ K mn ν' ∧ (∀ i, i < N → ν 90 (φ i) = mn → ν' 90 (φ i) = mn) ∧ (∀ j, j < N → v = nI (φ j) → (k = 0 ∨ k = 3) → ν' 90 (φ j) = mn) ∧ ∀ P, clo C N K P → (∀ j, j < N → v = nI (φ j) → (k = 0 ∨ k = 3) → P j) → (∀ i, i < N → (K i = 1 ∨ K i = 2) → ν 90 (φ i) = mn → P i) → ∀ i, i < N → (K i = 1 ∨ K i = 2) → ν' 90 (φ i) = mn → P i := by
  have hN := hR.1
  obtain ⟨z1, z2, z3, z4, z5⟩ := hz
  obtain ⟨ν1, u1, u2, u3, u4, u5⟩ := push_s (ν := ν) (p := 0) (k := k) (v := v) z2 (by omega)
  have h90 : ν1 90 = ν 90 := u5.1 90 (by decide) (by decide) (by decide)
  have hub : unm N φ K mn ν1 ≤ N := cnt_le _ _
  have main : ∀ P, clo C N K P → (∀ j, j < N → v = nI (φ j) → (k = 0 ∨ k = 3) → P j) → (∀ i, i < N → (K i = 1 ∨ K i = 2) → ν 90 (φ i) = mn → P i) → ∃ ν', f_MO_mark k v ν = some ν' ∧ mkZ C KK V NM A N φ K mn ν' ∧ (∀ i, i < N → ν 90 (φ i) = mn → ν' 90 (φ i) = mn) ∧ (∀ j, j < N → v = nI (φ j) → (k = 0 ∨ k = 3) → ν' 90 (φ j) = mn) ∧ ∀ i, i < N → (K i = 1 ∨ K i = 2) → ν' 90 (φ i) = mn → P i := by
    intro P p1 p2 p3
    have hI : mkI C KK V NM A N φ K P (fun j => v = nI (φ j) ∧ (k = 0 ∨ k = 3)) mn 1 ν1 := by
      refine ⟨pfr_ok u5 z1, u2, by rw [u5.2.1 34 (by decide)]; exact z3, fun x hx => ?_, fun i hi hK q => p3 i hi hK (by rw [← h90]; exact q), ?_, fun i j hi hj hK q hE => Or.inl ?_, fun j hj q => Or.inr ⟨0, by omega, by rw [u4]; exact q.1, by rw [u3]; exact q.2⟩⟩
      · have e : x = 0 := by omega
        subst e
        rw [u3, u4]
        rcases he with ⟨i, e1, e2, e3, e4⟩ | e
        · exact Or.inl ⟨i, e1, p2 i e1 e4 (by rcases e3 with ⟨e, -⟩ | ⟨e, -⟩; exact Or.inl e; exact Or.inr e), e3, e4⟩
        · exact Or.inr e
      · unfold mkA; rw [h90]; exact z4
      · rw [h90]; rw [h90] at q; exact (z5 i j hi hj ⟨hK, q⟩ hE).2
    obtain ⟨ν2, v1, v2, v3⟩ := mark_l hR p1 (1 + 3 * N) fu 1 ν1 (by omega) (by omega) (by unfold fu; omega) hI
    obtain ⟨k1, k2, k3, k4, k5, k6, k7, k8⟩ := v2
    have wt0 : ∀ j, wt φ mn 0 ν2 j → ν2 90 (φ j) = mn := by
      intro j q
      rcases q with q | ⟨x, q, -⟩
      · exact q
      · omega
    refine ⟨ν2, ?_, ⟨k1, k2, k3, k6, fun i j hi hj q hE => ⟨clo_K hR i j hi hj q.1 hE, wt0 j (k7 i j hi hj q.1 q.2 hE)⟩⟩, fun i hi q => v3 i hi (by rw [h90]; exact q), fun j hj q1 q2 => wt0 j (k8 j hj ⟨q1, q2⟩), fun i hi hK q => k5 i hi hK q⟩
    unfold f_MO_mark
    rw [u1, b1_s, v1, b1_s]
  obtain ⟨ν', m1, m2, m3, m4, -⟩ := main (fun _ => True) (fun _ _ _ _ _ _ => trivial) (fun _ _ _ _ => trivial) (fun _ _ _ _ => trivial)
  refine ⟨ν', m1, m2, m3, m4, fun P p1 p2 p3 => ?_⟩
  obtain ⟨ν2, n1, n2, n3, n4, n5⟩ := main P p1 p2 p3
  rw [m1] at n1
  have e := Option.some.inj n1
  subst e
  exact n5
end MKC
