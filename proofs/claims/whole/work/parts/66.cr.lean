/-! the cells of class and reference: the relation, and what a term means -/
section CRA
/-- term t of the class is the reference's term of kind k and value v -/
def tmR (N : Nat) (φ K : Nat → Nat) (t k v : Int32) : Prop :=
  (∃ i, i < N ∧ K i = 1 ∧ t = wd i 0 ∧ k = 0 ∧ v = nI (φ i)) ∨ (kd t = 1 ∧ k = 1 ∧ v = t >>> ((3 : Int32) &&& 31)) ∨ (∃ a, a < 32 ∧ t = wd a 2 ∧ k = 2 ∧ v = nI a) ∨ (∃ i, i < N ∧ K i = 2 ∧ t = wd i 7 ∧ k = 3 ∧ v = nI (φ i))
/-- cell i of the class and its cell of the reference; K: 1 variable, 2 name, 3 argument -/
def cellR (C KK V NM A : Nat → Int32) (N : Nat) (φ K : Nat → Nat) (i : Nat) : Prop :=
  (K i = 1 ∧ ((C i = wd i 0 ∧ KK (φ i) = -1) ∨ (C i ≠ wd i 0 ∧ tmR N φ K (C i) (KK (φ i)) (V (φ i)) ∧ ∀ j, j < N → C i = wd j 0 → j < i)))
  ∨ (K i = 2 ∧ ∃ a nm, 1 ≤ a ∧ a ≤ 3 ∧ nm < 32 ∧ C i = wd nm (2 + a) ∧ NM (φ i) = C i ∧ i + a < N ∧ ∀ m, m < a → K (i + 1 + m) = 3 ∧ A (3 * φ i + m) = nI (φ (i + 1 + m)))
  ∨ (K i = 3 ∧ tmR N φ K (C i) (KK (φ i)) (V (φ i)) ∧ ∃ j a nm, j < i ∧ K j = 2 ∧ a ≤ 3 ∧ C j = wd nm (2 + a) ∧ nm < 32 ∧ i ≤ j + a)
/-- all of them: φ goes from the class's cells, in their order, to those in use; τ: when they were taken -/
def cellsR (C U T KK V NM A : Nat → Int32) (N S : Nat) (φ K τ : Nat → Nat) : Prop :=
  N ≤ 240 ∧ S < 2 ^ 30 ∧ (∀ i, i < N → φ i < 240 ∧ U (φ i) = nI (K i) ∧ T (φ i) = nI (τ i) ∧ τ i < S) ∧ (∀ i j, i < j → j < N → τ i < τ j) ∧ (∀ c, c < 240 → U c = 0 ∨ ∃ i, i < N ∧ φ i = c) ∧ ∀ i, i < N → cellR C KK V NM A N φ K i
variable {C U T KK V NM A : Nat → Int32} {N S : Nat} {φ K τ : Nat → Nat}
theorem tmR_var {i : Nat} {t k v : Int32} (h : tmR N φ K t k v) (hN : N ≤ 240) (e : t = wd i 0) (hi : i < 2 ^ 27) : i < N ∧ K i = 1 ∧ k = 0 ∧ v = nI (φ i) := by
  rcases h with ⟨j, h1, h2, h3, h4, h5⟩ | ⟨h1, h2, h3⟩ | ⟨a, h1, h2, h3, h4⟩ | ⟨j, h1, h2, h3, h4, h5⟩
  · have e2 := ((wd_eq (i := i) (a := j) (by omega) (by omega) (by omega) (by omega)).mp (e.symm.trans h3)).1
    subst e2
    exact ⟨h1, h2, h4, h5⟩
  · rw [e, kd_wd (by omega) (by omega)] at h1
    omega
  · have e2 := ((wd_eq (i := i) (a := a) (by omega) (by omega) (by omega) (by omega)).mp (e.symm.trans h2)).2
    omega
  · have e2 := ((wd_eq (i := i) (a := j) (by omega) (by omega) (by omega) (by omega)).mp (e.symm.trans h3)).2
    omega
/-- by kind -/
theorem tmR_kd {t k v : Int32} (h : tmR N φ K t k v) (hN : N ≤ 240) : (kd t = 0 ∧ k = 0 ∧ ∃ i, i < N ∧ K i = 1 ∧ t = wd i 0 ∧ v = nI (φ i)) ∨ (kd t = 1 ∧ k = 1 ∧ v = t >>> ((3 : Int32) &&& 31)) ∨ (kd t = 2 ∧ k = 2 ∧ ∃ a, a < 32 ∧ t = wd a 2 ∧ v = nI a) ∨ (kd t = 7 ∧ k = 3 ∧ ∃ i, i < N ∧ K i = 2 ∧ t = wd i 7 ∧ v = nI (φ i)) := by
  rcases h with ⟨j, h1, h2, h3, h4, h5⟩ | ⟨h1, h2, h3⟩ | ⟨a, h1, h2, h3, h4⟩ | ⟨j, h1, h2, h3, h4, h5⟩
  · exact Or.inl ⟨by rw [h3, kd_wd (by omega) (by omega)], h4, j, h1, h2, h3, h5⟩
  · exact Or.inr (Or.inl ⟨h1, h2, h3⟩)
  · exact Or.inr (Or.inr (Or.inl ⟨by rw [h2, kd_wd (by omega) (by omega)], h3, a, h1, h2, h4⟩))
  · exact Or.inr (Or.inr (Or.inr ⟨by rw [h3, kd_wd (by omega) (by omega)], h4, j, h1, h2, h3, h5⟩))
theorem tmR_kpos {t k v : Int32} (h : tmR N φ K t k v) : ¬ k < 0 := by
  rcases h with ⟨j, h1, h2, h3, h4, h5⟩ | ⟨h1, h2, h3⟩ | ⟨a, h1, h2, h3, h4⟩ | ⟨j, h1, h2, h3, h4, h5⟩
  · rw [h4]; decide
  · rw [h2]; decide
  · rw [h3]; decide
  · rw [h4]; decide
theorem sI_kv {ν : Mu} {a b c e : Int32} : sI (sI (sI (sI ν 70 40 a) 70 41 b) 70 40 c) 70 41 e = sI (sI ν 70 40 c) 70 41 e := by
  funext k j
  by_cases e1 : k = 70
  · subst e1
    by_cases e2 : j = 41
    · subst e2
      rw [sI_at, sI_at]
    · rw [sI_nj e2, sI_nj e2]
      by_cases e3 : j = 40
      · subst e3
        rw [sI_at, sI_at]
      · rw [sI_nj e3, sI_nj e3, sI_nj e2, sI_nj e3]
  · rw [sI_nk e1, sI_nk e1, sI_nk e1, sI_nk e1, sI_nk e1, sI_nk e1]
/-- what a term means: class and reference alike -/
theorem deref (hR : cellsR C U T KK V NM A N S φ K τ) (b : Nat) : ∀ (t k v : Int32), tmR N φ K t k v → (∀ i, i < N → t = wd i 0 → i < b) →
    ∃ t' k' v', tmR N φ K t' k' v' ∧ (∀ i, i < N → t' = wd i 0 → C i = wd i 0) ∧ (∀ (μ : Mu) (cnt fl : Nat), μ 41 = C → cnt + b ≤ 240 → b < fl → f_CE_follow_4 fl t (nI cnt) μ = some t') ∧ (∀ (ν : Mu) (fl : Nat), ν 76 = KK → ν 77 = V → b < fl → f_MO_mean_10 fl (sI (sI ν 70 40 k) 70 41 v) = some (sI (sI ν 70 40 k') 70 41 v')) := by
  obtain ⟨hN, hS, hφ, hτ, hu, hc⟩ := hR
  -- a term that is no variable
  have stop : ∀ (b : Nat) (t k v : Int32), tmR N φ K t k v → kd t ≠ 0 → k ≠ 0 → ∃ t' k' v', tmR N φ K t' k' v' ∧ (∀ i, i < N → t' = wd i 0 → C i = wd i 0) ∧ (∀ (μ : Mu) (cnt fl : Nat), μ 41 = C → cnt + b ≤ 240 → b < fl → f_CE_follow_4 fl t (nI cnt) μ = some t') ∧ (∀ (ν : Mu) (fl : Nat), ν 76 = KK → ν 77 = V → b < fl → f_MO_mean_10 fl (sI (sI ν 70 40 k) 70 41 v) = some (sI (sI ν 70 40 k') 70 41 v')) := by
    intro b t k v ht h1 h2
    refine ⟨t, k, v, ht, fun i hi e => absurd (by rw [e, kd_wd (by omega) (by omega)]) h1, fun μ cnt fl hμ hcnt hfl => ?_, fun ν fl h76 h77 hfl => ?_⟩
    · cases fl with
      | zero => omega
      | succ fl =>
      unfold f_CE_follow_4
      by_cases e9 : 240 ≤ nI cnt
      · rw [if_pos e9]
      · rw [if_neg e9, if_pos (show ¬ t &&& 7 = 0 from fun q => h1 (kd_of q (by decide)))]
    · cases fl with
      | zero => omega
      | succ fl =>
      unfold f_MO_mean_10
      rw [if_pos (show ¬ sI (sI ν 70 40 k) 70 41 v 70 40 = 0 from h2)]
  induction b with
  | zero =>
    intro t k v ht hb
    rcases tmR_kd ht hN with ⟨-, -, i, h1, h2, h3, h4⟩ | ⟨h1, h2, h3⟩ | ⟨h1, h2, a, h3, h4, h5⟩ | ⟨h1, h2, i, h3, h4, h5, h6⟩
    · exact absurd (hb i h1 h3) (by omega)
    · exact stop 0 t k v ht (by omega) (by rw [h2]; decide)
    · exact stop 0 t k v ht (by omega) (by rw [h2]; decide)
    · exact stop 0 t k v ht (by omega) (by rw [h2]; decide)
  | succ b ih =>
    intro t k v ht hb
    rcases tmR_kd ht hN with ⟨-, hk0, i, h1, h2, h3, h4⟩ | ⟨h1, h2, h3⟩ | ⟨h1, h2, a, h3, h4, h5⟩ | ⟨h1, h2, i, h3, h4, h5, h6⟩
    · obtain ⟨p1, -, -, -⟩ := hφ i h1
      have hib := hb i h1 h3
      rcases hc i h1 with ⟨-, ⟨u1, u2⟩ | ⟨u1, u2, u3⟩⟩ | ⟨q1, -⟩ | ⟨q1, -⟩
      · -- free
        refine ⟨t, k, v, ht, fun j hj e => ?_, fun μ cnt fl hμ hcnt hfl => ?_, fun ν fl h76 h77 hfl => ?_⟩
        · have e2 := ((wd_eq (i := i) (a := j) (by omega) (by omega) (by omega) (by omega)).mp (h3.symm.trans e)).1
          subst e2
          exact u1
        · cases fl with
          | zero => omega
          | succ fl =>
          unfold f_CE_follow_4
          subst hμ
          rw [if_neg (show ¬ 240 ≤ nI cnt from nI_ge (b := 240) (by omega) (by decide)), h3, if_neg (not_not_intro (show wd i 0 &&& 7 = 0 from wd_k (by omega) (by omega))), wd_v (by omega) (by omega), rd_n (by omega) (by decide), b1_s, if_neg (not_not_intro u1)]
        · cases fl with
          | zero => omega
          | succ fl =>
          unfold f_MO_mean_10
          have e1 : rd (sI (sI ν 70 40 k) 70 41 v 76) 240 (sI (sI ν 70 40 k) 70 41 v 70 41) = some (KK (φ i)) := by
            show rd (ν 76) 240 v = _
            rw [h76, h4, rd_n p1 (by decide)]
          rw [if_neg (not_not_intro (show sI (sI ν 70 40 k) 70 41 v 70 40 = 0 from hk0)), e1, b1_s, u2, if_pos (by decide)]
      · -- bound
        obtain ⟨t', k', v', g1, g2, g3, g4⟩ := ih (C i) (KK (φ i)) (V (φ i)) u2 (fun j hj e => by have := u3 j hj e; omega)
        refine ⟨t', k', v', g1, g2, fun μ cnt fl hμ hcnt hfl => ?_, fun ν fl h76 h77 hfl => ?_⟩
        · cases fl with
          | zero => omega
          | succ fl =>
          unfold f_CE_follow_4
          rw [if_neg (show ¬ 240 ≤ nI cnt from nI_ge (b := 240) (by omega) (by decide)), h3, if_neg (not_not_intro (show wd i 0 &&& 7 = 0 from wd_k (by omega) (by omega))), wd_v (by omega) (by omega), rd_n (by omega) (by decide), b1_s, hμ, if_pos u1, nI_1]
          exact g3 μ (cnt + 1) fl hμ (by omega) (by omega)
        · cases fl with
          | zero => omega
          | succ fl =>
          unfold f_MO_mean_10
          have e1 : rd (sI (sI ν 70 40 k) 70 41 v 76) 240 (sI (sI ν 70 40 k) 70 41 v 70 41) = some (KK (φ i)) := by
            show rd (ν 76) 240 v = _
            rw [h76, h4, rd_n p1 (by decide)]
          have e2 : rd (sI (sI ν 70 40 k) 70 41 v 77) 240 (sI (sI ν 70 40 k) 70 41 v 70 41) = some (V (φ i)) := by
            show rd (ν 77) 240 v = _
            rw [h77, h4, rd_n p1 (by decide)]
          rw [if_neg (not_not_intro (show sI (sI ν 70 40 k) 70 41 v 70 40 = 0 from hk0)), e1, b1_s, if_neg (tmR_kpos u2), b1_s, e2, b1_s, sI_kv]
          exact g4 ν fl h76 h77 (by omega)
      · omega
      · omega
    · exact stop (b + 1) t k v ht (by omega) (by rw [h2]; decide)
    · exact stop (b + 1) t k v ht (by omega) (by rw [h2]; decide)
    · exact stop (b + 1) t k v ht (by omega) (by rw [h2]; decide)
theorem deref_f (hR : cellsR C U T KK V NM A N S φ K τ) {t k v : Int32} (ht : tmR N φ K t k v) :
    ∃ t' k' v', tmR N φ K t' k' v' ∧ (∀ i, i < N → t' = wd i 0 → C i = wd i 0) ∧ (∀ (μ : Mu), μ 41 = C → f_CE_follow t μ = some t') ∧ (∀ (ν : Mu), ν 76 = KK → ν 77 = V → f_MO_mean k v ν = some (sI (sI ν 70 40 k') 70 41 v')) := by
  obtain ⟨t', k', v', g1, g2, g3, g4⟩ := deref hR N t k v ht (fun i hi _ => hi)
  have hN := hR.1
  refine ⟨t', k', v', g1, g2, fun μ hμ => ?_, fun ν h1 h2 => ?_⟩
  · exact g3 μ 0 fu hμ (by omega) (by unfold fu; omega)
  · unfold f_MO_mean
    rw [g4 ν fu h1 h2 (by unfold fu; omega), b1_s]
end CRA
