/-! taking cells -/
section TKA
variable {C U T KK V NM A : Nat → Int32} {N S : Nat} {φ K τ : Nat → Nat}
/-- as cellsR, but what the cells of X hold is left open -/
def cellsQ (X : Nat → Prop) (C U T KK V NM A : Nat → Int32) (N S : Nat) (φ K τ : Nat → Nat) : Prop :=
  N ≤ 240 ∧ S < 2 ^ 30 ∧ (∀ i, i < N → φ i < 240 ∧ U (φ i) = nI (K i) ∧ T (φ i) = nI (τ i) ∧ τ i < S) ∧ (∀ i j, i < j → j < N → τ i < τ j) ∧ (∀ c, c < 240 → U c = 0 ∨ ∃ i, i < N ∧ φ i = c) ∧ (∀ i, i < N → K i = 1 ∨ K i = 2 ∨ K i = 3) ∧ ∀ i, i < N → ¬ X i → cellR C KK V NM A N φ K i
theorem cellR_K {i : Nat} (h : cellR C KK V NM A N φ K i) : K i = 1 ∨ K i = 2 ∨ K i = 3 := by
  rcases h with ⟨h, -⟩ | ⟨h, -⟩ | ⟨h, -⟩
  · exact Or.inl h
  · exact Or.inr (Or.inl h)
  · exact Or.inr (Or.inr h)
theorem Q_of (h : cellsR C U T KK V NM A N S φ K τ) : cellsQ (fun _ => False) C U T KK V NM A N S φ K τ :=
  ⟨h.1, h.2.1, h.2.2.1, h.2.2.2.1, h.2.2.2.2.1, fun i hi => cellR_K (h.2.2.2.2.2 i hi), fun i hi _ => h.2.2.2.2.2 i hi⟩
theorem of_Q {X : Nat → Prop} (h : cellsQ X C U T KK V NM A N S φ K τ) (hX : ∀ i, i < N → ¬ X i) : cellsR C U T KK V NM A N S φ K τ :=
  ⟨h.1, h.2.1, h.2.2.1, h.2.2.2.1, h.2.2.2.2.1, fun i hi => h.2.2.2.2.2.2 i hi (hX i hi)⟩
theorem Q_inj {X : Nat → Prop} (hR : cellsQ X C U T KK V NM A N S φ K τ) {i j : Nat} (hi : i < N) (hj : j < N) (h : φ i = φ j) : i = j := by
  obtain ⟨hN, hS, hφ, hτ, hu, hc⟩ := hR
  obtain ⟨-, -, a1, a2⟩ := hφ i hi
  obtain ⟨-, -, b1, b2⟩ := hφ j hj
  rw [h, b1] at a1
  have e := (nI_eq (by omega) (by omega)).mp a1
  rcases Nat.lt_trichotomy i j with q | q | q
  · have := hτ i j q hj; omega
  · exact q
  · have := hτ j i q hi; omega
/-- the cells that the first n go to -/
def imB (φ : Nat → Nat) : Nat → Nat → Bool
  | 0, _ => false
  | n + 1, c => imB φ n c || Nat.beq (φ n) c
theorem imB_t {n c : Nat} : imB φ n c = true ↔ ∃ i, i < n ∧ φ i = c := by
  induction n with
  | zero => exact ⟨(fun h => by cases h), (fun ⟨i, h, _⟩ => by omega)⟩
  | succ n ih =>
    unfold imB
    rw [Bool.or_eq_true, ih]
    constructor
    · rintro (⟨i, h1, h2⟩ | h)
      · exact ⟨i, by omega, h2⟩
      · exact ⟨n, by omega, Nat.eq_of_beq_eq_true h⟩
    · rintro ⟨i, h1, h2⟩
      by_cases e : i = n
      · subst e; exact Or.inr (by rw [h2]; exact Nat.beq_refl c)
      · exact Or.inl ⟨i, by omega, h2⟩
theorem imB_c (hφ : ∀ i, i < N → φ i < 240) (hinj : ∀ i j, i < N → j < N → φ i = φ j → i = j) (n : Nat) : n ≤ N → cnt (imB φ n) 240 = n := by
  induction n with
  | zero =>
    intro _
    have : ∀ m, cnt (imB φ 0) m = 0 := by
      intro m
      induction m with
      | zero => rfl
      | succ m ih => unfold cnt; rw [ih]; rfl
    exact this 240
  | succ n ih =>
    intro hn
    have h1 : imB φ n (φ n) = false := by
      cases e : imB φ n (φ n) with
      | false => rfl
      | true =>
        obtain ⟨i, h1, h2⟩ := imB_t.mp e
        have := hinj i n (by omega) (by omega) h2
        omega
    have h2 : imB φ (n + 1) (φ n) = true := by
      show (imB φ n (φ n) || Nat.beq (φ n) (φ n)) = true
      rw [Nat.beq_refl, Bool.or_true]
    have h3 : ∀ i, i < 240 → i ≠ φ n → imB φ n i = imB φ (n + 1) i := by
      intro i hi hne
      show imB φ n i = (imB φ n i || Nat.beq (φ n) i)
      have : Nat.beq (φ n) i = false := by
        cases e : Nat.beq (φ n) i with
        | false => rfl
        | true => exact absurd (Nat.eq_of_beq_eq_true e).symm hne
      rw [this, Bool.or_false]
    rw [cnt_set (p := imB φ n) (k := φ n) (hφ n (by omega)) h3 h1 h2, ih (by omega)]
theorem U_pos {X : Nat → Prop} (hR : cellsQ X C U T KK V NM A N S φ K τ) {c : Nat} (hc : c < 240) : (¬ U c ≤ 0) ↔ imB φ N c = true := by
  obtain ⟨hN, hS, hφ, hτ, hu, hk, hcc⟩ := hR
  constructor
  · intro h
    rcases hu c hc with q | q
    · rw [q] at h; exact absurd (by decide) h
    · exact imB_t.mpr q
  · intro h
    obtain ⟨i, h1, h2⟩ := imB_t.mp h
    obtain ⟨-, h3, -⟩ := hφ i h1
    rw [← h2, h3]
    rcases hk i h1 with q | q | q <;> rw [q] <;> decide
theorem use_c {X : Nat → Prop} (hR : cellsQ X C U T KK V NM A N S φ K τ) : cnt (fun c => decide (¬ U c ≤ 0)) 240 = N := by
  rw [← imB_c (N := N) (φ := φ) (fun i hi => (hR.2.2.1 i hi).1) (fun i j hi hj => Q_inj hR hi hj) N (Nat.le_refl _)]
  refine cnt_eq 240 (fun c hc => ?_)
  cases e : imB φ N c with
  | true => exact decide_eq_true ((U_pos hR hc).mpr e)
  | false => exact decide_eq_false (fun q => by rw [(U_pos hR hc).mp q] at e; cases e)
theorem cnt_all (n : Nat) {p : Nat → Bool} (h : ∀ i, i < n → p i = true) : cnt p n = n := by
  induction n with
  | zero => rfl
  | succ n ih =>
    unfold cnt
    rw [ih (fun i hi => h i (by omega)), if_pos (h n (by omega))]
/-- the reference counts the cells in use -/
theorem inUse_s {X : Nat → Prop} (hR : cellsQ X C U T KK V NM A N S φ K τ) {ν : Mu} (hU : ν 74 = U) : f_MO_inUse ν = some (nI N) := by
  have key : ∀ (d fl i s : Nat), i + d = 240 → d < fl → s = cnt (fun c => decide (¬ U c ≤ 0)) i → f_MO_inUse_4 fl (nI s) (nI i) ν = some (nI (cnt (fun c => decide (¬ U c ≤ 0)) 240)) := by
    intro d
    induction d with
    | zero =>
      intro fl i s h1 h2 h3
      cases fl with
      | zero => omega
      | succ fl =>
      unfold f_MO_inUse_4
      have e : i = 240 := by omega
      subst e
      rw [if_pos (by decide), h3]
    | succ d ih =>
      intro fl i s h1 h2 h3
      cases fl with
      | zero => omega
      | succ fl =>
      unfold f_MO_inUse_4
      rw [if_neg (show ¬ 240 ≤ nI i from nI_ge (b := 240) (by omega) (by decide)), hU, rd_n (by omega) (by decide), b1_s, nI_1]
      have hs : cnt (fun c => decide (¬ U c ≤ 0)) (i + 1) = s + (if ¬ U i ≤ 0 then 1 else 0) := by
        rw [h3]
        show _ + (if decide (¬ U i ≤ 0) = true then 1 else 0) = _
        by_cases e : U i ≤ 0
        · rw [decide_eq_false (not_not_intro e), if_neg (by decide), if_neg (not_not_intro e)]
        · rw [decide_eq_true e, if_pos rfl, if_pos e]
      by_cases e : U i ≤ 0
      · rw [if_pos e, b1_s]
        rw [if_neg (not_not_intro e)] at hs
        rw [show nI s + 0 = nI (s + 0) from nI_add s 0]
        exact ih fl (i + 1) (s + 0) (by omega) (by omega) (by omega)
      · rw [if_neg e, b1_s]
        rw [if_pos e] at hs
        rw [nI_1]
        exact ih fl (i + 1) (s + 1) (by omega) (by omega) (by omega)
  unfold f_MO_inUse
  rw [show f_MO_inUse_4 fu 0 0 ν = _ from key 240 fu 0 0 (by omega) (by unfold fu; omega) rfl, b1_s, use_c hR]
/-- the first cell that is not in use -/
theorem take_f {X : Nat → Prop} (hR : cellsQ X C U T KK V NM A N S φ K τ) (hN : N < 240) {ν : Mu} (hU : ν 74 = U) (x : Int32) : ∃ c, c < 240 ∧ U c = 0 ∧ f_MO_take_2 x fu 0 ν = some (nI c) := by
  obtain ⟨c, ⟨h1, h2⟩, h3⟩ := pk_least (fun c => c < 240 ∧ U c = 0) (by
    apply Classical.byContradiction
    intro h
    have : cnt (fun c => decide (¬ U c ≤ 0)) 240 = 240 := cnt_all 240 (fun c hc => decide_eq_true ((U_pos hR hc).mpr (by
      rcases hR.2.2.2.2.1 c hc with q | q
      · exact absurd ⟨c, hc, q⟩ h
      · exact imB_t.mpr q)))
    rw [use_c hR] at this
    omega)
  refine ⟨c, h1, h2, ?_⟩
  have key : ∀ (d fl i : Nat), i + d = c → d < fl → f_MO_take_2 x fl (nI i) ν = some (nI c) := by
    intro d
    induction d with
    | zero =>
      intro fl i q1 q2
      cases fl with
      | zero => omega
      | succ fl =>
      have e : i = c := by omega
      subst e
      unfold f_MO_take_2
      rw [hU, rd_n h1 (by decide), b1_s, h2, if_pos (by decide)]
    | succ d ih =>
      intro fl i q1 q2
      cases fl with
      | zero => omega
      | succ fl =>
      unfold f_MO_take_2
      have e : ¬ U i ≤ 0 := (U_pos hR (by omega)).mpr (by
        rcases hR.2.2.2.2.1 i (by omega) with q | q
        · exact absurd ⟨by omega, q⟩ (h3 i (by omega))
        · exact imB_t.mpr q)
      rw [hU, rd_n (by omega) (by decide), b1_s, if_neg e, nI_1]
      exact ih fl (i + 1) (by omega) (by omega)
  exact key c fu 0 (by omega) (by unfold fu; omega)
def upn (f : Nat → Nat) (k x : Nat) : Nat → Nat := fun j => if j = k then x else f j
theorem upn_a {f : Nat → Nat} {k x : Nat} : upn f k x k = x := if_pos rfl
theorem upn_n {f : Nat → Nat} {k j x : Nat} (h : j ≠ k) : upn f k x j = f j := if_neg h
theorem tmR_m {N' : Nat} {φ' K' : Nat → Nat} {t k v : Int32} (h : tmR N φ K t k v) (hN : N ≤ N') (hφ : ∀ i, i < N → φ' i = φ i) (hK : ∀ i, i < N → K' i = K i) : tmR N' φ' K' t k v := by
  rcases h with ⟨i, h1, h2, h3, h4, h5⟩ | h | h | ⟨i, h1, h2, h3, h4, h5⟩
  · exact Or.inl ⟨i, by omega, by rw [hK i h1]; exact h2, h3, h4, by rw [hφ i h1]; exact h5⟩
  · exact Or.inr (Or.inl h)
  · exact Or.inr (Or.inr (Or.inl h))
  · exact Or.inr (Or.inr (Or.inr ⟨i, by omega, by rw [hK i h1]; exact h2, h3, h4, by rw [hφ i h1]; exact h5⟩))
theorem cellR_m {C' KK' V' NM' A' : Nat → Int32} {N' : Nat} {φ' K' : Nat → Nat} {i : Nat} (h : cellR C KK V NM A N φ K i) (hi : i < N) (hN : N ≤ N') (hN2 : N' ≤ 240) (hN240 : N ≤ 240) (hφ : ∀ i, i < N → φ' i = φ i) (hK : ∀ i, i < N → K' i = K i) (hC : ∀ i, i < N → C' i = C i) (hKK : KK' (φ i) = KK (φ i)) (hV : V' (φ i) = V (φ i)) (hNM : NM' (φ i) = NM (φ i)) (hA : ∀ m, m < 3 → A' (3 * φ i + m) = A (3 * φ i + m)) : cellR C' KK' V' NM' A' N' φ' K' i := by
  unfold cellR
  rw [hφ i hi, hK i hi, hC i hi, hKK, hV, hNM]
  rcases h with ⟨h1, h2⟩ | ⟨h1, a, nm, h2, h3, h4, h5, h6, h7, h8⟩ | ⟨h1, h2, j, a, nm, h3, h4, h5, h6, h7, h8⟩
  · refine Or.inl ⟨h1, ?_⟩
    rcases h2 with h2 | ⟨h2, h3, h4⟩
    · exact Or.inl h2
    · refine Or.inr ⟨h2, tmR_m h3 hN hφ hK, fun j hj q => ?_⟩
      obtain ⟨q1, -⟩ := tmR_var h3 hN240 q (i := j) (by omega)
      exact h4 j q1 q
  · refine Or.inr (Or.inl ⟨h1, a, nm, h2, h3, h4, h5, h6, by omega, fun m hm => ?_⟩)
    rw [hK _ (by omega), hA m (by omega), hφ _ (by omega)]
    exact h8 m hm
  · refine Or.inr (Or.inr ⟨h1, tmR_m h2 hN hφ hK, j, a, nm, h3, ?_, h5, ?_, h7, h8⟩)
    · rw [hK j (by omega)]; exact h4
    · rw [hC j (by omega)]; exact h6
end TKA
