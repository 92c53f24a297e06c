/-! what hangs on a term: the reference's marks -/
section MKA
variable {C U T KK V NM A : Nat → Int32} {N S : Nat} {φ K τ : Nat → Nat}
theorem phi_inj (hR : cellsR C U T KK V NM A N S φ K τ) {i j : Nat} (hi : i < N) (hj : j < N) (h : φ i = φ j) : i = j := by
  obtain ⟨hN, hS, hφ, hτ, hu, hc⟩ := hR
  obtain ⟨-, -, a1, a2⟩ := hφ i hi
  obtain ⟨-, -, b1, b2⟩ := hφ j hj
  rw [h, b1] at a1
  have e := (nI_eq (by omega) (by omega)).mp a1
  rcases Nat.lt_trichotomy i j with q | q | q
  · have := hτ i j q hj; omega
  · exact q
  · have := hτ j i q hi; omega
/-- an entry of the pile: names a cell of which P holds, or none -/
def enR (N : Nat) (φ K : Nat → Nat) (P : Nat → Prop) (k v : Int32) : Prop :=
  (∃ i, i < N ∧ P i ∧ ((k = 0 ∧ K i = 1) ∨ (k = 3 ∧ K i = 2)) ∧ v = nI (φ i)) ∨ (k ≠ 0 ∧ k ≠ 3)
theorem tm_en {P : Nat → Prop} {t k v : Int32} (h : tmR N φ K t k v) (hP : ∀ j, j < N → tgt t j → P j) : enR N φ K P k v := by
  rcases h with ⟨i, h1, h2, h3, h4, h5⟩ | ⟨h1, h2, h3⟩ | ⟨a, h1, h2, h3, h4⟩ | ⟨i, h1, h2, h3, h4, h5⟩
  · exact Or.inl ⟨i, h1, hP i h1 (Or.inl h3), Or.inl ⟨h4, h2⟩, h5⟩
  · exact Or.inr ⟨by rw [h2]; decide, by rw [h2]; decide⟩
  · exact Or.inr ⟨by rw [h3]; decide, by rw [h3]; decide⟩
  · exact Or.inl ⟨i, h1, hP i h1 (Or.inr h3), Or.inr ⟨h4, h2⟩, h5⟩
/-- a term that names j is an entry that names it -/
theorem tm_nm {t k v : Int32} {j : Nat} (h : tmR N φ K t k v) (hN : N ≤ 240) (hj : j < N) (ht : tgt t j) : v = nI (φ j) ∧ (k = 0 ∨ k = 3) := by
  rcases tmR_kd h hN with ⟨h1, h2, i, h3, h4, h5, h6⟩ | ⟨h1, h2, h3⟩ | ⟨h1, h2, a, h3, h4, h5⟩ | ⟨h1, h2, i, h3, h4, h5, h6⟩
  · rw [← tgt_u (Or.inl h5) ht (by omega) (by omega)]; exact ⟨h6, Or.inl h2⟩
  · exact absurd ht (tgt_no ⟨by omega, by omega⟩ (by omega))
  · exact absurd ht (tgt_no ⟨by omega, by omega⟩ (by omega))
  · rw [← tgt_u (Or.inr h5) ht (by omega) (by omega)]; exact ⟨h6, Or.inr h2⟩
def unm (N : Nat) (φ K : Nat → Nat) (mn : Int32) (ν : Mu) : Nat := cnt (fun i => decide ((K i = 1 ∨ K i = 2) ∧ ν 90 (φ i) ≠ mn)) N
/-- a name's arguments are marked as it is -/
def mkA (C : Nat → Int32) (N : Nat) (φ K : Nat → Nat) (mn : Int32) (ν : Mu) : Prop :=
  ∀ i a nm m, i < N → K i = 2 → C i = wd nm (2 + a) → nm < 32 → a ≤ 3 → m < a → (ν 90 (φ (i + 1 + m)) = mn ↔ ν 90 (φ i) = mn)
/-- cell j is marked, or an entry names it -/
def wt (φ : Nat → Nat) (mn : Int32) (p : Nat) (ν : Mu) (j : Nat) : Prop := ν 90 (φ j) = mn ∨ ∃ x, x < p ∧ ν 89 x = nI (φ j) ∧ (ν 88 x = 0 ∨ ν 88 x = 3)
/-- a state of the marking: p entries wait; Q: what is to be marked -/
def mkI (C KK V NM A : Nat → Int32) (N : Nat) (φ K : Nat → Nat) (P Q : Nat → Prop) (mn : Int32) (p : Nat) (ν : Mu) : Prop :=
  okM KK V NM A ν ∧ ν 70 30 = nI p ∧ ν 70 34 = mn ∧ (∀ x, x < p → enR N φ K P (ν 88 x) (ν 89 x)) ∧ (∀ i, i < N → (K i = 1 ∨ K i = 2) → ν 90 (φ i) = mn → P i) ∧ mkA C N φ K mn ν ∧ (∀ i j, i < N → j < N → (K i = 1 ∨ K i = 2) → ν 90 (φ i) = mn → Ed C K i j → wt φ mn p ν j) ∧ ∀ j, j < N → Q j → wt φ mn p ν j
/-- marking the arguments of a name -/
theorem mark_a {c a nm : Nat} {mn : Int32} {ψ : Nat → Nat} (hc : c < 240) (h1 : 1 ≤ a) (ha : a ≤ 3) (hnm : nm < 32) (hN : NM c = wd nm (2 + a)) (hψ : ∀ m, m < a → A (3 * c + m) = nI (ψ m) ∧ ψ m < 240) (d : Nat) : ∀ (fl m : Nat) (ν : Mu), m + d = a → d < fl → okM KK V NM A ν → ν 70 34 = mn →
    ∃ ν', f_MO_mark_135 (nI c) fl (nI m) ν = some ν' ∧ (∀ k, k ≠ 90 → ν' k = ν k) ∧ (∀ n, m ≤ n → n < a → ν' 90 (ψ n) = mn) ∧ (∀ x, ν 90 x = mn → ν' 90 x = mn) ∧ ∀ x, (∀ n, n < a → x ≠ ψ n) → ν' 90 x = ν 90 x := by
  induction d with
  | zero =>
    intro fl m ν hm hfl hok hmn
    cases fl with
    | zero => omega
    | succ fl =>
    refine ⟨ν, ?_, fun _ _ => rfl, fun n g1 g2 => by omega, fun _ q => q, fun _ _ => rfl⟩
    unfold f_MO_mark_135
    rw [hok.2.2.1, rd_n hc (by decide), b1_s, hN, ar_s hnm h1 ha, b1_s, if_pos (nI_le (by omega) (by omega))]
  | succ d ih =>
    intro fl m ν hm hfl hok hmn
    cases fl with
    | zero => omega
    | succ fl =>
    obtain ⟨g1, g2⟩ := hψ m (by omega)
    obtain ⟨ν', u1, u2, u3, u4, u5⟩ := ih fl (m + 1) (sI ν 90 (ψ m) mn) (by omega) (by omega) hok hmn
    refine ⟨ν', ?_, fun k hk => by rw [u2 k hk, sI_nk hk], fun n q1 q2 => ?_, fun x q => u4 x ?_, fun x q => ?_⟩
    · unfold f_MO_mark_135
      rw [hok.2.2.1, rd_n hc (by decide), b1_s, hN, ar_s hnm h1 ha, b1_s, if_neg (nI_ge (by omega) (by omega)), hok.2.2.2, mul3, rd_n (by omega) (by decide), b1_s, g1, wr_n g2 (by decide), b1_s, hmn, nI_1]
      exact u1
    · by_cases e : n = m
      · subst e; exact u4 _ sI_at
      · exact u3 n (by omega) q2
    · by_cases e : x = ψ m
      · subst e; exact sI_at
      · rw [sI_nj e]; exact q
    · rw [u5 x q, sI_nj (q m (by omega))]
theorem enR_P {P Q : Nat → Prop} {k v : Int32} (h : enR N φ K P k v) (hPQ : ∀ i, i < N → P i → Q i) : enR N φ K Q k v := by
  rcases h with ⟨i, h1, h2, h3, h4⟩ | h
  · exact Or.inl ⟨i, h1, hPQ i h1 h2, h3, h4⟩
  · exact Or.inr h
/-- one owner -/
theorem own_u (hR : cellsR C U T KK V NM A N S φ K τ) {i j a b m n : Nat} (hi : i < N) (hj : j < N) (hKi : K i = 2) (hKj : K j = 2) (hma : m < a) (hnb : n < b) (hia : ∀ x, x < a → K (i + 1 + x) = 3) (hjb : ∀ x, x < b → K (j + 1 + x) = 3) (h : i + 1 + m = j + 1 + n) : i = j := by
  rcases Nat.lt_trichotomy i j with q | q | q
  · have := hia (j - i - 1) (by omega)
    rw [show i + 1 + (j - i - 1) = j by omega] at this
    omega
  · exact q
  · have := hjb (i - j - 1) (by omega)
    rw [show j + 1 + (i - j - 1) = i by omega] at this
    omega
end MKA
