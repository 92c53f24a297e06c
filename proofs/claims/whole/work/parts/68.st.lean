/-! a structure of the class and of the reference; the reference's pile -/
section STA
variable {C U T KK V NM A : Nat → Int32} {N S : Nat} {φ K τ : Nat → Nat}
def okM (KK V NM A : Nat → Int32) (ν : Mu) : Prop := ν 76 = KK ∧ ν 77 = V ∧ ν 78 = NM ∧ ν 79 = A
/-- what the pile's changes leave alone, below p -/
def pfr (p : Nat) (ν ν' : Mu) : Prop := (∀ k, k ≠ 70 → k ≠ 88 → k ≠ 89 → ν' k = ν k) ∧ (∀ j, j ≠ 30 → ν' 70 j = ν 70 j) ∧ ∀ j, j < p → ν' 88 j = ν 88 j ∧ ν' 89 j = ν 89 j
theorem pfr_r {p : Nat} {ν : Mu} : pfr p ν ν := ⟨fun _ _ _ _ => rfl, fun _ _ => rfl, fun _ _ => ⟨rfl, rfl⟩⟩
theorem pfr_t {p q : Nat} {ν ν1 ν2 : Mu} (h1 : pfr p ν ν1) (h2 : pfr q ν1 ν2) (hpq : p ≤ q) : pfr p ν ν2 :=
  ⟨fun k a b c => (h2.1 k a b c).trans (h1.1 k a b c), fun j a => (h2.2.1 j a).trans (h1.2.1 j a), fun j a => ⟨(h2.2.2 j (by omega)).1.trans (h1.2.2 j a).1, (h2.2.2 j (by omega)).2.trans (h1.2.2 j a).2⟩⟩
theorem pfr_ok {p : Nat} {ν ν' : Mu} (h : pfr p ν ν') (ho : okM KK V NM A ν) : okM KK V NM A ν' :=
  ⟨(h.1 76 (by decide) (by decide) (by decide)).trans ho.1, (h.1 77 (by decide) (by decide) (by decide)).trans ho.2.1, (h.1 78 (by decide) (by decide) (by decide)).trans ho.2.2.1, (h.1 79 (by decide) (by decide) (by decide)).trans ho.2.2.2⟩
theorem pfr_30 {p : Nat} {ν : Mu} {x : Int32} : pfr p ν (sI ν 70 30 x) :=
  ⟨fun k a _ _ => sI_nk a, fun j a => sI_nj a, fun j _ => ⟨rfl, rfl⟩⟩
theorem k_ne {x y : Int32} (k : Nat) (h : kd x ≠ k) (hy : y = nI k := by rfl) (hk : k < 8 := by decide) : ¬ x &&& 7 = y := fun q => h (kd_of (q.trans hy) hk)
theorem k_eq {x y : Int32} (k : Nat) (h : kd x = k) (hy : y = nI k := by rfl) : x &&& 7 = y := by rw [kd_e, h, hy]
theorem push_s {ν : Mu} {p : Nat} {k v : Int32} (hp : ν 70 30 = nI p) (h : p < 1600) :
    ∃ ν', f_MO_push k v ν = some ν' ∧ ν' 70 30 = nI (p + 1) ∧ ν' 88 p = k ∧ ν' 89 p = v ∧ pfr p ν ν' := by
  refine ⟨sI (sI (sI ν 88 p k) 89 p v) 70 30 (nI (p + 1)), ?_, rfl, ?_, ?_, ?_, ?_, ?_⟩
  · unfold f_MO_push
    rw [hp, wr_n h (by decide), b1_s, show sI ν 88 p k 70 30 = nI p from hp, wr_n h (by decide), b1_s, show sI (sI ν 88 p k) 89 p v 70 30 = nI p from hp, nI_1]
  · show sI ν 88 p k 88 p = k
    exact sI_at
  · show sI (sI ν 88 p k) 89 p v 89 p = v
    exact sI_at
  · intro j a b c
    rw [sI_nk a, sI_nk c, sI_nk b]
  · intro j a
    rw [sI_nj a]; rfl
  · intro j a
    refine ⟨?_, ?_⟩
    · show sI ν 88 p k 88 j = ν 88 j
      exact sI_nj (by omega)
    · show sI (sI ν 88 p k) 89 p v 89 j = ν 89 j
      rw [sI_nj (by omega)]
      rfl
theorem st_of (hR : cellsR C U T KK V NM A N S φ K τ) {i : Nat} (hi : i < N) (hK : K i = 2) :
    ∃ a nm, 1 ≤ a ∧ a ≤ 3 ∧ nm < 32 ∧ C i = wd nm (2 + a) ∧ NM (φ i) = wd nm (2 + a) ∧ i + a < N ∧ φ i < 240 ∧ ∀ m, m < a → A (3 * φ i + m) = nI (φ (i + 1 + m)) ∧ φ (i + 1 + m) < 240 ∧ K (i + 1 + m) = 3 ∧ tmR N φ K (C (i + 1 + m)) (KK (φ (i + 1 + m))) (V (φ (i + 1 + m))) := by
  obtain ⟨hN, hS, hφ, hτ, hu, hc⟩ := hR
  rcases hc i hi with ⟨q, -⟩ | ⟨-, a, nm, h1, h2, h3, h4, h5, h6, h7⟩ | ⟨q, -⟩
  · omega
  · refine ⟨a, nm, h1, h2, h3, h4, h5.trans h4, h6, (hφ i hi).1, fun m hm => ?_⟩
    obtain ⟨g1, g2⟩ := h7 m hm
    refine ⟨g2, (hφ (i + 1 + m) (by omega)).1, g1, ?_⟩
    rcases hc (i + 1 + m) (by omega) with ⟨q, -⟩ | ⟨q, -⟩ | ⟨-, q, -⟩
    · omega
    · omega
    · exact q
  · omega
theorem arK_2 {a : Nat} (h1 : 1 ≤ a) (h : a ≤ 3) : arK (2 + a) = a := by
  unfold arK
  rw [if_pos (by omega)]
  omega
theorem ar_s {nm a : Nat} {ν : Mu} (h : nm < 32) (h1 : 1 ≤ a) (h2 : a ≤ 3) : f_MO_arity (wd nm (2 + a)) ν = some (nI a) := by
  have e := ar_m (μ := ν) (wd_k (i := nm) (k := 2 + a) (by omega) (by omega)) (by omega)
  rw [arK_2 h1 h2] at e
  exact e
theorem ar_sc {nm a : Nat} {ν : Mu} (h : nm < 32) (h1 : 1 ≤ a) (h2 : a ≤ 3) : f_GE_argumentsOf (wd nm (2 + a)) ν = some (nI a) := by
  have e := ar_c (μ := ν) (wd_k (i := nm) (k := 2 + a) (by omega) (by omega)) (by omega)
  rw [arK_2 h1 h2] at e
  exact e
theorem mul3 (a b : Nat) : 3 * nI a + nI b = nI (3 * a + b) := by
  rw [show (3 : Int32) = nI 3 from rfl, pk_mul, nI_add]
theorem pa_loop {c a : Nat} {ψ : Nat → Nat} (hc : c < 240) (ha : a ≤ 3) (hψ : ∀ m, m < a → A (3 * c + m) = nI (ψ m) ∧ ψ m < 240) (m : Nat) : ∀ (fl p : Nat) (ν : Mu), m ≤ a → m < fl → okM KK V NM A ν → ν 70 30 = nI p → p + m ≤ 1600 →
    ∃ ν', f_MO_pushArguments_13 (nI c) fl (nI m - 1) ν = some ν' ∧ ν' 70 30 = nI (p + m) ∧ (∀ n, n < m → ν' 88 (p + (m - 1 - n)) = KK (ψ n) ∧ ν' 89 (p + (m - 1 - n)) = V (ψ n)) ∧ pfr p ν ν' := by
  induction m with
  | zero =>
    intro fl p ν hm hfl hok hp hb
    cases fl with
    | zero => omega
    | succ fl =>
    refine ⟨ν, ?_, hp, fun n hn => by omega, pfr_r⟩
    unfold f_MO_pushArguments_13
    rw [if_pos (by decide)]
  | succ m ih =>
    intro fl p ν hm hfl hok hp hb
    cases fl with
    | zero => omega
    | succ fl =>
    obtain ⟨g1, g2⟩ := hψ m (by omega)
    obtain ⟨ν1, u1, u2, u3, u4, u5⟩ := push_s (ν := ν) (k := KK (ψ m)) (v := V (ψ m)) hp (by omega)
    obtain ⟨ν2, w1, w2, w3, w4⟩ := ih fl (p + 1) ν1 (by omega) (by omega) (pfr_ok u5 hok) u2 (by omega)
    refine ⟨ν2, ?_, by rw [w2]; congr 1; omega, ?_, pfr_t u5 w4 (by omega)⟩
    · unfold f_MO_pushArguments_13
      rw [nI_pred, if_neg (nI_pos (by omega)), hok.2.2.2, mul3, rd_n (by omega) (by decide), b1_s, g1, hok.1, rd_n g2 (by decide), b1_s, hok.2.1, rd_n g2 (by decide), b1_s, u1, b1_s, i_m1]
      exact w1
    · intro n hn
      by_cases e : n = m
      · subst e
        rw [show p + (n + 1 - 1 - n) = p by omega]
        obtain ⟨z1, z2⟩ := w4.2.2 p (by omega)
        exact ⟨z1.trans u3, z2.trans u4⟩
      · obtain ⟨z1, z2⟩ := w3 n (by omega)
        rw [show p + (m + 1 - 1 - n) = p + 1 + (m - 1 - n) by omega]
        exact ⟨z1, z2⟩
/-- the reference lays a structure's arguments on the pile, the first on top -/
theorem pa_s (hR : cellsR C U T KK V NM A N S φ K τ) {i a nm p : Nat} {ν : Mu} (hi : i < N) (hK : K i = 2) (hC : C i = wd nm (2 + a)) (h1 : 1 ≤ a) (h2 : a ≤ 3) (h3 : nm < 32) (hok : okM KK V NM A ν) (hp : ν 70 30 = nI p) (hb : p + a ≤ 1600) :
    ∃ ν', f_MO_pushArguments (nI (φ i)) ν = some ν' ∧ ν' 70 30 = nI (p + a) ∧ (∀ m, m < a → ν' 88 (p + (a - 1 - m)) = KK (φ (i + 1 + m)) ∧ ν' 89 (p + (a - 1 - m)) = V (φ (i + 1 + m))) ∧ pfr p ν ν' := by
  obtain ⟨a', nm', g1, g2, g3, g4, g5, g6, g7, g8⟩ := st_of hR hi hK
  have e := (wd_eq (by omega) (by omega) (by omega) (by omega)).mp (hC.symm.trans g4)
  have ea : a' = a := by omega
  subst ea
  obtain ⟨ν', w1, w2, w3, w4⟩ := pa_loop (KK := KK) (V := V) (NM := NM) (A := A) (c := φ i) (a := a') (ψ := fun m => φ (i + 1 + m)) g7 g2 (fun m hm => ⟨(g8 m hm).1, (g8 m hm).2.1⟩) a' fu p ν (Nat.le_refl _) (by unfold fu; omega) hok hp hb
  refine ⟨ν', ?_, w2, w3, w4⟩
  unfold f_MO_pushArguments
  rw [hok.2.2.1, rd_n g7 (by decide), b1_s, g5, ar_s g3 g1 g2, b1_s, w1, b1_s]
end STA
