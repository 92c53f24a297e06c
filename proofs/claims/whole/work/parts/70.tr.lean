/-! what hangs on a term: the class's tracer -/
section TRA
/-- how many below n -/
def cnt (p : Nat → Bool) : Nat → Nat
  | 0 => 0
  | n + 1 => cnt p n + (if p n = true then 1 else 0)
theorem cnt_le (p : Nat → Bool) (n : Nat) : cnt p n ≤ n := by
  induction n with
  | zero => exact Nat.le_refl _
  | succ n ih => unfold cnt; split <;> omega
theorem cnt_mono {p q : Nat → Bool} (n : Nat) (h : ∀ i, i < n → p i = true → q i = true) : cnt p n ≤ cnt q n := by
  induction n with
  | zero => exact Nat.le_refl _
  | succ n ih =>
    have := ih (fun i hi => h i (by omega))
    unfold cnt
    by_cases e : p n = true
    · rw [if_pos e, if_pos (h n (by omega) e)]; omega
    · rw [if_neg e]; omega
theorem cnt_eq {p q : Nat → Bool} (n : Nat) (h : ∀ i, i < n → p i = q i) : cnt p n = cnt q n := by
  induction n with
  | zero => rfl
  | succ n ih =>
    unfold cnt
    rw [ih (fun i hi => h i (by omega)), h n (by omega)]
theorem cnt_set {p q : Nat → Bool} {n k : Nat} (hk : k < n) (h : ∀ i, i < n → i ≠ k → p i = q i) (hp : p k = false) (hq : q k = true) : cnt q n = cnt p n + 1 := by
  induction n with
  | zero => omega
  | succ n ih =>
    unfold cnt
    by_cases e : k = n
    · subst e
      rw [if_pos hq, hp, if_neg (by decide), cnt_eq k (fun i hi => (h i (by omega) (by omega)).symm)]
    · rw [ih (by omega) (fun i hi => h i (by omega)), h n (by omega) (by omega)]
      omega
/-- the cell that a term names -/
def tgt (t : Int32) (j : Nat) : Prop := t = wd j 0 ∨ t = wd j 7
/-- the cells that hang on cell i -/
def Ed (C : Nat → Int32) (K : Nat → Nat) (i j : Nat) : Prop := (K i = 1 ∧ tgt (C i) j) ∨ (K i = 2 ∧ ∃ a nm m, C i = wd nm (2 + a) ∧ nm < 32 ∧ a ≤ 3 ∧ m < a ∧ tgt (C (i + 1 + m)) j)
variable {C U T KK V NM A : Nat → Int32} {N S : Nat} {φ K τ : Nat → Nat}
theorem tgt_u {t : Int32} {i j : Nat} (h1 : tgt t i) (h2 : tgt t j) (hi : i < 240) (hj : j < 2 ^ 27) : i = j := by
  rcases h1 with h1 | h1 <;> rcases h2 with h2 | h2
  · exact ((wd_eq (by omega) (by omega) (by omega) (by omega)).mp (h1.symm.trans h2)).1
  · exact ((wd_eq (by omega) (by omega) (by omega) (by omega)).mp (h1.symm.trans h2)).1
  · exact ((wd_eq (by omega) (by omega) (by omega) (by omega)).mp (h1.symm.trans h2)).1
  · exact ((wd_eq (by omega) (by omega) (by omega) (by omega)).mp (h1.symm.trans h2)).1
/-- a term names a cell in use, or none -/
theorem tm_tgt {t k v : Int32} (h : tmR N φ K t k v) (hN : N ≤ 240) : (∃ i, i < N ∧ (K i = 1 ∨ K i = 2) ∧ tgt t i) ∨ (kd t ≠ 0 ∧ kd t ≠ 7) := by
  rcases tmR_kd h hN with ⟨h1, h2, i, h3, h4, h5, h6⟩ | ⟨h1, h2, h3⟩ | ⟨h1, h2, a, h3, h4, h5⟩ | ⟨h1, h2, i, h3, h4, h5, h6⟩
  · exact Or.inl ⟨i, h3, Or.inl h4, Or.inl h5⟩
  · exact Or.inr ⟨by omega, by omega⟩
  · exact Or.inr ⟨by omega, by omega⟩
  · exact Or.inl ⟨i, h3, Or.inr h4, Or.inr h5⟩
theorem tgt_no {t : Int32} {j : Nat} (h : kd t ≠ 0 ∧ kd t ≠ 7) (hj : j < 2 ^ 27) : ¬ tgt t j := by
  intro q
  rcases q with q | q
  · rw [q, kd_wd (by omega) (by omega)] at h; omega
  · rw [q, kd_wd (by omega) (by omega)] at h; omega
/-- a state of the tracer: w cells wait, r went; P holds of all that was reached; X is being looked at -/
def trI (C : Nat → Int32) (N : Nat) (K : Nat → Nat) (P X : Nat → Prop) (r w : Nat) (μ : Mu) : Prop :=
  μ 41 = C ∧ μ 46 3 = nI w ∧ (∀ i, i < N → μ 47 i = 0 ∨ μ 47 i = 1) ∧ (∀ x, x < w → ∃ i, i < N ∧ μ 48 x = nI i ∧ μ 47 i = 1) ∧ w + r ≤ cnt (fun i => decide (μ 47 i = 1)) N ∧ (∀ i, i < N → μ 47 i = 1 → P i) ∧ ∀ i, i < N → μ 47 i = 1 → X i ∨ (∃ x, x < w ∧ μ 48 x = nI i) ∨ ∀ j, j < N → Ed C K i j → μ 47 j = 1
theorem reach_s (hN : N ≤ 240) {P X : Nat → Prop} {r w : Nat} {μ : Mu} {t : Int32} (hI : trI C N K P X r w μ) (ht : (∃ i, i < N ∧ P i ∧ tgt t i) ∨ (kd t ≠ 0 ∧ kd t ≠ 7)) :
    ∃ w' μ', f_TR_reach t μ = some μ' ∧ trI C N K P X r w' μ' ∧ (∀ i, i < N → μ 47 i = 1 → μ' 47 i = 1) ∧ ∀ j, j < N → tgt t j → μ' 47 j = 1 := by
  obtain ⟨h1, h2, h3, h4, h5, h6, h7⟩ := hI
  rcases ht with ⟨i, hi, hP, ht⟩ | hk
  · have hk : (t &&& 7 = 0 ∨ (¬ t &&& 7 = 0 ∧ t &&& 7 = 7)) ∧ t >>> ((3 : Int32) &&& 31) = nI i := by
      rcases ht with e | e <;> rw [e, wd_k (by omega) (by omega), wd_v (by omega) (by omega)]
      · exact ⟨Or.inl rfl, rfl⟩
      · exact ⟨Or.inr ⟨by decide, rfl⟩, rfl⟩
    obtain ⟨hk, hv⟩ := hk
    have hun : f_TR_reach t μ = (b1 (rd (μ 47) 240 (nI i)) fun v2 => if ¬ v2 = 0 then some μ else b1 (wz μ 47 240 (nI i) 1) fun μ5 => b1 (wr μ5 48 240 (μ5 46 3) (nI i)) fun μ8 => some (sI μ8 46 3 (μ8 46 3 + 1))) := by
      unfold f_TR_reach
      rw [hv]
      rcases hk with e | ⟨e1, e2⟩
      · rw [if_pos e]
      · rw [if_neg e1, if_pos e2]
    by_cases e : μ 47 i = 1
    · refine ⟨w, μ, ?_, ⟨h1, h2, h3, h4, h5, h6, h7⟩, fun _ _ q => q, fun j hj q => ?_⟩
      · rw [hun, rd_n (by omega) (by decide), b1_s, e, if_pos (by decide)]
      · rw [← tgt_u ht q (by omega) (by omega)]; exact e
    · have e0 : μ 47 i = 0 := (h3 i hi).resolve_right e
      have hc := cnt_set (p := fun i => decide (μ 47 i = 1)) (q := fun j => decide (sI μ 47 i 1 47 j = 1)) (n := N) hi (fun j _ hj => by show decide (μ 47 j = 1) = decide (sI μ 47 i 1 47 j = 1); rw [sI_nj hj]) (decide_eq_false e) (decide_eq_true sI_at)
      have hc2 := cnt_le (fun j => decide (sI μ 47 i 1 47 j = 1)) N
      refine ⟨w + 1, sI (sI (sI μ 47 i 1) 48 w (nI i)) 46 3 (nI (w + 1)), ?_, ⟨h1, rfl, ?_, ?_, ?_, ?_, ?_⟩, ?_, ?_⟩
      · rw [hun, rd_n (by omega) (by decide), b1_s, e0, if_neg (not_not_intro rfl), wz_n (by omega) (by decide) (Or.inr rfl), b1_s, show sI μ 47 i 1 46 3 = nI w from h2, wr_n (by omega) (by decide), b1_s]
        show some (sI _ 46 3 (μ 46 3 + 1)) = _
        rw [h2, nI_1]
      · intro j hj
        show sI μ 47 i 1 47 j = 0 ∨ sI μ 47 i 1 47 j = 1
        by_cases ej : j = i
        · subst ej; exact Or.inr sI_at
        · rw [sI_nj ej]; exact h3 j hj
      · intro x hx
        show ∃ j, j < N ∧ sI (sI μ 47 i 1) 48 w (nI i) 48 x = nI j ∧ sI μ 47 i 1 47 j = 1
        by_cases ex : x = w
        · subst ex; exact ⟨i, hi, sI_at, sI_at⟩
        · obtain ⟨j, g1, g2, g3⟩ := h4 x (by omega)
          refine ⟨j, g1, by rw [sI_nj ex]; exact g2, ?_⟩
          by_cases ej : j = i
          · subst ej; exact sI_at
          · rw [sI_nj ej]; exact g3
      · show w + 1 + r ≤ cnt (fun j => decide (sI μ 47 i 1 47 j = 1)) N
        omega
      · intro j hj
        show sI μ 47 i 1 47 j = 1 → P j
        by_cases ej : j = i
        · subst ej; exact fun _ => hP
        · rw [sI_nj ej]; exact h6 j hj
      · intro j hj
        show sI μ 47 i 1 47 j = 1 → X j ∨ (∃ x, x < w + 1 ∧ sI (sI μ 47 i 1) 48 w (nI i) 48 x = nI j) ∨ ∀ k, k < N → Ed C K j k → sI μ 47 i 1 47 k = 1
        by_cases ej : j = i
        · subst ej
          exact fun _ => Or.inr (Or.inl ⟨w, by omega, sI_at⟩)
        · rw [sI_nj ej]
          intro q
          rcases h7 j hj q with g | ⟨x, g1, g2⟩ | g
          · exact Or.inl g
          · exact Or.inr (Or.inl ⟨x, by omega, by rw [sI_nj (by omega)]; exact g2⟩)
          · refine Or.inr (Or.inr fun k hk hE => ?_)
            by_cases ek : k = i
            · subst ek; exact sI_at
            · rw [sI_nj ek]; exact g k hk hE
      · intro j hj q
        show sI μ 47 i 1 47 j = 1
        by_cases ej : j = i
        · subst ej; exact sI_at
        · rw [sI_nj ej]; exact q
      · intro j hj q
        rw [← tgt_u ht q (by omega) (by omega)]
        show sI μ 47 i 1 47 i = 1
        exact sI_at
  · refine ⟨w, μ, ?_, ⟨h1, h2, h3, h4, h5, h6, h7⟩, fun _ _ q => q, fun j hj q => absurd q (tgt_no hk (by omega))⟩
    unfold f_TR_reach
    rw [if_neg (k_ne 0 hk.1), if_neg (k_ne 7 hk.2)]
theorem trI_X {P X X' : Nat → Prop} {r w : Nat} {μ : Mu} (hI : trI C N K P X r w μ) (h : ∀ i, i < N → X i → X' i ∨ ∀ j, j < N → Ed C K i j → μ 47 j = 1) : trI C N K P X' r w μ := by
  obtain ⟨h1, h2, h3, h4, h5, h6, h7⟩ := hI
  refine ⟨h1, h2, h3, h4, h5, h6, fun i hi q => ?_⟩
  rcases h7 i hi q with g | g | g
  · rcases h i hi g with g | g
    · exact Or.inl g
    · exact Or.inr (Or.inr g)
  · exact Or.inr (Or.inl g)
  · exact Or.inr (Or.inr g)
/-- the arguments of a name's cell -/
theorem trace_a (hN : N ≤ 240) {P X : Nat → Prop} {r i a : Nat} {y : Int32} (ha : a ≤ 3) (hi : i + a < N) (hP : ∀ m, m < a → (∃ j, j < N ∧ P j ∧ tgt (C (i + 1 + m)) j) ∨ (kd (C (i + 1 + m)) ≠ 0 ∧ kd (C (i + 1 + m)) ≠ 7)) (d : Nat) : ∀ (fl m w : Nat) (μ : Mu), m + d = a → d < fl → trI C N K P X r w μ →
    ∃ w' μ', f_TR_trace_76 y (nI i) (nI a) fl (nI (m + 1)) μ = some μ' ∧ trI C N K P X r w' μ' ∧ (∀ i, i < N → μ 47 i = 1 → μ' 47 i = 1) ∧ ∀ n j, m ≤ n → n < a → j < N → tgt (C (i + 1 + n)) j → μ' 47 j = 1 := by
  induction d with
  | zero =>
    intro fl m w μ hm hfl hI
    cases fl with
    | zero => omega
    | succ fl =>
    refine ⟨w, μ, ?_, hI, fun _ _ q => q, fun n j h1 h2 => by omega⟩
    unfold f_TR_trace_76
    rw [if_pos (nI_lt (by omega) (by omega))]
  | succ d ih =>
    intro fl m w μ hm hfl hI
    cases fl with
    | zero => omega
    | succ fl =>
    obtain ⟨w1, μ1, u1, u2, u3, u4⟩ := reach_s hN hI (hP m (by omega))
    obtain ⟨w2, μ2, v1, v2, v3, v4⟩ := ih fl (m + 1) w1 μ1 (by omega) (by omega) u2
    refine ⟨w2, μ2, ?_, v2, fun j hj q => v3 j hj (u3 j hj q), fun n j g1 g2 g3 g4 => ?_⟩
    · unfold f_TR_trace_76
      rw [if_neg (nI_nlt (by omega) (by omega)), nI_add, rd_n (by omega) (by decide), b1_s, hI.1, show i + (m + 1) = i + 1 + m by omega, u1, b1_s, nI_1]
      exact v1
    · by_cases e : n = m
      · subst e
        exact v3 j g3 (u4 j g3 g4)
      · exact v4 n j (by omega) g2 g3 g4
end TRA
