section TKC
variable {C NM : Nat → Int32} {N : Nat}
/-- the cells of a name's arguments are taken -/
theorem nt_l {a c : Nat} (hc : c < 240) (ha : a ≤ 3) (d : Nat) : ∀ (fl m S : Nat) (X : Nat → Prop) (U T KK V A : Nat → Int32) (φ K τ : Nat → Nat) (ν : Mu), m + d = a → d < fl → N + 1 + a ≤ 240 → S + d < 2 ^ 30 → cellsQ X C U T KK V NM A (N + 1 + m) S φ K τ → X N → φ N = c → (∀ n, n < m → K (N + 1 + n) = 3 ∧ A (3 * c + n) = nI (φ (N + 1 + n))) → ν 74 = U → ν 75 = T → okM KK V NM A ν → ν 70 12 = nI S →
    ∃ (U' T' KK' V' A' : Nat → Int32) (φ' K' τ' : Nat → Nat) (ν' : Mu), f_MO_copyWord_93 (nI a) (nI c) fl (nI m) ν = some ν' ∧ ν' 74 = U' ∧ ν' 75 = T' ∧ okM KK' V' NM A' ν' ∧ ν' 70 12 = nI (S + d) ∧ cellsQ (fun i => X i ∨ (N + m < i ∧ i ≤ N + a)) C U' T' KK' V' NM A' (N + 1 + a) (S + d) φ' K' τ' ∧ (∀ i, i < N + 1 + m → φ' i = φ i ∧ K' i = K i ∧ τ' i = τ i) ∧ (∀ n, n < a → K' (N + 1 + n) = 3 ∧ A' (3 * c + n) = nI (φ' (N + 1 + n))) ∧ (∀ i, N + 1 + m ≤ i → i < N + 1 + a → S ≤ τ' i) := by
  induction d with
  | zero =>
    intro fl m S X U T KK V A φ K τ ν hm hfl hN hS hR hX hφ hold h74 h75 hok h12
    cases fl with
    | zero => omega
    | succ fl =>
    have e : m = a := by omega
    subst e
    refine ⟨U, T, KK, V, A, φ, K, τ, ν, ?_, h74, h75, hok, h12, Q_X hR (fun i hi q1 q2 => absurd (Or.inl q2) q1), fun i hi => ⟨rfl, rfl, rfl⟩, hold, fun i q1 q2 => by omega⟩
    unfold f_MO_copyWord_93
    rw [if_pos (nI_le (by omega) (by omega))]
  | succ d ih =>
    intro fl m S X U T KK V A φ K τ ν hm hfl hN hS hR hX hφ hold h74 h75 hok h12
    cases fl with
    | zero => omega
    | succ fl =>
    obtain ⟨x, ν1, e1, e2, e3, e4, e5, e6, e7, e8, e9⟩ := take_Q hR (by omega) (by omega) h74 h75 hok.1 hok.2.1 h12 (k := 3) (Or.inr (Or.inr rfl))
    have hNc : upn φ (N + 1 + m) x N = c := by rw [upn_n (by omega)]; exact hφ
    have hA : cellsQ (fun i => X i ∨ i = N + 1 + m) C (upd U x 3) (upd T x (nI S)) (upd KK x (-1)) (upd V x 0) NM (upd A (3 * c + m) (nI x)) (N + 1 + m + 1) (S + 1) (upn φ (N + 1 + m) x) (upn K (N + 1 + m) 3) (upn τ (N + 1 + m) S) := by
      refine Q_NA e9 (fun _ _ _ => rfl) (fun i n hi hx hn => upd_n (fun q => ?_))
      have : upn φ (N + 1 + m) x i = c := by omega
      have := Q_inj e9 hi (by omega) (this.trans hNc.symm)
      subst this
      exact hx (Or.inl hX)
    have h78 : ν1 78 = NM := by
      rw [← hok.2.2.1]
      funext j
      exact fr_MO_take e3 (by unfold W_MO_take; omega)
    have h79 : ν1 79 = A := by
      rw [← hok.2.2.2]
      funext j
      exact fr_MO_take e3 (by unfold W_MO_take; omega)
    have hold' : ∀ n, n < m + 1 → upn K (N + 1 + m) 3 (N + 1 + n) = 3 ∧ upd A (3 * c + m) (nI x) (3 * c + n) = nI (upn φ (N + 1 + m) x (N + 1 + n)) := by
      intro n hn
      by_cases e : n = m
      · subst e; rw [upn_a, upn_a, upd_a]; exact ⟨rfl, rfl⟩
      · rw [upn_n (by omega), upn_n (by omega), upd_n (by omega)]; exact hold n (by omega)
    obtain ⟨U', T', KK', V', A', φ', K', τ', ν', u1, u2, u3, u4, u5, u6, u7, u8, u9⟩ := ih fl (m + 1) (S + 1) _ _ _ _ _ _ _ _ _ (sI ν1 79 (3 * c + m) (nI x)) (by omega) (by omega) hN (by omega) hA (Or.inl hX) hNc hold' e4 e5 ⟨e6, e7, h78, by rw [sI_r, h79]⟩ e8
    refine ⟨U', T', KK', V', A', φ', K', τ', ν', ?_, u2, u3, u4, by rw [u5]; congr 1; omega, ?_, fun i hi => ?_, u8, fun i q1 q2 => ?_⟩
    · unfold f_MO_copyWord_93
      rw [if_neg (nI_ge (by omega) (by omega)), show f_MO_take 3 ν = _ from e3, b2_s, mul3, wr_n (by omega) (by decide), b1_s, nI_1]
      exact u1
    · rw [show S + (d + 1) = S + 1 + d by omega]
      exact Q_X u6 (fun i hi q1 q2 => by
        exfalso
        apply q1
        rcases q2 with (q2 | q2) | q2
        · exact Or.inl q2
        · exact Or.inr (by omega)
        · exact Or.inr (by omega))
    · obtain ⟨w1, w2, w3⟩ := u7 i (by omega)
      rw [w1, w2, w3, upn_n (by omega), upn_n (by omega), upn_n (by omega)]
      exact ⟨rfl, rfl, rfl⟩
    · by_cases e : i = N + 1 + m
      · rw [(u7 i (by omega)).2.2, e, upn_a]; exact Nat.le_refl _
      · have := u9 i (by omega) q2
        omega
/-- a name and its arguments are taken: the reference up to the point where it is placed -/
theorem nt_s {U T KK V A : Nat → Int32} {S a nm : Nat} {φ K τ : Nat → Nat} {X : Nat → Prop} {ν : Mu} (h1 : 1 ≤ a) (ha : a ≤ 3) (hnm : nm < 32) (hN : N + 1 + a ≤ 240) (hS : S + 1 + a < 2 ^ 30) (hR : cellsQ X C U T KK V NM A N S φ K τ) (hX : ∀ i, X i → i < N) (h74 : ν 74 = U) (h75 : ν 75 = T) (hok : okM KK V NM A ν) (h12 : ν 70 12 = nI S) :
    ∃ (U' T' KK' V' NM' A' : Nat → Int32) (φ' K' τ' : Nat → Nat) (ν1 ν' : Mu), f_MO_take 2 ν = some (nI (φ' N), ν1) ∧ φ' N < 240 ∧ f_MO_copyWord_93 (nI a) (nI (φ' N)) fu 0 (sI ν1 78 (φ' N) (wd nm (2 + a))) = some ν' ∧ ν' 74 = U' ∧ ν' 75 = T' ∧ okM KK' V' NM' A' ν' ∧ ν' 70 12 = nI (S + 1 + a) ∧
      cellsQ (fun i => X i ∨ (N < i ∧ i ≤ N + a)) (upd C N (wd nm (2 + a))) U' T' KK' V' NM' A' (N + 1 + a) (S + 1 + a) φ' K' τ' ∧ (∀ i, i < N → φ' i = φ i ∧ K' i = K i ∧ τ' i = τ i) ∧ K' N = 2 ∧ NM' (φ' N) = wd nm (2 + a) ∧ (∀ n, n < a → K' (N + 1 + n) = 3 ∧ A' (3 * φ' N + n) = nI (φ' (N + 1 + n))) ∧ (∀ i, N ≤ i → i < N + 1 + a → S ≤ τ' i) := by
  obtain ⟨c, ν1, e1, e2, e3, e4, e5, e6, e7, e8, e9⟩ := take_Q (Q_C hR (C' := upd C N (wd nm (2 + a))) (fun i hi => upd_n (by omega))) (by omega) (by omega) h74 h75 hok.1 hok.2.1 h12 (k := 2) (Or.inr (Or.inl rfl))
  have h78 : ν1 78 = NM := by
    rw [← hok.2.2.1]
    funext j
    exact fr_MO_take e3 (by unfold W_MO_take; omega)
  have h79 : ν1 79 = A := by
    rw [← hok.2.2.2]
    funext j
    exact fr_MO_take e3 (by unfold W_MO_take; omega)
  have hA : cellsQ (fun i => X i ∨ i = N) (upd C N (wd nm (2 + a))) (upd U c 2) (upd T c (nI S)) (upd KK c (-1)) (upd V c 0) (upd NM c (wd nm (2 + a))) A (N + 1) (S + 1) (upn φ N c) (upn K N 2) (upn τ N S) := by
    refine Q_NA e9 (fun i hi hx => upd_n (fun q => ?_)) (fun _ _ _ _ _ => rfl)
    have := Q_inj e9 hi (by omega) (q.trans upn_a.symm)
    exact hx (Or.inr this)
  obtain ⟨U', T', KK', V', A', φ', K', τ', ν', u1, u2, u3, u4, u5, u6, u7, u8, u9⟩ := nt_l (C := upd C N (wd nm (2 + a))) (NM := upd NM c (wd nm (2 + a))) (N := N) (a := a) e1 ha a fu 0 (S + 1) _ _ _ _ _ _ _ _ _ (sI ν1 78 c (wd nm (2 + a))) (by omega) (by unfold fu; omega) hN (by omega) hA (Or.inr rfl) upn_a (fun n hn => by omega) e4 e5 ⟨e6, e7, by rw [sI_r, h78], h79⟩ e8
  obtain ⟨w1, w2, w3⟩ := u7 N (by omega)
  rw [upn_a] at w1 w2 w3
  subst w1
  refine ⟨U', T', KK', V', upd NM (φ' N) (wd nm (2 + a)), A', φ', K', τ', ν1, ν', e3, e1, u1, u2, u3, u4, u5, ?_, fun i hi => ?_, w2, upd_a, u8, fun i q1 q2 => ?_⟩
  · refine Q_X u6 (fun i hi q1 q2 => ?_)
    have hi3 : i = N := by
      rcases q2 with (q2 | q2) | q2
      · exact absurd (Or.inl q2) q1
      · exact q2
      · exact absurd (Or.inr (by omega)) q1
    subst hi3
    refine Or.inr (Or.inl ⟨w2, a, nm, h1, ha, hnm, upd_a, ?_, by omega, u8⟩)
    rw [upd_a, upd_a]
  · obtain ⟨w1, w2, w3⟩ := u7 i (by omega)
    rw [w1, w2, w3, upn_n (by omega), upn_n (by omega), upn_n (by omega)]
    exact ⟨rfl, rfl, rfl⟩
  · by_cases e : i = N
    · subst e; omega
    · have := u9 i (by omega) q2
      omega
end TKC
