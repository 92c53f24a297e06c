/-! a collection: cells, goals and marks move -/
section MVA
variable {C U T KK V NM A : Nat → Int32} {N S : Nat} {φ K τ : Nat → Nat}
/-- a term whose cells move -/
def mv (np : Nat → Nat) (t : Int32) : Int32 := if kd t = 0 ∨ kd t = 7 then wd (np (t >>> ((3 : Int32) &&& 31)).toNatClampNeg) (kd t) else t
theorem mv_0 {np : Nat → Nat} {j : Nat} (h : j < 2 ^ 27) : mv np (wd j 0) = wd (np j) 0 := by
  unfold mv
  rw [kd_wd (by omega) (by omega), if_pos (Or.inl rfl), wd_v (by omega) (by omega), nI_clamp (by omega)]
theorem mv_7 {np : Nat → Nat} {j : Nat} (h : j < 2 ^ 27) : mv np (wd j 7) = wd (np j) 7 := by
  unfold mv
  rw [kd_wd (by omega) (by omega), if_pos (Or.inr rfl), wd_v (by omega) (by omega), nI_clamp (by omega)]
theorem mv_n {np : Nat → Nat} {t : Int32} (h : kd t ≠ 0 ∧ kd t ≠ 7) : mv np t = t := by
  unfold mv
  rw [if_neg]
  rintro (q | q)
  · exact h.1 q
  · exact h.2 q
theorem moved_s {np : Nat → Nat} {t : Int32} {μ : Mu} (ht : (∃ j, j < 240 ∧ tgt t j ∧ μ 65 j = nI (np j) ∧ np j < 2 ^ 27) ∨ (kd t ≠ 0 ∧ kd t ≠ 7)) : f_CO_moved t μ = some (mv np t) := by
  rcases ht with ⟨j, j1, j2, j3, j4⟩ | h
  · rcases j2 with e | e
    · subst e
      rw [mv_0 (by omega)]
      unfold f_CO_moved
      rw [wd_k (by omega) (by omega), if_pos (show nI 0 = 0 from rfl), wd_v (by omega) (by omega), rd_n (by omega) (by decide), b1_s, j3, wd_shl (by omega), show nI 0 = 0 from rfl, Int32.or_zero]
    · subst e
      rw [mv_7 (by omega)]
      unfold f_CO_moved
      rw [wd_k (by omega) (by omega), if_neg (show ¬ nI 7 = 0 by decide), if_pos (show nI 7 = 7 from rfl), wd_v (by omega) (by omega), rd_n (by omega) (by decide), b1_s, j3, wd_shl (by omega), show nI 7 = 7 from rfl, nI_or7 (by omega)]
  · rw [mv_n h]
    unfold f_CO_moved
    rw [if_neg (k_ne 0 h.1), if_neg (k_ne 7 h.2)]
/-- the size of the block at a node -/
def bsz (C : Nat → Int32) (i : Nat) : Nat := 1 + arK (kd (C i))
theorem blk (hR : cellsR C U T KK V NM A N S φ K τ) {i : Nat} (hi : i < N) (hK : K i ≠ 3) : i + bsz C i ≤ N ∧ (i + bsz C i < N → K (i + bsz C i) ≠ 3) ∧ ∀ m, 0 < m → m < bsz C i → K (i + m) = 3 := by
  -- an argument has an owner
  have own : ∀ x, x < N → K x = 3 → ∃ j a, j < x ∧ K j = 2 ∧ x ≤ j + a ∧ j + a < N ∧ bsz C j = 1 + a ∧ ∀ m, m < a → K (j + 1 + m) = 3 := by
    intro x hx h3
    rcases hR.2.2.2.2.2 x hx with ⟨q, -⟩ | ⟨q, -⟩ | ⟨-, -, j, a, nm, h1, h2, h4, h5, h6, h7⟩
    · omega
    · omega
    · obtain ⟨a', nm', g1, g2, g3, g4, g5, g6, g7, g8⟩ := st_of hR (show j < N by omega) h2
      have e := (wd_eq (by omega) (by omega) (by omega) (by omega)).mp (h5.symm.trans g4)
      have ea : a' = a := by omega
      subst ea
      refine ⟨j, a', h1, h2, h7, g6, ?_, fun m hm => (g8 m hm).2.2.1⟩
      unfold bsz
      rw [g4, kd_wd (by omega) (by omega), arK_2 g1 g2]
  have hKi := cellR_K (hR.2.2.2.2.2 i hi)
  rcases hKi with h1 | h2 | h3
  · have hb : bsz C i = 1 := by
      unfold bsz
      rw [(var_of hR hi h1).2]
    rw [hb]
    refine ⟨by omega, fun q w => ?_, fun m q1 q2 => by omega⟩
    obtain ⟨j, a, a1, a2, a3, a4, a5, a6⟩ := own (i + 1) q w
    by_cases e : j = i
    · subst e; omega
    · have := a6 (i - j - 1) (by omega)
      rw [show j + 1 + (i - j - 1) = i by omega] at this
      omega
  · obtain ⟨a, nm, g1, g2, g3, g4, g5, g6, g7, g8⟩ := st_of hR hi h2
    have hb : bsz C i = 1 + a := by
      unfold bsz
      rw [g4, kd_wd (by omega) (by omega), arK_2 g1 g2]
    rw [hb]
    refine ⟨by omega, fun q w => ?_, fun m q1 q2 => ?_⟩
    · obtain ⟨j, b, a1, a2, a3, a4, a5, a6⟩ := own (i + (1 + a)) q w
      rcases Nat.lt_trichotomy j i with e | e | e
      · have := a6 (i - j - 1) (by omega)
        rw [show j + 1 + (i - j - 1) = i by omega] at this
        omega
      · subst e; omega
      · have := (g8 (j - i - 1) (by omega)).2.2.1
        rw [show i + 1 + (j - i - 1) = j by omega] at this
        omega
    · have := (g8 (m - 1) (by omega)).2.2.1
      rw [show i + 1 + (m - 1) = i + m by omega] at this
      exact this
  · exact absurd h3 hK
/-- what lives: whole blocks -/
def lvR (C : Nat → Int32) (N : Nat) (K : Nat → Nat) (lv : Nat → Bool) (RR : Nat → Int32) : Prop :=
  (∀ i, i < N → K i ≠ 3 → ∀ m, m < bsz C i → lv (i + m) = lv i) ∧ (∀ i, i < N → K i ≠ 3 → RR i = bI (lv i)) ∧ clo C N K (fun i => lv i = true)
theorem cnt_blk {lv : Nat → Bool} {i : Nat} (s : Nat) : ∀ m, m ≤ s → (∀ m, m < s → lv (i + m) = lv i) → cnt lv (i + m) = cnt lv i + (if lv i = true then m else 0) := by
  intro m
  induction m with
  | zero => intro _ _; split <;> rfl
  | succ m ih =>
    intro hm h
    rw [show i + (m + 1) = (i + m) + 1 by omega, cnt_s, ih (by omega) h, h m (by omega)]
    by_cases e : lv i = true
    · rw [if_pos e, if_pos e, if_pos e]; omega
    · rw [if_neg e, if_neg e, if_neg e]
theorem fnp_l (hR : cellsR C U T KK V NM A N S φ K τ) {lv : Nat → Bool} {RR : Nat → Int32} (hl : lvR C N K lv RR) (d : Nat) : ∀ (fl at' : Nat) (μ : Mu), at' + d = N ∨ (at' ≤ N ∧ N ≤ at' + d) → d < fl → at' ≤ N → (at' < N → K at' ≠ 3) → μ 40 1 = nI N → μ 41 = C → μ 47 = RR → (∀ i, i < at' → K i ≠ 3 → μ 65 i = nI (cnt lv i)) →
    ∃ μ', f_CO_findNewPlaces_4 fl (nI (cnt lv at')) (nI at') μ = some (nI (cnt lv N), μ') ∧ (∀ i, i < N → K i ≠ 3 → μ' 65 i = nI (cnt lv i)) ∧ ∀ k, k ≠ 65 → μ' k = μ k := by
  have hN := hR.1
  induction d with
  | zero =>
    intro fl at' μ h0 h1 h2 h3 h4 h5 h6 h7
    cases fl with
    | zero => omega
    | succ fl =>
    have e : at' = N := by omega
    subst e
    refine ⟨μ, ?_, h7, fun _ _ => rfl⟩
    unfold f_CO_findNewPlaces_4
    rw [h4, if_pos (nI_le (Nat.le_refl _) (by omega))]
  | succ d ih =>
    intro fl at' μ h0 h1 h2 h3 h4 h5 h6 h7
    cases fl with
    | zero => omega
    | succ fl =>
    by_cases e : at' = N
    · subst e
      refine ⟨μ, ?_, h7, fun _ _ => rfl⟩
      unfold f_CO_findNewPlaces_4
      rw [h4, if_pos (nI_le (Nat.le_refl _) (by omega))]
    · have hat : at' < N := by omega
      have hK := h3 hat
      obtain ⟨b1, b2, b3⟩ := blk hR hat hK
      have hb1 : 1 ≤ bsz C at' := by unfold bsz; omega
      have hcb := cnt_blk (lv := lv) (i := at') (bsz C at') (bsz C at') (Nat.le_refl _) (fun m hm => hl.1 at' hat hK m hm)
      have hcn := cnt_le lv at'
      obtain ⟨μ', u1, u2, u3⟩ := ih fl (at' + bsz C at') (sI μ 65 at' (nI (cnt lv at'))) (by omega) (by omega) b1 b2 h4 h5 h6 (fun i hi hKi => by
        by_cases ei : i = at'
        · subst ei; exact sI_at
        · rw [sI_nj ei]
          by_cases ei2 : i < at'
          · exact h7 i ei2 hKi
          · have := b3 (i - at') (by omega) (by omega)
            rw [show at' + (i - at') = i by omega] at this
            exact absurd this hKi)
      refine ⟨μ', ?_, u2, fun k hk => by rw [u3 k hk, sI_nk hk]⟩
      unfold f_CO_findNewPlaces_4
      have hh : f_TR_hasReached (nI at') (sI μ 65 at' (nI (cnt lv at'))) = some (bI (lv at')) := by
        unfold f_TR_hasReached
        rw [show sI μ 65 at' (nI (cnt lv at')) 47 = RR from h6, rd_n (by omega) (by decide), b1_s, hl.2.1 at' hat hK, if_pos (bI_01 _)]
      rw [h4, if_neg (nI_ge (by omega) (by omega)), h5, rd_n (by omega) (by decide), b1_s, ar_c (kd_e _) (kd_lt _), b1_s, wr_n (by omega) (by decide), b1_s, hh, b1_s]
      have e1 : (1 : Int32) + nI (arK (kd (C at'))) = nI (bsz C at') := nI_add 1 _
      rw [e1, nI_add, nI_add]
      cases hlv : lv at' with
      | false =>
        rw [if_pos (show bI false = 0 from rfl), b1_s]
        rw [hlv, if_neg (by decide), Nat.add_zero] at hcb
        rw [hcb] at u1
        exact u1
      | true =>
        rw [if_neg (show ¬ bI true = 0 by decide), b1_s]
        rw [hlv, if_pos rfl] at hcb
        rw [hcb] at u1
        exact u1
theorem fnp_s (hR : cellsR C U T KK V NM A N S φ K τ) {lv : Nat → Bool} {RR : Nat → Int32} (hl : lvR C N K lv RR) {μ : Mu} (h4 : μ 40 1 = nI N) (h5 : μ 41 = C) (h6 : μ 47 = RR) :
    ∃ μ', f_CO_findNewPlaces μ = some μ' ∧ (∀ i, i < N → K i ≠ 3 → μ' 65 i = nI (cnt lv i)) ∧ μ' 65 N = nI (cnt lv N) ∧ ∀ k, k ≠ 65 → μ' k = μ k := by
  have hN := hR.1
  -- the first cell is no argument
  have h0 : 0 < N → K 0 ≠ 3 := by
    intro h q
    rcases hR.2.2.2.2.2 0 h with ⟨w, -⟩ | ⟨w, -⟩ | ⟨-, -, j, a, nm, h1, -⟩
    · omega
    · omega
    · omega
  obtain ⟨μ', u1, u2, u3⟩ := fnp_l hR hl N fu 0 μ (Or.inl (by omega)) (by unfold fu; omega) (by omega) h0 h4 h5 h6 (fun i hi => by omega)
  refine ⟨sI μ' 65 N (nI (cnt lv N)), ?_, fun i hi hK => by rw [sI_nj (by omega)]; exact u2 i hi hK, sI_at, fun k hk => by rw [sI_nk hk, u3 k hk]⟩
  unfold f_CO_findNewPlaces
  rw [show f_CO_findNewPlaces_4 fu 0 0 μ = some (nI (cnt lv N), μ') from u1, b2_s, u3 40 (by decide), h4, wr_n (by omega) (by decide), b1_s]
/-- a cell's content names a node, or none -/
theorem cont (hR : cellsR C U T KK V NM A N S φ K τ) {i : Nat} (hi : i < N) : (∃ j, j < N ∧ (K j = 1 ∨ K j = 2) ∧ tgt (C i) j) ∨ (kd (C i) ≠ 0 ∧ kd (C i) ≠ 7) := by
  have hN := hR.1
  rcases hR.2.2.2.2.2 i hi with ⟨h1, -⟩ | ⟨h1, a, nm, h2, h3, h4, h5, -⟩ | ⟨h1, h2, -⟩
  · exact (var_of hR hi h1).1
  · exact Or.inr ⟨by rw [h5, kd_wd (by omega) (by omega)]; omega, by rw [h5, kd_wd (by omega) (by omega)]; omega⟩
  · exact tm_tgt h2 hN
theorem mc_a (hR : cellsR C U T KK V NM A N S φ K τ) {lv : Nat → Bool} {at' s : Nat} {k1 : Int32} (hs : at' + s ≤ N) (hlv : lv at' = true) (hnp : cnt lv at' ≤ at') (d : Nat) : ∀ (fl y : Nat) (μ : Mu), y + d = s → d < fl → (∀ i, at' + y ≤ i → i < N → μ 41 i = C i) → μ 47 at' = 1 → μ 65 at' = nI (cnt lv at') → (∀ i, i < N → K i ≠ 3 → μ 65 i = nI (cnt lv i)) →
    ∃ μ', f_CO_moveCells_44 k1 (nI s) (nI at') fl (nI y) μ = some μ' ∧ (∀ k, k ≠ 41 → μ' k = μ k) ∧ (∀ m, y ≤ m → m < s → μ' 41 (cnt lv at' + m) = mv (cnt lv) (C (at' + m))) ∧ (∀ x, x < cnt lv at' + y ∨ cnt lv at' + s ≤ x → μ' 41 x = μ 41 x) := by
  have hN := hR.1
  induction d with
  | zero =>
    intro fl y μ h1 h2 h3 h4 h5 h6
    cases fl with
    | zero => omega
    | succ fl =>
    refine ⟨μ, ?_, fun _ _ => rfl, fun m q1 q2 => by omega, fun _ _ => rfl⟩
    unfold f_CO_moveCells_44
    rw [if_pos (nI_le (by omega) (by omega))]
  | succ d ih =>
    intro fl y μ h1 h2 h3 h4 h5 h6
    cases fl with
    | zero => omega
    | succ fl =>
    have hm : f_CO_moved (C (at' + y)) μ = some (mv (cnt lv) (C (at' + y))) := by
      apply moved_s
      rcases cont hR (show at' + y < N by omega) with ⟨j, j1, j2, j3⟩ | q
      · have := cnt_le lv j
        exact Or.inl ⟨j, by omega, j3, h6 j j1 (by omega), by omega⟩
      · exact Or.inr q
    obtain ⟨μ', u1, u2, u3, u4⟩ := ih fl (y + 1) (sI μ 41 (cnt lv at' + y) (mv (cnt lv) (C (at' + y)))) (by omega) (by omega) (fun i q1 q2 => by rw [sI_nj (by omega)]; exact h3 i (by omega) q2) h4 h5 h6
    refine ⟨μ', ?_, fun k hk => by rw [u2 k hk, sI_nk hk], fun m q1 q2 => ?_, fun x hx => ?_⟩
    · unfold f_CO_moveCells_44
      have hh : f_TR_hasReached (nI at') μ = some 1 := by
        unfold f_TR_hasReached
        rw [rd_n (by omega) (by decide), b1_s, h4, if_pos (Or.inr rfl)]
      rw [if_neg (nI_ge (by omega) (by omega)), hh, b1_s, if_neg (by decide), rd_n (by omega) (by decide), b1_s, nI_add, rd_n (by omega) (by decide), b1_s, h3 (at' + y) (Nat.le_refl _) (by omega), hm, b1_s, h5, nI_add, wr_n (by omega) (by decide), b1_s, nI_1]
      exact u1
    · by_cases e : m = y
      · subst e
        rw [u4 _ (Or.inl (by omega)), sI_at]
      · exact u3 m (by omega) q2
    · rw [u4 x (by omega), sI_nj (by omega)]
theorem mc_l (hR : cellsR C U T KK V NM A N S φ K τ) {lv : Nat → Bool} {RR : Nat → Int32} {k1 : Int32} (hl : lvR C N K lv RR) (d : Nat) : ∀ (fl at' : Nat) (μ : Mu), (at' ≤ N ∧ N ≤ at' + d) → d < fl → at' ≤ N → (at' < N → K at' ≠ 3) → μ 40 1 = nI N → μ 47 = RR → (∀ i, i < N → K i ≠ 3 → μ 65 i = nI (cnt lv i)) → (∀ i, at' ≤ i → i < N → μ 41 i = C i) → (∀ i, i < at' → lv i = true → μ 41 (cnt lv i) = mv (cnt lv) (C i)) →
    ∃ μ', f_CO_moveCells_15 k1 fl (nI at') μ = some μ' ∧ (∀ k, k ≠ 41 → μ' k = μ k) ∧ (∀ i, i < N → lv i = true → μ' 41 (cnt lv i) = mv (cnt lv) (C i)) := by
  have hN := hR.1
  induction d with
  | zero =>
    intro fl at' μ h0 h1 h2 h3 h4 h5 h6 h7 h8
    cases fl with
    | zero => omega
    | succ fl =>
    have e : at' = N := by omega
    subst e
    refine ⟨μ, ?_, fun _ _ => rfl, h8⟩
    unfold f_CO_moveCells_15
    rw [h4, if_pos (nI_le (Nat.le_refl _) (by omega))]
  | succ d ih =>
    intro fl at' μ h0 h1 h2 h3 h4 h5 h6 h7 h8
    cases fl with
    | zero => omega
    | succ fl =>
    by_cases e : at' = N
    · subst e
      refine ⟨μ, ?_, fun _ _ => rfl, h8⟩
      unfold f_CO_moveCells_15
      rw [h4, if_pos (nI_le (Nat.le_refl _) (by omega))]
    · have hat : at' < N := by omega
      have hK := h3 hat
      obtain ⟨b1, b2, b3⟩ := blk hR hat hK
      have hb1 : 1 ≤ bsz C at' := by unfold bsz; omega
      have hcn := cnt_le lv at'
      have hbl := hl.1 at' hat hK
      have hcb : ∀ m, m ≤ bsz C at' → cnt lv (at' + m) = cnt lv at' + (if lv at' = true then m else 0) := fun m hm => cnt_blk (bsz C at') m hm hbl
      have hun : ∀ μ1, f_CO_moveCells_44 k1 (nI (bsz C at')) (nI at') fu 0 μ = some μ1 → f_CO_moveCells_15 k1 (fl + 1) (nI at') μ = f_CO_moveCells_15 k1 fl (nI (at' + bsz C at')) μ1 := by
        intro μ1 h
        rw [f_CO_moveCells_15]
        have e1 : (1 : Int32) + nI (arK (kd (C at'))) = nI (bsz C at') := nI_add 1 _
        rw [h4, if_neg (nI_ge (by omega) (by omega)), rd_n (by omega) (by decide), b1_s, h7 at' (Nat.le_refl _) hat, ar_c (kd_e _) (kd_lt _), b1_s, e1, h, b1_s, nI_add]
      cases hlv : lv at' with
      | false =>
        have h44 : f_CO_moveCells_44 k1 (nI (bsz C at')) (nI at') fu 0 μ = some μ := by
          rw [show fu = 99999 + 1 from rfl, f_CO_moveCells_44]
          have hh : f_TR_hasReached (nI at') μ = some 0 := by
            unfold f_TR_hasReached
            rw [h5, rd_n (by omega) (by decide), b1_s, hl.2.1 at' hat hK, hlv, if_pos (bI_01 _)]
            rfl
          rw [if_neg (show ¬ nI (bsz C at') ≤ 0 from nI_nle (by omega) (by omega)), hh, b1_s, if_pos rfl]
        obtain ⟨μ', u1, u2, u3⟩ := ih fl (at' + bsz C at') μ (by omega) (by omega) b1 b2 h4 h5 h6 (fun i q1 q2 => h7 i (by omega) q2) (fun i hi q => by
          by_cases ei : i < at'
          · exact h8 i ei q
          · have := hbl (i - at') (by omega)
            rw [show at' + (i - at') = i by omega, hlv, q] at this
            cases this)
        exact ⟨μ', (hun μ h44).trans u1, u2, u3⟩
      | true =>
        obtain ⟨μ1, v1, v2, v3, v4⟩ := mc_a (k1 := k1) hR b1 hlv hcn (bsz C at') fu 0 μ (by omega) (by unfold fu; omega) (fun i q1 q2 => h7 i (by omega) q2) (by rw [h5, hl.2.1 at' hat hK, hlv]; rfl) (h6 at' hat hK) h6
        obtain ⟨μ', u1, u2, u3⟩ := ih fl (at' + bsz C at') μ1 (by omega) (by omega) b1 b2 (by rw [v2 40 (by decide)]; exact h4) (by rw [v2 47 (by decide)]; exact h5) (fun i hi hKi => by rw [v2 65 (by decide)]; exact h6 i hi hKi) (fun i q1 q2 => by rw [v4 i (Or.inr (by omega))]; exact h7 i (by omega) q2) (fun i hi q => by
          by_cases ei : i < at'
          · have := cnt_lt (p := lv) ei q
            rw [v4 _ (Or.inl (by omega))]
            exact h8 i ei q
          · have e1 := hcb (i - at') (by omega)
            rw [show at' + (i - at') = i by omega, hlv, if_pos rfl] at e1
            have := v3 (i - at') (by omega) (by omega)
            rw [show at' + (i - at') = i by omega] at this
            rw [e1]; exact this)
        exact ⟨μ', (hun μ1 v1).trans u1, fun k hk => by rw [u2 k hk, v2 k hk], u3⟩
theorem mc_s (hR : cellsR C U T KK V NM A N S φ K τ) {lv : Nat → Bool} {RR : Nat → Int32} (hl : lvR C N K lv RR) {μ : Mu} (h4 : μ 40 1 = nI N) (h5 : μ 41 = C) (h6 : μ 47 = RR) (h7 : ∀ i, i < N → K i ≠ 3 → μ 65 i = nI (cnt lv i)) (h8 : μ 65 N = nI (cnt lv N)) :
    ∃ μ', f_CO_moveCells μ = some μ' ∧ μ' 40 1 = nI (cnt lv N) ∧ (∀ j, j ≠ 1 → μ' 40 j = μ 40 j) ∧ (∀ k, k ≠ 40 → k ≠ 41 → μ' k = μ k) ∧ (∀ i, i < N → lv i = true → μ' 41 (cnt lv i) = mv (cnt lv) (C i)) := by
  have hN := hR.1
  have h0 : 0 < N → K 0 ≠ 3 := by
    intro h q
    rcases hR.2.2.2.2.2 0 h with ⟨w, -⟩ | ⟨w, -⟩ | ⟨-, -, j, a, nm, h1, -⟩
    · omega
    · omega
    · omega
  obtain ⟨μ', u1, u2, u3⟩ := mc_l (k1 := nI (cnt lv N)) hR hl N fu 0 μ (by omega) (by unfold fu; omega) (by omega) h0 h4 h6 h7 (fun i _ _ => by rw [h5]) (fun i hi => by omega)
  refine ⟨sI μ' 40 1 (nI (cnt lv N)), ?_, sI_at, fun j hj => by rw [sI_nj hj, u2 40 (by decide)], fun k q1 q2 => by rw [sI_nk q1, u2 k q2], u3⟩
  unfold f_CO_moveCells
  rw [h4, rd_n (by omega) (by decide), b1_s, h8, show f_CO_moveCells_15 (nI (cnt lv N)) fu 0 μ = some μ' from u1, b1_s]
end MVA
