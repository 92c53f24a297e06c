/-! calculating: class and reference alike -/
section CLA
variable {C U T KK V NM A : Nat → Int32} {N S : Nat} {φ K τ : Nat → Nat}
theorem nm_c {μ : Mu} {i : Nat} (hμ : μ 41 = C) (hi : i < 240) : f_CE_nameOf (wd i 7) μ = some (C i) := by
  unfold f_CE_nameOf
  rw [if_neg (not_not_intro (show wd i 7 &&& 7 = 7 from wd_k (by omega) (by omega))), wd_v (by omega) (by omega), rd_n hi (by decide), b1_s, hμ]
theorem arg_c {μ : Mu} {i m : Nat} (hμ : μ 41 = C) (hi : i + m < 240) : f_CE_argument (wd i 7) (nI m) μ = some (C (i + m)) := by
  unfold f_CE_argument
  rw [wd_v (by omega) (by omega), nI_add, rd_n hi (by decide), b1_s, hμ]
/-- the class's join, the reference's apply -/
def jn (nm : Nat) (x y : Int32) : Option Int32 := if nm = 28 then some (rnd (x + y)) else if nm = 29 then some (rnd (x - y)) else if nm = 30 then some (rnd (x * y)) else if y = 0 then none else some (rnd (x / y))
theorem jn_r {nm : Nat} {x y z : Int32} (h : jn nm x y = some z) : rnd z = z := by
  unfold jn at h
  split at h
  · cases h; exact rnd_rnd _
  split at h
  · cases h; exact rnd_rnd _
  split at h
  · cases h; exact rnd_rnd _
  split at h
  · cases h
  · cases h; exact rnd_rnd _
theorem jn_c {nm : Nat} {x y : Int32} {μ : Mu} (h1 : 28 ≤ nm) (h2 : nm < 32) : f_CA_join (nI nm) x y μ = some (match jn nm x y with | some z => z.toInt64 | none => 4294967296) := by
  unfold f_CA_join jn
  rcases (show nm = 28 ∨ nm = 29 ∨ nm = 30 ∨ nm = 31 by omega) with e | e | e | e <;> subst e
  · rw [if_pos (show nI 28 = 28 from rfl), if_pos rfl]; rfl
  · rw [if_neg (show ¬ nI 29 = 28 by decide), if_pos (show nI 29 = 29 from rfl), if_neg (by decide), if_pos rfl]; rfl
  · rw [if_neg (show ¬ nI 30 = 28 by decide), if_neg (show ¬ nI 30 = 29 by decide), if_pos (show nI 30 = 30 from rfl), if_neg (by decide), if_neg (by decide), if_pos rfl]; rfl
  · rw [if_neg (show ¬ nI 31 = 28 by decide), if_neg (show ¬ nI 31 = 29 by decide), if_neg (show ¬ nI 31 = 30 by decide), if_pos (show nI 31 = 31 from rfl), if_neg (show ¬ (31 : Nat) = 28 by decide), if_neg (show ¬ (31 : Nat) = 29 by decide), if_neg (show ¬ (31 : Nat) = 30 by decide)]
    by_cases e : y = 0
    · rw [if_neg (not_not_intro e), if_pos e]
    · rw [if_pos e, if_neg e, if_neg e]; rfl
theorem jn_m {nm r : Nat} {ν : Mu} (h1 : 28 ≤ nm) (h2 : nm < 32) (hr : ν 70 36 = nI (r + 2)) (hr2 : r ≤ 60) :
    (∃ z, jn nm (ν 91 r) (ν 91 (r + 1)) = some z ∧ f_MO_apply (nI nm) ν = some (sI (sI (sI ν 70 36 (nI r)) 91 r z) 70 36 (nI (r + 1)))) ∨ (jn nm (ν 91 r) (ν 91 (r + 1)) = none ∧ f_MO_apply (nI nm) ν = some (sI (sI ν 70 36 (nI r)) 70 49 2)) := by
  have e2 : nI (r + 2) - 2 = nI r := by
    have := pk_sub (a := r + 2) (b := 2) (by omega)
    rw [show r + 2 - 2 = r by omega] at this
    exact this
  have hd : ∀ z : Int32, (b1 (wr (sI ν 70 36 (nI r)) 91 100 (nI r) z) fun μ15 => some (sI μ15 70 36 (μ15 70 36 + 1))) = some (sI (sI (sI ν 70 36 (nI r)) 91 r z) 70 36 (nI (r + 1))) := by
    intro z
    rw [wr_n (by omega) (by decide), b1_s]
    show some (sI _ 70 36 (nI r + 1)) = _
    rw [nI_1]
  have hrd : ∀ (x : Int64) (z : Int32) (μ : Mu), Int64.toInt32 x = z → f_MO_round x μ = some (rnd z) := by
    intro x z μ h
    unfold f_MO_round
    rw [rnd_long, h]
  unfold f_MO_apply jn
  rw [hr, e2, rd_n (show r < 100 by omega) (by decide), b1_s, nI_1, rd_n (show r + 1 < 100 by omega) (by decide), b1_s]
  rcases (show nm = 28 ∨ nm = 29 ∨ nm = 30 ∨ nm = 31 by omega) with e | e | e | e <;> subst e
  · refine Or.inl ⟨_, if_pos rfl, ?_⟩
    rw [if_pos (show ¬ nI 28 = 31 by decide), if_neg (not_not_intro (show nI 28 = 28 from rfl)), b1_s, hrd _ _ _ (l_add _ _), b1_s, hd]
  · refine Or.inl ⟨rnd (ν 91 r - ν 91 (r + 1)), by rw [if_neg (by decide), if_pos rfl], ?_⟩
    rw [if_pos (show ¬ nI 29 = 31 by decide), if_pos (show ¬ nI 29 = 28 by decide), if_neg (not_not_intro (show nI 29 = 29 from rfl)), b1_s, hrd _ _ _ (l_sub _ _), b1_s, hd]
  · refine Or.inl ⟨rnd (ν 91 r * ν 91 (r + 1)), by rw [if_neg (by decide), if_neg (by decide), if_pos rfl], ?_⟩
    rw [if_pos (show ¬ nI 30 = 31 by decide), if_pos (show ¬ nI 30 = 28 by decide), if_pos (show ¬ nI 30 = 29 by decide), if_neg (not_not_intro (show nI 30 = 30 from rfl)), b1_s, hrd _ _ _ (l_mul _ _), b1_s, hd]
  · rw [if_neg (not_not_intro (show nI 31 = 31 from rfl))]
    by_cases e : ν 91 (r + 1) = 0
    · refine Or.inr ⟨by rw [if_neg (by decide), if_neg (by decide), if_neg (by decide), if_pos e], ?_⟩
      rw [if_neg (not_not_intro e)]
    · refine Or.inl ⟨rnd (ν 91 r / ν 91 (r + 1)), by rw [if_neg (by decide), if_neg (by decide), if_neg (by decide), if_neg e], ?_⟩
      rw [if_pos e, if_pos (show ¬ nI 31 = 28 by decide), if_pos (show ¬ nI 31 = 29 by decide), if_pos (show ¬ nI 31 = 30 by decide), if_neg (show ¬ Int32.toInt64 (ν 91 (r + 1)) = 0 from fun q => e (l_0.mp q)), b1_s, hrd _ _ _ (l_div _ _), b1_s, hd]
/-- a state of the reference's calculating, the term (k, v) on top of p others, r results -/
def caI (KK V NM A : Nat → Int32) (o p r : Nat) (k v : Int32) (ν : Mu) : Prop :=
  okM KK V NM A ν ∧ p ≤ 2 * o ∧ r ≤ o ∧ ν 70 30 = nI (p + 1) ∧ ν 88 p = k ∧ ν 89 p = v ∧ ν 70 36 = nI r ∧ ν 70 49 = 0
def caO (KK V NM A : Nat → Int32) (p r : Nat) (x : Int32) (ν ν' : Mu) : Prop :=
  okM KK V NM A ν' ∧ (∀ i, i < p → ν' 88 i = ν 88 i ∧ ν' 89 i = ν 89 i) ∧ (∀ i, i < r → ν' 91 i = ν 91 i) ∧ ν' 91 r = x ∧ ν' 70 30 = nI p ∧ ν' 70 36 = nI (r + 1) ∧ ν' 70 49 = 0
/-- the outcome of calculating the term: a number x, or the error -/
def caR (C KK V NM A : Nat → Int32) (f o o' : Nat) (t k v : Int32) : Option Int32 → Prop
  | some x => rnd x = x ∧ (∀ μ : Mu, μ 41 = C → μ 52 1 = nI o → f_CA_resultOf f t μ = some (x.toInt64, sI μ 52 1 (nI o'))) ∧ ∀ (ν : Mu) (p r : Nat), caI KK V NM A o p r k v ν → ∃ n ν', n ≤ 3 * (o' - o) + 1 ∧ caO KK V NM A p r x ν ν' ∧ ∀ fl, f_MO_calculate_23 (fl + n) (nI o) ν = f_MO_calculate_23 fl (nI o') ν'
  | none => (∀ μ : Mu, μ 41 = C → μ 52 1 = nI o → f_CA_resultOf f t μ = some (4294967296, sI μ 52 1 (nI o'))) ∧ ∀ (ν : Mu) (p r : Nat), caI KK V NM A o p r k v ν → ∃ n ν', n ≤ 3 * (o' - o) + 1 ∧ ν' 70 49 = 2 ∧ ∀ fl, f_MO_calculate_23 (fl + n + 1) (nI o) ν = some ν'

theorem mean_s (hR : cellsR C U T KK V NM A N S φ K τ) {t k v : Int32} (ht : tmR N φ K t k v) :
    ∃ t' k' v', tmR N φ K t' k' v' ∧ (∀ i, i < N → t' = wd i 0 → C i = wd i 0) ∧ (∀ (μ : Mu), μ 41 = C → f_CE_follow t μ = some t') ∧ (∀ (ν : Mu), okM KK V NM A ν → f_MO_mean k v ν = some (sI (sI ν 70 40 k') 70 41 v')) := by
  obtain ⟨t', k', v', h1, h2, h3, h4⟩ := deref_f hR ht
  exact ⟨t', k', v', h1, h2, h3, fun ν ho => h4 ν ho.1 ho.2.1⟩
theorem okM_s {ν : Mu} {j : Nat} {x : Int32} (h : okM KK V NM A ν) : okM KK V NM A (sI ν 70 j x) := h
theorem ca_res (hR : cellsR C U T KK V NM A N S φ K τ) (f : Nat) : ∀ (o : Nat) (t k v : Int32), tmR N φ K t k v → o ≤ 30 → 32 ≤ f + o →
    ∃ o' r, o ≤ o' ∧ o' ≤ 30 ∧ caR C KK V NM A f o o' t k v r := by
  have hN := hR.1
  induction f with
  | zero => intro o t k v _ h1 h2; omega
  | succ f ih =>
    intro o t k v ht ho hf
    obtain ⟨t', k', v', h1, h2, h3, h4⟩ := mean_s hR ht
    have hk9 : ¬ k = 9 := by
      rcases tmR_kd ht hN with ⟨-, q, -⟩ | ⟨-, q, -⟩ | ⟨-, q, -⟩ | ⟨-, q, -⟩ <;> rw [q] <;> decide
    -- the error at once
    have bad : kd t' ≠ 1 → (∀ μ : Mu, μ 41 = C → μ 52 1 = nI o → f_CA_isOperation t' μ = some 0 ∨ o = 30 ∧ f_CA_isOperation t' μ = some 1) → (∀ ν : Mu, ν 78 = NM → ν 70 40 = k' → ν 70 41 = v' → (b1 (if ¬ ν 70 40 = 3 then some (0 : Int32) else b1 (rd (ν 78) 240 (ν 70 41)) fun v20 => b1 (f_MO_arity v20 ν) fun v23 => if ¬ v23 = 2 then some (0 : Int32) else b1 (rd (ν 78) 240 (ν 70 41)) fun v25 => if v25 >>> ((3 : Int32) &&& 31) ≤ 27 then some (0 : Int32) else some (1 : Int32)) some = some 0) ∨ o = 30 ∧ (b1 (if ¬ ν 70 40 = 3 then some (0 : Int32) else b1 (rd (ν 78) 240 (ν 70 41)) fun v20 => b1 (f_MO_arity v20 ν) fun v23 => if ¬ v23 = 2 then some (0 : Int32) else b1 (rd (ν 78) 240 (ν 70 41)) fun v25 => if v25 >>> ((3 : Int32) &&& 31) ≤ 27 then some (0 : Int32) else some (1 : Int32)) some = some 1)) → k' ≠ 1 → ∃ o' r, o ≤ o' ∧ o' ≤ 30 ∧ caR C KK V NM A (f + 1) o o' t k v r := by
      intro e1 e2 e3 e4
      refine ⟨o, none, Nat.le_refl _, ho, ?_, ?_⟩
      · intro μ hμ ho1
        rw [sI_same ho1]
        unfold f_CA_resultOf
        rw [h3 μ hμ, b1_s, if_pos (show ¬ t' &&& 7 = 1 from fun q => e1 (kd_of q (by decide)))]
        rcases e2 μ hμ ho1 with q | ⟨q1, q2⟩
        · rw [q, b1_s, if_pos rfl]
        · rw [q2, b1_s, if_neg (by decide), ho1, q1, if_neg (by decide)]
      · intro ν p r ⟨i1, i2, i3, i4, i5, i6, i7, i8⟩
        refine ⟨1, sI (sI (sI (sI ν 70 30 (nI p)) 70 40 k') 70 41 v') 70 49 2, by omega, rfl, fun fl => ?_⟩
        rw [f_MO_calculate_23]
        rw [i4, if_neg (nI_nle (by omega) (by omega)), i8, if_neg (not_not_intro rfl), nI_pred, rd_n (by omega) (by decide), b1_s, i5, if_pos hk9, b1_s, rd_n (by omega) (by decide), b1_s, i6, h4 _ (okM_s i1), b1_s]
        have hb1 : ∀ (o : Option Int32) (x : Int32), b1 o some = some x → o = some x := by
          intro o x h
          cases o with
          | none => cases h
          | some y => exact h
        have fin : ∀ x : Int32, f_MO_calculate_23 (fl + 1) x (sI (sI (sI (sI ν 70 30 (nI p)) 70 40 k') 70 41 v') 70 49 2) = some (sI (sI (sI (sI ν 70 30 (nI p)) 70 40 k') 70 41 v') 70 49 2) := by
          intro x
          rw [f_MO_calculate_23]
          by_cases q : sI (sI (sI (sI ν 70 30 (nI p)) 70 40 k') 70 41 v') 70 49 2 70 30 ≤ 0
          · rw [if_pos q]
          · rw [if_neg q, if_pos (show ¬ sI (sI (sI (sI ν 70 30 (nI p)) 70 40 k') 70 41 v') 70 49 2 70 49 = 0 by rw [sI_at]; decide)]
        rcases e3 (sI (sI (sI ν 70 30 (nI p)) 70 40 k') 70 41 v') i1.2.2.1 rfl rfl with q | ⟨q1, q2⟩
        · rw [hb1 _ _ q, b1_s, if_pos (show ¬ sI (sI (sI ν 70 30 (nI p)) 70 40 k') 70 41 v' 70 40 = 1 from e4), if_pos rfl, b2_s]
          exact fin _
        · rw [hb1 _ _ q2, b1_s, if_pos (show ¬ sI (sI (sI ν 70 30 (nI p)) 70 40 k') 70 41 v' 70 40 = 1 from e4), if_neg (by decide), q1, if_pos (by decide), b2_s]
          exact fin _
    rcases tmR_kd h1 hN with ⟨d1, d2, i, d3, d4, d5, d6⟩ | ⟨d1, d2, d3⟩ | ⟨d1, d2, a, d3, d4, d5⟩ | ⟨d1, d2, i, d3, d4, d5, d6⟩
    · -- a free variable
      refine bad (by omega) (fun μ hμ _ => Or.inl ?_) (fun ν _ q _ => Or.inl ?_) (by rw [d2]; decide)
      · unfold f_CA_isOperation f_CE_nameOf
        rw [if_pos (k_ne 7 (by omega)), b1_s, if_pos (k_ne 4 (by omega))]
      · rw [q, d2, if_pos (by decide)]; rfl
    · -- a number
      refine ⟨o, some v', Nat.le_refl _, ho, ?_, ?_, ?_⟩
      · rw [d3]; exact rnd_shr _
      · intro μ hμ ho1
        rw [sI_same ho1]
        unfold f_CA_resultOf
        rw [h3 μ hμ, b1_s, if_neg (not_not_intro (show t' &&& 7 = 1 by rw [kd_e, d1]; rfl)), d3]
      · intro ν p r ⟨i1, i2, i3, i4, i5, i6, i7, i8⟩
        refine ⟨1, sI (sI (sI (sI (sI ν 70 30 (nI p)) 70 40 k') 70 41 v') 91 r v') 70 36 (nI (r + 1)), by omega, ⟨i1, ?_, ?_, ?_, rfl, rfl, i8⟩, fun fl => ?_⟩
        · intro j _; exact ⟨rfl, rfl⟩
        · intro j hj
          show sI (sI (sI (sI ν 70 30 (nI p)) 70 40 k') 70 41 v') 91 r v' 91 j = ν 91 j
          rw [sI_nj (by omega)]; rfl
        · show sI (sI (sI (sI ν 70 30 (nI p)) 70 40 k') 70 41 v') 91 r v' 91 r = v'
          exact sI_at
        · rw [f_MO_calculate_23]
          rw [i4, if_neg (nI_nle (by omega) (by omega)), i8, if_neg (not_not_intro rfl), nI_pred, rd_n (by omega) (by decide), b1_s, i5, if_pos hk9, b1_s, rd_n (by omega) (by decide), b1_s, i6, h4 _ (okM_s i1), b1_s]
          rw [if_pos (show ¬ sI (sI (sI ν 70 30 (nI p)) 70 40 k') 70 41 v' 70 40 = 3 by rw [show sI (sI (sI ν 70 30 (nI p)) 70 40 k') 70 41 v' 70 40 = k' from rfl, d2]; decide), b1_s, if_neg (not_not_intro (show sI (sI (sI ν 70 30 (nI p)) 70 40 k') 70 41 v' 70 40 = 1 from d2))]
          rw [show sI (sI (sI ν 70 30 (nI p)) 70 40 k') 70 41 v' 70 36 = nI r from i7, show sI (sI (sI ν 70 30 (nI p)) 70 40 k') 70 41 v' 70 41 = v' from rfl, wr_n (by omega) (by decide), b1_s, b2_s]
          show f_MO_calculate_23 fl (nI o) (sI (sI (sI (sI (sI ν 70 30 (nI p)) 70 40 k') 70 41 v') 91 r v') 70 36 (ν 70 36 + 1)) = _
          rw [i7, nI_1]
    · -- a name
      refine bad (by omega) (fun μ hμ _ => Or.inl ?_) (fun ν _ q _ => Or.inl ?_) (by rw [d2]; decide)
      · unfold f_CA_isOperation f_CE_nameOf
        rw [if_pos (k_ne 7 (by omega)), b1_s, if_pos (k_ne 4 (by omega))]
      · rw [q, d2, if_pos (by decide)]; rfl
    · -- a structure
      obtain ⟨a, nm, g1, g2, g3, g4, g5, g6, g7, g8⟩ := st_of hR d3 d4
      have hop : ∀ μ : Mu, μ 41 = C → f_CA_isOperation t' μ = some (if a = 2 ∧ 28 ≤ nm then 1 else 0) := by
        intro μ hμ
        unfold f_CA_isOperation
        rw [d5, nm_c hμ (by omega), b1_s, g4, wd_k (by omega) (by omega), wd_v (by omega) (by omega)]
        by_cases e1 : a = 2
        · subst e1
          rw [if_neg (not_not_intro (show nI (2 + 2) = 4 from rfl))]
          by_cases e2 : 28 ≤ nm
          · rw [if_neg (show ¬ nI nm < 28 from nI_nlt (b := 28) e2 (by omega)), if_pos ⟨rfl, e2⟩]
          · rw [if_pos (show nI nm < 28 from nI_lt (b := 28) (by omega) (by omega)), if_neg (fun q => e2 q.2)]
        · rw [if_pos (show ¬ nI (2 + a) = 4 from fun q => e1 (by have := (nI_eq (a := 2 + a) (b := 4) (by omega) (by omega)).mp q; omega)), if_neg (fun q => e1 q.1)]
      have hwk : ∀ ν : Mu, ν 78 = NM → ν 70 40 = k' → ν 70 41 = v' → (if ¬ ν 70 40 = 3 then some (0 : Int32) else b1 (rd (ν 78) 240 (ν 70 41)) fun v20 => b1 (f_MO_arity v20 ν) fun v23 => if ¬ v23 = 2 then some (0 : Int32) else b1 (rd (ν 78) 240 (ν 70 41)) fun v25 => if v25 >>> ((3 : Int32) &&& 31) ≤ 27 then some (0 : Int32) else some (1 : Int32)) = some (if a = 2 ∧ 28 ≤ nm then 1 else 0) := by
        intro ν q1 q2 q3
        rw [q2, d2, if_neg (not_not_intro rfl), q1, q3, d6, rd_n g7 (by decide), b1_s, g5, ar_s g3 g1 g2, b1_s]
        by_cases e1 : a = 2
        · subst e1
          rw [if_neg (not_not_intro (show nI 2 = 2 from rfl)), b1_s, wd_v (by omega) (by omega)]
          by_cases e2 : 28 ≤ nm
          · rw [if_neg (show ¬ nI nm ≤ 27 from nI_ge (a := 27) (by omega) (by omega)), if_pos ⟨rfl, e2⟩]
          · rw [if_pos (show nI nm ≤ 27 from nI_le (b := 27) (by omega) (by omega)), if_neg (fun q => e2 q.2)]
        · rw [if_pos (show ¬ nI a = 2 from fun q => e1 ((nI_eq (a := a) (b := 2) (by omega) (by omega)).mp q)), if_neg (fun q => e1 q.1)]
      by_cases e1 : a = 2 ∧ 28 ≤ nm
      · by_cases e2 : o = 30
        · refine bad (by omega) (fun μ hμ _ => Or.inr ⟨e2, ?_⟩) (fun ν q1 q2 q3 => Or.inr ⟨e2, ?_⟩) (by rw [d2]; decide)
          · rw [hop μ hμ, if_pos e1]
          · rw [hwk ν q1 q2 q3, if_pos e1]; rfl
        · obtain ⟨ea, en⟩ := e1
          subst ea
          obtain ⟨y1, y2, y3, y4⟩ := g8 0 (by omega)
          obtain ⟨z1, z2, z3, z4⟩ := g8 1 (by omega)
          obtain ⟨o1, r1, p1, p2, p3⟩ := ih (o + 1) _ _ _ y4 (by omega) (by omega)
          have hA1 : ∀ μ : Mu, μ 41 = C → f_CE_argument t' 1 μ = some (C (i + 1)) := fun μ hμ => by rw [d5]; exact arg_c (m := 1) hμ (by omega)
          have hA2 : ∀ μ : Mu, μ 41 = C → f_CE_argument t' 2 μ = some (C (i + 2)) := fun μ hμ => by rw [d5]; exact arg_c (m := 2) hμ (by omega)
          -- the reference opens the structure
          have opn : ∀ (ν : Mu) (p r : Nat), caI KK V NM A o p r k v ν → ∃ ν1, (∀ fl, f_MO_calculate_23 (fl + 1) (nI o) ν = f_MO_calculate_23 fl (nI (o + 1)) ν1) ∧ caI KK V NM A (o + 1) (p + 2) r (KK (φ (i + 1 + 0))) (V (φ (i + 1 + 0))) ν1 ∧ ν1 88 (p + 1) = KK (φ (i + 1 + 1)) ∧ ν1 89 (p + 1) = V (φ (i + 1 + 1)) ∧ ν1 88 p = 9 ∧ ν1 89 p = nI nm ∧ (∀ j, j < p → ν1 88 j = ν 88 j ∧ ν1 89 j = ν 89 j) ∧ ν1 91 = ν 91 := by
            intro ν p r ⟨i1, i2, i3, i4, i5, i6, i7, i8⟩
            obtain ⟨ν2, u1, u2, u3, u4, u5⟩ := push_s (ν := sI (sI (sI ν 70 30 (nI p)) 70 40 k') 70 41 v') (p := p) (k := 9) (v := nI nm) rfl (by omega)
            obtain ⟨ν3, w1, w2, w3, w4⟩ := pa_s (ν := ν2) hR d3 d4 g4 g1 g2 g3 (pfr_ok u5 i1) u2 (by omega)
            refine ⟨ν3, fun fl => ?_, ⟨pfr_ok w4 (pfr_ok u5 i1), by omega, by omega, w2, (w3 0 (by omega)).1, (w3 0 (by omega)).2, ?_, ?_⟩, (w3 1 (by omega)).1, (w3 1 (by omega)).2, ?_, ?_, fun j hj => ?_, ?_⟩
            · rw [f_MO_calculate_23]
              rw [i4, if_neg (nI_nle (by omega) (by omega)), i8, if_neg (not_not_intro rfl), nI_pred, rd_n (by omega) (by decide), b1_s, i5, if_pos hk9, b1_s, rd_n (by omega) (by decide), b1_s, i6, h4 _ (okM_s i1), b1_s]
              rw [hwk (sI (sI (sI ν 70 30 (nI p)) 70 40 k') 70 41 v') i1.2.2.1 rfl rfl, if_pos ⟨rfl, en⟩, b1_s, if_pos (show ¬ sI (sI (sI ν 70 30 (nI p)) 70 40 k') 70 41 v' 70 40 = 1 by rw [show sI (sI (sI ν 70 30 (nI p)) 70 40 k') 70 41 v' 70 40 = k' from rfl, d2]; decide), if_neg (by decide), if_neg (show ¬ 30 ≤ nI o from nI_ge (b := 30) (by omega) (by decide))]
              rw [show sI (sI (sI ν 70 30 (nI p)) 70 40 k') 70 41 v' 78 = NM from i1.2.2.1, show sI (sI (sI ν 70 30 (nI p)) 70 40 k') 70 41 v' 70 41 = v' from rfl, d6, rd_n g7 (by decide), b1_s, g5, wd_v (by omega) (by omega)]
              rw [d6] at u1 u5
              rw [u1, b1_s, show ν2 70 41 = nI (φ i) from u5.2.1 41 (by decide), w1, b1_s, b2_s, nI_1]
            · rw [w4.2.1 36 (by decide), u5.2.1 36 (by decide)]; exact i7
            · rw [w4.2.1 49 (by decide), u5.2.1 49 (by decide)]; exact i8
            · rw [(w4.2.2 p (by omega)).1, u3]
            · rw [(w4.2.2 p (by omega)).2, u4]
            · rw [(w4.2.2 j (by omega)).1, (w4.2.2 j (by omega)).2, (u5.2.2 j hj).1, (u5.2.2 j hj).2]; exact ⟨rfl, rfl⟩
            · rw [w4.1 91 (by decide) (by decide) (by decide), u5.1 91 (by decide) (by decide) (by decide)]; rfl
          cases r1 with
          | none =>
            refine ⟨o1, none, by omega, p2, ?_, ?_⟩
            · intro μ hμ ho1
              unfold f_CA_resultOf
              rw [h3 μ hμ, b1_s, if_pos (k_ne 1 (by omega)), hop μ hμ, if_pos ⟨rfl, en⟩, b1_s, if_neg (by decide), ho1, if_pos (show nI o < 30 from nI_lt (b := 30) (by omega) (by decide)), nI_1, hA1 (sI μ 52 1 (nI (o + 1))) hμ, b1_s]
              rw [p3.1 (sI μ 52 1 (nI (o + 1))) hμ rfl, b2_s, if_neg (not_not_intro l_n0), sI_sI]
            · intro ν p r hI
              obtain ⟨ν1, q1, q2, -⟩ := opn ν p r hI
              obtain ⟨n, ν', q3, q4, q5⟩ := p3.2 ν1 (p + 2) r q2
              refine ⟨n + 1, ν', by omega, q4, fun fl => ?_⟩
              rw [show fl + (n + 1) + 1 = (fl + n + 1) + 1 by omega, q1]
              exact q5 fl
          | some x1 =>
            obtain ⟨rx1, p3, p4⟩ := p3
            obtain ⟨o2, r2, m1, m2, m3⟩ := ih o1 _ _ _ z4 (by omega) (by omega)
            have cls : ∀ μ : Mu, μ 41 = C → μ 52 1 = nI o → f_CA_resultOf (f + 1) t μ = (b2 (f_CA_resultOf f (C (i + 2)) (sI μ 52 1 (nI o1))) fun v18 μ19 => if ¬ (lg_cmp v18 4294967296) = 0 then (b1 (f_CE_nameOf t' μ19) fun v23 => b1 (f_CA_join (v23 >>> ((3 : Int32) &&& 31)) (Int64.toInt32 x1.toInt64) (Int64.toInt32 v18) μ19) fun v25 => some (v25, μ19)) else some (4294967296, μ19)) := by
              intro μ hμ ho1
              rw [f_CA_resultOf]
              rw [h3 μ hμ, b1_s, if_pos (k_ne 1 (by omega)), hop μ hμ, if_pos ⟨rfl, en⟩, b1_s, if_neg (by decide), ho1, if_pos (show nI o < 30 from nI_lt (b := 30) (by omega) (by decide)), nI_1, hA1 (sI μ 52 1 (nI (o + 1))) hμ, b1_s]
              rw [p3 (sI μ 52 1 (nI (o + 1))) hμ rfl, b2_s, if_pos (l_nn x1), sI_sI, hA2 (sI μ 52 1 (nI o1)) hμ, b1_s]
            -- the second argument's turn
            have snd : ∀ (ν : Mu) (p r : Nat), caI KK V NM A o p r k v ν → ∃ n ν1, n ≤ 3 * (o1 - (o + 1)) + 2 ∧ (∀ fl, f_MO_calculate_23 (fl + n) (nI o) ν = f_MO_calculate_23 fl (nI o1) ν1) ∧ caI KK V NM A o1 (p + 1) (r + 1) (KK (φ (i + 1 + 1))) (V (φ (i + 1 + 1))) ν1 ∧ ν1 91 r = x1 ∧ ν1 88 p = 9 ∧ ν1 89 p = nI nm ∧ (∀ j, j < p → ν1 88 j = ν 88 j ∧ ν1 89 j = ν 89 j) ∧ ∀ j, j < r → ν1 91 j = ν 91 j := by
              intro ν p r hI
              obtain ⟨ν1, q1, q2, q3, q4, q5, q6, q7, q8⟩ := opn ν p r hI
              obtain ⟨n, ν2, v1, ⟨v2, v3, v4, v5, v6, v7, v8⟩, v9⟩ := p4 ν1 (p + 2) r q2
              have hI2 := hI.2.1
              have hI3 := hI.2.2.1
              refine ⟨n + 1, ν2, by omega, fun fl => ?_, ⟨v2, by omega, by omega, v6, ?_, ?_, v7, v8⟩, v5, ?_, ?_, fun j hj => ?_, fun j hj => ?_⟩
              · rw [show fl + (n + 1) = (fl + n) + 1 by omega, q1]
                exact v9 fl
              · rw [(v3 (p + 1) (by omega)).1, q3]
              · rw [(v3 (p + 1) (by omega)).2, q4]
              · rw [(v3 p (by omega)).1, q5]
              · rw [(v3 p (by omega)).2, q6]
              · rw [(v3 j (by omega)).1, (v3 j (by omega)).2]; exact q7 j hj
              · rw [v4 j hj, q8]
            cases r2 with
            | none =>
              refine ⟨o2, none, by omega, m2, ?_, ?_⟩
              · intro μ hμ ho1
                rw [cls μ hμ ho1]
                rw [m3.1 (sI μ 52 1 (nI o1)) hμ rfl, b2_s, if_neg (not_not_intro l_n0), sI_sI]
              · intro ν p r hI
                obtain ⟨n1, ν1, q0, q1, q2, -⟩ := snd ν p r hI
                obtain ⟨n, ν', q3, q4, q5⟩ := m3.2 ν1 (p + 1) (r + 1) q2
                refine ⟨n + n1, ν', by omega, q4, fun fl => ?_⟩
                rw [show fl + (n + n1) + 1 = (fl + n + 1) + n1 by omega, q1]
                exact q5 fl
            | some x2 =>
              obtain ⟨rx2, m3, m4⟩ := m3
              have cls2 : ∀ μ : Mu, μ 41 = C → μ 52 1 = nI o → f_CA_resultOf (f + 1) t μ = some ((match jn nm x1 x2 with | some z => z.toInt64 | none => 4294967296), sI μ 52 1 (nI o2)) := by
                intro μ hμ ho1
                rw [cls μ hμ ho1, m3 (sI μ 52 1 (nI o1)) hμ rfl, b2_s, if_pos (l_nn x2), sI_sI, d5, nm_c (μ := sI μ 52 1 (nI o2)) hμ (by omega), b1_s, g4, wd_v (by omega) (by omega), l_i, l_i, jn_c en g3, b1_s]
              have trd : ∀ (ν : Mu) (p r : Nat), caI KK V NM A o p r k v ν → ∃ n ν1, n ≤ 3 * (o2 - o) ∧ (∀ fl, f_MO_calculate_23 (fl + n) (nI o) ν = f_MO_calculate_23 fl (nI o2) ν1) ∧ okM KK V NM A ν1 ∧ ν1 70 30 = nI (p + 1) ∧ ν1 70 36 = nI (r + 2) ∧ ν1 70 49 = 0 ∧ ν1 91 r = x1 ∧ ν1 91 (r + 1) = x2 ∧ ν1 88 p = 9 ∧ ν1 89 p = nI nm ∧ (∀ j, j < p → ν1 88 j = ν 88 j ∧ ν1 89 j = ν 89 j) ∧ ∀ j, j < r → ν1 91 j = ν 91 j := by
                intro ν p r hI
                obtain ⟨n1, ν1, q0, q1, q2, q3, q4, q5, q6, q7⟩ := snd ν p r hI
                obtain ⟨n, ν2, v1, ⟨v2, v3, v4, v5, v6, v7, v8⟩, v9⟩ := m4 ν1 (p + 1) (r + 1) q2
                refine ⟨n + n1, ν2, by omega, fun fl => ?_, v2, v6, v7, v8, ?_, v5, ?_, ?_, fun j hj => ?_, fun j hj => ?_⟩
                · rw [show fl + (n + n1) = (fl + n) + n1 by omega, q1]
                  exact v9 fl
                · rw [v4 r (by omega), q3]
                · rw [(v3 p (by omega)).1, q4]
                · rw [(v3 p (by omega)).2, q5]
                · rw [(v3 j (by omega)).1, (v3 j (by omega)).2]; exact q6 j hj
                · rw [v4 j (by omega)]; exact q7 j hj
              have app : ∀ (ν1 : Mu) (p r fl : Nat), ν1 70 30 = nI (p + 1) → p ≤ 60 → ν1 70 49 = 0 → ν1 88 p = 9 → ν1 89 p = nI nm → f_MO_calculate_23 (fl + 1) (nI o2) ν1 = (b1 (f_MO_apply (nI nm) (sI ν1 70 30 (nI p))) fun μ50 => f_MO_calculate_23 fl (nI o2) μ50) := by
                intro ν1 p r fl q1 q2 q3 q4 q5
                rw [f_MO_calculate_23]
                rw [q1, if_neg (nI_nle (by omega) (by omega)), q3, if_neg (not_not_intro rfl), nI_pred, rd_n (by omega) (by decide), b1_s, q4, if_neg (not_not_intro rfl), rd_n (by omega) (by decide), b1_s, q5]
              cases hj : jn nm x1 x2 with
              | none =>
                refine ⟨o2, none, by omega, m2, ?_, ?_⟩
                · intro μ hμ ho1
                  rw [cls2 μ hμ ho1, hj]
                · intro ν p r hI
                  have hI2 := hI.2.1
                  have hI3 := hI.2.2.1
                  obtain ⟨n, ν1, q0, q1, q2, q3, q4, q5, q6, q7, q8, q9, -, -⟩ := trd ν p r hI
                  refine ⟨n + 1, sI (sI (sI ν1 70 30 (nI p)) 70 36 (nI r)) 70 49 2, by omega, rfl, fun fl => ?_⟩
                  rw [show fl + (n + 1) + 1 = (fl + 1 + 1) + n by omega, q1, app ν1 p r (fl + 1) q3 (by omega) q5 q8 q9]
                  rcases jn_m (ν := sI ν1 70 30 (nI p)) (nm := nm) (r := r) en g3 q4 (by omega) with ⟨z, j1, j2⟩ | ⟨j1, j2⟩
                  · have j1' : jn nm (ν1 91 r) (ν1 91 (r + 1)) = some z := j1
                    rw [q6, q7, hj] at j1'
                    cases j1'
                  · rw [j2, b1_s, f_MO_calculate_23]
                    by_cases q : sI (sI (sI ν1 70 30 (nI p)) 70 36 (nI r)) 70 49 2 70 30 ≤ 0
                    · rw [if_pos q]
                    · rw [if_neg q, if_pos (show ¬ sI (sI (sI ν1 70 30 (nI p)) 70 36 (nI r)) 70 49 2 70 49 = 0 by rw [sI_at]; decide)]
              | some z =>
                refine ⟨o2, some z, by omega, m2, jn_r hj, ?_, ?_⟩
                · intro μ hμ ho1
                  rw [cls2 μ hμ ho1, hj]
                · intro ν p r hI
                  have hI2 := hI.2.1
                  have hI3 := hI.2.2.1
                  obtain ⟨n, ν1, q0, q1, q2, q3, q4, q5, q6, q7, q8, q9, q10, q11⟩ := trd ν p r hI
                  rcases jn_m (ν := sI ν1 70 30 (nI p)) (nm := nm) (r := r) en g3 q4 (by omega) with ⟨z2, j1, j2⟩ | ⟨j1, j2⟩
                  · have j1' : jn nm (ν1 91 r) (ν1 91 (r + 1)) = some z2 := j1
                    rw [q6, q7, hj] at j1'
                    have ez := Option.some.inj j1'
                    subst ez
                    refine ⟨n + 1, sI (sI (sI (sI ν1 70 30 (nI p)) 70 36 (nI r)) 91 r z) 70 36 (nI (r + 1)), by omega, ⟨q2, fun j hj => q10 j hj, fun j hj => ?_, ?_, rfl, rfl, q5⟩, fun fl => ?_⟩
                    rotate_left 2
                    · rw [show fl + (n + 1) = (fl + 1) + n by omega, q1, app ν1 p r fl q3 (by omega) q5 q8 q9, j2, b1_s]
                    · show sI (sI (sI ν1 70 30 (nI p)) 70 36 (nI r)) 91 r z 91 j = _
                      rw [sI_nj (by omega)]
                      exact q11 j hj
                    · show sI (sI (sI ν1 70 30 (nI p)) 70 36 (nI r)) 91 r z 91 r = _
                      exact sI_at
                  · have j1' : jn nm (ν1 91 r) (ν1 91 (r + 1)) = none := j1
                    rw [q6, q7, hj] at j1'
                    cases j1'
      · refine bad (by omega) (fun μ hμ _ => Or.inl ?_) (fun ν q1 q2 q3 => Or.inl ?_) (by rw [d2]; decide)
        · rw [hop μ hμ, if_neg e1]
        · rw [hwk ν q1 q2 q3, if_neg e1]; rfl

/-- calculating a term: the same number, or the error -/
theorem ca_s (hR : cellsR C U T KK V NM A N S φ K τ) {t k v : Int32} (ht : tmR N φ K t k v) :
    ∃ o r, o ≤ 30 ∧ (∀ μ : Mu, μ 41 = C → f_CA_calculate t μ = some ((match r with | some x => Int32.toInt64 x | none => 4294967296), sI μ 52 1 (nI o))) ∧ (∀ x, r = some x → rnd x = x) ∧ ∀ ν : Mu, okM KK V NM A ν → ∃ ν', f_MO_calculate k v ν = some (r.getD 0, ν') ∧ ν' 70 49 = (if r = none then 2 else 0) := by
  obtain ⟨o, r, -, h2, h3⟩ := ca_res hR 32 0 t k v ht (by omega) (by omega)
  have hin : ∀ ν : Mu, okM KK V NM A ν → ∃ ν1, f_MO_push k v (sI (sI (sI ν 70 49 0) 70 30 0) 70 36 0) = some ν1 ∧ caI KK V NM A 0 0 0 k v ν1 := by
    intro ν ho
    obtain ⟨ν1, u1, u2, u3, u4, u5⟩ := push_s (ν := sI (sI (sI ν 70 49 0) 70 30 0) 70 36 0) (p := 0) (k := k) (v := v) rfl (by omega)
    refine ⟨ν1, u1, pfr_ok u5 ho, by omega, by omega, u2, u3, u4, ?_, ?_⟩
    · rw [u5.2.1 36 (by decide)]; rfl
    · rw [u5.2.1 49 (by decide)]; rfl
  cases r with
  | none =>
    refine ⟨o, none, h2, fun μ hμ => ?_, (fun x q => by cases q), fun ν ho => ?_⟩
    · unfold f_CA_calculate
      rw [h3.1 (sI μ 52 1 0) hμ rfl, b2_s, sI_sI]
    · obtain ⟨ν1, u1, u2⟩ := hin ν ho
      obtain ⟨n, ν', q1, q2, q3⟩ := h3.2 ν1 0 0 u2
      refine ⟨ν', ?_, by rw [q2, if_pos rfl]⟩
      unfold f_MO_calculate
      have e : fu = (fu - n - 1) + n + 1 := by unfold fu; omega
      rw [u1, b1_s, e, show (0 : Int32) = nI 0 from rfl, q3, b1_s, q2, if_pos (by decide)]
      rfl
  | some x =>
    refine ⟨o, some x, h2, fun μ hμ => ?_, (fun y q => by cases q; exact h3.1), fun ν ho => ?_⟩
    · unfold f_CA_calculate
      rw [h3.2.1 (sI μ 52 1 0) hμ rfl, b2_s, sI_sI]
    · obtain ⟨ν1, u1, u2⟩ := hin ν ho
      obtain ⟨n, ν', q1, ⟨q2, q3, q4, q5, q6, q7, q8⟩, q9⟩ := h3.2.2 ν1 0 0 u2
      refine ⟨ν', ?_, by rw [q8, if_neg (by intro q; cases q)]⟩
      unfold f_MO_calculate
      have e : fu = ((fu - n - 1) + 1) + n := by unfold fu; omega
      rw [u1, b1_s, e, show f_MO_calculate_23 (fu - n - 1 + 1 + n) 0 ν1 = f_MO_calculate_23 (fu - n - 1 + 1) (nI o) ν' from q9 _]
      rw [f_MO_calculate_23, q6, if_pos (by decide), b1_s, q8, if_neg (not_not_intro rfl), show (0 : Int32) = nI 0 from rfl, rd_n (by decide) (by decide), b1_s, q5]
      rfl
end CLA
