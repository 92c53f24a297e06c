/-! the answer's words -/
section ANA
theorem num_w {t : Int32} (h : kd t = 1) : 8 * (t >>> ((3 : Int32) &&& 31)) + 1 = t := by
  have h1 : (t >>> ((3 : Int32) &&& 31)).toInt = t.toInt >>> 3 := pk_shr t _ 3 (by decide)
  have h2 : t.toInt >>> 3 = t.toInt / 8 := by
    rw [Int.shiftRight_eq_div_pow]; rfl
  have h3 : t.toInt % 8 = 1 := by
    unfold kd at h
    have h4 : t.toInt = (t.toBitVec.toNat : Int).bmod (2 ^ 32) := by
      show t.toBitVec.toInt = _
      rw [BitVec.toInt_eq_toNat_bmod]
    rw [h4]
    have h5 := Int.bmod_add_bdiv' (t.toBitVec.toNat : Int) (2 ^ 32)
    omega
  apply Int32.toInt_inj.mp
  rw [Int32.toInt_add, Int32.toInt_mul, h1, h2]
  have h6 : (8 : Int32).toInt = 8 := by decide
  have h7 : (1 : Int32).toInt = 1 := by decide
  rw [h6, h7]
  have h8 : 8 * (t.toInt / 8) + 1 = t.toInt := by omega
  rw [Int.bmod_add_bmod, h8]
  exact Int.bmod_eq_of_le (by have := Int32.le_toInt t; omega) (by have := Int32.toInt_lt t; omega)
variable {C U T KK V NM A : Nat → Int32} {N S : Nat} {φ K τ : Nat → Nat}
/-- the variables that were met, in the class and in the reference -/
def anF (N : Nat) (φ K : Nat → Nat) (fc : Nat) (F B : Nat → Int32) : Prop :=
  ∀ i, i < N → K i = 1 → (B (φ i) = 0 ∧ ∀ x, x < fc → F x ≠ wd i 0) ∨ ∃ x, x < fc ∧ B (φ i) = nI (x + 1) ∧ F x = wd i 0 ∧ ∀ y, y < x → F y ≠ wd i 0
def anR (C KK V NM A : Nat → Int32) (N : Nat) (φ K : Nat → Nat) (ln fc w : Nat) (μ ν : Mu) : Prop :=
  (μ 41 = C ∧ okM KK V NM A ν) ∧ (μ 66 2 = nI ln ∧ ν 70 38 = nI ln) ∧ (μ 66 4 = nI fc ∧ ν 70 34 = nI (fc + 1)) ∧ (∀ x, x < ln → μ 67 x = ν 92 x) ∧ anF N φ K fc (μ 68) (ν 90) ∧ (μ 66 6 = nI w ∧ ν 70 30 = nI w) ∧ ∀ x, x < w → tmR N φ K (μ 69 x) (ν 88 x) (ν 89 x)
theorem an_put {ln fc w : Nat} {x : Int32} {μ ν : Mu} (h : anR C KK V NM A N φ K ln fc w μ ν) : anR C KK V NM A N φ K (ln + 1) fc w (sI (sI μ 67 ln x) 66 2 (nI (ln + 1))) (sI (sI ν 92 ln x) 70 38 (nI (ln + 1))) := by
  obtain ⟨a1, a2, a3, a4, a5, a6, a7⟩ := h
  refine ⟨a1, ⟨rfl, rfl⟩, a3, fun y hy => ?_, a5, a6, a7⟩
  show sI μ 67 ln x 67 y = sI ν 92 ln x 92 y
  by_cases e : y = ln
  · subst e; rw [sI_at, sI_at]
  · rw [sI_nj e, sI_nj e]; exact a4 y (by omega)
theorem wo_old {i x fc : Nat} {μ : Mu} (hi : i < 240) (hx : x < fc) (hfc : fc ≤ 90) (h4 : μ 66 4 = nI fc) (e : μ 68 x = wd i 0) (hl : ∀ y, y < x → μ 68 y ≠ wd i 0) : ∀ (d f y : Nat), y + d = x → d < f → f_AN_wordOf_18 (wd i 0) f (nI y) μ = some (wd x 0, μ) := by
  intro d
  induction d with
  | zero =>
    intro f y h1 h2
    obtain ⟨f, rfl⟩ : ∃ f0, f = f0 + 1 := ⟨f - 1, by omega⟩
    have ey : y = x := by omega
    subst ey
    rw [f_AN_wordOf_18, h4, if_neg (nI_ge (by omega) (by omega)), rd_n (by omega) (by decide), b1_s, e, if_neg (not_not_intro rfl), wd_shl (by omega)]
  | succ d ih =>
    intro f y h1 h2
    obtain ⟨f, rfl⟩ : ∃ f0, f = f0 + 1 := ⟨f - 1, by omega⟩
    rw [f_AN_wordOf_18, h4, if_neg (nI_ge (by omega) (by omega)), rd_n (by omega) (by decide), b1_s, if_pos (hl y (by omega)), nI_1]
    exact ih f (y + 1) (by omega) (by omega)
theorem wo_new {i fc : Nat} {μ : Mu} (hfc : fc < 90) (h4 : μ 66 4 = nI fc) (hl : ∀ y, y < fc → μ 68 y ≠ wd i 0) : ∀ (d f y : Nat), y + d = fc → d < f → f_AN_wordOf_18 (wd i 0) f (nI y) μ = some (wd fc 0, sI (sI μ 68 fc (wd i 0)) 66 4 (nI (fc + 1))) := by
  intro d
  induction d with
  | zero =>
    intro f y h1 h2
    obtain ⟨f, rfl⟩ : ∃ f0, f = f0 + 1 := ⟨f - 1, by omega⟩
    have ey : y = fc := by omega
    subst ey
    rw [f_AN_wordOf_18, h4, if_pos (nI_le (by omega) (by omega)), wr_n (by omega) (by decide), b1_s, show (sI μ 68 y (wd i 0)) 66 4 = nI y from h4, nI_1, nI_pred, wd_shl (by omega)]
  | succ d ih =>
    intro f y h1 h2
    obtain ⟨f, rfl⟩ : ∃ f0, f = f0 + 1 := ⟨f - 1, by omega⟩
    rw [f_AN_wordOf_18, h4, if_neg (nI_ge (by omega) (by omega)), rd_n (by omega) (by decide), b1_s, if_pos (hl y (by omega)), nI_1]
    exact ih f (y + 1) (by omega) (by omega)
theorem an_new (hR : cellsR C U T KK V NM A N S φ K τ) {ln fc w i : Nat} {μ ν : Mu} (h : anR C KK V NM A N φ K ln fc w μ ν) (hi : i < N) (hno : ∀ x, x < fc → μ 68 x ≠ wd i 0) : anR C KK V NM A N φ K ln (fc + 1) w (sI (sI μ 68 fc (wd i 0)) 66 4 (nI (fc + 1))) (sI (sI ν 90 (φ i) (nI (fc + 1))) 70 34 (nI (fc + 2))) := by
  obtain ⟨a1, a2, a3, a4, a5, a6, a7⟩ := h
  have hN := hR.1
  refine ⟨a1, a2, ⟨rfl, rfl⟩, a4, fun j hj hK => ?_, a6, a7⟩
  show ((sI ν 90 (φ i) (nI (fc + 1))) 90 (φ j) = 0 ∧ ∀ x, x < fc + 1 → (sI μ 68 fc (wd i 0)) 68 x ≠ wd j 0) ∨ ∃ x, x < fc + 1 ∧ (sI ν 90 (φ i) (nI (fc + 1))) 90 (φ j) = nI (x + 1) ∧ (sI μ 68 fc (wd i 0)) 68 x = wd j 0 ∧ ∀ y, y < x → (sI μ 68 fc (wd i 0)) 68 y ≠ wd j 0
  by_cases e : j = i
  · subst e
    refine Or.inr ⟨fc, by omega, sI_at, sI_at, fun y hy => ?_⟩
    rw [sI_nj (by omega)]; exact hno y hy
  · have hφ : φ j ≠ φ i := fun q => e (phi_inj hR hj hi q)
    have hw : wd i 0 ≠ wd j 0 := by
      intro q
      have := (wd_eq (by omega) (by omega) (by omega) (by omega)).mp q
      omega
    rw [sI_nj hφ]
    rcases a5 j hj hK with ⟨q1, q2⟩ | ⟨x, q1, q2, q3, q4⟩
    · refine Or.inl ⟨q1, fun x hx => ?_⟩
      by_cases ex : x = fc
      · subst ex; rw [sI_at]; exact hw
      · rw [sI_nj ex]; exact q2 x (by omega)
    · refine Or.inr ⟨x, by omega, q2, by rw [sI_nj (by omega)]; exact q3, fun y hy => by rw [sI_nj (by omega)]; exact q4 y hy⟩
/-- the class lays a structure's arguments on its waiting row, the first on top -/
theorem oa_l {i a : Nat} (hi : i + a < 240) (ha : a ≤ 3) (m : Nat) : ∀ (fl w : Nat) (μ : Mu), m ≤ a → m < fl → μ 41 = C → μ 66 6 = nI w → w + m ≤ 181 →
    ∃ μ', f_AN_openArguments_22 (wd i 7) fl (nI m) μ = some μ' ∧ μ' 66 6 = nI (w + m) ∧ (∀ n, n < m → μ' 69 (w + (m - 1 - n)) = C (i + 1 + n)) ∧ (∀ k, k ≠ 66 → k ≠ 69 → μ' k = μ k) ∧ (∀ j, j ≠ 6 → μ' 66 j = μ 66 j) ∧ ∀ x, x < w → μ' 69 x = μ 69 x := by
  induction m with
  | zero =>
    intro fl w μ hm hfl h41 hw hb
    obtain ⟨fl, rfl⟩ : ∃ f0, fl = f0 + 1 := ⟨fl - 1, by omega⟩
    refine ⟨μ, ?_, hw, fun n hn => by omega, fun _ _ _ => rfl, fun _ _ => rfl, fun _ _ => rfl⟩
    rw [f_AN_openArguments_22, if_pos (by decide)]
  | succ m ih =>
    intro fl w μ hm hfl h41 hw hb
    obtain ⟨fl, rfl⟩ : ∃ f0, fl = f0 + 1 := ⟨fl - 1, by omega⟩
    obtain ⟨μ', u1, u2, u3, u4, u5, u6⟩ := ih fl (w + 1) (sI (sI μ 69 w (C (i + (m + 1)))) 66 6 (nI (w + 1))) (by omega) (by omega) h41 rfl (by omega)
    refine ⟨μ', ?_, by rw [u2]; congr 1; omega, fun n hn => ?_, fun k a b => by rw [u4 k a b, sI_nk a, sI_nk b], fun j hj => by rw [u5 j hj, sI_nj hj, sI_nk (by decide)], fun x hx => ?_⟩
    · rw [f_AN_openArguments_22, if_neg (show ¬ nI (m + 1) < 1 from nI_nlt (b := 1) (by omega) (by omega)), arg_c (C := C) h41 (by omega), b1_s, hw, wr_n (by omega) (by decide), b1_s, show (sI μ 69 w (C (i + (m + 1)))) 66 6 = nI w from hw, nI_1, i_m1, nI_pred]
      exact u1
    · by_cases e : n = m
      · subst e
        rw [show w + (n + 1 - 1 - n) = w by omega, u6 w (by omega), sI_nk (by decide), sI_at]
        congr 1; omega
      · have := u3 n (by omega)
        rw [show w + (m + 1 - 1 - n) = w + 1 + (m - 1 - n) by omega]
        exact this
    · rw [u6 x (by omega), sI_nk (by decide), sI_nj (by omega)]
theorem an_l (hR : cellsR C U T KK V NM A N S φ K τ) (d : Nat) : ∀ (f1 f2 ln fc w : Nat) (μ ν : Mu), ln + d = 90 → d < f1 → d < f2 → fc ≤ ln → w ≤ 2 * ln + 1 → anR C KK V NM A N φ K ln fc w μ ν →
    ∃ ln' fc' w' μ' ν', f_AN_writeTerm_12 f1 μ = some μ' ∧ f_MO_sayTerm_0 f2 ν = some ν' ∧ ln' ≤ 90 ∧ fc' ≤ ln' ∧ anR C KK V NM A N φ K ln' fc' w' μ' ν' := by
  have hN := hR.1
  induction d with
  | zero =>
    intro f1 f2 ln fc w μ ν h1 h2 h3 h4 h5 hA
    obtain ⟨f1, rfl⟩ : ∃ f0, f1 = f0 + 1 := ⟨f1 - 1, by omega⟩
    obtain ⟨f2, rfl⟩ : ∃ f0, f2 = f0 + 1 := ⟨f2 - 1, by omega⟩
    have el : ln = 90 := by omega
    subst el
    refine ⟨90, fc, w, μ, ν, ?_, ?_, by omega, h4, hA⟩
    · rw [f_AN_writeTerm_12, hA.2.1.1, if_pos (show 90 ≤ nI 90 by decide), ite_self]
    · rw [f_MO_sayTerm_0, hA.2.1.2, if_pos (show 90 ≤ nI 90 by decide), ite_self]
  | succ d ih =>
    intro f1 f2 ln fc w μ ν h1 h2 h3 h4 h5 hA
    obtain ⟨f1, rfl⟩ : ∃ f0, f1 = f0 + 1 := ⟨f1 - 1, by omega⟩
    obtain ⟨f2, rfl⟩ : ∃ f0, f2 = f0 + 1 := ⟨f2 - 1, by omega⟩
    obtain ⟨⟨a1, a1m⟩, ⟨a2, a2m⟩, ⟨a3, a3m⟩, a4, a5, ⟨a6, a6m⟩, a7⟩ := id hA
    by_cases ew : w = 0
    · subst ew
      refine ⟨ln, fc, 0, μ, ν, ?_, ?_, by omega, h4, hA⟩
      · rw [f_AN_writeTerm_12, a6, if_pos (show nI 0 ≤ 0 by decide)]
      · rw [f_MO_sayTerm_0, a6m, if_pos (show nI 0 ≤ 0 by decide)]
    obtain ⟨w0, rfl⟩ : ∃ w0, w = w0 + 1 := ⟨w - 1, by omega⟩
    obtain ⟨t', k', v', m1, m2, m3, m4⟩ := mean_s hR (a7 w0 (by omega))
    -- both take the top term
    have hcl : f_AN_writeTerm_12 (f1 + 1) μ = (b2 (f_AN_wordOf t' (sI μ 66 6 (nI w0))) fun v11 μ12 => b1 (wr μ12 67 90 (nI ln) v11) fun μ14 => b1 (f_AN_openArguments t' (sI μ14 66 2 ((μ14 66 2) + 1))) fun μ18 => f_AN_writeTerm_12 f1 μ18) := by
      rw [f_AN_writeTerm_12, a6, if_neg (nI_nle (by omega) (by omega)), a2, if_neg (show ¬ 90 ≤ nI ln from nI_ge (b := 90) (by omega) (by decide)), nI_pred, rd_n (by omega) (by decide), b1_s, m3 (sI μ 66 6 (nI w0)) a1, b1_s]
    have hmo : f_MO_sayTerm_0 (f2 + 1) ν = (b1 (if ¬ k' = 0 then (b1 (if ¬ k' = 3 then (if ¬ k' = 1 then some (((8 * v') + 2)) else some (((8 * v') + 1))) else (b1 (rd (ν 78) 240 v') fun v19 => some (v19))) fun v14 => b1 (wr (sI (sI (sI ν 70 30 (nI w0)) 70 40 k') 70 41 v') 92 90 (nI ln) v14) fun μ21 => if ¬ (μ21 70 40) = 3 then some (μ21) else (b1 (f_MO_pushArguments (μ21 70 41) μ21) fun μ26 => some (μ26))) else (b1 (rd (ν 90) 240 v') fun v28 => b1 (if ¬ v28 = 0 then some ((sI (sI (sI ν 70 30 (nI w0)) 70 40 k') 70 41 v')) else (b1 (wr (sI (sI (sI ν 70 30 (nI w0)) 70 40 k') 70 41 v') 90 240 v' (nI (fc + 1))) fun μ34 => some ((sI μ34 70 34 ((μ34 70 34) + 1))))) fun μ30 => b1 (rd (μ30 90) 240 (μ30 70 41)) fun v38 => b1 (wr μ30 92 90 (μ30 70 38) (8 * (v38 - 1))) fun μ40 => some (μ40))) fun μ10 => f_MO_sayTerm_0 f2 (sI μ10 70 38 ((μ10 70 38) + 1))) := by
      rw [f_MO_sayTerm_0, a6m, if_neg (nI_nle (by omega) (by omega)), a2m, if_neg (show ¬ 90 ≤ nI ln from nI_ge (b := 90) (by omega) (by decide)), nI_pred, rd_n (by omega) (by decide), b1_s, rd_n (by omega) (by decide), b1_s, m4 (sI ν 70 30 (nI w0)) a1m, b1_s]
      rw [show (sI (sI (sI ν 70 30 (nI w0)) 70 40 k') 70 41 v') 70 38 = nI ln from a2m, show (sI (sI (sI ν 70 30 (nI w0)) 70 40 k') 70 41 v') 70 34 = nI (fc + 1) from a3m]
      rfl
    generalize hμb : sI μ 66 6 (nI w0) = μb at hcl
    generalize hνb : sI (sI (sI ν 70 30 (nI w0)) 70 40 k') 70 41 v' = νb at hmo
    have hb : anR C KK V NM A N φ K ln fc w0 μb νb := by
      rw [← hμb, ← hνb]
      exact ⟨⟨a1, a1m⟩, ⟨a2, a2m⟩, ⟨a3, a3m⟩, a4, a5, ⟨rfl, rfl⟩, fun x hx => a7 x (by omega)⟩
    have b40 : νb 70 40 = k' := by rw [← hνb]; rfl
    have b41 : νb 70 41 = v' := by rw [← hνb]; rfl
    have b90 : νb 90 = ν 90 := by rw [← hνb]; rfl
    have b78 : ν 78 = NM := a1m.2.2.1
    obtain ⟨⟨c1, c1m⟩, ⟨c2, c2m⟩, ⟨c3, c3m⟩, c4, c5, ⟨c6, c6m⟩, c7⟩ := id hb
    -- a word that opens nothing
    have plain : kd t' ≠ 0 → kd t' ≠ 7 → (b1 (if ¬ k' = 0 then (b1 (if ¬ k' = 3 then (if ¬ k' = 1 then some (((8 * v') + 2)) else some (((8 * v') + 1))) else (b1 (rd (ν 78) 240 v') fun v19 => some (v19))) fun v14 => b1 (wr νb 92 90 (nI ln) v14) fun μ21 => if ¬ (μ21 70 40) = 3 then some (μ21) else (b1 (f_MO_pushArguments (μ21 70 41) μ21) fun μ26 => some (μ26))) else (b1 (rd (ν 90) 240 v') fun v28 => b1 (if ¬ v28 = 0 then some νb else (b1 (wr νb 90 240 v' (nI (fc + 1))) fun μ34 => some ((sI μ34 70 34 ((μ34 70 34) + 1))))) fun μ30 => b1 (rd (μ30 90) 240 (μ30 70 41)) fun v38 => b1 (wr μ30 92 90 (μ30 70 38) (8 * (v38 - 1))) fun μ40 => some (μ40))) fun μ10 => f_MO_sayTerm_0 f2 (sI μ10 70 38 ((μ10 70 38) + 1))) = f_MO_sayTerm_0 f2 (sI (sI νb 92 ln t') 70 38 (nI (ln + 1))) → ∃ ln' fc' w' μ' ν', f_AN_writeTerm_12 (f1 + 1) μ = some μ' ∧ f_MO_sayTerm_0 (f2 + 1) ν = some ν' ∧ ln' ≤ 90 ∧ fc' ≤ ln' ∧ anR C KK V NM A N φ K ln' fc' w' μ' ν' := by
      intro q1 q2 q3
      obtain ⟨ln', fc', w', μ', ν', u1, u2, u3, u4, u5⟩ := ih f1 f2 (ln + 1) fc w0 _ _ (by omega) (by omega) (by omega) (by omega) (by omega) (an_put (x := t') hb)
      refine ⟨ln', fc', w', μ', ν', ?_, hmo.trans (q3.trans u2), u3, u4, u5⟩
      rw [hcl]
      unfold f_AN_wordOf f_CE_nameOf f_AN_openArguments
      rw [if_neg (k_ne 0 q1), if_pos (k_ne 7 q2), b1_s, b2_s, wr_n (by omega) (by decide), b1_s, if_neg (k_ne 7 q2), b1_s, show (sI μb 67 ln t') 66 2 = nI ln from c2, nI_1]
      exact u1
    rcases tmR_kd m1 hN with ⟨b1', b2', i, b3, b4, b5, b6⟩ | ⟨b1', b2', b3⟩ | ⟨b1', b2', aa, b3, b4, b5⟩ | ⟨b1', b2', i, b3, b4, b5, b6⟩
    · -- a free variable
      have hφ := (hR.2.2.1 i b3).1
      rw [if_neg (not_not_intro b2'), b6, rd_n hφ (by decide), b1_s] at hmo
      rcases a5 i b3 b4 with ⟨q1, q2⟩ | ⟨x, q1, q2, q3, q4⟩
      · have q2b : ∀ x, x < fc → μb 68 x ≠ wd i 0 := by rw [← hμb]; exact q2
        have hn := an_new hR hb b3 q2b
        obtain ⟨ln', fc', w', μ', ν', u1, u2, u3, u4, u5⟩ := ih f1 f2 (ln + 1) (fc + 1) w0 _ _ (by omega) (by omega) (by omega) (by omega) (by omega) (an_put (x := wd fc 0) hn)
        refine ⟨ln', fc', w', μ', ν', ?_, ?_, u3, u4, u5⟩
        · rw [hcl, b5]
          unfold f_AN_wordOf f_AN_openArguments
          have e0 : kd (wd i 0) = 0 := kd_wd (by omega) (by omega)
          rw [if_pos (k_eq 0 e0), show f_AN_wordOf_18 (wd i 0) fu 0 μb = _ from wo_new (by omega) c3 q2b fc fu 0 (by omega) (by unfold fu; omega), b2_s, wr_n (by omega) (by decide), b1_s, if_neg (k_ne 7 (by omega)), b1_s]
          rw [show (sI (sI (sI μb 68 fc (wd i 0)) 66 4 (nI (fc + 1))) 67 ln (wd fc 0)) 66 2 = nI ln from c2, nI_1]
          exact u1
        · rw [hmo, if_neg (not_not_intro q1), wr_n hφ (by decide), b1_s, show (sI νb 90 (φ i) (nI (fc + 1))) 70 34 = nI (fc + 1) from c3m, nI_1, b1_s]
          rw [show (sI (sI νb 90 (φ i) (nI (fc + 1))) 70 34 (nI (fc + 1 + 1))) 70 41 = nI (φ i) from b41.trans b6, rd_n hφ (by decide), b1_s, show (sI (sI νb 90 (φ i) (nI (fc + 1))) 70 34 (nI (fc + 1 + 1))) 90 (φ i) = nI (fc + 1) from (show (sI νb 90 (φ i) (nI (fc + 1))) 90 (φ i) = nI (fc + 1) from sI_at), show (sI (sI νb 90 (φ i) (nI (fc + 1))) 70 34 (nI (fc + 1 + 1))) 70 38 = nI ln from c2m, wr_n (by omega) (by decide), b1_s, b1_s, nI_pred]
          rw [show (8 : Int32) * nI fc = wd fc 0 from pk_mul 8 fc]
          rw [show (sI (sI (sI νb 90 (φ i) (nI (fc + 1))) 70 34 (nI (fc + 1 + 1))) 92 ln (wd fc 0)) 70 38 = nI ln from c2m, nI_1]
          exact u2
      · obtain ⟨ln', fc', w', μ', ν', u1, u2, u3, u4, u5⟩ := ih f1 f2 (ln + 1) fc w0 _ _ (by omega) (by omega) (by omega) (by omega) (by omega) (an_put (x := wd x 0) hb)
        refine ⟨ln', fc', w', μ', ν', ?_, ?_, u3, u4, u5⟩
        · rw [hcl, b5]
          unfold f_AN_wordOf f_AN_openArguments
          have e0 : kd (wd i 0) = 0 := kd_wd (by omega) (by omega)
          rw [if_pos (k_eq 0 e0), show f_AN_wordOf_18 (wd i 0) fu 0 μb = _ from wo_old (by omega) q1 (by omega) c3 (by rw [← hμb]; exact q3) (by rw [← hμb]; exact q4) x fu 0 (by omega) (by unfold fu; omega), b2_s, wr_n (by omega) (by decide), b1_s, if_neg (k_ne 7 (by omega)), b1_s]
          rw [show (sI μb 67 ln (wd x 0)) 66 2 = nI ln from c2, nI_1]
          exact u1
        · rw [hmo, if_pos (by rw [q2]; exact nI_ne0 (by omega) (by omega)), b1_s, b41, b6, b90, rd_n hφ (by decide), b1_s, q2, c2m, wr_n (by omega) (by decide), b1_s, b1_s, nI_pred]
          rw [show (8 : Int32) * nI x = wd x 0 from pk_mul 8 x]
          rw [show (sI νb 92 ln (wd x 0)) 70 38 = nI ln from c2m, nI_1]
          exact u2
    · -- a number
      refine plain (by omega) (by omega) ?_
      rw [if_pos (by rw [b2']; decide), if_pos (by rw [b2']; decide), if_neg (not_not_intro b2'), b1_s, b3, num_w b1', wr_n (by omega) (by decide), b1_s, if_pos (by rw [sI_nk (by decide), b40, b2']; decide), b1_s, show (sI νb 92 ln t') 70 38 = nI ln from c2m, nI_1]
    · -- a name
      refine plain (by omega) (by omega) ?_
      rw [if_pos (by rw [b2']; decide), if_pos (by rw [b2']; decide), if_pos (by rw [b2']; decide), b1_s, b5]
      rw [show (8 : Int32) * nI aa + 2 = t' by rw [b4, show (8 : Int32) * nI aa = nI (8 * aa) from pk_mul 8 aa]; exact nI_add (8 * aa) 2]
      rw [wr_n (by omega) (by decide), b1_s, if_pos (by rw [sI_nk (by decide), b40, b2']; decide), b1_s, show (sI νb 92 ln t') 70 38 = nI ln from c2m, nI_1]
    · -- a structure
      obtain ⟨a, nm, g1, g2, g3, g4, g5, g6, g7, g8⟩ := st_of hR b3 b4
      obtain ⟨μ2, y1, y2, y3, y4, y5, y6⟩ := oa_l (C := C) (i := i) (a := a) (by omega) g2 a fu w0 (sI (sI μb 67 ln (C i)) 66 2 (nI (ln + 1))) (by omega) (by unfold fu; omega) c1 c6 (by omega)
      obtain ⟨ν2, z1, z2, z3, z4, z5, z6⟩ := pa_s (ν := sI νb 92 ln (C i)) (p := w0) hR b3 b4 g4 g1 g2 g3 c1m c6m (by omega)
      have hn : anR C KK V NM A N φ K (ln + 1) fc (w0 + a) μ2 (sI ν2 70 38 (nI (ln + 1))) := by
        refine ⟨⟨?_, ?_⟩, ⟨?_, rfl⟩, ⟨?_, ?_⟩, fun x hx => ?_, ?_, ⟨y2, z2⟩, fun x hx => ?_⟩
        · rw [y4 41 (by decide) (by decide)]; exact c1
        · show ν2 76 = KK ∧ ν2 77 = V ∧ ν2 78 = NM ∧ ν2 79 = A
          rw [z4 76 (by decide) (by decide) (by decide), z4 77 (by decide) (by decide) (by decide), z4 78 (by decide) (by decide) (by decide), z4 79 (by decide) (by decide) (by decide)]; exact c1m
        · rw [y5 2 (by decide)]; rfl
        · rw [y5 4 (by decide)]; exact c3
        · show ν2 70 34 = _
          rw [z5 34 (by decide)]; exact c3m
        · show μ2 67 x = ν2 92 x
          rw [y4 67 (by decide) (by decide), z4 92 (by decide) (by decide) (by decide)]
          exact (an_put (x := C i) hb).2.2.2.1 x hx
        · show anF N φ K fc (μ2 68) (ν2 90)
          rw [y4 68 (by decide) (by decide), z4 90 (by decide) (by decide) (by decide)]; exact c5
        · show tmR N φ K (μ2 69 x) (ν2 88 x) (ν2 89 x)
          by_cases e : x < w0
          · rw [y6 x e, (z6 x e).1, (z6 x e).2]; exact c7 x e
          · have e1 := y3 (a - 1 - (x - w0)) (by omega)
            have e2 := z3 (a - 1 - (x - w0)) (by omega)
            rw [show w0 + (a - 1 - (a - 1 - (x - w0))) = x by omega] at e1 e2
            rw [e1, e2.1, e2.2]
            exact (g8 (a - 1 - (x - w0)) (by omega)).2.2.2
      obtain ⟨ln', fc', w', μ', ν', u1, u2, u3, u4, u5⟩ := ih f1 f2 (ln + 1) fc (w0 + a) _ _ (by omega) (by omega) (by omega) (by omega) (by omega) hn
      refine ⟨ln', fc', w', μ', ν', ?_, ?_, u3, u4, u5⟩
      · rw [hcl, b5]
        unfold f_AN_wordOf f_AN_openArguments
        have e7 : kd (wd i 7) = 7 := kd_wd (by omega) (by omega)
        rw [if_neg (k_ne 0 (by omega)), nm_c (C := C) c1 (by omega), b1_s, b2_s, wr_n (by omega) (by decide), b1_s, if_pos (k_eq 7 e7), show (sI μb 67 ln (C i)) 66 2 = nI ln from c2, nI_1, nm_c (C := C) (μ := sI (sI μb 67 ln (C i)) 66 2 (nI (ln + 1))) c1 (by omega), b1_s, g4, ar_sc g3 g1 g2, b1_s, ← g4, y1, b1_s, b1_s]
        exact u1
      · rw [hmo, if_pos (by rw [b2']; decide), if_neg (not_not_intro b2'), b6, b78, rd_n g7 (by decide), b1_s, b1_s, g5, ← g4, wr_n (by omega) (by decide), b1_s, if_neg (by rw [sI_nk (by decide), b40]; exact not_not_intro b2'), show (sI νb 92 ln (C i)) 70 41 = nI (φ i) from b41.trans b6, z1, b1_s, b1_s, z5 38 (by decide), show (sI νb 92 ln (C i)) 70 38 = nI ln from c2m, nI_1]
        exact u2
end ANA
