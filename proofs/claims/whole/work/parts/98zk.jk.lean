/-! each pair of calls on the one heap (written by wip/tools/mk98zk.py) -/
section JKA
theorem kd_i (t : Int32) : t.toInt % 8 = (kd t : Int) := by
  unfold kd
  have h4 : t.toInt = (t.toBitVec.toNat : Int).bmod (2 ^ 32) := by
    show t.toBitVec.toInt = _
    rw [BitVec.toInt_eq_toNat_bmod]
  rw [h4]
  have h5 := Int.bmod_add_bdiv' (t.toBitVec.toNat : Int) (2 ^ 32)
  omega
theorem wd_of {t : Int32} {v : Nat} (hv : v < 134217728) (h : t >>> ((3 : Int32) &&& 31) = nI v) : t = wd v (kd t) := by
  have h1 : (t >>> ((3 : Int32) &&& 31)).toInt = t.toInt >>> 3 := pk_shr t _ 3 (by decide)
  have h2 : t.toInt >>> 3 = t.toInt / 8 := by
    rw [Int.shiftRight_eq_div_pow]; rfl
  have hk := kd_lt t
  have h3 := kd_i t
  rw [h, nI_toInt (by omega), h2] at h1
  apply Int32.toInt_inj.mp
  rw [nI_toInt (by omega)]
  clear h2 h
  generalize t.toInt = a at *
  generalize kd t = b at *
  omega
theorem iw_ok {w : Int32} (h : ((w &&& 7) = 0 ∧ ¬ (w >>> ((3 : Int32) &&& 31)) < 0 ∧ (w >>> ((3 : Int32) &&& 31)) < 8) ∨ (w &&& 7) = 1 ∨ (¬ (w &&& 7) ≤ 1 ∧ ¬ 6 ≤ (w &&& 7) ∧ ¬ (w >>> ((3 : Int32) &&& 31)) < 0 ∧ (w >>> ((3 : Int32) &&& 31)) < 32) ∨ ((w &&& 7) = 6 ∧ (w >>> ((3 : Int32) &&& 31)) = 0)) : wOK w := by
  have hk := kd_lt w
  rcases h with ⟨h1, h2, h3⟩ | h1 | ⟨h0, h1, h2, h3⟩ | ⟨h1, h2⟩
  · obtain ⟨j, j1, j2⟩ := nI_of h2
    rw [j2] at h3
    have hj : j < 8 := (nI_ltI (b := 8) (by omega) (by decide)).mp h3
    refine Or.inl ⟨j, hj, ?_⟩
    have := wd_of (by omega) j2
    rw [kd_of (k := 0) h1 (by decide)] at this
    exact this
  · exact Or.inr (Or.inl (kd_of (k := 1) h1 (by decide)))
  · obtain ⟨j, j1, j2⟩ := nI_of h2
    rw [j2] at h3
    have hj : j < 32 := (nI_ltI (b := 32) (by omega) (by decide)).mp h3
    rw [kd_e] at h0 h1
    have k1 : ¬ kd w ≤ 1 := fun q => h0 (nI_le (b := 1) q (by decide))
    have k2 : ¬ 6 ≤ kd w := fun q => h1 (nI_le (a := 6) q (by omega))
    refine Or.inr (Or.inr (Or.inl ⟨j, kd w - 2, hj, by omega, ?_⟩))
    rw [show 2 + (kd w - 2) = kd w by omega]
    exact wd_of (by omega) j2
  · refine Or.inr (Or.inr (Or.inr ?_))
    have := wd_of (v := 0) (by omega) h2
    rw [kd_of (k := 6) h1 (by decide)] at this
    exact this
theorem glR_m {z n g cap : Nat} {acc : Nat × Nat} {μ μx : Mu} (h : glR z n acc g cap μ μ) (hx : ∀ k, 70 ≤ k → k < 98 → μx k = μ k) : glR z n acc g cap μ μx := by
  obtain ⟨ha, R, t, hb, hs⟩ := h
  exact ⟨ha, R, t, baR_c hb (fun _ _ => rfl) rfl rfl (hx 71 (by decide) (by decide)) (hx 72 (by decide) (by decide)) (hx 73 (by decide) (by decide)) (fun j _ => by rw [hx 70 (by decide) (by decide)]), stR_d hs hb.2.1.1 (fun _ _ => rfl) rfl rfl rfl rfl rfl rfl (fun k a b => hx k (by omega) (by omega)) (fun j _ => by rw [hx 70 (by decide) (by decide)]) (fun M hM => by unfold mkB; rw [hx 70 (by decide) (by decide), hx 90 (by decide) (by decide)]; exact hM)⟩
theorem gl_c {z g cap R t : Nat} {μ ν : Mu} (hg : gOK g) (hb : baR R t μ ν) (hs : stR g cap R t z μ ν) (hx : ∀ k, k < 70 ∨ 99 ≤ k → ν k = μ k) : baR R t ν ν ∧ stR g cap R t z ν ν :=
  ⟨baR_c hb (fun k hk => hx k (by omega)) (by rw [hx 37 (by omega)]) (by rw [hx 64 (by omega)]) rfl rfl rfl (fun _ _ => rfl), stR_d hs hb.2.1.1 (fun k hk => hx k (by unfold gOK at hg; omega)) (by rw [hx 40 (by omega)]) (by rw [hx 40 (by omega)]) (by rw [hx 58 (by omega)]) (by rw [hx 37 (by omega)]) (by rw [hx 37 (by omega)]) (by rw [hx 37 (by omega)]) (fun _ _ _ => rfl) (fun _ _ => rfl) (fun _ h => h)⟩
variable {z n g cap : Nat} {acc : Nat × Nat} {μ : Mu}
theorem j_rule (h : glR z n acc g cap μ μ) :
    ∃ (cd : Nat) (r : Int32) (μ' : Mu), f_GE_rule μ = some (cd, r, μ') ∧ (cd = 0 ∨ cd = 1 ∨ cd = 2) ∧ ∀ μx : Mu, (∀ k, k ≠ 98 → μx k = μ' k) → ∃ (b : Int32) (ν' : Mu), f_MO_rule μx = some (b, ν') ∧ ((cd = 0 ∧ ν' 70 0 = 0 ∧ r = b) ∨ (cd = 2 ∧ ν' 70 0 = 1) ∨ (cd = 1 ∧ ν' 70 0 = 2)) ∧ ν' 98 0 = μx 98 0 ∧ ∃ R t, baR R t ν' ν' ∧ stR g cap R t z ν' ν' := by
  have ha := h.1
  obtain ⟨cd, r, μ', b0, ν0, e1, -, q, -⟩ := c_rule h
  have fμ : ∀ k, 70 ≤ k → k < 98 → μ' k = μ k := fun k a b => funext fun j => fr_GE_rule e1 (by unfold W_GE_rule; omega)
  refine ⟨cd, r, μ', e1, by omega, fun μx hx => ?_⟩
  obtain ⟨cd2, r2, μ2, b, ν', u1, u2, u3, R, t, u4, u5⟩ := c_rule (glR_m h (fun k a b => (hx k (by omega)).trans (fμ k a b)))
  have e2 := Option.some.inj (e1.symm.trans u1)
  obtain ⟨i1, e2⟩ := Prod.mk.inj e2
  obtain ⟨i2, i3⟩ := Prod.mk.inj e2
  subst i1
  subst i2
  subst i3
  have fν : ∀ k, k < 70 ∨ 98 ≤ k → ν' k = μx k := fun k hk => funext fun j => fr_MO_rule u2 (by unfold W_MO_rule; omega)
  exact ⟨b, ν', u2, u3, by rw [fν 98 (by omega)], R, t, gl_c ha.1 u4 u5 (fun k hk => (fν k (by omega)).trans (hx k (by omega)))⟩
theorem j_next (h : glR z n acc g cap μ μ) :
    ∃ (cd : Nat) (r : Int32) (μ' : Mu), f_GE_next μ = some (cd, r, μ') ∧ (cd = 0 ∨ cd = 2) ∧ ∀ μx : Mu, (∀ k, k ≠ 98 → μx k = μ' k) → ∃ (b : Int32) (ν' : Mu), f_MO_next μx = some (b, ν') ∧ ((cd = 0 ∧ ν' 70 0 = 0 ∧ r = b ∧ (b = 0 ∨ b = 1)) ∨ (cd = 2 ∧ ν' 70 0 = 1 ∧ (b = 0 ∨ b = 1))) ∧ ν' 98 0 = μx 98 0 ∧ ∃ R t, baR R t ν' ν' ∧ stR g cap R t z ν' ν' := by
  have ha := h.1
  obtain ⟨cd, r, μ', b0, ν0, e1, -, q, -⟩ := c_next h
  have fμ : ∀ k, 70 ≤ k → k < 98 → μ' k = μ k := fun k a b => funext fun j => fr_GE_next e1 (by unfold W_GE_next; omega)
  refine ⟨cd, r, μ', e1, by omega, fun μx hx => ?_⟩
  obtain ⟨cd2, r2, μ2, b, ν', u1, u2, u3, R, t, u4, u5⟩ := c_next (glR_m h (fun k a b => (hx k (by omega)).trans (fμ k a b)))
  have e2 := Option.some.inj (e1.symm.trans u1)
  obtain ⟨i1, e2⟩ := Prod.mk.inj e2
  obtain ⟨i2, i3⟩ := Prod.mk.inj e2
  subst i1
  subst i2
  subst i3
  have fν : ∀ k, k < 70 ∨ 98 ≤ k → ν' k = μx k := fun k hk => funext fun j => fr_MO_next u2 (by unfold W_MO_next; omega)
  exact ⟨b, ν', u2, u3, by rw [fν 98 (by omega)], R, t, gl_c ha.1 u4 u5 (fun k hk => (fν k (by omega)).trans (hx k (by omega)))⟩
theorem j_word (h : glR z n acc g cap μ μ) (x : Int32) :
    ∃ (cd : Nat) (r : Int32) (μ' : Mu), f_GE_word x μ = some (cd, r, μ') ∧ (cd = 0 ∨ cd = 5) ∧ ∀ μx : Mu, (∀ k, k ≠ 98 → μx k = μ' k) → ∃ (b : Int32) (ν' : Mu), f_MO_word x μx = some (b, ν') ∧ ((cd = 0 ∧ ν' 70 0 = 0 ∧ r = b) ∨ (cd = 5 ∧ ν' 70 0 = 1)) ∧ ν' 98 0 = μx 98 0 ∧ ∃ R t, baR R t ν' ν' ∧ stR g cap R t z ν' ν' := by
  have ha := h.1
  obtain ⟨cd, r, μ', b0, ν0, e1, -, q, -⟩ := c_word h x
  have fμ : ∀ k, 70 ≤ k → k < 98 → μ' k = μ k := fun k a b => funext fun j => fr_GE_word e1 (by unfold W_GE_word; omega)
  refine ⟨cd, r, μ', e1, by omega, fun μx hx => ?_⟩
  obtain ⟨cd2, r2, μ2, b, ν', u1, u2, u3, R, t, u4, u5⟩ := c_word (glR_m h (fun k a b => (hx k (by omega)).trans (fμ k a b))) x
  have e2 := Option.some.inj (e1.symm.trans u1)
  obtain ⟨i1, e2⟩ := Prod.mk.inj e2
  obtain ⟨i2, i3⟩ := Prod.mk.inj e2
  subst i1
  subst i2
  subst i3
  have fν : ∀ k, k < 70 ∨ 98 ≤ k → ν' k = μx k := fun k hk => funext fun j => fr_MO_word u2 (by unfold W_MO_word; omega)
  exact ⟨b, ν', u2, u3, by rw [fν 98 (by omega)], R, t, gl_c ha.1 u4 u5 (fun k hk => (fν k (by omega)).trans (hx k (by omega)))⟩
theorem j_ask (h : glR z n acc g cap μ μ) :
    ∃ (cd : Nat) (r : Int32) (n' : Nat) (acc' : Nat × Nat) (g' cap' : Nat) (μ' : Mu), f_GE_ask n acc g cap μ = some (cd, r, n', acc', g', cap', μ') ∧ cd ≤ 1 ∧ alR n' acc' g' cap' (98 + z) (BS + 6 * z) ∧ ∀ μx : Mu, (∀ k, k ≠ 98 → μx k = μ' k) → ∃ (b : Int32) (ν' : Mu), f_MO_ask μx = some (b, ν') ∧ ν' 70 0 = nI cd ∧ (cd = 0 → r = b) ∧ ν' 98 0 = μx 98 0 ∧ ∃ R t, baR R t ν' ν' ∧ stR g' cap' R t z ν' ν' := by
  obtain ⟨cd, r, n', acc', g', cap', μ', b0, ν0, e1, -, q, -, -, ha, -⟩ := c_ask h
  have fμ : ∀ k, 70 ≤ k → k < 98 → μ' k = μ k := fun k a b => funext fun j => fr_GE_ask e1 (by unfold W_GE_ask; omega)
  refine ⟨cd, r, n', acc', g', cap', μ', e1, q, ha, fun μx hx => ?_⟩
  obtain ⟨cd2, r2, n2, acc2, g2, cap2, μ2, b, ν', u1, u2, u3, u4, u5, u6, R, t, u7, u8⟩ := c_ask (glR_m h (fun k a b => (hx k (by omega)).trans (fμ k a b)))
  have e2 := Option.some.inj (e1.symm.trans u1)
  obtain ⟨i1, e2⟩ := Prod.mk.inj e2
  obtain ⟨i2, e2⟩ := Prod.mk.inj e2
  obtain ⟨i3, e2⟩ := Prod.mk.inj e2
  obtain ⟨i4, e2⟩ := Prod.mk.inj e2
  obtain ⟨i5, e2⟩ := Prod.mk.inj e2
  obtain ⟨i6, i7⟩ := Prod.mk.inj e2
  subst i1
  subst i2
  subst i3
  subst i4
  subst i5
  subst i6
  subst i7
  have fν : ∀ k, k < 70 ∨ 98 ≤ k → ν' k = μx k := fun k hk => funext fun j => fr_MO_ask u2 (by unfold W_MO_ask; omega)
  exact ⟨b, ν', u2, u4, u5, by rw [fν 98 (by omega)], R, t, gl_c ha.1 u7 u8 (fun k hk => (fν k (by omega)).trans (hx k (by omega)))⟩
theorem j_solve (hz : z ≤ 2000) (h : glR z n acc g cap μ μ) (x : Int32) :
    ∃ (cd : Nat) (r : Int32) (n' : Nat) (acc' : Nat × Nat) (g' cap' : Nat) (μ' : Mu), f_GE_solve n acc g cap x μ = some (cd, r, n', acc', g', cap', μ') ∧ cd ≤ 4 ∧ alR n' acc' g' cap' (98 + z) (BS + 6 * z) ∧ ∀ μx : Mu, (∀ k, k ≠ 98 → μx k = μ' k) → ∃ (b : Int32) (ν' : Mu), f_MO_solve x μx = some (b, ν') ∧ ν' 70 0 = nI cd ∧ (cd = 0 → r = b) ∧ ν' 98 0 = μx 98 0 ∧ ∃ R t, baR R t ν' ν' ∧ stR g' cap' R t z ν' ν' := by
  obtain ⟨cd, r, n', acc', g', cap', μ', b0, ν0, e1, -, q, -, -, ha, -⟩ := c_solve hz h x
  have fμ : ∀ k, 70 ≤ k → k < 98 → μ' k = μ k := fun k a b => funext fun j => fr_GE_solve e1 (by unfold W_GE_solve; omega)
  refine ⟨cd, r, n', acc', g', cap', μ', e1, q, ha, fun μx hx => ?_⟩
  obtain ⟨cd2, r2, n2, acc2, g2, cap2, μ2, b, ν', u1, u2, u3, u4, u5, u6, R, t, u7, u8⟩ := c_solve hz (glR_m h (fun k a b => (hx k (by omega)).trans (fμ k a b))) x
  have e2 := Option.some.inj (e1.symm.trans u1)
  obtain ⟨i1, e2⟩ := Prod.mk.inj e2
  obtain ⟨i2, e2⟩ := Prod.mk.inj e2
  obtain ⟨i3, e2⟩ := Prod.mk.inj e2
  obtain ⟨i4, e2⟩ := Prod.mk.inj e2
  obtain ⟨i5, e2⟩ := Prod.mk.inj e2
  obtain ⟨i6, i7⟩ := Prod.mk.inj e2
  subst i1
  subst i2
  subst i3
  subst i4
  subst i5
  subst i6
  subst i7
  have fν : ∀ k, k < 70 ∨ 98 ≤ k → ν' k = μx k := fun k hk => funext fun j => fr_MO_solve u2 (by unfold W_MO_solve; omega)
  exact ⟨b, ν', u2, u4, u5, by rw [fν 98 (by omega)], R, t, gl_c ha.1 u7 u8 (fun k hk => (fν k (by omega)).trans (hx k (by omega)))⟩
theorem j_count (h : glR z n acc g cap μ μ) (x : Int32) :
    ∃ (cd : Nat) (r : Int32), f_GE_count g cap x μ = some (cd, r) ∧ (cd = 0 ∨ cd = 1) ∧ ∀ μx : Mu, (∀ k, k ≠ 98 → μx k = μ k) → ∃ (b : Int32) (ν' : Mu), f_MO_count x μx = some (b, ν') ∧ ν' 70 0 = nI cd ∧ (cd = 0 → r = b) ∧ ν' 98 0 = μx 98 0 ∧ ∃ R t, baR R t ν' ν' ∧ stR g cap R t z ν' ν' := by
  have ha := h.1
  obtain ⟨cd, r, b0, e1, -, q, -⟩ := c_count h x
  refine ⟨cd, r, e1, q, fun μx hx => ?_⟩
  have h2 := glR_m h (μx := μx) (fun k a b => hx k (by omega))
  obtain ⟨cd2, r2, b, u1, u2, u3, u4⟩ := c_count h2 x
  have e2 := Option.some.inj (e1.symm.trans u1)
  obtain ⟨i1, i2⟩ := Prod.mk.inj e2
  subst i1
  subst i2
  obtain ⟨-, R, t, hb, hs⟩ := h2
  exact ⟨b, _, u2, rfl, u4, rfl, R, t, gl_c ha.1 (baR_0 hb) (stR_0 hs) (fun k hk => (sI_nk (by omega)).trans (hx k (by omega)))⟩
theorem j_stop (h : glR z n acc g cap μ μ) :
    ∃ μ' ν', f_GE_stop μ = some μ' ∧ f_MO_stop μ' = some ν' ∧ ∃ R t, baR R t ν' ν' ∧ stR g cap R t z ν' ν' := by
  have ha := h.1
  obtain ⟨μ', ν0, e1, -, -⟩ := c_stop h
  have fμ : ∀ k, 70 ≤ k → k < 98 → μ' k = μ k := fun k a b => funext fun j => fr_GE_stop e1 (by unfold W_GE_stop; omega)
  obtain ⟨μ2, ν', u1, u2, R, t, u4, u5⟩ := c_stop (glR_m h fμ)
  have i1 := Option.some.inj (e1.symm.trans u1)
  subst i1
  have fν : ∀ k, k < 70 ∨ 98 ≤ k → ν' k = μ' k := fun k hk => funext fun j => fr_MO_stop u2 (by unfold W_MO_stop; omega)
  exact ⟨μ', ν', e1, u2, R, t, gl_c ha.1 u4 u5 (fun k hk => fν k (by omega))⟩
theorem j_collect (hz : z ≤ 2000) (h : glR z n acc g cap μ μ) :
    ∃ r μ' ν', f_GE_collect g cap μ = some (r, μ') ∧ f_MO_collect μ' = some (r, ν') ∧ ∃ R t, baR R t ν' ν' ∧ stR g cap R t (z + 1) ν' ν' := by
  have ha := h.1
  obtain ⟨r, μ', ν0, e1, -, -⟩ := c_collect hz h
  have fμ : ∀ k, 70 ≤ k → k < 98 → μ' k = μ k := fun k a b => funext fun j => fr_GE_collect e1 (by have hg := ha.1; unfold gOK at hg; unfold W_GE_collect; omega)
  obtain ⟨r2, μ2, ν', u1, u2, R, t, u4, u5⟩ := c_collect hz (glR_m h fμ)
  obtain ⟨i1, i2⟩ := Prod.mk.inj (Option.some.inj (e1.symm.trans u1))
  subst i1
  subst i2
  have fν : ∀ k, k < 70 ∨ 98 ≤ k → ν' k = μ' k := fun k hk => funext fun j => fr_MO_collect u2 (by unfold W_MO_collect; omega)
  exact ⟨r, μ', ν', e1, u2, R, t, gl_c ha.1 u4 u5 (fun k hk => fν k (by omega))⟩
theorem j_words (h : glR z n acc g cap μ μ) :
    ∃ r μ' ν', f_GE_words μ = some (r, μ') ∧ f_MO_words μ' = some (r, ν') ∧ ∃ R t, baR R t ν' ν' ∧ stR g cap R t z ν' ν' := by
  have ha := h.1
  obtain ⟨r, μ', ν0, e1, -, -⟩ := c_words h
  have fμ : ∀ k, 70 ≤ k → k < 98 → μ' k = μ k := fun k a b => funext fun j => fr_GE_words e1 (by unfold W_GE_words; omega)
  obtain ⟨r2, μ2, ν', u1, u2, R, t, u4, u5⟩ := c_words (glR_m h fμ)
  obtain ⟨i1, i2⟩ := Prod.mk.inj (Option.some.inj (e1.symm.trans u1))
  subst i1
  subst i2
  have fν : ∀ k, k < 70 ∨ 98 ≤ k → ν' k = μ' k := fun k hk => funext fun j => fr_MO_words u2 (by unfold W_MO_words; omega)
  exact ⟨r, μ', ν', e1, u2, R, t, gl_c ha.1 u4 u5 (fun k hk => fν k (by omega))⟩
/-- put: a word is typed -/
theorem j_put (h : glR z n acc g cap μ μ) : ∃ t, t ≤ 30 ∧ μ 1 1 = nI t ∧ μ 70 1 = nI t ∧ ∀ w, t < 30 → wOK w → ∃ R s, baR R s (sI (sI (sI (sI (sI (sI μ 2 t w) 1 1 (nI (t + 1))) 98 0 (nI (t + 1))) 70 0 0) 71 t w) 70 1 (nI (t + 1))) (sI (sI (sI (sI (sI (sI μ 2 t w) 1 1 (nI (t + 1))) 98 0 (nI (t + 1))) 70 0 0) 71 t w) 70 1 (nI (t + 1))) ∧ stR g cap R s z (sI (sI (sI (sI (sI (sI μ 2 t w) 1 1 (nI (t + 1))) 98 0 (nI (t + 1))) 70 0 0) 71 t w) 70 1 (nI (t + 1))) (sI (sI (sI (sI (sI (sI μ 2 t w) 1 1 (nI (t + 1))) 98 0 (nI (t + 1))) 70 0 0) 71 t w) 70 1 (nI (t + 1))) := by
  obtain ⟨ha, R, s, hb, hs⟩ := h
  obtain ⟨⟨tn, t1, t2, t3, t4⟩, ⟨r1, r2, r3, r4⟩, hs3, hs1, hs2, hco⟩ := id hb
  refine ⟨tn, t1, t2, t3, fun w ht hw => ?_⟩
  have hg := ha.1
  generalize hμ' : sI (sI (sI (sI (sI (sI μ 2 tn w) 1 1 (nI (tn + 1))) 98 0 (nI (tn + 1))) 70 0 0) 71 tn w) 70 1 (nI (tn + 1)) = μ'
  have f1 : ∀ k, k ≠ 1 → k ≠ 2 → k ≠ 70 → k ≠ 71 → k ≠ 98 → μ' k = μ k := fun k a b c d e => by rw [← hμ', sI_nk c, sI_nk d, sI_nk c, sI_nk e, sI_nk a, sI_nk b]
  have f7 : ∀ j, j ≠ 0 → j ≠ 1 → μ' 70 j = μ 70 j := fun j a b => by rw [← hμ', sI_nj b, sI_nk (by decide), sI_nj a, sI_nk (by decide), sI_nk (by decide), sI_nk (by decide)]
  refine ⟨R, s, ⟨⟨tn + 1, by omega, by rw [← hμ']; rfl, by rw [← hμ']; rfl, fun j hj => ?_⟩, ⟨r1, ?_, ?_, fun r hr => ?_⟩, hs3, ?_, ?_, ?_⟩, ?_⟩
  · have e2 : μ' 2 j = (sI μ 2 tn w) 2 j := by rw [← hμ']; rfl
    have e71 : μ' 71 j = (sI μ 71 tn w) 71 j := by
      rw [← hμ', sI_nk (by decide)]
      by_cases e : j = tn
      · subst e; rw [sI_at, sI_at]
      · rw [sI_nj e, sI_nj e]; rfl
    rw [e2, e71]
    by_cases e : j = tn
    · subst e; rw [sI_at, sI_at]; exact ⟨rfl, hw⟩
    · rw [sI_nj e, sI_nj e]; exact t4 j (by omega)
  · rw [f1 3 (by decide) (by decide) (by decide) (by decide) (by decide)]; exact r2
  · rw [f7 3 (by decide) (by decide)]; exact r3
  · have := r4 r hr
    unfold ruR at this ⊢
    rw [f1 (5 + 2 * r) (by omega) (by omega) (by omega) (by omega) (by omega), f1 (6 + 2 * r) (by omega) (by omega) (by omega) (by omega) (by omega), f1 72 (by decide) (by decide) (by decide) (by decide) (by decide), f1 73 (by decide) (by decide) (by decide) (by decide) (by decide)]
    exact this
  · rw [f1 37 (by decide) (by decide) (by decide) (by decide) (by decide)]; exact hs1
  · rw [f7 27 (by decide) (by decide)]; exact hs2
  · rw [f1 64 (by decide) (by decide) (by decide) (by decide) (by decide), f7 28 (by decide) (by decide)]; exact hco
  · exact stR_d hs r1 (fun k hk => f1 k (by unfold gOK at hg; omega) (by unfold gOK at hg; omega) (by unfold gOK at hg; omega) (by unfold gOK at hg; omega) (by unfold gOK at hg; omega)) (by rw [f1 40 (by decide) (by decide) (by decide) (by decide) (by decide)]) (by rw [f1 40 (by decide) (by decide) (by decide) (by decide) (by decide)]) (by rw [f1 58 (by decide) (by decide) (by decide) (by decide) (by decide)]) (by rw [f1 37 (by decide) (by decide) (by decide) (by decide) (by decide)]) (by rw [f1 37 (by decide) (by decide) (by decide) (by decide) (by decide)]) (by rw [f1 37 (by decide) (by decide) (by decide) (by decide) (by decide)]) (fun k a b => f1 k (by omega) (by omega) (by omega) (by omega) (by omega)) (fun j hj => f7 j (by omega) (by omega)) (fun M hM => by unfold mkB; rw [f7 34 (by decide) (by decide), f1 90 (by decide) (by decide) (by decide) (by decide) (by decide)]; exact hM)
/-- put is refused: only the reference's thrown changes -/
theorem j_thr (h : glR z n acc g cap μ μ) (x : Int32) : ∃ R t, baR R t (sI μ 70 0 x) (sI μ 70 0 x) ∧ stR g cap R t z (sI μ 70 0 x) (sI μ 70 0 x) := by
  obtain ⟨ha, R, t, hb, hs⟩ := h
  exact ⟨R, t, gl_c ha.1 (baR_0 hb) (stR_0 hs) (fun k hk => sI_nk (by omega))⟩
/-- one call more -/
theorem gl_z {n' : Nat} {acc' : Nat × Nat} {μ' : Mu} (ha : alR n acc g cap (98 + z) (BS + 6 * z)) (hn : n ≤ n') (h1 : acc'.1 ≤ acc.1 + 1) (h2 : acc'.2 ≤ acc.2 + 6) (h : ∃ R t, baR R t μ' μ' ∧ stR g cap R t z μ' μ') : glR (z + 1) n' acc' g cap μ' μ' := by
  obtain ⟨R, t, hb, hs⟩ := h
  exact ⟨alR_z ha hn h1 h2, R, t, hb, stR_z hs (by omega)⟩
end JKA
