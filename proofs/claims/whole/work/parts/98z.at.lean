/-! one step: a rule is tried -/
section ATT
variable {g cap R : Nat} {has : Nat → Bool} {N S c tr tb nq GT P M : Nat} {φ K τ cm tm gm cs ct : Nat → Nat} {μ ν : Mu}
/-- as actR_c, with other goals at hand -/
theorem actR_d {μ' ν' : Mu} (h : actR g cap R has N S c tr tb nq GT P M φ K τ cm tm gm cs ct μ ν) (hR16 : R ≤ 16) (hGT : GT < 2 ^ 29) (hμ : ∀ k, k = 41 ∨ k = 42 ∨ (59 ≤ k ∧ k ≤ 63) ∨ k = g ∨ k = g + 1 ∨ k = g + 2 ∨ k = g + 3 ∨ k < 37 ∨ k = 38 → μ' k = μ k) (h1 : μ' 40 1 = μ 40 1) (h3 : μ' 40 3 = μ 40 3) (h5 : μ' 58 5 = μ 58 5) (hν : ∀ k, 74 ≤ k → k ≤ 87 → ν' k = ν k) (h90 : ν' 90 = ν 90) (h70 : ∀ j, j = 12 ∨ j = 13 ∨ j = 18 ∨ j = 23 ∨ j = 34 → ν' 70 j = ν 70 j) (hcur' : curR g cap GT R N φ K μ' ν') : actR g cap R has N S c tr tb nq GT P M φ K τ cm tm gm cs ct μ' ν' := by
  obtain ⟨hR, ⟨p1, p2, p3⟩, ⟨n1, n2, n3, n4⟩, htrl, hseg, hdn, hmrk, hrows, hchg, hcur, hque, hseen, hpot, hbnd, hmk, hlow⟩ := h
  have e41 := hμ 41 (by omega)
  have e42 := hμ 42 (by omega)
  refine ⟨?_, ⟨h1.trans p1, h3.trans p2, h5.trans p3⟩, ⟨?_, ?_, ?_, ?_⟩, ?_, ?_, ?_, hmrk, fun j hj => ?_, ?_, hcur', ?_, fun p hp => ?_, ?_, ?_, ?_, ?_⟩
  · rw [e41, hν 74 (by omega) (by omega), hν 75 (by omega) (by omega), hν 76 (by omega) (by omega), hν 77 (by omega) (by omega), hν 78 (by omega) (by omega), hν 79 (by omega) (by omega)]; exact hR
  · rw [h70 12 (by omega)]; exact n1
  · rw [h70 23 (by omega)]; exact n2
  · rw [h70 18 (by omega)]; exact n3
  · rw [h70 13 (by omega)]; exact n4
  · rw [e41, e42]; exact htrl
  · rw [e42, hν 86 (by omega) (by omega)]; exact hseg
  · rw [e41, e42]; exact hdn
  · rw [hμ 61 (by omega), hμ 62 (by omega), hμ 63 (by omega), hν 84 (by omega) (by omega), hν 85 (by omega) (by omega)]; exact hrows j hj
  · exact chg_c (N := N) hchg (fun j hj => (hmrk.1 j hj).1) hR.1 hGT hR16 (fun k hk => hμ k (by omega)) (fun k a b => hν k (by omega) (by omega)) (fun i _ _ => by rw [e41])
  · unfold queR
    rw [hμ 38 (by omega), hν 87 (by omega) (by omega)]; exact hque
  · rw [hμ (g + 3) (by omega)]; exact hseen p hp
  · rw [e41]; exact hpot
  · rw [hν 86 (by omega) (by omega)]; exact hbnd
  · unfold mkB
    rw [h90, h70 34 (by omega)]; exact hmk
  · rw [e42]; exact hlow
theorem actR_P {P' : Nat} (hP : P ≤ P') (h : actR g cap R has N S c tr tb nq GT P M φ K τ cm tm gm cs ct μ ν) : actR g cap R has N S c tr tb nq GT P' M φ K τ cm tm gm cs ct μ ν := by
  obtain ⟨hR, hp, hn, htrl, hseg, hdn, hmrk, hrows, hchg, hcur, hque, hseen, hpot, hbnd, hmk, hlow⟩ := h
  exact ⟨hR, hp, hn, htrl, hseg, hdn, hmrk, hrows, hchg, hcur, hque, hseen, by omega, hbnd, hmk, hlow⟩
theorem go_tm (hN : N ≤ 240) {t hh gw k v : Int32} (h : goR N φ K t hh gw) (hk : gw &&& 7 = k) (hv : (gw >>> ((3 : Int32) &&& 31)) &&& 255 = v) (h6 : kd t ≠ 6) : tmR N φ K t k v := by
  obtain ⟨x, x1, x2, ⟨a, a1, a2, a3⟩ | ⟨i, i1, i2, i3, i4, i5⟩ | ⟨a1, a2⟩⟩ := h
  · obtain ⟨e1, e2⟩ := gw_k (a := 2) (v := a) (h := x) (by omega) (by omega) x1
    rw [a3, e1] at hk
    rw [a3, e2] at hv
    exact Or.inr (Or.inr (Or.inl ⟨a, a1, a2, hk.symm, hv.symm⟩))
  · obtain ⟨e1, e2⟩ := gw_k (a := 3) (v := φ i) (h := x) (by omega) (by omega) x1
    rw [i5, e1] at hk
    rw [i5, e2] at hv
    exact Or.inr (Or.inr (Or.inr ⟨i, i1, i2, i4, hk.symm, hv.symm⟩))
  · rw [a1, kd_wd (by omega) (by omega)] at h6; omega
theorem gt_tm {t k v : Int32} (h : gtR N φ K t k v) (h6 : kd t ≠ 6) : tmR N φ K t k v := by
  rcases h with h | h | ⟨a1, -⟩
  · exact Or.inr (Or.inr (Or.inl h))
  · exact Or.inr (Or.inr (Or.inr h))
  · rw [a1, kd_wd (by omega) (by omega)] at h6; omega
/-- the copy, the unification, the goals -/
theorem att_t {n B1 B2 r L pp gg m hh : Nat} {acc : Nat × Nat} {W : Nat → Int32} {hs : Nat → Bool} {k v : Int32} (ha : alR n acc g cap B1 B2) (h : actR g cap R has N S c tr tb nq GT P M φ K τ cm tm gm cs ct μ ν) (hR16 : R ≤ 16) (hGT : GT + 29 ≤ 8730) (hP : P + 8 ≤ 2600) (hM : M < 2 ^ 28) (hc : c ≤ 300) (hhh : hh ≤ 300) (hcl : clR (5 + 2 * r) 72 480 (30 * r) L W hs μ ν) (hr : r < 16) (hw6 : kd (W 0) ≠ 6) (h73 : ν 73 r = nI L) (hroom : N + cnt hs 8 + sca (fun j => kd (W j)) L 0 ≤ 240) (hS : S + 128 < 2 ^ 29) (hch : chR N φ K (μ g) (μ (g + 1)) (μ (g + 2)) (ν 80) (ν 81) (m + 1) (nI pp) (nI gg)) (hpp : pp < cap) (hgg : gg < 8900) (hk : f_MO_kindOf (nI gg) ν = some k) (hv : f_MO_valueOf (nI gg) ν = some v) (h6 : kd (μ g pp) ≠ 6) (hsd : μ 37 10 = -1 ∧ ν 70 17 = -1) :
    ∃ (rr n' : Nat) (acc' : Nat × Nat) (g' cap' : Nat) (μ' ν' : Mu), (b1 (f_CE_copy (5 + 2 * r) μ) fun μ15 => b1 (rd (μ15 45) 30 0) fun v17 => b1 (rd (μ15 g) cap (nI pp)) fun v19 => b2 (f_UN_unify v17 v19 μ15) fun v22 μ23 => b5 (if ¬ v22 = 0 then some (n, acc, g, cap, μ23) else (b5 (f_SE_bringGoals n acc g cap 1 (nI hh) μ23) fun n34 ac35 g36 cp37 μ38 => some (n34, ac35, g36, cp37, μ38))) fun n25 ac26 g27 cp28 μ29 => some (v22, n25, ac26, g27, cp28, μ29)) = some (nI rr, n', acc', g', cap', μ') ∧
      (b1 (rd (ν 73) 16 (nI r)) fun v44 => b1 (f_MO_copy 72 480 (30 * nI r) v44 ν) fun μ47 => b1 (rd (μ47 96) 30 0) fun v49 => b1 (rd (μ47 97) 30 0) fun v51 => b1 (f_MO_unify v49 v51 k v μ47) fun μ54 => b1 (f_MO_attempt_203 (nI hh) fu ((μ54 70 46) - 1) μ54) fun μ66 => some μ66) = some ν' ∧ ν' 70 49 = nI rr ∧ (rr = 0 ∨ rr = 1 ∨ rr = 3) ∧ alR n' acc' g' cap' B1 B2 ∧
      (∃ (N' S' tr' tb' GT' M' : Nat) (φ' K' τ' : Nat → Nat), actR g' cap' R has N' S' c tr' tb' nq GT' (P + 8) M' φ' K' τ' cm tm gm cs ct μ' ν' ∧ GT' ≤ GT + 29 ∧ S' ≤ S + 128 ∧ M' ≤ M + 300) ∧ μ' 64 5 = μ 64 5 ∧ ν' 70 28 = ν 70 28 := by
  have hcl0 := hcl
  obtain ⟨⟨q1, q2⟩, ⟨o1, o2, o3, o4⟩, ⟨l1, l2⟩, hW, -⟩ := hcl
  have hsl := sca_le (f := fun j => kd (W j)) L 0
  obtain ⟨μ1, ν1, hc1, S1, φ1, K1, τ1, u1, u2, u3, u4, u5, u6, u7, u8, u9, u10, u11⟩ := cp_act h ha.1 hR16 (by omega) hcl0 hroom (by omega)
  have hgo : ∃ gw hh2, goR N φ K (μ g pp) hh2 gw ∧ gw = ν 80 gg := by
    obtain ⟨p', g', e1, e2, e3, e4, e5, -⟩ := hch
    have f1 := (nI_eq (by have := ha.2.2.2.2.2.1; omega) (by omega)).mp e1
    have f2 := (nI_eq (by omega) (by omega)).mp e2
    subst f1
    subst f2
    exact ⟨_, _, e5, rfl⟩
  obtain ⟨gw, hh2, hgo, hgw⟩ := hgo
  unfold f_MO_kindOf at hk
  unfold f_MO_valueOf at hv
  rw [rd_n hgg (by decide), b1_s] at hk hv
  have hk' := Option.some.inj hk
  have hv' := Option.some.inj hv
  have htg : tmR (N + cnt hs 8 + sca (fun j => kd (W j)) L 0) φ1 K1 (μ g pp) k v := go_tm (by omega) (goR_x (by omega) u11 hgo) (by rw [hgw]; exact hk') (by rw [hgw]; exact hv') h6
  have hth : tmR (N + cnt hs 8 + sca (fun j => kd (W j)) L 0) φ1 K1 (μ1 45 0) (ν1 96 0) (ν1 97 0) := gt_tm (u9 0 u3) (u10 hw6)
  obtain ⟨rr, μ2, ν2, tr2, tb2, M2, w1, w2, w3, w4, w5, w6, w7⟩ := un_act u6 ha.1 hR16 (by omega) hP hM hth htg
  have hg1 : μ1 g = μ g := by
    have := ha.1
    unfold gOK at this
    funext j
    exact fr_CE_copy u1 (by unfold W_CE_copy; omega)
  have hcopyc : ∀ {X : Type} (F : Mu → Option X), (b1 (f_CE_copy (5 + 2 * r) μ) F) = F μ1 := fun F => by rw [u1, b1_s]
  have e30 : (30 : Int32) * nI r = nI (30 * r) := pk_mul 30 r
  by_cases er : rr = 0
  · subst er
    have h458 : μ2 45 = μ1 45 := by
      funext j
      exact fr_UN_unify w1 (by unfold W_UN_unify; omega)
    have h40 : μ2 40 8 = nI hc1 := by rw [fr_UN_unify w1 (by unfold W_UN_unify; omega)]; exact u7
    have h37 : ∀ j, μ2 37 j = μ 37 j := by
      intro j
      rw [fr_UN_unify w1 (by unfold W_UN_unify; omega), fr_CE_copy u1 (by unfold W_CE_copy; omega)]
    have h46 : ν2 70 46 = nI hc1 := by rw [fr_MO_unify w2 (by unfold W_MO_unify; omega)]; exact u8
    have h17 : ν2 70 17 = -1 := by rw [fr_MO_unify w2 (by unfold W_MO_unify; omega), fr_MO_copy u2 (by unfold W_MO_copy; omega)]; exact hsd.2
    have h96 : ν2 96 = ν1 96 := by
      funext j
      exact fr_MO_unify w2 (by unfold W_MO_unify; omega)
    have h97 : ν2 97 = ν1 97 := by
      funext j
      exact fr_MO_unify w2 (by unfold W_MO_unify; omega)
    obtain ⟨n', acc', g', cap', μ', ν', b1', b2', b3, b4, b5', b6', b7, b8⟩ := bring_a (hc := hc1) (hh := hh) ha w7 hR16 hc (by omega) hhh u3 (by omega) h40 h46 w3 ⟨by rw [h37]; exact hsd.1, h17⟩ (fun x hx => by rw [h458, h96, h97]; exact u9 x hx)
    refine ⟨0, n', acc', g', cap', μ', ν', ?_, ?_, ?_, Or.inl rfl, b3, ⟨_, S1, tr2, tb2, GT + (hc1 - 1), M2, φ1, K1, τ1, b4, by omega, by omega, by omega⟩, ?_, ?_⟩
    · rw [hcopyc, rd_x (x := 0) (i := 0) rfl (by decide) (by decide), b1_s, hg1, rd_n hpp (by have := ha.2.2.2.2.2.1; omega), b1_s, w1, b2_s, if_neg (not_not_intro (show nI 0 = 0 from rfl)), b1', b5_s, b5_s]
    · rw [rd_n hr (by decide), b1_s, h73, e30, u2, b1_s, rd_x (x := 0) (i := 0) rfl (by decide) (by decide), b1_s, rd_x (x := 0) (i := 0) rfl (by decide) (by decide), b1_s, w2, b1_s, b2', b1_s]
    · rw [b8 49 (by decide) (by decide)]; exact w3
    · rw [b5' 64 (by omega) (by decide), fr_UN_unify w1 (by unfold W_UN_unify; omega), fr_CE_copy u1 (by unfold W_CE_copy; omega)]
    · rw [b8 28 (by decide) (by decide), fr_MO_unify w2 (by unfold W_MO_unify; omega), fr_MO_copy u2 (by unfold W_MO_copy; omega)]
  · refine ⟨rr, n, acc, g, cap, μ2, ν2, ?_, ?_, w3, w4, ha, ⟨_, S1, tr2, tb2, GT, M2, φ1, K1, τ1, w7, by omega, by omega, by omega⟩, by rw [fr_UN_unify w1 (by unfold W_UN_unify; omega), fr_CE_copy u1 (by unfold W_CE_copy; omega)], by rw [fr_MO_unify w2 (by unfold W_MO_unify; omega), fr_MO_copy u2 (by unfold W_MO_copy; omega)]⟩
    · rw [hcopyc, rd_x (x := 0) (i := 0) rfl (by decide) (by decide), b1_s, hg1, rd_n hpp (by have := ha.2.2.2.2.2.1; omega), b1_s, w1, b2_s, if_pos (nI_ne0 (by omega) (by omega)), b5_s]
    · rw [rd_n hr (by decide), b1_s, h73, e30, u2, b1_s, rd_x (x := 0) (i := 0) rfl (by decide) (by decide), b1_s, rd_x (x := 0) (i := 0) rfl (by decide) (by decide), b1_s, w2, b1_s]
      have h46 : ν2 70 46 = nI hc1 := by rw [fr_MO_unify w2 (by unfold W_MO_unify; omega)]; exact u8
      have : f_MO_attempt_203 (nI hh) fu (ν2 70 46 - 1) ν2 = some ν2 := by
        rw [show fu = 99999 + 1 from rfl, f_MO_attempt_203]
        by_cases e : ν2 70 46 - 1 ≤ 0
        · rw [if_pos e]
        · rw [if_neg e, if_pos (by rw [w3]; exact nI_ne0 (by omega) (by omega))]
      rw [this, b1_s]

/-- a rule is tried: class and reference alike -/
theorem att_s {n B1 B2 r pp gg m : Nat} {acc : Nat × Nat} {w : Int32} (ha : alR n acc g cap B1 B2) (h : actR g cap R has N S c tr tb nq GT P M φ K τ cm tm gm cs ct μ ν) (hru : rulR R μ ν) (hGT : GT + 29 ≤ 8730) (hP : P + 8 ≤ 2600) (htb : tb ≤ 2600) (hM : M < 2 ^ 27) (hc : c < 300) (hr : r < R) (hS : S + 128 < 2 ^ 29) (hch : chR N φ K (μ g) (μ (g + 1)) (μ (g + 2)) (ν 80) (ν 81) (m + 1) (nI pp) (nI gg)) (hpp : pp < cap ∧ pp < GT) (hgg : gg < GT) (hb9 : μ (g + 2) pp = μ 37 9) (hb16 : ν 81 gg = ν 70 16) (hnm : nmR (μ 41) (μ g pp) w) (h6 : kd (μ g pp) ≠ 6) (hsd : μ 37 10 = -1 ∧ ν 70 17 = -1) :
    ∃ (rr n' : Nat) (acc' : Nat × Nat) (g' cap' : Nat) (μ' ν' : Mu), f_SE_tryRule n acc g cap (nI pp) (nI r) w μ = some (nI rr, n', acc', g', cap', μ') ∧ f_MO_attempt (nI r) (nI gg) ν = some ν' ∧ ν' 70 49 = nI rr ∧ (rr = 0 ∨ rr = 1 ∨ rr = 3) ∧ alR n' acc' g' cap' B1 B2 ∧ (∃ (N' S' c' tr' tb' GT' M' : Nat) (φ' K' τ' cm' tm' gm' cs' ct' : Nat → Nat), actR g' cap' R has N' S' c' tr' tb' nq GT' (P + 8) M' φ' K' τ' cm' tm' gm' cs' ct' μ' ν' ∧ GT' ≤ GT + 29 ∧ S' ≤ S + 128 ∧ M' ≤ M + 301 ∧ c' ≤ c + 1) ∧ (μ 64 5 = ν 70 28 → μ' 64 5 = ν' 70 28) := by
  have hR16 := hru.1
  have hN240 := h.1.1
  have hcap := ha.2.2.2.2.2.1
  have hgk := ha.1
  obtain ⟨L, W, hcl, hw6, hq3, h73, hnd⟩ := ru_cl (r := r) (by omega) (hru.2.2.2 r hr)
  -- the goal's kind, value and word
  obtain ⟨gw, hh2, hgo, hgw⟩ : ∃ gw hh2, goR N φ K (μ g pp) hh2 gw ∧ ν 80 gg = gw := by
    obtain ⟨p', g', e1, e2, e3, e4, e5, -⟩ := hch
    have f1 := (nI_eq (by omega) (by omega)).mp e1
    have f2 := (nI_eq (by omega) (by omega)).mp e2
    subst f1
    subst f2
    exact ⟨_, _, e5, rfl⟩
  obtain ⟨k, v, k1, k2, k3⟩ := gw_s (ν := ν) (gg := gg) hgo (by omega) hgw
  have hk0 : ¬ k < 0 := by
    rcases k3 with ⟨a, -, -, q, -⟩ | ⟨i, -, -, -, -, q, -⟩ | ⟨-, q, -⟩ <;> rw [q] <;> decide
  have hwd : f_MO_wordOf k v ν = some w := by
    unfold f_MO_wordOf
    rcases k3 with ⟨a, a1, a2, a3, a4⟩ | ⟨i, i1, i2, i3, i4, i5, i6⟩ | ⟨a1, a2, a3⟩
    · rw [if_pos (by rw [a3]; decide)]
      rcases hnm with ⟨j, j1, j2, -⟩ | ⟨-, j2⟩
      · have := ((wd_eq (by omega) (by omega) (by omega) (by omega)).mp (a2.symm.trans j2)).2; omega
      · rw [← j2, a2, a4, show (8 : Int32) = nI 8 from rfl, show (2 : Int32) = nI 2 from rfl, pk_mul, nI_add]
    · rw [if_neg (not_not_intro i5)]
      rcases hnm with ⟨j, j1, j2, j3⟩ | ⟨j1, -⟩
      · have hN := h.1.1
        have := ((wd_eq (by omega) (by omega) (by omega) (by omega)).mp (i4.symm.trans j2)).1
        subst this
        obtain ⟨a, nm, g1, g2, g3, g4, g5, -⟩ := st_of h.1 i1 i2
        rw [i6, rd_n i3 (by decide), b1_s, g5, ← g4, j3]
      · have hN := h.1.1
        rw [i4, kd_wd (by omega) (by omega)] at j1; omega
    · rw [a1, kd_wd (by omega) (by omega)] at h6; omega
  -- the choice
  have hmk : ∃ (c1 : Nat) (cm1 tm1 gm1 cs1 ct1 : Nat → Nat) (μ1 ν1 : Mu) (l : Int32), f_RB_firstFor w (nI r + 1) μ = some l ∧ f_MO_ruleFor w (nI r + 1) ν = some l ∧ (if l = (-1) then some μ else (b1 (f_CH_make (nI pp) l μ) fun μ8 => some μ8)) = some μ1 ∧ (if l < 0 then some ν else (b1 (wr ν 82 320 (ν 70 18) (nI gg)) fun μ13 => b1 (wr μ13 83 320 (μ13 70 18) l) fun μ16 => b1 (wr μ16 84 320 (μ16 70 18) (μ16 70 12)) fun μ19 => b1 (wr μ19 85 320 (μ19 70 18) (μ19 70 23)) fun μ22 => some ((sI μ22 70 18 ((μ22 70 18) + 1))))) = some ν1 ∧ c1 ≤ c + 1 ∧ actR g cap R has N S c1 tr tb nq GT P M φ K τ cm1 tm1 gm1 cs1 ct1 μ1 ν1 ∧ (∀ k, k ≠ 58 → k ≠ 59 → k ≠ 60 → k ≠ 61 → k ≠ 62 → k ≠ 63 → μ1 k = μ k) ∧ (∀ k, k ≠ 70 → k ≠ 82 → k ≠ 83 → k ≠ 84 → k ≠ 85 → ν1 k = ν k) ∧ (∀ j, j ≠ 18 → ν1 70 j = ν 70 j) := by
    rw [nI_1]
    rcases ff_f hru w (i := r + 1) (by omega) with ⟨e1, e2⟩ | ⟨l, l1, l2, l3, e1, e2⟩
    · exact ⟨c, cm, tm, gm, cs, ct, μ, ν, -1, e1, e2, by rw [if_pos rfl], by rw [if_pos (by decide)], by omega, h, fun _ _ _ _ _ _ _ => rfl, fun _ _ _ _ _ _ => rfl, fun _ _ => rfl⟩
    · obtain ⟨μ1, gm', u1, u2, u3⟩ := make_R h hgk hR16 (by omega) hcap hc hch ⟨hpp.2, hpp.1⟩ hgg l1 (by rw [l3]; exact hnm)
      obtain ⟨-, ⟨-, -, -⟩, ⟨n1, n2, n3, n4⟩, -⟩ := h
      refine ⟨c + 1, _, _, _, _, _, μ1, _, nI l, e1, e2, ?_, ?_, Nat.le_refl _, u2, u3, fun k a1 a2 a3 a4 a5 => ?_, fun j hj => ?_⟩
      · rw [if_neg (fun q => n_m1 (x := l) (by omega) q.symm), u1, b1_s]
      · rw [if_neg (nI_pos (by omega)), n3, wr_n (by omega) (by decide), b1_s, show sI ν 82 c (nI gg) 70 18 = nI c from n3, wr_n (by omega) (by decide), b1_s]
        rw [show sI (sI ν 82 c (nI gg)) 83 c (nI l) 70 18 = nI c from n3, show sI (sI ν 82 c (nI gg)) 83 c (nI l) 70 12 = nI S from n1, wr_n (by omega) (by decide), b1_s]
        rw [show sI (sI (sI ν 82 c (nI gg)) 83 c (nI l)) 84 c (nI S) 70 18 = nI c from n3, show sI (sI (sI ν 82 c (nI gg)) 83 c (nI l)) 84 c (nI S) 70 23 = nI tb from n2, wr_n (by omega) (by decide), b1_s]
        rw [show sI (sI (sI (sI ν 82 c (nI gg)) 83 c (nI l)) 84 c (nI S)) 85 c (nI tb) 70 18 = nI c from n3, nI_1]
      · rw [sI_nk a1, sI_nk a5, sI_nk a4, sI_nk a3, sI_nk a2]
      · rw [sI_nj hj]; rfl
  obtain ⟨c1, cm1, tm1, gm1, cs1, ct1, μ1, ν1, l, b1', b2', b3, b4, b5', h1, b7, b8, b9⟩ := hmk
  have hgg1 : μ1 g = μ g ∧ μ1 (g + 1) = μ (g + 1) ∧ μ1 (g + 2) = μ (g + 2) := by
    unfold gOK at hgk
    exact ⟨b7 g (by omega) (by omega) (by omega) (by omega) (by omega) (by omega), b7 (g + 1) (by omega) (by omega) (by omega) (by omega) (by omega) (by omega), b7 (g + 2) (by omega) (by omega) (by omega) (by omega) (by omega) (by omega)⟩
  have e80 := b8 80 (by decide) (by decide) (by decide) (by decide) (by decide)
  have e81 := b8 81 (by decide) (by decide) (by decide) (by decide) (by decide)
  have hch1 : chR N φ K (μ1 g) (μ1 (g + 1)) (μ1 (g + 2)) (ν1 80) (ν1 81) (m + 1) (nI pp) (nI gg) := by
    rw [hgg1.1, hgg1.2.1, hgg1.2.2, e80, e81]; exact hch
  have hru1 : rulR R μ1 ν1 := rulR_c hru (fun k hk => b7 k (by omega) (by omega) (by omega) (by omega) (by omega) (by omega)) (b8 72 (by decide) (by decide) (by decide) (by decide) (by decide)) (b8 73 (by decide) (by decide) (by decide) (by decide) (by decide)) (b9 3 (by decide))
  have hclc : ∀ {μ2 ν2 : Mu}, (∀ k, k < 37 → μ2 k = μ k) → ν2 72 = ν 72 → clR (5 + 2 * r) 72 480 (30 * r) L W (fun v => hasB W v L) μ2 ν2 := by
    intro μ2 ν2 a1 a2
    unfold clR
    rw [a1 (5 + 2 * r) (by omega), show 5 + 2 * r + 1 = 6 + 2 * r by omega, a1 (6 + 2 * r) (by omega), a2]
    unfold clR at hcl
    rw [show 5 + 2 * r + 1 = 6 + 2 * r by omega] at hcl
    exact hcl
  have e37 : ∀ j, μ1 37 j = μ 37 j := fun j => by rw [b7 37 (by decide) (by decide) (by decide) (by decide) (by decide) (by decide)]
  have hk1 : f_MO_kindOf (nI gg) ν1 = some k := by unfold f_MO_kindOf at k1 ⊢; rw [e80]; exact k1
  have hv1 : f_MO_valueOf (nI gg) ν1 = some v := by unfold f_MO_valueOf at k2 ⊢; rw [e80]; exact k2
  have h72 : ν1 72 = ν 72 := b8 72 (by decide) (by decide) (by decide) (by decide) (by decide)
  have h731 : ν1 73 = ν 73 := b8 73 (by decide) (by decide) (by decide) (by decide) (by decide)
  have hnd1 : f_MO_needs 72 480 (30 * nI r) (nI L) ν1 = some (nI (cnt (fun v => hasB W v L) 8 + sca (fun j => kd (W j)) L 0)) := by
    have e30 : (30 : Int32) * nI r = nI (30 * r) := pk_mul 30 r
    rw [e30]
    obtain ⟨⟨q1, q2⟩, ⟨o1, o2, o3, o4⟩, ⟨l1, l2⟩, hW, hq, hv2, hl, hw1, hw2, -⟩ := hclc (μ2 := μ1) (ν2 := ν1) (fun k hk => b7 k (by omega) (by omega) (by omega) (by omega) (by omega) (by omega)) h72
    exact nd_s o2 l2 o3 o4 hw2
  have hclb : clPb (5 + 2 * r) = true := hcl.1.1
  have hsl := sca_le (f := fun j => kd (W j)) L 0
  have hL30 : L ≤ 30 := hcl.2.2.1.2
  have hc8 := cnt_le (fun v => hasB W v L) 8
  have hroomc : ∀ {μ2 : Mu} {N2 : Nat}, N2 ≤ 240 → μ2 40 1 = nI N2 → μ2 (5 + 2 * r) = μ (5 + 2 * r) → f_SE_hasRoomFor (5 + 2 * r) μ2 = some (if N2 + (cnt (fun v => hasB W v L) 8 + sca (fun j => kd (W j)) L 0) ≤ 240 then 1 else 0) := by
    intro μ2 N2 a1 a2 a3
    unfold f_SE_hasRoomFor
    rw [if_pos hclb, a2, a3, hq3, nI_add]
    by_cases e : N2 + (cnt (fun v => hasB W v L) 8 + sca (fun j => kd (W j)) L 0) ≤ 240
    · rw [if_neg (show ¬ 240 < nI _ from nI_nlt (a := 240) e (by omega)), if_pos e]
    · rw [if_pos (show 240 < nI _ from nI_lt (a := 240) (by omega) (by omega)), if_neg e]
  -- the class's and the reference's ways
  have hcls : f_SE_tryRule n acc g cap (nI pp) (nI r) w μ = (if ¬ (if N + (cnt (fun v => hasB W v L) 8 + sca (fun j => kd (W j)) L 0) ≤ 240 then (1 : Int32) else 0) = 0 then (b1 (f_CE_copy (5 + 2 * r) μ1) fun μ15 => b1 (rd (μ15 45) 30 0) fun v17 => b1 (rd (μ15 g) cap (nI pp)) fun v19 => b2 (f_UN_unify v17 v19 μ15) fun v22 μ23 => b5 (if ¬ v22 = 0 then some (n, acc, g, cap, μ23) else (b5 (f_SE_bringGoals n acc g cap 1 (nI c) μ23) fun n34 ac35 g36 cp37 μ38 => some (n34, ac35, g36, cp37, μ38))) fun n25 ac26 g27 cp28 μ29 => some (v22, n25, ac26, g27, cp28, μ29)) else (b2 (f_CO_run g cap (nI pp) (jbit (μ1 38 2)) μ1) fun v42 μ43 => b1 (f_SE_hasRoomFor (5 + 2 * r) μ43) fun v46 => if ¬ v46 = 0 then (b1 (f_CE_copy (5 + 2 * r) μ43) fun μ49 => b1 (rd (μ49 45) 30 0) fun v51 => b1 (rd (μ49 g) cap (nI pp)) fun v53 => b2 (f_UN_unify v51 v53 μ49) fun v56 μ57 => b5 (if ¬ v56 = 0 then some (n, acc, g, cap, μ57) else (b5 (f_SE_bringGoals n acc g cap 1 (nI c) μ57) fun n68 ac69 g70 cp71 μ72 => some (n68, ac69, g70, cp71, μ72))) fun n59 ac60 g61 cp62 μ63 => some (v56, n59, ac60, g61, cp62, μ63)) else some (3, n, acc, g, cap, μ43))) := by
    unfold f_SE_tryRule
    rw [if_pos ha.2.1, b1', b1_s, b3, b1_s, clA_n (by omega), b1_s, hroomc h1.1.1 h1.2.1.1 (b7 _ (by omega) (by omega) (by omega) (by omega) (by omega) (by omega)), b1_s, h.2.1.2.2]
  have hinu : ∀ {N2 S2 : Nat} {φ2 K2 τ2 : Nat → Nat} {μ2 ν2 : Mu}, cellsR (μ2 41) (ν2 74) (ν2 75) (ν2 76) (ν2 77) (ν2 78) (ν2 79) N2 S2 φ2 K2 τ2 → f_MO_inUse ν2 = some (nI N2) := fun hq => inUse_s (Q_of hq) rfl
  have hmod : f_MO_attempt (nI r) (nI gg) ν = (b1 (if nI (N + (cnt (fun v => hasB W v L) 8 + sca (fun j => kd (W j)) L 0)) ≤ 240 then some ν1 else (b2 (f_MO_free k v ν1) fun v37 μ38 => some μ38)) fun μ32 => b1 (f_MO_inUse μ32) fun v42 => if (v42 + nI (cnt (fun v => hasB W v L) 8 + sca (fun j => kd (W j)) L 0)) ≤ 240 then (b1 (rd (μ32 73) 16 (nI r)) fun v44 => b1 (f_MO_copy 72 480 (30 * (nI r)) v44 μ32) fun μ47 => b1 (rd (μ47 96) 30 0) fun v49 => b1 (rd (μ47 97) 30 0) fun v51 => b1 (f_MO_unify v49 v51 k v μ47) fun μ54 => b1 (f_MO_attempt_203 (nI c) fu ((μ54 70 46) - 1) μ54) fun μ66 => some μ66) else some (sI μ32 70 49 3)) := by
    unfold f_MO_attempt
    rw [k1, b1_s, k2, b1_s, hwd, b1_s, b2', b1_s, b4, b1_s, rd_n (by omega) (by decide), b1_s, show ν1 73 r = nI L by rw [h731]; exact h73, hnd1, b1_s, hinu h1.1, b1_s, nI_add, h.2.2.1.2.2.1]
  by_cases hroom : N + (cnt (fun v => hasB W v L) 8 + sca (fun j => kd (W j)) L 0) ≤ 240
  · obtain ⟨rr, n', acc', g', cap', μ', ν', u1, u2, u3, u4, u5, ⟨N', S', tr', tb', GT', M', φ', K', τ', u6, u7, u8, u9⟩, u10, u11⟩ := att_t (hh := c) (r := r) (L := L) (W := W) (hs := fun v => hasB W v L) ha h1 hR16 hGT hP (by omega) (by omega) (by omega) (hclc (fun k hk => b7 k (by omega) (by omega) (by omega) (by omega) (by omega) (by omega)) h72) (by omega) hw6 (by rw [h731]; exact h73) (by omega) hS hch1 hpp.1 (by omega) hk1 hv1 (by rw [hgg1.1]; exact h6) ⟨by rw [e37]; exact hsd.1, by rw [b9 17 (by decide)]; exact hsd.2⟩
    refine ⟨rr, n', acc', g', cap', μ', ν', ?_, ?_, u3, u4, u5, ⟨N', S', c1, tr', tb', GT', M', φ', K', τ', _, _, _, _, _, u6, u7, u8, by omega, b5'⟩, fun q => by rw [u10, u11, b7 64 (by decide) (by decide) (by decide) (by decide) (by decide) (by decide), b9 28 (by decide)]; exact q⟩
    · rw [hcls, if_pos hroom, if_pos (by decide)]; exact u1
    · rw [hmod, if_pos (show nI _ ≤ 240 from nI_le (b := 240) hroom (by decide)), b1_s, hinu h1.1, b1_s, nI_add, if_pos (show nI _ ≤ 240 from nI_le (b := 240) hroom (by decide))]; exact u2
  · -- a collection first
    obtain ⟨μ2, ν2, N2, tr2, φ2, K2, τ2, cm2, tm2, z1, z2, z3, z4, z5, z6⟩ := coll_s h1 hgk ha.2.1 (by omega) (by omega) hR16 (by omega) htb (by omega) (k := k) (v := v) hch1 (Or.inr ⟨pp, rfl, hpp.1⟩) (Or.inr ⟨gg, rfl, hgg⟩) (Or.inr ⟨hk0, pp, gg, rfl, by omega, ⟨rfl, by omega⟩, hk1, hv1, by rw [e81, b9 16 (by decide)]; exact hb16, by rw [hgg1.2.2, e37]; exact hb9⟩)
    have z7 := col_c z1
    have z8 := col_m z2
    have hj : jbit (μ1 38 2) = nI nq := h1.2.2.2.2.2.2.2.2.2.2.1.2.2.2.1
    have rμ : ∀ k j, W_CO_run k j → μ2 k j = μ1 k j := fun k j hk => fr_CO_run z1 hk
    have rlow : ∀ k, k < 37 → μ2 k = μ k := by
      intro k hk
      funext j
      rw [rμ k j (by unfold W_CO_run; omega), b7 k (by omega) (by omega) (by omega) (by omega) (by omega) (by omega)]
    have r37 : ∀ j, μ2 37 j = μ 37 j := fun j => by rw [rμ 37 j (by unfold W_CO_run; omega), e37]
    have rν : ∀ k, k ≠ 70 → k ≠ 74 → k ≠ 88 → k ≠ 89 → k ≠ 90 → ν2 k = ν1 k := by
      intro k a1 a2 a3 a4 a5
      funext j
      exact fr_MO_free z2 (by unfold W_MO_free; omega)
    have hN2 := z4.1.1
    have hroom2 := hroomc (μ2 := μ2) (N2 := N2) hN2 z4.2.1.1 (rlow _ (by omega))
    have hclsc : f_SE_tryRule n acc g cap (nI pp) (nI r) w μ = (if ¬ (if N2 + (cnt (fun v => hasB W v L) 8 + sca (fun j => kd (W j)) L 0) ≤ 240 then (1 : Int32) else 0) = 0 then (b1 (f_CE_copy (5 + 2 * r) μ2) fun μ49 => b1 (rd (μ49 45) 30 0) fun v51 => b1 (rd (μ49 g) cap (nI pp)) fun v53 => b2 (f_UN_unify v51 v53 μ49) fun v56 μ57 => b5 (if ¬ v56 = 0 then some (n, acc, g, cap, μ57) else (b5 (f_SE_bringGoals n acc g cap 1 (nI c) μ57) fun n68 ac69 g70 cp71 μ72 => some (n68, ac69, g70, cp71, μ72))) fun n59 ac60 g61 cp62 μ63 => some (v56, n59, ac60, g61, cp62, μ63)) else some (3, n, acc, g, cap, μ2)) := by
      rw [hcls, if_neg hroom, if_neg (by decide), hj, z1, b2_s, hroom2, b1_s]
    have hmodc : f_MO_attempt (nI r) (nI gg) ν = (if (nI (N2 + (cnt (fun v => hasB W v L) 8 + sca (fun j => kd (W j)) L 0))) ≤ 240 then (b1 (rd (ν2 73) 16 (nI r)) fun v44 => b1 (f_MO_copy 72 480 (30 * (nI r)) v44 ν2) fun μ47 => b1 (rd (μ47 96) 30 0) fun v49 => b1 (rd (μ47 97) 30 0) fun v51 => b1 (f_MO_unify v49 v51 k v μ47) fun μ54 => b1 (f_MO_attempt_203 (nI c) fu ((μ54 70 46) - 1) μ54) fun μ66 => some μ66) else some (sI ν2 70 49 3)) := by
      rw [hmod, if_neg (show ¬ nI _ ≤ 240 from nI_ge (a := 240) (by omega) (by omega)), z2, b2_s, b1_s, hinu z4.1, b1_s, nI_add]
    by_cases hroom3 : N2 + (cnt (fun v => hasB W v L) 8 + sca (fun j => kd (W j)) L 0) ≤ 240
    · have e802 : ν2 80 = ν 80 := by rw [rν 80 (by decide) (by decide) (by decide) (by decide) (by decide), e80]
      have h62 : kd (μ2 g pp) ≠ 6 := by
        have := z6 pp w rfl (by omega) (by rw [b7 41 (by decide) (by decide) (by decide) (by decide) (by decide) (by decide), hgg1.1]; exact hnm)
        rcases this with ⟨i, i1, i2, -⟩ | ⟨q, -⟩
        · rw [i2, kd_wd (by omega) (by omega)]; omega
        · omega
      obtain ⟨rr, n', acc', g', cap', μ', ν', u1, u2, u3, u4, u5, ⟨N', S', tr', tb', GT', M', φ', K', τ', u6, u7, u8, u9⟩, u10, u11⟩ := att_t (hh := c) (r := r) (L := L) (W := W) (hs := fun v => hasB W v L) (k := k) (v := v) ha z4 hR16 hGT hP (by omega) (by omega) (by omega) (hclc rlow (by rw [rν 72 (by decide) (by decide) (by decide) (by decide) (by decide), h72])) (by omega) hw6 (by rw [rν 73 (by decide) (by decide) (by decide) (by decide) (by decide), h731]; exact h73) (by omega) hS z5 hpp.1 (by omega) (by unfold f_MO_kindOf at k1 ⊢; rw [e802]; exact k1) (by unfold f_MO_valueOf at k2 ⊢; rw [e802]; exact k2) h62 ⟨by rw [r37]; exact hsd.1, by rw [fr_MO_free z2 (by unfold W_MO_free; omega), b9 17 (by decide)]; exact hsd.2⟩
      refine ⟨rr, n', acc', g', cap', μ', ν', ?_, ?_, u3, u4, u5, ⟨N', S', c1, tr', tb', GT', M', φ', K', τ', _, _, _, _, _, u6, u7, u8, by omega, b5'⟩, fun q => by rw [u10, u11, z7, z8, b7 64 (by decide) (by decide) (by decide) (by decide) (by decide) (by decide), b9 28 (by decide), q]⟩
      · rw [hclsc, if_pos hroom3, if_pos (by decide)]; exact u1
      · rw [hmodc, if_pos (show nI _ ≤ 240 from nI_le (b := 240) hroom3 (by decide))]; exact u2
    · refine ⟨3, n, acc, g, cap, μ2, sI ν2 70 49 3, ?_, ?_, rfl, Or.inr (Or.inr rfl), ha, ⟨N2, S, c1, tr2, tb, GT, M + 1, φ2, K2, τ2, cm2, tm2, gm1, cs1, ct1, actR_P (show P ≤ P + 8 by omega) z4, by omega, by omega, by omega, b5'⟩, fun q => by show μ2 64 5 = ν2 70 28; rw [z7, z8, b7 64 (by decide) (by decide) (by decide) (by decide) (by decide) (by decide), b9 28 (by decide), q]⟩
      · rw [hclsc, if_neg hroom3, if_neg (by decide)]; rfl
      · rw [hmodc, if_neg (show ¬ nI _ ≤ 240 from nI_ge (a := 240) (by omega) (by omega))]
end ATT
