section LMB
variable {N S c tr tb nq GT M g : Nat} {has : Nat → Bool} {φ K τ cm cs ct : Nat → Nat} {U T KK V NM A : Nat → Int32} {μ ν : Mu}
theorem live_m {x0 q0 k v : Int32} {n0 : Nat} {cl : Nat → Nat} {HH : Nat → Int32} (hR : cellsR (μ 41) U T KK V NM A N S φ K τ) (hU : ν 74 = U) (hT : ν 75 = T) (hok : okM KK V NM A ν) (hM : mkB M ν) (hM2 : M < 2 ^ 29) (hGT : GT ≤ 8900) (hc : c ≤ 300) (htb : tb ≤ 2600) (n2 : ν 70 23 = nI tb) (n3 : ν 70 18 = nI c) (hrow : ∀ j, j < c → ν 84 j = nI (cs j) ∧ ν 85 j = nI (ct j) ∧ cs j ≤ S ∧ ct j ≤ tb ∧ (∀ i, i < N → (i < cm j ↔ τ i < cs j))) (hbnd : ∀ y, y < tb → ∃ x, x < 240 ∧ ν 86 y = nI x)
    (hq1 : nq = cnt has 8) (hq2 : nq ≤ N) (hKq : ∀ i, i < nq → K i = 1) (hask : ∀ v, v < 8 → (has v = true → ν 87 v = nI (φ (cnt has v))) ∧ (has v = false → ν 87 v = -1))
    (hch : ∀ j, j < c → cl j < 9030 ∧ chR N φ K (μ g) HH (μ (g + 2)) (ν 80) (ν 81) (cl j) (μ 59 j) (ν 82 j) ∧ (ν 82 j = -1 ∨ ∃ gg, ν 82 j = nI gg ∧ gg < GT))
    (h0 : (k < 0 ∧ n0 < 9030 ∧ chR N φ K (μ g) HH (μ (g + 2)) (ν 80) (ν 81) n0 x0 (ν 70 16) ∧ (ν 70 16 = -1 ∨ ∃ gg, ν 70 16 = nI gg ∧ gg < GT)) ∨ (¬ k < 0 ∧ ∃ n pp gg, n0 = n + 1 ∧ n < 9030 ∧ pp < 2 ^ 29 ∧ x0 = nI pp ∧ gg < GT ∧ f_MO_kindOf (nI gg) ν = some k ∧ f_MO_valueOf (nI gg) ν = some v ∧ goR N φ K (μ g pp) (HH pp) (ν 80 gg) ∧ chR N φ K (μ g) HH (μ (g + 2)) (ν 80) (ν 81) n (μ (g + 2) pp) (ν 70 16) ∧ (ν 70 16 = -1 ∨ ∃ gg, ν 70 16 = nI gg ∧ gg < GT)))
    (hr1 : ∀ x i, x < tr → i < N → μ 42 x = wd i 0 → K i = 1 ∧ μ 41 i ≠ wd i 0 ∧ ∃ j y, j < c ∧ i < cm j ∧ ct j ≤ y ∧ y < tb ∧ ν 86 y = nI (φ i)) (hr2 : ∀ j y i, j < c → i < N → i < cm j → ct j ≤ y → y < tb → ν 86 y = nI (φ i) → ∃ x, x < tr ∧ μ 42 x = wd i 0) :
    ∃ ν1 ν2, mkK (μ 41) KK V NM A N φ K (nI (M + 1)) ν1 ν2 ∧ ν1 = sI (sI (sI ν 70 34 (nI (M + 1))) 70 30 0) 70 28 (ν 70 28 + 1) ∧ f_MO_free k v ν = (b2 (f_MO_free_184 fu 0 0 ν2) fun l89 μ90 => some (l89, μ90)) ∧ (∀ i, i < N → rtC c nq tr n0 cl x0 g μ i → ν2 90 (φ i) = nI (M + 1)) ∧ (∀ Q, clo (μ 41) N K Q → (∀ i, i < N → rtC c nq tr n0 cl x0 g μ i → Q i) → ∀ i, i < N → (K i = 1 ∨ K i = 2) → ν2 90 (φ i) = nI (M + 1) → Q i) := by
  have hN := hR.1
  have hnm : ∀ x, x < 240 → ν 90 x ≠ nI (M + 1) := by
    intro x hx q
    obtain ⟨n, e1, e2⟩ := hM.2 x hx
    rw [e2] at q
    have := (nI_eq (by omega) (by omega)).mp q
    omega
  have hno : ∀ i, i < N → ν 90 (φ i) ≠ nI (M + 1) := fun i hi => hnm _ (hR.2.2.1 i hi).1
  generalize hν1 : sI (sI (sI ν 70 34 (nI (M + 1))) 70 30 0) 70 28 (ν 70 28 + 1) = ν1
  have r1 : ∀ k, k ≠ 70 → ν1 k = ν k := by
    intro k hk
    rw [← hν1, sI_nk hk, sI_nk hk, sI_nk hk]
  have r7 : ∀ j, j ≠ 34 → j ≠ 30 → j ≠ 28 → ν1 70 j = ν 70 j := by
    intro j q1 q2 q3
    rw [← hν1, sI_nj q3, sI_nj q2, sI_nj q1]
  have hK0 : mkK (μ 41) KK V NM A N φ K (nI (M + 1)) ν1 ν1 := by
    refine ⟨⟨⟨(r1 76 (by decide)).trans hok.1, (r1 77 (by decide)).trans hok.2.1, (r1 78 (by decide)).trans hok.2.2.1, (r1 79 (by decide)).trans hok.2.2.2⟩, by rw [← hν1]; rfl, by rw [← hν1]; rfl, ?_, ?_⟩, fun _ _ _ _ _ => rfl, fun _ _ => rfl, r90_r⟩
    · intro i a nm m h1 h2 h3 h4 h5 h6
      obtain ⟨a', nm', e1, e2, e3, e4, e5, e6, e7, e8⟩ := st_of hR h1 h2
      have e := (wd_eq (by omega) (by omega) (by omega) (by omega)).mp (h3.symm.trans e4)
      rw [r1 90 (by decide)]
      exact ⟨fun q => absurd q (hno _ (by omega)), fun q => absurd q (hno _ h1)⟩
    · intro i j hi hj q
      rw [r1 90 (by decide)] at q
      exact absurd q.2 (hno i hi)
  have hu0 : ∀ i, i < N → ν1 90 (φ i) ≠ nI (M + 1) := by
    intro i hi
    rw [r1 90 (by decide)]; exact hno i hi
  have h80 : ν1 80 = ν 80 := r1 80 (by decide)
  have h81 : ν1 81 = ν 81 := r1 81 (by decide)
  -- the goals at hand
  have hA : ∃ ν2 ν3, (if k < 0 then some ν1 else b1 (f_MO_mark k v ν1) fun μ6 => some μ6) = some ν2 ∧ f_MO_markGoals (ν2 70 16) ν2 = some ν3 ∧ mkK (μ 41) KK V NM A N φ K (nI (M + 1)) ν1 ν3 ∧ (∀ i, i < N → inC (μ g) (μ (g + 2)) n0 x0 i → ν3 90 (φ i) = nI (M + 1)) ∧ (∀ Q, clo (μ 41) N K Q → (∀ i, i < N → inC (μ g) (μ (g + 2)) n0 x0 i → Q i) → ∀ i, i < N → (K i = 1 ∨ K i = 2) → ν3 90 (φ i) = nI (M + 1) → Q i) := by
    rcases h0 with ⟨c1, c2, c3, c4⟩ | ⟨c1, n, pp, gg, c2, c3, c4, c5, c6, c7, c8, c9, c10, c11⟩
    · obtain ⟨ν3, u1, u2, u3, u4, u5⟩ := mg_l (C := μ 41) (ν0 := ν1) (TT := μ g) (HH := HH) (BB := μ (g + 2)) (mn := nI (M + 1)) hR hGT n0 fu x0 (ν 70 16) ν1 (by rw [h80, h81]; exact c3) c4 (by unfold fu; omega) hK0
      refine ⟨ν1, ν3, by rw [if_pos c1], ?_, u2, u4, fun Q q1 q2 => u5 Q q1 q2 (fun i hi _ q => absurd q (hu0 i hi))⟩
      unfold f_MO_markGoals
      rw [r7 16 (by decide) (by decide) (by decide), u1, b1_s]
    · have hk1 : f_MO_kindOf (nI gg) ν1 = some k := by
        unfold f_MO_kindOf at c7 ⊢; rw [h80]; exact c7
      have hv1 : f_MO_valueOf (nI gg) ν1 = some v := by
        unfold f_MO_valueOf at c8 ⊢; rw [h80]; exact c8
      obtain ⟨k', v', k1, k2, k3⟩ := gw_s (ν := ν1) (gg := gg) c9 (by omega) (by rw [h80])
      rw [hk1] at k1
      rw [hv1] at k2
      have ek := Option.some.inj k1
      have ev := Option.some.inj k2
      subst ek
      subst ev
      have hen : enR N φ K (fun i => K i = 1 ∨ K i = 2) k v := by
        rcases k3 with ⟨a, a1, a2, a3, a4⟩ | ⟨i, i1, i2, i3, i4, i5, i6⟩ | ⟨a1, a2, a3⟩
        · exact Or.inr ⟨by rw [a3]; decide, by rw [a3]; decide⟩
        · exact Or.inl ⟨i, i1, Or.inr i2, Or.inr ⟨i5, i2⟩, i6⟩
        · exact Or.inr ⟨by rw [a2]; decide, by rw [a2]; decide⟩
      have hto : ∀ j, j < N → v = nI (φ j) → (k = 0 ∨ k = 3) → μ g pp = wd j 7 := by
        intro j hj q1 q2
        rcases k3 with ⟨a, a1, a2, a3, a4⟩ | ⟨i, i1, i2, i3, i4, i5, i6⟩ | ⟨a1, a2, a3⟩
        · rw [a3] at q2; rcases q2 with q2 | q2 <;> exact absurd q2 (by decide)
        · rw [i6] at q1
          have f := (hR.2.2.1 j hj).1
          have := phi_inj hR i1 hj ((nI_eq (by omega) (by omega)).mp q1)
          subst this
          exact i4
        · rw [a2] at q2; rcases q2 with q2 | q2 <;> exact absurd q2 (by decide)
      have hfrom : ∀ j, j < N → μ g pp = wd j 7 → v = nI (φ j) ∧ (k = 0 ∨ k = 3) := by
        intro j hj q
        rcases k3 with ⟨a, a1, a2, a3, a4⟩ | ⟨i, i1, i2, i3, i4, i5, i6⟩ | ⟨a1, a2, a3⟩
        · have := ((wd_eq (by omega) (by omega) (by omega) (by omega)).mp (q.symm.trans a2)).2; omega
        · have := ((wd_eq (by omega) (by omega) (by omega) (by omega)).mp (q.symm.trans i4)).1
          subst this
          exact ⟨i6, Or.inr i5⟩
        · have := ((wd_eq (by omega) (by omega) (by omega) (by omega)).mp (q.symm.trans a1)).2; omega
      obtain ⟨ν2, w1, w2, w3, w4, w5⟩ := mark_k hR hK0 hen
      obtain ⟨ν3, u1, u2, u3, u4, u5⟩ := mg_l (C := μ 41) (ν0 := ν1) (TT := μ g) (HH := HH) (BB := μ (g + 2)) (mn := nI (M + 1)) hR hGT n fu (μ (g + 2) pp) (ν 70 16) ν2 (by rw [h80, h81]; exact c10) c11 (by unfold fu; omega) w2
      subst c2
      refine ⟨ν2, ν3, by rw [if_neg c1, w1, b1_s], ?_, u2, fun i hi q => ?_, fun Q q1 q2 => u5 Q q1 (fun i hi q => q2 i hi ⟨pp, c4, c5, Or.inr q⟩) (w5 Q q1 (fun j hj e1 e2 => q2 j hj ⟨pp, c4, c5, Or.inl (hto j hj e1 e2)⟩) (fun i hi _ q => absurd q (hu0 i hi)))⟩
      · unfold f_MO_markGoals
        rw [w2.2.2.1 16 (by decide), r7 16 (by decide) (by decide) (by decide), u1, b1_s]
      · obtain ⟨p2, f0, f1, f2⟩ := q
        rw [c5] at f1
        have := (nI_eq (by omega) (by omega)).mp f1
        subst this
        rcases f2 with f2 | f2
        · obtain ⟨e1, e2⟩ := hfrom i hi f2
          exact u3 i hi (w4 i hi e1 e2)
        · exact u4 i hi f2
  obtain ⟨ν2, ν3, a1, a2, a3, a4, a5⟩ := hA
  -- the question's variables
  have L45 : ∀ (d fl w : Nat) (νa : Mu), w + d = 8 → d < fl → mkK (μ 41) KK V NM A N φ K (nI (M + 1)) ν1 νa → (∀ i, i < N → ν3 90 (φ i) = nI (M + 1) → νa 90 (φ i) = nI (M + 1)) → (∀ i, i < cnt has w → νa 90 (φ i) = nI (M + 1)) → (∀ Q, clo (μ 41) N K Q → (∀ i, i < nq → Q i) → (∀ i, i < N → (K i = 1 ∨ K i = 2) → ν3 90 (φ i) = nI (M + 1) → Q i) → ∀ i, i < N → (K i = 1 ∨ K i = 2) → νa 90 (φ i) = nI (M + 1) → Q i) → ∃ νb, f_MO_free_45 fl (nI w) νa = some νb ∧ mkK (μ 41) KK V NM A N φ K (nI (M + 1)) ν1 νb ∧ (∀ i, i < N → ν3 90 (φ i) = nI (M + 1) → νb 90 (φ i) = nI (M + 1)) ∧ (∀ i, i < nq → νb 90 (φ i) = nI (M + 1)) ∧ (∀ Q, clo (μ 41) N K Q → (∀ i, i < nq → Q i) → (∀ i, i < N → (K i = 1 ∨ K i = 2) → ν3 90 (φ i) = nI (M + 1) → Q i) → ∀ i, i < N → (K i = 1 ∨ K i = 2) → νb 90 (φ i) = nI (M + 1) → Q i) := by
    intro d
    induction d with
    | zero =>
      intro fl w νa h1 h2 h3 h4 h5 h6
      cases fl with
      | zero => omega
      | succ fl =>
      have e : w = 8 := by omega
      subst e
      refine ⟨νa, ?_, h3, h4, fun i hi => h5 i (by omega), h6⟩
      unfold f_MO_free_45
      rw [if_pos (by decide)]
    | succ d ih =>
      intro fl w νa h1 h2 h3 h4 h5 h6
      cases fl with
      | zero => omega
      | succ fl =>
      have h87 : νa 87 = ν 87 := (h3.2.1 87 (by decide) (by decide) (by decide) (by decide)).trans (r1 87 (by decide))
      obtain ⟨b1', b2'⟩ := hask w (by omega)
      have hw8 : ¬ 8 ≤ nI w := nI_ge (b := 8) (by omega) (by decide)
      cases hb : has w with
      | false =>
        obtain ⟨νb, u1, u2⟩ := ih fl (w + 1) νa (by omega) (by omega) h3 h4 (fun i hi => h5 i (by rw [cnt_s, hb, if_neg (by decide)] at hi; omega)) h6
        refine ⟨νb, ?_, u2⟩
        rw [f_MO_free_45]
        rw [if_neg hw8, h87, rd_n (by omega) (by decide), b1_s, b2' hb, if_pos (by decide), b1_s, nI_1]
        exact u1
      | true =>
        have hcm := cnt_n (p := has) (m := w + 1) 8 (by omega)
        have hcw : cnt has (w + 1) = cnt has w + 1 := by rw [cnt_s, hb]; rfl
        have hi : cnt has w < nq := by omega
        have hf := (hR.2.2.1 (cnt has w) (by omega)).1
        obtain ⟨νc, w1, w2, w3, w4, w5⟩ := mark_k hR h3 (k := 0) (v := nI (φ (cnt has w))) (Or.inl ⟨cnt has w, by omega, Or.inl (hKq _ hi), Or.inl ⟨rfl, hKq _ hi⟩, rfl⟩)
        obtain ⟨νb, u1, u2⟩ := ih fl (w + 1) νc (by omega) (by omega) w2 (fun i hi q => w3 i hi (h4 i hi q)) (fun i hi2 => by
          by_cases e : i = cnt has w
          · subst e; exact w4 _ (by omega) rfl (Or.inl rfl)
          · exact w3 i (by omega) (h5 i (by omega))) (fun Q q1 q2 q3 => w5 Q q1 (fun j hj e1 _ => by
            have f := (hR.2.2.1 j hj).1
            have := phi_inj hR (by omega) hj ((nI_eq (by omega) (by omega)).mp e1)
            rw [← this]; exact q2 _ hi) (h6 Q q1 q2 q3))
        refine ⟨νb, ?_, u2⟩
        rw [f_MO_free_45]
        rw [if_neg hw8, h87, rd_n (by omega) (by decide), b1_s, b1' hb, if_neg (nI_pos (by omega)), b1_s, w1, b1_s, b1_s, nI_1]
        exact u1
  obtain ⟨ν4, d1, d2, d3, d4, d5⟩ := L45 8 fu 0 ν3 (by omega) (by unfold fu; omega) a3 (fun _ _ q => q) (fun i hi => by (exfalso; have : cnt has 0 = 0 := rfl; omega)) (fun Q _ _ q => q)
  -- the bound variables of choice j
  have L105 : ∀ j, j < c → ∀ (d fl y : Nat) (νa νz : Mu), y + d = tb → d < fl → ct j ≤ y → mkK (μ 41) KK V NM A N φ K (nI (M + 1)) ν1 νa → (∀ i, i < N → νz 90 (φ i) = nI (M + 1) → νa 90 (φ i) = nI (M + 1)) → (∀ i z, i < N → K i = 1 → i < cm j → μ 41 i ≠ wd i 0 → ct j ≤ z → z < y → ν 86 z = nI (φ i) → νa 90 (φ i) = nI (M + 1)) → (∀ Q, clo (μ 41) N K Q → (∀ i, i < N → (∃ x, x < tr ∧ μ 42 x = wd i 0) → Q i) → (∀ i, i < N → (K i = 1 ∨ K i = 2) → νz 90 (φ i) = nI (M + 1) → Q i) → ∀ i, i < N → (K i = 1 ∨ K i = 2) → νa 90 (φ i) = nI (M + 1) → Q i) → ∃ νb, f_MO_free_105 (nI j) fl (nI y) νa = some νb ∧ mkK (μ 41) KK V NM A N φ K (nI (M + 1)) ν1 νb ∧ (∀ i, i < N → νz 90 (φ i) = nI (M + 1) → νb 90 (φ i) = nI (M + 1)) ∧ (∀ i z, i < N → K i = 1 → i < cm j → μ 41 i ≠ wd i 0 → ct j ≤ z → z < tb → ν 86 z = nI (φ i) → νb 90 (φ i) = nI (M + 1)) ∧ (∀ Q, clo (μ 41) N K Q → (∀ i, i < N → (∃ x, x < tr ∧ μ 42 x = wd i 0) → Q i) → (∀ i, i < N → (K i = 1 ∨ K i = 2) → νz 90 (φ i) = nI (M + 1) → Q i) → ∀ i, i < N → (K i = 1 ∨ K i = 2) → νb 90 (φ i) = nI (M + 1) → Q i) := by
    intro j hj d
    obtain ⟨t1, t2, t3, t4, t5⟩ := hrow j hj
    have hS := hR.2.1
    induction d with
    | zero =>
      intro fl y νa νz h1 h2 h3 h4 h5 h6 h7
      cases fl with
      | zero => omega
      | succ fl =>
      have e : y = tb := by omega
      subst e
      refine ⟨νa, ?_, h4, h5, h6, h7⟩
      unfold f_MO_free_105
      rw [h4.2.2.1 23 (by decide), r7 23 (by decide) (by decide) (by decide), n2, if_pos (nI_le (Nat.le_refl _) (by omega))]
    | succ d ih =>
      intro fl y νa νz h1 h2 h3 h4 h5 h6 h7
      cases fl with
      | zero => omega
      | succ fl =>
      obtain ⟨x, x1, x2⟩ := hbnd y (by omega)
      have s86 : νa 86 = ν 86 := (h4.2.1 86 (by decide) (by decide) (by decide) (by decide)).trans (r1 86 (by decide))
      have s74 : νa 74 = U := ((h4.2.1 74 (by decide) (by decide) (by decide) (by decide)).trans (r1 74 (by decide))).trans hU
      have s75 : νa 75 = T := ((h4.2.1 75 (by decide) (by decide) (by decide) (by decide)).trans (r1 75 (by decide))).trans hT
      have s76 : νa 76 = KK := h4.1.1.1
      have s84 : νa 84 = ν 84 := (h4.2.1 84 (by decide) (by decide) (by decide) (by decide)).trans (r1 84 (by decide))
      have hun : ∀ ν42, (if ¬ U x = 1 then some νa else if KK x < 0 then some νa else if nI (cs j) ≤ T x then some νa else b1 (f_MO_mark 0 (nI x) νa) fun μ55 => some μ55) = some ν42 → f_MO_free_105 (nI j) (fl + 1) (nI y) νa = f_MO_free_105 (nI j) fl (nI (y + 1)) ν42 := by
        intro ν42 h
        rw [f_MO_free_105]
        rw [h4.2.2.1 23 (by decide), r7 23 (by decide) (by decide) (by decide), n2, if_neg (nI_ge (by omega) (by omega)), s86, rd_n (by omega) (by decide), b1_s, x2, s74, rd_n x1 (by decide), b1_s, s76, rd_n x1 (by decide), b1_s, s75, rd_n x1 (by decide), b1_s, s84, rd_n (by omega) (by decide), b1_s, t1, h, b1_s, nI_1]
      -- if the entry is skipped
      have skip : (∀ i, i < N → K i = 1 → i < cm j → μ 41 i ≠ wd i 0 → ν 86 y ≠ nI (φ i)) → (if ¬ U x = 1 then some νa else if KK x < 0 then some νa else if nI (cs j) ≤ T x then some νa else b1 (f_MO_mark 0 (nI x) νa) fun μ55 => some μ55) = some νa → ∃ νb, f_MO_free_105 (nI j) (fl + 1) (nI y) νa = some νb ∧ mkK (μ 41) KK V NM A N φ K (nI (M + 1)) ν1 νb ∧ (∀ i, i < N → νz 90 (φ i) = nI (M + 1) → νb 90 (φ i) = nI (M + 1)) ∧ (∀ i z, i < N → K i = 1 → i < cm j → μ 41 i ≠ wd i 0 → ct j ≤ z → z < tb → ν 86 z = nI (φ i) → νb 90 (φ i) = nI (M + 1)) ∧ (∀ Q, clo (μ 41) N K Q → (∀ i, i < N → (∃ x, x < tr ∧ μ 42 x = wd i 0) → Q i) → (∀ i, i < N → (K i = 1 ∨ K i = 2) → νz 90 (φ i) = nI (M + 1) → Q i) → ∀ i, i < N → (K i = 1 ∨ K i = 2) → νb 90 (φ i) = nI (M + 1) → Q i) := by
        intro g1 g2
        obtain ⟨νb, u1, u2⟩ := ih fl (y + 1) νa νz (by omega) (by omega) (by omega) h4 h5 (fun i z q1 q2 q3 q4 q5 q6 q7 => by
          by_cases e : z = y
          · subst e; exact absurd q7 (g1 i q1 q2 q3 q4)
          · exact h6 i z q1 q2 q3 q4 q5 (by omega) q7) h7
        exact ⟨νb, (hun νa g2).trans u1, u2⟩
      by_cases c1 : U x = 1
      · rcases hR.2.2.2.2.1 x x1 with w | ⟨i, i1, i2⟩
        · rw [w] at c1; exact absurd c1 (by decide)
        · obtain ⟨f1, f2, f3, f4⟩ := hR.2.2.1 i i1
          have hKi : K i = 1 := by
            rw [i2, c1] at f2
            have hc6 := hR.2.2.2.2.2 i i1
            rcases cellR_K hc6 with e | e | e
            · exact e
            · rw [e] at f2; exact absurd f2 (by decide)
            · rw [e] at f2; exact absurd f2 (by decide)
          have huniq : ∀ i', i' < N → ν 86 y = nI (φ i') → i' = i := by
            intro i' h1 h2
            rw [x2] at h2
            have f := (hR.2.2.1 i' h1).1
            have := (nI_eq (by omega) (by omega)).mp h2
            exact (phi_inj hR h1 i1 (by omega))
          by_cases c2 : KK x < 0
          · refine skip (fun i' q1 q2 q3 q4 q5 => ?_) (by rw [if_neg (not_not_intro c1), if_pos c2])
            have := huniq i' q1 q5
            subst this
            rcases hR.2.2.2.2.2 i' i1 with ⟨-, ⟨e1, -⟩ | ⟨-, e2, -⟩⟩ | ⟨e, -⟩ | ⟨e, -⟩
            · exact q4 e1
            · rw [i2] at e2; exact tmR_kpos e2 c2
            · omega
            · omega
          · by_cases c3 : nI (cs j) ≤ T x
            · refine skip (fun i' q1 q2 q3 q4 q5 => ?_) (by rw [if_neg (not_not_intro c1), if_neg c2, if_pos c3])
              have := huniq i' q1 q5
              subst this
              rw [← i2, f3] at c3
              have := (nI_leI (by omega) (by omega)).mp c3
              have := (t5 i' i1).mp q3
              omega
            · have hicm : i < cm j := by
                apply (t5 i i1).mpr
                rw [← i2, f3] at c3
                have : ¬ cs j ≤ τ i := fun w => c3 ((nI_leI (by omega) (by omega)).mpr w)
                omega
              obtain ⟨νc, w1, w2, w3, w4, w5⟩ := mark_k hR h4 (k := 0) (v := nI x) (Or.inl ⟨i, i1, Or.inl hKi, Or.inl ⟨rfl, hKi⟩, by rw [i2]⟩)
              obtain ⟨νb, u1, u2⟩ := ih fl (y + 1) νc νz (by omega) (by omega) (by omega) w2 (fun i hi q => w3 i hi (h5 i hi q)) (fun i' z q1 q2 q3 q4 q5 q6 q7 => by
                by_cases e : z = y
                · subst e
                  have := huniq i' q1 q7
                  subst this
                  exact w4 i' q1 (by rw [i2]) (Or.inl rfl)
                · exact w3 i' q1 (h6 i' z q1 q2 q3 q4 q5 (by omega) q7)) (fun Q q1 q2 q3 => w5 Q q1 (fun j' hj' e1 _ => by
                  have := huniq j' hj' (by rw [x2]; exact e1)
                  subst this
                  exact q2 j' hj' (hr2 j y j' hj hj' hicm h3 (by omega) (by rw [x2]; exact e1))) (h7 Q q1 q2 q3))
              exact ⟨νb, (hun νc (by rw [if_neg (not_not_intro c1), if_neg c2, if_neg c3, w1, b1_s])).trans u1, u2⟩
      · refine skip (fun i' q1 q2 q3 q4 q5 => ?_) (by rw [if_pos c1])
        rw [x2] at q5
        obtain ⟨f1, f2, -⟩ := hR.2.2.1 i' q1
        have := (nI_eq (by omega) (by omega)).mp q5
        rw [← this, q2] at f2
        exact c1 f2
  -- the choices
  have L79 : ∀ (d fl j : Nat) (νa : Mu), j + d = c → d < fl → mkK (μ 41) KK V NM A N φ K (nI (M + 1)) ν1 νa → (∀ i, i < N → ν4 90 (φ i) = nI (M + 1) → νa 90 (φ i) = nI (M + 1)) → (∀ j' i, j' < j → i < N → inC (μ g) (μ (g + 2)) (cl j') (μ 59 j') i → νa 90 (φ i) = nI (M + 1)) → (∀ j' i z, j' < j → i < N → K i = 1 → i < cm j' → μ 41 i ≠ wd i 0 → ct j' ≤ z → z < tb → ν 86 z = nI (φ i) → νa 90 (φ i) = nI (M + 1)) → (∀ Q, clo (μ 41) N K Q → (∀ i, i < N → (∃ x, x < tr ∧ μ 42 x = wd i 0) → Q i) → (∀ j' i, j' < c → i < N → inC (μ g) (μ (g + 2)) (cl j') (μ 59 j') i → Q i) → (∀ i, i < N → (K i = 1 ∨ K i = 2) → ν4 90 (φ i) = nI (M + 1) → Q i) → ∀ i, i < N → (K i = 1 ∨ K i = 2) → νa 90 (φ i) = nI (M + 1) → Q i) → ∃ νb, f_MO_free_79 fl (nI j) νa = some νb ∧ mkK (μ 41) KK V NM A N φ K (nI (M + 1)) ν1 νb ∧ (∀ i, i < N → ν4 90 (φ i) = nI (M + 1) → νb 90 (φ i) = nI (M + 1)) ∧ (∀ j' i, j' < c → i < N → inC (μ g) (μ (g + 2)) (cl j') (μ 59 j') i → νb 90 (φ i) = nI (M + 1)) ∧ (∀ j' i z, j' < c → i < N → K i = 1 → i < cm j' → μ 41 i ≠ wd i 0 → ct j' ≤ z → z < tb → ν 86 z = nI (φ i) → νb 90 (φ i) = nI (M + 1)) ∧ (∀ Q, clo (μ 41) N K Q → (∀ i, i < N → (∃ x, x < tr ∧ μ 42 x = wd i 0) → Q i) → (∀ j' i, j' < c → i < N → inC (μ g) (μ (g + 2)) (cl j') (μ 59 j') i → Q i) → (∀ i, i < N → (K i = 1 ∨ K i = 2) → ν4 90 (φ i) = nI (M + 1) → Q i) → ∀ i, i < N → (K i = 1 ∨ K i = 2) → νb 90 (φ i) = nI (M + 1) → Q i) := by
    intro d
    induction d with
    | zero =>
      intro fl j νa h1 h2 h3 h4 h5 h6 h7
      cases fl with
      | zero => omega
      | succ fl =>
      have e : j = c := by omega
      subst e
      refine ⟨νa, ?_, h3, h4, h5, h6, h7⟩
      unfold f_MO_free_79
      rw [h3.2.2.1 18 (by decide), r7 18 (by decide) (by decide) (by decide), n3, if_pos (nI_le (Nat.le_refl _) (by omega))]
    | succ d ih =>
      intro fl j νa h1 h2 h3 h4 h5 h6 h7
      cases fl with
      | zero => omega
      | succ fl =>
      obtain ⟨t1, t2, t3, t4, t5⟩ := hrow j (by omega)
      obtain ⟨z1, z2, z3⟩ := hch j (by omega)
      have s82 : νa 82 = ν 82 := (h3.2.1 82 (by decide) (by decide) (by decide) (by decide)).trans (r1 82 (by decide))
      obtain ⟨νc, u1, u2, u3, u4, u5⟩ := mg_l (C := μ 41) (ν0 := ν1) (TT := μ g) (HH := HH) (BB := μ (g + 2)) (mn := nI (M + 1)) hR hGT (cl j) fu (μ 59 j) (ν 82 j) νa (by rw [h80, h81]; exact z2) z3 (by unfold fu; omega) h3
      have s85 : νc 85 = ν 85 := (u2.2.1 85 (by decide) (by decide) (by decide) (by decide)).trans (r1 85 (by decide))
      obtain ⟨νd, v1, v2, v3, v4, v5⟩ := L105 j (by omega) (tb - ct j) fu (ct j) νc νc (by omega) (by unfold fu; omega) (Nat.le_refl _) u2 (fun _ _ q => q) (fun i z _ _ _ _ q1 q2 => by omega) (fun Q _ _ q => q)
      obtain ⟨νb, w1, w2⟩ := ih fl (j + 1) νd (by omega) (by omega) v2 (fun i hi q => v3 i hi (u3 i hi (h4 i hi q))) (fun j' i q1 q2 q3 => by
        by_cases e : j' = j
        · subst e; exact v3 i q2 (u4 i q2 q3)
        · exact v3 i q2 (u3 i q2 (h5 j' i (by omega) q2 q3))) (fun j' i z q1 q2 q3 q4 q5 q6 q7 q8 => by
        by_cases e : j' = j
        · subst e; exact v4 i z q2 q3 q4 q5 q6 q7 q8
        · exact v3 i q2 (u3 i q2 (h6 j' i z (by omega) q2 q3 q4 q5 q6 q7 q8))) (fun Q q1 q2 q3 q4 => v5 Q q1 q2 (u5 Q q1 (fun i hi q => q3 j i (by omega) hi q) (h7 Q q1 q2 q3 q4)))
      refine ⟨νb, ?_, w2⟩
      rw [f_MO_free_79]
      rw [h3.2.2.1 18 (by decide), r7 18 (by decide) (by decide) (by decide), n3, if_neg (nI_ge (by omega) (by omega)), s82, rd_n (by omega) (by decide), b1_s]
      unfold f_MO_markGoals
      rw [u1, b1_s, b1_s, s85, rd_n (by omega) (by decide), b1_s, t2, v1, b1_s, nI_1]
      exact w1
  obtain ⟨ν5, e1, e2, e3, e4, e5, e6⟩ := L79 c fu 0 ν4 (by omega) (by unfold fu; omega) d2 (fun _ _ q => q) (fun j' i q => by omega) (fun j' i z q => by omega) (fun Q _ _ _ q => q)
  refine ⟨ν1, ν5, e2, rfl, ?_, fun i hi q => ?_, fun Q q1 q2 => ?_⟩
  · unfold f_MO_free
    rw [hM.1, nI_1, hν1, a1, b1_s, a2, b1_s, show f_MO_free_45 fu 0 ν3 = some ν4 from d1, b1_s, show f_MO_free_79 fu 0 ν4 = some ν5 from e1, b1_s]
  · rcases q with q | ⟨x, q, q'⟩ | ⟨j, q, q'⟩ | q
    · exact e3 i hi (d4 i q)
    · obtain ⟨w1, w2, j, y, w3, w4, w5, w6, w7⟩ := hr1 x i q hi q'
      exact e5 j i y w3 hi w1 w4 w2 w5 w6 w7
    · exact e4 j i q hi q'
    · exact e3 i hi (d3 i hi (a4 i hi q))
  · exact e6 Q q1 (fun i hi q => q2 i hi (Or.inr (Or.inl q))) (fun j' i hj hi q => q2 i hi (Or.inr (Or.inr (Or.inl ⟨j', hj, q⟩)))) (d5 Q q1 (fun i hi => q2 i (by omega) (Or.inl hi)) (a5 Q q1 (fun i hi q => q2 i hi (Or.inr (Or.inr (Or.inr q))))))
end LMB
