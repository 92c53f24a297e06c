/-! one step -/
section STP
variable {g cap R : Nat} {has : Nat → Bool} {N S c tr tb nq GT P M : Nat} {φ K τ cm tm gm cs ct : Nat → Nat} {μ ν : Mu}
/-- how the reference ends a step -/
def mfin (ν : Mu) : Option Mu :=
  if ¬ (ν 70 49) = 1 then
  (if (ν 70 49) ≤ 1 then
  (b1 (if 0 ≤ (ν 70 16) then some ((0 : Int32)) else some ((1 : Int32))) fun v64 =>
  if (v64 = 0 ∨ v64 = 1) then some ((sI ν 70 26 v64)) else none)
  else
  (b1 (f_MO_end (sI ν 70 0 ((ν 70 49) + 1))) fun μ70 => some (μ70)))
  else
  (b1 (f_MO_fail ν) fun μ73 => some (μ73))
/-- what stays, in the reference, over the inner part of a step -/
def mfr (ν ν' : Mu) : Prop := ν' 71 = ν 71 ∧ ν' 72 = ν 72 ∧ ν' 73 = ν 73 ∧ ν' 98 = ν 98 ∧ ∀ j, j = 0 ∨ j = 1 ∨ j = 3 ∨ j = 25 ∨ j = 26 ∨ j = 27 → ν' 70 j = ν 70 j
/-- a goal's kind and value -/
def gkvR (N : Nat) (φ K : Nat → Nat) (t k v : Int32) : Prop := (∃ a, a < 32 ∧ t = wd a 2 ∧ k = 2 ∧ v = nI a) ∨ (∃ i, i < N ∧ K i = 2 ∧ φ i < 240 ∧ t = wd i 7 ∧ k = 3 ∧ v = nI (φ i)) ∨ (t = wd 0 6 ∧ k = 6 ∧ v = 0)
theorem step_s {n B1 B2 t pp gg m : Nat} {acc : Nat × Nat} (ha : alR n acc g cap B1 B2) (h : actR g cap R has N S c tr tb nq GT P M φ K τ cm tm gm cs ct μ ν) (hru : rulR R μ ν) (hGT : GT + 29 ≤ 8730) (hP : P + 8 ≤ 2600) (htb : tb ≤ 2600) (hM : M < 2 ^ 27) (hc : c < 300) (hS : S + 128 < 2 ^ 29) (h9 : μ 37 9 = nI pp) (h16 : ν 70 16 = nI gg) (hch : chR N φ K (μ g) (μ (g + 1)) (μ (g + 2)) (ν 80) (ν 81) (m + 1) (nI pp) (nI gg)) (hpp : pp < cap ∧ pp < GT) (hgg : gg < GT) (ht : μ 37 12 = nI (t + 1)) (ht2 : ν 70 27 = nI (t + 1)) :
    ∃ (rr n' : Nat) (acc' : Nat × Nat) (g' cap' : Nat) (μ' ν' : Mu), f_SE_step n acc g cap μ = some (nI rr, n', acc', g', cap', μ') ∧ f_MO_step ν = mfin ν' ∧ ν' 70 49 = nI rr ∧ (rr = 0 ∨ rr = 1 ∨ rr = 2 ∨ rr = 3) ∧ alR n' acc' g' cap' B1 B2 ∧ μ' 37 12 = nI t ∧ mfr (sI ν 70 27 (nI t)) ν' ∧ (μ 64 5 = ν 70 28 → μ' 64 5 = ν' 70 28) ∧ (∃ (N' S' c' tr' tb' GT' P' M' : Nat) (φ' K' τ' cm' tm' gm' cs' ct' : Nat → Nat), actR g' cap' R has N' S' c' tr' tb' nq GT' P' M' φ' K' τ' cm' tm' gm' cs' ct' μ' ν' ∧ P' ≤ P + 8 ∧ GT' ≤ GT + 29 ∧ S' ≤ S + 128 ∧ M' ≤ M + 301 ∧ c' ≤ c + 1) := by
  have hR16 := hru.1
  have hN := h.1.1
  have hcap := ha.2.2.2.2.2.1
  have hgk := ha.1
  have hgo2 : g ≠ 37 ∧ g + 1 ≠ 37 ∧ g + 2 ≠ 37 ∧ g + 3 ≠ 37 := by unfold gOK at hgk; omega
  obtain ⟨hR, ⟨p1, p2, p3⟩, ⟨n1, n2, n3, n4⟩, htrl, hseg, hdn, hmrk, hrows, hchg, hcur, hque, hseen, hpot, hbnd, hmk, hlow⟩ := id h
  -- the goal
  have hch0 := hch
  obtain ⟨pp', gg', e1, e2, e3, e4, e5, e6, e7, e8⟩ := hch
  have f1 := (nI_eq (by omega) (by omega)).mp e1
  have f2 := (nI_eq (by omega) (by omega)).mp e2
  subst f1
  subst f2
  -- the states behind the taking of the goal
  generalize hμp : sI (sI (sI μ 37 12 (nI t)) 37 9 (μ (g + 2) pp)) 37 10 (-1) = μp
  generalize hνp : sI (sI (sI (sI ν 70 27 (nI t)) 70 49 0) 70 16 (ν 81 gg)) 70 17 (-1) = νp
  have mp : ∀ k, k ≠ 37 → μp k = μ k := fun k hk => by rw [← hμp, sI_nk hk, sI_nk hk, sI_nk hk]
  have mp7 : ∀ j, j ≠ 9 → j ≠ 10 → j ≠ 12 → μp 37 j = μ 37 j := fun j a b d => by rw [← hμp, sI_nj b, sI_nj a, sI_nj d]
  have mp9 : μp 37 9 = μ (g + 2) pp := by rw [← hμp]; rfl
  have mp10 : μp 37 10 = -1 := by rw [← hμp]; rfl
  have mp12 : μp 37 12 = nI t := by rw [← hμp]; rfl
  have vp : ∀ k, k ≠ 70 → νp k = ν k := fun k hk => by rw [← hνp, sI_nk hk, sI_nk hk, sI_nk hk, sI_nk hk]
  have vp7 : ∀ j, j ≠ 27 → j ≠ 49 → j ≠ 16 → j ≠ 17 → νp 70 j = ν 70 j := fun j a b d e => by rw [← hνp, sI_nj e, sI_nj d, sI_nj b, sI_nj a]
  have vp16 : νp 70 16 = ν 81 gg := by rw [← hνp]; rfl
  have vp17 : νp 70 17 = -1 := by rw [← hνp]; rfl
  have vp49 : νp 70 49 = 0 := by rw [← hνp]; rfl
  have vp27 : νp 70 27 = nI t := by rw [← hνp]; rfl
  have hap : actR g cap R has N S c tr tb nq GT P M φ K τ cm tm gm cs ct μp νp := by
    refine actR_d h hR16 (by omega) (fun k hk => mp k (by omega)) (by rw [mp 40 (by decide)]) (by rw [mp 40 (by decide)]) (by rw [mp 58 (by decide)]) (fun k a b => vp k (by omega)) (vp 90 (by decide)) (fun j hj => vp7 j (by omega) (by omega) (by omega) (by omega)) ?_
    unfold curR
    rw [mp g (by omega), mp (g + 1) (by omega), mp (g + 2) (by omega), mp9, mp10, vp 80 (by decide), vp 81 (by decide), vp16, vp17]
    refine ⟨⟨m, e8⟩, ?_, ?_, Or.inl ⟨rfl, rfl⟩⟩
    · cases m with
      | zero => exact Or.inl e8.1
      | succ m =>
        obtain ⟨x, y, y1, y2, y3, -⟩ := e8
        have := e6 x y3 y1
        exact Or.inr ⟨x, y1, by omega, by omega⟩
    · cases m with
      | zero => exact Or.inl e8.2
      | succ m =>
        obtain ⟨x, y, y1, y2, y3, y4, -⟩ := e8
        have := e7 y y4 y2
        exact Or.inr ⟨y, y2, by omega⟩
  have hchp : chR N φ K (μp g) (μp (g + 1)) (μp (g + 2)) (νp 80) (νp 81) (m + 1) (nI pp) (nI gg) := by
    rw [mp g (by omega), mp (g + 1) (by omega), mp (g + 2) (by omega), vp 80 (by decide), vp 81 (by decide)]; exact hch0
  have hrup : rulR R μp νp := rulR_c hru (fun k hk => mp k (by omega)) (vp 72 (by decide)) (vp 73 (by decide)) (vp7 3 (by decide) (by decide) (by decide) (by decide))
  have hfr0 : mfr (sI ν 70 27 (nI t)) νp := by
    refine ⟨vp 71 (by decide), vp 72 (by decide), vp 73 (by decide), vp 98 (by decide), fun j hj => ?_⟩
    by_cases e : j = 27
    · subst e; exact vp27
    · rw [vp7 j e (by omega) (by omega) (by omega), sI_nj e]
  have hcol0 : μ 64 5 = ν 70 28 → μp 64 5 = νp 70 28 := fun q => by rw [mp 64 (by decide), vp7 28 (by decide) (by decide) (by decide) (by decide)]; exact q
  have hmt : νp 70 27 = νp 70 27 := rfl
  -- the reference's look at the goal
  obtain ⟨k, v, k1, k2, k3⟩ : ∃ k v, f_MO_kindOf (nI gg) ν = some k ∧ f_MO_valueOf (nI gg) ν = some v ∧ gkvR N φ K (μ g pp) k v := gw_s (ν := ν) (gg := gg) e5 (by omega) rfl
  have hkk : f_MO_kindOf (nI gg) (sI (sI ν 70 27 (nI t)) 70 49 0) = some k := k1
  have hvv : f_MO_valueOf (nI gg) (sI (sI ν 70 27 (nI t)) 70 49 0) = some v := k2
  have t1 : nI (t + 1) - 1 = nI t := nI_pred t
  have hmo : ∀ (v7 : Int32) (ν18 : Mu), (if ¬ k = 3 then some ((-1 : Int32)) else (b1 (rd (ν 78) 240 v) fun v11 => b1 (f_MO_arity v11 νp) fun v14 => if ¬ v14 = 2 then some ((-1 : Int32)) else (b1 (rd (ν 78) 240 v) fun v16 => some ((v16 >>> ((3 : Int32) &&& 31)))))) = some v7 → (if (ν 70 17) < 0 then (if ¬ k = 6 then (if v7 ≤ 23 then (b1 (f_MO_wordOf k v νp) fun v25 => b1 (f_MO_ruleFor v25 0 νp) fun v27 => b1 (if 0 ≤ v27 then some ((0 : Int32)) else some ((1 : Int32))) fun v28 => if v27 < 0 then some ((sI νp 70 49 v28)) else (b1 (f_MO_attempt v27 (nI gg) (sI νp 70 49 v28)) fun μ34 => some (μ34))) else (if 28 ≤ v7 then (b1 (f_MO_wordOf k v νp) fun v38 => b1 (f_MO_ruleFor v38 0 νp) fun v40 => b1 (if 0 ≤ v40 then some ((0 : Int32)) else some ((1 : Int32))) fun v41 => if v40 < 0 then some ((sI νp 70 49 v41)) else (b1 (f_MO_attempt v40 (nI gg) (sI νp 70 49 v41)) fun μ47 => some (μ47))) else (b1 (f_MO_known v7 v νp) fun μ50 => some (μ50)))) else (b1 (rd (ν 80) 8900 (nI gg)) fun v52 => b1 (if (ν 70 18) ≤ (v52 >>> ((11 : Int32) &&& 31)) then some ((ν 70 18)) else some ((v52 >>> ((11 : Int32) &&& 31)))) fun v54 => some ((sI νp 70 18 v54)))) else (b1 (f_MO_attempt (ν 70 17) (nI gg) νp) fun μ59 => some (μ59))) = some ν18 → f_MO_step ν = mfin ν18 := by
    intro v7 ν18 a1 a2
    unfold f_MO_step
    rw [h16, ht2, t1, hkk, b1_s, hvv, b1_s, rd_n (by omega) (by decide), b1_s, hνp, a1, b1_s, a2, b1_s]
    rfl
  -- the class's look
  have hcl : f_SE_step n acc g cap μ = (if ¬ (μ g pp &&& 7) = 6 then (b1 (f_CE_nameOf (μ g pp) μp) fun v7 => if ¬ (v7 &&& 7) = 4 then (b1 (if ¬ (μ 37 10) = (-1) then some ((μ 37 10)) else (b1 (f_RB_firstFor v7 0 μp) fun v14 => some (v14))) fun l9 => if ¬ l9 = (-1) then (b6 (f_SE_tryRule n acc g cap (nI pp) l9 v7 μp) fun v17 n18 ac19 g20 cp21 μ22 => some (v17, n18, ac19, g20, cp21, μ22)) else some (1, n, acc, g, cap, μp)) else (if (v7 >>> ((3 : Int32) &&& 31)) < 24 then (b1 (if ¬ (μ 37 10) = (-1) then some ((μ 37 10)) else (b1 (f_RB_firstFor v7 0 μp) fun v30 => some (v30))) fun l25 => if ¬ l25 = (-1) then (b6 (f_SE_tryRule n acc g cap (nI pp) l25 v7 μp) fun v33 n34 ac35 g36 cp37 μ38 => some (v33, n34, ac35, g36, cp37, μ38)) else some (1, n, acc, g, cap, μp)) else (b1 (f_CE_argument (μ g pp) 1 μp) fun v41 => b1 (f_CE_argument (μ g pp) 2 μp) fun v43 => b2 (f_SE_meet (v7 >>> ((3 : Int32) &&& 31)) v41 v43 μp) fun v45 μ46 => some (v45, n, acc, g, cap, μ46)))) else (b1 (rd (μ (g + 1)) cap (nI pp)) fun v48 => b1 (f_CH_cutTo v48 μp) fun μ51 => some (0, n, acc, g, cap, μ51))) := by
    unfold f_SE_step
    have q2 : sI μ 37 12 (nI t) (g + 2) = μ (g + 2) := sI_nk (by omega)
    rw [if_pos ha.2.1, h9, ht, t1, q2, rd_n hpp.1 (by omega), b1_s, hμp, mp g (by omega), rd_n hpp.1 (by omega), b1_s, mp (g + 1) (by omega)]
  -- the end with a failure
  have hfail : ∀ (q : f_SE_step n acc g cap μ = some (nI 1, n, acc, g, cap, μp)) (q2 : f_MO_step ν = mfin (sI νp 70 49 1)), ∃ (rr n' : Nat) (acc' : Nat × Nat) (g' cap' : Nat) (μ' ν' : Mu), f_SE_step n acc g cap μ = some (nI rr, n', acc', g', cap', μ') ∧ f_MO_step ν = mfin ν' ∧ ν' 70 49 = nI rr ∧ (rr = 0 ∨ rr = 1 ∨ rr = 2 ∨ rr = 3) ∧ alR n' acc' g' cap' B1 B2 ∧ μ' 37 12 = nI t ∧ mfr (sI ν 70 27 (nI t)) ν' ∧ (μ 64 5 = ν 70 28 → μ' 64 5 = ν' 70 28) ∧ (∃ (N' S' c' tr' tb' GT' P' M' : Nat) (φ' K' τ' cm' tm' gm' cs' ct' : Nat → Nat), actR g' cap' R has N' S' c' tr' tb' nq GT' P' M' φ' K' τ' cm' tm' gm' cs' ct' μ' ν' ∧ P' ≤ P + 8 ∧ GT' ≤ GT + 29 ∧ S' ≤ S + 128 ∧ M' ≤ M + 301 ∧ c' ≤ c + 1) := by
    intro q q2
    refine ⟨1, n, acc, g, cap, μp, sI νp 70 49 1, q, q2, rfl, by omega, ha, mp12, ?_, hcol0, ⟨N, S, c, tr, tb, GT, P, M, φ, K, τ, cm, tm, gm, cs, ct, hap, by omega, by omega, by omega, by omega, by omega⟩⟩
    obtain ⟨x1, x2, x3, x4, x5⟩ := hfr0
    refine ⟨x1, x2, x3, x4, fun j hj => ?_⟩
    rw [sI_nj (by omega)]; exact x5 j hj
  -- the trying of rule r
  have htry : ∀ (r : Nat) (w : Int32), r < R → nmR (μ 41) (μ g pp) w → kd (μ g pp) ≠ 6 → (∀ x, f_SE_tryRule n acc g cap (nI pp) (nI r) w μp = some x → f_SE_step n acc g cap μ = some x) → (∀ ν', f_MO_attempt (nI r) (nI gg) νp = some ν' → f_MO_step ν = mfin ν') → ∃ (rr n' : Nat) (acc' : Nat × Nat) (g' cap' : Nat) (μ' ν' : Mu), f_SE_step n acc g cap μ = some (nI rr, n', acc', g', cap', μ') ∧ f_MO_step ν = mfin ν' ∧ ν' 70 49 = nI rr ∧ (rr = 0 ∨ rr = 1 ∨ rr = 2 ∨ rr = 3) ∧ alR n' acc' g' cap' B1 B2 ∧ μ' 37 12 = nI t ∧ mfr (sI ν 70 27 (nI t)) ν' ∧ (μ 64 5 = ν 70 28 → μ' 64 5 = ν' 70 28) ∧ (∃ (N' S' c' tr' tb' GT' P' M' : Nat) (φ' K' τ' cm' tm' gm' cs' ct' : Nat → Nat), actR g' cap' R has N' S' c' tr' tb' nq GT' P' M' φ' K' τ' cm' tm' gm' cs' ct' μ' ν' ∧ P' ≤ P + 8 ∧ GT' ≤ GT + 29 ∧ S' ≤ S + 128 ∧ M' ≤ M + 301 ∧ c' ≤ c + 1) := by
    intro r w hr hnm h6 q1 q2
    obtain ⟨rr, n', acc', g', cap', μ', ν', u1, u2, u3, u4, u5, u6, u7⟩ := att_s (w := w) ha hap hrup hGT hP htb hM hc hr hS hchp hpp hgg (by rw [mp (g + 2) (by omega), mp9]) (by rw [vp 81 (by decide), vp16]) (by rw [mp 41 (by decide), mp g (by omega)]; exact hnm) (by rw [mp g (by omega)]; exact h6) ⟨mp10, vp17⟩
    refine ⟨rr, n', acc', g', cap', μ', ν', q1 _ u1, q2 _ u2, u3, by omega, u5, ?_, ?_, fun q => u7 (hcol0 q), ?_⟩
    · rw [fr_SE_tryRule u1 (by unfold W_SE_tryRule; omega)]; exact mp12
    · obtain ⟨x1, x2, x3, x4, x5⟩ := hfr0
      have fr : ∀ k, k = 71 ∨ k = 72 ∨ k = 73 ∨ k = 98 → ν' k = νp k := fun k hk => by
        funext j
        exact fr_MO_attempt u2 (by unfold W_MO_attempt; omega)
      refine ⟨(fr 71 (by omega)).trans x1, (fr 72 (by omega)).trans x2, (fr 73 (by omega)).trans x3, (fr 98 (by omega)).trans x4, fun j hj => ?_⟩
      rw [fr_MO_attempt u2 (by unfold W_MO_attempt; omega)]; exact x5 j hj
    · obtain ⟨N', S', c', tr', tb', GT', M', φ', K', τ', cm', tm', gm', cs', ct', w1, w2, w3, w4, w5⟩ := u6
      exact ⟨N', S', c', tr', tb', GT', P + 8, M', φ', K', τ', cm', tm', gm', cs', ct', w1, by omega, w2, w3, w4, w5⟩
  -- the cut
  have hk6 : kd (μ g pp) = 6 → ∃ (rr n' : Nat) (acc' : Nat × Nat) (g' cap' : Nat) (μ' ν' : Mu), f_SE_step n acc g cap μ = some (nI rr, n', acc', g', cap', μ') ∧ f_MO_step ν = mfin ν' ∧ ν' 70 49 = nI rr ∧ (rr = 0 ∨ rr = 1 ∨ rr = 2 ∨ rr = 3) ∧ alR n' acc' g' cap' B1 B2 ∧ μ' 37 12 = nI t ∧ mfr (sI ν 70 27 (nI t)) ν' ∧ (μ 64 5 = ν 70 28 → μ' 64 5 = ν' 70 28) ∧ (∃ (N' S' c' tr' tb' GT' P' M' : Nat) (φ' K' τ' cm' tm' gm' cs' ct' : Nat → Nat), actR g' cap' R has N' S' c' tr' tb' nq GT' P' M' φ' K' τ' cm' tm' gm' cs' ct' μ' ν' ∧ P' ≤ P + 8 ∧ GT' ≤ GT + 29 ∧ S' ≤ S + 128 ∧ M' ≤ M + 301 ∧ c' ≤ c + 1) := by
    intro q6
    have hsaid : μ 37 10 = -1 ∧ ν 70 17 = -1 := by
      rcases hcur.2.2.2 with w | ⟨r, x, d1, d0, d2, d3, d4, d5⟩
      · exact w
      · rw [h9] at d4
        have := (nI_eq (by omega) (by omega)).mp d4
        subst this
        rcases d5 with ⟨i, i1, i2, -⟩ | ⟨w, -⟩
        · rw [i2, kd_wd (by omega) (by omega)] at q6; omega
        · omega
    obtain ⟨x, x1, x2, x3⟩ := e5
    have hgw : ν 80 gg >>> ((11 : Int32) &&& 31) = nI x ∧ k = 6 := by
      rcases x3 with ⟨a, a1, a2, -⟩ | ⟨i, i1, i2, i3, i4, -⟩ | ⟨a1, a2⟩
      · rw [a2, kd_wd (by omega) (by omega)] at q6; omega
      · rw [i4, kd_wd (by omega) (by omega)] at q6; omega
      · refine ⟨?_, ?_⟩
        · rw [a2, pk_shrN (by omega) _ 11 (by decide)]
          congr 1
          omega
        · rcases k3 with ⟨b, b1, b2, -⟩ | ⟨i, i1, i2, i3, i4, -⟩ | ⟨-, b2, -⟩
          · rw [b2, kd_wd (by omega) (by omega)] at q6; omega
          · rw [i4, kd_wd (by omega) (by omega)] at q6; omega
          · exact b2
    have hcx : ∃ c', jmin (nI c) (nI x) = nI c' ∧ c' ≤ c ∧ (if nI c ≤ nI x then some (nI c) else some (nI x)) = some (nI c') := by
      by_cases e : c ≤ x
      · refine ⟨c, ?_, Nat.le_refl _, by rw [if_pos (nI_le e (by omega))]⟩
        unfold jmin
        rw [if_neg (nI_nlt e (by omega))]
      · refine ⟨x, ?_, by omega, by rw [if_neg (nI_ge (by omega) (by omega))]⟩
        unfold jmin
        rw [if_pos (nI_lt (by omega) (by omega))]
    obtain ⟨c', c1, c2, c3⟩ := hcx
    refine ⟨0, n, acc, g, cap, sI μp 58 5 (nI c'), sI νp 70 18 (nI c'), ?_, ?_, vp49, Or.inl rfl, ha, mp12, ?_, ?_, ⟨N, S, c', tr, tb, GT, P, M, φ, K, τ, cm, tm, gm, cs, ct, ?_, by omega, by omega, by omega, by omega, by omega⟩⟩
    · rw [hcl, if_neg (not_not_intro (k_eq 6 q6)), rd_n hpp.1 (by omega), b1_s, x2]
      unfold f_CH_cutTo
      rw [show μp 58 5 = nI c by rw [mp 58 (by decide)]; exact p3, c1, b1_s]
      rfl
    · refine hmo (-1) _ (by rw [hgw.2, if_pos (by decide)]) ?_
      rw [hsaid.2, if_pos (by decide), hgw.2, if_neg (not_not_intro rfl), rd_n (by omega) (by decide), b1_s, hgw.1, n3, c3, b1_s]
    · obtain ⟨y1, y2, y3, y4, y5⟩ := hfr0
      refine ⟨y1, y2, y3, y4, fun j hj => ?_⟩
      rw [sI_nj (by omega)]; exact y5 j hj
    · intro q
      exact hcol0 q
    · exact cut_R hap hgk c2 hR16 (by omega) (fun k hk => sI_nk hk) rfl (fun k hk => sI_nk hk) rfl (fun j hj => sI_nj hj)
  by_cases q6 : kd (μ g pp) = 6
  · exact hk6 q6
  · -- a name
    obtain ⟨w, hnm, hw, hwm⟩ : ∃ w, nmR (μ 41) (μ g pp) w ∧ f_CE_nameOf (μ g pp) μp = some w ∧ f_MO_wordOf k v νp = some w := by
      rcases k3 with ⟨a, a1, a2, a3, a4⟩ | ⟨i, i1, i2, i3, i4, i5, i6⟩ | ⟨a1, -, -⟩
      · refine ⟨μ g pp, Or.inr ⟨by rw [a2, kd_wd (by omega) (by omega)], rfl⟩, ?_, ?_⟩
        · unfold f_CE_nameOf
          rw [if_pos (k_ne 7 (by rw [a2, kd_wd (by omega) (by omega)]; omega))]
        · unfold f_MO_wordOf
          rw [if_pos (by rw [a3]; decide), a4, a2, show (8 : Int32) = nI 8 from rfl, show (2 : Int32) = nI 2 from rfl, pk_mul, nI_add]
      · obtain ⟨a, nm, g1, g2, g3, g4, g5, -⟩ := st_of hR i1 i2
        refine ⟨μ 41 i, Or.inl ⟨i, by omega, i4, rfl⟩, ?_, ?_⟩
        · rw [i4]; exact nm_c (mp 41 (by decide)) (by omega)
        · unfold f_MO_wordOf
          rw [if_neg (not_not_intro i5), i6, vp 78 (by decide), rd_n i3 (by decide), b1_s, g5, g4]
      · rw [a1, kd_wd (by omega) (by omega)] at q6; omega
    have hk6' : ¬ k = 6 := by
      rcases k3 with ⟨a, a1, a2, a3, a4⟩ | ⟨i, i1, i2, i3, i4, i5, i6⟩ | ⟨a1, -, -⟩
      · rw [a3]; decide
      · rw [i5]; decide
      · rw [a1, kd_wd (by omega) (by omega)] at q6; omega
    -- rules have heads below 24
    have hhead : ∀ r, r < R → μ (6 + 2 * r) 0 = w → kd w ≠ 4 ∨ w >>> ((3 : Int32) &&& 31) < 24 := by
      intro r hr hw2
      obtain ⟨L, W, mm, b1, b2, b3, b4, b5, b5', b6, b7, b8, b9, b10, b11, -⟩ := hru.2.2.2 r hr
      rw [b11 0 b1] at hw2
      rw [← hw2]
      exact Or.inr b5'
    -- the reference's name
    obtain ⟨v7, hv7, hv7c⟩ : ∃ v7, (if ¬ k = 3 then some ((-1 : Int32)) else (b1 (rd (ν 78) 240 v) fun v11 => b1 (f_MO_arity v11 νp) fun v14 => if ¬ v14 = 2 then some ((-1 : Int32)) else (b1 (rd (ν 78) 240 v) fun v16 => some ((v16 >>> ((3 : Int32) &&& 31)))))) = some v7 ∧ ((kd w ≠ 4 ∧ v7 = -1) ∨ ∃ i nm, i < N ∧ K i = 2 ∧ nm < 32 ∧ μ g pp = wd i 7 ∧ v = nI (φ i) ∧ μ 41 i = wd nm 4 ∧ w = wd nm 4 ∧ v7 = nI nm) := by
      rcases k3 with ⟨a, a1, a2, a3, a4⟩ | ⟨i, i1, i2, i3, i4, i5, i6⟩ | ⟨a1, -, -⟩
      · refine ⟨-1, by rw [if_pos (by rw [a3]; decide)], Or.inl ⟨?_, rfl⟩⟩
        rcases hnm with ⟨j, j1, j2, -⟩ | ⟨j1, j2⟩
        · have := ((wd_eq (by omega) (by omega) (by omega) (by omega)).mp (a2.symm.trans j2)).2; omega
        · rw [← j2]; omega
      · obtain ⟨a, nm, g1, g2, g3, g4, g5, -⟩ := st_of hR i1 i2
        have hwC : w = wd nm (2 + a) := by
          rcases hnm with ⟨j, j1, j2, j3⟩ | ⟨j1, -⟩
          · have := ((wd_eq (by omega) (by omega) (by omega) (by omega)).mp (i4.symm.trans j2)).1
            subst this
            rw [← j3]; exact g4
          · rw [i4, kd_wd (by omega) (by omega)] at j1; omega
        by_cases ea : a = 2
        · subst ea
          refine ⟨nI nm, ?_, Or.inr ⟨i, nm, i1, i2, g3, i4, i6, g4, hwC, rfl⟩⟩
          rw [if_neg (not_not_intro i5), i6, rd_n i3 (by decide), b1_s, g5, ar_s g3 g1 g2, b1_s, if_neg (not_not_intro (show nI 2 = 2 from rfl)), b1_s, wd_v (by omega) (by omega)]
        · refine ⟨-1, ?_, Or.inl ⟨?_, rfl⟩⟩
          · rw [if_neg (not_not_intro i5), i6, rd_n i3 (by decide), b1_s, g5, ar_s g3 g1 g2, b1_s, if_pos (show ¬ nI a = 2 from fun q => ea ((nI_eq (a := a) (b := 2) (by omega) (by omega)).mp q))]
          · rw [hwC, kd_wd (by omega) (by omega)]; omega
      · rw [a1, kd_wd (by omega) (by omega)] at q6; omega
    -- the rule's part, when the name is no known one
    have hrulepart : (kd w ≠ 4 ∨ w >>> ((3 : Int32) &&& 31) < 24) → (v7 ≤ 23) → ∃ (rr n' : Nat) (acc' : Nat × Nat) (g' cap' : Nat) (μ' ν' : Mu), f_SE_step n acc g cap μ = some (nI rr, n', acc', g', cap', μ') ∧ f_MO_step ν = mfin ν' ∧ ν' 70 49 = nI rr ∧ (rr = 0 ∨ rr = 1 ∨ rr = 2 ∨ rr = 3) ∧ alR n' acc' g' cap' B1 B2 ∧ μ' 37 12 = nI t ∧ mfr (sI ν 70 27 (nI t)) ν' ∧ (μ 64 5 = ν 70 28 → μ' 64 5 = ν' 70 28) ∧ (∃ (N' S' c' tr' tb' GT' P' M' : Nat) (φ' K' τ' cm' tm' gm' cs' ct' : Nat → Nat), actR g' cap' R has N' S' c' tr' tb' nq GT' P' M' φ' K' τ' cm' tm' gm' cs' ct' μ' ν' ∧ P' ≤ P + 8 ∧ GT' ≤ GT + 29 ∧ S' ≤ S + 128 ∧ M' ≤ M + 301 ∧ c' ≤ c + 1) := by
      intro hw4 hv23
      have hcls : ∀ x, (b1 (if ¬ (μ 37 10) = (-1) then some ((μ 37 10)) else (b1 (f_RB_firstFor w 0 μp) fun v14 => some (v14))) fun l9 => if ¬ l9 = (-1) then (b6 (f_SE_tryRule n acc g cap (nI pp) l9 w μp) fun v17 n18 ac19 g20 cp21 μ22 => some (v17, n18, ac19, g20, cp21, μ22)) else some (1, n, acc, g, cap, μp)) = x → f_SE_step n acc g cap μ = x := by
        intro x hx
        rw [hcl, if_pos (k_ne 6 q6), hw, b1_s]
        by_cases e4 : kd w = 4
        · rw [if_neg (not_not_intro (k_eq 4 e4)), if_pos (hw4.resolve_left (fun q => q e4))]; exact hx
        · rw [if_pos (k_ne 4 e4)]; exact hx
      have b6s : ∀ {o : Option (Int32 × Nat × (Nat × Nat) × Nat × Nat × Mu)} {x : Int32 × Nat × (Nat × Nat) × Nat × Nat × Mu}, o = some x → (b6 o fun v17 n18 ac19 g20 cp21 μ22 => some (v17, n18, ac19, g20, cp21, μ22)) = some x := by
        intro o x hx
        rw [hx]
        rfl
      rcases hcur.2.2.2 with ⟨s1, s2⟩ | ⟨r, x, d1, d0, d2, d3, d4, d5⟩
      · rcases ff_f hrup w (i := 0) (by omega) with ⟨f1, f2⟩ | ⟨r, r1, r2, r3, f1, f2⟩
        · refine hfail (hcls _ ?_) (hmo v7 _ hv7 ?_)
          · rw [s1, if_neg (not_not_intro rfl), show f_RB_firstFor w 0 μp = some (-1) from f1, b1_s, b1_s, if_neg (not_not_intro rfl)]
            rfl
          · rw [s2, if_pos (by decide), if_pos hk6', if_pos hv23, hwm, b1_s, show f_MO_ruleFor w 0 νp = some (-1) from f2, b1_s, if_neg (by decide), b1_s, if_pos (by decide)]
        · refine htry r w r1 hnm q6 (fun x hx => hcls _ ?_) (fun ν' hx => hmo v7 ν' hv7 ?_)
          · rw [s1, if_neg (not_not_intro rfl), show f_RB_firstFor w 0 μp = some (nI r) from f1, b1_s, b1_s, if_pos (fun q => n_m1 (x := r) (by omega) q.symm)]
            exact b6s hx
          · rw [s2, if_pos (by decide), if_pos hk6', if_pos hv23, hwm, b1_s, show f_MO_ruleFor w 0 νp = some (nI r) from f2, b1_s, if_pos (nI_pos' (by omega)), b1_s, if_neg (nI_pos (by omega)), sI_same vp49, hx, b1_s]
      · refine htry r w d1 hnm q6 (fun x hx => hcls _ ?_) (fun ν' hx => hmo v7 ν' hv7 ?_)
        · rw [d2, if_pos (fun q => n_m1 (x := r) (by omega) q.symm), b1_s, if_pos (fun q => n_m1 (x := r) (by omega) q.symm)]
          exact b6s hx
        · rw [d3, if_neg (nI_pos (by omega)), hx, b1_s]
    rcases hv7c with ⟨z1, z2⟩ | ⟨i, nm, z1, z2, z3, z4, z5, z6, z7, z8⟩
    · exact hrulepart (Or.inl z1) (by rw [z2]; decide)
    · by_cases e24 : nm < 24
      · refine hrulepart (Or.inr ?_) ?_
        · rw [z7, wd_v (by omega) (by omega)]; exact nI_lt (b := 24) e24 (by decide)
        · rw [z8]; exact nI_le (b := 23) (by omega) (by decide)
      · -- a known name, or an operation
        have hnosaid : μ 37 10 = -1 ∧ ν 70 17 = -1 := by
          rcases hcur.2.2.2 with q | ⟨r, x, d1, d0, d2, d3, d4, d5⟩
          · exact q
          · exfalso
            rw [h9] at d4
            have := (nI_eq (by omega) (by omega)).mp d4
            subst this
            have hww : μ (6 + 2 * r) 0 = w := by
              rcases d5 with ⟨j, j1, j2, j3⟩ | ⟨j1, -⟩
              · have := ((wd_eq (by omega) (by omega) (by omega) (by omega)).mp (z4.symm.trans j2)).1
                subst this
                rw [← j3, z6, z7]
              · rw [z4, kd_wd (by omega) (by omega)] at j1; omega
            rcases hhead r d1 hww with q | q
            · rw [z7, kd_wd (by omega) (by omega)] at q; omega
            · rw [z7, wd_v (by omega) (by omega)] at q
              exact absurd q (nI_nlt (b := 24) (by omega) (by omega))
        have hclm : ∀ {rr : Nat} {μ' : Mu}, f_SE_meet (nI nm) (μ 41 (i + 1)) (μ 41 (i + 2)) μp = some (nI rr, μ') → f_SE_step n acc g cap μ = some (nI rr, n, acc, g, cap, μ') := by
          intro rr μ' hm
          obtain ⟨a, nm', g1, g2, g3, g4, g5, g6, -⟩ := st_of hR z1 z2
          have ee := (wd_eq (by omega) (by omega) (by omega) (by omega)).mp (z6.symm.trans g4)
          rw [hcl, if_pos (k_ne 6 q6), hw, b1_s, z7, if_neg (not_not_intro (show wd nm 4 &&& 7 = 4 from wd_k (by omega) (by omega))), wd_v (by omega) (by omega), if_neg (show ¬ nI nm < 24 from nI_nlt (b := 24) (by omega) (by omega)), z4]
          rw [show f_CE_argument (wd i 7) 1 μp = some (μ 41 (i + 1)) from arg_c (m := 1) (mp 41 (by decide)) (by omega), b1_s, show f_CE_argument (wd i 7) 2 μp = some (μ 41 (i + 2)) from arg_c (m := 2) (mp 41 (by decide)) (by omega), b1_s, hm, b2_s]
        by_cases e28 : nm < 28
        · obtain ⟨rr, μ', ν', u1, u2, u3, u4, u5⟩ := kn_s (i := i) (nm := nm) hap hgk hR16 (by omega) (by omega) (by omega) z1 z2 (by rw [mp 41 (by decide)]; exact z6) ⟨by omega, e28⟩ vp49
          rw [mp 41 (by decide)] at u1
          refine ⟨rr, n, acc, g, cap, μ', ν', hclm u1, hmo v7 ν' hv7 ?_, u3, u4, ha, ?_, ?_, fun q => ?_, ?_⟩
          · rw [hnosaid.2, if_pos (by decide), if_pos hk6', z8, if_neg (show ¬ nI nm ≤ 23 from nI_ge (a := 23) (by omega) (by omega)), if_neg (show ¬ 28 ≤ nI nm from nI_ge (b := 28) (by omega) (by omega)), z5, u2, b1_s]
          · rw [fr_SE_meet u1 (by unfold W_SE_meet; omega)]; exact mp12
          · obtain ⟨x1, x2, x3, x4, x5⟩ := hfr0
            have fr : ∀ k, k = 71 ∨ k = 72 ∨ k = 73 ∨ k = 98 → ν' k = νp k := fun k hk => by
              funext j
              exact fr_MO_known u2 (by unfold W_MO_known; omega)
            refine ⟨(fr 71 (by omega)).trans x1, (fr 72 (by omega)).trans x2, (fr 73 (by omega)).trans x3, (fr 98 (by omega)).trans x4, fun j hj => ?_⟩
            rw [fr_MO_known u2 (by unfold W_MO_known; omega)]; exact x5 j hj
          · rw [fr_SE_meet u1 (by unfold W_SE_meet; omega), fr_MO_known u2 (by unfold W_MO_known; omega)]; exact hcol0 q
          · obtain ⟨tr', tb', M', w1, w2⟩ := u5
            exact ⟨N, S, c, tr', tb', GT, P, M', φ, K, τ, cm, tm, gm, cs, ct, w1, by omega, by omega, by omega, by omega, by omega⟩
        · -- an operation is no goal that can be met
          refine hfail (hclm (rr := 1) ?_) (hmo v7 _ hv7 ?_)
          · unfold f_SE_meet
            have q : ∀ x, x < 28 → ¬ nI nm = nI x := fun x hx q => by have := (nI_eq (by omega) (by omega)).mp q; omega
            rw [if_neg (show ¬ nI nm = 24 from q 24 (by omega)), if_neg (show ¬ nI nm = 25 from q 25 (by omega)), if_neg (show ¬ nI nm = 26 from q 26 (by omega)), if_neg (show ¬ nI nm = 27 from q 27 (by omega))]
            rfl
          · rw [hnosaid.2, if_pos (by decide), if_pos hk6', z8, if_neg (show ¬ nI nm ≤ 23 from nI_ge (a := 23) (by omega) (by omega)), if_pos (show 28 ≤ nI nm from nI_le (a := 28) (by omega) (by omega)), hwm, b1_s]
            rcases ff_f hrup w (i := 0) (by omega) with ⟨f1, f2⟩ | ⟨r, r1, r2, r3, f1, f2⟩
            · rw [show f_MO_ruleFor w 0 νp = some (-1) from f2, b1_s, if_neg (by decide), b1_s, if_pos (by decide)]
            · exfalso
              rw [mp (6 + 2 * r) (by omega)] at r3
              rcases hhead r r1 r3 with q | q
              · rw [z7, kd_wd (by omega) (by omega)] at q; omega
              · rw [z7, wd_v (by omega) (by omega)] at q
                exact absurd q (nI_nlt (b := 24) (by omega) (by omega))
end STP
