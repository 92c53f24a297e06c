section BGC
variable {R : Nat} {has : Nat → Bool} {N S c tr tb nq P M : Nat} {φ K τ cm tm gm cs ct : Nat → Nat}
/-- the place of the next goal -/
theorem at_s {g cap GT : Nat} {μ ν : Mu} (h : actR g cap R has N S c tr tb nq GT P M φ K τ cm tm gm cs ct μ ν) (hc : c ≤ 300) (hGT : GT ≤ 8900) (hcap : cap ≤ 17800) : ∃ v2 at', f_CH_goalsKept μ = some v2 ∧ jmax (μ 37 9 + 1) v2 = nI at' ∧ at' ≤ cap ∧ at' ≤ GT ∧ (∀ x, x < 2 ^ 29 → μ 37 9 = nI x → x < at') ∧ ∀ j, j < c → gm j ≤ at' := by
  obtain ⟨hR, ⟨p1, p2, p3⟩, hn4, htrl, hseg, hdn, hmrk, hrows, hchg, hcur, hque, hseen, hpot, hbnd, hmk, hlow⟩ := h
  have hk : f_CH_goalsKept μ = some (nI (if c = 0 then 0 else gm (c - 1))) := by
    unfold f_CH_goalsKept
    by_cases e : c = 0
    · rw [p3, e, if_neg (not_not_intro (show nI 0 = 0 from rfl)), if_pos rfl]; rfl
    · rw [p3, if_pos (nI_ne0 (by omega) (by omega)), nI_m1 (by omega), rd_n (by omega) (by decide), b1_s, (hrows (c - 1) (by omega)).2.2.1, if_neg e]
  have hkc : (if c = 0 then 0 else gm (c - 1)) ≤ cap ∧ (if c = 0 then 0 else gm (c - 1)) ≤ GT := by
    by_cases e : c = 0
    · rw [if_pos e]; omega
    · rw [if_neg e]; exact ⟨(hchg (c - 1) (by omega)).2.1, (hchg (c - 1) (by omega)).1⟩
  have hjk : ∀ j, j < c → gm j ≤ (if c = 0 then 0 else gm (c - 1)) := by
    intro j hj
    rw [if_neg (by omega)]
    by_cases e : j = c - 1
    · rw [e]; exact Nat.le_refl _
    · exact (hmrk.2 j (c - 1) (by omega) (by omega)).2.2.2
  rcases hcur.2.1 with w | ⟨pp, w1, w2, w3⟩
  · refine ⟨_, if c = 0 then 0 else gm (c - 1), hk, ?_, hkc.1, hkc.2, fun x hx q => ?_, hjk⟩
    · rw [w]
      unfold jmax
      by_cases e : (if c = 0 then 0 else gm (c - 1)) = 0
      · rw [e]; decide
      · rw [if_pos (show (-1 : Int32) + 1 < nI _ from nI_lt (a := 0) (by omega) (by omega))]
    · rw [w] at q; exact absurd q (n_m1 (by omega))
  · refine ⟨_, max (pp + 1) (if c = 0 then 0 else gm (c - 1)), hk, ?_, by omega, by omega, fun x hx q => ?_, fun j hj => by have := hjk j hj; omega⟩
    · rw [w1, nI_1]
      unfold jmax
      by_cases e : pp + 1 < (if c = 0 then 0 else gm (c - 1))
      · rw [if_pos (nI_lt e (by omega))]
        congr 1
        omega
      · rw [if_neg (nI_nlt (by omega) (by omega))]
        congr 1
        omega
    · rw [w1] at q
      have := (nI_eq (by omega) (by omega)).mp q
      omega
theorem bring_a {n g cap GT B1 B2 hc hh : Nat} {acc : Nat × Nat} {μ ν : Mu} (ha : alR n acc g cap B1 B2) (h : actR g cap R has N S c tr tb nq GT P M φ K τ cm tm gm cs ct μ ν) (hR16 : R ≤ 16) (hc3 : c ≤ 300) (hGT : GT + hc ≤ 8900) (hhh : hh ≤ 300) (hc1 : 1 ≤ hc) (hc2 : hc ≤ 30) (h8 : μ 40 8 = nI hc) (h46 : ν 70 46 = nI hc) (h49 : ν 70 49 = 0) (hsd : μ 37 10 = -1 ∧ ν 70 17 = -1) (hhd : ∀ x, x < hc → gtR N φ K (μ 45 x) (ν 96 x) (ν 97 x)) :
    ∃ n' acc' g' cap' μ' ν', f_SE_bringGoals n acc g cap 1 (nI hh) μ = some (n', acc', g', cap', μ') ∧ f_MO_attempt_203 (nI hh) fu (ν 70 46 - 1) ν = some ν' ∧ alR n' acc' g' cap' B1 B2 ∧ actR g' cap' R has N S c tr tb nq (GT + (hc - 1)) P M φ K τ cm tm gm cs ct μ' ν' ∧ (∀ k, (k < 54 ∨ (58 ≤ k ∧ k < 99)) → k ≠ 37 → μ' k = μ k) ∧ (∀ j, j ≠ 9 → μ' 37 j = μ 37 j) ∧ (∀ k, k ≠ 70 → k ≠ 80 → k ≠ 81 → ν' k = ν k) ∧ (∀ j, j ≠ 13 → j ≠ 16 → ν' 70 j = ν 70 j) := by
  obtain ⟨v2, at', e1, e2, e3, e4, e5, e6⟩ := at_s h hc3 (by omega) ha.2.2.2.2.2.1
  obtain ⟨n', acc', g', cap', μ', ν', w1, w2, w3, w4, w5, w6, w7, w8⟩ := br_a (fr := 1) (hh := hh) hR16 hhh rfl hc3 (hc - 1) fu fu at' n g cap GT B1 B2 acc μ ν (by unfold fu; omega) (by unfold fu; omega) (by omega) ha h (by omega) e3 e4 e5 e6 hsd (fun x hx => hhd x (by omega)) h49
  rw [show 1 + (hc - 1) = hc by omega] at w1 w2
  refine ⟨n', acc', g', cap', μ', ν', ?_, by rw [h46]; exact w2, w3, w4, w5, w6, w7, w8⟩
  unfold f_SE_bringGoals
  rw [e1, b1_s, e2, h8, show f_SE_bringGoals_28 1 (nI hh) fu (nI at') (nI hc - 1) n acc g cap μ = _ from w1, b5_s]
theorem bring_b {n g cap GT B1 B2 hc : Nat} {acc : Nat × Nat} {y : Int32} {μ ν : Mu} (ha : alR n acc g cap B1 B2) (h : actR g cap R has N S c tr tb nq GT P M φ K τ cm tm gm cs ct μ ν) (hR16 : R ≤ 16) (hc3 : c ≤ 300) (hGT : GT + hc ≤ 8900) (hc2 : hc ≤ 30) (h8 : μ 40 8 = nI hc) (h46 : ν 70 46 = nI hc) (hsd : μ 37 10 = -1 ∧ ν 70 17 = -1) (hhd : ∀ x, x < hc → gtR N φ K (μ 45 x) (ν 96 x) (ν 97 x)) :
    ∃ n' acc' g' cap' μ' ν', f_SE_bringGoals n acc g cap 0 0 μ = some (n', acc', g', cap', μ') ∧ f_MO_ask_108 y fu (ν 70 46 - 1) ν = some ν' ∧ alR n' acc' g' cap' B1 B2 ∧ actR g' cap' R has N S c tr tb nq (GT + hc) P M φ K τ cm tm gm cs ct μ' ν' ∧ (∀ k, (k < 54 ∨ (58 ≤ k ∧ k < 99)) → k ≠ 37 → μ' k = μ k) ∧ (∀ j, j ≠ 9 → μ' 37 j = μ 37 j) ∧ (∀ k, k ≠ 70 → k ≠ 80 → k ≠ 81 → ν' k = ν k) ∧ (∀ j, j ≠ 13 → j ≠ 16 → ν' 70 j = ν 70 j) := by
  obtain ⟨v2, at', e1, e2, e3, e4, e5, e6⟩ := at_s h hc3 (by omega) ha.2.2.2.2.2.1
  obtain ⟨n', acc', g', cap', μ', ν', w1, w2, w3, w4, w5, w6, w7, w8⟩ := br_b (fr := 0) (hh := 0) (y := y) rfl hR16 (by omega) rfl hc3 hc fu fu at' n g cap GT B1 B2 acc μ ν (by unfold fu; omega) (by unfold fu; omega) (by omega) ha h (by omega) e3 e4 e5 e6 hsd (fun x hx => hhd x (by omega))
  rw [show 0 + hc = hc by omega] at w1 w2
  refine ⟨n', acc', g', cap', μ', ν', ?_, by rw [h46]; exact w2, w3, w4, w5, w6, w7, w8⟩
  unfold f_SE_bringGoals
  rw [e1, b1_s, e2, h8, show f_SE_bringGoals_28 0 0 fu (nI at') (nI hc - 1) n acc g cap μ = _ from w1, b5_s]
end BGC
