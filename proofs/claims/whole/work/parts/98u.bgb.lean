section BGB
variable {R : Nat} {has : Nat → Bool} {N S c tr tb nq P M : Nat} {φ K τ cm tm gm cs ct : Nat → Nat}
/-- where the rows of goals lie, and how much was made -/
def alR (n : Nat) (acc : Nat × Nat) (g cap B1 B2 : Nat) : Prop := gOK g ∧ gPb g = true ∧ 99 ≤ n ∧ g + 3 < n ∧ 0 < cap ∧ cap ≤ 17800 ∧ acc.1 ≤ B1 + cap ∧ acc.2 ≤ B2 + 8 * cap ∧ 60 ≤ cap
theorem set_1 {n g cap B1 B2 GT : Nat} {acc : Nat × Nat} {μ ν : Mu} (ha : alR n acc g cap B1 B2) (h : actR g cap R has N S c tr tb nq GT P M φ K τ cm tm gm cs ct μ ν) (hR16 : R ≤ 16) (hGT : GT + 1 ≤ 8900) {at' hh : Nat} (hat : at' ≤ cap) (hag : at' ≤ GT) (hf : ∀ x, x < 2 ^ 29 → μ 37 9 = nI x → x < at') (hk : ∀ j, j < c → gm j ≤ at') (hhh : hh ≤ 300) {t k v : Int32} (ht : gtR N φ K t k v) (hsd : μ 37 10 = -1 ∧ ν 70 17 = -1) :
    ∃ n' acc' g' cap' μ1 ν1, f_GO_set n acc g cap (nI at') t (nI hh) (μ 37 9) μ = some (n', acc', g', cap', μ1) ∧ f_MO_link k v (nI hh) (ν 70 16) ν = some (nI GT, ν1) ∧ alR n' acc' g' cap' B1 B2 ∧ actR g' cap' R has N S c tr tb nq (GT + 1) P M φ K τ cm tm gm cs ct (sI μ1 37 9 (nI at')) (sI ν1 70 16 (nI GT)) ∧ at' < cap' ∧ (∀ k, k < 54 ∨ (58 ≤ k ∧ k < 99) → μ1 k = μ k) ∧ (∀ k, k ≠ 70 → k ≠ 80 → k ≠ 81 → ν1 k = ν k) ∧ (∀ j, j ≠ 13 → ν1 70 j = ν 70 j) := by
  obtain ⟨a1, a2, a3, a4, a5, a6, a7, a8, a10⟩ := ha
  unfold f_GO_set
  rw [if_pos a2]
  by_cases e : at' < cap
  · obtain ⟨μ1, ν1, u1, u2, u3, u4, u5, u6⟩ := link_0 h a1 hR16 hGT (by omega) e hag hf hk hhh ht hsd
    refine ⟨n, acc, g, cap, μ1, ν1, ?_, u2, ⟨a1, a2, a3, a4, a5, a6, a7, a8, a10⟩, u3, e, fun k hk => u4 k ?_ ?_ ?_, u5, u6⟩
    · rw [if_pos (show nI at' < Int32.ofNat cap from nI_lt (b := cap) e (by omega)), u1, b1_s]
    all_goals (unfold gOK at a1; omega)
  · have hg2 := grow_R (n := n) h a1 a3 a4 hR16 (by omega) (by omega)
    have o37 : gwM n g cap μ 37 = μ 37 := gw_o (by omega)
    obtain ⟨μ1, ν1, u1, u2, u3, u4, u5, u6⟩ := link_0 hg2 (Or.inr a3) hR16 hGT (by omega) (at' := at') (by omega) hag (by rw [o37]; exact hf) hk hhh ht (by rw [o37]; exact hsd)
    refine ⟨n + 1 + 1 + 1 + 1, gwA acc cap, n, 2 * cap, μ1, ν1, ?_, u2, ⟨Or.inr a3, ?_, by omega, by omega, by omega, by omega, ?_, ?_, by omega⟩, u3, by omega, fun k hk => ?_, u5, u6⟩
    · rw [if_neg (show ¬ nI at' < Int32.ofNat cap from nI_nlt (b := cap) (by omega) (by omega)), if_pos ⟨a3, a4, a5, by omega⟩]
      rw [o37] at u1
      rw [u1, b1_s]
    · unfold gPb
      rw [show Nat.ble 99 n = true from Nat.ble_eq_true_of_le a3, Bool.or_true]
    · show acc.1 + 1 + 1 + 1 + 1 ≤ B1 + 2 * cap
      omega
    · show acc.2 + 2 * cap + 2 * cap + 2 * cap + 2 * cap ≤ B2 + 8 * (2 * cap)
      omega
    · rw [u4 k (by omega) (by omega) (by omega)]
      exact gw_o (by omega)
theorem br_a {fr hh : Nat} (hR16 : R ≤ 16) (hhh : hh ≤ 300) (hfr : fr = 1) (hc : c ≤ 300) (d : Nat) : ∀ (f1 f2 at' n g cap GT B1 B2 : Nat) (acc : Nat × Nat) (μ ν : Mu), d < f1 → d < f2 → fr + d ≤ 30 → alR n acc g cap B1 B2 → actR g cap R has N S c tr tb nq GT P M φ K τ cm tm gm cs ct μ ν → GT + d ≤ 8900 → at' ≤ cap → at' ≤ GT → (∀ x, x < 2 ^ 29 → μ 37 9 = nI x → x < at') → (∀ j, j < c → gm j ≤ at') → (μ 37 10 = -1 ∧ ν 70 17 = -1) → (∀ x, x < fr + d → gtR N φ K (μ 45 x) (ν 96 x) (ν 97 x)) → ν 70 49 = 0 →
    ∃ n' acc' g' cap' μ' ν', f_SE_bringGoals_28 (nI fr) (nI hh) f1 (nI at') (nI (fr + d) - 1) n acc g cap μ = some (n', acc', g', cap', μ') ∧ f_MO_attempt_203 (nI hh) f2 (nI (fr + d) - 1) ν = some ν' ∧ alR n' acc' g' cap' B1 B2 ∧ actR g' cap' R has N S c tr tb nq (GT + d) P M φ K τ cm tm gm cs ct μ' ν' ∧ (∀ k, (k < 54 ∨ (58 ≤ k ∧ k < 99)) → k ≠ 37 → μ' k = μ k) ∧ (∀ j, j ≠ 9 → μ' 37 j = μ 37 j) ∧ (∀ k, k ≠ 70 → k ≠ 80 → k ≠ 81 → ν' k = ν k) ∧ (∀ j, j ≠ 13 → j ≠ 16 → ν' 70 j = ν 70 j) := by
  induction d with
  | zero =>
    intro f1 f2 at' n g cap GT B1 B2 acc μ ν h1 h2 h3 ha h h4 h5 h6 h7 h8 h9 h10 h11
    cases f1 with
    | zero => omega
    | succ f1 =>
    cases f2 with
    | zero => omega
    | succ f2 =>
    refine ⟨n, acc, g, cap, μ, ν, ?_, ?_, ha, h, fun _ _ _ => rfl, fun _ _ => rfl, fun _ _ _ _ => rfl, fun _ _ _ => rfl⟩
    · unfold f_SE_bringGoals_28
      rw [if_pos]
      show nI (fr + 0) - nI 1 < nI fr
      rw [Int32.lt_iff_toInt_lt, pk_sub_toInt (by omega) (by omega), nI_toInt (by omega)]
      omega
    · unfold f_MO_attempt_203
      rw [hfr, if_pos (by decide)]
  | succ d ih =>
    intro f1 f2 at' n g cap GT B1 B2 acc μ ν h1 h2 h3 ha h h4 h5 h6 h7 h8 h9 h10 h11
    cases f1 with
    | zero => omega
    | succ f1 =>
    cases f2 with
    | zero => omega
    | succ f2 =>
    obtain ⟨n1, acc1, g1, cap1, μ1, ν1, u1, u2, u3, u4, u5, u6, u7, u8⟩ := set_1 ha h hR16 (by omega) h5 h6 h7 h8 hhh (h10 (fr + d) (by omega)) h9
    obtain ⟨n', acc', g', cap', μ', ν', w1, w2, w3, w4, w5, w6, w7, w8⟩ := ih f1 f2 (at' + 1) n1 g1 cap1 (GT + 1) B1 B2 acc1 (sI μ1 37 9 (nI at')) (sI ν1 70 16 (nI GT)) (by omega) (by omega) (by omega) u3 u4 (by omega) (by omega) (by omega) (fun x hx q => by
      have q' : nI at' = nI x := q
      have := (nI_eq (by have := u3.2.2.2.2.2.1; omega) (by omega)).mp q'
      omega) (fun j hj => by have := h8 j hj; omega) (by
      refine ⟨?_, ?_⟩
      · show μ1 37 10 = -1
        rw [u6 37 (by omega)]; exact h9.1
      · show ν1 70 17 = -1
        rw [u8 17 (by decide)]; exact h9.2) (fun x hx => by
      show gtR N φ K (μ1 45 x) (ν1 96 x) (ν1 97 x)
      rw [u6 45 (by omega), u7 96 (by decide) (by decide) (by decide), u7 97 (by decide) (by decide) (by decide)]
      exact h10 x (by omega)) (by show ν1 70 49 = 0; rw [u8 49 (by decide)]; exact h11)
    refine ⟨n', acc', g', cap', μ', ν', ?_, ?_, w3, by rw [show GT + (d + 1) = GT + 1 + d by omega]; exact w4, fun k a b => ?_, fun j hj => ?_, fun k a b e => ?_, fun j a b => ?_⟩
    · unfold f_SE_bringGoals_28
      rw [show fr + (d + 1) = (fr + d) + 1 by omega, nI_pred, if_neg (nI_nlt (by omega) (by omega)), rd_n (by omega) (by decide), b1_s, u1, b5_s, nI_1, i_m1]
      exact w1
    · unfold f_MO_attempt_203
      rw [show fr + (d + 1) = (fr + d) + 1 by omega, nI_pred, if_neg (nI_nle (by omega) (by omega)), if_neg (not_not_intro h11), rd_n (by omega) (by decide), b1_s, rd_n (by omega) (by decide), b1_s, u2, b2_s, i_m1]
      exact w2
    · rw [w5 k a b, sI_nk b, u6 k a]
    · rw [w6 j hj, sI_nj hj, u6 37 (by omega)]
    · rw [w7 k a b e, sI_nk a, u7 k a b e]
    · rw [w8 j a b, sI_nj b, u8 j a]
theorem br_b {fr hh : Nat} {y : Int32} (hh0 : hh = 0) (hR16 : R ≤ 16) (hhh : hh ≤ 300) (hfr : fr = 0) (hc : c ≤ 300) (d : Nat) : ∀ (f1 f2 at' n g cap GT B1 B2 : Nat) (acc : Nat × Nat) (μ ν : Mu), d < f1 → d < f2 → fr + d ≤ 30 → alR n acc g cap B1 B2 → actR g cap R has N S c tr tb nq GT P M φ K τ cm tm gm cs ct μ ν → GT + d ≤ 8900 → at' ≤ cap → at' ≤ GT → (∀ x, x < 2 ^ 29 → μ 37 9 = nI x → x < at') → (∀ j, j < c → gm j ≤ at') → (μ 37 10 = -1 ∧ ν 70 17 = -1) → (∀ x, x < fr + d → gtR N φ K (μ 45 x) (ν 96 x) (ν 97 x)) →
    ∃ n' acc' g' cap' μ' ν', f_SE_bringGoals_28 (nI fr) (nI hh) f1 (nI at') (nI (fr + d) - 1) n acc g cap μ = some (n', acc', g', cap', μ') ∧ f_MO_ask_108 y f2 (nI (fr + d) - 1) ν = some ν' ∧ alR n' acc' g' cap' B1 B2 ∧ actR g' cap' R has N S c tr tb nq (GT + d) P M φ K τ cm tm gm cs ct μ' ν' ∧ (∀ k, (k < 54 ∨ (58 ≤ k ∧ k < 99)) → k ≠ 37 → μ' k = μ k) ∧ (∀ j, j ≠ 9 → μ' 37 j = μ 37 j) ∧ (∀ k, k ≠ 70 → k ≠ 80 → k ≠ 81 → ν' k = ν k) ∧ (∀ j, j ≠ 13 → j ≠ 16 → ν' 70 j = ν 70 j) := by
  induction d with
  | zero =>
    intro f1 f2 at' n g cap GT B1 B2 acc μ ν h1 h2 h3 ha h h4 h5 h6 h7 h8 h9 h10
    cases f1 with
    | zero => omega
    | succ f1 =>
    cases f2 with
    | zero => omega
    | succ f2 =>
    refine ⟨n, acc, g, cap, μ, ν, ?_, ?_, ha, h, fun _ _ _ => rfl, fun _ _ => rfl, fun _ _ _ _ => rfl, fun _ _ _ => rfl⟩
    · unfold f_SE_bringGoals_28
      rw [if_pos]
      show nI (fr + 0) - nI 1 < nI fr
      rw [Int32.lt_iff_toInt_lt, pk_sub_toInt (by omega) (by omega), nI_toInt (by omega)]
      omega
    · unfold f_MO_ask_108
      rw [hfr, if_pos (by decide)]
  | succ d ih =>
    intro f1 f2 at' n g cap GT B1 B2 acc μ ν h1 h2 h3 ha h h4 h5 h6 h7 h8 h9 h10
    cases f1 with
    | zero => omega
    | succ f1 =>
    cases f2 with
    | zero => omega
    | succ f2 =>
    obtain ⟨n1, acc1, g1, cap1, μ1, ν1, u1, u2, u3, u4, u5, u6, u7, u8⟩ := set_1 ha h hR16 (by omega) h5 h6 h7 h8 hhh (h10 (fr + d) (by omega)) h9
    obtain ⟨n', acc', g', cap', μ', ν', w1, w2, w3, w4, w5, w6, w7, w8⟩ := ih f1 f2 (at' + 1) n1 g1 cap1 (GT + 1) B1 B2 acc1 (sI μ1 37 9 (nI at')) (sI ν1 70 16 (nI GT)) (by omega) (by omega) (by omega) u3 u4 (by omega) (by omega) (by omega) (fun x hx q => by
      have q' : nI at' = nI x := q
      have := (nI_eq (by have := u3.2.2.2.2.2.1; omega) (by omega)).mp q'
      omega) (fun j hj => by have := h8 j hj; omega) (by
      refine ⟨?_, ?_⟩
      · show μ1 37 10 = -1
        rw [u6 37 (by omega)]; exact h9.1
      · show ν1 70 17 = -1
        rw [u8 17 (by decide)]; exact h9.2) (fun x hx => by
      show gtR N φ K (μ1 45 x) (ν1 96 x) (ν1 97 x)
      rw [u6 45 (by omega), u7 96 (by decide) (by decide) (by decide), u7 97 (by decide) (by decide) (by decide)]
      exact h10 x (by omega))
    refine ⟨n', acc', g', cap', μ', ν', ?_, ?_, w3, by rw [show GT + (d + 1) = GT + 1 + d by omega]; exact w4, fun k a b => ?_, fun j hj => ?_, fun k a b e => ?_, fun j a b => ?_⟩
    · unfold f_SE_bringGoals_28
      rw [show fr + (d + 1) = (fr + d) + 1 by omega, nI_pred, if_neg (nI_nlt (by omega) (by omega)), rd_n (by omega) (by decide), b1_s, u1, b5_s, nI_1, i_m1]
      exact w1
    · unfold f_MO_ask_108
      rw [show fr + (d + 1) = (fr + d) + 1 by omega, nI_pred, if_neg (nI_pos (by omega)), rd_n (by omega) (by decide), b1_s, rd_n (by omega) (by decide), b1_s]
      rw [hh0] at u2
      rw [show f_MO_link (ν 96 (fr + d)) (ν 97 (fr + d)) 0 (ν 70 16) ν = some (nI GT, ν1) from u2, b2_s, i_m1]
      exact w2
    · rw [w5 k a b, sI_nk b, u6 k a]
    · rw [w6 j hj, sI_nj hj, u6 37 (by omega)]
    · rw [w7 k a b e, sI_nk a, u7 k a b e]
    · rw [w8 j a b, sI_nj b, u8 j a]
end BGB
