/-! does a variable occur in a term: the reference's way -/
section OCA
variable {C U T KK V NM A : Nat → Int32} {N S : Nat} {φ K τ : Nat → Nat}
theorem num_inj {t u : Int32} (h1 : kd t = 1) (h2 : kd u = 1) (h3 : t >>> ((3 : Int32) &&& 31) = u >>> ((3 : Int32) &&& 31)) : t = u := by
  apply i32_ext
  intro i hi
  by_cases e : i < 3
  · have f1 := kd_e t
    have f2 := kd_e u
    rw [h1] at f1
    rw [h2] at f2
    have f3 : t &&& 7 = u &&& 7 := f1.trans f2.symm
    have f4 : ((t.toBitVec &&& 7#32).getLsbD i) = ((u.toBitVec &&& 7#32).getLsbD i) := congrArg (fun x => x.toBitVec.getLsbD i) f3
    rw [BitVec.getLsbD_and, BitVec.getLsbD_and] at f4
    have f5 : (7#32).getLsbD i = true := by
      rcases (show i = 0 ∨ i = 1 ∨ i = 2 by omega) with q | q | q <;> subst q <;> decide
    rw [f5, Bool.and_true, Bool.and_true] at f4
    exact f4
  · have f := congrArg (fun x => x.toBitVec.getLsbD (i - 3)) h3
    have f' : (t >>> ((3 : Int32) &&& 31)).toBitVec.getLsbD (i - 3) = (u >>> ((3 : Int32) &&& 31)).toBitVec.getLsbD (i - 3) := f
    rw [shr_b _ _ (by omega), shr_b _ _ (by omega), if_pos (by omega), show i - 3 + 3 = i by omega] at f'
    exact f'
theorem tmR_inj (hR : cellsR C U T KK V NM A N S φ K τ) {t u k v : Int32} (h1 : tmR N φ K t k v) (h2 : tmR N φ K u k v) : t = u := by
  have hN := hR.1
  have key : ∀ {i j : Nat}, i < N → j < N → nI (φ i) = nI (φ j) → i = j := by
    intro i j hi hj q
    obtain ⟨a1, -⟩ := hR.2.2.1 i hi
    obtain ⟨b1, -⟩ := hR.2.2.1 j hj
    exact phi_inj hR hi hj ((nI_eq (by omega) (by omega)).mp q)
  rcases tmR_kd h1 hN with ⟨a1, a2, i, a3, a4, a5, a6⟩ | ⟨a1, a2, a3⟩ | ⟨a1, a2, a, a3, a4, a5⟩ | ⟨a1, a2, i, a3, a4, a5, a6⟩ <;>
  rcases tmR_kd h2 hN with ⟨b1, b2, j, b3, b4, b5, b6⟩ | ⟨b1, b2, b3⟩ | ⟨b1, b2, b, b3, b4, b5⟩ | ⟨b1, b2, j, b3, b4, b5, b6⟩ <;>
  first
  | (rw [a2] at b2; exact absurd b2 (by decide))
  | skip
  · rw [a5, b5, key a3 b3 (a6.symm.trans b6)]
  · exact num_inj a1 b1 (a3.symm.trans b3)
  · rw [a4, b4, (nI_eq (by omega) (by omega)).mp (a5.symm.trans b5)]
  · rw [a5, b5, key a3 b3 (a6.symm.trans b6)]
theorem tmR_fun (hR : cellsR C U T KK V NM A N S φ K τ) {t k v k' v' : Int32} (h1 : tmR N φ K t k v) (h2 : tmR N φ K t k' v') : k = k' ∧ v = v' := by
  have hN := hR.1
  rcases tmR_kd h1 hN with ⟨a1, a2, i, a3, a4, a5, a6⟩ | ⟨a1, a2, a3⟩ | ⟨a1, a2, a, a3, a4, a5⟩ | ⟨a1, a2, i, a3, a4, a5, a6⟩ <;>
  rcases tmR_kd h2 hN with ⟨b1, b2, j, b3, b4, b5, b6⟩ | ⟨b1, b2, b3⟩ | ⟨b1, b2, b, b3, b4, b5⟩ | ⟨b1, b2, j, b3, b4, b5, b6⟩ <;>
  first
  | (exfalso; omega)
  | skip
  · have e := ((wd_eq (by omega) (by omega) (by omega) (by omega)).mp (a5.symm.trans b5)).1
    rw [a2, b2, a6, b6, e]; exact ⟨rfl, rfl⟩
  · rw [a2, b2, a3, b3]; exact ⟨rfl, rfl⟩
  · have e := ((wd_eq (by omega) (by omega) (by omega) (by omega)).mp (a4.symm.trans b4)).1
    rw [a2, b2, a5, b5, e]; exact ⟨rfl, rfl⟩
  · have e := ((wd_eq (by omega) (by omega) (by omega) (by omega)).mp (a5.symm.trans b5)).1
    rw [a2, b2, a6, b6, e]; exact ⟨rfl, rfl⟩
theorem fo_step (hR : cellsR C U T KK V NM A N S φ K τ) {i : Nat} {μ : Mu} (hμ : μ 41 = C) (hi : i < N) (hK : K i = 1) (hb : C i ≠ wd i 0) : f_CE_follow (wd i 0) μ = f_CE_follow (C i) μ := by
  have hN := hR.1
  have hR0 := hR
  obtain ⟨-, hS, hφ, hτ, hu, hc⟩ := hR
  rcases hc i hi with ⟨-, ⟨u1, u2⟩ | ⟨u1, u2, u3⟩⟩ | ⟨q1, -⟩ | ⟨q1, -⟩
  · exact absurd u1 hb
  · obtain ⟨t', k', v', g1, g2, g3, g4⟩ := deref hR0 i (C i) _ _ u2 (fun j hj e => u3 j hj e)
    unfold f_CE_follow
    rw [show f_CE_follow_4 fu (C i) 0 μ = some t' from g3 μ 0 fu hμ (by omega) (by unfold fu; omega)]
    rw [show fu = 99999 + 1 from rfl, f_CE_follow_4, if_neg (by decide), if_neg (not_not_intro (show wd i 0 &&& 7 = 0 from wd_k (by omega) (by omega))), wd_v (by omega) (by omega), rd_n (by omega) (by decide), b1_s, hμ, if_pos hb]
    exact g3 μ 1 99999 hμ (by omega) (by omega)
  · omega
  · omega
theorem fo_free {i : Nat} {μ : Mu} (hμ : μ 41 = C) (hi : i < 240) (hb : C i = wd i 0) : f_CE_follow (wd i 0) μ = some (wd i 0) := by
  unfold f_CE_follow
  rw [show fu = 99999 + 1 from rfl, f_CE_follow_4, if_neg (by decide), if_neg (not_not_intro (show wd i 0 &&& 7 = 0 from wd_k (by omega) (by omega))), wd_v (by omega) (by omega), rd_n (by omega) (by decide), b1_s, hμ, if_neg (not_not_intro hb)]
theorem fo_non {t : Int32} {μ : Mu} (h : kd t ≠ 0) : f_CE_follow t μ = some t := by
  unfold f_CE_follow
  rw [show fu = 99999 + 1 from rfl, f_CE_follow_4, if_neg (by decide), if_pos (k_ne 0 h)]
/-- names are at most half of the cells -/
theorem names_h (hR : cellsR C U T KK V NM A N S φ K τ) : 2 * cnt (fun i => decide (K i = 2)) N ≤ N := by
  have hnx : ∀ i, i < N → K i = 2 → i + 1 < N ∧ K (i + 1) = 3 := by
    intro i hi hK
    obtain ⟨a, nm, g1, g2, g3, g4, g5, g6, g7, g8⟩ := st_of hR hi hK
    exact ⟨by omega, (g8 0 (by omega)).2.2.1⟩
  have key : ∀ n, n ≤ N → 2 * cnt (fun i => decide (K i = 2)) n ≤ n + 1 ∧ ((∀ m, n = m + 1 → K m ≠ 2) → 2 * cnt (fun i => decide (K i = 2)) n ≤ n) := by
    intro n
    induction n with
    | zero => intro _; exact ⟨by unfold cnt; omega, fun _ => by unfold cnt; omega⟩
    | succ n ih =>
      intro hn
      obtain ⟨i1, i2⟩ := ih (by omega)
      unfold cnt
      by_cases e : K n = 2
      · have i3 := i2 (fun m hm q => by
          obtain ⟨j1, j2⟩ := hnx m (by omega) q
          rw [← hm] at j2
          omega)
        rw [if_pos (decide_eq_true e)]
        exact ⟨by omega, fun q => absurd e (q n rfl)⟩
      · rw [if_neg (by rw [decide_eq_false e]; decide)]
        exact ⟨by omega, fun _ => by omega⟩
  refine (key N (Nat.le_refl _)).2 (fun m hm q => ?_)
  obtain ⟨j1, -⟩ := hnx m (by omega) q
  omega
end OCA
