/-! a collection: the needless trail -/
section DRA
theorem cnt_dn {p : Nat → Bool} (n : Nat) (h : ∀ i j, i < j → j < n → p j = true → p i = true) : ∀ j, j < n → (p j = true ↔ j < cnt p n) := by
  induction n with
  | zero => intro j hj; omega
  | succ n ih =>
    intro j hj
    have ih' := ih (fun i k h1 h2 => h i k h1 (by omega))
    rw [cnt_s]
    have hle := cnt_le p n
    by_cases e : p n = true
    · have hall : cnt p n = n := cnt_all n (fun i hi => h i n hi (by omega) e)
      rw [if_pos e, hall]
      refine ⟨fun _ => hj, fun _ => ?_⟩
      by_cases ej : j = n
      · rw [ej]; exact e
      · exact h j n (by omega) (by omega) e
    · rw [if_neg e, Nat.add_zero]
      by_cases ej : j = n
      · subst ej
        exact ⟨fun q => absurd q e, fun q => by omega⟩
      · exact ih' j (by omega)
variable {c tr : Nat} {cm tm : Nat → Nat} {TR : Nat → Int32}
/-- how many choices are older than place x of the trail -/
def psd (c : Nat) (tm : Nat → Nat) (x : Nat) : Nat := cnt (fun j => decide (tm j ≤ x)) c
theorem psd_t (hm : ∀ j k, j < k → k < c → tm j ≤ tm k) {j x : Nat} (hj : j < c) : tm j ≤ x ↔ j < psd c tm x := by
  have := cnt_dn (p := fun j => decide (tm j ≤ x)) c (fun i k h1 h2 h3 => decide_eq_true (by have := of_decide_eq_true h3; have := hm i k h1 h2; omega)) j hj
  exact ⟨fun q => this.mp (decide_eq_true q), fun q => of_decide_eq_true (this.mpr q)⟩
theorem psd_le {x : Nat} : psd c tm x ≤ c := cnt_le _ _
/-- the entry is kept -/
noncomputable def kpt (c : Nat) (cm tm : Nat → Nat) (TR : Nat → Int32) (x : Nat) : Bool := clB (0 < psd c tm x ∧ ∃ i, i < 240 ∧ TR x = wd i 0 ∧ i < cm (psd c tm x - 1))
noncomputable def kst (c : Nat) (cm tm : Nat → Nat) (TR : Nat → Int32) (x : Nat) : Nat := cnt (kpt c cm tm TR) x
/-- the marks that the place passes -/
theorem d17 {kk : Int32} {i : Nat} (hi : i < 2 ^ 29) (htm : ∀ j, j < c → tm j < 2 ^ 29) (hc : c ≤ 300) (d : Nat) : ∀ (fl p : Nat) (μ : Mu), p + d = c → d < fl → μ 58 5 = nI c → (∀ j, p ≤ j → j < c → μ 62 j = nI (tm j)) →
    ∃ p' μ', f_CO_dropNeedlessTrail_17 kk (nI i) fl (nI p) μ = some (nI p', μ') ∧ p ≤ p' ∧ p' ≤ c ∧ (∀ j, p ≤ j → j < p' → tm j ≤ i ∧ μ' 62 j = kk) ∧ (p' < c → i < tm p') ∧ (∀ j, j < p → μ' 62 j = μ 62 j) ∧ (∀ j, p' ≤ j → j < c → μ' 62 j = nI (tm j)) ∧ (∀ k, k ≠ 62 → μ' k = μ k) := by
  induction d with
  | zero =>
    intro fl p μ h1 h2 h3 h4
    cases fl with
    | zero => omega
    | succ fl =>
    refine ⟨p, μ, ?_, Nat.le_refl _, by omega, fun j q1 q2 => by omega, fun q => by omega, fun _ _ => rfl, h4, fun _ _ => rfl⟩
    unfold f_CO_dropNeedlessTrail_17
    rw [h3, if_pos (nI_le (by omega) (by omega))]
  | succ d ih =>
    intro fl p μ h1 h2 h3 h4
    cases fl with
    | zero => omega
    | succ fl =>
    have hp := htm p (by omega)
    have hr := h4 p (Nat.le_refl _) (by omega)
    by_cases e : i < tm p
    · refine ⟨p, μ, ?_, Nat.le_refl _, by omega, fun j q1 q2 => by omega, fun _ => e, fun _ _ => rfl, h4, fun _ _ => rfl⟩
      unfold f_CO_dropNeedlessTrail_17
      rw [h3, if_neg (nI_ge (by omega) (by omega)), rd_n (by omega) (by decide), b1_s, hr, if_pos (nI_lt e (by omega))]
    · obtain ⟨p', μ', u1, u2, u3, u4, u5, u6, u7, u8⟩ := ih fl (p + 1) (sI μ 62 p kk) (by omega) (by omega) h3 (fun j q1 q2 => by rw [sI_nj (by omega)]; exact h4 j (by omega) q2)
      refine ⟨p', μ', ?_, by omega, u3, fun j q1 q2 => ?_, u5, fun j q => ?_, u7, fun k hk => by rw [u8 k hk, sI_nk hk]⟩
      · unfold f_CO_dropNeedlessTrail_17
        rw [h3, if_neg (nI_ge (by omega) (by omega)), rd_n (by omega) (by decide), b1_s, hr, if_neg (nI_nlt (by omega) (by omega)), wr_n (by omega) (by decide), b1_s, nI_1]
        exact u1
      · by_cases ej : j = p
        · subst ej
          exact ⟨by omega, by rw [u6 j (by omega), sI_at]⟩
        · exact u4 j (by omega) q2
      · rw [u6 j (by omega), sI_nj (by omega)]
theorem d6 (hm : ∀ j k, j < k → k < c → tm j ≤ tm k) (htm : ∀ j, j < c → tm j ≤ tr) (hcm : ∀ j, j < c → cm j ≤ 240) (hc : c ≤ 300) (htr : tr ≤ 240) (hTR : ∀ x, x < tr → ∃ i, i < 240 ∧ TR x = wd i 0) (d : Nat) : ∀ (fl i p : Nat) (μ : Mu), i + d = tr + 1 → d < fl → μ 58 5 = nI c → μ 40 3 = nI tr → (∀ j, j < c → μ 61 j = nI (cm j)) → p ≤ c → (∀ j, j < c → (j < p ↔ tm j < i)) → (∀ j, j < p → μ 62 j = nI (kst c cm tm TR (tm j))) → (∀ j, p ≤ j → j < c → μ 62 j = nI (tm j)) → (∀ x, x < i → x < tr → kpt c cm tm TR x = true → μ 42 (kst c cm tm TR x) = TR x) → (∀ x, i ≤ x → x < tr → μ 42 x = TR x) →
    ∃ μ', f_CO_dropNeedlessTrail_6 fl (nI (kst c cm tm TR (if i ≤ tr then i else tr))) (nI p) (nI i) μ = some (nI (kst c cm tm TR tr), μ') ∧ (∀ j, j < c → μ' 62 j = nI (kst c cm tm TR (tm j))) ∧ (∀ x, x < tr → kpt c cm tm TR x = true → μ' 42 (kst c cm tm TR x) = TR x) ∧ ∀ k, k ≠ 62 → k ≠ 42 → μ' k = μ k := by
  induction d with
  | zero =>
    intro fl i p μ h1 h2 h3 h4 h5 h6 h7 h8 h9 h10 h11
    cases fl with
    | zero => omega
    | succ fl =>
    have hi : i = tr + 1 := by omega
    subst hi
    refine ⟨μ, ?_, fun j hj => h8 j ((h7 j hj).mpr (by have := htm j hj; omega)), fun x hx q => h10 x (by omega) hx q, fun _ _ _ => rfl⟩
    unfold f_CO_dropNeedlessTrail_6
    rw [h4, if_pos (nI_lt (by omega) (by omega)), if_neg (by omega)]
  | succ d ih =>
    intro fl i p μ h1 h2 h3 h4 h5 h6 h7 h8 h9 h10 h11
    cases fl with
    | zero => omega
    | succ fl =>
    have hi : i ≤ tr := by omega
    rw [if_pos hi]
    obtain ⟨p', μ1, u1, u2, u3, u4, u5, u6, u7, u8⟩ := d17 (c := c) (tm := tm) (kk := nI (kst c cm tm TR i)) (i := i) (by omega) (fun j hj => by have := htm j hj; omega) hc (c - p) fu p μ (by omega) (by unfold fu; omega) h3 h9
    -- the choices passed now
    have hp' : ∀ j, j < c → (j < p' ↔ tm j ≤ i) := by
      intro j hj
      constructor
      · intro q
        by_cases e : j < p
        · have := (h7 j hj).mp e; omega
        · exact (u4 j (by omega) q).1
      · intro q
        apply Classical.byContradiction
        intro w
        have := u5 (by omega)
        by_cases e : j = p'
        · subst e; omega
        · have := hm p' j (by omega) hj
          omega
    have hps : psd c tm i = p' := by
      have h1 := fun j (hj : j < c) => (psd_t (x := i) hm hj).symm.trans (hp' j hj).symm
      have h2 : psd c tm i ≤ c := psd_le
      rcases Nat.lt_trichotomy (psd c tm i) p' with q | q | q
      · have := (h1 (psd c tm i) (by omega)).mpr q; omega
      · exact q
      · have := (h1 p' (by omega)).mp q; omega
    have h62 : ∀ j, j < p' → μ1 62 j = nI (kst c cm tm TR (tm j)) := by
      intro j hj
      by_cases e : j < p
      · rw [u6 j e]; exact h8 j e
      · obtain ⟨q1, q2⟩ := u4 j (by omega) hj
        have : tm j = i := by
          have : ¬ tm j < i := fun q => e ((h7 j (by omega)).mpr q)
          omega
        rw [q2, this]
    have h42 : μ1 42 = μ 42 := u8 42 (by decide)
    have h61 : μ1 61 = μ 61 := u8 61 (by decide)
    have h40 : μ1 40 3 = nI tr := by rw [u8 40 (by decide)]; exact h4
    have hkle : kst c cm tm TR i ≤ i := cnt_le _ _
    have key : ∀ (l : Int32) (μ2 : Mu), (if (μ1 40 3) ≤ nI i then some (nI (kst c cm tm TR i), μ1) else (if nI p' ≤ 0 then some (nI (kst c cm tm TR i), μ1) else b1 (rd (μ1 42) 240 (nI i)) fun v20 => b1 (rd (μ1 61) 300 (nI p' - 1)) fun v22 => if v22 ≤ (v20 >>> ((3 : Int32) &&& 31)) then some (nI (kst c cm tm TR i), μ1) else b1 (rd (μ1 42) 240 (nI i)) fun v25 => b1 (wr μ1 42 240 (nI (kst c cm tm TR i)) v25) fun μ27 => some ((nI (kst c cm tm TR i) + 1), μ27))) = some (l, μ2) → f_CO_dropNeedlessTrail_6 (fl + 1) (nI (kst c cm tm TR i)) (nI p) (nI i) μ = f_CO_dropNeedlessTrail_6 fl l (nI p') (nI (i + 1)) μ2 := by
      intro l μ2 h
      rw [f_CO_dropNeedlessTrail_6]
      rw [h4, if_neg (nI_nlt (by omega) (by omega)), u1, b2_s, h, b2_s, nI_1]
    by_cases ei : i = tr
    · -- behind the last entry
      have hk := key _ _ (by rw [h40, if_pos (nI_le (by omega) (by omega))])
      obtain ⟨μ', v1, v2, v3, v4⟩ := ih fl (i + 1) p' μ1 (by omega) (by omega) (by rw [u8 58 (by decide)]; exact h3) h40 (fun j hj => by rw [h61]; exact h5 j hj) u3 (fun j hj => by rw [hp' j hj]; omega) h62 u7 (fun x hx hx2 q => by rw [h42]; exact h10 x (by omega) hx2 q) (fun x q1 q2 => by omega)
      refine ⟨μ', ?_, v2, v3, fun k a b => by rw [v4 k a b, u8 k a]⟩
      rw [hk]
      rw [if_neg (by omega)] at v1
      rw [ei]
      rw [ei] at v1
      exact v1
    · obtain ⟨x, x1, x2⟩ := hTR i (by omega)
      have hrow : μ1 42 i = wd x 0 := by rw [h42, h11 i (Nat.le_refl _) (by omega)]; exact x2
      by_cases hkp : kpt c cm tm TR i = true
      · obtain ⟨q1, y, q2, q3, q4⟩ := clB_t.mp hkp
        have exy := ((wd_eq (by omega) (by omega) (by omega) (by omega)).mp (x2.symm.trans q3)).1
        subst exy
        rw [hps] at q1 q4
        have hcmp := hcm (p' - 1) (by omega)
        have hks : kst c cm tm TR (i + 1) = kst c cm tm TR i + 1 := by
          unfold kst; rw [cnt_s, hkp]; rfl
        have hk := key (nI (kst c cm tm TR i) + 1) (sI μ1 42 (kst c cm tm TR i) (wd x 0)) (by
          rw [h40, if_neg (nI_ge (by omega) (by omega)), if_neg (nI_nle q1 (by omega)), rd_n (by omega) (by decide), b1_s, nI_m1 q1, rd_n (by omega) (by decide), b1_s, hrow, h61, h5 (p' - 1) (by omega), wd_v (by omega) (by omega), if_neg (nI_ge q4 (by omega)), b1_s, wr_n (by omega) (by decide), b1_s])
        obtain ⟨μ', v1, v2, v3, v4⟩ := ih fl (i + 1) p' (sI μ1 42 (kst c cm tm TR i) (wd x 0)) (by omega) (by omega) (by show μ1 58 5 = _; rw [u8 58 (by decide)]; exact h3) h40 (fun j hj => by show μ1 61 j = _; rw [h61]; exact h5 j hj) u3 (fun j hj => by rw [hp' j hj]; omega) h62 u7 (fun z hz hz2 q => by
          by_cases ez : z = i
          · subst ez; rw [sI_at]; exact x2.symm
          · have hlt : kst c cm tm TR z < kst c cm tm TR i := by
              have e1 : kst c cm tm TR (z + 1) = kst c cm tm TR z + 1 := by unfold kst; rw [cnt_s, q]; rfl
              have e2 : kst c cm tm TR (z + 1) ≤ kst c cm tm TR i := cnt_n i (by omega)
              omega
            rw [sI_nj (by omega), h42]
            exact h10 z (by omega) hz2 q) (fun z q1 q2 => by rw [sI_nj (by omega), h42]; exact h11 z (by omega) q2)
        refine ⟨μ', ?_, v2, v3, fun k a b => by rw [v4 k a b, sI_nk b, u8 k a]⟩
        rw [hk, nI_1, ← hks]
        rw [if_pos (by omega)] at v1
        exact v1
      · have hks : kst c cm tm TR (i + 1) = kst c cm tm TR i := by
          unfold kst; rw [cnt_s, if_neg hkp, Nat.add_zero]
        have hk := key (nI (kst c cm tm TR i)) μ1 (by
          rw [h40, if_neg (nI_ge (by omega) (by omega))]
          by_cases e0 : p' = 0
          · rw [e0, if_pos (by decide)]
          · have hcmp := hcm (p' - 1) (by omega)
            have hge : cm (p' - 1) ≤ x := by
              apply Classical.byContradiction
              intro w
              exact hkp (clB_t.mpr ⟨by omega, x, x1, x2, by rw [hps]; omega⟩)
            rw [if_neg (nI_nle (by omega) (by omega)), rd_n (by omega) (by decide), b1_s, nI_m1 (by omega), rd_n (by omega) (by decide), b1_s, hrow, h61, h5 (p' - 1) (by omega), wd_v (by omega) (by omega), if_pos (nI_le hge (by omega))])
        obtain ⟨μ', v1, v2, v3, v4⟩ := ih fl (i + 1) p' μ1 (by omega) (by omega) (by rw [u8 58 (by decide)]; exact h3) h40 (fun j hj => by rw [h61]; exact h5 j hj) u3 (fun j hj => by rw [hp' j hj]; omega) h62 u7 (fun z hz hz2 q => by
          by_cases ez : z = i
          · subst ez; exact absurd q hkp
          · rw [h42]; exact h10 z (by omega) hz2 q) (fun z q1 q2 => by rw [h42]; exact h11 z (by omega) q2)
        refine ⟨μ', ?_, v2, v3, fun k a b => by rw [v4 k a b, u8 k a]⟩
        rw [hk, ← hks]
        rw [if_pos (by omega)] at v1
        exact v1
end DRA
