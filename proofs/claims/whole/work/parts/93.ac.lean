/-! the state of a search in class and reference -/
section ACA
/-- a goal: term and height; the reference's word -/
def goR (N : Nat) (φ K : Nat → Nat) (t hh gw : Int32) : Prop :=
  ∃ h, h ≤ 300 ∧ hh = nI h ∧ ((∃ a, a < 32 ∧ t = wd a 2 ∧ gw = nI (2 + 8 * a + 2048 * h)) ∨ (∃ i, i < N ∧ K i = 2 ∧ φ i < 240 ∧ t = wd i 7 ∧ gw = nI (3 + 8 * φ i + 2048 * h)) ∨ (t = wd 0 6 ∧ gw = nI (6 + 2048 * h)))
/-- n goals from place p of the class, from goal g of the reference -/
def chR (N : Nat) (φ K : Nat → Nat) (TT HH BB G GN : Nat → Int32) : Nat → Int32 → Int32 → Prop
  | 0, p, g => p = -1 ∧ g = -1
  | n + 1, p, g => ∃ pp gg, p = nI pp ∧ g = nI gg ∧ pp < 2 ^ 29 ∧ gg < 2 ^ 29 ∧ goR N φ K (TT pp) (HH pp) (G gg) ∧ (∀ x, x < 2 ^ 29 → BB pp = nI x → x < pp) ∧ (∀ y, y < 2 ^ 29 → GN gg = nI y → y < gg) ∧ chR N φ K TT HH BB G GN n (BB pp) (GN gg)
/-- the word of a goal's name -/
def nmR (C : Nat → Int32) (t w : Int32) : Prop := (∃ i, i < 240 ∧ t = wd i 7 ∧ C i = w) ∨ (kd t = 2 ∧ t = w)
def trlR (N : Nat) (K : Nat → Nat) (tr : Nat) (C TR : Nat → Int32) : Prop :=
  (∀ x, x < tr → ∃ i, i < N ∧ K i = 1 ∧ C i ≠ wd i 0 ∧ TR x = wd i 0) ∧ ∀ x y, x < y → y < tr → TR x ≠ TR y
def segE (c j : Nat) (f : Nat → Nat) (e : Nat) : Nat := if j + 1 < c then f (j + 1) else e
/-- the trails, between the marks of two choices: what matters is the same -/
def segR (c : Nat) (cm tm ct : Nat → Nat) (tr tb : Nat) (φ : Nat → Nat) (TR B : Nat → Int32) : Prop :=
  ∀ j, j < c → ∀ i, i < cm j → ((∃ x, tm j ≤ x ∧ x < segE c j tm tr ∧ TR x = wd i 0) ↔ (∃ y, ct j ≤ y ∧ y < segE c j ct tb ∧ B y = nI (φ i)))
/-- below a choice's mark, what was not bound since then hangs on what lies below it -/
def dnR (c : Nat) (cm tm : Nat → Nat) (tr N : Nat) (K : Nat → Nat) (C TR : Nat → Int32) : Prop :=
  ∀ j, j < c → ∀ i, i < cm j → K i ≠ 2 → (∀ x, tm j ≤ x → x < tr → TR x ≠ wd i 0) → ∀ y, y < N → tgt (C i) y → y < cm j
/-- what was bound before a choice lies below its mark -/
def lowR (c N : Nat) (cm tm : Nat → Nat) (TR : Nat → Int32) : Prop := ∀ j, j < c → ∀ x, x < tm j → ∃ i, i < cm j ∧ i < N ∧ TR x = wd i 0
def mrkR (c N S : Nat) (K τ cm tm gm cs ct : Nat → Nat) (tr tb nq : Nat) : Prop :=
  (∀ j, j < c → cm j ≤ N ∧ cs j ≤ S ∧ (∀ i, i < N → (i < cm j ↔ τ i < cs j)) ∧ tm j ≤ tr ∧ ct j ≤ tb ∧ (cm j = N ∨ K (cm j) ≠ 3) ∧ nq ≤ cm j) ∧ ∀ j k, j < k → k < c → cm j ≤ cm k ∧ tm j ≤ tm k ∧ ct j ≤ ct k ∧ gm j ≤ gm k
def rowsR (c : Nat) (cm tm gm cs ct : Nat → Nat) (μ ν : Mu) : Prop :=
  ∀ j, j < c → μ 61 j = nI (cm j) ∧ μ 62 j = nI (tm j) ∧ μ 63 j = nI (gm j) ∧ ν 84 j = nI (cs j) ∧ ν 85 j = nI (ct j)
def chgR (c g cap GT R : Nat) (φ K cm gm : Nat → Nat) (μ ν : Mu) : Prop :=
  ∀ j, j < c → gm j ≤ GT ∧ gm j ≤ cap ∧ ∃ n pp gg r, chR (cm j) φ K (μ g) (μ (g + 1)) (μ (g + 2)) (ν 80) (ν 81) (n + 1) (μ 59 j) (ν 82 j) ∧ μ 59 j = nI pp ∧ pp < gm j ∧ ν 82 j = nI gg ∧ gg < GT ∧ μ 60 j = nI r ∧ ν 83 j = nI r ∧ r < R ∧ nmR (μ 41) (μ g pp) (μ (6 + 2 * r) 0)
def curR (g cap GT R N : Nat) (φ K : Nat → Nat) (μ ν : Mu) : Prop :=
  (∃ n, chR N φ K (μ g) (μ (g + 1)) (μ (g + 2)) (ν 80) (ν 81) n (μ 37 9) (ν 70 16)) ∧ (μ 37 9 = -1 ∨ ∃ pp, μ 37 9 = nI pp ∧ pp < GT ∧ pp < cap) ∧ (ν 70 16 = -1 ∨ ∃ gg, ν 70 16 = nI gg ∧ gg < GT) ∧ ((μ 37 10 = -1 ∧ ν 70 17 = -1) ∨ ∃ r pp, r < R ∧ pp < 2 ^ 29 ∧ μ 37 10 = nI r ∧ ν 70 17 = nI r ∧ μ 37 9 = nI pp ∧ nmR (μ 41) (μ g pp) (μ (6 + 2 * r) 0))
def queR (N nq : Nat) (has : Nat → Bool) (φ K : Nat → Nat) (μ ν : Mu) : Prop :=
  nq = cnt has 8 ∧ nq ≤ N ∧ (∀ i, i < nq → K i = 1) ∧ jbit (μ 38 2) = nI nq ∧ ∀ v, v < 8 → (has v = true → ν 87 v = nI (φ (cnt has v))) ∧ (has v = false → ν 87 v = -1)
/-- the whole of it; c choices, tr and tb trailed, GT goals, P a bound of bindings, M marks -/
def actR (g cap R : Nat) (has : Nat → Bool) (N S c tr tb nq GT P M : Nat) (φ K τ cm tm gm cs ct : Nat → Nat) (μ ν : Mu) : Prop :=
  cellsR (μ 41) (ν 74) (ν 75) (ν 76) (ν 77) (ν 78) (ν 79) N S φ K τ ∧ (μ 40 1 = nI N ∧ μ 40 3 = nI tr ∧ μ 58 5 = nI c) ∧ (ν 70 12 = nI S ∧ ν 70 23 = nI tb ∧ ν 70 18 = nI c ∧ ν 70 13 = nI GT) ∧ trlR N K tr (μ 41) (μ 42) ∧ segR c cm tm ct tr tb φ (μ 42) (ν 86) ∧ dnR c cm tm tr N K (μ 41) (μ 42) ∧ mrkR c N S K τ cm tm gm cs ct tr tb nq ∧ rowsR c cm tm gm cs ct μ ν ∧ chgR c g cap GT R φ K cm gm μ ν ∧ curR g cap GT R N φ K μ ν ∧ queR N nq has φ K μ ν ∧ (∀ p, p < cap → μ (g + 3) p = 0) ∧ tb + frc (μ 41) K N ≤ P ∧ (∀ y, y < tb → ∃ x, x < 240 ∧ ν 86 y = nI x) ∧ mkB M ν ∧ lowR c N cm tm (μ 42)
/-- a truth value -/
noncomputable def clB (p : Prop) : Bool := @decide p (Classical.propDecidable p)
theorem clB_t {p : Prop} : clB p = true ↔ p := by
  unfold clB
  exact @decide_eq_true_iff p (Classical.propDecidable p)
theorem cnt_one {p q : Nat → Bool} {n k : Nat} (h : ∀ i, i < n → q i = true → p i = true ∨ i = k) : cnt q n ≤ cnt p n + 1 := by
  by_cases hk : k < n
  · by_cases hp : p k = true
    · have := cnt_mono (p := q) (q := p) n (fun i hi e => by
        rcases h i hi e with w | w
        · exact w
        · rw [w]; exact hp)
      omega
    · have h2 : cnt q n ≤ cnt (fun i => p i || Nat.beq i k) n := cnt_mono n (fun i hi e => by
        show (p i || Nat.beq i k) = true
        rcases h i hi e with w | w
        · rw [w]; rfl
        · rw [w, Nat.beq_refl, Bool.or_true])
      have h3 : cnt (fun i => p i || Nat.beq i k) n = cnt p n + 1 := by
        refine cnt_set (p := p) (k := k) hk (fun i hi hne => ?_) (by cases e : p k; rfl; exact absurd e hp) ?_
        · have : Nat.beq i k = false := by
            cases e : Nat.beq i k with
            | false => rfl
            | true => exact absurd (Nat.eq_of_beq_eq_true e) hne
          show p i = (p i || Nat.beq i k)
          rw [this, Bool.or_false]
        · show (p k || Nat.beq k k) = true
          rw [Nat.beq_refl, Bool.or_true]
      omega
  · have := cnt_mono (p := q) (q := p) n (fun i hi e => by
      rcases h i hi e with w | w
      · exact w
      · omega)
    omega
/-- the class goes back -/
theorem gb_l {k1 : Int32} {tm N : Nat} {TR : Nat → Int32} (hN : N ≤ 240) (d : Nat) : ∀ (fl : Nat) (μ : Mu), d < fl → tm + d ≤ 240 → μ 42 = TR → (∀ x, tm ≤ x → x < tm + d → ∃ i, i < N ∧ TR x = wd i 0) →
    ∃ μ', f_CE_goBack_7 k1 (nI tm) fl (nI (tm + d) - 1) μ = some μ' ∧ (∀ k, k ≠ 41 → μ' k = μ k) ∧ ∀ i, i < 240 → (μ' 41 i = wd i 0 ∧ ∃ x, tm ≤ x ∧ x < tm + d ∧ TR x = wd i 0) ∨ (μ' 41 i = μ 41 i ∧ ∀ x, tm ≤ x → x < tm + d → TR x ≠ wd i 0) := by
  induction d with
  | zero =>
    intro fl μ h1 h2 h3 h4
    cases fl with
    | zero => omega
    | succ fl =>
    refine ⟨μ, ?_, fun _ _ => rfl, fun i hi => Or.inr ⟨rfl, fun x q1 q2 => by omega⟩⟩
    unfold f_CE_goBack_7
    rw [if_pos]
    show nI (tm + 0) - nI 1 < nI tm
    rw [Int32.lt_iff_toInt_lt, pk_sub_toInt (by omega) (by omega), nI_toInt (by omega)]
    omega
  | succ d ih =>
    intro fl μ h1 h2 h3 h4
    cases fl with
    | zero => omega
    | succ fl =>
    obtain ⟨i, i1, i2⟩ := h4 (tm + d) (by omega) (by omega)
    obtain ⟨μ', u1, u2, u3⟩ := ih fl (sI μ 41 i (wd i 0)) (by omega) (by omega) h3 (fun x q1 q2 => h4 x q1 (by omega))
    refine ⟨μ', ?_, fun k hk => by rw [u2 k hk, sI_nk hk], fun j hj => ?_⟩
    · unfold f_CE_goBack_7
      rw [show tm + (d + 1) = (tm + d) + 1 by omega, nI_pred, if_neg (nI_nlt (by omega) (by omega)), h3, rd_n (by omega) (by decide), b1_s, b1_s, i2, wd_v (by omega) (by omega), wr_n (by omega) (by decide), b1_s, i_m1]
      exact u1
    · rcases u3 j hj with ⟨w1, x, w2, w3, w4⟩ | ⟨w1, w2⟩
      · exact Or.inl ⟨w1, x, w2, by omega, w4⟩
      · by_cases e : j = i
        · subst e
          rw [sI_at] at w1
          exact Or.inl ⟨w1, tm + d, by omega, by omega, i2⟩
        · rw [sI_nj e] at w1
          refine Or.inr ⟨w1, fun x q1 q2 => ?_⟩
          by_cases ex : x = tm + d
          · rw [ex, i2]
            intro w
            exact e ((wd_eq (by omega) (by omega) (by omega) (by omega)).mp w).1.symm
          · exact w2 x q1 (by omega)
/-- the reference goes back -/
theorem fb_l {ct c : Nat} {B : Nat → Int32} (hc : c < 320) (hct : ct + 0 ≤ 2600) (d : Nat) : ∀ (fl : Nat) (ν : Mu), d < fl → ct + d ≤ 2600 → ν 86 = B → ν 70 18 = nI c → ν 85 c = nI ct → ν 70 23 = nI (ct + d) → (∀ y, y < ct + d → ∃ x, x < 240 ∧ B y = nI x) →
    ∃ ν', f_MO_fail_22 fl ν = some ν' ∧ (∀ k, k ≠ 70 → k ≠ 76 → ν' k = ν k) ∧ (∀ j, j ≠ 23 → ν' 70 j = ν 70 j) ∧ ν' 70 23 = nI ct ∧ ∀ x, x < 240 → (ν' 76 x = -1 ∧ ∃ y, ct ≤ y ∧ y < ct + d ∧ B y = nI x) ∨ (ν' 76 x = ν 76 x ∧ ∀ y, ct ≤ y → y < ct + d → B y ≠ nI x) := by
  induction d with
  | zero =>
    intro fl ν h1 h2 h3 h4 h5 h6 h7
    cases fl with
    | zero => omega
    | succ fl =>
    refine ⟨ν, ?_, fun _ _ _ => rfl, fun _ _ => rfl, h6, fun x hx => Or.inr ⟨rfl, fun y q1 q2 => by omega⟩⟩
    unfold f_MO_fail_22
    rw [h4, rd_n hc (by decide), b1_s, h5, h6, if_pos (nI_le (by omega) (by omega))]
  | succ d ih =>
    intro fl ν h1 h2 h3 h4 h5 h6 h7
    cases fl with
    | zero => omega
    | succ fl =>
    obtain ⟨z, z1, z2⟩ := h7 (ct + d) (by omega)
    obtain ⟨ν', u1, u2, u3, u4, u5⟩ := ih fl (sI (sI ν 70 23 (nI (ct + d))) 76 z (-1)) (by omega) (by omega) h3 h4 h5 rfl (fun y q => h7 y (by omega))
    refine ⟨ν', ?_, fun k q1 q2 => by rw [u2 k q1 q2, sI_nk q2, sI_nk q1], fun j hj => ?_, u4, fun x hx => ?_⟩
    · unfold f_MO_fail_22
      rw [h4, rd_n hc (by decide), b1_s, h5, h6, if_neg (nI_ge (by omega) (by omega)), show ct + (d + 1) = (ct + d) + 1 by omega, nI_pred, h3, rd_n (by omega) (by decide), b1_s, z2, wr_n z1 (by decide), b1_s]
      exact u1
    · rw [u3 j hj]
      show sI ν 70 23 (nI (ct + d)) 70 j = _
      exact sI_nj hj
    · rcases u5 x hx with ⟨w1, y, w2, w3, w4⟩ | ⟨w1, w2⟩
      · exact Or.inl ⟨w1, y, w2, by omega, w4⟩
      · by_cases e : x = z
        · subst e
          rw [sI_at] at w1
          exact Or.inl ⟨w1, ct + d, by omega, by omega, z2⟩
        · rw [sI_nj e] at w1
          refine Or.inr ⟨w1, fun y q1 q2 => ?_⟩
          by_cases ey : y = ct + d
          · rw [ey, z2]
            intro w
            exact e ((nI_eq (by omega) (by omega)).mp w).symm
          · exact w2 y q1 (by omega)
theorem fu_l {cs c : Nat} (hc : c < 320) (d : Nat) : ∀ (fl i : Nat) (ν : Mu), i + d = 240 → d < fl → ν 70 18 = nI c → ν 84 c = nI cs →
    ∃ ν', f_MO_fail_68 fl (nI i) ν = some ν' ∧ (∀ k, k ≠ 74 → ν' k = ν k) ∧ ∀ x, x < 240 → (x < i → ν' 74 x = ν 74 x) ∧ (i ≤ x → ν' 74 x = if ν 75 x < nI cs then ν 74 x else 0) := by
  induction d with
  | zero =>
    intro fl i ν h1 h2 h3 h4
    cases fl with
    | zero => omega
    | succ fl =>
    have e : i = 240 := by omega
    subst e
    refine ⟨ν, ?_, fun _ _ => rfl, fun x hx => ⟨fun _ => rfl, fun q => by omega⟩⟩
    unfold f_MO_fail_68
    rw [if_pos (by decide)]
  | succ d ih =>
    intro fl i ν h1 h2 h3 h4
    cases fl with
    | zero => omega
    | succ fl =>
    obtain ⟨ν', u1, u2, u3⟩ := ih fl (i + 1) (sI ν 74 i (if ν 75 i < nI cs then ν 74 i else 0)) (by omega) (by omega) h3 h4
    refine ⟨ν', ?_, fun k hk => by rw [u2 k hk, sI_nk hk], fun x hx => ?_⟩
    · unfold f_MO_fail_68
      rw [if_neg (show ¬ 240 ≤ nI i from nI_ge (b := 240) (by omega) (by decide)), rd_n (by omega) (by decide), b1_s, h3, rd_n hc (by decide), b1_s, h4]
      by_cases e : ν 75 i < nI cs
      · rw [if_pos e, rd_n (by omega) (by decide), b1_s, b1_s, wr_n (by omega) (by decide), b1_s, nI_1]
        rw [if_pos e] at u1
        exact u1
      · rw [if_neg e, b1_s, wr_n (by omega) (by decide), b1_s, nI_1]
        rw [if_neg e] at u1
        exact u1
    · obtain ⟨w1, w2⟩ := u3 x hx
      refine ⟨fun q => ?_, fun q => ?_⟩
      · rw [w1 (by omega), sI_nj (by omega)]
      · by_cases e : x = i
        · subst e
          rw [w1 (by omega), sI_at]
        · rw [w2 (by omega)]
          show (if ν 75 x < nI cs then sI ν 74 i _ 74 x else 0) = _
          rw [sI_nj e]
end ACA
