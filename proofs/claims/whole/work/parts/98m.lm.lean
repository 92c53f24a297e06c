/-! a collection: what lives, by the reference -/
section LMA
variable {N S : Nat} {φ K τ : Nat → Nat} {C U T KK V NM A : Nat → Int32}
theorem gw_k {a v h : Nat} (ha : a < 8) (hv : v < 256) (hh : h ≤ 300) : nI (a + 8 * v + 2048 * h) &&& 7 = nI a ∧ (nI (a + 8 * v + 2048 * h) >>> ((3 : Int32) &&& 31)) &&& 255 = nI v := by
  refine ⟨?_, ?_⟩
  · rw [pk_andN (by omega) 3 (by decide)]
    congr 1
    omega
  · rw [pk_shrN (by omega) _ 3 (by decide), pk_andN (by omega) 8 (by decide)]
    congr 1
    omega
/-- a goal's word of the reference: kind and value -/
theorem gw_s {t hh gw : Int32} {ν : Mu} {gg : Nat} (h : goR N φ K t hh gw) (hgg : gg < 8900) (hG : ν 80 gg = gw) : ∃ k v, f_MO_kindOf (nI gg) ν = some k ∧ f_MO_valueOf (nI gg) ν = some v ∧ ((∃ a, a < 32 ∧ t = wd a 2 ∧ k = 2 ∧ v = nI a) ∨ (∃ i, i < N ∧ K i = 2 ∧ φ i < 240 ∧ t = wd i 7 ∧ k = 3 ∧ v = nI (φ i)) ∨ (t = wd 0 6 ∧ k = 6 ∧ v = 0)) := by
  unfold f_MO_kindOf f_MO_valueOf
  rw [rd_n hgg (by decide), b1_s, b1_s, hG]
  obtain ⟨x, x1, x2, ⟨a, a1, a2, a3⟩ | ⟨i, i1, i2, i3, i4, i5⟩ | ⟨a1, a2⟩⟩ := h
  · obtain ⟨e1, e2⟩ := gw_k (a := 2) (v := a) (h := x) (by omega) (by omega) x1
    rw [a3, e1, e2]
    exact ⟨_, _, rfl, rfl, Or.inl ⟨a, a1, a2, rfl, rfl⟩⟩
  · obtain ⟨e1, e2⟩ := gw_k (a := 3) (v := φ i) (h := x) (by omega) (by omega) x1
    rw [i5, e1, e2]
    exact ⟨_, _, rfl, rfl, Or.inr (Or.inl ⟨i, i1, i2, i3, i4, rfl, rfl⟩)⟩
  · obtain ⟨e1, e2⟩ := gw_k (a := 6) (v := 0) (h := x) (by omega) (by omega) x1
    rw [a2, show 6 + 2048 * x = 6 + 8 * 0 + 2048 * x by omega, e1, e2]
    exact ⟨_, _, rfl, rfl, Or.inr (Or.inr ⟨a1, rfl, rfl⟩)⟩
/-- marks are written with the mark's number alone -/
def r90 (ν ν' : Mu) : Prop := ν' 70 34 = ν 70 34 ∧ ∀ x, ν' 90 x = ν 90 x ∨ ν' 90 x = ν 70 34
theorem r90_r {ν : Mu} : r90 ν ν := ⟨rfl, fun _ => Or.inl rfl⟩
theorem r90_t {ν ν1 ν2 : Mu} (h1 : r90 ν ν1) (h2 : r90 ν1 ν2) : r90 ν ν2 := by
  refine ⟨h2.1.trans h1.1, fun x => ?_⟩
  rcases h2.2 x with e | e
  · rw [e]; exact h1.2 x
  · rw [e, h1.1]; exact Or.inr rfl
theorem r90_30 {ν : Mu} {x : Int32} : r90 ν (sI ν 70 30 x) := ⟨rfl, fun _ => Or.inl rfl⟩
theorem r90_w {ν ν' : Mu} {n : Nat} {i : Int32} (h : wr ν 90 n i (ν 70 34) = some ν') : r90 ν ν' := by
  obtain ⟨-, e⟩ := wr_e h
  subst e
  refine ⟨rfl, fun x => ?_⟩
  by_cases e : x = i.toNatClampNeg
  · subst e; exact Or.inr sI_at
  · exact Or.inl (sI_nj e)
theorem r90_p {ν ν' : Mu} {a b : Int32} (h : f_MO_push a b ν = some ν') : r90 ν ν' :=
  ⟨fr_MO_push h (by unfold W_MO_push; omega), fun x => Or.inl (fr_MO_push h (by unfold W_MO_push; omega))⟩
theorem r90_pa {ν ν' : Mu} {a : Int32} (h : f_MO_pushArguments a ν = some ν') : r90 ν ν' :=
  ⟨fr_MO_pushArguments h (by unfold W_MO_pushArguments; omega), fun x => Or.inl (fr_MO_pushArguments h (by unfold W_MO_pushArguments; omega))⟩
theorem r90_135 {k : Int32} (fl : Nat) : ∀ {y : Int32} {ν ν' : Mu}, f_MO_mark_135 k fl y ν = some ν' → r90 ν ν' := by
  induction fl with
  | zero => intro y ν ν' h; cases h
  | succ fl ih =>
    intro y ν ν' h
    rw [f_MO_mark_135] at h
    obtain ⟨v1, -, h⟩ := b1_e h
    obtain ⟨v2, -, h⟩ := b1_e h
    by_cases e : v2 ≤ y
    · rw [if_pos e] at h
      rw [Option.some.inj h]; exact r90_r
    · rw [if_neg e] at h
      obtain ⟨v3, -, h⟩ := b1_e h
      obtain ⟨ν1, e1, h⟩ := b1_e h
      exact r90_t (r90_w e1) (ih h)
theorem r90_6 (fl : Nat) : ∀ {ν ν' : Mu}, f_MO_mark_6 fl ν = some ν' → r90 ν ν' := by
  induction fl with
  | zero => intro ν ν' h; cases h
  | succ fl ih =>
    intro ν ν' h
    rw [f_MO_mark_6] at h
    by_cases e : ν 70 30 ≤ 0
    · rw [if_pos e] at h
      rw [Option.some.inj h]; exact r90_r
    · rw [if_neg e] at h
      obtain ⟨v5, -, h⟩ := b1_e h
      obtain ⟨v7, -, h⟩ := b1_e h
      obtain ⟨ν9, e9, h⟩ := b1_e h
      refine r90_t ?_ (ih h)
      have pop : ∀ {ν9 : Mu}, some (sI ν 70 30 (ν 70 30 - 1)) = some ν9 → r90 ν ν9 := by
        intro ν9 h
        rw [← Option.some.inj h]; exact r90_30
      by_cases c1 : v7 = 0
      · rw [if_neg (not_not_intro c1)] at e9
        obtain ⟨v39, -, e9⟩ := b1_e e9
        by_cases c2 : v39 = ν 70 34
        · rw [if_pos c2] at e9
          obtain ⟨v42, -, e9⟩ := b1_e e9
          by_cases c3 : v42 = 3
          · rw [if_neg (not_not_intro c3)] at e9
            obtain ⟨v45, -, e9⟩ := b1_e e9
            by_cases c4 : v45 = ν 70 34
            · rw [if_pos c4] at e9; exact pop e9
            · rw [if_neg c4] at e9
              obtain ⟨ν1, d1, e9⟩ := b1_e e9
              obtain ⟨ν2, d2, e9⟩ := b1_e e9
              obtain ⟨ν3, d3, e9⟩ := b1_e e9
              rw [← Option.some.inj e9]
              exact r90_t r90_30 (r90_t (r90_w d1) (r90_t (r90_135 _ d2) (r90_pa d3)))
          · rw [if_pos c3] at e9; exact pop e9
        · rw [if_neg c2] at e9
          obtain ⟨ν1, d1, e9⟩ := b1_e e9
          obtain ⟨v71, -, e9⟩ := b1_e e9
          by_cases c3 : v71 < 0
          · rw [if_pos c3] at e9
            rw [← Option.some.inj e9]
            exact r90_t r90_30 (r90_w d1)
          · rw [if_neg c3] at e9
            obtain ⟨v74, -, e9⟩ := b1_e e9
            obtain ⟨v76, -, e9⟩ := b1_e e9
            obtain ⟨ν2, d2, e9⟩ := b1_e e9
            rw [← Option.some.inj e9]
            exact r90_t r90_30 (r90_t (r90_w d1) (r90_p d2))
      · rw [if_pos c1] at e9
        obtain ⟨v13, -, e9⟩ := b1_e e9
        by_cases c3 : v13 = 3
        · rw [if_neg (not_not_intro c3)] at e9
          obtain ⟨v16, -, e9⟩ := b1_e e9
          by_cases c4 : v16 = ν 70 34
          · rw [if_pos c4] at e9; exact pop e9
          · rw [if_neg c4] at e9
            obtain ⟨ν1, d1, e9⟩ := b1_e e9
            obtain ⟨ν2, d2, e9⟩ := b1_e e9
            obtain ⟨ν3, d3, e9⟩ := b1_e e9
            rw [← Option.some.inj e9]
            exact r90_t r90_30 (r90_t (r90_w d1) (r90_t (r90_135 _ d2) (r90_pa d3)))
        · rw [if_pos c3] at e9; exact pop e9
theorem r90_m {ν ν' : Mu} {k v : Int32} (h : f_MO_mark k v ν = some ν') : r90 ν ν' := by
  unfold f_MO_mark at h
  obtain ⟨ν1, e1, h⟩ := b1_e h
  obtain ⟨ν2, e2, h⟩ := b1_e h
  rw [← Option.some.inj h]
  exact r90_t (r90_p e1) (r90_6 _ e2)
/-- what a marking keeps: Z marked, all that is marked in Q -/
def mkK (C KK V NM A : Nat → Int32) (N : Nat) (φ K : Nat → Nat) (mn : Int32) (ν0 ν : Mu) : Prop :=
  mkZ C KK V NM A N φ K mn ν ∧ (∀ k, k ≠ 70 → k ≠ 88 → k ≠ 89 → k ≠ 90 → ν k = ν0 k) ∧ (∀ j, j ≠ 30 → ν 70 j = ν0 70 j) ∧ r90 ν0 ν
theorem mark_k (hR : cellsR C U T KK V NM A N S φ K τ) {mn k v : Int32} {ν0 ν : Mu} (hz : mkK C KK V NM A N φ K mn ν0 ν) (he : enR N φ K (fun i => K i = 1 ∨ K i = 2) k v) :
    ∃ ν', f_MO_mark k v ν = some ν' ∧ mkK C KK V NM A N φ K mn ν0 ν' ∧ (∀ i, i < N → ν 90 (φ i) = mn → ν' 90 (φ i) = mn) ∧ (∀ j, j < N → v = nI (φ j) → (k = 0 ∨ k = 3) → ν' 90 (φ j) = mn) ∧ (∀ Q, clo C N K Q → (∀ j, j < N → v = nI (φ j) → (k = 0 ∨ k = 3) → Q j) → (∀ i, i < N → (K i = 1 ∨ K i = 2) → ν 90 (φ i) = mn → Q i) → ∀ i, i < N → (K i = 1 ∨ K i = 2) → ν' 90 (φ i) = mn → Q i) := by
  obtain ⟨z1, z2, z3, z4⟩ := hz
  obtain ⟨ν', u1, u2, u3, u4, u5⟩ := mark_s hR z1 he
  refine ⟨ν', u1, ⟨u2, fun k q1 q2 q3 q4 => ?_, fun j hj => ?_, r90_t z4 (r90_m u1)⟩, u3, u4, u5⟩
  · rw [← z2 k q1 q2 q3 q4]
    funext j
    exact fr_MO_mark u1 (by unfold W_MO_mark; omega)
  · rw [fr_MO_mark u1 (by unfold W_MO_mark; omega)]; exact z3 j hj
/-- the goals of a chain are marked -/
theorem mg_l (hR : cellsR C U T KK V NM A N S φ K τ) {mn : Int32} {ν0 : Mu} {TT HH BB : Nat → Int32} {GT : Nat} (hGT : GT ≤ 8900) (n : Nat) : ∀ (fl : Nat) (p q : Int32) (ν : Mu), chR N φ K TT HH BB (ν0 80) (ν0 81) n p q → (q = -1 ∨ ∃ gg, q = nI gg ∧ gg < GT) → n < fl → mkK C KK V NM A N φ K mn ν0 ν →
    ∃ ν', f_MO_markGoals_2 fl q ν = some ν' ∧ mkK C KK V NM A N φ K mn ν0 ν' ∧ (∀ i, i < N → ν 90 (φ i) = mn → ν' 90 (φ i) = mn) ∧ (∀ i, i < N → inC TT BB n p i → ν' 90 (φ i) = mn) ∧ (∀ Q, clo C N K Q → (∀ i, i < N → inC TT BB n p i → Q i) → (∀ i, i < N → (K i = 1 ∨ K i = 2) → ν 90 (φ i) = mn → Q i) → ∀ i, i < N → (K i = 1 ∨ K i = 2) → ν' 90 (φ i) = mn → Q i) := by
  have hN := hR.1
  induction n with
  | zero =>
    intro fl p q ν hch hq hfl hz
    cases fl with
    | zero => omega
    | succ fl =>
    obtain ⟨e1, e2⟩ := hch
    subst e2
    refine ⟨ν, ?_, hz, fun _ _ q => q, fun i _ q => absurd q id, fun Q q1 q2 q3 => q3⟩
    unfold f_MO_markGoals_2
    rw [if_pos (by decide)]
  | succ n ih =>
    intro fl p q ν hch hq hfl hz
    cases fl with
    | zero => omega
    | succ fl =>
    obtain ⟨pp, gg, e1, e2, e3, e4, e5, e6, e7, e8⟩ := hch
    have hgg : gg < GT := by
      rcases hq with w | ⟨x, w1, w2⟩
      · rw [e2] at w
        have := congrArg Int32.toInt w
        rw [nI_toInt (by omega), show (-1 : Int32).toInt = -1 by decide] at this
        omega
      · rw [e2] at w1
        have := (nI_eq (by omega) (by omega)).mp w1
        omega
    have h80 : ν 80 = ν0 80 := hz.2.1 80 (by decide) (by decide) (by decide) (by decide)
    obtain ⟨k, v, k1, k2, k3⟩ := gw_s (ν := ν) (gg := gg) e5 (by omega) (by rw [h80])
    have hen : enR N φ K (fun i => K i = 1 ∨ K i = 2) k v := by
      rcases k3 with ⟨a, a1, a2, a3, a4⟩ | ⟨i, i1, i2, i3, i4, i5, i6⟩ | ⟨a1, a2, a3⟩
      · exact Or.inr ⟨by rw [a3]; decide, by rw [a3]; decide⟩
      · exact Or.inl ⟨i, i1, Or.inr i2, Or.inr ⟨i5, i2⟩, i6⟩
      · exact Or.inr ⟨by rw [a2]; decide, by rw [a2]; decide⟩
    have hto : ∀ j, j < N → v = nI (φ j) → (k = 0 ∨ k = 3) → TT pp = wd j 7 := by
      intro j hj q1 q2
      rcases k3 with ⟨a, a1, a2, a3, a4⟩ | ⟨i, i1, i2, i3, i4, i5, i6⟩ | ⟨a1, a2, a3⟩
      · rw [a3] at q2; rcases q2 with q2 | q2 <;> exact absurd q2 (by decide)
      · rw [i6] at q1
        have f := (hR.2.2.1 j hj).1
        have := phi_inj hR i1 hj ((nI_eq (by omega) (by omega)).mp q1)
        subst this
        exact i4
      · rw [a2] at q2; rcases q2 with q2 | q2 <;> exact absurd q2 (by decide)
    have hfrom : ∀ j, j < N → TT pp = wd j 7 → v = nI (φ j) ∧ (k = 0 ∨ k = 3) := by
      intro j hj q
      rcases k3 with ⟨a, a1, a2, a3, a4⟩ | ⟨i, i1, i2, i3, i4, i5, i6⟩ | ⟨a1, a2, a3⟩
      · have := ((wd_eq (by omega) (by omega) (by omega) (by omega)).mp (q.symm.trans a2)).2; omega
      · have := ((wd_eq (by omega) (by omega) (by omega) (by omega)).mp (q.symm.trans i4)).1
        subst this
        exact ⟨i6, Or.inr i5⟩
      · have := ((wd_eq (by omega) (by omega) (by omega) (by omega)).mp (q.symm.trans a1)).2; omega
    obtain ⟨ν1, u1, u2, u3, u4, u5⟩ := mark_k hR hz hen
    obtain ⟨ν2, v1, v2, v3, v4, v5⟩ := ih fl (BB pp) (ν0 81 gg) ν1 e8 (by
      cases n with
      | zero => exact Or.inl e8.2
      | succ n =>
        obtain ⟨p2, g2, y1, y2, y3, y4, -⟩ := e8
        exact Or.inr ⟨g2, y2, by have := e7 g2 y4 y2; omega⟩) (by omega) u2
    refine ⟨ν2, ?_, v2, fun i hi q => v3 i hi (u3 i hi q), fun i hi q => ?_, fun Q q1 q2 q3 => v5 Q q1 (fun i hi q => q2 i hi ⟨pp, e3, e1, Or.inr q⟩) (u5 Q q1 (fun j hj w1 w2 => q2 j hj ⟨pp, e3, e1, Or.inl (hto j hj w1 w2)⟩) q3)⟩
    · rw [f_MO_markGoals_2]
      rw [e2, if_neg (nI_pos (by omega)), k1, b1_s, k2, b1_s, u1, b1_s, u2.2.1 81 (by decide) (by decide) (by decide) (by decide), rd_n (by omega) (by decide), b1_s]
      exact v1
    · obtain ⟨p2, f0, f1, f2⟩ := q
      rw [e1] at f1
      have := (nI_eq (by omega) (by omega)).mp f1
      subst this
      rcases f2 with f2 | f2
      · obtain ⟨w1, w2⟩ := hfrom i hi f2
        exact v3 i hi (u4 i hi w1 w2)
      · exact v4 i hi f2
end LMA
