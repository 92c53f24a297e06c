section OCB
variable {C U T KK V NM A : Nat → Int32} {N S : Nat} {φ K τ : Nat → Nat}
/-- the term was looked at -/
def gd (C : Nat → Int32) (N : Nat) (φ : Nat → Nat) (μ0 : Mu) (ix : Nat) (mn y : Int32) (ν : Mu) (t : Int32) : Prop :=
  ∀ t', f_CE_follow t μ0 = some t' → (t' = wd ix 0 → y = 1) ∧ ∀ j, j < N → t' = wd j 7 → ν 90 (φ j) = mn
def unn (N : Nat) (φ K : Nat → Nat) (mn : Int32) (ν : Mu) : Nat := cnt (fun i => decide (K i = 2 ∧ ν 90 (φ i) ≠ mn)) N
/-- a term waits above b -/
def ont (b p : Nat) (ν : Mu) (k v : Int32) : Prop := ∃ x, x < p ∧ ν 88 (b + x) = k ∧ ν 89 (b + x) = v
def ocI (C KK V NM A : Nat → Int32) (N : Nat) (φ K : Nat → Nat) (P : Nat → Prop) (μ0 : Mu) (ix : Nat) (t0 k0 v0 : Int32) (mn y : Int32) (b p : Nat) (ν : Mu) : Prop :=
  okM KK V NM A ν ∧ ν 70 30 = nI (b + p) ∧ ν 70 34 = mn ∧ (y = 0 ∨ y = 1) ∧ (∀ x, x < p → ∃ t, tmR N φ K t (ν 88 (b + x)) (ν 89 (b + x)) ∧ ∀ j, j < N → tgt t j → P j) ∧ (∀ i, i < N → K i = 2 → ν 90 (φ i) = mn → P i) ∧ (y = 1 → P ix) ∧
  (∀ i a nm m, i < N → K i = 2 → ν 90 (φ i) = mn → C i = wd nm (2 + a) → nm < 32 → a ≤ 3 → m < a → gd C N φ μ0 ix mn y ν (C (i + 1 + m)) ∨ ont b p ν (KK (φ (i + 1 + m))) (V (φ (i + 1 + m)))) ∧ (gd C N φ μ0 ix mn y ν t0 ∨ ont b p ν k0 v0)
theorem gd_mono {μ0 : Mu} {ix : Nat} {mn y y' : Int32} {ν ν' : Mu} {t : Int32} (h : gd C N φ μ0 ix mn y ν t) (hy : y = 1 → y' = 1) (hm : ∀ j, j < N → ν 90 (φ j) = mn → ν' 90 (φ j) = mn) : gd C N φ μ0 ix mn y' ν' t :=
  fun t' e => ⟨fun q => hy ((h t' e).1 q), fun j hj q => hm j hj ((h t' e).2 j hj q)⟩
theorem clo_f (hR : cellsR C U T KK V NM A N S φ K τ) {P : Nat → Prop} {μ0 : Mu} (h0 : μ0 41 = C) (hP : clo C N K P) (b : Nat) : ∀ {t k v t' : Int32}, tmR N φ K t k v → (∀ i, i < N → t = wd i 0 → i < b) → (∀ j, j < N → tgt t j → P j) → f_CE_follow t μ0 = some t' → ∀ j, j < N → tgt t' j → P j := by
  have hN := hR.1
  induction b with
  | zero =>
    intro t k v t' ht hb hPt hf
    have hk : kd t ≠ 0 := by
      intro q
      rcases tmR_kd ht hN with ⟨a1, a2, i, a3, a4, a5, a6⟩ | ⟨a1, -⟩ | ⟨a1, -⟩ | ⟨a1, -⟩
      · have := hb i a3 a5; omega
      · omega
      · omega
      · omega
    rw [fo_non hk] at hf
    have e := Option.some.inj hf
    subst e
    exact hPt
  | succ b ih =>
    intro t k v t' ht hb hPt hf
    rcases tmR_kd ht hN with ⟨a1, a2, i, a3, a4, a5, a6⟩ | ⟨a1, -⟩ | ⟨a1, -⟩ | ⟨a1, -⟩
    · by_cases e : C i = wd i 0
      · rw [a5, fo_free h0 (by omega) e] at hf
        have e := Option.some.inj hf
        subst e
        rw [← a5]
        exact hPt
      · rw [a5, fo_step hR h0 a3 a4 e] at hf
        have hPi := hPt i a3 (Or.inl a5)
        have hc := hR.2.2.2.2.2 i a3
        rcases hc with ⟨-, ⟨u1, u2⟩ | ⟨u1, u2, u3⟩⟩ | ⟨q1, -⟩ | ⟨q1, -⟩
        · exact absurd u1 e
        · exact ih u2 (fun j hj q => by have := u3 j hj q; have := hb i a3 a5; omega) (fun j hj q => hP i j a3 hj hPi (Or.inl ⟨a4, q⟩)) hf
        · omega
        · omega
    all_goals
      rw [fo_non (by omega)] at hf
      have e := Option.some.inj hf
      subst e
      exact hPt
theorem occ_1 (hR : cellsR C U T KK V NM A N S φ K τ) {P : Nat → Prop} (hP : clo C N K P) {μ0 : Mu} (h0 : μ0 41 = C) {ix : Nat} (hix : ix < N) (hKx : K ix = 1) {t0 k0 v0 mn y : Int32} (ht0 : tmR N φ K t0 k0 v0) {b p : Nat} {ν : Mu} (hI : ocI C KK V NM A N φ K P μ0 ix t0 k0 v0 mn y b (p + 1) ν) (hb : b + p + 1 + 3 * unn N φ K mn ν ≤ 1600) :
    ∃ p' y' ν', (∀ fl, f_MO_occurs_25 (nI (φ ix)) (nI b) (fl + 1) y ν = f_MO_occurs_25 (nI (φ ix)) (nI b) fl y' ν') ∧ ocI C KK V NM A N φ K P μ0 ix t0 k0 v0 mn y' b p' ν' ∧ p' + 3 * unn N φ K mn ν' < p + 1 + 3 * unn N φ K mn ν ∧ (∀ x, x < b → ν' 88 x = ν 88 x ∧ ν' 89 x = ν 89 x) ∧ (∀ c, ν' 90 c = ν 90 c ∨ ν' 90 c = mn) := by
  have hN := hR.1
  obtain ⟨h1, h2, h3, hy, h4, h5, h6, h7, h8⟩ := hI
  obtain ⟨t, ht, htP⟩ := h4 p (by omega)
  obtain ⟨t', k', v', m1, m2, m3, m4⟩ := mean_s hR ht
  have hf := m3 μ0 h0
  have hP' := clo_f hR h0 hP N ht (fun i hi _ => hi) htP hf
  have hun : ∀ fl, f_MO_occurs_25 (nI (φ ix)) (nI b) (fl + 1) y ν = (if ¬ k' = 0 then (if ¬ k' = 3 then f_MO_occurs_25 (nI (φ ix)) (nI b) fl y (sI (sI (sI ν 70 30 (nI (b + p))) 70 40 k') 70 41 v') else b1 (rd (ν 90) 240 v') fun v14 => if v14 = mn then f_MO_occurs_25 (nI (φ ix)) (nI b) fl y (sI (sI (sI ν 70 30 (nI (b + p))) 70 40 k') 70 41 v') else b1 (wr (sI (sI (sI ν 70 30 (nI (b + p))) 70 40 k') 70 41 v') 90 240 v' mn) fun μ17 => b1 (f_MO_pushArguments (μ17 70 41) μ17) fun μ21 => f_MO_occurs_25 (nI (φ ix)) (nI b) fl y μ21) else b1 (if ¬ y = 0 then some (1 : Int32) else if ¬ v' = nI (φ ix) then some (0 : Int32) else some (1 : Int32)) fun v23 => f_MO_occurs_25 (nI (φ ix)) (nI b) fl v23 (sI (sI (sI ν 70 30 (nI (b + p))) 70 40 k') 70 41 v')) := by
    intro fl
    rw [f_MO_occurs_25]
    rw [h2, if_neg (nI_ge (by omega) (by omega)), nI_m1 (by omega), rd_n (by omega) (by decide), b1_s, rd_n (by omega) (by decide), b1_s, show b + (p + 1) - 1 = b + p by omega, m4 _ (okM_s h1), b1_s]
    rw [← h3]
    rfl
  -- the term was looked at: everything else goes on
  have rest : ∀ (y' : Int32) (ν' : Mu) (p' : Nat), okM KK V NM A ν' → ν' 70 30 = nI (b + p') → ν' 70 34 = mn → (y' = 0 ∨ y' = 1) → p ≤ p' → (∀ x, x < p → ν' 88 (b + x) = ν 88 (b + x) ∧ ν' 89 (b + x) = ν 89 (b + x)) → (∀ x, p ≤ x → x < p' → ∃ t, tmR N φ K t (ν' 88 (b + x)) (ν' 89 (b + x)) ∧ ∀ j, j < N → tgt t j → P j) → (∀ j, j < N → ν 90 (φ j) = mn → ν' 90 (φ j) = mn) → (∀ i, i < N → K i = 2 → ν' 90 (φ i) = mn → ν 90 (φ i) = mn ∨ (P i ∧ ∀ a nm m, C i = wd nm (2 + a) → nm < 32 → a ≤ 3 → m < a → ont b p' ν' (KK (φ (i + 1 + m))) (V (φ (i + 1 + m))))) → (y = 1 → y' = 1) → (y' = 1 → P ix) → gd C N φ μ0 ix mn y' ν' t → ocI C KK V NM A N φ K P μ0 ix t0 k0 v0 mn y' b p' ν' := by
    intro y' ν' p' r1 r2 r3 r4 r5 r6 r7 r8 r9 r10 r11 r12
    have hon : ∀ u k v, tmR N φ K u k v → gd C N φ μ0 ix mn y ν u ∨ ont b (p + 1) ν k v → gd C N φ μ0 ix mn y' ν' u ∨ ont b p' ν' k v := by
      intro u k v hu q
      rcases q with q | ⟨x, x1, x2, x3⟩
      · exact Or.inl (gd_mono q r10 r8)
      · by_cases e : x = p
        · subst e
          rw [← x2, ← x3] at hu
          rw [tmR_inj hR hu ht]
          exact Or.inl r12
        · exact Or.inr ⟨x, by omega, by rw [(r6 x (by omega)).1]; exact x2, by rw [(r6 x (by omega)).2]; exact x3⟩
    refine ⟨r1, r2, r3, r4, fun x hx => ?_, fun i hi hK q => ?_, r11, fun i a nm m e1 e2 e3 e4 e5 e6 e7 => ?_, hon t0 k0 v0 ht0 h8⟩
    · by_cases e : x < p
      · rw [(r6 x e).1, (r6 x e).2]; exact h4 x (by omega)
      · exact r7 x (by omega) hx
    · rcases r9 i hi hK q with g | g
      · exact h5 i hi hK g
      · exact g.1
    · rcases r9 i e1 e2 e3 with g | g
      · obtain ⟨a', nm', f1, f2, f3, f4, f5, f6, f7, f8⟩ := st_of hR e1 e2
        have e := (wd_eq (by omega) (by omega) (by omega) (by omega)).mp (e4.symm.trans f4)
        have ea : a' = a := by omega
        subst ea
        exact hon _ _ _ (f8 m e7).2.2.2 (h7 i a' nm m e1 e2 g e4 e5 e6 e7)
      · exact Or.inr (g.2 a nm m e4 e5 e6 e7)
  have hlow : ∀ x, x < p → sI (sI (sI ν 70 30 (nI (b + p))) 70 40 k') 70 41 v' 88 (b + x) = ν 88 (b + x) ∧ sI (sI (sI ν 70 30 (nI (b + p))) 70 40 k') 70 41 v' 89 (b + x) = ν 89 (b + x) := fun _ _ => ⟨rfl, rfl⟩
  rcases tmR_kd m1 hN with ⟨a1, a2, i, a3, a4, a5, a6⟩ | ⟨a1, a2, a3⟩ | ⟨a1, a2, a, a3, a4, a5⟩ | ⟨a1, a2, i, a3, a4, a5, a6⟩
  · -- a free variable
    have hev : ∃ y', (if ¬ y = 0 then some (1 : Int32) else if ¬ v' = nI (φ ix) then some (0 : Int32) else some (1 : Int32)) = some y' ∧ (y' = 0 ∨ y' = 1) ∧ (y = 1 → y' = 1) ∧ (y' = 1 → P ix) ∧ (i = ix → y' = 1) := by
      rcases hy with e | e
      · by_cases e2 : i = ix
        · refine ⟨1, ?_, Or.inr rfl, fun _ => rfl, fun _ => hP' ix hix (Or.inl (by rw [a5, e2])), fun _ => rfl⟩
          rw [if_neg (not_not_intro e), if_neg (not_not_intro (by rw [a6, e2]))]
        · refine ⟨0, ?_, Or.inl rfl, fun q => by rw [e] at q; exact absurd q (by decide), fun q => absurd q (by decide), fun q => absurd q e2⟩
          rw [if_neg (not_not_intro e), if_pos]
          intro q
          rw [a6] at q
          obtain ⟨b1, -⟩ := hR.2.2.1 i a3
          obtain ⟨b2, -⟩ := hR.2.2.1 ix hix
          exact e2 (phi_inj hR a3 hix ((nI_eq (by omega) (by omega)).mp q))
      · exact ⟨1, by rw [if_pos (by rw [e]; decide)], Or.inr rfl, fun _ => rfl, fun _ => h6 e, fun _ => rfl⟩
    obtain ⟨y', y1, y2, y3, y4, y5⟩ := hev
    refine ⟨p, y', sI (sI (sI ν 70 30 (nI (b + p))) 70 40 k') 70 41 v', fun fl => ?_, rest y' _ p h1 rfl h3 y2 (Nat.le_refl _) hlow (fun x q1 q2 => by omega) (fun _ _ q => q) (fun j _ _ q => Or.inl q) y3 y4 ?_, ?_, fun _ _ => ⟨rfl, rfl⟩, fun _ => Or.inl rfl⟩
    · rw [hun, if_neg (not_not_intro a2), y1, b1_s]
    · intro u q
      rw [hf] at q
      have e := Option.some.inj q
      subst e
      refine ⟨fun q => y5 ?_, fun j hj q => ?_⟩
      · exact ((wd_eq (by omega) (by omega) (by omega) (by omega)).mp (a5.symm.trans q)).1
      · have := ((wd_eq (by omega) (by omega) (by omega) (by omega)).mp (a5.symm.trans q)).2
        omega
    · show p + 3 * unn N φ K mn ν < _
      omega
  · refine ⟨p, y, sI (sI (sI ν 70 30 (nI (b + p))) 70 40 k') 70 41 v', fun fl => ?_, rest y _ p h1 rfl h3 hy (Nat.le_refl _) hlow (fun x q1 q2 => by omega) (fun _ _ q => q) (fun j _ _ q => Or.inl q) id h6 ?_, ?_, fun _ _ => ⟨rfl, rfl⟩, fun _ => Or.inl rfl⟩
    · rw [hun, if_pos (show ¬ k' = 0 by rw [a2]; decide), if_pos (show ¬ k' = 3 by rw [a2]; decide)]
    · intro u q
      rw [hf] at q
      have e := Option.some.inj q
      subst e
      refine ⟨fun q => ?_, fun j hj q => ?_⟩
      · rw [q, kd_wd (by omega) (by omega)] at a1; omega
      · rw [q, kd_wd (by omega) (by omega)] at a1; omega
    · show p + 3 * unn N φ K mn ν < _
      omega
  · refine ⟨p, y, sI (sI (sI ν 70 30 (nI (b + p))) 70 40 k') 70 41 v', fun fl => ?_, rest y _ p h1 rfl h3 hy (Nat.le_refl _) hlow (fun x q1 q2 => by omega) (fun _ _ q => q) (fun j _ _ q => Or.inl q) id h6 ?_, ?_, fun _ _ => ⟨rfl, rfl⟩, fun _ => Or.inl rfl⟩
    · rw [hun, if_pos (show ¬ k' = 0 by rw [a2]; decide), if_pos (show ¬ k' = 3 by rw [a2]; decide)]
    · intro u q
      rw [hf] at q
      have e := Option.some.inj q
      subst e
      refine ⟨fun q => ?_, fun j hj q => ?_⟩
      · rw [q, kd_wd (by omega) (by omega)] at a1; omega
      · rw [q, kd_wd (by omega) (by omega)] at a1; omega
    · show p + 3 * unn N φ K mn ν < _
      omega
  · -- a structure
    obtain ⟨c1, -⟩ := hR.2.2.1 i a3
    by_cases hm : ν 90 (φ i) = mn
    · refine ⟨p, y, sI (sI (sI ν 70 30 (nI (b + p))) 70 40 k') 70 41 v', fun fl => ?_, rest y _ p h1 rfl h3 hy (Nat.le_refl _) hlow (fun x q1 q2 => by omega) (fun _ _ q => q) (fun j _ _ q => Or.inl q) id h6 ?_, ?_, fun _ _ => ⟨rfl, rfl⟩, fun _ => Or.inl rfl⟩
      · rw [hun, if_pos (show ¬ k' = 0 by rw [a2]; decide), if_neg (not_not_intro a2), a6, rd_n c1 (by decide), b1_s, if_pos hm]
      · intro u q
        rw [hf] at q
        have e := Option.some.inj q
        subst e
        refine ⟨fun q => ?_, fun j hj q => ?_⟩
        · rw [q, kd_wd (by omega) (by omega)] at a1; omega
        · have e := ((wd_eq (by omega) (by omega) (by omega) (by omega)).mp (a5.symm.trans q)).1
          subst e; exact hm
      · show p + 3 * unn N φ K mn ν < _
        omega
    · obtain ⟨a, nm, g1, g2, g3, g4, g5, g6, g7, g8⟩ := st_of hR a3 a4
      have hd : unn N φ K mn ν = unn N φ K mn (sI (sI (sI (sI ν 70 30 (nI (b + p))) 70 40 k') 70 41 v') 90 (φ i) mn) + 1 := by
        unfold unn
        refine cnt_set (k := i) a3 (fun j hj hne => ?_) (decide_eq_false fun q => q.2 sI_at) (decide_eq_true ⟨a4, hm⟩)
        rw [sI_nj (fun q => hne (phi_inj hR hj a3 q))]
        rfl
      obtain ⟨ν2, w1, w2, w3, w4⟩ := pa_s (ν := sI (sI (sI (sI ν 70 30 (nI (b + p))) 70 40 k') 70 41 v') 90 (φ i) mn) hR a3 a4 g4 g1 g2 g3 h1 (p := b + p) rfl (by omega)
      have hm90 : ν2 90 = sI (sI (sI (sI ν 70 30 (nI (b + p))) 70 40 k') 70 41 v') 90 (φ i) mn 90 := w4.1 90 (by decide) (by decide) (by decide)
      have hself : ν2 90 (φ i) = mn := by rw [hm90]; exact sI_at
      have hne : ∀ j, j < N → j ≠ i → ν2 90 (φ j) = ν 90 (φ j) := by
        intro j hj hji
        rw [hm90, sI_nj (fun q => hji (phi_inj hR hj a3 q))]
        rfl
      refine ⟨p + a, y, ν2, fun fl => ?_, rest y ν2 (p + a) (pfr_ok w4 h1) (by rw [w2]; congr 1; omega) ?_ hy (by omega) (fun x hx => ?_) (fun x q1 q2 => ?_) (fun j hj q => ?_) (fun j hj hK q => ?_) id h6 ?_, ?_, fun x hx => ?_, fun c => ?_⟩
      · rw [hun, if_pos (show ¬ k' = 0 by rw [a2]; decide), if_neg (not_not_intro a2), a6, rd_n c1 (by decide), b1_s, if_neg hm, wr_n c1 (by decide), b1_s]
        rw [a6] at w1
        rw [show sI (sI (sI (sI ν 70 30 (nI (b + p))) 70 40 k') 70 41 (nI (φ i))) 90 (φ i) mn 70 41 = nI (φ i) from rfl, w1, b1_s]
      · rw [w4.2.1 34 (by decide)]; exact h3
      · rw [(w4.2.2 (b + x) (by omega)).1, (w4.2.2 (b + x) (by omega)).2]; exact ⟨rfl, rfl⟩
      · obtain ⟨y1, y2⟩ := w3 (a - 1 - (x - p)) (by omega)
        rw [show b + p + (a - 1 - (a - 1 - (x - p))) = b + x by omega] at y1 y2
        rw [y1, y2]
        obtain ⟨-, -, -, z⟩ := g8 (a - 1 - (x - p)) (by omega)
        exact ⟨_, z, fun j hj q => hP i j a3 hj (hP' i a3 (Or.inr a5)) (Or.inr ⟨a4, a, nm, _, g4, g3, g2, by omega, q⟩)⟩
      · by_cases e : j = i
        · subst e; exact hself
        · rw [hne j hj e]; exact q
      · by_cases e : j = i
        · subst e
          refine Or.inr ⟨hP' j hj (Or.inr a5), fun a2 nm2 m e1 e2 e3 e4 => ?_⟩
          have e := (wd_eq (by omega) (by omega) (by omega) (by omega)).mp (e1.symm.trans g4)
          have ea : a2 = a := by omega
          subst ea
          obtain ⟨y1, y2⟩ := w3 m e4
          exact ⟨p + (a2 - 1 - m), by omega, by rw [← Nat.add_assoc]; exact y1, by rw [← Nat.add_assoc]; exact y2⟩
        · rw [hne j hj e] at q; exact Or.inl q
      · intro u q
        rw [hf] at q
        have e := Option.some.inj q
        subst e
        refine ⟨fun q => ?_, fun j hj q => ?_⟩
        · rw [q, kd_wd (by omega) (by omega)] at a1; omega
        · have e := ((wd_eq (by omega) (by omega) (by omega) (by omega)).mp (a5.symm.trans q)).1
          subst e; exact hself
      · have : unn N φ K mn ν2 = unn N φ K mn (sI (sI (sI (sI ν 70 30 (nI (b + p))) 70 40 k') 70 41 v') 90 (φ i) mn) := by unfold unn; rw [hm90]
        omega
      · rw [(w4.2.2 x (by omega)).1, (w4.2.2 x (by omega)).2]; exact ⟨rfl, rfl⟩
      · rw [hm90]
        by_cases e : c = φ i
        · subst e; exact Or.inr sI_at
        · rw [sI_nj e]; exact Or.inl rfl
end OCB
