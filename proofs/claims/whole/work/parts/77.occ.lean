section OCC
variable {C U T KK V NM A : Nat → Int32} {N S : Nat} {φ K τ : Nat → Nat}
theorem occ_l (hR : cellsR C U T KK V NM A N S φ K τ) {P : Nat → Prop} (hP : clo C N K P) {μ0 : Mu} (h0 : μ0 41 = C) {ix : Nat} (hix : ix < N) (hKx : K ix = 1) {t0 k0 v0 mn : Int32} (ht0 : tmR N φ K t0 k0 v0) {b : Nat} (d : Nat) : ∀ (fl p : Nat) (y : Int32) (ν : Mu), p + 3 * unn N φ K mn ν ≤ d → b + d ≤ 1600 → d < fl → ocI C KK V NM A N φ K P μ0 ix t0 k0 v0 mn y b p ν →
    ∃ y' ν', f_MO_occurs_25 (nI (φ ix)) (nI b) fl y ν = some (y', ν') ∧ ocI C KK V NM A N φ K P μ0 ix t0 k0 v0 mn y' b 0 ν' ∧ (∀ x, x < b → ν' 88 x = ν 88 x ∧ ν' 89 x = ν 89 x) ∧ (∀ c, ν' 90 c = ν 90 c ∨ ν' 90 c = mn) := by
  induction d with
  | zero =>
    intro fl p y ν h1 h2 h3 hI
    cases fl with
    | zero => omega
    | succ fl =>
    have hp : p = 0 := by omega
    subst hp
    refine ⟨y, ν, ?_, hI, fun _ _ => ⟨rfl, rfl⟩, fun _ => Or.inl rfl⟩
    unfold f_MO_occurs_25
    rw [hI.2.1, if_pos (nI_le (by omega) (by omega))]
  | succ d ih =>
    intro fl p y ν h1 h2 h3 hI
    cases fl with
    | zero => omega
    | succ fl =>
    cases p with
    | zero =>
      refine ⟨y, ν, ?_, hI, fun _ _ => ⟨rfl, rfl⟩, fun _ => Or.inl rfl⟩
      unfold f_MO_occurs_25
      rw [hI.2.1, if_pos (nI_le (by omega) (by omega))]
    | succ p =>
      obtain ⟨p', y1, ν1, u1, u2, u3, u4, u5⟩ := occ_1 hR hP h0 hix hKx ht0 hI (by omega)
      obtain ⟨y2, ν2, v1, v2, v3, v4⟩ := ih fl p' y1 ν1 (by omega) (by omega) (by omega) u2
      refine ⟨y2, ν2, (u1 fl).trans v1, v2, fun x hx => ?_, fun c => ?_⟩
      · rw [(v3 x hx).1, (v3 x hx).2]; exact u4 x hx
      · rcases v4 c with q | q
        · rw [q]; exact u5 c
        · exact Or.inr q
/-- the marks are old -/
def mkB (M : Nat) (ν : Mu) : Prop := ν 70 34 = nI M ∧ ∀ c, c < 240 → ∃ n, n ≤ M ∧ ν 90 c = nI n
/-- what hangs on term t -/
def hang (C : Nat → Int32) (N : Nat) (K : Nat → Nat) (t : Int32) (i : Nat) : Prop := ∀ P, clo C N K P → (∀ j, j < N → tgt t j → P j) → P i
theorem occ_s (hR : cellsR C U T KK V NM A N S φ K τ) {ix : Nat} (hix : ix < N) (hKx : K ix = 1) (hfr : C ix = wd ix 0) {t k v : Int32} (ht : tmR N φ K t k v) {ν : Mu} {b M : Nat} (hok : okM KK V NM A ν) (hb : ν 70 30 = nI b) (hb2 : b ≤ 1196) (hM : mkB M ν) (hM2 : M < 2 ^ 30) :
    ∃ y ν', f_MO_occurs (nI (φ ix)) k v ν = some (y, ν') ∧ (y = 0 ∨ y = 1) ∧ (y = 1 ↔ hang C N K t ix) ∧ ν' 70 30 = nI b ∧ mkB (M + 1) ν' ∧ (∀ x, x < b → ν' 88 x = ν 88 x ∧ ν' 89 x = ν 89 x) := by
  have hN := hR.1
  obtain ⟨μ0, h0⟩ : ∃ μ0 : Mu, μ0 41 = C := ⟨fun _ => C, rfl⟩
  obtain ⟨ν1, u1, u2, u3, u4, u5⟩ := push_s (ν := sI ν 70 34 (nI (M + 1))) (p := b) (k := k) (v := v) hb (by omega)
  have hu34 : ν1 70 34 = nI (M + 1) := by rw [u5.2.1 34 (by decide)]; rfl
  have hu90 : ν1 90 = ν 90 := u5.1 90 (by decide) (by decide) (by decide)
  have hnm : ∀ c, c < 240 → ν1 90 c ≠ nI (M + 1) := by
    intro c hc q
    obtain ⟨n, n1, n2⟩ := hM.2 c hc
    rw [hu90, n2] at q
    have := (nI_eq (by omega) (by omega)).mp q
    omega
  have hh := names_h hR
  have hub : unn N φ K (nI (M + 1)) ν1 ≤ 120 := by
    have : unn N φ K (nI (M + 1)) ν1 ≤ cnt (fun i => decide (K i = 2)) N := cnt_mono N (fun i hi q => decide_eq_true (of_decide_eq_true q).1)
    omega
  have hstart : ∀ {y : Int32} {ν' : Mu}, f_MO_occurs_25 (nI (φ ix)) (nI b) fu 0 ν1 = some (y, ν') → (y = 0 ∨ y = 1) → f_MO_occurs (nI (φ ix)) k v ν = some (y, ν') := by
    intro y ν' e1 e2
    unfold f_MO_occurs
    rw [hM.1, nI_1, u1, b1_s, hb, e1, b2_s, if_pos e2]
  have main : ∀ P, clo C N K P → (∀ j, j < N → tgt t j → P j) → ∃ y ν', f_MO_occurs (nI (φ ix)) k v ν = some (y, ν') ∧ ocI C KK V NM A N φ K P μ0 ix t k v (nI (M + 1)) y b 0 ν' ∧ (∀ x, x < b → ν' 88 x = ν1 88 x ∧ ν' 89 x = ν1 89 x) ∧ (∀ c, ν' 90 c = ν1 90 c ∨ ν' 90 c = nI (M + 1)) := by
    intro P p1 p2
    have hI : ocI C KK V NM A N φ K P μ0 ix t k v (nI (M + 1)) 0 b 1 ν1 := by
      refine ⟨pfr_ok u5 hok, u2, hu34, Or.inl rfl, fun x hx => ?_, fun i hi hK q => absurd q (hnm _ (hR.2.2.1 i hi).1), fun q => absurd q (by decide), fun i a nm m hi hK q => absurd q (hnm _ (hR.2.2.1 i hi).1), Or.inr ⟨0, by omega, u3, u4⟩⟩
      have e : x = 0 := by omega
      subst e
      refine ⟨t, ?_, p2⟩
      rw [show b + 0 = b by omega, u3, u4]; exact ht
    obtain ⟨y, ν', v1, v2, v3, v4⟩ := occ_l hR p1 h0 hix hKx ht 361 fu 1 0 ν1 (by omega) (by omega) (by unfold fu; omega) hI
    exact ⟨y, ν', hstart v1 v2.2.2.2.1, v2, v3, v4⟩
  obtain ⟨y, ν', m1, m2, m3, m4⟩ := main (fun _ => True) (fun _ _ _ _ _ _ => trivial) (fun _ _ _ => trivial)
  have hI2 := m2
  obtain ⟨k1, k2, k3, k4, k5, k6, k7, k8, k9⟩ := m2
  refine ⟨y, ν', m1, k4, ⟨fun q P p1 p2 => ?_, fun q => ?_⟩, k2, ⟨k3, fun c hc => ?_⟩, fun x hx => ?_⟩
  · obtain ⟨y2, ν2, n1, n2, -, -⟩ := main P p1 p2
    rw [m1] at n1
    have e := Option.some.inj n1
    have e1 := congrArg Prod.fst e
    have e1' : y = y2 := e1
    exact n2.2.2.2.2.2.2.1 (e1' ▸ q)
  · -- the set of what was looked at is closed
    have gdv : ∀ i, i < N → K i = 1 → gd C N φ μ0 ix (nI (M + 1)) y ν' (wd i 0) → C i ≠ wd i 0 → gd C N φ μ0 ix (nI (M + 1)) y ν' (C i) := by
      intro i hi hK g e u hu
      exact g u (by rw [fo_step hR h0 hi hK e]; exact hu)
    have ingd : ∀ u, gd C N φ μ0 ix (nI (M + 1)) y ν' u → ∀ j, j < N → tgt u j → ((∃ i, i < N ∧ (K i = 1 ∨ K i = 2) ∧ tgt u i ∧ (u = wd i 0 → K i = 1) ∧ (u = wd i 7 → K i = 2)) ∨ (kd u ≠ 0 ∧ kd u ≠ 7)) → (K j = 1 ∧ gd C N φ μ0 ix (nI (M + 1)) y ν' (wd j 0)) ∨ (K j = 2 ∧ ν' 90 (φ j) = nI (M + 1)) := by
      intro u g j hj hu hw
      rcases hw with ⟨i, w1, w2, w3, w4, w5⟩ | hw
      · have e := tgt_u w3 hu (by omega) (by omega)
        subst e
        rcases hu with hu | hu
        · exact Or.inl ⟨w4 hu, by rw [← hu]; exact g⟩
        · refine Or.inr ⟨w5 hu, ?_⟩
          exact (g u (fo_non (by rw [hu, kd_wd (by omega) (by omega)]; omega))).2 i w1 hu
      · exact absurd hu (tgt_no hw (by omega))
    have tmw : ∀ {u k v : Int32}, tmR N φ K u k v → (∃ i, i < N ∧ (K i = 1 ∨ K i = 2) ∧ tgt u i ∧ (u = wd i 0 → K i = 1) ∧ (u = wd i 7 → K i = 2)) ∨ (kd u ≠ 0 ∧ kd u ≠ 7) := by
      intro u k v hu
      rcases tmR_kd hu hN with ⟨b1, b2, j, b3, b4, b5, b6⟩ | ⟨b1, b2, b3⟩ | ⟨b1, b2, b, b3, b4, b5⟩ | ⟨b1, b2, j, b3, b4, b5, b6⟩
      · exact Or.inl ⟨j, b3, Or.inl b4, Or.inl b5, fun _ => b4, fun q => by rw [q, kd_wd (by omega) (by omega)] at b1; omega⟩
      · exact Or.inr ⟨by omega, by omega⟩
      · exact Or.inr ⟨by omega, by omega⟩
      · exact Or.inl ⟨j, b3, Or.inr b4, Or.inr b5, fun q => (by rw [q, kd_wd (by omega) (by omega)] at b1; omega), fun _ => b4⟩
    have hon0 : ∀ k v, ¬ ont b 0 ν' k v := fun k v ⟨x, x1, _⟩ => by omega
    have hroot : gd C N φ μ0 ix (nI (M + 1)) y ν' t := k9.resolve_right (hon0 _ _)
    have hcl : clo C N K (fun j => (K j = 1 ∧ gd C N φ μ0 ix (nI (M + 1)) y ν' (wd j 0)) ∨ (K j = 2 ∧ ν' 90 (φ j) = nI (M + 1))) := by
      intro i j hi hj hq hE
      rcases hE with ⟨e1, e2⟩ | ⟨e1, a, nm, m, e2, e3, e4, e5, e6⟩
      · have hg : gd C N φ μ0 ix (nI (M + 1)) y ν' (wd i 0) := by
          rcases hq with ⟨-, g⟩ | ⟨g, -⟩
          · exact g
          · omega
        by_cases ec : C i = wd i 0
        · rw [ec] at e2
          have e := tgt_u (i := i) (Or.inl rfl) e2 (by omega) (by omega)
          subst e
          exact Or.inl ⟨e1, hg⟩
        · have hc := hR.2.2.2.2.2 i hi
          rcases hc with ⟨-, ⟨u1, u2⟩ | ⟨u1, u2, u3⟩⟩ | ⟨q1, -⟩ | ⟨q1, -⟩
          · exact absurd u1 ec
          · exact ingd (C i) (gdv i hi e1 hg ec) j hj e2 (tmw u2)
          · omega
          · omega
      · have hmk : ν' 90 (φ i) = nI (M + 1) := by
          rcases hq with ⟨g, -⟩ | ⟨-, g⟩
          · omega
          · exact g
        obtain ⟨a', nm', f1, f2, f3, f4, f5, f6, f7, f8⟩ := st_of hR hi e1
        have e := (wd_eq (by omega) (by omega) (by omega) (by omega)).mp (e2.symm.trans f4)
        have ea : a' = a := by omega
        subst ea
        exact ingd _ ((k8 i a' nm m hi e1 hmk e2 e3 e4 e5).resolve_right (hon0 _ _)) j hj e6 (tmw (f8 m e5).2.2.2)
    rcases q _ hcl (fun j hj hu => ingd t hroot j hj hu (tmw ht)) with ⟨-, g⟩ | ⟨g, -⟩
    · exact (g (wd ix 0) (fo_free h0 (by omega) hfr)).1 rfl
    · omega
  · rcases m4 c with q | q
    · rw [q, hu90]
      obtain ⟨n, n1, n2⟩ := hM.2 c hc
      exact ⟨n, by omega, n2⟩
    · exact ⟨M + 1, Nat.le_refl _, q⟩
  · rw [(m3 x hx).1, (m3 x hx).2]; exact u5.2.2 x hx
end OCC
