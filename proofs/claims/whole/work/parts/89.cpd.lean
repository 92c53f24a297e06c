section CPD
variable {N0 S0 F : Nat} {has : Nat → Bool} {C0 : Nat → Int32} {φ0 K0 τ0 : Nat → Nat} {C U T KK V NM A : Nat → Int32} {N S : Nat} {φ K τ : Nat → Nat} {oc hc om : Nat} {μ ν : Mu}
theorem opT_m {N' : Nat} {C' : Nat → Int32} {φ' K' : Nat → Nat} {R44 R94 R95 : Nat → Int32} (hN : N ≤ N') (hφ : ∀ i, i < N → φ' i = φ i) (hK : ∀ i, i < N → K' i = K i) (hC : ∀ i, i < N → K i = 2 → C' i = C i) (h : opT N0 C N φ K R44 R94 R95 om oc) : opT N0 C' N' φ' K' R44 R94 R95 om oc := by
  rcases h with h | ⟨o2, i, a, nm, nx, oc', g0, g1, g2, g3, g4, g5, g6, g7, g8, g9, g10, g11, g12, g13, g14⟩
  · exact Or.inl h
  · refine Or.inr ⟨o2, i, a, nm, nx, oc', g0, g1, by omega, by rw [hK i (by omega)]; exact g3, g4, g5, g6, by rw [hC i (by omega) g3]; exact g7, g8, by rw [hφ i (by omega)]; exact g9, g10, g11, g12, fun m q => by rw [hK _ (by omega)]; exact g13 m q, opR_m hN hφ hK hC o2 oc' g14 (fun _ _ => rfl) (fun _ _ => ⟨rfl, rfl⟩)⟩
theorem cnt_s {p : Nat → Bool} {n : Nat} : cnt p (n + 1) = cnt p n + (if p n = true then 1 else 0) := rfl
theorem upd_c {f : Nat → Int32} {i j : Nat} {x y : Int32} (h : i ≠ j) : upd (upd f i x) j y = upd (upd f j y) i x := by
  funext k
  by_cases e1 : k = i
  · subst e1; rw [upd_n h, upd_a, upd_a]
  · by_cases e2 : k = j
    · subst e2; rw [upd_a, upd_n e1, upd_a]
    · rw [upd_n e2, upd_n e1, upd_n e1, upd_n e2]
theorem fr_cw {k3 k4 : Int32} {k j : Nat} (hW : W_MO_take k j) (h79 : k ≠ 79) (fl : Nat) : ∀ {y : Int32} {ν ν' : Mu}, f_MO_copyWord_93 k3 k4 fl y ν = some ν' → ν' k j = ν k j := by
  induction fl with
  | zero => intro y ν ν' h; cases h
  | succ fl ih =>
    intro y ν ν' h
    rw [f_MO_copyWord_93] at h
    by_cases e : k3 ≤ y
    · rw [if_pos e] at h
      rw [Option.some.inj h]
    · rw [if_neg e] at h
      obtain ⟨v, ν1, e1, e2⟩ := b2_e h
      obtain ⟨ν2, e3, e4⟩ := b1_e e2
      obtain ⟨-, e5⟩ := wr_e e3
      rw [ih e4, ← e5, sI_nk h79, fr_MO_take e1 hW]
theorem s_94 {ν : Mu} {x y : Nat} {a b c : Int32} : sI (sI (sI ν 94 x a) 95 y b) 70 43 c 94 x = a := by
  show sI ν 94 x a 94 x = a
  exact sI_at
theorem s_95 {ν : Mu} {x y : Nat} {a b c : Int32} : sI (sI (sI ν 94 x a) 95 y b) 70 43 c 95 y = b := by
  show sI (sI ν 94 x a) 95 y b 95 y = b
  exact sI_at
/-- a name with arguments is copied -/
theorem cpB (h : cpI N0 S0 F has C0 φ0 K0 τ0 C U T KK V NM A N S φ K τ oc hc om μ ν) {nm a : Nat} (hnm : nm < 32) (h1 : 1 ≤ a) (ha : a ≤ 3) (hhc : hc < 30) (hom : om ≤ 38) (hoc : oc - 1 + a ≤ 30) (hoc2 : oc ≤ 30) (hNN : N + 1 + a ≤ 240) (hS : S + 1 + a < 2 ^ 30) :
    ∃ (μ1 μ2 ν2 : Mu) (om' : Nat) (C' U' T' KK' V' NM' A' : Nat → Int32) (φ' K' τ' : Nat → Nat), f_CE_place (wd N 7) μ = some μ1 ∧ f_CE_takeName (wd nm (2 + a)) μ1 = some μ2 ∧ f_MO_copyWord (wd nm (2 + a)) ν = some ν2 ∧ om' ≤ om + 1 ∧ cpI N0 S0 F has C0 φ0 K0 τ0 C' U' T' KK' V' NM' A' (N + 1 + a) (S + 1 + a) φ' K' τ' (oc - 1 + a) (if oc = 0 then hc + 1 else hc) om' μ2 ν2 := by
  have hX3 := X_3 h
  obtain ⟨hQ, ⟨c1, c2, c3, c4⟩, ⟨m1, m2, m3, m4, m5, m6⟩, hop, hdis, hhd, hva, hN0, hold, hfr, hτ⟩ := h
  have hN := hQ.1
  have hXN : ∀ i, (∃ x, x < oc ∧ μ 44 x = nI i) ∧ i < 2 ^ 30 → i < N := by
    intro i ⟨⟨x, x1, x2⟩, x3⟩
    obtain ⟨j, e1, e2, e3, e4⟩ := opR_e om oc (opT_R hop) x x1
    rw [x2] at e4
    rw [(nI_eq (by omega) (by omega)).mp e4]
    exact e2
  -- the reference takes the cells
  obtain ⟨U', T', KK', V', NM', A', φ', K', τ', νa, νb, t1, t2, t3, t4, t5, t6, t7, t8, t9, t10, t11, t12, t13⟩ := nt_s (X := fun i => (∃ x, x < oc ∧ μ 44 x = nI i) ∧ i < 2 ^ 30) (nm := nm) h1 ha hnm hNN hS (Q_X hQ (fun i hi q1 q2 => absurd ⟨q2, by omega⟩ q1)) hXN m1 m2 m3 m4
  have fra : ∀ k, k ≠ 70 → k ≠ 74 → k ≠ 75 → k ≠ 76 → k ≠ 77 → k ≠ 78 → k ≠ 79 → νb k = ν k := by
    intro k q1 q2 q3 q4 q5 q6 q7
    funext j
    rw [fr_cw (by unfold W_MO_take; omega) q7 fu t3, sI_nk q6, fr_MO_take t1 (by unfold W_MO_take; omega)]
  have fr7 : ∀ j, j ≠ 12 → νb 70 j = ν 70 j := by
    intro j q1
    rw [fr_cw (by unfold W_MO_take; omega) (by decide) fu t3, show sI νa 78 (φ' N) (wd nm (2 + a)) 70 j = νa 70 j from rfl, fr_MO_take t1 (by unfold W_MO_take; omega)]
  have b94 : νb 94 = ν 94 := fra 94 (by decide) (by decide) (by decide) (by decide) (by decide) (by decide) (by decide)
  have b95 : νb 95 = ν 95 := fra 95 (by decide) (by decide) (by decide) (by decide) (by decide) (by decide) (by decide)
  have b96 : νb 96 = ν 96 := fra 96 (by decide) (by decide) (by decide) (by decide) (by decide) (by decide) (by decide)
  have b97 : νb 97 = ν 97 := fra 97 (by decide) (by decide) (by decide) (by decide) (by decide) (by decide) (by decide)
  have b93 : νb 93 = ν 93 := fra 93 (by decide) (by decide) (by decide) (by decide) (by decide) (by decide) (by decide)
  have b43 : νb 70 43 = nI om := (fr7 43 (by decide)).trans m5
  have b46 : νb 70 46 = nI hc := (fr7 46 (by decide)).trans m6
  have hφ' : ∀ i, i < N → φ' i = φ i := fun i hi => (t9 i hi).1
  have hK' : ∀ i, i < N → K' i = K i := fun i hi => (t9 i hi).2.1
  have hself : tmR (N + 1 + a) φ' K' (wd N 7) 3 (nI (φ' N)) := Or.inr (Or.inr (Or.inr ⟨N, by omega, t10, rfl, rfl, rfl⟩))
  have hgself : gtR (N + 1 + a) φ' K' (wd N 7) 3 (nI (φ' N)) := Or.inr (Or.inl ⟨N, by omega, t10, rfl, rfl, rfl⟩)
  have hvar : ∀ v, v < 8 → has v = true → ∃ i, i < N + 1 + a ∧ K' i = 1 ∧ μ 43 v = nI i ∧ ν 93 v = nI (φ' i) := by
    intro v q1 q2
    obtain ⟨i, r1, r2, r3, r4⟩ := hva v q1 q2
    exact ⟨i, by omega, by rw [hK' i r1]; exact r2, r3, by rw [hφ' i r1]; exact r4⟩
  have hfr1 : frc (upd C N (wd nm (2 + a))) K' (N + 1 + a) = frc C K N := by
    have e0 : ∀ d, d ≤ 1 + a → frc (upd C N (wd nm (2 + a))) K' (N + d) = frc C K N := by
      intro d
      induction d with
      | zero =>
        intro _
        unfold frc
        refine cnt_eq N (fun i hi => ?_)
        rw [upd_n (by omega), hK' i hi]
      | succ d ih =>
        intro hd
        have := ih (by omega)
        unfold frc at this ⊢
        rw [show N + (d + 1) = (N + d) + 1 by omega]
        have hz : ¬ (decide (K' (N + d) = 1 ∧ upd C N (wd nm (2 + a)) (N + d) = wd (N + d) 0) = true) := by
          intro q
          have q1 := (of_decide_eq_true q).1
          by_cases e : d = 0
          · subst e; rw [Nat.add_zero] at q1; omega
          · have := (t12 (d - 1) (by omega)).1
            rw [show N + 1 + (d - 1) = N + d by omega] at this
            omega
        rw [cnt_s, this, if_neg hz, Nat.add_zero]
    have := e0 (1 + a) (Nat.le_refl _)
    rw [show N + (1 + a) = N + 1 + a by omega] at this
    exact this
  have hold1 : ∀ i, i < N0 → upd C N (wd nm (2 + a)) i = C0 i ∧ φ' i = φ0 i ∧ K' i = K0 i ∧ τ' i = τ0 i := by
    intro i hi
    obtain ⟨q1, q2, q3, q4⟩ := hold i hi
    obtain ⟨w1, w2, w3⟩ := t9 i (by omega)
    rw [upd_n (by omega), w1, w2, w3]
    exact ⟨q1, q2, q3, q4⟩
  have hτ1 : S0 ≤ S + 1 + a ∧ ∀ i, N0 ≤ i → i < N + 1 + a → S0 ≤ τ' i := by
    refine ⟨by omega, fun i q1 q2 => ?_⟩
    by_cases e : i < N
    · rw [(t9 i e).2.2]; exact hτ.2 i q1 e
    · have := t13 i (by omega) q2
      omega
  have hkw : f_MO_arity (wd nm (2 + a)) ν = some (nI a) := ar_s hnm h1 ha
  have hidx : ∀ i, i < 240 → ∀ x, x < oc → μ 44 x = nI i → i < N := fun i hi x x1 x2 => hXN i ⟨⟨x, x1, x2⟩, by omega⟩
  -- the class opens the arguments
  have opn : ∀ (μ1 : Mu) (o1 : Nat), o1 + a ≤ 30 → μ1 40 6 = nI o1 → μ1 40 1 = nI N → (∀ x, x < o1 → ∃ i, i < N ∧ μ1 44 x = nI i) → (∀ x y, x < y → y < o1 → μ1 44 x ≠ μ1 44 y) → ∃ μ2, f_CE_takeName (wd nm (2 + a)) μ1 = some μ2 ∧ μ2 41 = upd (μ1 41) N (wd nm (2 + a)) ∧ μ2 40 1 = nI (N + 1 + a) ∧ μ2 40 6 = nI (o1 + a) ∧ μ2 40 8 = μ1 40 8 ∧ μ2 45 = μ1 45 ∧ μ2 43 = μ1 43 ∧ (∀ x, x < o1 → μ2 44 x = μ1 44 x) ∧ (∀ m, m < a → μ2 44 (o1 + (a - 1 - m)) = nI (N + 1 + m)) ∧ (∀ x y, x < y → y < o1 + a → μ2 44 x ≠ μ2 44 y) := by
    intro μ1 o1 q1 q2 q3 q4 q5
    obtain ⟨μ', u1, u2, u3, u4, u5, u6⟩ := tn_l (N := N) (k2 := nI a) a fu o1 (sI μ1 41 N (wd nm (2 + a))) (by unfold fu; omega) q1 (by omega) q2 q3
    refine ⟨sI μ' 40 1 (nI (N + 1 + a)), ?_, ?_, rfl, u2, ?_, ?_, ?_, u4, u3, fun x y hx hy => ?_⟩
    · unfold f_CE_takeName
      rw [ar_sc hnm h1 ha, b1_s, if_pos (nI_ne0 (by omega) (by omega)), q3, wr_n (by omega) (by decide), b1_s, u1, b1_s]
      have e1 : μ' 40 1 = nI N := (u5 1 (by decide)).trans q3
      rw [e1, show (1 : Int32) + nI a = nI (1 + a) from nI_add 1 a, nI_add, show N + (1 + a) = N + 1 + a by omega]
    · show μ' 41 = _
      rw [u6 41 (by decide) (by decide)]
      exact sI_r
    · show μ' 40 8 = _
      exact u5 8 (by decide)
    · show μ' 45 = _
      exact u6 45 (by decide) (by decide)
    · show μ' 43 = _
      exact u6 43 (by decide) (by decide)
    · show μ' 44 x ≠ μ' 44 y
      by_cases e1 : y < o1
      · rw [u4 x (by omega), u4 y e1]; exact q5 x y hx e1
      · have ey := u3 (a - 1 - (y - o1)) (by omega)
        rw [show o1 + (a - 1 - (a - 1 - (y - o1))) = y by omega] at ey
        rw [ey]
        by_cases e2 : x < o1
        · obtain ⟨i, r1, r2⟩ := q4 x e2
          rw [u4 x e2, show sI μ1 41 N (wd nm (2 + a)) 44 x = μ1 44 x from rfl, r2]
          intro q
          have := (nI_eq (by omega) (by omega)).mp q
          omega
        · have ex := u3 (a - 1 - (x - o1)) (by omega)
          rw [show o1 + (a - 1 - (a - 1 - (x - o1))) = x by omega] at ex
          rw [ex]
          intro q
          have := (nI_eq (by omega) (by omega)).mp q
          omega
  by_cases e : oc = 0
  · -- a goal's term
    subst e
    have hom0 : om = 0 := by
      rcases hop with ⟨q, -⟩ | ⟨o2, i, a, nm, nx, oc', g0, g1, g2, g3, g4, g5, g6, g7, g8, g9, g10, g11, -⟩
      · exact q
      · omega
    subst hom0
    obtain ⟨μ2, p1, p2, p3, p4, p5, p6, p7, p8, p9, p10⟩ := opn (sI (sI μ 45 hc (wd N 7)) 40 8 (nI (hc + 1))) 0 (by omega) c3 c2 (fun x hx => by omega) (fun x y hx hy => by omega)
    refine ⟨sI (sI μ 45 hc (wd N 7)) 40 8 (nI (hc + 1)), μ2, sI (sI (sI (sI (sI (sI (sI (sI νb 70 40 3) 70 41 (nI (φ' N))) 96 hc 3) 97 hc (nI (φ' N))) 70 46 (nI (hc + 1))) 94 0 (nI (φ' N))) 95 0 0) 70 43 (nI 1), 1, upd C N (wd nm (2 + a)), U', T', KK', V', NM', A', φ', K', τ', ?_, p1, ?_, by omega, ?_⟩
    · unfold f_CE_place
      rw [c3, if_pos (by decide), c4, wr_n (by omega) (by decide), b1_s, show sI μ 45 hc (wd N 7) 40 8 = nI hc from c4, nI_1]
    · unfold f_MO_copyWord
      rw [hkw, b1_s, if_pos (nI_ne0 (by omega) (by omega)), t1, b2_s, wr_n t2 (by decide), b1_s, t3, b1_s, b43, if_neg (not_not_intro (show nI 0 = 0 from rfl))]
      unfold f_MO_place
      rw [show sI (sI νb 70 40 3) 70 41 (nI (φ' N)) 70 43 = nI 0 from b43, if_neg (not_not_intro (show nI 0 = 0 from rfl)), show sI (sI νb 70 40 3) 70 41 (nI (φ' N)) 70 46 = nI hc from b46, show sI (sI νb 70 40 3) 70 41 (nI (φ' N)) 70 40 = 3 from rfl, wr_n (by omega) (by decide), b1_s]
      rw [show sI (sI (sI νb 70 40 3) 70 41 (nI (φ' N))) 96 hc 3 70 46 = nI hc from b46, show sI (sI (sI νb 70 40 3) 70 41 (nI (φ' N))) 96 hc 3 70 41 = nI (φ' N) from rfl, wr_n (by omega) (by decide), b1_s]
      rw [show sI (sI (sI (sI νb 70 40 3) 70 41 (nI (φ' N))) 96 hc 3) 97 hc (nI (φ' N)) 70 46 = nI hc from b46, nI_1, b1_s, b1_s]
      rw [show sI (sI (sI (sI (sI νb 70 40 3) 70 41 (nI (φ' N))) 96 hc 3) 97 hc (nI (φ' N))) 70 46 (nI (hc + 1)) 70 43 = nI 0 from b43, wr_n (by omega) (by decide), b1_s]
      rw [show sI (sI (sI (sI (sI (sI νb 70 40 3) 70 41 (nI (φ' N))) 96 hc 3) 97 hc (nI (φ' N))) 70 46 (nI (hc + 1))) 94 0 (nI (φ' N)) 70 43 = nI 0 from b43, wr_n (by omega) (by decide), b1_s]
      rw [show sI (sI (sI (sI (sI (sI (sI νb 70 40 3) 70 41 (nI (φ' N))) 96 hc 3) 97 hc (nI (φ' N))) 70 46 (nI (hc + 1))) 94 0 (nI (φ' N))) 95 0 0 70 43 = nI 0 from b43, nI_1]
    · rw [if_pos rfl]
      have p2' : μ2 41 = upd C N (wd nm (2 + a)) := by rw [p2, show sI (sI μ 45 hc (wd N 7)) 40 8 (nI (hc + 1)) 41 = μ 41 from rfl, c1]
      refine ⟨?_, ⟨p2', p3, p4, p5.trans rfl⟩, ⟨t4, t5, t6, t7, rfl, rfl⟩, ?_, p10, fun x hx => ?_, ?_, by omega, hold1, by rw [hfr1]; exact hfr, hτ1⟩
      · refine Q_X t8 (fun i hi q1 q2 => ?_)
        exfalso
        apply q1
        rcases q2 with ⟨⟨x, x1, -⟩, -⟩ | ⟨x1, x2⟩
        · omega
        · exact ⟨0 + (a - 1 - (i - N - 1)), by omega, by rw [p9 (i - N - 1) (by omega)]; congr 1; omega⟩
      · exact Or.inr ⟨0, N, a, nm, 0, 0, rfl, hN0, by omega, t10, h1, ha, hnm, upd_a, by omega, s_94, s_95, by omega, fun m _ q => p9 m q, fun m q => (t12 m q).1, rfl⟩
      · rw [p6]
        show gtR (N + 1 + a) φ' K' (sI μ 45 hc (wd N 7) 45 x) (sI (sI (sI νb 70 40 3) 70 41 (nI (φ' N))) 96 hc 3 96 x) (sI (sI (sI (sI νb 70 40 3) 70 41 (nI (φ' N))) 96 hc 3) 97 hc (nI (φ' N)) 97 x)
        by_cases ex : x = hc
        · subst ex; rw [sI_at, sI_at, sI_at]; exact hgself
        · rw [sI_nj ex, sI_nj ex, sI_nj ex]
          show gtR (N + 1 + a) φ' K' (μ 45 x) (νb 96 x) (νb 97 x)
          rw [b96, b97]
          exact gtR_m (hhd x (by omega)) (by omega) hφ' hK'
      · intro v q1 q2
        rw [p7]
        show ∃ i, i < N + 1 + a ∧ K' i = 1 ∧ μ 43 v = nI i ∧ νb 93 v = nI (φ' i)
        rw [b93]
        exact hvar v q1 q2
  · -- an argument
    have hX2 : ∀ i, i < N + 1 + a → ((∃ x, x < oc ∧ μ 44 x = nI i) ∧ i < 2 ^ 30 ∨ N < i ∧ i ≤ N + a) → K' i = 3 := by
      intro i hi q
      rcases q with q | ⟨q1, q2⟩
      · have hiN := hXN i q
        rw [hK' i hiN]
        exact hX3 i hiN q.1
      · have := (t12 (i - N - 1) (by omega)).1
        rw [show N + 1 + (i - N - 1) = i by omega] at this
        exact this
    have hop' : opT N0 (upd C N (wd nm (2 + a))) (N + 1 + a) φ' K' (μ 44) (ν 94) (ν 95) om oc := opT_m (by omega) hφ' hK' (fun i hi _ => upd_n (by omega)) hop
    obtain ⟨o2, i, nx, o, f1, f2, f3, f4, f5, f6, f7, f8, f9, f10, f11, f12, f13⟩ := fill_1 t8 hX2 hop' (by omega) hself
    have hoN : o < N := hidx o (by omega) (oc - 1) (by omega) f11
    obtain ⟨μ2, p1, p2, p3, p4, p5, p6, p7, p8, p9, p10⟩ := opn (sI (sI μ 40 6 (nI (oc - 1))) 41 o (wd N 7)) (oc - 1) hoc rfl c2 (fun x hx => by
      obtain ⟨j, e1, e2, e3, e4⟩ := opR_e om oc (opT_R hop) x (by omega)
      exact ⟨j, e2, e4⟩) (fun x y hx hy => hdis x y hx (by omega))
    refine ⟨sI (sI μ 40 6 (nI (oc - 1))) 41 o (wd N 7), μ2, sI (sI (sI (sI (sI (sI (sI (sI νb 70 40 3) 70 41 (nI (φ' N))) 76 (φ' o) 3) 77 (φ' o) (nI (φ' N))) 95 o2 (nI (nx + 1))) 94 om (nI (φ' N))) 95 om 0) 70 43 (nI (om + 1)), om + 1, upd (upd C N (wd nm (2 + a))) o (wd N 7), U', T', upd KK' (φ' o) 3, upd V' (φ' o) (nI (φ' N)), NM', A', φ', K', τ', ?_, p1, ?_, by omega, ?_⟩
    · unfold f_CE_place
      rw [c3, if_neg (nI_nle (by omega) (by omega)), nI_m1 (by omega), rd_n (by omega) (by decide), b1_s, f11, wr_n (by omega) (by decide), b1_s]
    · unfold f_MO_copyWord
      rw [hkw, b1_s, if_pos (nI_ne0 (by omega) (by omega)), t1, b2_s, wr_n t2 (by decide), b1_s, t3, b1_s, b43, if_pos (nI_ne0 (by omega) (by omega)), nI_m1 (by omega), b94, rd_n (by omega) (by decide), b1_s, show om - 1 = o2 by omega, f2, b95, rd_n (by omega) (by decide), b1_s, f3, mul3, t6.2.2.2, rd_n (by omega) (by decide), b1_s, f6, wr_n f7 (by decide), b1_s, wr_n f7 (by decide), b1_s]
      rw [show sI (sI (sI (sI νb 70 40 3) 70 41 (nI (φ' N))) 76 (φ' o) 3) 77 (φ' o) (nI (φ' N)) 70 43 = nI om from b43, nI_m1 (by omega), show om - 1 = o2 by omega, show sI (sI (sI (sI νb 70 40 3) 70 41 (nI (φ' N))) 76 (φ' o) 3) 77 (φ' o) (nI (φ' N)) 95 = ν 95 from b95, rd_n (by omega) (by decide), b1_s, f3, nI_1, wr_n (by omega) (by decide), b1_s, b1_s]
      rw [show sI (sI (sI (sI (sI νb 70 40 3) 70 41 (nI (φ' N))) 76 (φ' o) 3) 77 (φ' o) (nI (φ' N))) 95 o2 (nI (nx + 1)) 70 43 = nI om from b43, wr_n (by omega) (by decide), b1_s]
      rw [show sI (sI (sI (sI (sI (sI νb 70 40 3) 70 41 (nI (φ' N))) 76 (φ' o) 3) 77 (φ' o) (nI (φ' N))) 95 o2 (nI (nx + 1))) 94 om (nI (φ' N)) 70 43 = nI om from b43, wr_n (by omega) (by decide), b1_s]
      rw [show sI (sI (sI (sI (sI (sI (sI νb 70 40 3) 70 41 (nI (φ' N))) 76 (φ' o) 3) 77 (φ' o) (nI (φ' N))) 95 o2 (nI (nx + 1))) 94 om (nI (φ' N))) 95 om 0 70 43 = nI om from b43, nI_1]
    · rw [if_neg e]
      have p2' : μ2 41 = upd (upd C N (wd nm (2 + a))) o (wd N 7) := by
        rw [p2, show sI (sI μ 40 6 (nI (oc - 1))) 41 o (wd N 7) 41 = upd (μ 41) o (wd N 7) from sI_r, c1, upd_c (by omega)]
      refine ⟨?_, ⟨p2', p3, p4, p5.trans c4⟩, ⟨t4, t5, ⟨?_, ?_, t6.2.2.1, t6.2.2.2⟩, t7, rfl, b46⟩, ?_, p10, fun x hx => ?_, ?_, by omega, fun j hj => ?_, ?_, hτ1⟩
      · refine Q_X f12 (fun j hj q1 q2 => ?_)
        exfalso
        apply q1
        obtain ⟨q2, q3⟩ := q2
        rcases q2 with ⟨⟨x, x1, x2⟩, -⟩ | ⟨x1, x2⟩
        · have ex : x ≠ oc - 1 := by
            intro ex
            subst ex
            rw [f11] at x2
            exact q3 ((nI_eq (by omega) (by omega)).mp x2).symm
          exact ⟨x, by omega, by rw [p8 x (by omega)]; exact x2⟩
        · exact ⟨oc - 1 + (a - 1 - (j - N - 1)), by omega, by rw [p9 (j - N - 1) (by omega)]; congr 1; omega⟩
      · rw [← t6.1]
        show sI (sI (sI νb 70 40 3) 70 41 (nI (φ' N))) 76 (φ' o) 3 76 = _
        exact sI_r
      · rw [← t6.2.1]
        show sI (sI (sI (sI νb 70 40 3) 70 41 (nI (φ' N))) 76 (φ' o) 3) 77 (φ' o) (nI (φ' N)) 77 = _
        exact sI_r
      · refine Or.inr ⟨om, N, a, nm, 0, oc - 1, rfl, hN0, by omega, t10, h1, ha, hnm, by rw [upd_n (by omega)]; exact upd_a, by omega, s_94, s_95, by omega, fun m _ q => p9 m q, fun m q => (t12 m q).1, ?_⟩
        rw [f1]
        refine opR_m (Nat.le_refl _) (fun _ _ => rfl) (fun _ _ => rfl) (fun _ _ _ => rfl) (o2 + 1) (oc - 1) f13 (fun x hx => p8 x hx) (fun x hx => ⟨?_, ?_⟩)
        · show sI (sI (sI (sI (sI (sI νb 70 40 3) 70 41 (nI (φ' N))) 76 (φ' o) 3) 77 (φ' o) (nI (φ' N))) 95 o2 (nI (nx + 1))) 94 (o2 + 1) (nI (φ' N)) 94 x = _
          rw [sI_nj (by omega)]
          show νb 94 x = _
          rw [b94]
        · show sI (sI (sI (sI (sI (sI (sI νb 70 40 3) 70 41 (nI (φ' N))) 76 (φ' o) 3) 77 (φ' o) (nI (φ' N))) 95 o2 (nI (nx + 1))) 94 (o2 + 1) (nI (φ' N))) 95 (o2 + 1) 0 95 x = _
          rw [sI_nj (by omega)]
          show sI (sI (sI (sI (sI νb 70 40 3) 70 41 (nI (φ' N))) 76 (φ' o) 3) 77 (φ' o) (nI (φ' N))) 95 o2 (nI (nx + 1)) 95 x = _
          rw [sI_r]
          show upd (νb 95) o2 (nI (nx + 1)) x = _
          rw [b95]
      · rw [p6]
        show gtR (N + 1 + a) φ' K' (μ 45 x) (νb 96 x) (νb 97 x)
        rw [b96, b97]
        exact gtR_m (hhd x hx) (by omega) hφ' hK'
      · intro v q1 q2
        rw [p7]
        show ∃ i, i < N + 1 + a ∧ K' i = 1 ∧ μ 43 v = nI i ∧ νb 93 v = nI (φ' i)
        rw [b93]
        exact hvar v q1 q2
      · rw [upd_n (by omega)]; exact hold1 j hj
      · rw [frc_3 f10, hfr1]; exact hfr
end CPD
