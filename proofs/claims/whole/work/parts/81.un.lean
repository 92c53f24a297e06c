/-! two structures; all pairs: unify, class and reference alike -/
section UNA
variable {C U T KK V NM A C0 TR0 B0 : Nat → Int32} {N S tr tb n M q : Nat} {φ K τ : Nat → Nat} {μ ν : Mu}
theorem op_l {i j a : Nat} (hia : i + a < 240) (hja : j + a < 240) (hφi : φ i < 240) (hφj : φ j < 240) (ha : a ≤ 3) (hi : ∀ m, m < a → A (3 * φ i + m) = nI (φ (i + 1 + m)) ∧ φ (i + 1 + m) < 240 ∧ tmR N φ K (C (i + 1 + m)) (KK (φ (i + 1 + m))) (V (φ (i + 1 + m)))) (hj : ∀ m, m < a → A (3 * φ j + m) = nI (φ (j + 1 + m)) ∧ φ (j + 1 + m) < 240 ∧ tmR N φ K (C (j + 1 + m)) (KK (φ (j + 1 + m))) (V (φ (j + 1 + m)))) (d : Nat) : ∀ (f1 f2 q : Nat) (μ ν : Mu), d ≤ a → d < f1 → d < f2 → prs N φ K q μ ν → μ 41 = C → okM KK V NM A ν → q + d ≤ 601 →
    ∃ μ' ν', f_UN_openArguments_29 (wd i 7) (wd j 7) f1 (nI d) μ = some μ' ∧ f_MO_pushPairs_13 (nI (φ i)) (nI (φ j)) f2 (nI d - 1) ν = some ν' ∧ prs N φ K (q + d) μ' ν' := by
  induction d with
  | zero =>
    intro f1 f2 q μ ν hd h1 h2 hp hμ hok hb
    cases f1 with
    | zero => omega
    | succ f1 =>
    cases f2 with
    | zero => omega
    | succ f2 =>
    refine ⟨μ, ν, ?_, ?_, hp⟩
    · unfold f_UN_openArguments_29
      rw [if_pos (by decide)]
    · unfold f_MO_pushPairs_13
      rw [if_pos (by decide)]
  | succ d ih =>
    intro f1 f2 q μ ν hd h1 h2 hp hμ hok hb
    cases f1 with
    | zero => omega
    | succ f1 =>
    cases f2 with
    | zero => omega
    | succ f2 =>
    obtain ⟨x1, x2, x3⟩ := hi d (by omega)
    obtain ⟨y1, y2, y3⟩ := hj d (by omega)
    obtain ⟨p1, p2, p3⟩ := hp
    obtain ⟨ν1, u1, u2, u3, u4, u5⟩ := push_s (ν := ν) (p := 2 * q) (k := KK (φ (j + 1 + d))) (v := V (φ (j + 1 + d))) p2 (by omega)
    obtain ⟨ν2, w1, w2, w3, w4, w5⟩ := push_s (ν := ν1) (p := 2 * q + 1) (k := KK (φ (i + 1 + d))) (v := V (φ (i + 1 + d))) u2 (by omega)
    have hok1 := pfr_ok u5 hok
    have hok2 := pfr_ok w5 hok1
    have hp2 : prs N φ K (q + 1) (sI (sI (sI μ 50 q (C (i + 1 + d))) 51 q (C (j + 1 + d))) 49 4 (nI (q + 1))) ν2 := by
      refine ⟨rfl, w2.trans (by congr 1), fun x hx => ?_⟩
      show tmR N φ K (sI μ 50 q (C (i + 1 + d)) 50 x) _ _ ∧ tmR N φ K (sI (sI μ 50 q (C (i + 1 + d))) 51 q (C (j + 1 + d)) 51 x) _ _
      by_cases e : x = q
      · subst e
        rw [sI_at, sI_at, w3, w4, (w5.2.2 (2 * x) (by omega)).1, (w5.2.2 (2 * x) (by omega)).2, u3, u4]
        exact ⟨x3, y3⟩
      · rw [sI_nj e, sI_nj e, (w5.2.2 (2 * x + 1) (by omega)).1, (w5.2.2 (2 * x + 1) (by omega)).2, (w5.2.2 (2 * x) (by omega)).1, (w5.2.2 (2 * x) (by omega)).2, (u5.2.2 (2 * x + 1) (by omega)).1, (u5.2.2 (2 * x + 1) (by omega)).2, (u5.2.2 (2 * x) (by omega)).1, (u5.2.2 (2 * x) (by omega)).2]
        exact p3 x (by omega)
    obtain ⟨μ', ν', z1, z2, z3⟩ := ih f1 f2 (q + 1) _ ν2 (by omega) (by omega) (by omega) hp2 hμ hok2 (by omega)
    refine ⟨μ', ν', ?_, ?_, by rw [show q + (d + 1) = q + 1 + d by omega]; exact z3⟩
    · unfold f_UN_openArguments_29
      rw [if_neg (show ¬ nI (d + 1) < 1 from nI_nlt (b := 1) (by omega) (by omega)), arg_c hμ (by omega), b1_s, p1, wr_n (by omega) (by decide), b1_s, arg_c (μ := sI μ 50 q (C (i + (d + 1)))) hμ (by omega), b1_s, show sI μ 50 q (C (i + (d + 1))) 49 4 = nI q from p1, wr_n (by omega) (by decide), b1_s, pk_m1]
      rw [show sI (sI μ 50 q (C (i + (d + 1)))) 51 q (C (j + (d + 1))) 49 4 = nI q from p1, nI_1, show i + (d + 1) = i + 1 + d by omega, show j + (d + 1) = j + 1 + d by omega]
      exact z1
    · unfold f_MO_pushPairs_13
      rw [nI_pred, if_neg (nI_pos (by omega)), hok.2.2.2, mul3, mul3, rd_n (by omega) (by decide), b1_s, rd_n (by omega) (by decide), b1_s, x1, y1, hok.1, rd_n y2 (by decide), b1_s, hok.2.1, rd_n y2 (by decide), b1_s, u1, b1_s, hok1.1, rd_n x2 (by decide), b1_s, hok1.2.1, rd_n x2 (by decide), b1_s, w1, b1_s, i_m1]
      exact z2
theorem look_ss (h : unB U T NM A N S φ K τ C0 TR0 B0 tr tb C KK V n M q μ ν) (hq : q ≤ 598) {i j : Nat} (hi : i < N) (hj : j < N) (hKi : K i = 2) (hKj : K j = 2) : lkR U T NM A N S φ K τ C0 TR0 B0 tr tb M q (wd i 7) (wd j 7) 3 (nI (φ i)) 3 (nI (φ j)) μ ν := by
  have hU := h
  obtain ⟨hR, h2, h3, h4, h5, h6, h7, h8, h9, h10⟩ := h
  have hN := hR.1
  obtain ⟨a, nm, g1, g2, g3, g4, g5, g6, g7, g8⟩ := st_of hR hi hKi
  obtain ⟨a', nm', g1', g2', g3', g4', g5', g6', g7', g8'⟩ := st_of hR hj hKj
  have hL : f_UN_lookAt (wd i 7) (wd j 7) μ = b2 (f_UN_openArguments (wd i 7) (wd j 7) μ) fun v μ' => if (v = 0 ∨ v = 1) then some (v, μ') else none := lk_ss (kd_wd (by omega) (by omega)) (kd_wd (by omega) (by omega))
  by_cases e : C i = C j
  · have e1 := (wd_eq (by omega) (by omega) (by omega) (by omega)).mp (g4.symm.trans (e.trans g4'))
    have ea : a' = a := by omega
    subst ea
    obtain ⟨μ', ν', z1, z2, z3⟩ := op_l (C := C) (KK := KK) (V := V) (NM := NM) (A := A) (N := N) (φ := φ) (K := K) (i := i) (j := j) (a := a') (by omega) (by omega) g7 g7' g2 (fun m hm => ⟨(g8 m hm).1, (g8 m hm).2.1, (g8 m hm).2.2.2⟩) (fun m hm => ⟨(g8' m hm).1, (g8' m hm).2.1, (g8' m hm).2.2.2⟩) a' fu fu q μ ν (Nat.le_refl _) (by unfold fu; omega) (by unfold fu; omega) h10 h2 h4 (by omega)
    have c1 : f_UN_openArguments (wd i 7) (wd j 7) μ = some (1, μ') := by
      unfold f_UN_openArguments
      rw [nm_c h2 (by omega), b1_s, nm_c h2 (by omega), b1_s, if_pos e, g4, ar_sc g3 g1 g2, b1_s, z1, b1_s]
    have c2 : f_MO_pushPairs (nI (φ i)) (nI (φ j)) ν = some ν' := by
      unfold f_MO_pushPairs
      rw [h4.2.2.1, rd_n g7 (by decide), b1_s, g5, ar_s g3 g1 g2, b1_s, z2, b1_s]
    have frm : ∀ k, k ≠ 70 → k ≠ 88 → k ≠ 89 → ν' k = ν k := by
      intro k q1 q2 q3
      funext x
      exact fr_MO_pushPairs c2 (by unfold W_MO_pushPairs; omega)
    have fr7 : ∀ x, x ≠ 30 → ν' 70 x = ν 70 x := by
      intro x q1
      exact fr_MO_pushPairs c2 (by unfold W_MO_pushPairs; omega)
    have frc : ∀ k, k ≠ 49 → k ≠ 50 → k ≠ 51 → μ' k = μ k := by
      intro k q1 q2 q3
      funext x
      exact fr_UN_openArguments c1 (by unfold W_UN_openArguments; omega)
    refine ⟨1, μ', ν', C, KK, V, n, M, q + a', ?_, ?_, Or.inr ⟨rfl, fr7 49 (by decide)⟩, by omega, by omega, hR, ?_, ?_, ?_, ?_, ?_, h7, h8, ?_, z3⟩
    · rw [hL, c1, b2_s, if_pos (Or.inr rfl)]
    · rw [mt_ss, h4.2.2.1, rd_n g7 (by decide), b1_s, rd_n g7' (by decide), b1_s, g5, g5', if_pos (g4.symm.trans (e.trans g4')), c2, b1_s]
    · rw [frc 41 (by decide) (by decide) (by decide)]; exact h2
    · rw [frc 40 (by decide) (by decide) (by decide)]; exact h3
    · exact ⟨(frm 76 (by decide) (by decide) (by decide)).trans h4.1, (frm 77 (by decide) (by decide) (by decide)).trans h4.2.1, (frm 78 (by decide) (by decide) (by decide)).trans h4.2.2.1, (frm 79 (by decide) (by decide) (by decide)).trans h4.2.2.2⟩
    · rw [frm 75 (by decide) (by decide) (by decide)]; exact h5
    · exact trA_c h6 (by rw [frc 40 (by decide) (by decide) (by decide)]) (frc 42 (by decide) (by decide) (by decide)) (fr7 23 (by decide)) (frm 86 (by decide) (by decide) (by decide))
    · unfold mkB
      rw [fr7 34 (by decide), frm 90 (by decide) (by decide) (by decide)]
      exact h9
  · refine ⟨0, μ, sI ν 70 49 1, C, KK, V, n, M, q, ?_, ?_, Or.inl ⟨rfl, rfl⟩, by omega, by omega, hU⟩
    · rw [hL]
      unfold f_UN_openArguments
      rw [nm_c h2 (by omega), b1_s, nm_c h2 (by omega), b1_s, if_neg e, b2_s, if_pos (Or.inl rfl)]
    · rw [mt_ss, h4.2.2.1, rd_n g7 (by decide), b1_s, rd_n g7' (by decide), b1_s, g5, g5', if_neg (fun w => e (g4.trans (w.trans g4'.symm)))]
theorem look_s (h : unB U T NM A N S φ K τ C0 TR0 B0 tr tb C KK V n M q μ ν) (hM : M < 2 ^ 29) (hq : q ≤ 598) {t1 k1 v1 t2 k2 v2 : Int32} (h1 : tmR N φ K t1 k1 v1) (h2 : tmR N φ K t2 k2 v2) (f1 : ∀ i, i < N → t1 = wd i 0 → C i = wd i 0) (f2 : ∀ i, i < N → t2 = wd i 0 → C i = wd i 0) : lkR U T NM A N S φ K τ C0 TR0 B0 tr tb M q t1 t2 k1 v1 k2 v2 μ ν := by
  have hR := h.1
  have hN := hR.1
  have vn : ∀ {i : Nat} {t k v : Int32}, i < N → K i = 1 → C i = wd i 0 → tmR N φ K t k v → kd t ≠ 0 → k ≠ 0 → lkR U T NM A N S φ K τ C0 TR0 B0 tr tb M q (wd i 0) t 0 (nI (φ i)) k v μ ν ∧ lkR U T NM A N S φ K τ C0 TR0 B0 tr tb M q t (wd i 0) k v 0 (nI (φ i)) μ ν := by
    intro i t k v e1 e2 e3 e4 e5 e6
    obtain ⟨r, μ', ν', C', KK', V', n', M', u1, u2, u3, u4, u5⟩ := bui_s h hM hq e1 e2 e3 e4 e5
    have hr : r = 0 ∨ r = 1 := by rcases u3 with ⟨w, -⟩ | ⟨w, -⟩; exact Or.inl w; exact Or.inr w
    refine ⟨⟨r, μ', ν', C', KK', V', n', M', q, ?_, ?_, u3, u4, by omega, u5⟩, ⟨r, μ', ν', C', KK', V', n', M', q, ?_, ?_, u3, u4, by omega, u5⟩⟩
    · rw [lk_vn (kd_wd (by omega) (by omega)) e5, u1, b2_s, if_pos hr]
    · rw [mt_vn e6, u2]
    · rw [lk_nv e5 (kd_wd (by omega) (by omega)), u1, b2_s, if_pos hr]
    · rw [mt_nv e6, u2]
  have nn : kd t1 ≠ 0 → kd t2 ≠ 0 → k1 ≠ 0 → k2 ≠ 0 → ¬ (kd t1 = 7 ∧ kd t2 = 7) → ¬ (k1 = 3 ∧ k2 = 3) → lkR U T NM A N S φ K τ C0 TR0 B0 tr tb M q t1 t2 k1 v1 k2 v2 μ ν := by
    intro e1 e2 e3 e4 e5 e6
    by_cases e : t1 = t2
    · subst e
      obtain ⟨x1, x2⟩ := tmR_fun hR h1 h2
      refine ⟨1, μ, ν, C, KK, V, n, M, q, ?_, ?_, Or.inr ⟨rfl, rfl⟩, by omega, by omega, h⟩
      · rw [lk_nn e1 e2 e5, if_pos rfl]
      · rw [mt_nn e3 e4 e6, if_pos ⟨x1, x2⟩]
    · refine ⟨0, μ, sI ν 70 49 1, C, KK, V, n, M, q, ?_, ?_, Or.inl ⟨rfl, rfl⟩, by omega, by omega, h⟩
      · rw [lk_nn e1 e2 e5, if_neg e]
      · rw [mt_nn e3 e4 e6, if_neg (fun w => e (tmR_inj hR h1 (by rw [w.1, w.2]; exact h2)))]
  rcases tmR_kd h1 hN with ⟨a1, a2, i, a3, a4, a5, a6⟩ | ⟨a1, a2, a3⟩ | ⟨a1, a2, a, a3, a4, a5⟩ | ⟨a1, a2, i, a3, a4, a5, a6⟩
  · rcases tmR_kd h2 hN with ⟨b1, b2, j, b3, b4, b5, b6⟩ | ⟨b1, b2, b3⟩ | ⟨b1, b2, b, b3, b4, b5⟩ | ⟨b1, b2, j, b3, b4, b5, b6⟩
    · rw [a5, b5, a2, b2, a6, b6]
      exact look_vv h a3 b3 a4 b4 (f1 i a3 a5) (f2 j b3 b5)
    all_goals
      rw [a5, a2, a6]
      exact (vn a3 a4 (f1 i a3 a5) h2 (by omega) (by rw [b2]; decide)).1
  · rcases tmR_kd h2 hN with ⟨b1, b2, j, b3, b4, b5, b6⟩ | ⟨b1, b2, b3⟩ | ⟨b1, b2, b, b3, b4, b5⟩ | ⟨b1, b2, j, b3, b4, b5, b6⟩
    · rw [b5, b2, b6]
      exact (vn b3 b4 (f2 j b3 b5) h1 (by omega) (by rw [a2]; decide)).2
    all_goals exact nn (by omega) (by omega) (by rw [a2]; decide) (by rw [b2]; decide) (by omega) (fun w => absurd w.1 (by rw [a2]; decide))
  · rcases tmR_kd h2 hN with ⟨b1, b2, j, b3, b4, b5, b6⟩ | ⟨b1, b2, b3⟩ | ⟨b1, b2, b, b3, b4, b5⟩ | ⟨b1, b2, j, b3, b4, b5, b6⟩
    · rw [b5, b2, b6]
      exact (vn b3 b4 (f2 j b3 b5) h1 (by omega) (by rw [a2]; decide)).2
    all_goals exact nn (by omega) (by omega) (by rw [a2]; decide) (by rw [b2]; decide) (by omega) (fun w => absurd w.1 (by rw [a2]; decide))
  · rcases tmR_kd h2 hN with ⟨b1, b2, j, b3, b4, b5, b6⟩ | ⟨b1, b2, b3⟩ | ⟨b1, b2, b, b3, b4, b5⟩ | ⟨b1, b2, j, b3, b4, b5, b6⟩
    · rw [b5, b2, b6]
      exact (vn b3 b4 (f2 j b3 b5) h1 (by omega) (by rw [a2]; decide)).2
    · exact nn (by omega) (by omega) (by rw [a2]; decide) (by rw [b2]; decide) (by omega) (fun w => absurd w.2 (by rw [b2]; decide))
    · exact nn (by omega) (by omega) (by rw [a2]; decide) (by rw [b2]; decide) (by omega) (fun w => absurd w.2 (by rw [b2]; decide))
    · rw [a5, b5, a2, b2, a6, b6]
      exact look_ss h hq a3 b3 a4 b4
end UNA
