/-! a collection, class and reference alike -/
section CGB
variable {g cap R : Nat} {has : Nat → Bool} {N S c tr tb nq GT P M : Nat} {φ K τ cm tm gm cs ct : Nat → Nat} {μ ν : Mu}
theorem n_m1 {x : Nat} (hx : x < 2 ^ 30) : ¬ (-1 : Int32) = nI x := by
  intro q
  have := congrArg Int32.toInt q
  rw [nI_toInt (by omega), show (-1 : Int32).toInt = -1 by decide] at this
  omega
theorem cnt_idx {lv q q' : Nat → Bool} {idx : Nat → Nat} (hx : idxR N lv idx) (hq : ∀ n, n < cnt lv N → q' n = true → q (idx n) = true) (m : Nat) : m ≤ N → cnt q' (cnt lv m) ≤ cnt q m := by
  induction m with
  | zero => intro _; exact Nat.le_refl _
  | succ m ih =>
    intro hm
    have h1 := ih (by omega)
    rw [cnt_s (p := lv), cnt_s (p := q)]
    by_cases e : lv m = true
    · rw [if_pos e, cnt_s]
      obtain ⟨e1, e2⟩ := idx_np hx (show m < N by omega) e
      by_cases e3 : q' (cnt lv m) = true
      · have := hq (cnt lv m) e1 e3
        rw [e2] at this
        rw [if_pos e3, if_pos this]
        omega
      · rw [if_neg e3]; omega
    · rw [if_neg e, Nat.add_zero]; omega
theorem nm_mv {lv : Nat → Bool} {C C' : Nat → Int32} {N1 : Nat} (hN : N1 ≤ N) (hN2 : N ≤ 240) {t hh gw w : Int32} (h : goR N1 φ K t hh gw) (h2 : nmR C t w) (hlv : ∀ i, i < N → t = wd i 7 → lv i = true) (hC : ∀ i, i < N → lv i = true → C' (cnt lv i) = mv (cnt lv) (C i)) (hn : ∀ i, i < N → K i = 2 → kd (C i) ≠ 0 ∧ kd (C i) ≠ 7) : nmR C' (mv (cnt lv) t) w := by
  obtain ⟨x, -, -, ⟨a, a1, a2, -⟩ | ⟨i, i1, i2, -, i3, -⟩ | ⟨a2, -⟩⟩ := h
  · rw [mv_n ⟨by rw [a2, kd_wd (by omega) (by omega)]; omega, by rw [a2, kd_wd (by omega) (by omega)]; omega⟩]
    rcases h2 with ⟨j, j1, j2, -⟩ | h2
    · have := ((wd_eq (by omega) (by omega) (by omega) (by omega)).mp (a2.symm.trans j2)).2; omega
    · exact Or.inr h2
  · have hl := hlv i (by omega) i3
    have hci := cnt_le lv i
    rcases h2 with ⟨j, j1, j2, j3⟩ | ⟨h2, -⟩
    · have := ((wd_eq (by omega) (by omega) (by omega) (by omega)).mp (i3.symm.trans j2)).1
      subst this
      refine Or.inl ⟨cnt lv i, by omega, by rw [i3]; exact mv_7 (by omega), ?_⟩
      rw [hC i (by omega) hl, mv_n (hn i (by omega) i2)]; exact j3
    · rw [i3, kd_wd (by omega) (by omega)] at h2; omega
  · rcases h2 with ⟨j, j1, j2, -⟩ | ⟨h2, -⟩
    · have := ((wd_eq (by omega) (by omega) (by omega) (by omega)).mp (a2.symm.trans j2)).2; omega
    · rw [a2, kd_wd (by omega) (by omega)] at h2; omega
theorem coll_s (h : actR g cap R has N S c tr tb nq GT P M φ K τ cm tm gm cs ct μ ν) (hg : gOK g) (hgp : gPb g = true) (hcap : cap < 90000) (hc : c ≤ 300) (hR16 : R ≤ 16) (hGT : GT ≤ 8900) (htb : tb ≤ 2600) (hM : M < 2 ^ 29) {x0 q0 k v : Int32} {n0 : Nat} (hx0 : chR N φ K (μ g) (μ (g + 1)) (μ (g + 2)) (ν 80) (ν 81) n0 x0 q0) (hx1 : x0 = -1 ∨ ∃ pp, x0 = nI pp ∧ pp < cap) (hq0 : q0 = -1 ∨ ∃ gg, q0 = nI gg ∧ gg < GT)
    (h0 : (k < 0 ∧ q0 = ν 70 16 ∧ x0 = μ 37 9) ∨ (¬ k < 0 ∧ ∃ pp gg, x0 = nI pp ∧ pp < 2 ^ 29 ∧ (q0 = nI gg ∧ gg < 2 ^ 29) ∧ f_MO_kindOf (nI gg) ν = some k ∧ f_MO_valueOf (nI gg) ν = some v ∧ ν 81 gg = ν 70 16 ∧ μ (g + 2) pp = μ 37 9)) :
    ∃ (μ' ν' : Mu) (N' tr' : Nat) (φ' K' τ' cm' tm' : Nat → Nat), f_CO_run g cap x0 (nI nq) μ = some (nI (N - N'), μ') ∧ f_MO_free k v ν = some (nI (N - N'), ν') ∧ N' ≤ N ∧ actR g cap R has N' S c tr' tb nq GT P (M + 1) φ' K' τ' cm' tm' gm cs ct μ' ν' ∧ chR N' φ' K' (μ' g) (μ' (g + 1)) (μ' (g + 2)) (ν' 80) (ν' 81) n0 x0 q0 ∧ (∀ pp w, x0 = nI pp → pp < 2 ^ 29 → nmR (μ 41) (μ g pp) w → nmR (μ' 41) (μ' g pp) w) := by
  -- the counter, the needless trail
  have ha0 : actR g cap R has N S c tr tb nq GT P M φ K τ cm tm gm cs ct (sI μ 64 5 (μ 64 5 + 1)) ν := by
    refine actR_c h hR16 (by omega) (fun k hk => sI_nk ?_) rfl rfl rfl rfl rfl (fun _ _ _ => rfl) rfl (fun _ _ => rfl)
    unfold gOK at hg
    omega
  obtain ⟨μ1, tr1, tm1, d1, d2, d3, d4, d5⟩ := drop_s ha0 hg hc hR16 (by omega)
  have hgg : g ≠ 40 ∧ g ≠ 41 ∧ g ≠ 42 ∧ g ≠ 46 ∧ g ≠ 47 ∧ g ≠ 48 ∧ g ≠ 61 ∧ g ≠ 62 ∧ g ≠ 64 ∧ g ≠ 65 ∧ g + 1 ≠ 40 ∧ g + 1 ≠ 41 ∧ g + 1 ≠ 42 ∧ g + 1 ≠ 46 ∧ g + 1 ≠ 47 ∧ g + 1 ≠ 48 ∧ g + 1 ≠ 61 ∧ g + 1 ≠ 62 ∧ g + 1 ≠ 64 ∧ g + 1 ≠ 65 ∧ g + 2 ≠ 40 ∧ g + 2 ≠ 41 ∧ g + 2 ≠ 42 ∧ g + 2 ≠ 46 ∧ g + 2 ≠ 47 ∧ g + 2 ≠ 48 ∧ g + 2 ≠ 61 ∧ g + 2 ≠ 62 ∧ g + 2 ≠ 64 ∧ g + 2 ≠ 65 ∧ g + 3 ≠ 40 ∧ g + 3 ≠ 41 ∧ g + 3 ≠ 42 ∧ g + 3 ≠ 46 ∧ g + 3 ≠ 47 ∧ g + 3 ≠ 48 ∧ g + 3 ≠ 61 ∧ g + 3 ≠ 62 ∧ g + 3 ≠ 64 ∧ g + 3 ≠ 65 := by unfold gOK at hg; omega
  have hgo : ∀ k, k = 37 ∨ k = 38 ∨ k = 59 ∨ k = 60 ∨ k = 63 ∨ k < 37 → k ≠ g ∧ k ≠ g + 3 := by
    intro k hk
    unfold gOK at hg
    omega
  have fr1 : ∀ k, k ≠ 40 → k ≠ 42 → k ≠ 62 → k ≠ 64 → μ1 k = μ k := by
    intro k q1 q2 q3 q4
    rw [d4 k q1 q2 q3, sI_nk q4]
  have ha1 := d2
  obtain ⟨hR, ⟨p1, p2, p3⟩, ⟨n1, n2, n3, n4⟩, htrl, hseg, hdn, hmrk, hrows, hchg, hcur, hque, hseen, hpot, hbnd, hmk, hlow⟩ := d2
  have hN := hR.1
  have htr := trl_le hN htrl
  have hx0' : chR N φ K (μ1 g) (μ1 (g + 1)) (μ1 (g + 2)) (ν 80) (ν 81) n0 x0 q0 := by
    rw [fr1 g (by omega) (by omega) (by omega) (by omega), fr1 (g + 1) (by omega) (by omega) (by omega) (by omega), fr1 (g + 2) (by omega) (by omega) (by omega) (by omega)]
    exact hx0
  have e37 : μ1 37 = μ 37 := fr1 37 (by decide) (by decide) (by decide) (by decide)
  -- lengths of chains
  have hlen : ∀ {n : Nat} {p q : Int32} {N1 : Nat}, chR N1 φ K (μ1 g) (μ1 (g + 1)) (μ1 (g + 2)) (ν 80) (ν 81) n p q → (q = -1 ∨ ∃ gg, q = nI gg ∧ gg < GT) → n < 9030 := by
    intro n p q N1 hch hq
    have := chR_len n p q GT hch (fun x hx e => by
      rcases hq with w | ⟨gg, w1, w2⟩
      · rw [w] at e; exact absurd e (n_m1 (by omega))
      · rw [w1] at e
        have := (nI_eq (by omega) (by omega)).mp e
        omega)
    omega
  -- the chains of choices, with their lengths
  have hcl : ∃ cl : Nat → Nat, ∀ j, j < c → 0 < cl j ∧ chR (cm j) φ K (μ1 g) (μ1 (g + 1)) (μ1 (g + 2)) (ν 80) (ν 81) (cl j) (μ1 59 j) (ν 82 j) := by
    refine ⟨fun j => if hj : j < c then Classical.choose (hchg j hj).2.2 + 1 else 0, fun j hj => ?_⟩
    show 0 < (dite (j < c) (fun hj => Classical.choose (hchg j hj).2.2 + 1) (fun _ => 0)) ∧ chR (cm j) φ K (μ1 g) (μ1 (g + 1)) (μ1 (g + 2)) (ν 80) (ν 81) (dite (j < c) (fun hj => Classical.choose (hchg j hj).2.2 + 1) (fun _ => 0)) (μ1 59 j) (ν 82 j)
    rw [dif_pos hj]
    obtain ⟨pp, gg, r, e1, -⟩ := Classical.choose_spec (hchg j hj).2.2
    exact ⟨by omega, e1⟩
  obtain ⟨cl, hcl⟩ := hcl
  have hgm : ∀ j, j < c → gm j ≤ gm (c - 1) := by
    intro j hj
    by_cases e : j = c - 1
    · rw [e]; exact Nat.le_refl _
    · exact (hmrk.2 j (c - 1) (by omega) (by omega)).2.2.2
  -- the end of the goals
  obtain ⟨E, hE1, hE2, hE3, hE4⟩ : ∃ E, E ≤ cap ∧ (∀ pp, x0 = nI pp → pp < 2 ^ 29 → pp < E) ∧ (∀ j, j < c → gm j ≤ E) ∧ ∀ μ4 : Mu, μ4 58 5 = nI c → μ4 63 = μ1 63 → (b1 (f_CH_goalsKept μ4) fun v14 => some (jmax (x0 + 1) v14)) = some (nI E) := by
    have hk : ∀ μ4 : Mu, μ4 58 5 = nI c → μ4 63 = μ1 63 → f_CH_goalsKept μ4 = some (nI (if c = 0 then 0 else gm (c - 1))) := by
      intro μ4 a1 a2
      unfold f_CH_goalsKept
      by_cases e : c = 0
      · rw [a1, e, if_neg (not_not_intro (show nI 0 = 0 from rfl)), if_pos rfl]; rfl
      · rw [a1, if_pos (nI_ne0 (by omega) (by omega)), nI_m1 (by omega), a2, rd_n (by omega) (by decide), b1_s, (hrows (c - 1) (by omega)).2.2.1, if_neg e]
    have hkc : (if c = 0 then 0 else gm (c - 1)) ≤ cap := by
      by_cases e : c = 0
      · rw [if_pos e]; omega
      · rw [if_neg e]; exact (hchg (c - 1) (by omega)).2.1
    have hjk : ∀ j, j < c → gm j ≤ (if c = 0 then 0 else gm (c - 1)) := by
      intro j hj
      rw [if_neg (by omega)]; exact hgm j hj
    rcases hx1 with w | ⟨pp, w1, w2⟩
    · refine ⟨if c = 0 then 0 else gm (c - 1), hkc, fun pp q1 q2 => ?_, hjk, fun μ4 a1 a2 => ?_⟩
      · rw [w] at q1; exact absurd q1 (n_m1 (by omega))
      · rw [hk μ4 a1 a2, b1_s, w]
        congr 1
        unfold jmax
        by_cases e : (if c = 0 then 0 else gm (c - 1)) = 0
        · rw [e]; decide
        · rw [if_pos (show (-1 : Int32) + 1 < nI _ from nI_lt (a := 0) (by omega) (by omega))]
    · refine ⟨max (pp + 1) (if c = 0 then 0 else gm (c - 1)), by omega, fun x q1 q2 => ?_, fun j hj => by have := hjk j hj; omega, fun μ4 a1 a2 => ?_⟩
      · rw [w1] at q1
        have := (nI_eq (by omega) (by omega)).mp q1
        omega
      · rw [hk μ4 a1 a2, b1_s, w1, nI_1]
        congr 1
        unfold jmax
        by_cases e : pp + 1 < (if c = 0 then 0 else gm (c - 1))
        · rw [if_pos (nI_lt e (by omega))]
          congr 1
          omega
        · rw [if_neg (nI_nlt (by omega) (by omega))]
          congr 1
          omega
  -- the class traces
  have hch1 : ∀ j, j < c → cl j < 9030 ∧ chR N φ K (μ1 g) (μ1 (g + 1)) (μ1 (g + 2)) (ν 80) (ν 81) (cl j) (μ1 59 j) (ν 82 j) ∧ (μ1 59 j = -1 ∨ ∃ pp, μ1 59 j = nI pp ∧ pp < E) ∧ (ν 82 j = -1 ∨ ∃ gg, ν 82 j = nI gg ∧ gg < GT) := by
    intro j hj
    obtain ⟨b1, b2, n', pp', gg', r', b3, b4, b5, b6, b7, b8⟩ := hchg j hj
    have hq : ν 82 j = -1 ∨ ∃ gg, ν 82 j = nI gg ∧ gg < GT := Or.inr ⟨gg', b6, b7⟩
    refine ⟨hlen (hcl j hj).2 hq, chR_N (hmrk.1 j hj).1 _ _ _ (hcl j hj).2, Or.inr ⟨pp', b4, by have := hE3 j hj; omega⟩, hq⟩
  obtain ⟨hq1, hq2, hq3, hq4, hq5⟩ := hque
  obtain ⟨μ2, t1, t2, t3, t4, t5, t6, t7, t8⟩ := live_c (g := g) (cap := cap) (E := E) (c := c) (tr := tr1) (nq := nq) (x0 := x0) (q0 := q0) (n0 := n0) (cl := cl) (HH := μ1 (g + 1)) (G := ν 80) (GN := ν 81) (ql := ν 82) hR hg hE1 (by omega) hgp p1 p2 p3 hc (by omega) hq2 hq3 (fun x hx => by
    obtain ⟨i, i1, i2, i3, i4⟩ := htrl.1 x hx
    exact ⟨i, i1, i2, i4⟩) hseen (fun j hj => ⟨(hch1 j hj).1, (hch1 j hj).2.1, (hch1 j hj).2.2.1⟩) ⟨hlen hx0' hq0, hx0', by
    rcases hx1 with w | ⟨pp, w1, w2⟩
    · exact Or.inl w
    · exact Or.inr ⟨pp, w1, hE2 pp w1 (by omega)⟩⟩
  -- the reference marks
  have hctm : ∀ j k, j < k → k < c → ct j ≤ ct k := fun j k a b => (hmrk.2 j k a b).2.2.1
  obtain ⟨ν1, ν2, m1, m2, m3, m4, m5⟩ := live_m (μ := μ1) (ν := ν) (g := g) (c := c) (tr := tr1) (tb := tb) (nq := nq) (GT := GT) (M := M) (has := has) (cm := cm) (cs := cs) (ct := ct) (x0 := x0) (q0 := q0) (k := k) (v := v) (n0 := n0) (cl := cl) (HH := μ1 (g + 1)) hR rfl rfl ⟨rfl, rfl, rfl, rfl⟩ hmk hM hGT hc htb n2 n3 (fun j hj => ⟨(hrows j hj).2.2.2.1, (hrows j hj).2.2.2.2, (hmrk.1 j hj).2.1, (hmrk.1 j hj).2.2.2.2.1, (hmrk.1 j hj).2.2.1⟩) hbnd hq1 hq2 hq3 hq5 (fun j hj => ⟨(hch1 j hj).1, (hch1 j hj).2.1, (hch1 j hj).2.2.2⟩) (by
    rcases h0 with ⟨a1, a2, a3⟩ | ⟨a1, pp, gg, a2, a3, ⟨a4, a4'⟩, a5, a6, a7, a8⟩
    · left
      rw [← a2]
      exact ⟨a1, hlen hx0' hq0, hx0', hq0⟩
    · right
      cases n0 with
      | zero =>
        have := hx0'.1
        rw [a2] at this
        exact absurd this.symm (n_m1 (by omega))
      | succ n =>
        have hlx := hlen hx0' hq0
        obtain ⟨pp', gg', e1, e2, e3, e4, e5, e6, e7, e8⟩ := hx0'
        rw [a2] at e1
        have f1 := (nI_eq (by omega) (by omega)).mp e1
        subst f1
        rw [a4] at e2
        have f2 := (nI_eq (by omega) (by omega)).mp e2
        subst f2
        have hgg2 : gg < GT := by
          rcases hq0 with w | ⟨g2, w1, w2⟩
          · rw [a4] at w; exact absurd w.symm (n_m1 (by omega))
          · rw [a4] at w1
            have f2 := (nI_eq (by omega) (by omega)).mp w1
            omega
        refine ⟨a1, n, pp, gg, rfl, by omega, a3, a2, hgg2, a5, a6, e5, ?_, ?_⟩
        · rw [← a7]; exact e8
        · rw [← a7]
          cases n with
          | zero => exact Or.inl e8.2
          | succ n =>
            obtain ⟨p3, g3, y1, y2, y3, y4, -⟩ := e8
            exact Or.inr ⟨g3, y2, by have := e7 g3 y4 y2; omega⟩) (by
    -- the class's trail in the reference
    intro x i hx hi hxi
    obtain ⟨j, i', j1, j2, j3, j4, j5⟩ := d3 x hx
    rw [hxi] at j5
    have hcj := (hmrk.1 j j1).1
    have ei := ((wd_eq (by omega) (by omega) (by omega) (by omega)).mp j5).1
    subst ei
    obtain ⟨i2, a1, a2, a3, a4⟩ := htrl.1 x hx
    rw [hxi] at a4
    have ei := ((wd_eq (by omega) (by omega) (by omega) (by omega)).mp a4).1
    subst ei
    obtain ⟨y, y1, y2, y3⟩ := (hseg j j1 i j2).mp ⟨x, j3, j4, hxi⟩
    refine ⟨a2, a3, j, y, j1, j2, y1, ?_, y3⟩
    unfold segE at y2
    by_cases e : j + 1 < c
    · rw [if_pos e] at y2
      have := (hmrk.1 (j + 1) e).2.2.2.2.1
      omega
    · rw [if_neg e] at y2; exact y2) (by
    -- and back
    intro j y i hj hi hij hy1 hy2 hyi
    have hj2 := (psd_t (c := c) (tm := ct) (x := y) hctm hj).mp hy1
    have hle : psd c ct y ≤ c := psd_le
    have hjj : psd c ct y - 1 < c := by omega
    have hcj : ct (psd c ct y - 1) ≤ y := (psd_t hctm hjj).mpr (by omega)
    have hcm : cm j ≤ cm (psd c ct y - 1) := by
      by_cases e : j = psd c ct y - 1
      · rw [← e]; exact Nat.le_refl _
      · exact (hmrk.2 j (psd c ct y - 1) (by omega) hjj).1
    obtain ⟨x, x1, x2, x3⟩ := (hseg (psd c ct y - 1) hjj i (by omega)).mpr ⟨y, hcj, by
      unfold segE
      by_cases e : psd c ct y - 1 + 1 < c
      · rw [if_pos e]
        apply Classical.byContradiction
        intro w
        have := (psd_t hctm e).mp (by omega : ct (psd c ct y - 1 + 1) ≤ y)
        omega
      · rw [if_neg e]; exact hy2, hyi⟩
    refine ⟨x, ?_, x3⟩
    unfold segE at x2
    by_cases e : psd c ct y - 1 + 1 < c
    · rw [if_pos e] at x2
      have := (hmrk.1 (psd c ct y - 1 + 1) e).2.2.2.1
      omega
    · rw [if_neg e] at x2; exact x2)
  -- what lives
  have hroot : ∀ i, i < N → rtC c nq tr1 n0 cl x0 g μ1 i → K i = 1 ∨ K i = 2 := by
    intro i hi q
    rcases q with q | ⟨x, q, q'⟩ | ⟨j, q, q'⟩ | q
    · exact Or.inl (hq3 i q)
    · obtain ⟨i2, a1, a2, a3, a4⟩ := htrl.1 x q
      rw [q'] at a4
      have ei := ((wd_eq (by omega) (by omega) (by omega) (by omega)).mp a4).1
      subst ei
      exact Or.inl a2
    · exact Or.inr (chR_i hN _ _ _ (hch1 j q).2.1 i (by omega) q').2
    · exact Or.inr (chR_i hN _ _ _ hx0' i (by omega) q).2
  have hsame : ∀ i, i < N → (K i = 1 ∨ K i = 2) → (μ2 47 i = 1 ↔ ν2 90 (φ i) = nI (M + 1)) := by
    intro i hi hK
    constructor
    · intro q
      exact (t7 (fun i => (K i = 1 ∨ K i = 2) ∧ ν2 90 (φ i) = nI (M + 1)) m1.1.2.2.2.2 (fun i hi q => ⟨hroot i hi q, m4 i hi q⟩) i hi q).2
    · intro q
      exact m5 (fun i => μ2 47 i = 1) t2.2.2.2.2 (fun i hi q => t6 i hi q) i hi hK q
  have hlv : ∃ lv : Nat → Bool, ∀ i, lv i = decide (ν2 90 (φ i) = nI (M + 1)) := ⟨_, fun _ => rfl⟩
  obtain ⟨lv, hlv⟩ := hlv
  have hlvt : ∀ i, lv i = true ↔ ν2 90 (φ i) = nI (M + 1) := by
    intro i
    rw [hlv]
    exact decide_eq_true_iff
  have hl : lvR (μ1 41) N K lv (μ2 47) := by
    refine ⟨fun i hi hK m hm => ?_, fun i hi hK => ?_, fun i j hi hj q hE => ?_⟩
    · rcases cellR_K (hR.2.2.2.2.2 i hi) with e | e | e
      · have : bsz (μ1 41) i = 1 := by unfold bsz; rw [(var_of hR hi e).2]
        rw [show m = 0 by omega]
        rfl
      · obtain ⟨a, nm, g1, g2, g3, g4, g5, g6, g7, g8⟩ := st_of hR hi e
        have hb : bsz (μ1 41) i = 1 + a := by
          unfold bsz
          rw [g4, kd_wd (by omega) (by omega), arK_2 g1 g2]
        by_cases e0 : m = 0
        · rw [e0]; rfl
        · have := m1.1.2.2.2.1 i a nm (m - 1) hi e g4 g3 g2 (by omega)
          rw [show i + 1 + (m - 1) = i + m by omega] at this
          rw [hlv, hlv]
          exact decide_eq_decide.mpr this
      · exact absurd e hK
    · have hKn : K i = 1 ∨ K i = 2 := by
        rcases cellR_K (hR.2.2.2.2.2 i hi) with e | e | e
        · exact Or.inl e
        · exact Or.inr e
        · exact absurd e hK
      have := hsame i hi hKn
      rcases t2.2.2.1 i hi with w | w
      · have hf : lv i = false := by
          cases e : lv i with
          | false => rfl
          | true =>
            have := this.mpr ((hlvt i).mp e)
            rw [w] at this
            exact absurd this (by decide)
        rw [w, hf]; rfl
      · rw [w, (hlvt i).mpr (this.mp w)]; rfl
    · have hKn : K i = 1 ∨ K i = 2 := by
        rcases hE with ⟨e, -⟩ | ⟨e, -⟩
        · exact Or.inl e
        · exact Or.inr e
      exact (hlvt j).mpr (m1.1.2.2.2.2 i j hi hj ⟨hKn, (hlvt i).mp q⟩ hE).2
  obtain ⟨idx, hx⟩ := idx_e (N := N) (lv := lv)
  have hcle : ∀ i, cnt lv i ≤ i := fun i => cnt_le lv i
  -- the class moves
  have r2 : ∀ k, k ≠ 46 → k ≠ 47 → k ≠ 48 → k ≠ g + 3 → μ2 k = μ1 k := t8
  have h40 : μ2 40 = μ1 40 := r2 40 (by decide) (by decide) (by decide) (by omega)
  obtain ⟨μ3, f1, f2, f3, f4⟩ := fnp_s hR hl (μ := μ2) (by rw [h40]; exact p1) t2.1 rfl
  obtain ⟨μ4, c1, c2, c3, c4, c5⟩ := mc_s hR hl (μ := μ3) (by rw [f4 40 (by decide), h40]; exact p1) (by rw [f4 41 (by decide)]; exact t2.1) (by rw [f4 47 (by decide)]) f2 f3
  have r4 : ∀ k, k ≠ 40 → k ≠ 41 → k ≠ 65 → k ≠ 46 → k ≠ 47 → k ≠ 48 → k ≠ g + 3 → μ4 k = μ1 k := by
    intro k a1 a2 a3 a4 a5 a6 a7
    rw [c4 k a1 a2, f4 k a3, r2 k a4 a5 a6 a7]
  have s4 : μ4 (g + 3) = μ2 (g + 3) := by rw [c4 _ (by omega) (by omega), f4 _ (by omega)]
  have g4 : μ4 g = μ1 g := r4 g (by omega) (by omega) (by omega) (by omega) (by omega) (by omega) (by omega)
  have h65 : ∀ i, i < N → K i ≠ 3 → μ4 65 i = nI (cnt lv i) := by
    intro i hi hK
    rw [c4 65 (by decide) (by decide)]; exact f2 i hi hK
  have h65N : μ4 65 N = nI (cnt lv N) := by
    rw [c4 65 (by decide) (by decide)]; exact f3
  have g2 : μ2 g = μ1 g := r2 g (by omega) (by omega) (by omega) (by omega)
  have g22 : μ2 (g + 2) = μ1 (g + 2) := r2 (g + 2) (by omega) (by omega) (by omega) (by omega)
  obtain ⟨μ5, e1, e2, e3, e4, e5⟩ := mg_s (g := g) (cap := cap) (E := E) (np := cnt lv) hg hE1 (by omega) E fu 0 μ4 (by omega) (by unfold fu; omega) (by rw [s4]; exact t3.1) (by
    intro x _ hxc hx1
    rw [s4] at hx1
    obtain ⟨w1, ⟨gw, hh, w2⟩, w3, w4⟩ := t3.2 x hxc hx1
    rw [g4, ← g2]
    rcases goR_t hN w2 with ⟨i, i1, i2, i3⟩ | q
    · have := hcle i
      exact Or.inl ⟨i, by omega, Or.inr i3, h65 i i1 (by omega), by omega⟩
    · exact Or.inr q)
  have r5 : ∀ k, k ≠ g → k ≠ g + 3 → μ5 k = μ4 k := e2
  have hE9 : E < 10000 ∨ E ≤ cap := Or.inr hE1
  have c58 : ∀ k, k ≠ 40 → k ≠ 41 → k ≠ 65 → k ≠ 46 → k ≠ 47 → k ≠ 48 → k ≠ g → k ≠ g + 3 → μ5 k = μ1 k := by
    intro k a1 a2 a3 a4 a5 a6 a7 a8
    rw [r5 k a7 a8, r4 k a1 a2 a3 a4 a5 a6 a8]
  have ng : ∀ k, 37 ≤ k → k < 54 ∨ (58 ≤ k ∧ k < 99) → k ≠ g ∧ k ≠ g + 3 := by
    intro k _ hk
    unfold gOK at hg
    omega
  have h65' : μ5 65 = μ4 65 := r5 65 (by omega) (by omega)
  obtain ⟨μ6, w1, w2, w3, w4⟩ := mm_2 (c := c) (cm := cm) (np := cnt lv) hc c fu 0 μ5 (by omega) (by unfold fu; omega) (by rw [c58 58 (by decide) (by decide) (by decide) (by decide) (by decide) (by decide) (ng 58 (by omega) (by omega)).1 (ng 58 (by omega) (by omega)).2]; exact p3) (fun j _ hj => by
    obtain ⟨b1, b2, b3, b4, b5, b6, b7⟩ := hmrk.1 j hj
    rw [c58 61 (by decide) (by decide) (by decide) (by decide) (by decide) (by decide) (by omega) (by omega), h65']
    refine ⟨(hrows j hj).1, by omega, ?_⟩
    by_cases e : cm j = N
    · rw [e]; exact h65N
    · exact h65 (cm j) (by omega) (b6.resolve_left e))
  have h403 : μ5 40 3 = nI tr1 := by
    rw [r5 40 (by omega) (by omega), c3 3 (by decide), f4 40 (by decide), h40]; exact p2
  obtain ⟨μ7, y1, y2, y3, y4⟩ := mm_44 (tr := tr1) (np := cnt lv) (by omega) tr1 fu 0 μ6 (by omega) (by unfold fu; omega) (by rw [w2 40 (by decide)]; exact h403) (fun x _ hx => by
    obtain ⟨i, i1, i2, i3, i4⟩ := htrl.1 x hx
    have := hcle i
    rw [w2 42 (by decide), w2 65 (by decide), c58 42 (by decide) (by decide) (by decide) (by decide) (by decide) (by decide) (by omega) (by omega), h65']
    exact ⟨i, by omega, i4, h65 i i1 (by omega), by omega⟩)
  -- the reference gives back
  obtain ⟨ν3, s', z1, z2, z3, z4, z5⟩ := fr_184 (mn := nI (M + 1)) 240 fu 0 0 ν2 (by omega) (by unfold fu; omega) (by omega) m1.1.2.2.1
  -- places of the end
  have r7 : ∀ k, k ≠ 42 → k ≠ 61 → μ7 k = μ5 k := by
    intro k a1 a2
    rw [y2 k a1, w2 k a2]
  have q41 : μ7 41 = μ4 41 := by rw [r7 41 (by decide) (by decide), r5 41 (by omega) (by omega)]
  have qo : ∀ k, k ≠ 40 → k ≠ 41 → k ≠ 42 → k ≠ 61 → k ≠ 65 → k ≠ 46 → k ≠ 47 → k ≠ 48 → k ≠ g → k ≠ g + 3 → μ7 k = μ1 k := by
    intro k a1 a2 a3 a4 a5 a6 a7 a8 a9 a10
    rw [r7 k a3 a4, c58 k a1 a2 a5 a6 a7 a8 a9 a10]
  have q40 : μ7 40 = μ4 40 := by rw [r7 40 (by decide) (by decide), r5 40 (by omega) (by omega)]
  have q42 : ∀ x, x < tr1 → μ7 42 x = mv (cnt lv) (μ1 42 x) := by
    intro x hx
    rw [y4 x (by omega) hx, w2 42 (by decide), c58 42 (by decide) (by decide) (by decide) (by decide) (by decide) (by decide) (by omega) (by omega)]
  have qg : μ7 g = μ5 g := r7 g (by omega) (by omega)
  have qg3 : μ7 (g + 3) = μ5 (g + 3) := r7 (g + 3) (by omega) (by omega)
  have qg1 : μ7 (g + 1) = μ1 (g + 1) := qo (g + 1) (by omega) (by omega) (by omega) (by omega) (by omega) (by omega) (by omega) (by omega) (by omega) (by omega)
  have qg2 : μ7 (g + 2) = μ1 (g + 2) := qo (g + 2) (by omega) (by omega) (by omega) (by omega) (by omega) (by omega) (by omega) (by omega) (by omega) (by omega)
  have vo : ∀ k, k ≠ 70 → k ≠ 74 → k ≠ 88 → k ≠ 89 → k ≠ 90 → ν3 k = ν k := by
    intro k a1 a2 a3 a4 a5
    rw [z2 k a2, m1.2.1 k a1 a3 a4 a5, m2, sI_nk a1, sI_nk a1, sI_nk a1]
  have v7 : ∀ j, j ≠ 34 → j ≠ 30 → j ≠ 28 → ν3 70 j = ν 70 j := by
    intro j a1 a2 a3
    rw [z2 70 (by decide), m1.2.2.1 j a2, m2, sI_nj a3, sI_nj a2, sI_nj a1]
  have n74 : ν2 74 = ν 74 := by
    rw [m1.2.1 74 (by decide) (by decide) (by decide) (by decide), m2]; rfl
  -- the cells
  have hR' : cellsR (μ7 41) (ν3 74) (ν3 75) (ν3 76) (ν3 77) (ν3 78) (ν3 79) (cnt lv N) S (fun n => φ (idx n)) (fun n => K (idx n)) (fun n => τ (idx n)) := by
    rw [q41, vo 75 (by decide) (by decide) (by decide) (by decide) (by decide), vo 76 (by decide) (by decide) (by decide) (by decide) (by decide), vo 77 (by decide) (by decide) (by decide) (by decide) (by decide), vo 78 (by decide) (by decide) (by decide) (by decide) (by decide), vo 79 (by decide) (by decide) (by decide) (by decide) (by decide)]
    refine move_R (U' := ν3 74) (mk := fun x => ν2 90 x = nI (M + 1)) hR hl hx c5 (fun x hx => ?_) (fun i hi => (hlvt i).symm)
    rw [z4 x (by omega) hx, n74]
  have hfreed : s' = N - cnt lv N := by
    have u1 := use_c (Q_of hR)
    have u2 := use_c (Q_of hR')
    have u3 := cnt_two (p := fun c => decide (¬ ν 74 c ≤ 0)) (q := fun c => decide (ν2 90 c ≠ nI (M + 1))) 240
    have u4 : cnt (fun c => decide (¬ ν 74 c ≤ 0) && decide (ν2 90 c ≠ nI (M + 1))) 240 = s' := by
      rw [show s' = cnt (fun y => decide (¬ ν2 74 y ≤ 0 ∧ ν2 90 y ≠ nI (M + 1))) 240 by have := z5; rw [show cnt (fun y => decide (¬ ν2 74 y ≤ 0 ∧ ν2 90 y ≠ nI (M + 1))) 0 = 0 from rfl] at this; omega]
      refine cnt_eq 240 (fun y hy => ?_)
      rw [n74]
      exact (Bool.decide_and _ _).symm
    have u5 : cnt (fun c => decide (¬ ν 74 c ≤ 0) && !decide (ν2 90 c ≠ nI (M + 1))) 240 = cnt (fun c => decide (¬ ν3 74 c ≤ 0)) 240 := by
      refine cnt_eq 240 (fun y hy => ?_)
      rw [z4 y (by omega) hy, n74]
      by_cases e1 : ν 74 y ≤ 0
      · rw [if_neg (fun q => q.1 e1)]
        rw [decide_eq_false (not_not_intro e1), Bool.false_and]
      · by_cases e2 : ν2 90 y = nI (M + 1)
        · rw [if_neg (fun q => q.2 e2), decide_eq_true e1, decide_eq_false (not_not_intro e2)]; rfl
        · rw [if_pos ⟨e1, e2⟩, decide_eq_true e1, decide_eq_true e2]; rfl
    omega
  have hlive : ∀ x i, x < tr1 → i < N → μ1 42 x = wd i 0 → lv i = true := by
    intro x i hx hi hxi
    exact (hlvt i).mpr (m4 i hi (Or.inr (Or.inl ⟨x, hx, hxi⟩)))
  have hnqi : ∀ i, i < nq → lv i = true := fun i hi => (hlvt i).mpr (m4 i (by omega) (Or.inl hi))
  have hnqc : ∀ i, i ≤ nq → cnt lv i = i := fun i hi => cnt_all i (fun x hx => hnqi x (by omega))
  have hidq : ∀ i, i < nq → idx i = i := by
    intro i hi
    have := (idx_np hx (show i < N by omega) (hnqi i hi)).2
    rw [hnqc i (by omega)] at this
    exact this
  have hbelow : ∀ n m, n < cnt lv m → m ≤ N → idx n < m := by
    intro n m h1 h2
    have hm := cnt_n (p := lv) (m := m) N h2
    obtain ⟨b1, b2, b3⟩ := hx n (by omega)
    apply Classical.byContradiction
    intro w
    have := cnt_n (p := lv) (m := m) (idx n) (by omega)
    omega
  have hbelow2 : ∀ n m, n < cnt lv N → idx n < m → n < cnt lv m := by
    intro n m h1 h2
    obtain ⟨b1, b2, b3⟩ := hx n h1
    have := cnt_lt h2 b2
    omega
  have hsE : ∀ x, x < tr1 → ∀ n, n < cnt lv N → (μ7 42 x = wd n 0 ↔ μ1 42 x = wd (idx n) 0) := by
    intro x hx2 n hn
    obtain ⟨i, i1, i2, i3, i4⟩ := htrl.1 x hx2
    have hli := hlive x i hx2 i1 i4
    have hci := hcle i
    have hcN := hcle N
    obtain ⟨b1, b2, b3⟩ := hx n hn
    rw [q42 x hx2, i4, mv_0 (by omega)]
    constructor
    · intro q
      have := ((wd_eq (by omega) (by omega) (by omega) (by omega)).mp q).1
      rw [← b3] at this
      rw [np_inj hli b2 this]
    · intro q
      have := ((wd_eq (by omega) (by omega) (by omega) (by omega)).mp q).1
      rw [this, b3]
  have hnm : ∀ i, i < N → K i = 2 → kd (μ1 41 i) ≠ 0 ∧ kd (μ1 41 i) ≠ 7 := by
    intro i hi hK
    obtain ⟨a, nm, g1, g2, g3, g4, -⟩ := st_of hR hi hK
    exact ⟨by rw [g4, kd_wd (by omega) (by omega)]; omega, by rw [g4, kd_wd (by omega) (by omega)]; omega⟩
  have hseeng : ∀ p, p < E → μ2 (g + 3) p = 1 → μ7 g p = mv (cnt lv) (μ1 g p) := by
    intro p hp hs
    rw [qg, (e4 p (by omega) hp).1, s4, hs, if_pos rfl, g4]
  have hseenl : ∀ i, i < N → ∀ p, p < E → μ2 (g + 3) p = 1 → μ1 g p = wd i 7 → lv i = true := by
    intro i hi p hp hs q
    obtain ⟨-, ⟨gw, hh, hgo2⟩, w5, -⟩ := t3.2 p (by omega) hs
    rw [g2] at w5 hgo2
    have hK2 : K i = 2 := by
      rcases goR_t hN hgo2 with ⟨i', a1, a2, a3⟩ | a
      · rw [q] at a3
        have := ((wd_eq (by omega) (by omega) (by omega) (by omega)).mp a3).1
        rw [this]; exact a2
      · rw [q, kd_wd (by omega) (by omega)] at a; omega
    exact (hlvt i).mpr ((hsame i hi (Or.inr hK2)).mp (w5 i hi q))
  have hseenb : ∀ p, p < E → μ2 (g + 3) p = 1 → ∀ q, q < 2 ^ 29 → μ1 (g + 2) p = nI q → q < E → μ2 (g + 3) q = 1 := by
    intro p hp hs q hq hb hqE
    obtain ⟨-, -, -, w6⟩ := t3.2 p (by omega) hs
    rw [g22] at w6
    rcases w6 q hq hb (by omega) with w | w
    · exact w
    · rw [w] at hb; exact absurd hb (n_m1 (by omega))
  have hchm : ∀ {N1 n : Nat} {p q : Int32}, N1 ≤ N → chR N1 φ K (μ1 g) (μ1 (g + 1)) (μ1 (g + 2)) (ν 80) (ν 81) n p q → (∀ x, x < 2 ^ 29 → p = nI x → x < E ∧ μ2 (g + 3) x = 1) → chR (cnt lv N1) (fun n => φ (idx n)) (fun n => K (idx n)) (μ7 g) (μ7 (g + 1)) (μ7 (g + 2)) (ν3 80) (ν3 81) n p q := by
    intro N1 n p q a1 a2 a3
    rw [qg1, qg2, vo 80 (by decide) (by decide) (by decide) (by decide) (by decide), vo 81 (by decide) (by decide) (by decide) (by decide) (by decide)]
    exact ch_mv hx hN a1 (cap := cap) hseeng hseenl hseenb n p q a2 a3
  have hx0s : ∀ x, x < 2 ^ 29 → x0 = nI x → x < E ∧ μ2 (g + 3) x = 1 := fun x a b => ⟨hE2 x b a, t5 x b (hE2 x b a)⟩
  have h9s : ∀ x, x < 2 ^ 29 → μ1 37 9 = nI x → x < E ∧ μ2 (g + 3) x = 1 := by
    intro x hx2 hx9
    rw [e37] at hx9
    rcases h0 with ⟨-, -, a3⟩ | ⟨-, pp, gg, a2, a3, -, -, -, -, a8⟩
    · exact hx0s x hx2 (by rw [a3]; exact hx9)
    · obtain ⟨b1, b2⟩ := hx0s pp a3 a2
      rw [← a8] at hx9
      have hlt : x < pp := by
        cases n0 with
        | zero =>
          have := hx0'.1
          rw [a2] at this
          exact absurd this.symm (n_m1 (by omega))
        | succ n =>
          obtain ⟨pp', gg', e1, e2, e3, e4, e5, e6, e7, e8⟩ := hx0
          rw [a2] at e1
          have f1 := (nI_eq (by omega) (by omega)).mp e1
          subst f1
          exact e6 x hx2 hx9
      refine ⟨by omega, hseenb pp b1 b2 x hx2 ?_ (by omega)⟩
      rw [fr1 (g + 2) (by omega) (by omega) (by omega) (by omega)]; exact hx9
  have hnmv : ∀ {N1 : Nat} {pp : Nat} {w hh gw : Int32}, N1 ≤ N → pp < E → μ2 (g + 3) pp = 1 → goR N1 φ K (μ1 g pp) hh gw → nmR (μ1 41) (μ1 g pp) w → nmR (μ7 41) (μ7 g pp) w := by
    intro N1 pp w hh gw a1 a2 a3 a4 a5
    rw [hseeng pp a2 a3, q41]
    exact nm_mv a1 hN a4 a5 (fun i hi q => hseenl i hi pp a2 a3 q) c5 hnm
  refine ⟨μ7, ν3, cnt lv N, tr1, fun n => φ (idx n), fun n => K (idx n), fun n => τ (idx n), fun j => cnt lv (cm j), tm1, ?_, ?_, cnt_le lv N, ⟨hR', ⟨?_, ?_, ?_⟩, ⟨?_, ?_, ?_, ?_⟩, ⟨fun x hx2 => ?_, fun x y a1 a2 => ?_⟩, fun j hj n hn => ?_, fun j hj n hn hK a1 y a2 a3 => ?_, ⟨fun j hj => ?_, fun j k a1 a2 => ?_⟩, fun j hj => ?_, fun j hj => ?_, ?_, ?_, fun p hp => ?_, ?_, ?_, ?_, fun j hj x hx2 => ?_⟩, hchm (Nat.le_refl _) hx0' hx0s, fun pp w a1 a2 a3 => ?_⟩
  · -- the class's run
    unfold f_CO_run
    have hE5 := hE4 μ4 (by rw [r4 58 (by decide) (by decide) (by decide) (by decide) (by decide) (by decide) (ng 58 (by omega) (by omega)).2]; exact p3) (r4 63 (by decide) (by decide) (by decide) (by decide) (by decide) (by decide) (ng 63 (by omega) (by omega)).2)
    obtain ⟨v14, b1, b2⟩ := b1_e hE5
    rw [d1, b1_s, t1, b1_s, f1, b1_s, c1, b1_s, b1, b1_s]
    have b3 := Option.some.inj b2
    rw [b3]
    unfold f_CO_moveGoals
    rw [if_pos hgp, show f_CO_moveGoals_2 g cap (nI E) fu 0 μ4 = some μ5 from e1, b1_s, b1_s]
    unfold f_CO_moveMarks
    rw [show f_CO_moveMarks_2 fu 0 μ5 = some μ6 from w1, b1_s, show f_CO_moveMarks_44 fu 0 μ6 = some μ7 from y1, b1_s, b1_s, q40, c2]
    have p1' : μ 40 1 = nI N := by
      have := d5 1 (by decide)
      rw [p1] at this
      exact this.symm
    rw [p1', pk_sub (hcle N)]
  · rw [m3, show f_MO_free_184 fu 0 0 ν2 = some (nI s', ν3) from z1, b2_s, hfreed]
  · rw [q40]; exact c2
  · rw [q40, c3 3 (by decide), f4 40 (by decide), h40]; exact p2
  · rw [qo 58 (by decide) (by decide) (by decide) (by decide) (by decide) (by decide) (by decide) (by decide) (ng 58 (by omega) (by omega)).1 (ng 58 (by omega) (by omega)).2]; exact p3
  · rw [v7 12 (by decide) (by decide) (by decide)]; exact n1
  · rw [v7 23 (by decide) (by decide) (by decide)]; exact n2
  · rw [v7 18 (by decide) (by decide) (by decide)]; exact n3
  · rw [v7 13 (by decide) (by decide) (by decide)]; exact n4
  · -- the trail
    obtain ⟨i, i1, i2, i3, i4⟩ := htrl.1 x hx2
    have hli := hlive x i hx2 i1 i4
    obtain ⟨b1, b2⟩ := idx_np hx i1 hli
    refine ⟨cnt lv i, b1, ?_, ?_, ?_⟩
    · show K (idx (cnt lv i)) = 1
      rw [b2]; exact i2
    · intro q
      have hcr := hR'.2.2.2.2.2 (cnt lv i) b1
      have hK1 : K (idx (cnt lv i)) = 1 := by rw [b2]; exact i2
      rcases hcr with ⟨-, ⟨-, q2⟩ | ⟨q2, -⟩⟩ | ⟨q2, -⟩ | ⟨q2, -⟩
      · have q2' : ν3 76 (φ (idx (cnt lv i))) = -1 := q2
        rw [b2, vo 76 (by decide) (by decide) (by decide) (by decide) (by decide)] at q2'
        rcases hR.2.2.2.2.2 i i1 with ⟨-, ⟨q3, -⟩ | ⟨-, q3, -⟩⟩ | ⟨q3, -⟩ | ⟨q3, -⟩
        · exact i3 q3
        · apply tmR_kpos q3
          rw [q2']; decide
        · omega
        · omega
      · exact q2 q
      · have : K (idx (cnt lv i)) = 2 := q2
        omega
      · have : K (idx (cnt lv i)) = 3 := q2
        omega
    · rw [q42 x hx2, i4]; exact mv_0 (by omega)
  · obtain ⟨i, i1, i2, i3, i4⟩ := htrl.1 x (by omega)
    obtain ⟨j, j1, j2, j3, j4⟩ := htrl.1 y a2
    have h1 := hcle i
    have h2 := hcle j
    rw [q42 x (by omega), q42 y a2, i4, j4, mv_0 (by omega), mv_0 (by omega)]
    intro q
    have := ((wd_eq (by omega) (by omega) (by omega) (by omega)).mp q).1
    have := np_inj (hlive x i (by omega) i1 i4) (hlive y j a2 j1 j4) this
    subst this
    exact htrl.2 x y a1 a2 (i4.trans j4.symm)
  · -- the segments
    have hcmj := (hmrk.1 j hj).1
    have hmn := cnt_n (p := lv) (m := cm j) N hcmj
    have hn' : n < cnt lv (cm j) := hn
    have hidx := hbelow n (cm j) hn hcmj
    have := hseg j hj (idx n) hidx
    have hse : segE c j tm1 tr1 ≤ tr1 := by
      unfold segE
      by_cases e : j + 1 < c
      · rw [if_pos e]; exact (hmrk.1 (j + 1) e).2.2.2.1
      · rw [if_neg e]; exact Nat.le_refl _
    rw [vo 86 (by decide) (by decide) (by decide) (by decide) (by decide)]
    rw [← this]
    constructor
    · rintro ⟨x, q1, q2, q3⟩
      exact ⟨x, q1, q2, (hsE x (by omega) n (by omega)).mp q3⟩
    · rintro ⟨x, q1, q2, q3⟩
      exact ⟨x, q1, q2, (hsE x (by omega) n (by omega)).mpr q3⟩
  · -- what hangs below a mark
    have hcmj := (hmrk.1 j hj).1
    have hmn := cnt_n (p := lv) (m := cm j) N hcmj
    have hn' : n < cnt lv (cm j) := hn
    have hidx := hbelow n (cm j) hn hcmj
    obtain ⟨b1, b2, b3⟩ := hx n (by omega)
    have hd := hdn j hj (idx n) hidx hK (fun x q1 q2 q3 => a1 x q1 q2 ((hsE x q2 n (by omega)).mpr q3))
    have hCn : μ7 41 n = mv (cnt lv) (μ1 41 (idx n)) := by
      have := c5 (idx n) b1 b2
      rw [b3, ← q41] at this
      exact this
    rw [hCn] at a3
    rcases cont hR b1 with ⟨y', y1', y2', y3'⟩ | q
    · have hly : lv y' = true := by
        rcases cellR_K (hR.2.2.2.2.2 (idx n) b1) with e | e | e
        · exact hl.2.2 (idx n) y' b1 y1' b2 (Or.inl ⟨e, y3'⟩)
        · exact absurd e hK
        · -- an argument: its name lives
          rcases hR.2.2.2.2.2 (idx n) b1 with ⟨q, -⟩ | ⟨q, -⟩ | ⟨-, -, o, a, nm, h1, h2, h3, h4, h5, h6⟩
          · omega
          · omega
          · obtain ⟨a', nm', g1, g2, g3, g4, g5, g6, g7, g8⟩ := st_of hR (show o < N by omega) h2
            have ee := (wd_eq (by omega) (by omega) (by omega) (by omega)).mp (h4.symm.trans g4)
            have ea : a' = a := by omega
            subst ea
            have hbs : bsz (μ1 41) o = 1 + a' := by
              unfold bsz
              rw [g4, kd_wd (by omega) (by omega), arK_2 g1 g2]
            have hlo : lv o = true := by
              have := hl.1 o (by omega) (by omega) (idx n - o) (by omega)
              rw [show o + (idx n - o) = idx n by omega, b2] at this
              exact this.symm
            refine hl.2.2 o y' (by omega) y1' hlo (Or.inr ⟨h2, a', nm, idx n - o - 1, h4, h5, h3, by omega, ?_⟩)
            rw [show o + 1 + (idx n - o - 1) = idx n by omega]; exact y3'
      have hyc := hcle y'
      have hcN := hcle N
      have hyy : y = cnt lv y' := by
        rcases y3' with e | e
        · rw [e, mv_0 (by omega)] at a3
          exact (tgt_u (Or.inl rfl) a3 (by omega) (by omega)).symm
        · rw [e, mv_7 (by omega)] at a3
          exact (tgt_u (Or.inr rfl) a3 (by omega) (by omega)).symm
      rw [hyy]
      exact cnt_lt (hd y' y1' y3') hly
    · rw [mv_n q] at a3
      have := hcle N
      exact absurd a3 (tgt_no q (by omega))
  · obtain ⟨b1, b2, b3, b4, b5, b6, b7⟩ := hmrk.1 j hj
    refine ⟨cnt_n N b1, b2, fun n hn => ?_, b4, b5, ?_, ?_⟩
    · obtain ⟨i1, i2, i3⟩ := hx n hn
      show n < cnt lv (cm j) ↔ τ (idx n) < cs j
      rw [← b3 (idx n) i1]
      exact ⟨fun q => hbelow n (cm j) q b1, fun q => hbelow2 n (cm j) hn q⟩
    · by_cases e : cnt lv (cm j) = cnt lv N
      · exact Or.inl e
      · right
        have hlt : cnt lv (cm j) < cnt lv N := by have := cnt_n (p := lv) (m := cm j) N b1; omega
        obtain ⟨i1, i2, i3⟩ := hx (cnt lv (cm j)) hlt
        intro q
        have q' : K (idx (cnt lv (cm j))) = 3 := q
        have hge : cm j ≤ idx (cnt lv (cm j)) := by
          apply Classical.byContradiction
          intro w
          have := cnt_lt (p := lv) (x := idx (cnt lv (cm j))) (y := cm j) (by omega) i2
          omega
        rcases hR.2.2.2.2.2 _ i1 with ⟨q2, -⟩ | ⟨q2, -⟩ | ⟨-, -, o, a, nm, h1, h2, h3, h4, h5, h6⟩
        · omega
        · omega
        · obtain ⟨a', nm', g1, g2, g3, g4, g5, g6, g7, g8⟩ := st_of hR (show o < N by omega) h2
          have ee := (wd_eq (by omega) (by omega) (by omega) (by omega)).mp (h4.symm.trans g4)
          have ea : a' = a := by omega
          subst ea
          have hbs : bsz (μ1 41) o = 1 + a' := by
            unfold bsz
            rw [g4, kd_wd (by omega) (by omega), arK_2 g1 g2]
          have hlo : lv o = true := by
            have := hl.1 o (by omega) (by omega) (idx (cnt lv (cm j)) - o) (by omega)
            rw [show o + (idx (cnt lv (cm j)) - o) = idx (cnt lv (cm j)) by omega, i2] at this
            exact this.symm
          have hoc : o < cm j := by
            apply Classical.byContradiction
            intro w
            have := cnt_n (p := lv) (m := cm j) o (by omega)
            have := cnt_lt h1 hlo
            omega
          have := (g8 (cm j - o - 1) (by omega)).2.2.1
          rw [show o + 1 + (cm j - o - 1) = cm j by omega] at this
          rcases b6 with b6 | b6
          · omega
          · exact b6 this
    · show nq ≤ cnt lv (cm j)
      have := cnt_n (p := lv) (m := nq) (cm j) b7
      rw [hnqc nq (Nat.le_refl _)] at this
      exact this
  · obtain ⟨b1, b2, b3, b4⟩ := hmrk.2 j k a1 a2
    exact ⟨cnt_n _ b1, b2, b3, b4⟩
  · obtain ⟨b1, b2, b3, b4, b5⟩ := hrows j hj
    refine ⟨?_, ?_, ?_, ?_, ?_⟩
    · rw [y2 61 (by decide)]; exact w4 j (by omega) hj
    · rw [qo 62 (by decide) (by decide) (by decide) (by decide) (by decide) (by decide) (by decide) (by decide) (by omega) (by omega)]; exact b2
    · rw [qo 63 (by decide) (by decide) (by decide) (by decide) (by decide) (by decide) (by decide) (by decide) (ng 63 (by omega) (by omega)).1 (ng 63 (by omega) (by omega)).2]; exact b3
    · rw [vo 84 (by decide) (by decide) (by decide) (by decide) (by decide)]; exact b4
    · rw [vo 85 (by decide) (by decide) (by decide) (by decide) (by decide)]; exact b5
  · obtain ⟨b1, b2, n', pp', gg', r', b3, b4, b5, b6, b7, b8, b9, b10, b11⟩ := hchg j hj
    have hpE : pp' < E := by have := hE3 j hj; omega
    have hps : μ2 (g + 3) pp' = 1 := t4 j pp' hj b4 hpE
    obtain ⟨gw, hh, hgo3⟩ := chR_h b3 b4 (by omega)
    have q59 : μ7 59 = μ1 59 := qo 59 (by decide) (by decide) (by decide) (by decide) (by decide) (by decide) (by decide) (by decide) (ng 59 (by omega) (by omega)).1 (ng 59 (by omega) (by omega)).2
    have q60 : μ7 60 = μ1 60 := qo 60 (by decide) (by decide) (by decide) (by decide) (by decide) (by decide) (by decide) (by decide) (ng 60 (by omega) (by omega)).1 (ng 60 (by omega) (by omega)).2
    have hgr := hgo (6 + 2 * r') (by omega)
    refine ⟨b1, b2, n', pp', gg', r', ?_, ?_, b5, ?_, b7, ?_, ?_, b10, ?_⟩
    · rw [q59, vo 82 (by decide) (by decide) (by decide) (by decide) (by decide)]
      refine hchm (hmrk.1 j hj).1 b3 (fun x a1 a2 => ?_)
      rw [b4] at a2
      have := (nI_eq (by omega) (by omega)).mp a2
      subst this
      exact ⟨hpE, hps⟩
    · rw [q59]; exact b4
    · rw [vo 82 (by decide) (by decide) (by decide) (by decide) (by decide)]; exact b6
    · rw [q60]; exact b8
    · rw [vo 83 (by decide) (by decide) (by decide) (by decide) (by decide)]; exact b9
    · rw [qo (6 + 2 * r') (by omega) (by omega) (by omega) (by omega) (by omega) (by omega) (by omega) (by omega) hgr.1 hgr.2]
      exact hnmv (hmrk.1 j hj).1 hpE hps hgo3 b11
  · obtain ⟨⟨n', b1⟩, b2, b3, b4⟩ := hcur
    have q37 : μ7 37 = μ1 37 := qo 37 (by decide) (by decide) (by decide) (by decide) (by decide) (by decide) (by decide) (by decide) (hgo 37 (by omega)).1 (hgo 37 (by omega)).2
    have v16 : ν3 70 16 = ν 70 16 := v7 16 (by decide) (by decide) (by decide)
    have v17 : ν3 70 17 = ν 70 17 := v7 17 (by decide) (by decide) (by decide)
    unfold curR
    rw [q37, v16, v17]
    refine ⟨⟨n', hchm (Nat.le_refl _) b1 h9s⟩, b2, b3, ?_⟩
    rcases b4 with b4 | ⟨r, pp, d1', hpp, d2', d3', d4', d5'⟩
    · exact Or.inl b4
    · skip
      obtain ⟨s1, s2⟩ := h9s pp hpp d4'
      obtain ⟨-, ⟨gw, hh, hgo4⟩, -⟩ := t3.2 pp (by omega) s2
      rw [g2] at hgo4
      have hgr := hgo (6 + 2 * r) (by omega)
      refine Or.inr ⟨r, pp, d1', hpp, d2', d3', d4', ?_⟩
      rw [qo (6 + 2 * r) (by omega) (by omega) (by omega) (by omega) (by omega) (by omega) (by omega) (by omega) hgr.1 hgr.2]
      exact hnmv (Nat.le_refl _) s1 s2 hgo4 d5'
  · refine ⟨hq1, ?_, fun i hi => ?_, ?_, fun w hw => ?_⟩
    · have := cnt_n (p := lv) (m := nq) N hq2
      rw [hnqc nq (Nat.le_refl _)] at this
      exact this
    · show K (idx i) = 1
      rw [hidq i hi]; exact hq3 i hi
    · rw [qo 38 (by decide) (by decide) (by decide) (by decide) (by decide) (by decide) (by decide) (by decide) (hgo 38 (by omega)).1 (hgo 38 (by omega)).2]; exact hq4
    · rw [vo 87 (by decide) (by decide) (by decide) (by decide) (by decide)]
      obtain ⟨b1, b2⟩ := hq5 w hw
      refine ⟨fun q => ?_, b2⟩
      show ν 87 w = nI (φ (idx (cnt has w)))
      have hcw : cnt has (w + 1) = cnt has w + 1 := by rw [cnt_s, q]; rfl
      have := cnt_n (p := has) (m := w + 1) 8 (by omega)
      rw [hidq (cnt has w) (by omega)]
      exact b1 q
  · rw [qg3]
    by_cases e : p < E
    · exact (e4 p (by omega) e).2
    · rw [(e5 p (by omega)).2, s4]
      rcases t3.1 p hp with w | w
      · exact w
      · have := (t3.2 p hp w).1; omega
  · -- the free variables
    have : frc (μ7 41) (fun n => K (idx n)) (cnt lv N) ≤ frc (μ1 41) K N := by
      unfold frc
      refine cnt_idx hx (fun n hn q => ?_) N (Nat.le_refl _)
      obtain ⟨q1, q2⟩ := of_decide_eq_true q
      obtain ⟨b1, b2, b3⟩ := hx n hn
      refine decide_eq_true ⟨q1, ?_⟩
      have hCn : μ7 41 n = mv (cnt lv) (μ1 41 (idx n)) := by
        have := c5 (idx n) b1 b2
        rw [b3, ← q41] at this
        exact this
      rw [hCn] at q2
      have hnn := hcle N
      rcases cont hR b1 with ⟨y', y1', y2', y3'⟩ | w
      · have hyc := hcle y'
        have hly : lv y' = true := hl.2.2 (idx n) y' b1 y1' b2 (Or.inl ⟨q1, y3'⟩)
        rcases y3' with e | e
        · rw [e, mv_0 (by omega)] at q2
          have := ((wd_eq (by omega) (by omega) (by omega) (by omega)).mp q2).1
          rw [← b3] at this
          have := np_inj hly b2 this
          rw [← this]
          rw [← this] at e
          exact e
        · rw [e, mv_7 (by omega)] at q2
          have := ((wd_eq (by omega) (by omega) (by omega) (by omega)).mp q2).2
          omega
      · rw [mv_n w] at q2
        rw [q2, kd_wd (by omega) (by omega)] at w
        omega
    omega
  · intro y hy
    rw [vo 86 (by decide) (by decide) (by decide) (by decide) (by decide)]
    exact hbnd y hy
  · refine ⟨by rw [z2 70 (by decide)]; exact m1.1.2.2.1, fun x hx2 => ?_⟩
    rw [z2 90 (by decide)]
    rcases m1.2.2.2.2 x with w | w
    · rw [w, m2]
      obtain ⟨n, a1, a2⟩ := hmk.2 x hx2
      exact ⟨n, by omega, a2⟩
    · rw [w, m2]
      exact ⟨M + 1, Nat.le_refl _, rfl⟩
  · obtain ⟨i, i1, i2, i3⟩ := hlow j hj x hx2
    have htj := (hmrk.1 j hj).2.2.2.1
    have hli := hlive x i (by omega) i2 i3
    obtain ⟨b1, b2⟩ := idx_np hx i2 hli
    refine ⟨cnt lv i, cnt_lt i1 hli, b1, ?_⟩
    rw [q42 x (by omega), i3]; exact mv_0 (by omega)
  · obtain ⟨s1, s2⟩ := hx0s pp a2 a1
    obtain ⟨-, ⟨gw, hh, hgo4⟩, -⟩ := t3.2 pp (by omega) s2
    rw [g2] at hgo4
    refine hnmv (Nat.le_refl _) s1 s2 hgo4 ?_
    rw [fr1 41 (by decide) (by decide) (by decide) (by decide), fr1 g (by omega) (by omega) (by omega) (by omega)]
    exact a3
end CGB
