/-! a collection: the relation behind it -/
section MVC
variable {C U T KK V NM A C' U' : Nat → Int32} {N S : Nat} {φ K τ idx : Nat → Nat} {lv : Nat → Bool} {RR : Nat → Int32}
/-- idx goes from a new place to the old one -/
def idxR (N : Nat) (lv : Nat → Bool) (idx : Nat → Nat) : Prop := ∀ n, n < cnt lv N → idx n < N ∧ lv (idx n) = true ∧ cnt lv (idx n) = n
theorem idx_e : ∃ idx, idxR N lv idx := by
  refine ⟨fun n => if h : n < cnt lv N then Classical.choose (cnt_inv N h) else 0, fun n hn => ?_⟩
  show (dite (n < cnt lv N) (fun h => Classical.choose (cnt_inv N h)) (fun _ => 0)) < N ∧ lv (dite (n < cnt lv N) (fun h => Classical.choose (cnt_inv N h)) (fun _ => 0)) = true ∧ cnt lv (dite (n < cnt lv N) (fun h => Classical.choose (cnt_inv N h)) (fun _ => 0)) = n
  rw [dif_pos hn]
  exact Classical.choose_spec (cnt_inv N hn)
theorem np_inj {i j : Nat} (hi : lv i = true) (hj : lv j = true) (h : cnt lv i = cnt lv j) : i = j := by
  rcases Nat.lt_trichotomy i j with q | q | q
  · have := cnt_lt q hi; omega
  · exact q
  · have := cnt_lt q hj; omega
theorem idx_np (hx : idxR N lv idx) {i : Nat} (hi : i < N) (h : lv i = true) : cnt lv i < cnt lv N ∧ idx (cnt lv i) = i := by
  have h1 := cnt_lt hi h
  obtain ⟨a, b, c⟩ := hx (cnt lv i) h1
  exact ⟨h1, np_inj b h c⟩
theorem idx_m (hx : idxR N lv idx) {n m : Nat} (h : n < m) (hm : m < cnt lv N) : idx n < idx m := by
  obtain ⟨a, b, c⟩ := hx n (by omega)
  obtain ⟨a', b', c'⟩ := hx m hm
  apply Classical.byContradiction
  intro w
  have := cnt_n (p := lv) (m := idx m) (idx n) (by omega)
  omega
theorem tm_mv (hx : idxR N lv idx) (hN : N ≤ 240) {t k v : Int32} (h : tmR N φ K t k v) (ht : ∀ j, j < N → tgt t j → lv j = true) : tmR (cnt lv N) (fun n => φ (idx n)) (fun n => K (idx n)) (mv (cnt lv) t) k v := by
  rcases tmR_kd h hN with ⟨h1, h2, i, h3, h4, h5, h6⟩ | ⟨h1, h2, h3⟩ | ⟨h1, h2, a, h3, h4, h5⟩ | ⟨h1, h2, i, h3, h4, h5, h6⟩
  · obtain ⟨e1, e2⟩ := idx_np hx h3 (ht i h3 (Or.inl h5))
    refine Or.inl ⟨cnt lv i, e1, ?_, ?_, h2, ?_⟩
    · show K (idx (cnt lv i)) = 1
      rw [e2]; exact h4
    · rw [h5]; exact mv_0 (by omega)
    · show v = nI (φ (idx (cnt lv i)))
      rw [e2]; exact h6
  · rw [mv_n ⟨by omega, by omega⟩]; exact Or.inr (Or.inl ⟨h1, h2, h3⟩)
  · rw [mv_n ⟨by omega, by omega⟩]; exact Or.inr (Or.inr (Or.inl ⟨a, h3, h4, h2, h5⟩))
  · obtain ⟨e1, e2⟩ := idx_np hx h3 (ht i h3 (Or.inr h5))
    refine Or.inr (Or.inr (Or.inr ⟨cnt lv i, e1, ?_, ?_, h2, ?_⟩))
    · show K (idx (cnt lv i)) = 2
      rw [e2]; exact h4
    · rw [h5]; exact mv_7 (by omega)
    · show v = nI (φ (idx (cnt lv i)))
      rw [e2]; exact h6
theorem move_R (hR : cellsR C U T KK V NM A N S φ K τ) (hl : lvR C N K lv RR) (hx : idxR N lv idx) (hC : ∀ i, i < N → lv i = true → C' (cnt lv i) = mv (cnt lv) (C i)) {mk : Nat → Prop} [∀ c, Decidable (mk c)] (hU : ∀ c, c < 240 → U' c = if ¬ U c ≤ 0 ∧ ¬ mk c then 0 else U c) (hmk : ∀ i, i < N → (mk (φ i) ↔ lv i = true)) : cellsR C' U' T KK V NM A (cnt lv N) S (fun n => φ (idx n)) (fun n => K (idx n)) (fun n => τ (idx n)) := by
  have hR0 := hR
  obtain ⟨a1, a2, a3, a4, a5, a6⟩ := hR
  have hcl := cnt_le lv N
  refine ⟨by omega, a2, fun n hn => ?_, fun n m h hm => ?_, fun c hc => ?_, fun n hn => ?_⟩
  · obtain ⟨i1, i2, i3⟩ := hx n hn
    obtain ⟨b1, b2, b3, b4⟩ := a3 (idx n) i1
    refine ⟨b1, ?_, b3, b4⟩
    rw [hU _ b1, if_neg (fun q => q.2 ((hmk _ i1).mpr i2))]
    exact b2
  · exact a4 _ _ (idx_m hx h hm) (hx m hm).1
  · rw [hU c hc]
    by_cases e : ¬ U c ≤ 0 ∧ ¬ mk c
    · rw [if_pos e]; exact Or.inl rfl
    · rw [if_neg e]
      rcases a5 c hc with q | ⟨i, i1, i2⟩
      · exact Or.inl q
      · right
        have hmc : lv i = true := by
          apply (hmk i i1).mp
          apply Classical.byContradiction
          intro w
          apply e
          rw [← i2]
          refine ⟨?_, w⟩
          have := (a3 i i1).2.1
          rw [this]
          rcases cellR_K (a6 i i1) with q | q | q <;> rw [q] <;> decide
        obtain ⟨e1, e2⟩ := idx_np hx i1 hmc
        exact ⟨cnt lv i, e1, by show φ (idx (cnt lv i)) = c; rw [e2]; exact i2⟩
  · obtain ⟨i1, i2, i3⟩ := hx n hn
    have hCn : C' n = mv (cnt lv) (C (idx n)) := by
      have := hC (idx n) i1 i2
      rw [i3] at this
      exact this
    unfold cellR
    show (K (idx n) = 1 ∧ _) ∨ (K (idx n) = 2 ∧ _) ∨ (K (idx n) = 3 ∧ _)
    rw [hCn]
    rcases a6 (idx n) i1 with ⟨h1, h2⟩ | ⟨h1, a, nm, h2, h3, h4, h5, h6, h7, h8⟩ | ⟨h1, h2, j, a, nm, h3, h4, h5, h6, h7, h8⟩
    · refine Or.inl ⟨h1, ?_⟩
      rcases h2 with ⟨h2, h3⟩ | ⟨h2, h3, h4⟩
      · left
        rw [h2, mv_0 (by omega), i3]
        exact ⟨rfl, h3⟩
      · right
        have hliv : ∀ j, j < N → tgt (C (idx n)) j → lv j = true := fun j hj q => hl.2.2 (idx n) j i1 hj i2 (Or.inl ⟨h1, q⟩)
        refine ⟨fun q => ?_, tm_mv hx a1 h3 hliv, fun m hm q => ?_⟩
        · rcases tmR_kd h3 a1 with ⟨b1, b2, x, b3, b4, b5, b6⟩ | ⟨b1, b2, b3⟩ | ⟨b1, b2, x, b3, b4, b5⟩ | ⟨b1, b2, x, b3, b4, b5, b6⟩
          · rw [b5, mv_0 (by omega)] at q
            have hcx := cnt_le lv x
            have e := ((wd_eq (by omega) (by omega) (by omega) (by omega)).mp q).1
            rw [← i3] at e
            have := np_inj (hliv x b3 (Or.inl b5)) i2 e
            subst this
            exact h2 b5
          · rw [mv_n ⟨by omega, by omega⟩] at q
            rw [q, kd_wd (by omega) (by omega)] at b1; omega
          · rw [mv_n ⟨by omega, by omega⟩] at q
            rw [q, kd_wd (by omega) (by omega)] at b1; omega
          · rw [b5, mv_7 (by omega)] at q
            have hcx := cnt_le lv x
            have e := ((wd_eq (by omega) (by omega) (by omega) (by omega)).mp q).2
            omega
        · rcases tmR_kd h3 a1 with ⟨b1, b2, x, b3, b4, b5, b6⟩ | ⟨b1, b2, b3⟩ | ⟨b1, b2, x, b3, b4, b5⟩ | ⟨b1, b2, x, b3, b4, b5, b6⟩
          · rw [b5, mv_0 (by omega)] at q
            have hcx := cnt_le lv x
            have e := ((wd_eq (by omega) (by omega) (by omega) (by omega)).mp q).1
            have hlt := h4 x b3 b5
            have := cnt_lt hlt (hliv x b3 (Or.inl b5))
            omega
          · rw [mv_n ⟨by omega, by omega⟩] at q
            rw [q, kd_wd (by omega) (by omega)] at b1; omega
          · rw [mv_n ⟨by omega, by omega⟩] at q
            rw [q, kd_wd (by omega) (by omega)] at b1; omega
          · rw [b5, mv_7 (by omega)] at q
            have hcx := cnt_le lv x
            have e := ((wd_eq (by omega) (by omega) (by omega) (by omega)).mp q).2
            omega
    · have hbs : bsz C (idx n) = 1 + a := by
        unfold bsz
        rw [h5, kd_wd (by omega) (by omega), arK_2 h2 h3]
      have hnx : ∀ m, m < a → cnt lv (idx n + 1 + m) = n + 1 + m ∧ lv (idx n + 1 + m) = true := by
        intro m hm
        have e1 := cnt_blk (lv := lv) (i := idx n) (bsz C (idx n)) (1 + m) (by omega) (fun m hm => hl.1 (idx n) i1 (by omega) m hm)
        rw [if_pos i2, i3, show idx n + (1 + m) = idx n + 1 + m by omega] at e1
        have e2 := hl.1 (idx n) i1 (by omega) (1 + m) (by omega)
        rw [show idx n + (1 + m) = idx n + 1 + m by omega, i2] at e2
        exact ⟨by omega, e2⟩
      have hidn : ∀ m, m < a → idx (n + 1 + m) = idx n + 1 + m ∧ n + 1 + m < cnt lv N := by
        intro m hm
        obtain ⟨e1, e2⟩ := hnx m hm
        obtain ⟨e3, e4⟩ := idx_np hx (show idx n + 1 + m < N by omega) e2
        rw [e1] at e3 e4
        exact ⟨e4, e3⟩
      refine Or.inr (Or.inl ⟨h1, a, nm, h2, h3, h4, ?_, ?_, ?_, fun m hm => ?_⟩)
      · rw [mv_n ⟨by rw [h5, kd_wd (by omega) (by omega)]; omega, by rw [h5, kd_wd (by omega) (by omega)]; omega⟩]; exact h5
      · rw [mv_n ⟨by rw [h5, kd_wd (by omega) (by omega)]; omega, by rw [h5, kd_wd (by omega) (by omega)]; omega⟩]; exact h6
      · have := (hidn (a - 1) (by omega)).2
        omega
      · show K (idx (n + 1 + m)) = 3 ∧ A (3 * φ (idx n) + m) = nI (φ (idx (n + 1 + m)))
        rw [(hidn m hm).1]
        exact h8 m hm
    · -- an argument's cell
      obtain ⟨a', nm', g1, g2, g3, g4, g5, g6, g7, g8⟩ := st_of hR0 (show j < N by omega) h4
      have e := (wd_eq (by omega) (by omega) (by omega) (by omega)).mp (h6.symm.trans g4)
      have ea : a' = a := by omega
      subst ea
      have hbs : bsz C j = 1 + a' := by
        unfold bsz
        rw [g4, kd_wd (by omega) (by omega), arK_2 g1 g2]
      have hlj : lv j = true := by
        have := hl.1 j (by omega) (by omega) (idx n - j) (by omega)
        rw [show j + (idx n - j) = idx n by omega, i2] at this
        exact this.symm
      have hcj := cnt_blk (lv := lv) (i := j) (bsz C j) (idx n - j) (by omega) (fun m hm => hl.1 j (by omega) (by omega) m hm)
      rw [if_pos hlj, show j + (idx n - j) = idx n by omega, i3] at hcj
      obtain ⟨e1, e2⟩ := idx_np hx (show j < N by omega) hlj
      refine Or.inr (Or.inr ⟨h1, tm_mv hx a1 h2 (fun y hy q => ?_), cnt lv j, a', nm, by omega, ?_, h5, ?_, h7, by omega⟩)
      · refine hl.2.2 j y (by omega) hy hlj (Or.inr ⟨h4, a', nm, idx n - j - 1, h6, h7, h5, by omega, ?_⟩)
        rw [show j + 1 + (idx n - j - 1) = idx n by omega]; exact q
      · show K (idx (cnt lv j)) = 2
        rw [e2]; exact h4
      · rw [hC j (by omega) hlj, mv_n ⟨by rw [h6, kd_wd (by omega) (by omega)]; omega, by rw [h6, kd_wd (by omega) (by omega)]; omega⟩]; exact h6
theorem go_mv (hx : idxR N lv idx) (hN : N ≤ 240) {N1 : Nat} (hN1 : N1 ≤ N) {t hh gw : Int32} (h : goR N1 φ K t hh gw) (ht : ∀ i, i < N → t = wd i 7 → lv i = true) : goR (cnt lv N1) (fun n => φ (idx n)) (fun n => K (idx n)) (mv (cnt lv) t) hh gw := by
  obtain ⟨x, x1, x2, ⟨a, a1, a2, a3⟩ | ⟨i, i1, i2, i3, i4, i5⟩ | ⟨a1, a2⟩⟩ := h
  · refine ⟨x, x1, x2, Or.inl ⟨a, a1, ?_, a3⟩⟩
    rw [mv_n ⟨by rw [a2, kd_wd (by omega) (by omega)]; omega, by rw [a2, kd_wd (by omega) (by omega)]; omega⟩]; exact a2
  · have hlv := ht i (by omega) i4
    obtain ⟨e1, e2⟩ := idx_np hx (show i < N by omega) hlv
    refine ⟨x, x1, x2, Or.inr (Or.inl ⟨cnt lv i, cnt_lt i1 hlv, ?_, ?_, ?_, ?_⟩)⟩
    · show K (idx (cnt lv i)) = 2
      rw [e2]; exact i2
    · show φ (idx (cnt lv i)) < 240
      rw [e2]; exact i3
    · rw [i4]; exact mv_7 (by omega)
    · show gw = nI (3 + 8 * φ (idx (cnt lv i)) + 2048 * x)
      rw [e2]; exact i5
  · refine ⟨x, x1, x2, Or.inr (Or.inr ⟨?_, a2⟩)⟩
    rw [mv_n ⟨by rw [a1, kd_wd (by omega) (by omega)]; omega, by rw [a1, kd_wd (by omega) (by omega)]; omega⟩]; exact a1
/-- a chain of goals moves -/
theorem ch_mv (hx : idxR N lv idx) (hN : N ≤ 240) {N1 E cap : Nat} (hN1 : N1 ≤ N) {TT TT' HH BB G GN SS : Nat → Int32} (hT : ∀ p, p < E → SS p = 1 → TT' p = mv (cnt lv) (TT p)) (hlv : ∀ i, i < N → ∀ p, p < E → SS p = 1 → TT p = wd i 7 → lv i = true) (hbe : ∀ p, p < E → SS p = 1 → ∀ q, q < 2 ^ 29 → BB p = nI q → q < E → SS q = 1) (n : Nat) : ∀ (p q : Int32), chR N1 φ K TT HH BB G GN n p q → (∀ x, x < 2 ^ 29 → p = nI x → x < E ∧ SS x = 1) → chR (cnt lv N1) (fun n => φ (idx n)) (fun n => K (idx n)) TT' HH BB G GN n p q := by
  induction n with
  | zero => intro p q h _; exact h
  | succ n ih =>
    intro p q h hp
    obtain ⟨pp, gg, e1, e2, e3, e4, e5, e6, e7, e8⟩ := h
    obtain ⟨s1, s2⟩ := hp pp e3 e1
    refine ⟨pp, gg, e1, e2, e3, e4, ?_, e6, e7, ih _ _ e8 (fun x hx2 q => ?_)⟩
    · rw [hT pp s1 s2]
      exact go_mv hx hN hN1 e5 (fun i hi q => hlv i hi pp s1 s2 q)
    · have := e6 x hx2 q
      exact ⟨by omega, hbe pp s1 s2 x hx2 q (by omega)⟩
theorem chR_len {TT HH BB G GN : Nat → Int32} (n : Nat) : ∀ (p q : Int32) (b : Nat), chR N φ K TT HH BB G GN n p q → (∀ x, x < 2 ^ 29 → q = nI x → x < b) → n ≤ b := by
  induction n with
  | zero => intro p q b _ _; omega
  | succ n ih =>
    intro p q b h hb
    obtain ⟨pp, gg, e1, e2, e3, e4, e5, e6, e7, e8⟩ := h
    have := hb gg e4 e2
    have := ih _ _ gg e8 (fun x hx q => e7 x hx q)
    omega
theorem chR_N {N1 N2 : Nat} {TT HH BB G GN : Nat → Int32} (h : N1 ≤ N2) (n : Nat) : ∀ (p q : Int32), chR N1 φ K TT HH BB G GN n p q → chR N2 φ K TT HH BB G GN n p q := by
  induction n with
  | zero => intro p q h; exact h
  | succ n ih =>
    intro p q hh
    obtain ⟨pp, gg, e1, e2, e3, e4, ⟨x, x1, x2, x3⟩, e6, e7, e8⟩ := hh
    refine ⟨pp, gg, e1, e2, e3, e4, ⟨x, x1, x2, ?_⟩, e6, e7, ih _ _ e8⟩
    rcases x3 with x3 | ⟨i, i1, i2, i3, i4, i5⟩ | x3
    · exact Or.inl x3
    · exact Or.inr (Or.inl ⟨i, by omega, i2, i3, i4, i5⟩)
    · exact Or.inr (Or.inr x3)
end MVC
