/-! steps over the template -/
section HPA
def sI (μ : Nat → Nat → Int32) (k j : Nat) (v : Int32) : Nat → Nat → Int32 := upM μ k (upd (μ k) j v)
theorem sI_at {μ : Nat → Nat → Int32} {k j : Nat} {v : Int32} : sI μ k j v k j = v := by
  unfold sI
  rw [upM_at]
  exact if_pos rfl
theorem sI_nk {μ : Nat → Nat → Int32} {k j a : Nat} {v : Int32} (h : a ≠ k) : sI μ k j v a = μ a := upM_ne h
theorem sI_nj {μ : Nat → Nat → Int32} {k j i : Nat} {v : Int32} (h : i ≠ j) : sI μ k j v k i = μ k i := by
  unfold sI
  rw [upM_at]
  exact if_neg h
variable {G : gv_G} {y : gv_M} {d : Nat} {r : gv_O} {hf : gv_H} {pc : Nat} {ls : gv_L} {st : List gv_V} {v9 : Int32} {w9 : Int64} {a a9 b ci j wp nx n n9 g cap t : Nat} {acc : Nat × Nat} {μ : Nat → Nat → Int32} {tb : List (Int32 × Nat)} {fs : List gv_V} {rr : vw_C} {i x : Int32}
theorem hp_pf (hy : gv_ok y) (hj : gv_lk y.2.2.2.2.1 pc = some (80, v9, w9, ci, j, wp, nx, tb)) (h0 : Nat.beq a 0 = false) (ha : tpl g cap a (μ a) = some (Sum.inr (ci, fs))) (hb : tpl g cap a (upd (μ a) j x) = some (Sum.inr (ci, fs.set j (gI x)))) (hci : gv_cl[ci]? = some rr) (hl : j < fs.length) (hfit : gv_fit (gv_ft rr j) (gI x) = true)
    (k : gv_go G y d r hf nx ls st (hp n acc g cap (sI μ a j x))) : gv_go G y d r hf pc ls (gI x :: gR a :: st) (hp n acc g cap μ) :=
  gv_pf hy hj h0 ha hci hl hfit (gv_cast (hp_set hb) k)
theorem hp_ias (hy : gv_ok y) (hj : gv_lk y.2.2.2.2.1 pc = some (76, v9, w9, a9, b, wp, nx, tb)) (h0 : Nat.beq a 0 = false) (ha : tpl g cap a (μ a) = some (Sum.inl (0, n9, Sum.inl (μ a)))) (hb : tpl g cap a (upd (μ a) t x) = some (Sum.inl (0, n9, Sum.inl (upd (μ a) t x)))) (hi : i = nI t) (ht : t < n9) (hn : n9 < 2 ^ 31)
    (k : gv_go G y d r hf nx ls st (hp n acc g cap (sI μ a t x))) : gv_go G y d r hf pc ls (gI x :: gI i :: gR a :: st) (hp n acc g cap μ) := by
  subst hi
  refine gv_ias hy hj h0 ha (vp_in_nI ht hn) (gv_cast ?_ k)
  rw [nI_clamp (by omega)]
  exact hp_set hb
theorem hp_zas (hy : gv_ok y) (hj : gv_lk y.2.2.2.2.1 pc = some (77, v9, w9, a9, b, wp, nx, tb)) (h0 : Nat.beq a 0 = false) (ha : tpl g cap a (μ a) = some (Sum.inl (2, n9, Sum.inl (μ a)))) (hb : tpl g cap a (upd (μ a) t x) = some (Sum.inl (2, n9, Sum.inl (upd (μ a) t x)))) (hi : i = nI t) (ht : t < n9) (hn : n9 < 2 ^ 31) (hx : x = 0 ∨ x = 1)
    (k : gv_go G y d r hf nx ls st (hp n acc g cap (sI μ a t x))) : gv_go G y d r hf pc ls (gI x :: gI i :: gR a :: st) (hp n acc g cap μ) := by
  subst hi
  refine gv_zas hy hj h0 ha (vp_in_nI ht hn) hx (gv_cast ?_ k)
  rw [nI_clamp (by omega)]
  exact hp_set hb
theorem hp_ial (hy : gv_ok y) (hj : gv_lk y.2.2.2.2.1 pc = some (72, v9, w9, a9, b, wp, nx, tb)) (ha : tpl g cap a (μ a) = some (Sum.inl (0, n9, Sum.inl (μ a)))) (hi : i = nI t) (ht : t < n9) (hn : n9 < 2 ^ 31)
    (k : gv_go G y d r hf nx ls (gI (μ a t) :: st) (hp n acc g cap μ)) : gv_go G y d r hf pc ls (gI i :: gR a :: st) (hp n acc g cap μ) := by
  subst hi
  refine gv_ial hy hj ha (vp_in_nI ht hn) ?_
  rw [nI_clamp (by omega)]
  exact k
theorem hp_zal (hy : gv_ok y) (hj : gv_lk y.2.2.2.2.1 pc = some (73, v9, w9, a9, b, wp, nx, tb)) (ha : tpl g cap a (μ a) = some (Sum.inl (2, n9, Sum.inl (μ a)))) (hi : i = nI t) (ht : t < n9) (hn : n9 < 2 ^ 31)
    (k : gv_go G y d r hf nx ls (gI (μ a t) :: st) (hp n acc g cap μ)) : gv_go G y d r hf pc ls (gI i :: gR a :: st) (hp n acc g cap μ) := by
  subst hi
  refine gv_zal hy hj ha (vp_in_nI ht hn) ?_
  rw [nI_clamp (by omega)]
  exact k
/-- an int, written otherwise -/
theorem gv_st1 {x' : Int32} {h : gv_H} (e : x = x') (k : gv_go G y d r hf pc ls (gI x' :: st) h) : gv_go G y d r hf pc ls (gI x :: st) h := e ▸ k
theorem gv_pce {p1 p2 : Nat} {h : gv_H} (e : p1 = p2) (k : gv_go G y d r hf p2 ls st h) : gv_go G y d r hf p1 ls st h := e ▸ k
end HPA
/-! words -/
section WDA
/-- a word, by its kind and value -/
def isWk (k v : Int32) : Prop := (k = 0 ∧ ¬ v < 0 ∧ v < 8) ∨ k = 1 ∨ (¬ k ≤ 1 ∧ ¬ 6 ≤ k ∧ ¬ v < 0 ∧ v < 32) ∨ (k = 6 ∧ v = 0)
abbrev w_k (w : Int32) : Int32 := w &&& 7
abbrev w_v (w : Int32) : Int32 := w >>> ((3 : Int32) &&& 31)
def isW (w : Int32) : Prop := isWk (w_k w) (w_v w)
theorem isWk_0 {v : Int32} : isWk (nI 0) v ↔ (¬ v < 0 ∧ v < 8) :=
  ⟨fun h => h.elim (fun h => h.2) (fun h => h.elim (fun h => absurd h (by decide)) (fun h => h.elim (fun h => absurd (by decide) h.1) (fun h => absurd h.1 (by decide)))), fun h => Or.inl ⟨by decide, h⟩⟩
theorem isWk_1 {v : Int32} : isWk (nI 1) v := Or.inr (Or.inl (by decide))
theorem isWk_2 {v : Int32} : isWk (nI 2) v ↔ (¬ v < 0 ∧ v < 32) :=
  ⟨fun h => h.elim (fun h => absurd h.1 (by decide)) (fun h => h.elim (fun h => absurd h (by decide)) (fun h => h.elim (fun h => h.2.2) (fun h => absurd h.1 (by decide)))), fun h => Or.inr (Or.inr (Or.inl ⟨by decide, by decide, h⟩))⟩
theorem isWk_3 {v : Int32} : isWk (nI 3) v ↔ (¬ v < 0 ∧ v < 32) :=
  ⟨fun h => h.elim (fun h => absurd h.1 (by decide)) (fun h => h.elim (fun h => absurd h (by decide)) (fun h => h.elim (fun h => h.2.2) (fun h => absurd h.1 (by decide)))), fun h => Or.inr (Or.inr (Or.inl ⟨by decide, by decide, h⟩))⟩
theorem isWk_4 {v : Int32} : isWk (nI 4) v ↔ (¬ v < 0 ∧ v < 32) :=
  ⟨fun h => h.elim (fun h => absurd h.1 (by decide)) (fun h => h.elim (fun h => absurd h (by decide)) (fun h => h.elim (fun h => h.2.2) (fun h => absurd h.1 (by decide)))), fun h => Or.inr (Or.inr (Or.inl ⟨by decide, by decide, h⟩))⟩
theorem isWk_5 {v : Int32} : isWk (nI 5) v ↔ (¬ v < 0 ∧ v < 32) :=
  ⟨fun h => h.elim (fun h => absurd h.1 (by decide)) (fun h => h.elim (fun h => absurd h (by decide)) (fun h => h.elim (fun h => h.2.2) (fun h => absurd h.1 (by decide)))), fun h => Or.inr (Or.inr (Or.inl ⟨by decide, by decide, h⟩))⟩
theorem isWk_6 {v : Int32} : isWk (nI 6) v ↔ v = 0 :=
  ⟨fun h => h.elim (fun h => absurd h.1 (by decide)) (fun h => h.elim (fun h => absurd h (by decide)) (fun h => h.elim (fun h => absurd (by decide) h.2.1) (fun h => h.2))), fun h => Or.inr (Or.inr (Or.inr ⟨by decide, h⟩))⟩
theorem isWk_7 {v : Int32} : ¬ isWk (nI 7) v := fun h => h.elim (fun h => absurd h.1 (by decide)) (fun h => h.elim (fun h => absurd h (by decide)) (fun h => h.elim (fun h => absurd (by decide) h.2.1) (fun h => absurd h.1 (by decide))))
theorem w_k8 (w : Int32) : ∃ j, j < 8 ∧ w_k w = nI j := pk_andE w (m := 7) 3 (by decide)
theorem e_isWord1 {G : gv_G} {d : Nat} {h : gv_H} {w : Int32} (hw : isW w) : gv_ev G d M_GE_isWord [gI w] h (.inl (some (gI 1))) h := by
  obtain ⟨j, hj, e⟩ := w_k8 w
  unfold isW at hw
  refine gv_E (ls := [some (gI w), none]) (by decide) (fun h => by cases h) (Nat.le_of_ble_eq_true rfl) rfl ?_
  refine gv_B ok_GE_isWord 8 rfl ?_
  show gv_go G M_GE_isWord d _ _ (gv_sw (w_k w) 86 [(0, 56), (1, 72), (2, 86), (3, 86), (4, 86), (5, 86), (6, 74), (7, 84)]) [some (gI w), some (gI (w_v w))] [] h
  rw [e] at hw ⊢
  generalize w_v w = v at hw ⊢
  rcases (show j = 0 ∨ j = 1 ∨ j = 2 ∨ j = 3 ∨ j = 4 ∨ j = 5 ∨ j = 6 ∨ j = 7 by omega) with q | q | q | q | q | q | q | q <;> subst q
  · refine gv_pce (p2 := 56) (by decide) ?_
    rw [isWk_0] at hw
    refine gv_B ok_GE_isWord 2 rfl ?_
    refine gv_brF hw.1 ?_
    refine gv_B ok_GE_isWord 3 rfl ?_
    refine gv_brF (Int32.not_le.mpr hw.2) ?_
    refine gv_B ok_GE_isWord 2 rfl ?_
    exact gv_Rz ok_GE_isWord rfl rfl (by decide)
  · refine gv_pce (p2 := 72) (by decide) ?_
    refine gv_B ok_GE_isWord 1 rfl ?_
    exact gv_Rz ok_GE_isWord rfl rfl (by decide)
  · refine gv_pce (p2 := 86) (by decide) ?_
    rw [isWk_2] at hw
    refine gv_B ok_GE_isWord 2 rfl ?_
    refine gv_brF hw.1 ?_
    refine gv_B ok_GE_isWord 3 rfl ?_
    refine gv_brF (Int32.not_le.mpr hw.2) ?_
    refine gv_B ok_GE_isWord 2 rfl ?_
    exact gv_Rz ok_GE_isWord rfl rfl (by decide)
  · refine gv_pce (p2 := 86) (by decide) ?_
    rw [isWk_3] at hw
    refine gv_B ok_GE_isWord 2 rfl ?_
    refine gv_brF hw.1 ?_
    refine gv_B ok_GE_isWord 3 rfl ?_
    refine gv_brF (Int32.not_le.mpr hw.2) ?_
    refine gv_B ok_GE_isWord 2 rfl ?_
    exact gv_Rz ok_GE_isWord rfl rfl (by decide)
  · refine gv_pce (p2 := 86) (by decide) ?_
    rw [isWk_4] at hw
    refine gv_B ok_GE_isWord 2 rfl ?_
    refine gv_brF hw.1 ?_
    refine gv_B ok_GE_isWord 3 rfl ?_
    refine gv_brF (Int32.not_le.mpr hw.2) ?_
    refine gv_B ok_GE_isWord 2 rfl ?_
    exact gv_Rz ok_GE_isWord rfl rfl (by decide)
  · refine gv_pce (p2 := 86) (by decide) ?_
    rw [isWk_5] at hw
    refine gv_B ok_GE_isWord 2 rfl ?_
    refine gv_brF hw.1 ?_
    refine gv_B ok_GE_isWord 3 rfl ?_
    refine gv_brF (Int32.not_le.mpr hw.2) ?_
    refine gv_B ok_GE_isWord 2 rfl ?_
    exact gv_Rz ok_GE_isWord rfl rfl (by decide)
  · refine gv_pce (p2 := 74) (by decide) ?_
    rw [isWk_6] at hw
    refine gv_B ok_GE_isWord 2 rfl ?_
    refine gv_brF (not_not_intro hw) ?_
    refine gv_B ok_GE_isWord 2 rfl ?_
    exact gv_Rz ok_GE_isWord rfl rfl (by decide)
  · refine gv_pce (p2 := 84) (by decide) ?_
    exact absurd hw isWk_7
theorem e_isWord0 {G : gv_G} {d : Nat} {h : gv_H} {w : Int32} (hw : ¬ isW w) : gv_ev G d M_GE_isWord [gI w] h (.inl (some (gI 0))) h := by
  obtain ⟨j, hj, e⟩ := w_k8 w
  unfold isW at hw
  refine gv_E (ls := [some (gI w), none]) (by decide) (fun h => by cases h) (Nat.le_of_ble_eq_true rfl) rfl ?_
  refine gv_B ok_GE_isWord 8 rfl ?_
  show gv_go G M_GE_isWord d _ _ (gv_sw (w_k w) 86 [(0, 56), (1, 72), (2, 86), (3, 86), (4, 86), (5, 86), (6, 74), (7, 84)]) [some (gI w), some (gI (w_v w))] [] h
  rw [e] at hw ⊢
  generalize w_v w = v at hw ⊢
  rcases (show j = 0 ∨ j = 1 ∨ j = 2 ∨ j = 3 ∨ j = 4 ∨ j = 5 ∨ j = 6 ∨ j = 7 by omega) with q | q | q | q | q | q | q | q <;> subst q
  · refine gv_pce (p2 := 56) (by decide) ?_
    rw [isWk_0] at hw
    refine gv_B ok_GE_isWord 2 rfl ?_
    refine gv_br (fun c1 => ?_) (fun c1 => ?_)
    · refine gv_B ok_GE_isWord 1 rfl ?_
      exact gv_Rz ok_GE_isWord rfl rfl (by decide)
    · refine gv_B ok_GE_isWord 3 rfl ?_
      refine gv_brT (Int32.not_lt.mp (fun c2 => hw ⟨c1, c2⟩)) ?_
      refine gv_B ok_GE_isWord 1 rfl ?_
      exact gv_Rz ok_GE_isWord rfl rfl (by decide)
  · refine gv_pce (p2 := 72) (by decide) ?_
    exact absurd isWk_1 hw
  · refine gv_pce (p2 := 86) (by decide) ?_
    rw [isWk_2] at hw
    refine gv_B ok_GE_isWord 2 rfl ?_
    refine gv_br (fun c1 => ?_) (fun c1 => ?_)
    · refine gv_B ok_GE_isWord 1 rfl ?_
      exact gv_Rz ok_GE_isWord rfl rfl (by decide)
    · refine gv_B ok_GE_isWord 3 rfl ?_
      refine gv_brT (Int32.not_lt.mp (fun c2 => hw ⟨c1, c2⟩)) ?_
      refine gv_B ok_GE_isWord 1 rfl ?_
      exact gv_Rz ok_GE_isWord rfl rfl (by decide)
  · refine gv_pce (p2 := 86) (by decide) ?_
    rw [isWk_3] at hw
    refine gv_B ok_GE_isWord 2 rfl ?_
    refine gv_br (fun c1 => ?_) (fun c1 => ?_)
    · refine gv_B ok_GE_isWord 1 rfl ?_
      exact gv_Rz ok_GE_isWord rfl rfl (by decide)
    · refine gv_B ok_GE_isWord 3 rfl ?_
      refine gv_brT (Int32.not_lt.mp (fun c2 => hw ⟨c1, c2⟩)) ?_
      refine gv_B ok_GE_isWord 1 rfl ?_
      exact gv_Rz ok_GE_isWord rfl rfl (by decide)
  · refine gv_pce (p2 := 86) (by decide) ?_
    rw [isWk_4] at hw
    refine gv_B ok_GE_isWord 2 rfl ?_
    refine gv_br (fun c1 => ?_) (fun c1 => ?_)
    · refine gv_B ok_GE_isWord 1 rfl ?_
      exact gv_Rz ok_GE_isWord rfl rfl (by decide)
    · refine gv_B ok_GE_isWord 3 rfl ?_
      refine gv_brT (Int32.not_lt.mp (fun c2 => hw ⟨c1, c2⟩)) ?_
      refine gv_B ok_GE_isWord 1 rfl ?_
      exact gv_Rz ok_GE_isWord rfl rfl (by decide)
  · refine gv_pce (p2 := 86) (by decide) ?_
    rw [isWk_5] at hw
    refine gv_B ok_GE_isWord 2 rfl ?_
    refine gv_br (fun c1 => ?_) (fun c1 => ?_)
    · refine gv_B ok_GE_isWord 1 rfl ?_
      exact gv_Rz ok_GE_isWord rfl rfl (by decide)
    · refine gv_B ok_GE_isWord 3 rfl ?_
      refine gv_brT (Int32.not_lt.mp (fun c2 => hw ⟨c1, c2⟩)) ?_
      refine gv_B ok_GE_isWord 1 rfl ?_
      exact gv_Rz ok_GE_isWord rfl rfl (by decide)
  · refine gv_pce (p2 := 74) (by decide) ?_
    rw [isWk_6] at hw
    refine gv_B ok_GE_isWord 2 rfl ?_
    refine gv_brT hw ?_
    refine gv_B ok_GE_isWord 1 rfl ?_
    exact gv_Rz ok_GE_isWord rfl rfl (by decide)
  · refine gv_pce (p2 := 84) (by decide) ?_
    refine gv_B ok_GE_isWord 1 rfl ?_
    exact gv_Rz ok_GE_isWord rfl rfl (by decide)
end WDA
