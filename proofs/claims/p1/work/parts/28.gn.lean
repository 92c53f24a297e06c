/-! gn: single steps with premises of their own, by the code tables -/
section GNA
variable {G : gv_G} {y : gv_M} {d : Nat} {r : gv_O} {hf h : gv_H} {pc : Nat} {ls : gv_L} {st : List gv_V} {v9 : Int32} {w9 : Int64} {a a9 b ci j wp nx n : Nat} {tb : List (Int32 × Nat)} {fs : List gv_V} {rr : vw_C} {v : gv_V} {f : Nat → Int32} {q : Nat → Option Nat} {i x : Int32}
theorem gv_gf (hy : gv_ok y) (hj : gv_lk y.2.2.2.2.1 pc = some (70, v9, w9, ci, j, wp, nx, tb)) (ha : h.2.2 a = some (Sum.inr (ci, fs))) (hv : fs[j]? = some v) (k : gv_go G y d r hf nx ls (v :: st) h) : gv_go G y d r hf pc ls (gR a :: st) h := by
  refine gv_step (S := (nx, ls, v :: st, h)) gc_ok gc_qi hy hj ?_ k
  show gv_x5 (70, v9, w9, ci, j, wp, nx, tb) ls (gR a :: st) h = _
  simp only [gv_x5, ha, hv, if_true]
theorem gv_pf (hy : gv_ok y) (hj : gv_lk y.2.2.2.2.1 pc = some (80, v9, w9, ci, j, wp, nx, tb)) (h0 : Nat.beq a 0 = false) (ha : h.2.2 a = some (Sum.inr (ci, fs))) (hci : gv_cl[ci]? = some rr) (hl : j < fs.length) (hfit : gv_fit (gv_ft rr j) v = true) (k : gv_go G y d r hf nx ls st (gv_set h a (Sum.inr (ci, fs.set j v)))) : gv_go G y d r hf pc ls (v :: gR a :: st) h := by
  refine gv_step (S := (nx, ls, st, gv_set h a (Sum.inr (ci, fs.set j v)))) gc_ok gc_qi hy hj ?_ k
  show gv_x6 (80, v9, w9, ci, j, wp, nx, tb) ls (v :: gR a :: st) h = _
  simp only [gv_x6, ha, h0, hci]
  rw [if_pos ⟨trivial, hl, hfit⟩]
theorem gv_ial (hy : gv_ok y) (hj : gv_lk y.2.2.2.2.1 pc = some (72, v9, w9, a9, b, wp, nx, tb)) (ha : h.2.2 a = some (Sum.inl (0, n, Sum.inl f))) (hi : vp_in i n) (k : gv_go G y d r hf nx ls (gI (f i.toNatClampNeg) :: st) h) : gv_go G y d r hf pc ls (gI i :: gR a :: st) h := by
  refine gv_step (S := (nx, ls, gI (f i.toNatClampNeg) :: st, h)) gc_ok gc_qi hy hj ?_ k
  show gv_x5 (72, v9, w9, a9, b, wp, nx, tb) ls (gI i :: gR a :: st) h = _
  simp only [gv_x5, ha]
  rw [if_neg hi]
theorem gv_zal (hy : gv_ok y) (hj : gv_lk y.2.2.2.2.1 pc = some (73, v9, w9, a9, b, wp, nx, tb)) (ha : h.2.2 a = some (Sum.inl (2, n, Sum.inl f))) (hi : vp_in i n) (k : gv_go G y d r hf nx ls (gI (f i.toNatClampNeg) :: st) h) : gv_go G y d r hf pc ls (gI i :: gR a :: st) h := by
  refine gv_step (S := (nx, ls, gI (f i.toNatClampNeg) :: st, h)) gc_ok gc_qi hy hj ?_ k
  show gv_x5 (73, v9, w9, a9, b, wp, nx, tb) ls (gI i :: gR a :: st) h = _
  simp only [gv_x5, ha]
  rw [if_neg hi]
theorem gv_qal (hy : gv_ok y) (hj : gv_lk y.2.2.2.2.1 pc = some (75, v9, w9, a9, b, wp, nx, tb)) (ha : h.2.2 a = some (Sum.inl (3, n, Sum.inr q))) (hi : vp_in i n) (k : gv_go G y d r hf nx ls (Sum.inr (Sum.inr (q i.toNatClampNeg)) :: st) h) : gv_go G y d r hf pc ls (gI i :: gR a :: st) h := by
  refine gv_step (S := (nx, ls, Sum.inr (Sum.inr (q i.toNatClampNeg)) :: st, h)) gc_ok gc_qi hy hj ?_ k
  show gv_x5 (75, v9, w9, a9, b, wp, nx, tb) ls (gI i :: gR a :: st) h = _
  simp only [gv_x5, ha]
  rw [if_neg hi]
theorem gv_ias (hy : gv_ok y) (hj : gv_lk y.2.2.2.2.1 pc = some (76, v9, w9, a9, b, wp, nx, tb)) (h0 : Nat.beq a 0 = false) (ha : h.2.2 a = some (Sum.inl (0, n, Sum.inl f))) (hi : vp_in i n) (k : gv_go G y d r hf nx ls st (gv_set h a (Sum.inl (0, n, Sum.inl (upd f i.toNatClampNeg x))))) : gv_go G y d r hf pc ls (gI x :: gI i :: gR a :: st) h := by
  refine gv_step (S := (nx, ls, st, gv_set h a (Sum.inl (0, n, Sum.inl (upd f i.toNatClampNeg x))))) gc_ok gc_qi hy hj ?_ k
  show gv_x6 (76, v9, w9, a9, b, wp, nx, tb) ls (gI x :: gI i :: gR a :: st) h = _
  simp only [gv_x6, ha, h0]
  rw [if_neg hi]
theorem gv_zas (hy : gv_ok y) (hj : gv_lk y.2.2.2.2.1 pc = some (77, v9, w9, a9, b, wp, nx, tb)) (h0 : Nat.beq a 0 = false) (ha : h.2.2 a = some (Sum.inl (2, n, Sum.inl f))) (hi : vp_in i n) (hx : x = 0 ∨ x = 1) (k : gv_go G y d r hf nx ls st (gv_set h a (Sum.inl (2, n, Sum.inl (upd f i.toNatClampNeg x))))) : gv_go G y d r hf pc ls (gI x :: gI i :: gR a :: st) h := by
  refine gv_step (S := (nx, ls, st, gv_set h a (Sum.inl (2, n, Sum.inl (upd f i.toNatClampNeg x))))) gc_ok gc_qi hy hj ?_ k
  show gv_x6 (77, v9, w9, a9, b, wp, nx, tb) ls (gI x :: gI i :: gR a :: st) h = _
  simp only [gv_x6, ha, h0]
  rw [if_neg hi, if_pos hx]
/-- a branch's two roads -/
theorem gv_br {c : Prop} [Decidable c] {p1 p2 : Nat} (k1 : c → gv_go G y d r hf p1 ls st h) (k2 : ¬ c → gv_go G y d r hf p2 ls st h) : gv_go G y d r hf (if c then p1 else p2) ls st h := by
  by_cases e : c
  · rw [if_pos e]; exact k1 e
  · rw [if_neg e]; exact k2 e
theorem gv_brT {c : Prop} [Decidable c] {p1 p2 : Nat} (e : c) (k : gv_go G y d r hf p1 ls st h) : gv_go G y d r hf (if c then p1 else p2) ls st h := by rw [if_pos e]; exact k
theorem gv_brF {c : Prop} [Decidable c] {p1 p2 : Nat} (e : ¬ c) (k : gv_go G y d r hf p2 ls st h) : gv_go G y d r hf (if c then p1 else p2) ls st h := by rw [if_neg e]; exact k
theorem gv_cast {h' : gv_H} (e : h = h') (k : gv_go G y d r hf pc ls st h') : gv_go G y d r hf pc ls st h := e ▸ k
theorem gv_set_at {h : gv_H} {k : Nat} {c : gv_C} : (gv_set h k c).2.2 k = some c := if_pos rfl
theorem gv_set_ne {h : gv_H} {k j : Nat} {c : gv_C} (e : j ≠ k) : (gv_set h k c).2.2 j = h.2.2 j := if_neg e
theorem gv_push_at {h : gv_H} {n : Nat} {c : gv_C} : (gv_push h n c).2.2 h.1 = some c := if_pos rfl
theorem gv_push_ne {h : gv_H} {n j : Nat} {c : gv_C} (e : j ≠ h.1) : (gv_push h n c).2.2 j = h.2.2 j := if_neg e
end GNA
