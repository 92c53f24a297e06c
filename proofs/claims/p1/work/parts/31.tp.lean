/-! the heap behind the two constructors and the law's own array: a template; all that changes are numbers (written by wip/tools/gent.py) -/
section TPA
def tp_cl : Nat → Option Nat := va_up (va_up (va_up (va_up (va_up (va_up (va_up (va_up (va_up (va_up (va_up (va_up (va_up (va_up (va_up (va_up (fun _ => none) 0 (some 5)) 1 (some 7)) 2 (some 9)) 3 (some 11)) 4 (some 13)) 5 (some 15)) 6 (some 17)) 7 (some 19)) 8 (some 21)) 9 (some 23)) 10 (some 25)) 11 (some 27)) 12 (some 29)) 13 (some 31)) 14 (some 33)) 15 (some 35)
/-- place k of the class's, the reference's and the law's cells; m: its numbers -/
def tp_a (g k : Nat) (m : Nat → Int32) : Option gv_C := match k with
  | 1 => some (Sum.inr (0, [gR 2, gI (m 1), gR 3, gR 37]))
  | 2 => some (Sum.inl (0, 30, Sum.inl m))
  | 3 => some (Sum.inr (1, [gR 4, gI (m 1)]))
  | 4 => some (Sum.inl (3, 16, Sum.inr tp_cl))
  | 5 => some (Sum.inr (2, [gR 6, gI (m 1), gI (m 2), gI (m 3)]))
  | 6 => some (Sum.inl (0, 30, Sum.inl m))
  | 7 => some (Sum.inr (2, [gR 8, gI (m 1), gI (m 2), gI (m 3)]))
  | 8 => some (Sum.inl (0, 30, Sum.inl m))
  | 9 => some (Sum.inr (2, [gR 10, gI (m 1), gI (m 2), gI (m 3)]))
  | 10 => some (Sum.inl (0, 30, Sum.inl m))
  | 11 => some (Sum.inr (2, [gR 12, gI (m 1), gI (m 2), gI (m 3)]))
  | 12 => some (Sum.inl (0, 30, Sum.inl m))
  | 13 => some (Sum.inr (2, [gR 14, gI (m 1), gI (m 2), gI (m 3)]))
  | 14 => some (Sum.inl (0, 30, Sum.inl m))
  | 15 => some (Sum.inr (2, [gR 16, gI (m 1), gI (m 2), gI (m 3)]))
  | 16 => some (Sum.inl (0, 30, Sum.inl m))
  | 17 => some (Sum.inr (2, [gR 18, gI (m 1), gI (m 2), gI (m 3)]))
  | 18 => some (Sum.inl (0, 30, Sum.inl m))
  | 19 => some (Sum.inr (2, [gR 20, gI (m 1), gI (m 2), gI (m 3)]))
  | 20 => some (Sum.inl (0, 30, Sum.inl m))
  | 21 => some (Sum.inr (2, [gR 22, gI (m 1), gI (m 2), gI (m 3)]))
  | 22 => some (Sum.inl (0, 30, Sum.inl m))
  | 23 => some (Sum.inr (2, [gR 24, gI (m 1), gI (m 2), gI (m 3)]))
  | 24 => some (Sum.inl (0, 30, Sum.inl m))
  | 25 => some (Sum.inr (2, [gR 26, gI (m 1), gI (m 2), gI (m 3)]))
  | 26 => some (Sum.inl (0, 30, Sum.inl m))
  | 27 => some (Sum.inr (2, [gR 28, gI (m 1), gI (m 2), gI (m 3)]))
  | 28 => some (Sum.inl (0, 30, Sum.inl m))
  | 29 => some (Sum.inr (2, [gR 30, gI (m 1), gI (m 2), gI (m 3)]))
  | 30 => some (Sum.inl (0, 30, Sum.inl m))
  | 31 => some (Sum.inr (2, [gR 32, gI (m 1), gI (m 2), gI (m 3)]))
  | 32 => some (Sum.inl (0, 30, Sum.inl m))
  | 33 => some (Sum.inr (2, [gR 34, gI (m 1), gI (m 2), gI (m 3)]))
  | 34 => some (Sum.inl (0, 30, Sum.inl m))
  | 35 => some (Sum.inr (2, [gR 36, gI (m 1), gI (m 2), gI (m 3)]))
  | 36 => some (Sum.inl (0, 30, Sum.inl m))
  | 37 => some (Sum.inr (3, [gR 3, gR 38, gR 40, gR 49, gR 52, gR 53, gR 58, gR 64, gR 66, gI (m 9), gI (m 10), gI (m 11), gI (m 12)]))
  | 38 => some (Sum.inr (2, [gR 39, gI (m 1), gI (m 2), gI (m 3)]))
  | 39 => some (Sum.inl (0, 30, Sum.inl m))
  | 40 => some (Sum.inr (4, [gR 41, gI (m 1), gR 42, gI (m 3), gR 43, gR 44, gI (m 6), gR 45, gI (m 8)]))
  | 41 => some (Sum.inl (0, 240, Sum.inl m))
  | 42 => some (Sum.inl (0, 240, Sum.inl m))
  | 43 => some (Sum.inl (0, 8, Sum.inl m))
  | 44 => some (Sum.inl (0, 30, Sum.inl m))
  | 45 => some (Sum.inl (0, 30, Sum.inl m))
  | 46 => some (Sum.inr (5, [gR 40, gR 47, gR 48, gI (m 3)]))
  | 47 => some (Sum.inl (2, 240, Sum.inl m))
  | 48 => some (Sum.inl (0, 240, Sum.inl m))
  | 49 => some (Sum.inr (6, [gR 40, gR 46, gR 50, gR 51, gI (m 4)]))
  | 50 => some (Sum.inl (0, 601, Sum.inl m))
  | 51 => some (Sum.inl (0, 601, Sum.inl m))
  | 52 => some (Sum.inr (7, [gR 40, gI (m 1)]))
  | 53 => some (Sum.inr (8, [gR g, gR (g + 1), gR (g + 2), gR (g + 3)]))
  | 58 => some (Sum.inr (9, [gR 59, gR 60, gR 61, gR 62, gR 63, gI (m 5)]))
  | 59 => some (Sum.inl (0, 300, Sum.inl m))
  | 60 => some (Sum.inl (0, 300, Sum.inl m))
  | 61 => some (Sum.inl (0, 300, Sum.inl m))
  | 62 => some (Sum.inl (0, 300, Sum.inl m))
  | 63 => some (Sum.inl (0, 300, Sum.inl m))
  | 64 => some (Sum.inr (10, [gR 40, gR 53, gR 58, gR 46, gR 65, gI (m 5)]))
  | 65 => some (Sum.inl (0, 241, Sum.inl m))
  | 66 => some (Sum.inr (11, [gR 40, gR 67, gI (m 2), gR 68, gI (m 4), gR 69, gI (m 6)]))
  | 67 => some (Sum.inl (0, 90, Sum.inl m))
  | 68 => some (Sum.inl (0, 90, Sum.inl m))
  | 69 => some (Sum.inl (0, 181, Sum.inl m))
  | 70 => some (Sum.inr (12, [gI (m 0), gI (m 1), gR 71, gI (m 3), gR 72, gR 73, gR 74, gR 75, gR 76, gR 77, gR 78, gR 79, gI (m 12), gI (m 13), gR 80, gR 81, gI (m 16), gI (m 17), gI (m 18), gR 82, gR 83, gR 84, gR 85, gI (m 23), gR 86, gI (m 25), gI (m 26), gI (m 27), gI (m 28), gR 87, gI (m 30), gR 88, gR 89, gR 90, gI (m 34), gI (m 35), gI (m 36), gR 91, gI (m 38), gR 92, gI (m 40), gI (m 41), gR 93, gI (m 43), gR 94, gR 95, gI (m 46), gR 96, gR 97, gI (m 49)]))
  | 71 => some (Sum.inl (0, 30, Sum.inl m))
  | 72 => some (Sum.inl (0, 480, Sum.inl m))
  | 73 => some (Sum.inl (0, 16, Sum.inl m))
  | 74 => some (Sum.inl (0, 240, Sum.inl m))
  | 75 => some (Sum.inl (0, 240, Sum.inl m))
  | 76 => some (Sum.inl (0, 240, Sum.inl m))
  | 77 => some (Sum.inl (0, 240, Sum.inl m))
  | 78 => some (Sum.inl (0, 240, Sum.inl m))
  | 79 => some (Sum.inl (0, 720, Sum.inl m))
  | 80 => some (Sum.inl (0, 8900, Sum.inl m))
  | 81 => some (Sum.inl (0, 8900, Sum.inl m))
  | 82 => some (Sum.inl (0, 320, Sum.inl m))
  | 83 => some (Sum.inl (0, 320, Sum.inl m))
  | 84 => some (Sum.inl (0, 320, Sum.inl m))
  | 85 => some (Sum.inl (0, 320, Sum.inl m))
  | 86 => some (Sum.inl (0, 2600, Sum.inl m))
  | 87 => some (Sum.inl (0, 8, Sum.inl m))
  | 88 => some (Sum.inl (0, 1600, Sum.inl m))
  | 89 => some (Sum.inl (0, 1600, Sum.inl m))
  | 90 => some (Sum.inl (0, 240, Sum.inl m))
  | 91 => some (Sum.inl (0, 100, Sum.inl m))
  | 92 => some (Sum.inl (0, 90, Sum.inl m))
  | 93 => some (Sum.inl (0, 8, Sum.inl m))
  | 94 => some (Sum.inl (0, 40, Sum.inl m))
  | 95 => some (Sum.inl (0, 40, Sum.inl m))
  | 96 => some (Sum.inl (0, 30, Sum.inl m))
  | 97 => some (Sum.inl (0, 30, Sum.inl m))
  | 98 => some (Sum.inl (1, 1, Sum.inl m))
  | _ => none
/-- .. and the four rows of goals, at g and behind it, of cap places each -/
def tpl (g cap k : Nat) (m : Nat → Int32) : Option gv_C := match tp_a g k m with
  | some c => some c
  | none => if k = g then some (Sum.inl (0, cap, Sum.inl m)) else if k = g + 1 then some (Sum.inl (0, cap, Sum.inl m)) else if k = g + 2 then some (Sum.inl (0, cap, Sum.inl m)) else if k = g + 3 then some (Sum.inl (2, cap, Sum.inl m)) else none
/-- the picture with these numbers -/
def hp (n : Nat) (acc : Nat × Nat) (g cap : Nat) (μ : Nat → Nat → Int32) : gv_H := (n, acc, fun k => tpl g cap k (μ k))
def upM (μ : Nat → Nat → Int32) (k : Nat) (m : Nat → Int32) : Nat → Nat → Int32 := fun j => if j = k then m else μ j
theorem hp_set {n : Nat} {acc : Nat × Nat} {g cap k : Nat} {μ : Nat → Nat → Int32} {m : Nat → Int32} {c : gv_C} (h : tpl g cap k m = some c) : gv_set (hp n acc g cap μ) k c = hp n acc g cap (upM μ k m) := by
  unfold gv_set hp
  refine congrArg (fun f => (n, acc, f)) (funext fun j => ?_)
  show (if j = k then some c else tpl g cap j (μ j)) = tpl g cap j (upM μ k m j)
  unfold upM
  by_cases e : j = k
  · rw [if_pos e, if_pos e, e, h]
  · rw [if_neg e, if_neg e]
theorem upM_at {μ : Nat → Nat → Int32} {k : Nat} {m : Nat → Int32} : upM μ k m k = m := if_pos rfl
theorem upM_ne {μ : Nat → Nat → Int32} {k j : Nat} {m : Nat → Int32} (h : j ≠ k) : upM μ k m j = μ j := if_neg h
/-- less may be known -/
theorem gv_sub {G : gv_G} {y : gv_M} {d : Nat} {r : gv_O} {hf h h' : gv_H} {pc : Nat} {ls : gv_L} {st : List gv_V} (e1 : h'.1 = h.1) (e2 : h'.2.1 = h.2.1) (hs : ∀ k c, h'.2.2 k = some c → h.2.2 k = some c) (k : gv_go G y d r hf pc ls st h') : gv_go G y d r hf pc ls st h := by
  obtain ⟨k1, k2⟩ := k
  rw [e2] at k1
  refine ⟨k1, fun h0 p e s m args below meth c H locs A q1 q2 X hw hl hA => ?_⟩
  have k3 := k2 h0 p e s m args below meth c H locs A (by rw [e2]; exact q1) (by rw [e2]; exact q2) X ⟨by rw [e1]; exact hw.1, by rw [e1]; exact hw.2.1, hw.2.2.1, fun j x hj => by rw [e1]; exact hw.2.2.2 j x (hs j x hj)⟩ hl hA
  rw [e2] at k3
  exact k3
def tp_0 : Nat → Nat → Int32 := fun k j => match k, j with
  | 37, 9 => (-1)
  | 37, 10 => (-1)
  | 37, 12 => 300
  | 70, 16 => (-1)
  | 70, 17 => (-1)
  | 70, 27 => 300
  | _, _ => 0
end TPA
