/-! methods as functions of the numbers: the tools -/
section FBA
abbrev Mu : Type := Nat → Nat → Int32
/-- how often a loop may go round -/
def fu : Nat := 100000
def b1 {α γ : Type} (o : Option α) (f : α → Option γ) : Option γ := match o with
  | some a => f a
  | none => none
def b2 {α β γ : Type} (o : Option (α × β)) (f : α → β → Option γ) : Option γ := match o with
  | some (a, b) => f a b
  | none => none
def b3 {α β δ γ : Type} (o : Option (α × β × δ)) (f : α → β → δ → Option γ) : Option γ := match o with
  | some (a, b, c) => f a b c
  | none => none
def b4 {α β δ ε γ : Type} (o : Option (α × β × δ × ε)) (f : α → β → δ → ε → Option γ) : Option γ := match o with
  | some (a, b, c, e) => f a b c e
  | none => none
def b5 {α β δ ε ζ γ : Type} (o : Option (α × β × δ × ε × ζ)) (f : α → β → δ → ε → ζ → Option γ) : Option γ := match o with
  | some (a, b, c, e, z) => f a b c e z
  | none => none
theorem b1_e {α γ : Type} {o : Option α} {f : α → Option γ} {c : γ} (h : b1 o f = some c) : ∃ a, o = some a ∧ f a = some c := by
  unfold b1 at h
  split at h
  next a => exact ⟨a, rfl, h⟩
  next => cases h
theorem b2_e {α β γ : Type} {o : Option (α × β)} {f : α → β → Option γ} {c : γ} (h : b2 o f = some c) : ∃ a b, o = some (a, b) ∧ f a b = some c := by
  unfold b2 at h
  split at h
  next a b => exact ⟨a, b, rfl, h⟩
  next => cases h
theorem b3_e {α β δ γ : Type} {o : Option (α × β × δ)} {f : α → β → δ → Option γ} {c : γ} (h : b3 o f = some c) : ∃ a b e, o = some (a, b, e) ∧ f a b e = some c := by
  unfold b3 at h
  split at h
  next a b e => exact ⟨a, b, e, rfl, h⟩
  next => cases h
theorem b4_e {α β δ ε γ : Type} {o : Option (α × β × δ × ε)} {f : α → β → δ → ε → Option γ} {c : γ} (h : b4 o f = some c) : ∃ a b e g, o = some (a, b, e, g) ∧ f a b e g = some c := by
  unfold b4 at h
  split at h
  next a b e g => exact ⟨a, b, e, g, rfl, h⟩
  next => cases h
theorem b5_e {α β δ ε ζ γ : Type} {o : Option (α × β × δ × ε × ζ)} {f : α → β → δ → ε → ζ → Option γ} {c : γ} (h : b5 o f = some c) : ∃ a b e g z, o = some (a, b, e, g, z) ∧ f a b e g z = some c := by
  unfold b5 at h
  split at h
  next a b e g z => exact ⟨a, b, e, g, z, rfl, h⟩
  next => cases h
/-- a row of n numbers: read, write; booleans -/
def rd (f : Nat → Int32) (n : Nat) (i : Int32) : Option Int32 := if i < 0 ∨ n ≤ i.toNatClampNeg then none else some (f i.toNatClampNeg)
def wr (μ : Mu) (a n : Nat) (i x : Int32) : Option Mu := if i < 0 ∨ n ≤ i.toNatClampNeg then none else some (sI μ a i.toNatClampNeg x)
def wz (μ : Mu) (a n : Nat) (i x : Int32) : Option Mu := if i < 0 ∨ n ≤ i.toNatClampNeg then none else if x = 0 ∨ x = 1 then some (sI μ a i.toNatClampNeg x) else none
theorem rd_e {f : Nat → Int32} {n : Nat} {i x : Int32} (h : rd f n i = some x) : vp_in i n ∧ f i.toNatClampNeg = x := by
  unfold rd at h
  by_cases c : i < 0 ∨ n ≤ i.toNatClampNeg
  · rw [if_pos c] at h; cases h
  · rw [if_neg c] at h; cases h; exact ⟨c, rfl⟩
theorem wr_e {μ μ1 : Mu} {a n : Nat} {i x : Int32} (h : wr μ a n i x = some μ1) : vp_in i n ∧ sI μ a i.toNatClampNeg x = μ1 := by
  unfold wr at h
  by_cases c : i < 0 ∨ n ≤ i.toNatClampNeg
  · rw [if_pos c] at h; cases h
  · rw [if_neg c] at h; cases h; exact ⟨c, rfl⟩
theorem wz_e {μ μ1 : Mu} {a n : Nat} {i x : Int32} (h : wz μ a n i x = some μ1) : vp_in i n ∧ (x = 0 ∨ x = 1) ∧ sI μ a i.toNatClampNeg x = μ1 := by
  unfold wz at h
  by_cases c : i < 0 ∨ n ≤ i.toNatClampNeg
  · rw [if_pos c] at h; cases h
  · rw [if_neg c] at h
    by_cases c2 : x = 0 ∨ x = 1
    · rw [if_pos c2] at h; cases h; exact ⟨c, c2, rfl⟩
    · rw [if_neg c2] at h; cases h
/-- the rows of goals: where they may lie -/
def gPb (g : Nat) : Bool := Nat.beq g 54 || Nat.ble 99 g
/-- a clause: the rules' and the question's -/
def clPb (q : Nat) : Bool := Nat.beq q 38 || (Nat.ble 5 q && Nat.ble q 35 && Nat.beq (q % 2) 1)
/-- the reference's rows of words -/
def ofPb (q n : Nat) : Bool := (Nat.beq q 71 && Nat.beq n 30) || (Nat.beq q 72 && Nat.beq n 480)
theorem tp_a9 {g : Nat} {m : Nat → Int32} {k : Nat} (hk : 99 ≤ k) : tp_a g k m = none := by
  unfold tp_a
  split <;> first | rfl | omega
theorem gP_or {g : Nat} (h : gPb g = true) : g = 54 ∨ 99 ≤ g := by
  unfold gPb at h
  rw [Bool.or_eq_true] at h
  exact h.imp Nat.eq_of_beq_eq_true Nat.le_of_ble_eq_true
theorem tg_0 {g cap : Nat} (h : gPb g = true) (m : Nat → Int32) : tpl g cap g m = some (Sum.inl (0, cap, Sum.inl m)) := by
  rcases gP_or h with e | e
  · subst e; rfl
  · unfold tpl
    rw [tp_a9 e]
    exact if_pos rfl
theorem tg_1 {g cap : Nat} (h : gPb g = true) (m : Nat → Int32) : tpl g cap (g + 1) m = some (Sum.inl (0, cap, Sum.inl m)) := by
  rcases gP_or h with e | e
  · subst e; rfl
  · unfold tpl
    rw [tp_a9 (by omega)]
    dsimp only
    rw [if_neg (by omega), if_pos rfl]
theorem tg_2 {g cap : Nat} (h : gPb g = true) (m : Nat → Int32) : tpl g cap (g + 2) m = some (Sum.inl (0, cap, Sum.inl m)) := by
  rcases gP_or h with e | e
  · subst e; rfl
  · unfold tpl
    rw [tp_a9 (by omega)]
    dsimp only
    rw [if_neg (by omega), if_neg (by omega), if_pos rfl]
theorem tg_3 {g cap : Nat} (h : gPb g = true) (m : Nat → Int32) : tpl g cap (g + 3) m = some (Sum.inl (2, cap, Sum.inl m)) := by
  rcases gP_or h with e | e
  · subst e; rfl
  · unfold tpl
    rw [tp_a9 (by omega)]
    dsimp only
    rw [if_neg (by omega), if_neg (by omega), if_neg (by omega), if_pos rfl]
theorem gP_0 {g : Nat} (h : gPb g = true) : Nat.beq g 0 = false := by
  rcases gP_or h with e | e
  · subst e; rfl
  · cases g with
    | zero => omega
    | succ g => rfl
theorem clP_or {q : Nat} (h : clPb q = true) : q = 38 ∨ q = 5 ∨ q = 7 ∨ q = 9 ∨ q = 11 ∨ q = 13 ∨ q = 15 ∨ q = 17 ∨ q = 19 ∨ q = 21 ∨ q = 23 ∨ q = 25 ∨ q = 27 ∨ q = 29 ∨ q = 31 ∨ q = 33 ∨ q = 35 := by
  unfold clPb at h
  rw [Bool.or_eq_true, Bool.and_eq_true, Bool.and_eq_true] at h
  rcases h with h | ⟨⟨h1, h2⟩, h3⟩
  · exact Or.inl (Nat.eq_of_beq_eq_true h)
  · have h1 := Nat.le_of_ble_eq_true h1
    have h2 := Nat.le_of_ble_eq_true h2
    have h3 := Nat.eq_of_beq_eq_true h3
    omega
theorem tc_o {q : Nat} (h : clPb q = true) (g cap : Nat) (m : Nat → Int32) : tpl g cap q m = some (Sum.inr (2, [gR (q + 1), gI (m 1), gI (m 2), gI (m 3)])) := by
  rcases clP_or h with e | e | e | e | e | e | e | e | e | e | e | e | e | e | e | e | e <;> subst e <;> rfl
theorem tc_r {q : Nat} (h : clPb q = true) (g cap : Nat) (m : Nat → Int32) : tpl g cap (q + 1) m = some (Sum.inl (0, 30, Sum.inl m)) := by
  rcases clP_or h with e | e | e | e | e | e | e | e | e | e | e | e | e | e | e | e | e <;> subst e <;> rfl
theorem tc_0 {q : Nat} (h : clPb q = true) : Nat.beq q 0 = false := by
  rcases clP_or h with e | e | e | e | e | e | e | e | e | e | e | e | e | e | e | e | e <;> subst e <;> rfl
theorem of_or {q n : Nat} (h : ofPb q n = true) : (q = 71 ∧ n = 30) ∨ (q = 72 ∧ n = 480) := by
  unfold ofPb at h
  rw [Bool.or_eq_true, Bool.and_eq_true, Bool.and_eq_true] at h
  exact h.imp (fun h => ⟨Nat.eq_of_beq_eq_true h.1, Nat.eq_of_beq_eq_true h.2⟩) (fun h => ⟨Nat.eq_of_beq_eq_true h.1, Nat.eq_of_beq_eq_true h.2⟩)
theorem to_r {q n : Nat} (h : ofPb q n = true) (g cap : Nat) (m : Nat → Int32) : tpl g cap q m = some (Sum.inl (0, n, Sum.inl m)) := by
  rcases of_or h with ⟨e, e2⟩ | ⟨e, e2⟩ <;> subst e <;> subst e2 <;> rfl
/-- the rules' row: the clause at i lies at 5 + 2 i -/
def clA (i : Int32) : Option Nat := if i < 0 ∨ 16 ≤ i.toNatClampNeg then none else some (5 + 2 * i.toNatClampNeg)
theorem tp_cl_at {t : Nat} (h : t < 16) : tp_cl t = some (5 + 2 * t) := by
  rcases (show t = 0 ∨ t = 1 ∨ t = 2 ∨ t = 3 ∨ t = 4 ∨ t = 5 ∨ t = 6 ∨ t = 7 ∨ t = 8 ∨ t = 9 ∨ t = 10 ∨ t = 11 ∨ t = 12 ∨ t = 13 ∨ t = 14 ∨ t = 15 by omega) with e | e | e | e | e | e | e | e | e | e | e | e | e | e | e | e <;> subst e <;> rfl
theorem clA_e {i : Int32} {q : Nat} (h : clA i = some q) : vp_in i 16 ∧ q = 5 + 2 * i.toNatClampNeg ∧ clPb q = true := by
  unfold clA at h
  by_cases c : i < 0 ∨ 16 ≤ i.toNatClampNeg
  · rw [if_pos c] at h; cases h
  · rw [if_neg c] at h
    cases h
    refine ⟨c, rfl, ?_⟩
    have h2 : i.toNatClampNeg < 16 := Nat.not_le.mp fun q => c (Or.inr q)
    generalize i.toNatClampNeg = t at h2
    rcases (show t = 0 ∨ t = 1 ∨ t = 2 ∨ t = 3 ∨ t = 4 ∨ t = 5 ∨ t = 6 ∨ t = 7 ∨ t = 8 ∨ t = 9 ∨ t = 10 ∨ t = 11 ∨ t = 12 ∨ t = 13 ∨ t = 14 ∨ t = 15 by omega) with e | e | e | e | e | e | e | e | e | e | e | e | e | e | e | e <;> subst e <;> rfl
variable {G : gv_G} {y M : gv_M} {d : Nat} {r : gv_O} {hf h : gv_H} {pc : Nat} {ls ls' : gv_L} {st st0 args : List gv_V} {v9 : Int32} {w9 : Int64} {a a9 b ci j wp nx n n9 g cap t : Nat} {acc : Nat × Nat} {μ μ1 : Mu} {tb : List (Int32 × Nat)} {fs : List gv_V} {rr : vw_C} {i x z : Int32}
theorem hp_rd (hy : gv_ok y) (hj : gv_lk y.2.2.2.2.1 pc = some (72, v9, w9, a9, b, wp, nx, tb)) (ha : tpl g cap a (μ a) = some (Sum.inl (0, n9, Sum.inl (μ a)))) (hx : rd (μ a) n9 i = some x)
    (k : gv_go G y d r hf nx ls (gI x :: st) (hp n acc g cap μ)) : gv_go G y d r hf pc ls (gI i :: gR a :: st) (hp n acc g cap μ) := by
  obtain ⟨h1, h2⟩ := rd_e hx
  subst h2
  exact gv_ial hy hj ha h1 k
theorem hp_rz (hy : gv_ok y) (hj : gv_lk y.2.2.2.2.1 pc = some (73, v9, w9, a9, b, wp, nx, tb)) (ha : tpl g cap a (μ a) = some (Sum.inl (2, n9, Sum.inl (μ a)))) (hx : rd (μ a) n9 i = some x)
    (k : gv_go G y d r hf nx ls (gI x :: st) (hp n acc g cap μ)) : gv_go G y d r hf pc ls (gI i :: gR a :: st) (hp n acc g cap μ) := by
  obtain ⟨h1, h2⟩ := rd_e hx
  subst h2
  exact gv_zal hy hj ha h1 k
theorem hp_wr (hy : gv_ok y) (hj : gv_lk y.2.2.2.2.1 pc = some (76, v9, w9, a9, b, wp, nx, tb)) (h0 : Nat.beq a 0 = false) (ha : tpl g cap a (μ a) = some (Sum.inl (0, n9, Sum.inl (μ a)))) (hb : tpl g cap a (upd (μ a) i.toNatClampNeg x) = some (Sum.inl (0, n9, Sum.inl (upd (μ a) i.toNatClampNeg x)))) (hx : wr μ a n9 i x = some μ1)
    (k : gv_go G y d r hf nx ls st (hp n acc g cap μ1)) : gv_go G y d r hf pc ls (gI x :: gI i :: gR a :: st) (hp n acc g cap μ) := by
  obtain ⟨h1, h2⟩ := wr_e hx
  subst h2
  exact gv_ias hy hj h0 ha h1 (gv_cast (hp_set hb) k)
theorem hp_wz (hy : gv_ok y) (hj : gv_lk y.2.2.2.2.1 pc = some (77, v9, w9, a9, b, wp, nx, tb)) (h0 : Nat.beq a 0 = false) (ha : tpl g cap a (μ a) = some (Sum.inl (2, n9, Sum.inl (μ a)))) (hb : tpl g cap a (upd (μ a) i.toNatClampNeg x) = some (Sum.inl (2, n9, Sum.inl (upd (μ a) i.toNatClampNeg x)))) (hx : wz μ a n9 i x = some μ1)
    (k : gv_go G y d r hf nx ls st (hp n acc g cap μ1)) : gv_go G y d r hf pc ls (gI x :: gI i :: gR a :: st) (hp n acc g cap μ) := by
  obtain ⟨h1, h2, h3⟩ := wz_e hx
  subst h3
  exact gv_zas hy hj h0 ha h1 h2 (gv_cast (hp_set hb) k)
theorem hp_cl {q : Nat} (hy : gv_ok y) (hj : gv_lk y.2.2.2.2.1 pc = some (75, v9, w9, a9, b, wp, nx, tb)) (hx : clA i = some q)
    (k : gv_go G y d r hf nx ls (gR q :: st) (hp n acc g cap μ)) : gv_go G y d r hf pc ls (gI i :: gR 4 :: st) (hp n acc g cap μ) := by
  obtain ⟨h1, h2, h3⟩ := clA_e hx
  subst h2
  refine gv_qal (a := 4) (n := 16) (q := tp_cl) hy hj rfl h1 ?_
  rw [tp_cl_at (Nat.not_le.mp fun q => h1 (Or.inr q))]
  exact k
/-- division -/
theorem gv_idv (hy : gv_ok y) (hj : gv_lk y.2.2.2.2.1 pc = some (27, v9, w9, a9, b, wp, nx, tb)) (h0 : ¬ x = 0) (k : gv_go G y d r hf nx ls (gI (z / x) :: st) h) : gv_go G y d r hf pc ls (gI x :: gI z :: st) h := by
  refine gv_step (S := (nx, ls, gI (z / x) :: st, h)) gc_ok gc_qi hy hj ?_ k
  show gv_x2 (27, v9, w9, a9, b, wp, nx, tb) ls (gI x :: gI z :: st) h = _
  simp only [gv_x2]
  rw [if_neg h0]
theorem gv_ldv {x z : Int64} (hy : gv_ok y) (hj : gv_lk y.2.2.2.2.1 pc = some (35, v9, w9, a9, b, wp, nx, tb)) (h0 : ¬ x = 0) (k : gv_go G y d r hf nx ls (gL (z / x) :: st) h) : gv_go G y d r hf pc ls (gL x :: gL z :: st) h := by
  refine gv_step (S := (nx, ls, gL (z / x) :: st, h)) gc_ok gc_qi hy hj ?_ k
  show gv_x2 (35, v9, w9, a9, b, wp, nx, tb) ls (gL x :: gL z :: st) h = _
  simp only [gv_x2]
  rw [if_neg h0]
/-- locals that aren't needed any more -/
def gv_le : gv_L → gv_L → Prop
  | [], _ => True
  | none :: a, _ :: b => gv_le a b
  | some v :: a, x :: b => x = some v ∧ gv_le a b
  | _ :: _, [] => False
theorem gv_le_at : ∀ {a b : gv_L} {i : Nat} {v : gv_V}, gv_le a b → a[i]? = some (some v) → b[i]? = some (some v)
  | [], _, i, v, _, h => by simp at h
  | none :: a, x :: b, i, v, hl, h => by
    cases i with
    | zero => simp at h
    | succ i => exact gv_le_at (a := a) (b := b) (i := i) hl (by simpa using h)
  | some w :: a, x :: b, i, v, hl, h => by
    cases i with
    | zero => simp at h; subst h; simpa using hl.1
    | succ i => exact gv_le_at (a := a) (b := b) (i := i) hl.2 (by simpa using h)
  | none :: _, [], _, _, hl, _ => hl.elim
  | some _ :: _, [], _, _, hl, _ => hl.elim
theorem gv_fg (hl : gv_le ls' ls) (k : gv_go G y d r hf pc ls' st h) : gv_go G y d r hf pc ls st h :=
  gv_pure (fun p e R s m args below meth c H locs cells slots Q A X hw hA kk => kk A ⟨hA.1, hA.2.1, fun i v hi => hA.2.2 i v (gv_le_at hl hi)⟩) k
theorem gv_fk (k : gv_go G y d r hf pc ls' st h) (hl : gv_le ls' ls) : gv_go G y d r hf pc ls st h := gv_fg hl k
/-- a call of a method of the JDK's -/
theorem gv_Sx {v : Option gv_V} {h1 : gv_H} {x9 : Nat} (hd : decode y.2.1 pc = .ok (.invokestatic x9, 3)) (hl : gv_tw wp (.methodLink y.1.cls x9 M.1) = true) (hM : gv_msS M = true) (hE : gv_ev G d M args h (.inl v) h1) (hst : st0 = args.reverse ++ st) (hn : args.length = M.2.2.2.2.2.2.2.2.2.1) (hcat : gv_cs st ≤ 8)
    (k : gv_go G y (d + 1) r hf (pc + 3) ls (v.toList ++ st) h1) : gv_go G y (d + 1) r hf pc ls st0 h := by
  unfold gv_msS at hM
  rw [Bool.and_eq_true] at hM
  rw [hst]
  exact gv_callS (a := 0) hM.1 hM.2 hl hd hn hcat hE k
end FBA
