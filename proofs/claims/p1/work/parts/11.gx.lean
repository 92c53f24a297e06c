/-! gx: one step of the machine over the picture, as a function -/
section GXA
/-- a place of the code: what it does, an int, a long, two numbers, the place of its word in the tables, the next place, a switch's roads -/
abbrev gv_J : Type := Nat × Int32 × Int64 × Nat × Nat × Nat × Nat × List (Int32 × Nat)
/-- a method: name, bytes, locals, answer, code; the places of its words (code, initialized, instance or static, selects), its parameters, its exception table -/
abbrev gv_M : Type := MethodName × ByteArray × Nat × Option FieldType × List (Nat × gv_J) × (Nat × Nat × Nat × Nat × Nat × List (Nat × Nat × Nat × Nat))
abbrev gv_S : Type := Nat × gv_L × List gv_V × gv_H
def gv_lk : List (Nat × gv_J) → Nat → Option gv_J
  | [], _ => none
  | (a, j) :: l, pc => match Nat.beq a pc with
    | true => some j
    | false => gv_lk l pc
theorem gv_lk_mem {pc : Nat} {j : gv_J} : ∀ {l : List (Nat × gv_J)}, gv_lk l pc = some j → (pc, j) ∈ l
  | [], h => by cases h
  | (a, k) :: l, h => by
    unfold gv_lk at h
    split at h
    next e =>
      cases h
      rw [Nat.eq_of_beq_eq_true e]
      exact List.mem_cons_self
    next => exact List.mem_cons_of_mem _ (gv_lk_mem h)
/-- constants, locals, jumps -/
def gv_x1 (J : gv_J) (ls : gv_L) (st : List gv_V) (h : gv_H) : Option gv_S := match J with
  | (1, v, _, _, _, _, nx, _) => some (nx, ls, gI v :: st, h)
  | (2, _, w, _, _, _, nx, _) => some (nx, ls, gL w :: st, h)
  | (3, _, _, a, _, _, nx, _) => match gv_get ls a with
    | some (Sum.inl x) => some (nx, ls, gI x :: st, h)
    | _ => none
  | (4, _, _, a, _, _, nx, _) => match gv_get ls a with
    | some (Sum.inr (Sum.inl x)) => some (nx, ls, gL x :: st, h)
    | _ => none
  | (5, _, _, a, _, _, nx, _) => match gv_get ls a with
    | some (Sum.inr (Sum.inr (some x))) => some (nx, ls, gR x :: st, h)
    | _ => none
  | (6, _, _, a, _, _, nx, _) => match st with
    | Sum.inl x :: st => some (nx, gv_sto ls a (gI x), st, h)
    | _ => none
  | (7, _, _, a, _, _, nx, _) => match st with
    | Sum.inr (Sum.inl x) :: st => some (nx, gv_stl ls a (gL x), st, h)
    | _ => none
  | (8, _, _, a, _, _, nx, _) => match st with
    | Sum.inr (Sum.inr (some x)) :: st => some (nx, gv_sto ls a (gR x), st, h)
    | _ => none
  | (9, v, _, a, _, _, nx, _) => match gv_get ls a with
    | some (Sum.inl x) => some (nx, gv_sto ls a (gI (x + v)), st, h)
    | _ => none
  | (10, _, _, a, _, _, _, _) => some (a, ls, st, h)
  | _ => none
/-- arithmetic -/
def gv_x2 (J : gv_J) (ls : gv_L) (st : List gv_V) (h : gv_H) : Option gv_S := match J with
  | (20, _, _, _, _, _, nx, _) => match st with
    | Sum.inl y :: Sum.inl x :: st => some (nx, ls, gI (x + y) :: st, h)
    | _ => none
  | (21, _, _, _, _, _, nx, _) => match st with
    | Sum.inl y :: Sum.inl x :: st => some (nx, ls, gI (x - y) :: st, h)
    | _ => none
  | (22, _, _, _, _, _, nx, _) => match st with
    | Sum.inl y :: Sum.inl x :: st => some (nx, ls, gI (x * y) :: st, h)
    | _ => none
  | (23, _, _, _, _, _, nx, _) => match st with
    | Sum.inl y :: Sum.inl x :: st => some (nx, ls, gI (x &&& y) :: st, h)
    | _ => none
  | (24, _, _, _, _, _, nx, _) => match st with
    | Sum.inl y :: Sum.inl x :: st => some (nx, ls, gI (x ||| y) :: st, h)
    | _ => none
  | (25, _, _, _, _, _, nx, _) => match st with
    | Sum.inl y :: Sum.inl x :: st => some (nx, ls, gI (x <<< (y &&& 31)) :: st, h)
    | _ => none
  | (26, _, _, _, _, _, nx, _) => match st with
    | Sum.inl y :: Sum.inl x :: st => some (nx, ls, gI (x >>> (y &&& 31)) :: st, h)
    | _ => none
  | (27, _, _, _, _, _, nx, _) => match st with
    | Sum.inl y :: Sum.inl x :: st => if y = 0 then none else some (nx, ls, gI (x / y) :: st, h)
    | _ => none
  | (28, _, _, _, _, _, nx, _) => match st with
    | Sum.inl y :: Sum.inl x :: st => some (nx, ls, gI (x.toUInt32 >>> (y.toUInt32 &&& Int32.toUInt32 31)).toInt32 :: st, h)
    | _ => none
  | (30, _, _, _, _, _, nx, _) => match st with
    | Sum.inl x :: st => some (nx, ls, gL x.toInt64 :: st, h)
    | _ => none
  | (31, _, _, _, _, _, nx, _) => match st with
    | Sum.inr (Sum.inl x) :: st => some (nx, ls, gI x.toInt32 :: st, h)
    | _ => none
  | (32, _, _, _, _, _, nx, _) => match st with
    | Sum.inr (Sum.inl y) :: Sum.inr (Sum.inl x) :: st => some (nx, ls, gL (x + y) :: st, h)
    | _ => none
  | (33, _, _, _, _, _, nx, _) => match st with
    | Sum.inr (Sum.inl y) :: Sum.inr (Sum.inl x) :: st => some (nx, ls, gL (x - y) :: st, h)
    | _ => none
  | (34, _, _, _, _, _, nx, _) => match st with
    | Sum.inr (Sum.inl y) :: Sum.inr (Sum.inl x) :: st => some (nx, ls, gL (x * y) :: st, h)
    | _ => none
  | (35, _, _, _, _, _, nx, _) => match st with
    | Sum.inr (Sum.inl y) :: Sum.inr (Sum.inl x) :: st => if y = 0 then none else some (nx, ls, gL (x / y) :: st, h)
    | _ => none
  | (36, _, _, _, _, _, nx, _) => match st with
    | Sum.inr (Sum.inl y) :: Sum.inr (Sum.inl x) :: st => some (nx, ls, gI (lg_cmp x y) :: st, h)
    | _ => none
  | (37, _, _, _, _, _, nx, _) => match st with
    | Sum.inl y :: Sum.inr (Sum.inl x) :: st => some (nx, ls, gL (x <<< (y.toInt64 &&& 63)) :: st, h)
    | _ => none
  | (38, _, _, _, _, _, nx, _) => match st with
    | Sum.inl y :: Sum.inr (Sum.inl x) :: st => some (nx, ls, gL (x >>> (y.toInt64 &&& 63)) :: st, h)
    | _ => none
  | _ => none
/-- the stack -/
def gv_x3 (J : gv_J) (ls : gv_L) (st : List gv_V) (h : gv_H) : Option gv_S := match J with
  | (40, _, _, _, _, _, nx, _) => match st with
    | v :: st => if gv_isL (some (some v)) then none else some (nx, ls, v :: v :: st, h)
    | _ => none
  | (41, _, _, _, _, _, nx, _) => match st with
    | v :: w :: st => if gv_isL (some (some v)) || gv_isL (some (some w)) then none else some (nx, ls, v :: w :: v :: w :: st, h)
    | _ => none
  | (42, _, _, _, _, _, nx, _) => match st with
    | v :: w :: st => if gv_isL (some (some v)) || gv_isL (some (some w)) then none else some (nx, ls, v :: w :: v :: st, h)
    | _ => none
  | (43, _, _, _, _, _, nx, _) => match st with
    | v :: w :: u :: st => if gv_isL (some (some v)) || gv_isL (some (some w)) || gv_isL (some (some u)) then none else some (nx, ls, v :: w :: u :: v :: st, h)
    | _ => none
  | (44, _, _, _, _, _, nx, _) => match st with
    | v :: st => if gv_isL (some (some v)) then none else some (nx, ls, st, h)
    | _ => none
  | _ => none
/-- switches: the first road whose number it is, else the other one -/
def gv_sw (x : Int32) (a : Nat) : List (Int32 × Nat) → Nat
  | [] => a
  | (k, t) :: l => if x = k then t else gv_sw x a l
/-- branches -/
def gv_x4 (J : gv_J) (ls : gv_L) (st : List gv_V) (h : gv_H) : Option gv_S := match J with
  | (50, _, _, a, _, _, nx, _) => match st with
    | Sum.inl x :: st => some (if x = 0 then a else nx, ls, st, h)
    | _ => none
  | (51, _, _, a, _, _, nx, _) => match st with
    | Sum.inl x :: st => some (if ¬ x = 0 then a else nx, ls, st, h)
    | _ => none
  | (52, _, _, a, _, _, nx, _) => match st with
    | Sum.inl x :: st => some (if x < 0 then a else nx, ls, st, h)
    | _ => none
  | (53, _, _, a, _, _, nx, _) => match st with
    | Sum.inl x :: st => some (if 0 ≤ x then a else nx, ls, st, h)
    | _ => none
  | (54, _, _, a, _, _, nx, _) => match st with
    | Sum.inl x :: st => some (if 0 < x then a else nx, ls, st, h)
    | _ => none
  | (55, _, _, a, _, _, nx, _) => match st with
    | Sum.inl x :: st => some (if x ≤ 0 then a else nx, ls, st, h)
    | _ => none
  | (56, _, _, a, _, _, nx, _) => match st with
    | Sum.inl y :: Sum.inl x :: st => some (if x = y then a else nx, ls, st, h)
    | _ => none
  | (57, _, _, a, _, _, nx, _) => match st with
    | Sum.inl y :: Sum.inl x :: st => some (if ¬ x = y then a else nx, ls, st, h)
    | _ => none
  | (58, _, _, a, _, _, nx, _) => match st with
    | Sum.inl y :: Sum.inl x :: st => some (if x < y then a else nx, ls, st, h)
    | _ => none
  | (59, _, _, a, _, _, nx, _) => match st with
    | Sum.inl y :: Sum.inl x :: st => some (if y ≤ x then a else nx, ls, st, h)
    | _ => none
  | (60, _, _, a, _, _, nx, _) => match st with
    | Sum.inl y :: Sum.inl x :: st => some (if y < x then a else nx, ls, st, h)
    | _ => none
  | (61, _, _, a, _, _, nx, _) => match st with
    | Sum.inl y :: Sum.inl x :: st => some (if x ≤ y then a else nx, ls, st, h)
    | _ => none
  | (62, _, _, a, _, _, _, tb) => match st with
    | Sum.inl x :: st => some (gv_sw x a tb, ls, st, h)
    | _ => none
  | _ => none
end GXA
