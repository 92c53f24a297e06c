/-! gh: steps that read, write and make cells -/
section GHA
def gv_ft (r : vw_C) (k : Nat) : FieldType := (parseFieldDescriptor (r.2.1 k).2.2.1).getD .int
def gv_df (t : FieldType) : gv_V := match t with
  | .object _ => gN
  | .array _ => gN
  | .long => gL 0
  | _ => gI 0
/-- a new object's fields -/
def gv_nf (c : Nat) : List gv_V := match c with
  | 0 => [gN, gI 0, gN, gN]
  | 1 => [gN, gI 0]
  | 2 => [gN, gI 0, gI 0, gI 0]
  | 3 => [gN, gN, gN, gN, gN, gN, gN, gN, gN, gI 0, gI 0, gI 0, gI 0]
  | 4 => [gN, gI 0, gN, gI 0, gN, gN, gI 0, gN, gI 0]
  | 5 => [gN, gN, gN, gI 0]
  | 6 => [gN, gN, gN, gN, gI 0]
  | 7 => [gN, gI 0]
  | 8 => [gN, gN, gN, gN]
  | 9 => [gN, gN, gN, gN, gN, gI 0]
  | 10 => [gN, gN, gN, gN, gN, gI 0]
  | 11 => [gN, gN, gI 0, gN, gI 0, gN, gI 0]
  | 12 => [gI 0, gI 0, gN, gI 0, gN, gN, gN, gN, gN, gN, gN, gN, gI 0, gI 0, gN, gN, gI 0, gI 0, gI 0, gN, gN, gN, gN, gI 0, gN, gI 0, gI 0, gI 0, gI 0, gN, gI 0, gN, gN, gN, gI 0, gI 0, gI 0, gN, gI 0, gN, gI 0, gI 0, gN, gI 0, gN, gN, gI 0, gN, gN, gI 0]
  | _ => []
def gv_okt (t : FieldType) : Bool := match t with
  | .float => false
  | .double => false
  | _ => true
def gv_clok (ci : Nat) (r : vw_C) : Prop := gv_cl[ci]? = some r ∧ (∀ w ∈ u_ws r.1 r.2.1 r.2.2, w ∈ gv_T ∧ gv_gd w = true) ∧ (∀ k, k < r.2.2 → parseFieldDescriptor (r.2.1 k).2.2.1 = some (gv_ft r k)) ∧ (∀ a, a < r.2.2 → ∀ b, b < r.2.2 → a ≠ b → (r.2.1 a).2.1 ≠ (r.2.1 b).2.1) ∧ (∀ k, k < r.2.2 → gv_okt (gv_ft r k) = true) ∧ gv_nf ci = (List.range r.2.2).map (fun k => gv_df (gv_ft r k))
theorem gv_ws {G : gv_G} {s : State} (h : gv_K G s) {L : List Jvm.Cond} (hL : ∀ w ∈ L, w ∈ gv_T ∧ gv_gd w = true) (args : Array Value) : ∀ w ∈ L, w.before args s = true := by
  intro w hw
  obtain ⟨h1, h2⟩ := hL w hw
  obtain ⟨i, hi⟩ := List.getElem?_of_mem h1
  exact h.use i hi h2 args
/-- what a field of that type may get -/
def gv_fit (t : FieldType) (v : gv_V) : Bool := match t, v with
  | .int, Sum.inl _ => true
  | .boolean, Sum.inl x => decide (x = 0 ∨ x = 1)
  | .object _, Sum.inr (Sum.inr _) => true
  | .array _, Sum.inr (Sum.inr _) => true
  | _, _ => false
theorem gv_fit_ok {t : FieldType} {v : gv_V} (z : Nat → Nat) (h : gv_fit t v = true) : narrow t (gv_v z v) = gv_v z v ∧ fits t (gv_v z v) = true := by
  unfold gv_fit at h
  split at h
  next x => exact ⟨rfl, rfl⟩
  next x =>
    rw [decide_eq_true_eq] at h
    rcases h with h | h <;> subst h <;> exact ⟨rfl, rfl⟩
  next n x => cases x <;> exact ⟨rfl, rfl⟩
  next n x => cases x <;> exact ⟨rfl, rfl⟩
  next => cases h
/-- reading -/
def gv_x5 (J : gv_J) (ls : gv_L) (st : List gv_V) (h : gv_H) : Option gv_S := match J with
  | (70, _, _, ci, j, _, nx, _) => match st with
    | Sum.inr (Sum.inr (some a)) :: st => match h.2.2 a with
      | some (Sum.inr (cj, fs)) => if cj = ci then match fs[j]? with
          | some v => some (nx, ls, v :: st, h)
          | none => none
        else none
      | _ => none
    | _ => none
  | (71, _, _, _, _, _, nx, _) => match st with
    | Sum.inr (Sum.inr (some a)) :: st => match h.2.2 a with
      | some (Sum.inl (t, n, _)) => if t < 4 then some (nx, ls, gI (Int32.ofNat n) :: st, h) else none
      | _ => none
    | _ => none
  | (72, _, _, _, _, _, nx, _) => match st with
    | Sum.inl i :: Sum.inr (Sum.inr (some a)) :: st => match h.2.2 a with
      | some (Sum.inl (0, n, Sum.inl f)) => if i < 0 ∨ n ≤ i.toNatClampNeg then none else some (nx, ls, gI (f i.toNatClampNeg) :: st, h)
      | _ => none
    | _ => none
  | (73, _, _, _, _, _, nx, _) => match st with
    | Sum.inl i :: Sum.inr (Sum.inr (some a)) :: st => match h.2.2 a with
      | some (Sum.inl (2, n, Sum.inl f)) => if i < 0 ∨ n ≤ i.toNatClampNeg then none else some (nx, ls, gI (f i.toNatClampNeg) :: st, h)
      | _ => none
    | _ => none
  | (74, _, _, _, _, _, nx, _) => match st with
    | Sum.inl i :: Sum.inr (Sum.inr (some a)) :: st => match h.2.2 a with
      | some (Sum.inl (1, n, Sum.inl f)) => if i < 0 ∨ n ≤ i.toNatClampNeg then none else some (nx, ls, gL (f i.toNatClampNeg).toInt64 :: st, h)
      | _ => none
    | _ => none
  | (75, _, _, _, _, _, nx, _) => match st with
    | Sum.inl i :: Sum.inr (Sum.inr (some a)) :: st => match h.2.2 a with
      | some (Sum.inl (3, n, Sum.inr f)) => if i < 0 ∨ n ≤ i.toNatClampNeg then none else some (nx, ls, Sum.inr (Sum.inr (f i.toNatClampNeg)) :: st, h)
      | _ => none
    | _ => none
  | _ => none
def gv_ck5 (own : String) (pc : Nat) (J : gv_J) (i : Instr) (n : Nat) : Bool := match J, i with
  | (70, _, _, ci, j, wp, nx, _), .getfield x => match gv_cl[ci]? with
    | some r => decide (n = 3 ∧ nx = pc + 3 ∧ j < r.2.2) && gv_tw wp (.fieldLink own x (r.2.1 j).1 (r.2.1 j).2.1 (r.2.1 j).2.2.1)
    | none => false
  | (71, _, _, _, _, _, nx, _), .arraylength => decide (n = 1 ∧ nx = pc + 1)
  | (72, _, _, _, _, _, nx, _), .iaload => decide (n = 1 ∧ nx = pc + 1)
  | (73, _, _, _, _, _, nx, _), .baload => decide (n = 1 ∧ nx = pc + 1)
  | (74, _, _, _, _, _, nx, _), .laload => decide (n = 1 ∧ nx = pc + 1)
  | (75, _, _, _, _, _, nx, _), .aaload => decide (n = 1 ∧ nx = pc + 1)
  | _, _ => false
variable {G : gv_G} {y : gv_M} {d : Nat} {r : gv_O} {hf : gv_H} {pc : Nat} {J : gv_J} {ls : gv_L} {st : List gv_V} {h : gv_H} {S : gv_S} {i : Instr} {n : Nat}
theorem gv_s5 (hok : ∀ ci r, gv_cl[ci]? = some r → gv_clok ci r) (hd : decode y.2.1 pc = .ok (i, n)) (hc : gv_ck5 y.1.cls pc J i n = true) (hx : gv_x5 J ls st h = some S) (k : gv_go G y d r hf S.1 S.2.1 S.2.2.1 S.2.2.2) : gv_go G y d r hf pc ls st h := by
  unfold gv_ck5 at hc
  split at hc
  · split at hc
    next rr hr =>
      rw [Bool.and_eq_true, decide_eq_true_eq] at hc
      obtain ⟨⟨rfl, rfl, hj⟩, hw9⟩ := hc
      simp only [gv_x5] at hx
      split at hx
      next a st =>
        split at hx
        next cj fs ha =>
          split at hx
          next e =>
            subst e
            split at hx
            next v hv =>
              cases hx
              obtain ⟨-, o1, o2, o3, -, -⟩ := hok _ _ hr
              refine gv_pure (fun p e R s m args below meth c H locs cells slots Q A X hw hA kk => ?_) k
              exact va_get X.1 X.2.1 (gv_ws X.2.2.2.2.1 o1 args) (fun _ q => q) X.2.2.2.1 X.2.2.2.2.1.2.1 (gv_one hw ha) 0 rfl hr _ hj (gv_tw_use X.2.2.2.2.1 hw9 args) (fun _ q => q) (by rw [List.getElem?_map, hv]; rfl) hd (kk A hA)
            next => cases hx
          next => cases hx
        next => cases hx
      next => cases hx
    next => cases hc
  · rw [decide_eq_true_eq] at hc
    obtain ⟨rfl, rfl⟩ := hc
    simp only [gv_x5] at hx
    split at hx
    next a st =>
      split at hx
      next t n9 x9 ha =>
        split at hx
        next ht =>
          cases hx
          refine gv_pure (fun p e R s m args below meth c H locs cells slots Q A X hw hA kk => ?_) k
          have hty : ∃ ty, (gv_ty G)[t]? = some (G.2.2.2.1 t, ty) := by
            unfold gv_ty
            match t, ht with
            | 0, _ => exact ⟨_, rfl⟩
            | 1, _ => exact ⟨_, rfl⟩
            | 2, _ => exact ⟨_, rfl⟩
            | 3, _ => exact ⟨_, rfl⟩
          obtain ⟨ty, hty⟩ := hty
          refine va_alen X.1 X.2.1 X.2.2.2.2.1.2.1 (gv_one hw ha) 0 t rfl hty ?_ hd (kk A hA)
          unfold gv_arr
          rcases x9 with f | f
          · dsimp only
            split <;> rfl
          · rfl
        next => cases hx
      next => cases hx
    next => cases hx
  · rw [decide_eq_true_eq] at hc
    obtain ⟨rfl, rfl⟩ := hc
    simp only [gv_x5] at hx
    split at hx
    next ix a st =>
      split at hx
      next n9 f ha =>
        split at hx
        next => cases hx
        next hin =>
          cases hx
          exact gv_pure (fun p e R s m args below meth c H locs cells slots Q A X hw hA kk => va_iald X.1 X.2.1 X.2.2.2.2.1.2.1 (gv_one hw ha) 0 0 rfl rfl hin hd (kk A hA)) k
      next => cases hx
    next => cases hx
  · rw [decide_eq_true_eq] at hc
    obtain ⟨rfl, rfl⟩ := hc
    simp only [gv_x5] at hx
    split at hx
    next ix a st =>
      split at hx
      next n9 f ha =>
        split at hx
        next => cases hx
        next hin =>
          cases hx
          exact gv_pure (fun p e R s m args below meth c H locs cells slots Q A X hw hA kk => va_zald X.1 X.2.1 X.2.2.2.2.1.2.1 (gv_one hw ha) 0 2 rfl rfl hin hd (kk A hA)) k
      next => cases hx
    next => cases hx
  · rw [decide_eq_true_eq] at hc
    obtain ⟨rfl, rfl⟩ := hc
    simp only [gv_x5] at hx
    split at hx
    next ix a st =>
      split at hx
      next n9 f ha =>
        split at hx
        next => cases hx
        next hin =>
          cases hx
          exact gv_pure (fun p e R s m args below meth c H locs cells slots Q A X hw hA kk => va_lald X.1 X.2.1 X.2.2.2.2.1.2.1 (gv_one hw ha) 0 1 rfl rfl hin hd (kk A hA)) k
      next => cases hx
    next => cases hx
  · rw [decide_eq_true_eq] at hc
    obtain ⟨rfl, rfl⟩ := hc
    simp only [gv_x5] at hx
    split at hx
    next ix a st =>
      split at hx
      next n9 f ha =>
        split at hx
        next => cases hx
        next hin =>
          cases hx
          refine gv_pure (fun p e R s m args below meth c H locs cells slots Q A X hw hA kk => va_aldq X.1 X.2.1 X.2.2.2.2.1.2.1 (gv_one hw ha) 0 3 rfl rfl hin hd ?_) k
          have k9 := kk A hA
          have e9 : gv_v G.2.1 (Sum.inr (Sum.inr (f ix.toNatClampNeg))) = va_rf ((f ix.toNatClampNeg).map G.2.1) := by
            cases f ix.toNatClampNeg <;> rfl
          rw [List.map_cons, e9] at k9
          exact k9
      next => cases hx
    next => cases hx
  · cases hc
end GHA
