/-! gv: a picture of all cells that the law makes (place k lies at the address z k; place 0 is the script), and the machine's walk over it -/
section GVA
abbrev gv_V : Type := Int32 ⊕ (Int64 ⊕ Option Nat)
abbrev gI (x : Int32) : gv_V := Sum.inl x
abbrev gL (x : Int64) : gv_V := Sum.inr (Sum.inl x)
abbrev gR (k : Nat) : gv_V := Sum.inr (Sum.inr (some k))
abbrev gN : gv_V := Sum.inr (Sum.inr none)
def gv_v (z : Nat → Nat) : gv_V → Value
  | Sum.inl x => .int x
  | Sum.inr (Sum.inl x) => .long x
  | Sum.inr (Sum.inr none) => .null
  | Sum.inr (Sum.inr (some k)) => .ref (z k)
/-- an array's contents: numbers, or references -/
abbrev gv_A : Type := (Nat → Int32) ⊕ (Nat → Option Nat)
/-- a cell: an array (kind, length, contents) or an object (class, fields) -/
abbrev gv_C : Type := (Nat × Nat × gv_A) ⊕ (Nat × List gv_V)
/-- the places taken, the cells and slots that are counted, what the places hold -/
abbrev gv_H : Type := Nat × (Nat × Nat) × (Nat → Option gv_C)
/-- launch, addresses, classes, array classes, the heap at the start, its size, the script -/
abbrev gv_G : Type := Launch × (Nat → Nat) × va_G × (Nat → ClassId) × Heap × Nat × Nat × (Nat → Int32)
def gv_arr (z : Nat → Nat) (t n : Nat) (c : gv_A) : vp_A := match c with
  | .inl f => if t = 1 then (n, .inr (.inl (fun j => (f j).toInt64))) else (n, .inl f)
  | .inr f => (n, .inr (.inr (.inr (.inr (fun j => (f j).map z)))))
def gv_e (G : gv_G) (c : gv_C) : va_E := match c with
  | .inl x => .inl (G.2.2.2.1 x.1, gv_arr G.2.1 x.1 x.2.1 x.2.2)
  | .inr x => .inr (x.1, x.2.map (gv_v G.2.1))
/-- the script's cell is old, the others come one behind the other -/
def gv_Ga (G : gv_G) : Prop := G.2.1 0 < G.2.2.2.2.2.1 ∧ ∀ k : Nat, G.2.1 (k + 1) = G.2.2.2.2.2.1 + k
theorem gv_Ga.ge {G : gv_G} (h : gv_Ga G) {k : Nat} (hk : k ≠ 0) : G.2.2.2.2.2.1 ≤ G.2.1 k := by
  cases k with
  | zero => exact absurd rfl hk
  | succ k => rw [h.2 k]; exact Nat.le_add_right _ _
theorem gv_Ga.ne {G : gv_G} (h : gv_Ga G) {j k : Nat} (hk : j ≠ k) : G.2.1 j ≠ G.2.1 k := by
  have h0 := h.1
  cases j with
  | zero =>
    cases k with
    | zero => exact absurd rfl hk
    | succ k => rw [h.2 k]; omega
  | succ j =>
    cases k with
    | zero => rw [h.2 j]; omega
    | succ k => rw [h.2 j, h.2 k]; omega
def gv_w (G : gv_G) (h : gv_H) (H : Heap) : Prop :=
  (gv_Ga G ∧ 1 ≤ h.1) ∧ H.size = G.2.1 h.1 ∧ (∀ q : Nat, q < G.2.2.2.2.2.1 → H[q]? = G.2.2.2.2.1[q]?) ∧ ∀ (k : Nat) (c : gv_C), h.2.2 k = some c → k < h.1 ∧ va_at G.2.2.1 gv_cl (G.2.1 k, gv_e G c) H
def gv_set (h : gv_H) (k : Nat) (c : gv_C) : gv_H := (h.1, h.2.1, fun j => if j = k then some c else h.2.2 j)
def gv_push (h : gv_H) (n : Nat) (c : gv_C) : gv_H := (h.1 + 1, (h.2.1.1 + 1, h.2.1.2 + n), fun j => if j = h.1 then some c else h.2.2 j)
theorem gv_one {G : gv_G} {h : gv_H} {H : Heap} {k : Nat} {c : gv_C} (hw : gv_w G h H) (hk : h.2.2 k = some c) : va_P G.2.2.1 gv_cl [(G.2.1 k, gv_e G c)] H := by
  intro i q hq
  cases i with
  | zero => cases hq; exact (hw.2.2.2 k c hk).2
  | succ i => simp at hq
theorem gv_w.set {G : gv_G} {h : gv_H} {H H1 : Heap} {k : Nat} {c0 c : gv_C} (hw : gv_w G h H) (h0 : k ≠ 0) (hk : h.2.2 k = some c0) (he : va_at G.2.2.1 gv_cl (G.2.1 k, gv_e G c) H1) (hz : H1.size = H.size) (oq : ∀ q : Nat, q ≠ G.2.1 k → H1[q]? = H[q]?) : gv_w G (gv_set h k c) H1 := by
  obtain ⟨hg, h1, h2, h3⟩ := hw
  refine ⟨hg, hz.trans h1, fun q hq => (oq q (fun e => ?_)).trans (h2 q hq), fun j x hj => ?_⟩
  · have := hg.1.ge h0
    omega
  simp only [gv_set] at hj
  by_cases e : j = k
  · rw [if_pos e] at hj
    cases hj
    rw [e]
    exact ⟨(h3 k c0 hk).1, he⟩
  · rw [if_neg e] at hj
    exact ⟨(h3 j x hj).1, (h3 j x hj).2.kept (oq _ (hg.1.ne e))⟩
theorem gv_w.push {G : gv_G} {h : gv_H} {H H1 : Heap} {n : Nat} {c : gv_C} (hw : gv_w G h H) (he : va_at G.2.2.1 gv_cl (G.2.1 h.1, gv_e G c) H1) (hz : H1.size = H.size + 1) (oq : ∀ q : Nat, q < H.size → H1[q]? = H[q]?) : gv_w G (gv_push h n c) H1 := by
  obtain ⟨hg, h1, h2, h3⟩ := hw
  have hsz : ∀ j, j < h.1 → G.2.1 j < H.size := by
    intro j hj
    rw [h1]
    have g1 := hg.1.1
    obtain ⟨k, hk⟩ : ∃ k, h.1 = k + 1 := ⟨h.1 - 1, by have := hg.2; omega⟩
    rw [hk, hg.1.2 k]
    cases j with
    | zero => omega
    | succ j => rw [hg.1.2 j]; omega
  have hsz2 : G.2.2.2.2.2.1 ≤ H.size := by rw [h1]; exact hg.1.ge (by have := hg.2; omega)
  refine ⟨⟨hg.1, Nat.le_succ_of_le hg.2⟩, ?_, fun q hq => (oq q (by omega)).trans (h2 q hq), fun j x hj => ?_⟩
  · obtain ⟨k, hk⟩ : ∃ k, h.1 = k + 1 := ⟨h.1 - 1, by have := hg.2; omega⟩
    show H1.size = G.2.1 (h.1 + 1)
    rw [hz, h1, hk, hg.1.2 k, hg.1.2 (k + 1)]
    omega
  simp only [gv_push] at hj ⊢
  by_cases e : j = h.1
  · rw [if_pos e] at hj
    cases hj
    rw [e]
    exact ⟨by omega, he⟩
  · rw [if_neg e] at hj
    obtain ⟨q1, q2⟩ := h3 j x hj
    exact ⟨by omega, q2.kept (oq _ (hsz j q1))⟩
/-- the locals that are known -/
abbrev gv_L : Type := List (Option gv_V)
def gv_ls (z : Nat → Nat) (nL : Nat) (A : Array Slot) (ls : gv_L) : Prop := A.size = nL ∧ lv_wf A ∧ ∀ (i : Nat) (v : gv_V), ls[i]? = some (some v) → A[i]? = some (.val (gv_v z v))
def gv_get (ls : gv_L) (i : Nat) : Option gv_V := match ls[i]? with
  | some (some v) => some v
  | _ => none
theorem gv_get_some {ls : gv_L} {i : Nat} {v : gv_V} (hg : gv_get ls i = some v) : ls[i]? = some (some v) := by
  unfold gv_get at hg
  split at hg
  next w hw => cases hg; exact hw
  next => cases hg
theorem gv_get_at {z : Nat → Nat} {nL : Nat} {A : Array Slot} {ls : gv_L} {i : Nat} {v : gv_V} (h : gv_ls z nL A ls) (hg : gv_get ls i = some v) : A[i]? = some (.val (gv_v z v)) := by
  refine h.2.2 i v ?_
  unfold gv_get at hg
  split at hg
  next w hw => cases hg; exact hw
  next => cases hg
def gv_isL (x : Option (Option gv_V)) : Bool := match x with
  | some (some (Sum.inr (Sum.inl _))) => true
  | _ => false
def gv_kill (ls : gv_L) (i : Nat) : gv_L := match i with
  | 0 => ls
  | j + 1 => if gv_isL ls[j]? then ls.set j none else ls
def gv_sto (ls : gv_L) (i : Nat) (v : gv_V) : gv_L := (gv_kill ls i).set i (some v)
def gv_stl (ls : gv_L) (i : Nat) (v : gv_V) : gv_L := ((gv_kill ls i).set (i + 1) none).set i (some v)
theorem gv_kill_at {ls : gv_L} {i j : Nat} {v : gv_V} (h : (gv_kill ls i)[j]? = some (some v)) : ls[j]? = some (some v) ∧ ¬ (j + 1 = i ∧ gv_isL (some (some v)) = true) := by
  unfold gv_kill at h
  split at h
  next => exact ⟨h, fun q => by omega⟩
  next k =>
    split at h
    next hl =>
      by_cases e : k = j
      · subst e
        rw [List.getElem?_set_self' ] at h
        revert h
        cases ls[k]? <;> simp
      · rw [List.getElem?_set_ne e] at h
        exact ⟨h, fun q => e (by omega)⟩
    next hl =>
      refine ⟨h, fun q => ?_⟩
      have e : j = k := by omega
      subst e
      rw [h] at hl
      exact hl q.2
theorem gv_cat {z : Nat → Nat} {v : gv_V} : (gv_v z v).category = 2 ↔ gv_isL (some (some v)) = true := by
  rcases v with x | x | x | x <;> simp [gv_v, gv_isL, Value.category]
/-- the known locals as the kit lists them -/
def gv_ll (z : Nat → Nat) (ls : gv_L) : List (Nat × Value) := (List.range ls.length).filterMap (fun i => (gv_get ls i).map (fun v => (i, gv_v z v)))
theorem gv_ll_mem {z : Nat → Nat} {ls : gv_L} {i : Nat} {v : gv_V} (h : ls[i]? = some (some v)) : (i, gv_v z v) ∈ gv_ll z ls := by
  refine List.mem_filterMap.mpr ⟨i, List.mem_range.mpr (List.getElem?_eq_some_iff.mp h).1, ?_⟩
  simp [gv_get, h]
theorem gv_ll_has {z : Nat → Nat} {nL : Nat} {A : Array Slot} {ls : gv_L} (h : gv_ls z nL A ls) : lv_has A nL (gv_ll z ls) := by
  refine ⟨h.1, h.2.1, fun q hq => ?_⟩
  obtain ⟨i, -, hi⟩ := List.mem_filterMap.mp hq
  cases hg : gv_get ls i with
  | none => rw [hg] at hi; cases hi
  | some v =>
    rw [hg] at hi
    cases hi
    exact gv_get_at h hg
theorem gv_sto_has {z : Nat → Nat} {nL : Nat} {A : Array Slot} {ls : gv_L} {i : Nat} {v : gv_V} (h : lv_has A nL ((i, gv_v z v) :: (gv_ll z ls).filter (fun q => !(q.1 == i) && !(q.1 + 1 == i && q.2.category == 2)))) : gv_ls z nL A (gv_sto ls i v) := by
  refine ⟨h.1, h.2.1, fun j u hj => ?_⟩
  unfold gv_sto at hj
  by_cases e : i = j
  · subst e
    rw [List.getElem?_set_self'] at hj
    have hv : u = v := by
      revert hj
      cases (gv_kill ls i)[i]? <;> simp
      exact fun q => q.symm
    rw [hv]
    exact h.2.2 (i, gv_v z v) List.mem_cons_self
  · rw [List.getElem?_set_ne e] at hj
    obtain ⟨h1, h2⟩ := gv_kill_at hj
    refine h.2.2 (j, gv_v z u) (List.mem_cons_of_mem _ (List.mem_filter.mpr ⟨gv_ll_mem h1, ?_⟩))
    by_cases e2 : j + 1 = i
    · have h3 : ¬ (gv_v z u).category = 2 := fun q => h2 ⟨e2, gv_cat.mp q⟩
      simp [Ne.symm e, e2, h3]
    · simp [Ne.symm e, e2]
theorem gv_stl_has {z : Nat → Nat} {nL : Nat} {A : Array Slot} {ls : gv_L} {i : Nat} {v : gv_V} (h : lv_has A nL ((i, gv_v z v) :: (gv_ll z ls).filter (fun q => !(q.1 == i) && (!(q.1 == i + 1) && !(q.1 + 1 == i && q.2.category == 2))))) : gv_ls z nL A (gv_stl ls i v) := by
  refine ⟨h.1, h.2.1, fun j u hj => ?_⟩
  unfold gv_stl at hj
  by_cases e : i = j
  · subst e
    rw [List.getElem?_set_self'] at hj
    have hv : u = v := by
      revert hj
      cases ((gv_kill ls i).set (i + 1) none)[i]? <;> simp
      exact fun q => q.symm
    rw [hv]
    exact h.2.2 (i, gv_v z v) List.mem_cons_self
  · rw [List.getElem?_set_ne e] at hj
    by_cases e1 : i + 1 = j
    · subst e1
      rw [List.getElem?_set_self'] at hj
      revert hj
      cases (gv_kill ls i)[i + 1]? <;> simp
    · rw [List.getElem?_set_ne e1] at hj
      obtain ⟨h1, h2⟩ := gv_kill_at hj
      refine h.2.2 (j, gv_v z u) (List.mem_cons_of_mem _ (List.mem_filter.mpr ⟨gv_ll_mem h1, ?_⟩))
      by_cases e2 : j + 1 = i
      · have h3 : ¬ (gv_v z u).category = 2 := fun q => h2 ⟨e2, gv_cat.mp q⟩
        simp [Ne.symm e, Ne.symm e1, e2, h3]
      · simp [Ne.symm e, Ne.symm e1, e2]
/-- the locals with which a method begins -/
def gv_ent (args : List gv_V) : gv_L := args.flatMap (fun v => if gv_isL (some (some v)) then [some v, none] else [some v])
theorem gv_ent_args {z : Nat → Nat} : ∀ (args : List gv_V) (o i : Nat) (v : gv_V), (gv_ent args)[i]? = some (some v) → (o + i, gv_v z v) ∈ lv_args o (args.map (gv_v z))
  | [], o, i, v, h => by simp [gv_ent] at h
  | a :: as, o, i, v, h => by
    have hc : gv_ent (a :: as) = (if gv_isL (some (some a)) then [some a, none] else [some a]) ++ gv_ent as := rfl
    rw [hc] at h
    have ih := gv_ent_args (z := z) as
    simp only [List.map_cons, lv_args]
    by_cases e : gv_isL (some (some a)) = true
    · rw [if_pos e] at h
      have e2 : (gv_v z a).category = 2 := gv_cat.mpr e
      rw [if_pos e2]
      match i, h with
      | 0, h => simp at h; subst h; exact List.mem_cons_self
      | 1, h => simp at h
      | i + 2, h =>
        have h' : (gv_ent as)[i]? = some (some v) := by simpa using h
        refine List.mem_cons_of_mem _ ?_
        have := ih (o + 2) i v h'
        rwa [show o + 2 + i = o + (i + 2) by omega] at this
    · rw [if_neg e] at h
      have e2 : ¬ (gv_v z a).category = 2 := fun q => e (gv_cat.mp q)
      rw [if_neg e2]
      match i, h with
      | 0, h => simp at h; subst h; exact List.mem_cons_self
      | i + 1, h =>
        have h' : (gv_ent as)[i]? = some (some v) := by simpa using h
        refine List.mem_cons_of_mem _ ?_
        have := ih (o + 1) i v h'
        rwa [show o + 1 + i = o + (i + 1) by omega] at this
end GVA
