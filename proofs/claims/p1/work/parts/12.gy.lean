/-! gy: the walk of a method over the picture -/
section GYA
def gv_nest (w : Jvm.Cond) : Bool := match w with
  | .fieldLinkNest _ _ _ _ _ _ => true
  | .methodLinkNest _ _ _ _ => true
  | .arrayOver (.object _) => true
  | .castable _ _ => true
  | .declares _ => true
  | _ => false
def gv_gd (w : Jvm.Cond) : Bool := goodWord w || gv_nest w
def gv_ty (G : gv_G) : List (ClassId × FieldType) := [(G.2.2.2.1 0, .int), (G.2.2.2.1 1, .long), (G.2.2.2.1 2, .boolean), (G.2.2.2.1 3, .object gv_qc)]
/-- a static of Throwable: where it lies, that it is a reference -/
def gx_st (n d : String) (U : State) (H : Heap) (zz : Nat) : Prop := ∃ (c : ClassId) (k : Class) (i : Nat) (f : Field) (a : Nat) (cell : Cell) (v : Value), U.vm.findClass "java/lang/Throwable" = some c ∧ U.fieldFound? "java/lang/Throwable" n d = some (c, k, i, f) ∧ f.isStatic = true ∧ k.statics = some a ∧ H[a]? = some cell ∧ cell.vm.isStatics = true ∧ cell.cls = c ∧ f.slot < cell.slots.size ∧ k.staticTypes[f.slot]? = some f.type ∧ a < zz ∧ cell.slots[f.slot]? = some v ∧ v.isRef = true
theorem gx_st.moved {n d : String} {u U : State} {H H1 : Heap} {zz : Nat} (hvm : u.vm.Alike U.vm) (hH : ∀ q : Nat, q < zz → H1[q]? = H[q]?) (h : gx_st n d u H zz) : gx_st n d U H1 zz := by
  obtain ⟨c, k, i, f, a, cell, v, h1, h2, h3, h4, h5, h6, h7, h8, h9, h10, h11, h12⟩ := h
  obtain ⟨k', hi', he⟩ := State.fieldFound?_setVm hvm h2
  exact ⟨c, k', i, f, a, cell, v, by rw [hvm.findClass]; exact h1, hi', h3, by rw [he]; exact h4, by rw [hH a h10]; exact h5, h6, h7, h8, by rw [he]; exact h9, h10, h11, h12⟩
theorem gx_st.lays {n d : String} {s : State} {zz : Nat} {args : Array Value} (h : gx_st n d s s.heap zz) : (Jvm.Cond.laysStatic "java/lang/Throwable" n d).before args s = true := by
  obtain ⟨c, k, i, f, a, cell, v, h1, h2, h3, h4, h5, h6, h7, h8, h9, h10, h11, h12⟩ := h
  exact Cond.laysStatic_of h1 h2 h3 h4 h5 h6 h7 h8 h9
theorem gx_st.isRef {n d : String} {s : State} {zz : Nat} {args : Array Value} (h : gx_st n d s s.heap zz) : (Jvm.Cond.isRef (.static "java/lang/Throwable" n d)).before args s = true := by
  obtain ⟨c, k, i, f, a, cell, v, h1, h2, h3, h4, h5, h6, h7, h8, h9, h10, h11, h12⟩ := h
  have he : (Term.static "java/lang/Throwable" n d).eval args s none [] s = some v := by
    simp [Term.eval, State.fieldNamed?, h2, h3, h4, h5, h6, h11]
  simp only [Jvm.Cond.before, Jvm.Cond.holds, Jvm.Cond.value, he]
  cases v <;> simp_all [Value.isRef]
/-- pairs of exceptions of which the first can't be cast to the second -/
def gx_nc : List (String × String) := [("java/lang/IllegalStateException", "java/lang/IllegalArgumentException"), ("java/lang/IllegalArgumentException", "java/lang/IllegalStateException"), ("java/lang/ArithmeticException", "java/lang/IllegalArgumentException"), ("java/lang/ArithmeticException", "java/lang/IllegalStateException"), ("java/lang/UnsupportedOperationException", "java/lang/IllegalArgumentException"), ("java/lang/UnsupportedOperationException", "java/lang/IllegalStateException"), ("java/lang/UnsupportedOperationException", "java/lang/ArithmeticException")]
def gx_K (G : gv_G) (s : State) : Prop := G.1.stackTraces = false ∧ (∀ q ∈ gx_nc, va_Nc q.1 q.2 s) ∧ gx_st "UNASSIGNED_STACK" "[Ljava/lang/StackTraceElement;" s G.2.2.2.2.1 G.2.2.2.2.2.1 ∧ gx_st "SUPPRESSED_SENTINEL" "Ljava/util/List;" s G.2.2.2.2.1 G.2.2.2.2.2.1
/-- what the tables say, at a state -/
def gv_K (G : gv_G) (s : State) : Prop := (∀ w ∈ gv_T, gv_gd w = true → va_Nw w s) ∧ va_K G.2.2.1 gv_cl (gv_ty G) s ∧ va_X (G.2.1 0) G.2.2.2.2.2.2.1 G.2.2.2.2.2.2.2 s G.2.2.2.2.1 ∧ gx_K G s
theorem gv_Nw_moved {w : Jvm.Cond} (hg : gv_gd w = true) {s U : State} (hW : s.WarmedH U.vm) (h : va_Nw w s) : va_Nw w U := by
  unfold gv_gd at hg
  rw [Bool.or_eq_true] at hg
  rcases hg with hg | hg
  · exact word_at hW (good_of_word hg) h
  · unfold gv_nest at hg
    split at hg
    next => exact va_Nw.warmF hW h
    next => exact va_Nw.warmM hW h
    next => exact va_AO.moved hW.alike h
    next => exact va_Nw.warmC hW h
    next => exact va_Nw.warmD hW h
    next => cases hg
theorem gv_K.moved {G : gv_G} {s U : State} (hW : s.WarmedH U.vm) (h : gv_K G s) : gv_K G U :=
  ⟨fun w hw hg => gv_Nw_moved hg hW (h.1 w hw hg), va_K.moved hW.alike h.2.1, va_X.moved hW.alike h.2.2.1, h.2.2.2.1, fun q hq => (h.2.2.2.2.1 q hq).moved hW.alike, gx_st.moved hW.alike (fun _ _ => rfl) h.2.2.2.2.2.1, gx_st.moved hW.alike (fun _ _ => rfl) h.2.2.2.2.2.2⟩
theorem gv_K.same {G : gv_G} {s U : State} (hv : s.vm = U.vm) (h : gv_K G s) : gv_K G U := by
  have hW : s.WarmedH U.vm := by rw [← hv]; exact State.WarmedH.refl s
  exact gv_K.moved hW h
theorem gv_K.use {G : gv_G} {s : State} (h : gv_K G s) {w : Jvm.Cond} (i : Nat) (hi : gv_T[i]? = some w) (hg : gv_gd w = true) (args : Array Value) : w.before args s = true := by
  have h1 := h.1 w (List.mem_of_getElem? hi) hg
  unfold gv_gd at hg
  rw [Bool.or_eq_true] at hg
  rcases hg with hg | hg
  · exact word_at (State.WarmedH.refl s) (good_of_word hg) h1
  · unfold gv_nest at hg
    split at hg
    next => exact va_Nw.use rfl h1
    next => exact va_Nw.use rfl h1
    next => exact va_AO.use h1
    next => exact va_Nw.use rfl h1
    next => exact va_Nw.use rfl h1
    next => cases hg
def gv_room (d mc ms : Nat) : Room := { frames := d + 8, cells := mc, slots := ms, locals := 64 * d + 200 }
/-- what a method's activation is -/
def gv_X (G : gv_G) (y : gv_M) (p : Program) (s : State) (m : MethodId) (meth : Method) (c : Code) : Prop :=
  p.tables.exec = Jvm.exec ∧ c.code = y.2.1 ∧ c.maxLocals = y.2.2.1 ∧ s.vm.findClass y.1.cls = some m.cls ∧ gv_K G s ∧ meth.sig.returnType = y.2.2.2.1 ∧ meth.locks = false ∧ meth.name = y.1.name ∧ c.exceptionTable.toList.map (fun h => (h.startPc, h.endPc, h.handlerPc, h.catchType)) = y.2.2.2.2.2.2.2.2.2.2
/-- how a method ends: an answer; an exception's class; the law's own end; an answer behind which more places may be taken -/
abbrev gv_O : Type := Option gv_V ⊕ (String ⊕ Option (Option gv_V))
def gv_Qv (G : gv_G) (v : Option gv_V) (hf : gv_H) : Array Value → State → Outcome → State → Prop := fun _ _ o t => o = .returned (v.map (gv_v G.2.1)) ∧ gv_w G hf t.heap
def gv_Ql (G : gv_G) (v : Option gv_V) (hf : gv_H) : Array Value → State → Outcome → State → Prop := fun _ _ o t => o = .returned (v.map (gv_v G.2.1)) ∧ ∃ δ : Nat, gv_w G (hf.1 + δ, hf.2) t.heap
def gv_fr (G : gv_G) : Addr → Prop := fun q => G.2.2.2.2.2.1 ≤ q
/-- a method has thrown q, of class E, and made that one cell -/
def gx_T (G : gv_G) (E : String) (hf : gv_H) (s : State) (q : Addr) (t : State) (mc ms : Nat) : Prop :=
  ∃ (ce : Cell) (L : List Loc) (δ : Nat), t.heap[q]? = some ce ∧ ce.vm = .none ∧ s.vm.findClass E = some ce.cls ∧ s.WarmedH t.vm ∧ s.sameButNew ({ t with vm := s.vm } : State) L mc ms ∧ (∀ z ∈ L, gv_fr G z.base) ∧ gv_w G (hf.1 + δ, hf.2) t.heap
def gv_fin (G : gv_G) (r : gv_O) (hf : gv_H) (below : List Frame) (args : Array Value) (s : State) (mc ms : Nat) : State → Prop := match r with
  | .inl v => MQ below (gv_Qv G v hf) args s mc ms (gv_fr G)
  | .inr (.inl E) => fun t => ∃ q, t.status = .running ∧ Ended t below (.threw q) ∧ gx_T G E hf s q t mc ms
  | .inr (.inr none) => fun t => s.heap.size = G.2.2.2.2.2.1 → lw_Z below args s t
  | .inr (.inr (some v)) => MQ below (gv_Ql G v hf) args s mc ms (gv_fr G)
/-- the method goes on from here to its end: answer r, picture hf -/
def gv_go (G : gv_G) (y : gv_M) (d : Nat) (r : gv_O) (hf : gv_H) (pc : Nat) (ls : gv_L) (st : List gv_V) (h : gv_H) : Prop :=
  (h.2.1.1 ≤ hf.2.1.1 ∧ h.2.1.2 ≤ hf.2.1.2) ∧
  ∀ (h0 : gv_H) (p : Program) (e : Env) (s : State) (m : MethodId) (args : Array Value) (below : List Frame) (meth : Method) (c : Code) (H : Heap) (locs : List Loc) (A : Array Slot),
    h0.2.1.1 ≤ h.2.1.1 → h0.2.1.2 ≤ h.2.1.2 → gv_X G y p s m meth c → gv_w G h H → (∀ q ∈ locs, gv_fr G q.base) → gv_ls G.2.1 y.2.2.1 A ls →
    W p G.1 e (gv_room d (hf.2.1.1 - h0.2.1.1) (hf.2.1.2 - h0.2.1.2)) s m args below meth c H locs (h.2.1.1 - h0.2.1.1) (h.2.1.2 - h0.2.1.2) (gv_fin G r hf below args s (hf.2.1.1 - h0.2.1.1) (hf.2.1.2 - h0.2.1.2)) (F0 m pc A (st.map (gv_v G.2.1)))
variable {G : gv_G} {y : gv_M} {d : Nat} {r : gv_O} {hf : gv_H} {pc pc' : Nat} {ls ls' : gv_L} {st st' : List gv_V} {h h' : gv_H}
/-- a step that leaves the cells as they are -/
theorem gv_pure (hs : ∀ (p : Program) (e : Env) (R : Room) (s : State) (m : MethodId) (args : Array Value) (below : List Frame) (meth : Method) (c : Code) (H : Heap) (locs : List Loc) (cells slots : Nat) (Q : State → Prop) (A : Array Slot),
      gv_X G y p s m meth c → gv_w G h H → gv_ls G.2.1 y.2.2.1 A ls → (∀ A' : Array Slot, gv_ls G.2.1 y.2.2.1 A' ls' → W p G.1 e R s m args below meth c H locs cells slots Q (F0 m pc' A' (st'.map (gv_v G.2.1)))) →
      W p G.1 e R s m args below meth c H locs cells slots Q (F0 m pc A (st.map (gv_v G.2.1))))
    (k : gv_go G y d r hf pc' ls' st' h) : gv_go G y d r hf pc ls st h :=
  ⟨k.1, fun h0 p e s m args below meth c H locs A q1 q2 X hw hl hA => hs p e _ s m args below meth c H locs _ _ _ A X hw hA (fun A' hA' => k.2 h0 p e s m args below meth c H locs A' q1 q2 X hw hl hA')⟩
/-- a step that writes a cell -/
theorem gv_wr {kk : Nat} {cc : gv_C} (h0 : kk ≠ 0) (hs : ∀ (p : Program) (e : Env) (R : Room) (s : State) (m : MethodId) (args : Array Value) (below : List Frame) (meth : Method) (c : Code) (H : Heap) (locs : List Loc) (cells slots : Nat) (Q : State → Prop) (A : Array Slot),
      gv_X G y p s m meth c → gv_w G h H → gv_ls G.2.1 y.2.2.1 A ls → (∀ (H1 : Heap) (i : Nat), gv_w G (gv_set h kk cc) H1 → W p G.1 e R s m args below meth c H1 (locs ++ [⟨G.2.1 kk, i⟩]) cells slots Q (F0 m pc' A (st'.map (gv_v G.2.1)))) →
      W p G.1 e R s m args below meth c H locs cells slots Q (F0 m pc A (st.map (gv_v G.2.1))))
    (k : gv_go G y d r hf pc' ls st' (gv_set h kk cc)) : gv_go G y d r hf pc ls st h :=
  ⟨k.1, fun h9 p e s m args below meth c H locs A q1 q2 X hw hl hA => hs p e _ s m args below meth c H locs _ _ _ A X hw hA (fun H1 i hw1 => k.2 h9 p e s m args below meth c H1 _ A q1 q2 X hw1 (fun q hq => by
    rcases List.mem_append.mp hq with hq | hq
    · exact hl q hq
    · rw [List.mem_singleton.mp hq]
      exact hw.1.1.ge h0) hA)⟩
/-- a step that makes a cell -/
theorem gv_mk {n : Nat} {cc : gv_C} (hs : ∀ (p : Program) (e : Env) (R : Room) (s : State) (m : MethodId) (args : Array Value) (below : List Frame) (meth : Method) (c : Code) (H : Heap) (locs : List Loc) (cells slots : Nat) (Q : State → Prop) (A : Array Slot),
      gv_X G y p s m meth c → gv_w G h H → gv_ls G.2.1 y.2.2.1 A ls → cells + 1 ≤ R.cells → slots + n ≤ R.slots → (∀ H1 : Heap, gv_w G (gv_push h n cc) H1 → W p G.1 e R s m args below meth c H1 locs (cells + 1) (slots + n) Q (F0 m pc' A (st'.map (gv_v G.2.1)))) →
      W p G.1 e R s m args below meth c H locs cells slots Q (F0 m pc A (st.map (gv_v G.2.1))))
    (k : gv_go G y d r hf pc' ls st' (gv_push h n cc)) : gv_go G y d r hf pc ls st h := by
  have k1 : h.2.1.1 + 1 ≤ hf.2.1.1 ∧ h.2.1.2 + n ≤ hf.2.1.2 := k.1
  refine ⟨⟨by omega, by omega⟩, fun h0 p e s m args below meth c H locs A q1 q2 X hw hl hA => hs p e _ s m args below meth c H locs _ _ _ A X hw hA (by show _ ≤ hf.2.1.1 - h0.2.1.1; omega) (by show _ ≤ hf.2.1.2 - h0.2.1.2; omega) (fun H1 hw1 => ?_)⟩
  have k2 := k.2 h0 p e s m args below meth c H1 locs A (Nat.le_succ_of_le q1) (Nat.le_trans q2 (Nat.le_add_right _ _)) X hw1 hl hA
  have e1 : h.2.1.1 - h0.2.1.1 + 1 = (gv_push h n cc).2.1.1 - h0.2.1.1 := by show _ = h.2.1.1 + 1 - h0.2.1.1; omega
  have e2 : h.2.1.2 - h0.2.1.2 + n = (gv_push h n cc).2.1.2 - h0.2.1.2 := by show _ = h.2.1.2 + n - h0.2.1.2; omega
  rw [e1, e2]
  exact k2
end GYA
