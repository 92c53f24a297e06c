/-! gk: calls, returns, and whole runs of steps -/
section GKA
def gv_cs (st : List gv_V) : Nat := match st with
  | [] => 0
  | v :: l => (if gv_isL (some (some v)) then 2 else 1) + gv_cs l
theorem gv_cs_sum (z : Nat → Nat) : ∀ st : List gv_V, ((st.map (gv_v z)).map fun v => v.category).sum = gv_cs st
  | [] => rfl
  | v :: l => by
    have ih := gv_cs_sum z l
    simp only [List.map_cons, List.sum_cons, gv_cs]
    rw [ih]
    congr 1
    by_cases e : gv_isL (some (some v)) = true
    · rw [if_pos e]; exact gv_cat.mpr e
    · rw [if_neg e]; exact gv_c1 e
theorem gv_cs_len (z : Nat → Nat) : ∀ st : List gv_V, (lg_sl (st.map (gv_v z))).length = gv_cs st
  | [] => rfl
  | v :: l => by
    have ih := gv_cs_len z l
    have e0 : lg_sl ((v :: l).map (gv_v z)) = (if (gv_v z v).category = 2 then [.val (gv_v z v), .second] else [.val (gv_v z v)]) ++ lg_sl (l.map (gv_v z)) := rfl
    rw [e0, List.length_append, ih]
    simp only [gv_cs]
    congr 1
    by_cases e : gv_isL (some (some v)) = true
    · rw [if_pos e, if_pos (gv_cat.mpr e)]; rfl
    · rw [if_neg e, if_neg (fun q => e (gv_cat.mp q))]; rfl
def gv_Pc (G : gv_G) (args : List gv_V) (h : gv_H) : Array Value → State → Prop := fun v U => v = (args.map (gv_v G.2.1)).toArray ∧ gv_K G U ∧ gv_w G h U.heap
theorem gv_blind {G : gv_G} {args : List gv_V} {h : gv_H} : FrameBlind (gv_Pc G args h) := fun _ U g mk q => ⟨q.1, gv_K.same (s := U) rfl q.2.1, q.2.2⟩
/-- the word of a method's code -/
def gv_cwd (M : gv_M) : Jvm.Cond := match M.2.2.2.2.2.2.2.2.2.2 with
  | [] => .code M.1 M.2.1 M.2.2.1 M.2.2.2.1
  | q :: l => .codeWith M.1 M.2.1 M.2.2.1 M.2.2.2.1 (q :: l)
theorem gv_cwd_spec {M : gv_M} {args : Array Value} {s : State} (h : (gv_cwd M).before args s = true) :
    ∃ m meth c, s.methodNamed? M.1 = some m ∧ s.vm.method? m = some meth ∧ meth.code = some c ∧ c.code = M.2.1 ∧ c.maxLocals = M.2.2.1 ∧ c.exceptionTable.toList.map (fun h => (h.startPc, h.endPc, h.handlerPc, h.catchType)) = M.2.2.2.2.2.2.2.2.2.2 ∧ meth.sig.returnType = M.2.2.2.1 ∧ meth.locks = false ∧ parseMethodDescriptor M.1.desc = some meth.sig := by
  unfold gv_cwd at h
  split at h
  next e =>
    obtain ⟨m, hn⟩ := Cond.code_named h
    obtain ⟨meth, c, h1, h2, h3, h4, h5, h6, h7, h8⟩ := Cond.code_spec hn h
    refine ⟨m, meth, c, hn, h1, h2, h3, h4, ?_, h5, h6, h8⟩
    rw [e, Array.isEmpty_iff.mp h7]
    rfl
  next q l e =>
    obtain ⟨m, meth, c, hn, h1, h2, h3, h4, h5, h6, h7, h8⟩ := Cond.codeWith_spec h
    exact ⟨m, meth, c, hn, h1, h2, h3, h4, by rw [e]; exact h5, h6, h7, h8⟩
/-- a call of the method: it answers r, the picture is hf then -/
def gv_ev (G : gv_G) (d : Nat) (M : gv_M) (args : List gv_V) (h : gv_H) (r : gv_O) (hf : gv_H) : Prop :=
  (h.2.1.1 ≤ hf.2.1.1 ∧ h.2.1.2 ≤ hf.2.1.2) ∧ match r with
  | .inl v => Met G.1 M.1 [gv_cwd M] (gv_room d (hf.2.1.1 - h.2.1.1) (hf.2.1.2 - h.2.1.2)) (gv_Pc G args h) (gv_Qv G v hf) (hf.2.1.1 - h.2.1.1) (hf.2.1.2 - h.2.1.2) (gv_fr G)
  | .inr (.inl E) => MetFree G.1 M.1 (headSpec [gv_cwd M] (gv_room d (hf.2.1.1 - h.2.1.1) (hf.2.1.2 - h.2.1.2))) (gv_Pc G args h) (fun _ _ _ _ _ => True) (fun _ st o t => ∃ q, o = .threw q ∧ gx_T G E hf st q t (hf.2.1.1 - h.2.1.1) (hf.2.1.2 - h.2.1.2))
  | .inr (.inr none) => False
  | .inr (.inr (some v)) => Met G.1 M.1 [gv_cwd M] (gv_room d (hf.2.1.1 - h.2.1.1) (hf.2.1.2 - h.2.1.2)) (gv_Pc G args h) (gv_Ql G v hf) (hf.2.1.1 - h.2.1.1) (hf.2.1.2 - h.2.1.2) (gv_fr G)
variable {G : gv_G} {y M : gv_M} {d : Nat} {r : gv_O} {hf h h1 : gv_H} {pc : Nat} {ls : gv_L} {st args : List gv_V}
theorem gv_enter (hp : plainName M.1.cls = true) (hcs : gv_cs args ≤ M.2.2.1) (hls : ∀ (i : Nat) (v : gv_V), ls[i]? = some (some v) → (gv_ent args)[i]? = some (some v)) (hr : r ≠ .inr (.inr none)) (k : gv_go G M d r hf 0 ls [] h) : gv_ev G d M args h r hf := by
  have his : ∀ (rm : Room) (args9 : Array Value) (s : State) (m : MethodId), (headSpec [gv_cwd M] rm).pre.before args9 s = true → s.methodNamed? M.1 = some m → ∃ meth c, s.vm.method? m = some meth ∧ meth.code = some c ∧ c.code = M.2.1 ∧ c.maxLocals = M.2.2.1 ∧ meth.sig.returnType = M.2.2.2.1 ∧ meth.locks = false := by
    intro rm args9 s m hw hn
    obtain ⟨m', meth, c, h1, h2, h3, h4, h5, h6, h7, h8, h9⟩ := gv_cwd_spec (atoms_spec (ws := [gv_cwd M]) hw _ List.mem_cons_self)
    cases hn.symm.trans h1
    exact ⟨meth, c, h2, h3, h4, h5, h7, h8⟩
  have body : ∀ (p : Program) (e : Env) (s : State) (m : MethodId) (args9 : Array Value) (below : List Frame) (meth : Method) (c : Code) (s₁ : State), BodyLoose p G.1 M.1 (headSpec [gv_cwd M] (gv_room d (hf.2.1.1 - h.2.1.1) (hf.2.1.2 - h.2.1.2))) M.2.1 M.2.2.1 M.2.2.2.1 e s m args9 below meth c s₁ → c.maxLocals = M.2.2.1 → gv_Pc G args h args9 s →
      ∃ t, Steps p.tables e below (s₁.setTop (entryFrame m args9 M.2.2.1)) t ∧ gv_fin G r hf below args9 s (hf.2.1.1 - h.2.1.1) (hf.2.1.2 - h.2.1.2) t := by
    intro p e s m args9 below meth c s₁ B hml hv
    obtain ⟨rfl, hK, hw⟩ := hv
    have hl := lv_entry (args.map (gv_v G.2.1)) (n := M.2.2.1) (by rw [gv_cs_len]; exact hcs)
    obtain ⟨m', meth', c', h1, h2, h3, h4, h5, h6, h7, h8, h9⟩ := gv_cwd_spec (atoms_spec (ws := [gv_cwd M]) B.pre _ List.mem_cons_self)
    cases B.named.symm.trans h1
    cases B.method.symm.trans h2
    have X₀ := Stand.of_body B
    cases X₀.code.symm.trans h3
    have hh0 : s₁.heap = s.heap := by rw [B.state]; rfl
    rw [lg_entry_eq]
    generalize (lg_sl (args.map (gv_v G.2.1)) ++ List.replicate (M.2.2.1 - (lg_sl (args.map (gv_v G.2.1))).length) Slot.unset).toArray = A at hl ⊢
    have k2 := k.2 h p e s m (args.map (gv_v G.2.1)).toArray below meth c s.heap [] A (Nat.le_refl _) (Nat.le_refl _) ⟨B.exec, B.bytes, hml, findClass_of_methodNamed B.named, hK, B.returns, B.notSynchronized, (name_of_methodNamed B.named B.method).1, h6⟩ hw (fun q hq => nomatch hq) ⟨hl.1, hl.2.1, fun i v hi => by
      have h9 := hl.2.2 _ (gv_ent_args (z := G.2.1) args 0 i v (hls i v hi))
      rwa [Nat.zero_add] at h9⟩
    rw [Nat.sub_self, Nat.sub_self] at k2
    exact k2 s₁ hh0 X₀
  refine ⟨k.1, ?_⟩
  match r, hr, body with
  | .inl v, _, body =>
    refine MetFree.of_bodyS (code := M.2.1) (maxLocals := M.2.2.1) (ret := M.2.2.2.1) hp (his _) ?_
    intro p e s m args9 below meth c s₁ B hml hv _
    obtain ⟨t, a1, o, b1, b2, b3⟩ := body p e s m args9 below meth c s₁ B hml hv
    exact ⟨t, o, a1, b1, b2, b3.1, b3.2⟩
  | .inr (.inl E), _, body =>
    refine MetFree.of_bodyS (code := M.2.1) (maxLocals := M.2.2.1) (ret := M.2.2.2.1) hp (his _) ?_
    intro p e s m args9 below meth c s₁ B hml hv _
    obtain ⟨t, a1, q, b1, b2, b3⟩ := body p e s m args9 below meth c s₁ B hml hv
    exact ⟨t, .threw q, a1, b1, b2, q, rfl, b3⟩
  | .inr (.inr (some v)), _, body =>
    refine MetFree.of_bodyS (code := M.2.1) (maxLocals := M.2.2.1) (ret := M.2.2.2.1) hp (his _) ?_
    intro p e s m args9 below meth c s₁ B hml hv _
    obtain ⟨t, a1, o, b1, b2, b3⟩ := body p e s m args9 below meth c s₁ B hml hv
    exact ⟨t, o, a1, b1, b2, b3.1, b3.2⟩
  | .inr (.inr none), hr, _ => exact absurd rfl hr
/-- a method's words -/
def gv_mok (M : gv_M) : Bool := gv_tw M.2.2.2.2.2.1 (gv_cwd M) && gv_tw M.2.2.2.2.2.2.1 (.initialized M.1.cls) && decide (M.1.cls ≠ "java/lang/invoke/MethodHandle" ∧ M.1.cls ≠ "java/lang/invoke/VarHandle" ∧ (parseMethodDescriptor M.1.desc).map (fun d => d.parameters.length) = some M.2.2.2.2.2.2.2.2.2.1 ∧ M.2.2.1 ≤ 40)
def gv_msI (M : gv_M) : Bool := gv_mok M && gv_tw M.2.2.2.2.2.2.2.1 (.instanceMethod M.1) && decide (M.2.2.2.1 = none ∧ M.1.name = "<init>" ∧ M.2.2.2.2.2.2.2.2.2.2 = [])
def gv_msV (M : gv_M) : Bool := gv_mok M && gv_tw M.2.2.2.2.2.2.2.1 (.instanceMethod M.1) && gv_tw M.2.2.2.2.2.2.2.2.1 (.selects M.1.cls M.1 M.1) && decide (M.2.2.2.2.2.2.2.2.2.2 = [])
def gv_msS (M : gv_M) : Bool := gv_mok M && gv_tw M.2.2.2.2.2.2.2.1 (.static M.1)
theorem gv_cwd0 {M : gv_M} (h : M.2.2.2.2.2.2.2.2.2.2 = []) : gv_cwd M = .code M.1 M.2.1 M.2.2.1 M.2.2.2.1 := by
  unfold gv_cwd
  rw [h]
def gv_lnk (own : String) (x : Nat) (a wp : Nat) (y : MethodName) : Bool := match a with
  | 0 => gv_tw wp (.methodLink own x y)
  | _ => gv_tw wp (.methodLinkNest own x y gv_host)
theorem gv_backQ {p : Program} {e : Env} {below : List Frame} {s : State} {args9 : Array Value} {Qc : Array Value → State → Outcome → State → Prop} {mc ms : Nat} (hM : gv_mok M = true) (hK : gv_K G s) (hE : Met G.1 M.1 [gv_cwd M] (gv_room d (h1.2.1.1 - h.2.1.1) (h1.2.1.2 - h.2.1.2)) (gv_Pc G args h) Qc (h1.2.1.1 - h.2.1.1) (h1.2.1.2 - h.2.1.2) (gv_fr G)) :
    Back G.1 (gv_room (d + 1) mc ms) p e below s args9 M.1 3 8 (PreOf (gv_room (d + 1) mc ms) (h1.2.1.1 - h.2.1.1) (h1.2.1.2 - h.2.1.2) (gv_Pc G args h)) (PostOf Qc (h1.2.1.1 - h.2.1.1) (h1.2.1.2 - h.2.1.2) (gv_fr G)) := by
  unfold gv_mok at hM
  rw [Bool.and_eq_true, Bool.and_eq_true, decide_eq_true_eq] at hM
  obtain ⟨⟨m1, m2⟩, m3, m4, m5, m6⟩ := hM
  have hfr : d + 8 + 1 ≤ d + 1 + 8 := by omega
  have hlo : 8 + (M.2.2.1 + 11) + (64 * d + 200) ≤ 64 * (d + 1) + 200 := by omega
  have hws : ∀ w ∈ [gv_cwd M], ∀ (a' : Array Value) (U : State), s.WarmedH U.vm → w.before a' U = true := by
    intro w hw a' U hW
    rw [List.mem_singleton.mp hw]
    exact gv_tw_use (hK.moved hW) m1 a'
  have hin : ∀ (a' : Array Value) (U : State), s.WarmedH U.vm → (Jvm.Cond.initialized M.1.cls).before a' U = true := fun a' U hW => gv_tw_use (hK.moved hW) m2 a'
  match e9 : M.2.2.2.2.2.2.2.2.2.2 with
  | [] => exact back_of (bytes := M.2.1) (maxL := M.2.2.1) (ret := M.2.2.2.1) hE gv_blind rfl rfl hfr hlo hws (by rw [gv_cwd0 e9]; exact List.mem_cons_self) hin
  | q :: l => exact va_backW (hh := q :: l) (bytes := M.2.1) (maxL := M.2.2.1) (ret := M.2.2.2.1) hE gv_blind rfl rfl hfr hlo hws (by unfold gv_cwd; rw [e9]; exact List.mem_cons_self) hin
theorem gv_back {p : Program} {e : Env} {below : List Frame} {s : State} {args9 : Array Value} {v : Option gv_V} {mc ms : Nat} (hM : gv_mok M = true) (hK : gv_K G s) (hE : gv_ev G d M args h (.inl v) h1) :
    Back G.1 (gv_room (d + 1) mc ms) p e below s args9 M.1 3 8 (PreOf (gv_room (d + 1) mc ms) (h1.2.1.1 - h.2.1.1) (h1.2.1.2 - h.2.1.2) (gv_Pc G args h)) (PostOf (gv_Qv G v h1) (h1.2.1.1 - h.2.1.1) (h1.2.1.2 - h.2.1.2) (gv_fr G)) := gv_backQ hM hK hE.2
/-- behind the call -/
theorem gv_afterQ {p : Program} {e : Env} {s : State} {m : MethodId} {args9 : Array Value} {below : List Frame} {meth : Method} {c : Code} {T : State} {locs : List Loc} {cells slots mc ms : Nat} {R : Room} {Q : State → Prop} {v : Option gv_V} {Qc : Array Value → State → Outcome → State → Prop} {A : Array Slot} {aa : Array Value} {st0 : List Value}
    (XX : Stand p G.1 e R s m args9 below meth c T locs cells slots) (hr : ∃ (w : Option Value) (vm₁ : Vm) (B : Pt), s.WarmedH vm₁ ∧ Stand p G.1 e R s m args9 below meth c B.U B.locs B.cells B.slots ∧ PostOf Qc mc ms (gv_fr G) ⟨T.setVm vm₁, locs, cells, slots⟩ aa w B ∧
      ∀ target, Steps p.tables e below (B.U.setTop { (F0 m pc A st0) with pc := (F0 m pc A st0).pc + 3, stack := w.toList ++ st.map (gv_v G.2.1) }) target → Steps p.tables e below (T.setTop (F0 m pc A st0)) target)
    (hl : ∀ q ∈ locs, gv_fr G q.base) {Ok : Heap → Prop} (hQ : ∀ (a : Array Value) (st t : State) (w : Option Value), Qc a st (.returned w) t → w = v.map (gv_v G.2.1) ∧ Ok t.heap)
    (kk : ∀ (H1 : Heap) (locs1 : List Loc), Ok H1 → (∀ q ∈ locs1, gv_fr G q.base) → W p G.1 e R s m args9 below meth c H1 locs1 (cells + mc) (slots + ms) Q (F0 m (pc + 3) A ((v.toList ++ st).map (gv_v G.2.1)))) :
    ∃ t, Steps p.tables e below (T.setTop (F0 m pc A st0)) t ∧ Q t := by
  obtain ⟨w, vm₁, ⟨U', l2, c2, s2⟩, hW₁, X', ⟨g', mk, t, L, e1, e2, hq, h1', hL, h2, h3⟩, st9⟩ := hr
  dsimp only [Pt.U, Pt.locs, Pt.cells, Pt.slots] at X' e1 e2 h1' h2 h3 st9
  subst h1'; subst h2; subst h3
  obtain ⟨hv2, hw⟩ := hQ _ _ _ _ hq
  obtain ⟨t2, a1, b1⟩ := kk U'.heap (locs ++ L) (by rw [e1]; exact hw) (fun q hq => (List.mem_append.mp hq).elim (hl q) (hL q)) U' rfl X'
  refine ⟨t2, st9 t2 ?_, b1⟩
  have e9 : w.toList ++ st.map (gv_v G.2.1) = (v.toList ++ st).map (gv_v G.2.1) := by
    rw [hv2]; cases v <;> rfl
  rw [e9]
  exact a1
theorem gv_after {p : Program} {e : Env} {s : State} {m : MethodId} {args9 : Array Value} {below : List Frame} {meth : Method} {c : Code} {T : State} {locs : List Loc} {cells slots mc ms : Nat} {R : Room} {Q : State → Prop} {v : Option gv_V} {A : Array Slot} {aa : Array Value} {st0 : List Value}
    (XX : Stand p G.1 e R s m args9 below meth c T locs cells slots) (hr : ∃ (w : Option Value) (vm₁ : Vm) (B : Pt), s.WarmedH vm₁ ∧ Stand p G.1 e R s m args9 below meth c B.U B.locs B.cells B.slots ∧ PostOf (gv_Qv G v h1) mc ms (gv_fr G) ⟨T.setVm vm₁, locs, cells, slots⟩ aa w B ∧
      ∀ target, Steps p.tables e below (B.U.setTop { (F0 m pc A st0) with pc := (F0 m pc A st0).pc + 3, stack := w.toList ++ st.map (gv_v G.2.1) }) target → Steps p.tables e below (T.setTop (F0 m pc A st0)) target)
    (hl : ∀ q ∈ locs, gv_fr G q.base)
    (kk : ∀ (H1 : Heap) (locs1 : List Loc), gv_w G h1 H1 → (∀ q ∈ locs1, gv_fr G q.base) → W p G.1 e R s m args9 below meth c H1 locs1 (cells + mc) (slots + ms) Q (F0 m (pc + 3) A ((v.toList ++ st).map (gv_v G.2.1)))) :
    ∃ t, Steps p.tables e below (T.setTop (F0 m pc A st0)) t ∧ Q t :=
  gv_afterQ XX hr hl (Ok := gv_w G h1) (fun _ _ _ w hq => ⟨by have h9 := hq.1; cases h9; rfl, hq.2⟩) kk
theorem gv_callS {v : Option gv_V} {x a wp : Nat} (hM : gv_mok M = true) (hs : gv_tw M.2.2.2.2.2.2.2.1 (.static M.1) = true) (hlk : gv_lnk y.1.cls x a wp M.1 = true) (hd : decode y.2.1 pc = .ok (.invokestatic x, 3)) (hn : args.length = M.2.2.2.2.2.2.2.2.2.1) (hcat : gv_cs st ≤ 8)
    (hE : gv_ev G d M args h (.inl v) h1) (k : gv_go G y (d + 1) r hf (pc + 3) ls (v.toList ++ st) h1) : gv_go G y (d + 1) r hf pc ls (args.reverse ++ st) h := by
  have hE1 := hE.1
  have hk1 := k.1
  refine ⟨⟨by omega, by omega⟩, fun h0 p e s m args9 below meth c H locs A q1 q2 X hw hl hA => ?_⟩
  have hK := X.2.2.2.2.1
  have hB := gv_back (p := p) (e := e) (below := below) (args9 := args9) (mc := hf.2.1.1 - h0.2.1.1) (ms := hf.2.1.2 - h0.2.1.2) hM hK hE
  have hM9 := hM
  unfold gv_mok at hM9
  rw [Bool.and_eq_true, Bool.and_eq_true, decide_eq_true_eq] at hM9
  obtain ⟨⟨m1, m2⟩, m3, m4, m5, m6⟩ := hM9
  intro T hT XX
  refine gv_after (mc := h1.2.1.1 - h.2.1.1) (ms := h1.2.1.2 - h.2.1.2) (aa := (args.map (gv_v G.2.1)).toArray) (h1 := h1) (v := v) (st := st) XX ?_ hl (fun H1 locs1 hw1 hl1 => ?_)
  · have hlen : ∀ sig, parseMethodDescriptor M.1.desc = some sig → (args.map (gv_v G.2.1)).length = sig.parameters.length := by
      intro sig hsig
      rw [hsig] at m5
      rw [List.length_map, hn]
      exact (Option.some.inj m5).symm
    have hstack : (F0 m pc A ((args.reverse ++ st).map (gv_v G.2.1))).stack = (args.map (gv_v G.2.1)).reverse ++ st.map (gv_v G.2.1) := by
      show (args.reverse ++ st).map (gv_v G.2.1) = _
      rw [List.map_append, List.map_reverse]
    have hW9 : 2 * (F0 m pc A ((args.reverse ++ st).map (gv_v G.2.1))).monitorRoom + ((st.map (gv_v G.2.1)).map fun v => v.category).sum ≤ 8 := lv_room (by rw [gv_cs_sum]; exact hcat)
    have hpre : ∀ vm₁, s.WarmedH vm₁ → PreOf (gv_room (d + 1) (hf.2.1.1 - h0.2.1.1) (hf.2.1.2 - h0.2.1.2)) (h1.2.1.1 - h.2.1.1) (h1.2.1.2 - h.2.1.2) (gv_Pc G args h) ⟨T.setVm vm₁, locs, h.2.1.1 - h0.2.1.1, h.2.1.2 - h0.2.1.2⟩ (args.map (gv_v G.2.1)).toArray :=
      fun vm₁ hW => ⟨by show h.2.1.1 - h0.2.1.1 + (h1.2.1.1 - h.2.1.1) ≤ hf.2.1.1 - h0.2.1.1; omega, by show h.2.1.2 - h0.2.1.2 + (h1.2.1.2 - h.2.1.2) ≤ hf.2.1.2 - h0.2.1.2; omega, rfl, hK.moved (U := T.setVm vm₁) hW, by show gv_w G h T.heap; rw [hT]; exact hw⟩
    obtain ⟨mk, methM, cM, hnamed, hmethM, -, -, -, -, -, -, hsigM⟩ := gv_cwd_spec (gv_tw_use hK m1 args9)
    have hstatic : methM.isStatic = true := Cond.static_spec hnamed hmethM (gv_tw_use hK hs args9)
    obtain ⟨kP, hkP, -⟩ := className_of_methodNamed hnamed
    have hinitP : kP.init = .initialized := Cond.initialized_spec (findClass_of_methodNamed hnamed) hkP (gv_tw_use hK m2 args9)
    have hdg : decode c.code (F0 m pc A ((args.reverse ++ st).map (gv_v G.2.1))).pc = .ok (.invokestatic x, 3) := by rw [X.2.1]; exact hd
    have hsz : (F0 m pc A ((args.reverse ++ st).map (gv_v G.2.1))).locals.size = c.maxLocals := hA.1.trans X.2.2.1.symm
    match a, hlk with
    | 0, hlk =>
      obtain ⟨vm₁, X₁, hstep₁⟩ := XX.invokestatic X.1 X.2.2.2.1 (gv_tw_use hK hlk args9) hnamed hmethM hstatic hkP hinitP ⟨m3, m4⟩ (g := F0 m pc A ((args.reverse ++ st).map (gv_v G.2.1))) rfl (hlen _ hsigM) hstack hdg
      obtain ⟨v, B, X', hpost, hsteps⟩ := hB m meth c ⟨T.setVm vm₁, locs, _, _⟩ { (F0 m pc A ((args.reverse ++ st).map (gv_v G.2.1))) with stack := st.map (gv_v G.2.1) } (.invokestatic x) mk (args.map (gv_v G.2.1)).toArray X₁ rfl hsz hdg hW9 (X₁.named hnamed) (hpre vm₁ X₁.warmed)
      exact ⟨v, vm₁, B, X₁.warmed, X', hpost, fun target h => hstep₁ _ fun acts => by rw [doInvoke_state]; exact hsteps.trans h⟩
    | a + 1, hlk =>
      obtain ⟨vm₁, X₁, hstep₁⟩ := XX.invokestaticNest X.1 X.2.2.2.1 (gv_tw_use hK hlk args9) hnamed hmethM hstatic hkP hinitP ⟨m3, m4⟩ (g := F0 m pc A ((args.reverse ++ st).map (gv_v G.2.1))) rfl (hlen _ hsigM) hstack hdg
      obtain ⟨v, B, X', hpost, hsteps⟩ := hB m meth c ⟨T.setVm vm₁, locs, _, _⟩ { (F0 m pc A ((args.reverse ++ st).map (gv_v G.2.1))) with stack := st.map (gv_v G.2.1) } (.invokestatic x) mk (args.map (gv_v G.2.1)).toArray X₁ rfl hsz hdg hW9 (X₁.named hnamed) (hpre vm₁ X₁.warmed)
      exact ⟨v, vm₁, B, X₁.warmed, X', hpost, fun target h => hstep₁ _ fun acts => by rw [doInvoke_state]; exact hsteps.trans h⟩
  · have k2 := k.2 h0 p e s m args9 below meth c H1 locs1 A (by omega) (by omega) X hw1 hl1 hA
    rw [show h.2.1.1 - h0.2.1.1 + (h1.2.1.1 - h.2.1.1) = h1.2.1.1 - h0.2.1.1 by omega, show h.2.1.2 - h0.2.1.2 + (h1.2.1.2 - h.2.1.2) = h1.2.1.2 - h0.2.1.2 by omega]
    exact k2
theorem gv_callSL {v : Option gv_V} {x a wp : Nat} (hM : gv_mok M = true) (hs : gv_tw M.2.2.2.2.2.2.2.1 (.static M.1) = true) (hlk : gv_lnk y.1.cls x a wp M.1 = true) (hd : decode y.2.1 pc = .ok (.invokestatic x, 3)) (hn : args.length = M.2.2.2.2.2.2.2.2.2.1) (hcat : gv_cs st ≤ 8)
    (hE : gv_ev G d M args h (.inr (.inr (some v))) h1) (k : ∀ δ : Nat, gv_go G y (d + 1) r hf (pc + 3) ls (v.toList ++ st) (h1.1 + δ, h1.2)) : gv_go G y (d + 1) r hf pc ls (args.reverse ++ st) h := by
  have hE1 := hE.1
  have hk1 : h1.2.1.1 ≤ hf.2.1.1 ∧ h1.2.1.2 ≤ hf.2.1.2 := (k 0).1
  refine ⟨⟨by omega, by omega⟩, fun h0 p e s m args9 below meth c H locs A q1 q2 X hw hl hA => ?_⟩
  have hK := X.2.2.2.2.1
  have hB := gv_backQ (p := p) (e := e) (below := below) (args9 := args9) (mc := hf.2.1.1 - h0.2.1.1) (ms := hf.2.1.2 - h0.2.1.2) hM hK hE.2
  have hM9 := hM
  unfold gv_mok at hM9
  rw [Bool.and_eq_true, Bool.and_eq_true, decide_eq_true_eq] at hM9
  obtain ⟨⟨m1, m2⟩, m3, m4, m5, m6⟩ := hM9
  intro T hT XX
  refine gv_afterQ (mc := h1.2.1.1 - h.2.1.1) (ms := h1.2.1.2 - h.2.1.2) (aa := (args.map (gv_v G.2.1)).toArray) (Qc := gv_Ql G v h1) (v := v) (st := st) XX ?_ hl (Ok := fun H1 => ∃ δ : Nat, gv_w G (h1.1 + δ, h1.2) H1) (fun _ _ _ w hq => ⟨by have h9 := hq.1; cases h9; rfl, hq.2⟩) (fun H1 locs1 hw1 hl1 => ?_)
  · have hlen : ∀ sig, parseMethodDescriptor M.1.desc = some sig → (args.map (gv_v G.2.1)).length = sig.parameters.length := by
      intro sig hsig
      rw [hsig] at m5
      rw [List.length_map, hn]
      exact (Option.some.inj m5).symm
    have hstack : (F0 m pc A ((args.reverse ++ st).map (gv_v G.2.1))).stack = (args.map (gv_v G.2.1)).reverse ++ st.map (gv_v G.2.1) := by
      show (args.reverse ++ st).map (gv_v G.2.1) = _
      rw [List.map_append, List.map_reverse]
    have hW9 : 2 * (F0 m pc A ((args.reverse ++ st).map (gv_v G.2.1))).monitorRoom + ((st.map (gv_v G.2.1)).map fun v => v.category).sum ≤ 8 := lv_room (by rw [gv_cs_sum]; exact hcat)
    have hpre : ∀ vm₁, s.WarmedH vm₁ → PreOf (gv_room (d + 1) (hf.2.1.1 - h0.2.1.1) (hf.2.1.2 - h0.2.1.2)) (h1.2.1.1 - h.2.1.1) (h1.2.1.2 - h.2.1.2) (gv_Pc G args h) ⟨T.setVm vm₁, locs, h.2.1.1 - h0.2.1.1, h.2.1.2 - h0.2.1.2⟩ (args.map (gv_v G.2.1)).toArray :=
      fun vm₁ hW => ⟨by show h.2.1.1 - h0.2.1.1 + (h1.2.1.1 - h.2.1.1) ≤ hf.2.1.1 - h0.2.1.1; omega, by show h.2.1.2 - h0.2.1.2 + (h1.2.1.2 - h.2.1.2) ≤ hf.2.1.2 - h0.2.1.2; omega, rfl, hK.moved (U := T.setVm vm₁) hW, by show gv_w G h T.heap; rw [hT]; exact hw⟩
    obtain ⟨mk, methM, cM, hnamed, hmethM, -, -, -, -, -, -, hsigM⟩ := gv_cwd_spec (gv_tw_use hK m1 args9)
    have hstatic : methM.isStatic = true := Cond.static_spec hnamed hmethM (gv_tw_use hK hs args9)
    obtain ⟨kP, hkP, -⟩ := className_of_methodNamed hnamed
    have hinitP : kP.init = .initialized := Cond.initialized_spec (findClass_of_methodNamed hnamed) hkP (gv_tw_use hK m2 args9)
    have hdg : decode c.code (F0 m pc A ((args.reverse ++ st).map (gv_v G.2.1))).pc = .ok (.invokestatic x, 3) := by rw [X.2.1]; exact hd
    have hsz : (F0 m pc A ((args.reverse ++ st).map (gv_v G.2.1))).locals.size = c.maxLocals := hA.1.trans X.2.2.1.symm
    match a, hlk with
    | 0, hlk =>
      obtain ⟨vm₁, X₁, hstep₁⟩ := XX.invokestatic X.1 X.2.2.2.1 (gv_tw_use hK hlk args9) hnamed hmethM hstatic hkP hinitP ⟨m3, m4⟩ (g := F0 m pc A ((args.reverse ++ st).map (gv_v G.2.1))) rfl (hlen _ hsigM) hstack hdg
      obtain ⟨v, B, X', hpost, hsteps⟩ := hB m meth c ⟨T.setVm vm₁, locs, _, _⟩ { (F0 m pc A ((args.reverse ++ st).map (gv_v G.2.1))) with stack := st.map (gv_v G.2.1) } (.invokestatic x) mk (args.map (gv_v G.2.1)).toArray X₁ rfl hsz hdg hW9 (X₁.named hnamed) (hpre vm₁ X₁.warmed)
      exact ⟨v, vm₁, B, X₁.warmed, X', hpost, fun target h => hstep₁ _ fun acts => by rw [doInvoke_state]; exact hsteps.trans h⟩
    | a + 1, hlk =>
      obtain ⟨vm₁, X₁, hstep₁⟩ := XX.invokestaticNest X.1 X.2.2.2.1 (gv_tw_use hK hlk args9) hnamed hmethM hstatic hkP hinitP ⟨m3, m4⟩ (g := F0 m pc A ((args.reverse ++ st).map (gv_v G.2.1))) rfl (hlen _ hsigM) hstack hdg
      obtain ⟨v, B, X', hpost, hsteps⟩ := hB m meth c ⟨T.setVm vm₁, locs, _, _⟩ { (F0 m pc A ((args.reverse ++ st).map (gv_v G.2.1))) with stack := st.map (gv_v G.2.1) } (.invokestatic x) mk (args.map (gv_v G.2.1)).toArray X₁ rfl hsz hdg hW9 (X₁.named hnamed) (hpre vm₁ X₁.warmed)
      exact ⟨v, vm₁, B, X₁.warmed, X', hpost, fun target h => hstep₁ _ fun acts => by rw [doInvoke_state]; exact hsteps.trans h⟩
  · obtain ⟨δ, hw1⟩ := hw1
    have k2 := (k δ).2 h0 p e s m args9 below meth c H1 locs1 A (by show h0.2.1.1 ≤ h1.2.1.1; omega) (by show h0.2.1.2 ≤ h1.2.1.2; omega) X hw1 hl1 hA
    rw [show h.2.1.1 - h0.2.1.1 + (h1.2.1.1 - h.2.1.1) = h1.2.1.1 - h0.2.1.1 by omega, show h.2.1.2 - h0.2.1.2 + (h1.2.1.2 - h.2.1.2) = h1.2.1.2 - h0.2.1.2 by omega]
    exact k2
theorem gv_callI {x a wp b : Nat} (hM : gv_mok M = true) (hh0 : M.2.2.2.2.2.2.2.2.2.2 = []) (hret : M.2.2.2.1 = none) (hnm : M.1.name = "<init>") (hs : gv_tw M.2.2.2.2.2.2.2.1 (.instanceMethod M.1) = true) (hlk : gv_lnk y.1.cls x a wp M.1 = true) (hd : decode y.2.1 pc = .ok (.invokespecial x, 3)) (hn : args.length = M.2.2.2.2.2.2.2.2.2.1) (hcat : gv_cs st ≤ 8)
    (hE : gv_ev G d M (gR b :: args) h (.inl none) h1) (k : gv_go G y (d + 1) r hf (pc + 3) ls st h1) : gv_go G y (d + 1) r hf pc ls (args.reverse ++ gR b :: st) h := by
  have hE1 := hE.1
  have hk1 := k.1
  refine ⟨⟨by omega, by omega⟩, fun h0 p e s m args9 below meth c H locs A q1 q2 X hw hl hA => ?_⟩
  have hK := X.2.2.2.2.1
  have hB := gv_back (p := p) (e := e) (below := below) (args9 := args9) (mc := hf.2.1.1 - h0.2.1.1) (ms := hf.2.1.2 - h0.2.1.2) hM hK hE
  have hM9 := hM
  unfold gv_mok at hM9
  rw [Bool.and_eq_true, Bool.and_eq_true, decide_eq_true_eq] at hM9
  obtain ⟨⟨m1, m2⟩, m3, m4, m5, m6⟩ := hM9
  intro T hT XX
  refine gv_after (mc := h1.2.1.1 - h.2.1.1) (ms := h1.2.1.2 - h.2.1.2) (aa := (Value.ref (G.2.1 b) :: args.map (gv_v G.2.1)).toArray) (h1 := h1) (v := none) (st := st) XX ?_ hl (fun H1 locs1 hw1 hl1 => ?_)
  · have hlen : ∀ sig, parseMethodDescriptor M.1.desc = some sig → (args.map (gv_v G.2.1)).length = sig.parameters.length := by
      intro sig hsig
      rw [hsig] at m5
      rw [List.length_map, hn]
      exact (Option.some.inj m5).symm
    have hstack : (F0 m pc A ((args.reverse ++ gR b :: st).map (gv_v G.2.1))).stack = (args.map (gv_v G.2.1)).reverse ++ .ref (G.2.1 b) :: st.map (gv_v G.2.1) := by
      show (args.reverse ++ gR b :: st).map (gv_v G.2.1) = _
      rw [List.map_append, List.map_reverse]
      rfl
    have hW9 : 2 * (F0 m pc A ((args.reverse ++ gR b :: st).map (gv_v G.2.1))).monitorRoom + ((st.map (gv_v G.2.1)).map fun v => v.category).sum ≤ 8 := lv_room (by rw [gv_cs_sum]; exact hcat)
    have hpre : ∀ vm₁, s.WarmedH vm₁ → PreOf (gv_room (d + 1) (hf.2.1.1 - h0.2.1.1) (hf.2.1.2 - h0.2.1.2)) (h1.2.1.1 - h.2.1.1) (h1.2.1.2 - h.2.1.2) (gv_Pc G (gR b :: args) h) ⟨T.setVm vm₁, locs, h.2.1.1 - h0.2.1.1, h.2.1.2 - h0.2.1.2⟩ (Value.ref (G.2.1 b) :: args.map (gv_v G.2.1)).toArray :=
      fun vm₁ hW => ⟨by show h.2.1.1 - h0.2.1.1 + (h1.2.1.1 - h.2.1.1) ≤ hf.2.1.1 - h0.2.1.1; omega, by show h.2.1.2 - h0.2.1.2 + (h1.2.1.2 - h.2.1.2) ≤ hf.2.1.2 - h0.2.1.2; omega, rfl, hK.moved (U := T.setVm vm₁) hW, by show gv_w G h T.heap; rw [hT]; exact hw⟩
    rw [gv_cwd0 hh0, hret] at m1
    match a, hlk with
    | 0, hlk => exact callI XX X.1 (own := y.1.cls) (index := x) (y := M.1) (bytes := M.2.1) (maxL := M.2.2.1) X.2.2.2.1 hnm (gv_tw_use hK hlk args9) (gv_tw_use hK hs args9) (gv_tw_use hK m1 args9) ⟨m3, m4⟩ hB rfl (hA.1.trans X.2.2.1.symm) hlen hstack hW9 (by rw [X.2.1]; exact hd) hpre
    | a + 1, hlk => exact va_callIN XX X.1 (own := y.1.cls) (index := x) (host := gv_host) (y := M.1) (bytes := M.2.1) (maxL := M.2.2.1) X.2.2.2.1 hnm (gv_tw_use hK hlk args9) (gv_tw_use hK hs args9) (gv_tw_use hK m1 args9) ⟨m3, m4⟩ hB rfl (hA.1.trans X.2.2.1.symm) hlen hstack hW9 (by rw [X.2.1]; exact hd) hpre
  · have k2 := k.2 h0 p e s m args9 below meth c H1 locs1 A (by omega) (by omega) X hw1 hl1 hA
    rw [show h.2.1.1 - h0.2.1.1 + (h1.2.1.1 - h.2.1.1) = h1.2.1.1 - h0.2.1.1 by omega, show h.2.1.2 - h0.2.1.2 + (h1.2.1.2 - h.2.1.2) = h1.2.1.2 - h0.2.1.2 by omega]
    exact k2
theorem gv_callV {v : Option gv_V} {x a wp b ci : Nat} {rr : vw_C} {fs : List gv_V} (hM : gv_mok M = true) (hh0 : M.2.2.2.2.2.2.2.2.2.2 = []) (hs : gv_tw M.2.2.2.2.2.2.2.1 (.instanceMethod M.1) = true) (hse : gv_tw M.2.2.2.2.2.2.2.2.1 (.selects M.1.cls M.1 M.1) = true) (hlk : gv_lnk y.1.cls x a wp M.1 = true) (hd : decode y.2.1 pc = .ok (.invokevirtual x, 3)) (hn : args.length = M.2.2.2.2.2.2.2.2.2.1) (hcat : gv_cs st ≤ 8)
    (hb : h.2.2 b = some (Sum.inr (ci, fs))) (hci : gv_cl[ci]? = some rr) (hrr : rr.1 = M.1.cls)
    (hE : gv_ev G d M (gR b :: args) h (.inl v) h1) (k : gv_go G y (d + 1) r hf (pc + 3) ls (v.toList ++ st) h1) : gv_go G y (d + 1) r hf pc ls (args.reverse ++ gR b :: st) h := by
  have hE1 := hE.1
  have hk1 := k.1
  refine ⟨⟨by omega, by omega⟩, fun h0 p e s m args9 below meth c H locs A q1 q2 X hw hl hA => ?_⟩
  have hK := X.2.2.2.2.1
  have hB := gv_back (p := p) (e := e) (below := below) (args9 := args9) (mc := hf.2.1.1 - h0.2.1.1) (ms := hf.2.1.2 - h0.2.1.2) hM hK hE
  have hM9 := hM
  unfold gv_mok at hM9
  rw [Bool.and_eq_true, Bool.and_eq_true, decide_eq_true_eq] at hM9
  obtain ⟨⟨m1, m2⟩, m3, m4, m5, m6⟩ := hM9
  obtain ⟨cellB, c1, c2, c3⟩ := va_recv hK.2.1 (gv_one hw hb) hci (q0 := 0) rfl
  rw [hrr] at c3
  intro T hT XX
  refine gv_after (mc := h1.2.1.1 - h.2.1.1) (ms := h1.2.1.2 - h.2.1.2) (aa := (Value.ref (G.2.1 b) :: args.map (gv_v G.2.1)).toArray) (h1 := h1) (v := v) (st := st) XX ?_ hl (fun H1 locs1 hw1 hl1 => ?_)
  · have hlen : ∀ sig, parseMethodDescriptor M.1.desc = some sig → (args.map (gv_v G.2.1)).length = sig.parameters.length := by
      intro sig hsig
      rw [hsig] at m5
      rw [List.length_map, hn]
      exact (Option.some.inj m5).symm
    have hstack : (F0 m pc A ((args.reverse ++ gR b :: st).map (gv_v G.2.1))).stack = (args.map (gv_v G.2.1)).reverse ++ .ref (G.2.1 b) :: st.map (gv_v G.2.1) := by
      show (args.reverse ++ gR b :: st).map (gv_v G.2.1) = _
      rw [List.map_append, List.map_reverse]
      rfl
    have hW9 : 2 * (F0 m pc A ((args.reverse ++ gR b :: st).map (gv_v G.2.1))).monitorRoom + ((st.map (gv_v G.2.1)).map fun v => v.category).sum ≤ 8 := lv_room (by rw [gv_cs_sum]; exact hcat)
    have hpre : ∀ vm₁, s.WarmedH vm₁ → PreOf (gv_room (d + 1) (hf.2.1.1 - h0.2.1.1) (hf.2.1.2 - h0.2.1.2)) (h1.2.1.1 - h.2.1.1) (h1.2.1.2 - h.2.1.2) (gv_Pc G (gR b :: args) h) ⟨T.setVm vm₁, locs, h.2.1.1 - h0.2.1.1, h.2.1.2 - h0.2.1.2⟩ (Value.ref (G.2.1 b) :: args.map (gv_v G.2.1)).toArray :=
      fun vm₁ hW => ⟨by show h.2.1.1 - h0.2.1.1 + (h1.2.1.1 - h.2.1.1) ≤ hf.2.1.1 - h0.2.1.1; omega, by show h.2.1.2 - h0.2.1.2 + (h1.2.1.2 - h.2.1.2) ≤ hf.2.1.2 - h0.2.1.2; omega, rfl, hK.moved (U := T.setVm vm₁) hW, by show gv_w G h T.heap; rw [hT]; exact hw⟩
    rw [gv_cwd0 hh0] at m1
    have hcB : T.heap[G.2.1 b]? = some cellB := by rw [hT]; exact c1
    match a, hlk with
    | 0, hlk => exact callV XX X.1 (own := y.1.cls) (C := M.1.cls) (index := x) (y := M.1) (bytes := M.2.1) (maxL := M.2.2.1) (ret := M.2.2.2.1) X.2.2.2.1 (gv_tw_use hK hlk args9) (gv_tw_use hK hs args9) (gv_tw_use hK hse args9) (gv_tw_use hK m1 args9) ⟨m3, m4⟩ hB hcB c2 c3 rfl (hA.1.trans X.2.2.1.symm) hlen hstack hW9 (by rw [X.2.1]; exact hd) hpre
    | a + 1, hlk => exact va_callVN XX X.1 (own := y.1.cls) (C := M.1.cls) (index := x) (host := gv_host) (y := M.1) (bytes := M.2.1) (maxL := M.2.2.1) (ret := M.2.2.2.1) X.2.2.2.1 (gv_tw_use hK hlk args9) (gv_tw_use hK hs args9) (gv_tw_use hK hse args9) (gv_tw_use hK m1 args9) ⟨m3, m4⟩ hB hcB c2 c3 rfl (hA.1.trans X.2.2.1.symm) hlen hstack hW9 (by rw [X.2.1]; exact hd) hpre
  · have k2 := k.2 h0 p e s m args9 below meth c H1 locs1 A (by omega) (by omega) X hw1 hl1 hA
    rw [show h.2.1.1 - h0.2.1.1 + (h1.2.1.1 - h.2.1.1) = h1.2.1.1 - h0.2.1.1 by omega, show h.2.1.2 - h0.2.1.2 + (h1.2.1.2 - h.2.1.2) = h1.2.1.2 - h0.2.1.2 by omega]
    exact k2
/-- Object.<init> -/
theorem gv_oi {x a wp w1 w2 : Nat} (h1 : gv_tw wp (.methodLink y.1.cls x objectInit) = true) (h2 : gv_tw w1 (.instanceMethod objectInit) = true) (h3 : gv_tw w2 (.code objectInit ⟨#[0xb1]⟩ 1 none) = true) (hd : decode y.2.1 pc = .ok (.invokespecial x, 3)) (hcat : gv_cs st ≤ 100)
    (k : gv_go G y d r hf (pc + 3) ls st h) : gv_go G y d r hf pc ls (gR a :: st) h := by
  refine ⟨k.1, fun h0 p e s m args9 below meth c H locs A q1 q2 X hw hl hA => ?_⟩
  have hK := X.2.2.2.2.1
  refine W.objInit X.1 X.2.1 X.2.2.2.1 (gv_tw_use hK h1 args9) (gv_tw_use hK h2 args9) (gv_tw_use hK h3 args9) rfl (hA.1.trans X.2.2.1.symm) rfl hd (by show 1 ≤ d + 8; omega) ?_ (k.2 h0 p e s m args9 below meth c H locs A q1 q2 X hw hl hA)
  show 2 * 0 + ((st.map (gv_v G.2.1)).map fun v => v.category).sum + 12 ≤ 64 * d + 200
  rw [gv_cs_sum]
  omega
theorem gv_iret {x : Int32} (hr : y.2.2.2.1 = some .int) (hd : decode y.2.1 pc = .ok (.ireturn, 1)) : gv_go G y d (.inl (some (gI x))) h pc ls [gI x] h :=
  ⟨⟨Nat.le_refl _, Nat.le_refl _⟩, fun h0 p e s m args9 below meth c H locs A q1 q2 X hw hl hA => W.iret X.1 X.2.1 (X.2.2.2.2.2.1.trans hr) (fun t ht hW => ⟨rfl, by rw [ht]; exact hw⟩) hl hd X.2.2.2.2.2.2.1⟩
theorem gv_zret {x : Int32} (hr : y.2.2.2.1 = some .boolean) (hx : x = 0 ∨ x = 1) (hd : decode y.2.1 pc = .ok (.ireturn, 1)) : gv_go G y d (.inl (some (gI x))) h pc ls [gI x] h :=
  ⟨⟨Nat.le_refl _, Nat.le_refl _⟩, fun h0 p e s m args9 below meth c H locs A q1 q2 X hw hl hA => W.zret X.1 X.2.1 (X.2.2.2.2.2.1.trans hr) (by rcases hx with q | q <;> subst q <;> rfl) (fun t ht hW => ⟨rfl, by rw [ht]; exact hw⟩) hl hd X.2.2.2.2.2.2.1⟩
/-- an answer behind which more places may be taken -/
theorem gv_loose {r9 : Option gv_V} {n : Nat} (hn : n ≤ hf.1) (k : gv_go G y d (.inl r9) hf pc ls st h) : gv_go G y d (.inr (.inr (some r9))) (n, hf.2) pc ls st h := by
  refine ⟨k.1, fun h0 p e s m args9 below meth c H locs A q1 q2 X hw hl hA => ?_⟩
  intro T hT XX
  obtain ⟨t, a1, o, b1, b2, b3, b4⟩ := k.2 h0 p e s m args9 below meth c H locs A q1 q2 X hw hl hA T hT XX
  refine ⟨t, a1, o, b1, b2, ⟨b3.1, hf.1 - n, ?_⟩, b4⟩
  have e9 : ((n, hf.2).1 + (hf.1 - n), (n, hf.2).2) = hf := by
    show (n + (hf.1 - n), hf.2) = hf
    rw [Nat.add_sub_cancel' hn]
  rw [e9]
  exact b3.2
theorem gv_lret {x : Int64} (hr : y.2.2.2.1 = some .long) (hd : decode y.2.1 pc = .ok (.lreturn, 1)) : gv_go G y d (.inl (some (gL x))) h pc ls [gL x] h :=
  ⟨⟨Nat.le_refl _, Nat.le_refl _⟩, fun h0 p e s m args9 below meth c H locs A q1 q2 X hw hl hA => W.lret X.1 X.2.1 (X.2.2.2.2.2.1.trans hr) (fun t ht hW => ⟨rfl, by rw [ht]; exact hw⟩) hl hd X.2.2.2.2.2.2.1⟩
theorem gv_vret (hr : y.2.2.2.1 = none) (hd : decode y.2.1 pc = .ok (.return_, 1)) : gv_go G y d (.inl none) h pc ls [] h :=
  ⟨⟨Nat.le_refl _, Nat.le_refl _⟩, fun h0 p e s m args9 below meth c H locs A q1 q2 X hw hl hA => W.vret X.1 X.2.1 (X.2.2.2.2.2.1.trans hr) (fun t ht hW => ⟨rfl, by rw [ht]; exact hw⟩) hl hd X.2.2.2.2.2.2.1⟩
end GKA
