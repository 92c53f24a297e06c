/-! gw: exceptions: one that a method throws, one that a caller catches -/
section GWA
theorem gv_Ga.add {G : gv_G} (h : gv_Ga G) {k : Nat} (hk : 1 ≤ k) (n : Nat) : G.2.1 (k + n) = G.2.1 k + n := by
  obtain ⟨j, rfl⟩ : ∃ j, k = j + 1 := ⟨k - 1, by omega⟩
  rw [h.2 j, show j + 1 + n = (j + n) + 1 by omega, h.2 (j + n)]
  omega
/-- more cells behind, the old ones as they were -/
theorem gv_w.more {G : gv_G} {h : gv_H} {H H1 : Heap} {acc : Nat × Nat} (hw : gv_w G h H) (hz : H.size ≤ H1.size) (oq : ∀ q : Nat, q < H.size → H1[q]? = H[q]?) : gv_w G (h.1 + (H1.size - H.size), acc, h.2.2) H1 := by
  obtain ⟨hg, h1, h2, h3⟩ := hw
  have hsz2 : G.2.2.2.2.2.1 ≤ H.size := by rw [h1]; exact hg.1.ge (by have := hg.2; omega)
  refine ⟨⟨hg.1, by show 1 ≤ h.1 + (H1.size - H.size); have := hg.2; omega⟩, ?_, fun q hq => (oq q (by omega)).trans (h2 q hq), fun j x hj => ?_⟩
  · show H1.size = G.2.1 (h.1 + (H1.size - H.size))
    rw [hg.1.add hg.2, ← h1]
    omega
  · obtain ⟨q1, q2⟩ := h3 j x hj
    have hlt : G.2.1 j < H.size := by
      have := hg.1.add (n := h.1 - 1 - (j - 1)) (k := 1) (Nat.le_refl _)
      rw [h1]
      have g0 := hg.1.1
      have g2 := hg.2
      cases j with
      | zero =>
        have := hg.1.ge (k := h.1) (by omega)
        omega
      | succ j =>
        rw [hg.1.2 j]
        obtain ⟨k, hk⟩ : ∃ k, h.1 = k + 1 := ⟨h.1 - 1, by omega⟩
        rw [hk, hg.1.2 k]
        omega
    exact ⟨by show j < h.1 + (H1.size - H.size); omega, q2.kept (oq _ hlt)⟩
variable {p : Program} {l : Launch} {e : Env} {R : Room} {s : State} {m : MethodId} {args9 : Array Value} {below : List Frame} {meth : Method} {c : Code} {T : State} {locs : List Loc} {cells slots : Nat}
/-- the frame as it stands, taken as a method's beginning -/
theorem gx_anew (X : Stand p l e R s m args9 below meth c T locs cells slots) {k n : Nat} (hc : cells + k ≤ R.cells) (hs : slots + n ≤ R.slots) :
    Stand p l e { frames := R.frames, locals := R.locals, cells := k, slots := n } ((T.setVm s.vm).setFrames (.invoking m args9 :: below)) m args9 below meth c T [] 0 0 := by
  have htop : (T.setVm s.vm).topJava?.isSome := X.here.top
  have hF : ((T.setVm s.vm).setFrames (.invoking m args9 :: below)).frames = .invoking m args9 :: below := State.frames_setFrames _ (State.cur_lt_of_top htop)
  obtain ⟨g₀, hg0⟩ := Option.isSome_iff_exists.mp htop
  obtain ⟨r, hr⟩ := State.topJava?_eq_some.mp hg0
  have hl9 : e.platform.stackLimits (T.setVm s.vm).me = e.platform.stackLimits s.me := X.limits
  have hb9 : (T.setVm s.vm).me.stackBytes = s.me.stackBytes := X.bytes
  have hU : ((T.setVm s.vm).setFrames (.invoking m args9 :: below)).localsInUse = s.localsInUse := by
    rw [State.localsInUse_invoking hF (meth := meth) (c := c) X.method X.code, State.localsInUse_invoking X.frames X.method X.code]
  have hroom : ((T.setVm s.vm).setFrames (.invoking m args9 :: below)).hasRoom e.platform { frames := R.frames, locals := R.locals, cells := k, slots := n } = true := by
    have h := X.room
    have q1 := X.heapSize
    have q2 := X.used
    simp only [State.hasRoom, Bool.and_eq_true, decide_eq_true_eq] at h ⊢
    obtain ⟨⟨⟨⟨h1, h2, h3, h4, h5, h6⟩, h7⟩, h8⟩, h9⟩ := h
    rw [X.frames, List.length_cons] at h2 h3
    simp only [hF, hU, List.length_cons, State.stackLimits_setFrames, State.stackBytes_setFrames, hl9, hb9]
    have g7 : T.heap.size + k ≤ e.platform.maxCells := by omega
    have g8 : T.slotsUsed + n ≤ e.platform.maxSlots := by omega
    exact ⟨⟨⟨⟨by omega, by omega, by omega, by omega, by omega, h6⟩, g7⟩, g8⟩, X.book⟩
  have hlast : ((T.heap.toList.drop T.heap.size).map (·.slots.size)).sum = 0 := by
    rw [List.drop_eq_nil_of_le (Nat.le_of_eq Array.length_toList)]
    rfl
  refine ⟨X.admits, X.cas, X.clock, hF, hroom, X.hears, X.method, X.code, X.here, X.tail, X.warmed, by rw [State.stackLimits_setFrames]; rfl, by rw [State.stackBytes_setFrames]; rfl,
    ?_, Nat.le_refl _, Nat.le_refl _, ?_, Nat.le_of_eq hlast, fun a c9 h9 => ⟨c9, h9, rfl, rfl, fun _ _ => rfl⟩⟩
  · obtain ⟨t, ht, -⟩ := State.frames_cons hr
    show T.setVm s.vm = { ((T.setVm s.vm).setFrames (.invoking m args9 :: below)).setFrames (T.setVm s.vm).frames with heap := T.heap, slotsUsed := T.slotsUsed }
    rw [State.setFrames_setFrames, State.setFrames_self ht]
    rfl
  · show T.slotsUsed = T.slotsUsed + ((T.heap.toList.drop T.heap.size).map (·.slots.size)).sum
    rw [hlast]
    rfl
theorem gx_old {U : State} {k n : Nat} (h : s.sameButNew ({ U with vm := s.vm } : State) [] k n) : s.heap.size ≤ U.heap.size ∧ ∀ q : Nat, q < s.heap.size → U.heap[q]? = s.heap[q]? := by
  obtain ⟨-, h2, -, -, -, h6⟩ := h
  refine ⟨h2, fun q hq => ?_⟩
  obtain ⟨c9, e1, e2, e3, e4⟩ := h6 q _ (Array.getElem?_eq_getElem hq)
  have hs : c9.slots = (s.heap[q]).slots := Array.ext_getElem? fun i => e4 i (fun hm => nomatch hm)
  have h9 : c9 = s.heap[q] := by
    rw [hs] at e2
    exact e2
  have e5 : U.heap[q]? = some c9 := e1
  rw [e5, h9, Array.getElem?_eq_getElem hq]
/-- a word of a throw: one of the four that speak of the heap, or a good one of the tables -/
def gx_hw (w : Jvm.Cond) : Bool := decide (w = .isRef (.static "java/lang/Throwable" "UNASSIGNED_STACK" "[Ljava/lang/StackTraceElement;")) || decide (w = .isRef (.static "java/lang/Throwable" "SUPPRESSED_SENTINEL" "Ljava/util/List;")) || decide (w = .laysStatic "java/lang/Throwable" "UNASSIGNED_STACK" "[Ljava/lang/StackTraceElement;") || decide (w = .laysStatic "java/lang/Throwable" "SUPPRESSED_SENTINEL" "Ljava/util/List;")
def gx_ok (w : Jvm.Cond) : Bool := gx_hw w || (decide (w ∈ gv_T) && gv_gd w)
theorem gx_words {G : gv_G} {s : State} (hK : gv_K G s) (h1 : gx_st "UNASSIGNED_STACK" "[Ljava/lang/StackTraceElement;" s s.heap G.2.2.2.2.2.1) (h2 : gx_st "SUPPRESSED_SENTINEL" "Ljava/util/List;" s s.heap G.2.2.2.2.2.1) {L : List Jvm.Cond} (hL : L.all gx_ok = true) (args : Array Value) : ∀ w ∈ L, w.before args s = true := by
  intro w hw
  have h := List.all_eq_true.mp hL w hw
  unfold gx_ok at h
  rw [Bool.or_eq_true] at h
  rcases h with h | h
  · unfold gx_hw at h
    rw [Bool.or_eq_true, Bool.or_eq_true, Bool.or_eq_true, decide_eq_true_eq, decide_eq_true_eq, decide_eq_true_eq, decide_eq_true_eq] at h
    rcases h with ((h | h) | h) | h <;> rw [h]
    · exact h1.isRef
    · exact h2.isRef
    · exact h1.lays
    · exact h2.lays
  · rw [Bool.and_eq_true, decide_eq_true_eq] at h
    obtain ⟨i, hi⟩ := List.getElem?_of_mem h.1
    exact hK.use i hi h.2 args
variable {G : gv_G} {y M : gv_M} {d : Nat} {r : gv_O} {hf h h1 : gv_H} {pc : Nat} {ls : gv_L} {st args : List gv_V}
/-- throw new E() -/
theorem gv_throw {cls : String} {names : List String} {ik ic w1 w2 : Nat} (hcls : Bundle.fit cls = true) (hnames : ∀ n ∈ names, Bundle.fit n = true) (hnl : names.length ≤ 4) (hk : gv_tw w1 (.classLink y.1.cls ik cls) = true) (hi : gv_tw w2 (.initialized cls) = true) (hat : (Bundle.ownAtoms0 y.1.cls ic cls names).all gx_ok = true)
    (hhh : y.2.2.2.2.2.2.2.2.2.2 = []) (hcat : gv_cs st ≤ 8) (d0 : decode y.2.1 pc = .ok (.new ik, 3)) (d3 : decode y.2.1 (pc + 3) = .ok (.dup, 1)) (d4 : decode y.2.1 (pc + 4) = .ok (.invokespecial ic, 3)) (d7 : decode y.2.1 (pc + 7) = .ok (.athrow, 1)) :
    gv_go G y d (.inr (.inl cls)) (h.1, (h.2.1.1 + 1, h.2.1.2 + 6), h.2.2) pc ls st h := by
  refine ⟨⟨Nat.le_succ _, Nat.le_add_right _ _⟩, fun h0 p e s m args9 below meth c H locs A q1 q2 X hw hl hA => ?_⟩
  intro T hT XX
  have hK := X.2.2.2.2.1
  have htr : e.platform.stackTraces = false := (show e.platform.stackTraces = G.1.stackTraces by rw [XX.admits.platform]).trans hK.2.2.2.1
  have hcc : h.2.1.1 - h0.2.1.1 + 1 ≤ h.2.1.1 + 1 - h0.2.1.1 := by omega
  have hss : h.2.1.2 - h0.2.1.2 + 6 ≤ h.2.1.2 + 6 - h0.2.1.2 := by omega
  have Y := gx_anew XX (k := 1) (n := 6) hcc hss
  obtain ⟨s', hs'⟩ : ∃ z, z = (T.setVm s.vm).setFrames (.invoking m args9 :: below) := ⟨_, rfl⟩
  rw [← hs'] at Y
  have hvm : s'.vm = s.vm := by rw [hs']; rfl
  have hhp : s'.heap = H := by rw [hs']; exact hT
  have hK' : gv_K G s' := hK.same hvm.symm
  have hU' : gx_st "UNASSIGNED_STACK" "[Ljava/lang/StackTraceElement;" s' s'.heap G.2.2.2.2.2.1 := gx_st.moved (Vm.Alike.refl _) (fun q hq => by rw [hhp]; exact hw.2.2.1 q hq) hK'.2.2.2.2.2.1
  have hN' : gx_st "SUPPRESSED_SENTINEL" "Ljava/util/List;" s' s'.heap G.2.2.2.2.2.1 := gx_st.moved (Vm.Alike.refl _) (fun q hq => by rw [hhp]; exact hw.2.2.1 q hq) hK'.2.2.2.2.2.2
  have hwd := gx_words hK' hU' hN' hat args9
  have hown' : s'.vm.findClass y.1.cls = some m.cls := by rw [hvm]; exact X.2.2.2.1
  have hins : (Jvm.Cond.instantiable cls 6).before args9 s' = true := hwd _ (by simp [Bundle.ownAtoms0])
  have hout : ∀ x ∈ c.exceptionTable.toList, covers x (pc + 7) = false := by
    intro x hx
    have h9 := X.2.2.2.2.2.2.2.2
    rw [hhh] at h9
    rw [List.map_eq_nil_iff.mp h9] at hx
    cases hx
  obtain ⟨vm₁, cX, kX, hfX, hkX, -, -, X₁, st1⟩ := Y.newCold X.1 (own := y.1.cls) (C := cls) (index := ik) (n := 6) hown' (gv_tw_use hK' hk args9) hins (gv_tw_use hK' hi args9)
    (g := F0 m pc A (st.map (gv_v G.2.1))) rfl (by rw [X.2.1]; exact d0) (Nat.le_refl _) (Nat.le_refl _)
  generalize hT1 : (T.setVm vm₁).pushCell { cls := cX, slots := kX.instanceTypes.map defaultValue, vm := .none } = T1 at X₁ st1
  have hcat9 : (Value.ref T.heap.size).category = 1 := rfl
  have hcellA : T1.heap[T.heap.size]? = some (freshCell cX kX) := by rw [← hT1]; exact State.heap_pushCell_size _ _
  have d3' : decode c.code (pc + 3) = .ok (.dup, 1) := by rw [X.2.1]; exact d3
  have hexec := X.1
  obtain ⟨U, hsteps, hrun, hend, hW, hsame, ce, hce, hO⟩ := X₁.ctorThrow0 X.1 htr (own := y.1.cls) (cls := cls) (names := names) (ic := ic) hown' hcls hnames hwd (fun x hx => nomatch hx) hfX hkX hcellA (by rw [hhp, hT]; exact Nat.le_refl _)
    (g := { method := m, pc := pc + 4, locals := A, stack := .ref T.heap.size :: .ref T.heap.size :: st.map (gv_v G.2.1), locked := none }) rfl (hA.1.trans X.2.2.1.symm) rfl rfl (rest := st.map (gv_v G.2.1)) rfl
    (by rw [X.2.1]; exact d4) (by rw [X.2.1]; exact d7) hout (by show names.length + 3 < d + 8; omega) (by
      show 2 * 0 + ((Value.ref T.heap.size :: st.map (gv_v G.2.1)).map fun v => v.category).sum + (13 * (names.length + 1) + 41) ≤ 64 * d + 200
      simp only [List.map_cons, List.sum_cons, hcat9]
      rw [gv_cs_sum]
      omega) X.2.2.2.2.2.2.1
  obtain ⟨f1, f2⟩ := gx_old hsame
  rw [hhp] at f1 f2
  have hWs : s.WarmedH U.vm := by
    have hW0 : s.WarmedH s'.vm := by rw [hvm]; exact State.WarmedH.refl s
    exact State.WarmedH.trans hW0 hW
  have hcl : s.vm.findClass cls = some ce.cls := by
    have h9 := hO.cls
    rw [hvm] at h9
    exact h9
  have hall : s.sameButNew ({ U with vm := s.vm } : State) locs (h.2.1.1 + 1 - h0.2.1.1) (h.2.1.2 + 6 - h0.2.1.2) := by
    subst hs'
    obtain ⟨e1, e2⟩ := hsame
    rw [State.setFrames_setFrames] at e1
    have h2 : (T.setVm s.vm).sameButNew ({ U with vm := s.vm } : State) [] (0 + 1) (0 + 6) := ⟨e1, e2⟩
    have h3 := XX.same.trans h2
    rw [List.append_nil] at h3
    exact h3.mono hcc hss
  refine ⟨U, ?_, T.heap.size, hrun, hend, ce, locs, U.heap.size - H.size, hce, hO.vm, hcl, hWs, hall, hl, hw.more f1 f2⟩
  refine st1 _ ?_
  show Steps p.tables e below (T1.setTop { method := m, pc := pc + 3, locals := A, stack := .ref T.heap.size :: st.map (gv_v G.2.1), locked := none }) _
  jvm_step X₁.here [X₁.here.top, hexec, d3', Value.category]
  exact hsteps
theorem gv_stn_has {z : Nat → Nat} {nL : Nat} {A : Array Slot} {ls : gv_L} {i : Nat} {v : Value} (h : lv_has A nL ((i, v) :: (gv_ll z ls).filter (fun q => !(q.1 == i) && !(q.1 + 1 == i && q.2.category == 2)))) : gv_ls z nL A ((gv_kill ls i).set i none) := by
  refine ⟨h.1, h.2.1, fun j u hj => ?_⟩
  by_cases e : i = j
  · subst e
    rw [List.getElem?_set_self'] at hj
    revert hj
    cases (gv_kill ls i)[i]? <;> simp
  · rw [List.getElem?_set_ne e] at hj
    obtain ⟨h1, h2⟩ := gv_kill_at hj
    refine h.2.2 (j, gv_v z u) (List.mem_cons_of_mem _ (List.mem_filter.mpr ⟨gv_ll_mem h1, ?_⟩))
    by_cases e2 : j + 1 = i
    · have h3 : ¬ (gv_v z u).category = 2 := fun q => h2 ⟨e2, gv_cat.mp q⟩
      simp [Ne.symm e, e2, h3]
    · simp [Ne.symm e, e2]
/-- a call that throws, caught by a row of this method's table; the handler puts the exception away -/
theorem gv_callVX {x wp b ci hpc k9 sp ep ct wl wc : Nat} {rr : vw_C} {fs : List gv_V} {E nm : String} {q9 : Fin 4} (pre suf : List (Nat × Nat × Nat × Nat)) (hM : gv_mok M = true) (hh0 : M.2.2.2.2.2.2.2.2.2.2 = []) (hs : gv_tw M.2.2.2.2.2.2.2.1 (.instanceMethod M.1) = true) (hse : gv_tw M.2.2.2.2.2.2.2.2.1 (.selects M.1.cls M.1 M.1) = true) (hlk : gv_tw wp (.methodLink y.1.cls x M.1) = true) (hd : decode y.2.1 pc = .ok (.invokevirtual x, 3)) (hn : args.length = M.2.2.2.2.2.2.2.2.2.1) (hcat : gv_cs st ≤ 8)
    (hb : h.2.2 b = some (Sum.inr (ci, fs))) (hci : gv_cl[ci]? = some rr) (hrr : rr.1 = M.1.cls)
    (hE : gv_ev G d M (gR b :: args) h (.inr (.inl E)) h1)
    (hsplit : y.2.2.2.2.2.2.2.2.2.2 = pre ++ (sp, ep, hpc, ct) :: suf) (hpass : ∀ z ∈ pre, z.2.2.2 ≠ 0 ∧ ∃ (w : Nat) (n : String), gv_tw w (.classLink y.1.cls z.2.2.2 n) = true ∧ (E, n) ∈ gx_nc) (hcov : sp ≤ pc ∧ pc < ep) (hct : ct ≠ 0)
    (hlink : gv_tw wl (.classLink y.1.cls ct nm) = true) (hcast : gv_tw wc (.castable E nm) = true) (dh : decode y.2.1 hpc = .ok (.astore_n q9, 1)) (hq9 : (q9 : Nat) = k9) (hk9 : k9 < y.2.2.1)
    (k : ∀ δ : Nat, gv_go G y (d + 1) r hf (hpc + 1) ((gv_kill ls k9).set k9 none) [] (h1.1 + δ, h1.2)) : gv_go G y (d + 1) r hf pc ls (args.reverse ++ gR b :: st) h := by
  have hE1 := hE.1
  have hk1 : h1.2.1.1 ≤ hf.2.1.1 ∧ h1.2.1.2 ≤ hf.2.1.2 := (k 0).1
  refine ⟨⟨by omega, by omega⟩, fun h0 p e s m args9 below meth c H locs A q1 q2 X hw hl hA => ?_⟩
  have hK := X.2.2.2.2.1
  have hM9 := hM
  unfold gv_mok at hM9
  rw [Bool.and_eq_true, Bool.and_eq_true, decide_eq_true_eq] at hM9
  obtain ⟨⟨m1, m2⟩, m3, m4, m5, m6⟩ := hM9
  obtain ⟨cellB, c1, c2, c3⟩ := va_recv hK.2.1 (gv_one hw hb) hci (q0 := 0) rfl
  rw [hrr] at c3
  intro T hT XX
  have hpl : e.platform.magicAccessors = ({} : Platform).magicAccessors := by rw [XX.admits.platform]
  obtain ⟨mk, methM, hnamed, hmethM, hstM, habM⟩ := Cond.instanceMethod_spec (gv_tw_use hK hs args9)
  obtain ⟨mk2, methM2, cM, hnamed2, hmethM2, hcodeM, -, hlocM, -, -, -, hsigM⟩ := gv_cwd_spec (gv_tw_use hK m1 args9)
  cases hnamed.symm.trans hnamed2
  cases hmethM.symm.trans hmethM2
  obtain ⟨cc2, r2, mm2, s1, s2, s3, s4, kP, hkP, hkPi⟩ := Cond.selects_spec (gv_tw_use hK hse args9)
  cases c3.symm.trans s1
  cases (State.methodFound?_of_named hnamed ⟨m3, m4⟩).symm.trans s2
  cases hnamed.symm.trans s3
  have hselP : selectMethod e.platform s.vm cellB.cls mk = .method mk := by rw [Launch.admits_selectMethod XX.admits]; exact s4
  have hlen : ∀ sig, parseMethodDescriptor M.1.desc = some sig → (args.map (gv_v G.2.1)).length = sig.parameters.length := by
    intro sig hsig
    rw [hsig] at m5
    rw [List.length_map, hn]
    exact (Option.some.inj m5).symm
  have hstack : (F0 m pc A ((args.reverse ++ gR b :: st).map (gv_v G.2.1))).stack = (args.map (gv_v G.2.1)).reverse ++ .ref (G.2.1 b) :: st.map (gv_v G.2.1) := by
    show (args.reverse ++ gR b :: st).map (gv_v G.2.1) = _
    rw [List.map_append, List.map_reverse]
    rfl
  have hdg : decode c.code (F0 m pc A ((args.reverse ++ gR b :: st).map (gv_v G.2.1))).pc = .ok (.invokevirtual x, 3) := by rw [X.2.1]; exact hd
  obtain ⟨vm₁, X₁, hstep₁⟩ := XX.invokevirtual X.1 X.2.2.2.1 (gv_tw_use hK hlk args9) hnamed hmethM hstM hkP hkPi ⟨m3, m4⟩ (a := G.2.1 b) (cell := cellB) (by rw [hT]; exact c1)
    (fun z hz => by rw [hz] at c2; cases c2) hselP hmethM habM hkP hkPi (g := F0 m pc A ((args.reverse ++ gR b :: st).map (gv_v G.2.1))) rfl (argsL := args.map (gv_v G.2.1)) (rest := st.map (gv_v G.2.1)) (hlen _ hsigM) hstack hdg
  generalize hg9 : ({ (F0 m pc A ((args.reverse ++ gR b :: st).map (gv_v G.2.1))) with stack := st.map (gv_v G.2.1) } : JFrame) = g at hstep₁
  have hgm : g.method = m := by rw [← hg9]
  have hgs : g.locals.size = c.maxLocals := by rw [← hg9]; exact hA.1.trans X.2.2.1.symm
  have hgd : decode c.code g.pc = .ok (.invokevirtual x, 3) := by rw [← hg9]; exact hdg
  have hgw : 2 * g.monitorRoom + (g.stack.map fun v => v.category).sum ≤ 8 := by
    rw [← hg9]
    show 2 * 0 + ((st.map (gv_v G.2.1)).map fun v => v.category).sum ≤ 8
    rw [gv_cs_sum]
    omega
  have hX1 := X₁.here
  have hnm1 : (T.setVm vm₁).methodNamed? M.1 = some mk := X₁.named hnamed
  obtain ⟨kY, hkY, -⟩ := className_of_methodNamed hnm1
  have hK1 : gv_K G (T.setVm vm₁) := hK.moved (U := T.setVm vm₁) X₁.warmed
  have hiniY : kY.init = .initialized := Cond.initialized_spec (findClass_of_methodNamed hnm1) hkY (gv_tw_use hK1 m2 (Value.ref (G.2.1 b) :: args.map (gv_v G.2.1)).toArray)
  obtain ⟨mk3, methM3, cM3, n3, mm3, cc3, -, ll3, -⟩ := gv_cwd_spec (gv_tw_use hK1 m1 (Value.ref (G.2.1 b) :: args.map (gv_v G.2.1)).toArray)
  cases hnm1.symm.trans n3
  have happ : (headSpec [gv_cwd M] (gv_room d (h1.2.1.1 - h.2.1.1) (h1.2.1.2 - h.2.1.2))).appliesLoose M.1 e.platform ((T.setVm vm₁).calling g mk (Value.ref (G.2.1 b) :: args.map (gv_v G.2.1)).toArray) = true := by
    refine Spec.appliesLoose_calling (g := g) (by rw [hgm]; exact hX1) hgd hnm1 hkY hiniY
      (X₁.room_calling (g := g) (R' := gv_room d (h1.2.1.1 - h.2.1.1) (h1.2.1.2 - h.2.1.2)) hgs mm3 cc3 (by show d + 8 + 1 ≤ d + 1 + 8; omega) (by rw [ll3]; show 2 * g.monitorRoom + (g.stack.map fun v => v.category).sum + (M.2.2.1 + 11) + (64 * d + 200) ≤ 64 * (d + 1) + 200; omega)
        (by show h.2.1.1 - h0.2.1.1 + (h1.2.1.1 - h.2.1.1) ≤ hf.2.1.1 - h0.2.1.1; omega) (by show h.2.1.2 - h0.2.1.2 + (h1.2.1.2 - h.2.1.2) ≤ hf.2.1.2 - h0.2.1.2; omega))
      (atoms_intro fun w hw9 => by rw [List.mem_singleton.mp hw9]; exact gv_tw_use hK1 m1 _)
  have hAt : At (T.setVm vm₁) g.method c below := by rw [hgm]; exact hX1
  obtain ⟨mid, hmid⟩ := hAt.above
  have hfr : ((T.setVm vm₁).setTop g).frames = (.java g :: mid) ++ below := by rw [State.frames_setTop' g hAt.top, hmid]; rfl
  obtain ⟨o, s₂, hsteps, -, hend, hq⟩ := Steps.callFree hE.2 p X₁.admits X₁.cas X₁.clock (acts := []) hfr happ (gv_blind _ _ _ _ ⟨rfl, hK1, by show gv_w G h T.heap; rw [hT]; exact hw⟩) trivial
  obtain ⟨q, rfl, ce, L, δ, hce, hcv, hcl, hW₂, hsm, hL, hwq⟩ := hq
  rw [State.frames_setTop' g hAt.top] at hend
  obtain ⟨g₀, hg0⟩ := Option.isSome_iff_exists.mp hAt.top
  obtain ⟨rr9, hr9⟩ := State.topJava?_eq_some.mp hg0
  generalize hU9 : T.setVm vm₁ = U at *
  have hr' : (({ U with heap := s₂.heap, slotsUsed := s₂.slotsUsed } : State).setVm s₂.vm).frames = .java g₀ :: rr9 := hr9
  obtain ⟨e2, z2, z3, z4, z5, z6⟩ := id hsm
  have e3 : s₂ = ({ (U.calling g mk (Value.ref (G.2.1 b) :: args.map (gv_v G.2.1)).toArray).setFrames s₂.frames with heap := s₂.heap, slotsUsed := s₂.slotsUsed } : State).setVm s₂.vm := by
    have : s₂ = ({ s₂ with vm := ((U.setTop g).pushFrame (.invoking mk (Value.ref (G.2.1 b) :: args.map (gv_v G.2.1)).toArray)).vm } : State).setVm s₂.vm := rfl
    rw [e2] at this
    exact this
  have hf₂ : s₂.frames = .throwing q :: .java g :: U.frames.tail := hend
  have hW' : U.WarmedH s₂.vm := hW₂
  have hs₂ : s₂ = ((({ U with heap := s₂.heap, slotsUsed := s₂.slotsUsed } : State).setVm s₂.vm).setTop g).pushFrame (.throwing q) := by
    refine e3.trans ?_
    rw [hf₂, State.calling_eq hAt.top, State.setFrames_setFrames, State.pushFrame, State.frames_setTop _ hr', State.setTop_of_frames _ hr', State.setFrames_setFrames, hr9]
    rfl
  have hsame : U.sameButNew ({ U with heap := s₂.heap, slotsUsed := s₂.slotsUsed } : State) L (h1.2.1.1 - h.2.1.1) (h1.2.1.2 - h.2.1.2) := by
    refine ⟨?_, z2, z3, z4, z5, z6⟩
    obtain ⟨t, ht, -⟩ := State.frames_cons hr9
    show ({ U with heap := s₂.heap, slotsUsed := s₂.slotsUsed } : State) = { U.setFrames U.frames with heap := s₂.heap, slotsUsed := s₂.slotsUsed }
    rw [State.setFrames_self ht]
  have X' : Stand p G.1 e (gv_room (d + 1) (hf.2.1.1 - h0.2.1.1) (hf.2.1.2 - h0.2.1.2)) s m args9 below meth c (({ U with heap := s₂.heap, slotsUsed := s₂.slotsUsed } : State).setVm s₂.vm) (locs ++ L) (h.2.1.1 - h0.2.1.1 + (h1.2.1.1 - h.2.1.1)) (h.2.1.2 - h0.2.1.2 + (h1.2.1.2 - h.2.1.2)) :=
    ⟨X₁.admits, X₁.cas, X₁.clock, X₁.frames, X₁.room, X₁.hears, X₁.method, X₁.code, (X₁.here.setHeapUsed s₂.heap s₂.slotsUsed).setVm hW'.alike, X₁.tail, State.WarmedH.trans X₁.warmed hW', X₁.limits, X₁.bytes, X₁.same.trans (hsame.setVm s.vm)⟩
  have hclS : s.vm.findClass E = some ce.cls := by
    have h9 : U.vm.findClass E = some ce.cls := hcl
    rw [X₁.warmed.alike.findClass] at h9
    exact h9
  have htab := X.2.2.2.2.2.2.2.2
  rw [hsplit] at htab
  obtain ⟨t1, t2, ht0, ht1, ht2⟩ := List.map_eq_append_iff.mp htab
  obtain ⟨xr, t3, rfl, hxr, ht3⟩ := List.map_eq_cons_iff.mp ht2
  cases hxr
  obtain ⟨c3', c4, hc3, hc4, hasg⟩ := Cond.castable_spec (gv_tw_use hK hcast args9)
  cases Option.some.inj (hc3.symm.trans hclS)
  obtain ⟨c5, hc5, hcl5⟩ := Cond.classLink_spec X.2.2.2.1 (gv_tw_use hK hlink args9) e.platform hpl
  cases Option.some.inj (hc4.symm.trans hc5)
  have hcovx : covers xr g.pc = true := by
    rw [← hg9]
    simp only [covers]
    simp [hcov.1, hcov.2]
  obtain ⟨vm', XV, stV⟩ := X'.thenCaughtThrough q (g := g) hgm (Steps.refl _) hce (by rw [hcv]; rfl) (by obtain ⟨k8, h8, -⟩ := Vm.findClass_spec hclS; exact ⟨k8, h8⟩) t1 xr t3 ht0
    (fun z hz => by
      have hz2 : (z.startPc, z.endPc, z.handlerPc, z.catchType) ∈ pre := by rw [← ht1]; exact List.mem_map.mpr ⟨z, hz, rfl⟩
      obtain ⟨hz0, w8, n8, hl8, hn8⟩ := hpass _ hz2
      obtain ⟨c6, hc6, hcl6⟩ := Cond.classLink_spec X.2.2.2.1 (gv_tw_use hK hl8 args9) e.platform hpl
      obtain ⟨a8, b8, g1, g2, g3⟩ := hK.2.2.2.2.1 _ hn8
      cases Option.some.inj (g1.symm.trans hclS)
      cases Option.some.inj (g2.symm.trans hc6)
      exact Or.inr ⟨hz0, _, hcl6, g3⟩) hcovx (Or.inr ⟨hct, c4, hcl5, hasg⟩)
  have hW9 := lv_astore_n (p := p) (l := G.1) (e := e) (R := gv_room (d + 1) (hf.2.1.1 - h0.2.1.1) (hf.2.1.2 - h0.2.1.2)) (s := s) (m := m) (args := args9) (below := below) (meth := meth) (c := c) (H := s₂.heap) (locs := locs ++ L) (cells := h1.2.1.1 - h0.2.1.1) (slots := h1.2.1.2 - h0.2.1.2) (Q := gv_fin G r hf below args9 s (hf.2.1.1 - h0.2.1.1) (hf.2.1.2 - h0.2.1.2)) (x := q) (rest := []) X.1 X.2.1 dh hq9 (gv_ll_has hA) hk9 rfl
    (fun A1 hA1 => (k δ).2 h0 p e s m args9 below meth c s₂.heap (locs ++ L) A1 (by show h0.2.1.1 ≤ h1.2.1.1; omega) (by show h0.2.1.2 ≤ h1.2.1.2; omega) X hwq (fun z hz => (List.mem_append.mp hz).elim (hl z) (hL z)) (gv_stn_has hA1))
  rw [show h.2.1.1 - h0.2.1.1 + (h1.2.1.1 - h.2.1.1) = h1.2.1.1 - h0.2.1.1 by omega, show h.2.1.2 - h0.2.1.2 + (h1.2.1.2 - h.2.1.2) = h1.2.1.2 - h0.2.1.2 by omega] at XV
  obtain ⟨t, a1, b1⟩ := hW9 ((({ U with heap := s₂.heap, slotsUsed := s₂.slotsUsed } : State).setVm s₂.vm).setVm vm') rfl XV
  refine ⟨t, hstep₁ _ (fun acts => ?_), b1⟩
  rw [doInvoke_state]
  refine Steps.trans hsteps ?_
  rw [hs₂]
  refine Steps.trans stV ?_
  have e9 : ({ g with pc := xr.handlerPc, stack := [.ref q] } : JFrame) = F0 m xr.handlerPc A [.ref q] := by rw [← hg9]
  rw [e9]
  exact a1
end GWA
