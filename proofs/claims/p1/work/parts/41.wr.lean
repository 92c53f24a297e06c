/-! from the law's entry to the picture -/
section WRA
theorem gs_st {n d : String} {s : State} {args : Array Value} (hl : (Jvm.Cond.laysStatic "java/lang/Throwable" n d).before args s = true) (hr : (Jvm.Cond.isRef (.static "java/lang/Throwable" n d)).before args s = true) : gx_st n d s s.heap s.heap.size := by
  obtain ⟨c, k, i, f, a, cell, hc, hi, hst, ha, hcell, hs, hcls, hlt, hty⟩ := Cond.laysStatic_spec hl
  obtain ⟨v, hv⟩ : ∃ v, cell.slots[f.slot]? = some v := ⟨_, Array.getElem?_eq_getElem hlt⟩
  have he : (Term.static "java/lang/Throwable" n d).eval args s none [] s = some v := by
    simp [Term.eval, State.fieldNamed?, hi, hst, ha, hcell, hs, hv]
  refine ⟨c, k, i, f, a, cell, v, hc, hi, hst, ha, hcell, hs, hcls, hlt, hty, (Array.getElem?_eq_some_iff.mp hcell).1, hv, ?_⟩
  simp only [Jvm.Cond.before, Jvm.Cond.holds, Jvm.Cond.value, he] at hr
  cases v <;> simp_all [Value.isRef]
theorem gs_in : gv_cl.all (fun r => decide (Jvm.Cond.instantiable r.1 r.2.2 ∈ lw_tbl)) = true := by decide +kernel
theorem gs_arr {s : State} {c : ClassId} {k : Class} {comp : ClassId} {t : FieldType} (hk : s.vm.classes[c]? = some k) (hkind : k.kind = .array comp t) : ArrOfT s c t := fun n z => ⟨(fun q hq => by cases hq), k, hk, comp, hkind⟩
def gs_z (b z : Nat) : Nat → Nat := fun k => match k with
  | 0 => b
  | k + 1 => z + k
def gs_t (a b c d : ClassId) : Nat → ClassId := fun k => match k with
  | 0 => a
  | 1 => b
  | 2 => c
  | _ => d
theorem gs_Nw {w : Jvm.Cond} {A : Array Value} {s : State} (h : w.before A s = true) (hg : gv_gd w = true) : va_Nw w s := by
  unfold gv_gd at hg
  rw [Bool.or_eq_true] at hg
  rcases hg with hg | hg
  · exact word_at (State.WarmedH.refl s) (good_of_word hg) h
  · unfold gv_nest at hg
    split at hg
    next => exact va_Nw.of rfl h
    next => exact va_Nw.of rfl h
    next => exact va_AO.of h
    next => exact va_Nw.of rfl h
    next => exact va_Nw.of rfl h
    next => cases hg
theorem gs_wrap {p : Program} {e : Env} {s : State} {m : MethodId} {below : List Frame} {meth : Method} {c : Code} {l : Launch} {b L : Nat} {xs : Nat → Int32} (hfl : l.flags = flags0) (C0 : lw_At p s m meth c b L xs) (hnm : meth.name = "law") (hex : c.exceptionTable.isEmpty = true)
    (R : ∀ G : gv_G, G.2.2.2.2.2.2.1 = L → gv_go G M_LA_law 60 (.inr (.inr none)) (0, (gv_Cn, gv_Sn), fun _ => none) 0 [some (gR 0), none, none, none, none, none, none] [] KA0) :
    W p l e room_1 s m #[Value.ref b] below meth c s.heap [] 0 0 (lw_Z below #[Value.ref b] s) (entryFrame m ([Value.ref b] : List Value).toArray 7) := by
  obtain ⟨hx, hb, hr, hml, hown, hts, hX, hbl, hlocks, hgv⟩ := C0
  have hs := flat_of_before _ hgv
  have hD : ∀ ci : Nat, ∃ D : ClassId × (Nat → Nat), ∀ q : vw_C, gv_cl[ci]? = some q → u_Kn s q.1 q.2.1 q.2.2 D.1 D.2 := by
    intro ci
    cases h : gv_cl[ci]? with
    | none => exact ⟨(0, fun _ => 0), fun q hq => nomatch hq⟩
    | some q =>
      have h1 := (gc_ok ci q h).2.1
      have h2 := of_decide_eq_true (List.all_eq_true.mp gs_in q (List.mem_of_getElem? h))
      obtain ⟨cC, iS, hk⟩ := u_known (ws := lw_tbl) hts (fun w hw => (h1 w hw).1) (hts _ h2)
      exact ⟨(cC, iS), fun q' hq' => by cases hq'; exact hk⟩
  obtain ⟨c0, k0, p0, a1, a2, a3⟩ := Cond.arrayClass_spec (hts (.arrayClass .int) (by decide +kernel))
  obtain ⟨c1, k1, p1, b1, b2, b3⟩ := Cond.arrayClass_spec (hts (.arrayClass .long) (by decide +kernel))
  obtain ⟨c2, k2, p2, d1, d2, d3⟩ := Cond.arrayClass_spec (hts (.arrayClass .boolean) (by decide +kernel))
  obtain ⟨p3, c3, k3, e1, -, e2, e3, e4⟩ := Cond.arrayOver_spec (hts (.arrayOver (.object gv_qc)) (by decide +kernel))
  obtain ⟨G, g1, g2, g3, g4, g5, g6, g7, g8⟩ : ∃ G : gv_G, G.1 = l ∧ G.2.1 = gs_z b s.heap.size ∧ G.2.2.1 = (fun ci => (Classical.choose (hD ci)).1, fun ci => (Classical.choose (hD ci)).2) ∧ G.2.2.2.1 = gs_t c0 c1 c2 c3 ∧ G.2.2.2.2.1 = s.heap ∧ G.2.2.2.2.2.1 = s.heap.size ∧ G.2.2.2.2.2.2.1 = L ∧ G.2.2.2.2.2.2.2 = xs := ⟨(l, gs_z b s.heap.size, _, gs_t c0 c1 c2 c3, s.heap, s.heap.size, L, xs), rfl, rfl, rfl, rfl, rfl, rfl, rfl, rfl⟩
  have hK : gv_K G s := by
    refine ⟨fun w hw hg => gs_Nw (hts w hw) hg, ⟨fun ci q hq => ?_, fun k q hk => ?_⟩, ?_, ?_, ?_, ?_, ?_⟩
    · rw [g3]
      exact Classical.choose_spec (hD ci) q hq
    · unfold gv_ty at hk
      rw [g4] at hk
      match k, hk with
      | 0, hk => cases hk; exact ⟨gs_arr a2 a3, a1⟩
      | 1, hk => cases hk; exact ⟨gs_arr b2 b3, b1⟩
      | 2, hk => cases hk; exact ⟨gs_arr d2 d3, d1⟩
      | 3, hk => cases hk; exact ⟨gs_arr e2 e3, ⟨k3, p3, e2, e3, e1, e4⟩⟩
    · rw [g2, g7, g8, g5]
      exact hX
    · rw [g1]
      unfold Launch.stackTraces
      rw [hfl]
      decide +kernel
    · unfold gx_nc
      exact List.forall_mem_cons.mpr ⟨va_Nc.of (hs _ (by decide +kernel)), List.forall_mem_cons.mpr ⟨va_Nc.of (hs _ (by decide +kernel)), List.forall_mem_cons.mpr ⟨va_Nc.of (hs _ (by decide +kernel)), List.forall_mem_cons.mpr ⟨va_Nc.of (hs _ (by decide +kernel)), List.forall_mem_cons.mpr ⟨va_Nc.of (hs _ (by decide +kernel)), List.forall_mem_cons.mpr ⟨va_Nc.of (hs _ (by decide +kernel)), List.forall_mem_cons.mpr ⟨va_Nc.of (hs _ (by decide +kernel)), fun _ h => absurd h List.not_mem_nil⟩⟩⟩⟩⟩⟩⟩
    · rw [g5, g6]
      exact gs_st (hts _ (by decide +kernel)) (hs _ (by decide +kernel))
    · rw [g5, g6]
      exact gs_st (hts _ (by decide +kernel)) (hs _ (by decide +kernel))
  have hw : gv_w G KA0 s.heap := by
    refine ⟨⟨⟨?_, fun k => ?_⟩, Nat.le_refl 1⟩, ?_, fun q hq => ?_, fun k cc hk => nomatch hk⟩
    · rw [g2, g6]
      exact hbl
    · rw [g2, g6]
      rfl
    · rw [g2]
      rfl
    · rw [g5]
  have hl := lv_entry [Value.ref b] (n := 7) (Nat.le_of_ble_eq_true rfl)
  rw [lg_entry_eq]
  generalize (lg_sl [Value.ref b] ++ List.replicate (7 - (lg_sl [Value.ref b]).length) Slot.unset).toArray = A at hl ⊢
  have hA : gv_ls G.2.1 7 A [some (gR 0), none, none, none, none, none, none] := by
    refine ⟨hl.1, hl.2.1, fun i v hi => ?_⟩
    match i, hi with
    | 0, hi =>
      cases hi
      have h9 := hl.2.2 (0, Value.ref b) List.mem_cons_self
      rw [g2]
      exact h9
    | 1, hi => cases hi
    | 2, hi => cases hi
    | 3, hi => cases hi
    | 4, hi => cases hi
    | 5, hi => cases hi
    | 6, hi => cases hi
    | n + 7, hi => cases hi
  have hex' : c.exceptionTable.toList.map (fun h => (h.startPc, h.endPc, h.handlerPc, h.catchType)) = [] := by
    rw [Array.isEmpty_iff.mp hex]
    rfl
  have k2 := (R G g7).2 KA0 p e s m #[Value.ref b] below meth c s.heap [] A (Nat.le_refl _) (Nat.le_refl _) ⟨hx, hb, hml, hown, hK, hr, hlocks, hnm, hex'⟩ hw (fun q hq => nomatch hq) hA
  rw [g1] at k2
  intro T hT XX
  obtain ⟨t, a1, b1⟩ := k2 T hT (gx_less XX (by decide) (by decide) (by decide) (by decide))
  exact ⟨t, a1, b1 g6.symm⟩
end WRA
