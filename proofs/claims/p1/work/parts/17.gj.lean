section GJA
def gv_at (t : Nat) : ArrayType := match t with
  | 0 => .int
  | 1 => .long
  | _ => .boolean
/-- making -/
def gv_x7 (J : gv_J) (ls : gv_L) (st : List gv_V) (h : gv_H) : Option gv_S := match J with
  | (81, _, _, ci, _, _, nx, _) => match gv_cl[ci]? with
    | some r => some (nx, ls, gR h.1 :: st, gv_push h r.2.2 (Sum.inr (ci, gv_nf ci)))
    | none => none
  | (82, _, _, t, _, _, nx, _) => match st with
    | Sum.inl n :: st => if n < 0 ∨ 100000 < n.toNatClampNeg ∨ 2 < t then none else some (nx, ls, gR h.1 :: st, gv_push h n.toNatClampNeg (Sum.inl (t, n.toNatClampNeg, Sum.inl (fun _ => 0))))
    | _ => none
  | (83, _, _, _, _, _, nx, _) => match st with
    | Sum.inl n :: st => if n < 0 ∨ 100000 < n.toNatClampNeg then none else some (nx, ls, gR h.1 :: st, gv_push h n.toNatClampNeg (Sum.inl (3, n.toNatClampNeg, Sum.inr (fun _ => none))))
    | _ => none
  | _ => none
def gv_ck7 (own : String) (pc : Nat) (J : gv_J) (i : Instr) (n : Nat) : Bool := match J, i with
  | (81, _, _, ci, _, wp, nx, _), .new x => match gv_cl[ci]? with
    | some r => decide (n = 3 ∧ nx = pc + 3) && gv_tw wp (.classLink own x r.1) && gv_tw (gv_cw ci).1 (.instantiable r.1 r.2.2) && gv_tw (gv_cw ci).2 (.initialized r.1)
    | none => false
  | (82, _, _, t, _, wp, nx, _), .newarray aty => decide (n = 2 ∧ nx = pc + 2 ∧ aty = gv_at t) && gv_tw wp (.arrayClass (newarray.typeOf aty))
  | (83, _, _, _, b, wp, nx, _), .anewarray x => decide (n = 3 ∧ nx = pc + 3) && gv_tw wp (.classLink own x gv_qc) && gv_tw b (.arrayOver (.object gv_qc))
  | _, _ => false
variable {G : gv_G} {y : gv_M} {d : Nat} {r : gv_O} {hf : gv_H} {pc : Nat} {J : gv_J} {ls : gv_L} {st : List gv_V} {h : gv_H} {S : gv_S} {i : Instr} {n : Nat}
theorem gv_new {ci x wp w1 w2 : Nat} {rr : vw_C} (hok : ∀ ci r, gv_cl[ci]? = some r → gv_clok ci r) (hr : gv_cl[ci]? = some rr) (h1 : gv_tw wp (.classLink y.1.cls x rr.1) = true) (h2 : gv_tw w1 (.instantiable rr.1 rr.2.2) = true) (h3 : gv_tw w2 (.initialized rr.1) = true)
    (hd : decode y.2.1 pc = .ok (.new x, 3)) (k : gv_go G y d r hf (pc + 3) ls (gR h.1 :: st) (gv_push h rr.2.2 (Sum.inr (ci, gv_nf ci)))) : gv_go G y d r hf pc ls st h := by
  obtain ⟨-, o1, o2, o3, o4, o5⟩ := hok _ _ hr
  rw [o5] at k
  refine gv_mk (fun p e R s m args below meth c H locs cells slots Q A X hw hA hcells hslots kk => ?_) k
  have hK := X.2.2.2.2.1
  have hKn := hK.2.1.1 ci _ hr
  refine W.newcK X.1 X.2.1 X.2.2.2.1 (gv_tw_use hK h1 args) (gv_tw_use hK h2 args) (gv_tw_use hK h3 args) rfl hd hcells hslots hKn.2.1 hw.2.1 fun H1 kC hkC e1 z1 oq => kk H1 (hw.push ?_ (by rw [z1, hw.2.1]) (fun q hq => oq q (by rw [← hw.2.1]; exact hq)))
  refine ⟨_, hr, (u_born (gv_ft rr) (gv_ws hK o1 args) (fun _ q => q) hKn hkC e1 o2).to (fun j hj => ?_)⟩
  show defaultValue (gv_ft rr j) = vp_V (((List.range rr.2.2).map (fun k => gv_df (gv_ft rr k))).map (gv_v G.2.1)) j
  have e9 : ((((List.range rr.2.2).map (fun k => gv_df (gv_ft rr k))).map (gv_v G.2.1))[j]?) = some (gv_v G.2.1 (gv_df (gv_ft rr j))) := by
    rw [List.getElem?_map, List.getElem?_map, List.getElem?_range hj]
    rfl
  unfold vp_V
  rw [List.getD_eq_getElem?_getD, e9]
  show defaultValue (gv_ft rr j) = gv_v G.2.1 (gv_df (gv_ft rr j))
  have h9 := o4 j hj
  revert h9
  generalize gv_ft rr j = t9
  intro h9
  cases t9 <;> first | rfl | cases h9
theorem gv_newa {t wp : Nat} {n : Int32} (h1 : gv_tw wp (.arrayClass (newarray.typeOf (gv_at t))) = true) (hn : ¬ (n < 0 ∨ 100000 < n.toNatClampNeg ∨ 2 < t))
    (hd : decode y.2.1 pc = .ok (.newarray (gv_at t), 2)) (k : gv_go G y d r hf (pc + 2) ls (gR h.1 :: st) (gv_push h n.toNatClampNeg (Sum.inl (t, n.toNatClampNeg, Sum.inl (fun _ => 0))))) : gv_go G y d r hf pc ls (gI n :: st) h := by
  refine gv_mk (fun p e R s m args below meth c H locs cells slots Q A X hw hA hcells hslots kk => ?_) k
  have hK := X.2.2.2.2.1
  have hn0 : ¬ n < 0 := fun q => hn (Or.inl q)
  have hn1 : ¬ 100000 < n.toNatClampNeg := fun q => hn (Or.inr (Or.inl q))
  have ht : ¬ 2 < t := fun q => hn (Or.inr (Or.inr q))
  have hby : n.toNatClampNeg * componentBytes (newarray.typeOf (gv_at t)) ≤ 536870912 := by
    have : componentBytes (newarray.typeOf (gv_at t)) ≤ 8 := by
      rcases (show t = 0 ∨ t = 1 ∨ t = 2 by omega) with q | q | q <;> subst q <;> decide
    have h9 := Nat.mul_le_mul (Nat.not_lt.mp hn1) this
    omega
  refine va_newaK X.1 X.2.1 (gv_tw_use hK h1 args) rfl hd rfl hn0 rfl hby hcells hslots hw.2.1 fun H1 cA e1 z1 oq hAr hNm => kk H1 (hw.push ?_ (by rw [z1, hw.2.1]) (fun q hq => oq q (by rw [← hw.2.1]; exact hq)))
  show H1[G.2.1 h.1]? = some (vp_cell (G.2.2.2.1 t) (gv_arr G.2.1 t n.toNatClampNeg (Sum.inl (fun _ => 0))))
  have hcA : cA = G.2.2.2.1 t := by
    rcases (show t = 0 ∨ t = 1 ∨ t = 2 by omega) with q | q | q <;> subst q
    · exact Option.some.inj (hNm.symm.trans (hK.2.1.2 0 _ rfl).2)
    · exact Option.some.inj (hNm.symm.trans (hK.2.1.2 1 _ rfl).2)
    · exact Option.some.inj (hNm.symm.trans (hK.2.1.2 2 _ rfl).2)
  rw [e1, hcA]
  rcases (show t = 0 ∨ t = 1 ∨ t = 2 by omega) with q | q | q <;> subst q <;> rfl
theorem gv_anew {wp w1 x : Nat} {n : Int32} (h1 : gv_tw wp (.classLink y.1.cls x gv_qc) = true) (h2 : gv_tw w1 (.arrayOver (.object gv_qc)) = true) (hn : ¬ (n < 0 ∨ 100000 < n.toNatClampNeg))
    (hd : decode y.2.1 pc = .ok (.anewarray x, 3)) (k : gv_go G y d r hf (pc + 3) ls (gR h.1 :: st) (gv_push h n.toNatClampNeg (Sum.inl (3, n.toNatClampNeg, Sum.inr (fun _ => none))))) : gv_go G y d r hf pc ls (gI n :: st) h := by
  refine gv_mk (fun p e R s m args below meth c H locs cells slots Q A X hw hA hcells hslots kk => ?_) k
  have hK := X.2.2.2.2.1
  have hn0 : ¬ n < 0 := fun q => hn (Or.inl q)
  have hn1 : ¬ 100000 < n.toNatClampNeg := fun q => hn (Or.inr q)
  refine W.anew X.1 X.2.1 X.2.2.2.1 (gv_tw_use hK h1 args) (gv_tw_use hK h2 args) rfl hd rfl hn0 (by omega) hcells hslots fun cA kA comp f1 f2 f3 f4 => ?_
  generalize hH1 : H.push ({ cls := cA, slots := Array.replicate n.toNatClampNeg .null, vm := .none } : Cell) = H1
  have z1 : H1.size = H.size + 1 := by rw [← hH1, Array.size_push]
  have e1 : H1[H.size]? = some (arrV cA n.toNatClampNeg (fun _ => .null)) := by rw [← hH1, Array.getElem?_push_size, ← arrV_new]
  have o1 : ∀ q : Nat, q < H.size → H1[q]? = H[q]? := fun q hq => by rw [← hH1, Array.getElem?_push, if_neg (Nat.ne_of_lt hq)]
  have k9 := kk H1 (hw.push (by
    show H1[G.2.1 h.1]? = some (vp_cell (G.2.2.2.1 3) _)
    obtain ⟨kA2, comp2, -, -, -, b4⟩ := (hK.2.1.2 3 _ rfl).2
    have hcA : cA = G.2.2.2.1 3 := Option.some.inj (f1.symm.trans b4)
    rw [← hw.2.1, e1, hcA]
    rfl) z1 o1)
  rw [hw.2.1]
  exact k9
theorem gv_s7 (hok : ∀ ci r, gv_cl[ci]? = some r → gv_clok ci r) (hd : decode y.2.1 pc = .ok (i, n)) (hc : gv_ck7 y.1.cls pc J i n = true) (hx : gv_x7 J ls st h = some S) (k : gv_go G y d r hf S.1 S.2.1 S.2.2.1 S.2.2.2) : gv_go G y d r hf pc ls st h := by
  unfold gv_ck7 at hc
  split at hc
  · split at hc
    next rr hr =>
      rw [Bool.and_eq_true, Bool.and_eq_true, Bool.and_eq_true, decide_eq_true_eq] at hc
      obtain ⟨⟨⟨⟨rfl, rfl⟩, h1⟩, h2⟩, h3⟩ := hc
      simp only [gv_x7] at hx
      rw [hr] at hx
      cases hx
      exact gv_new hok hr h1 h2 h3 hd k
    next => cases hc
  · rw [Bool.and_eq_true, decide_eq_true_eq] at hc
    obtain ⟨⟨rfl, rfl, rfl⟩, h1⟩ := hc
    simp only [gv_x7] at hx
    split at hx
    next =>
      split at hx
      next => cases hx
      next hn => cases hx; exact gv_newa h1 hn hd k
    next => cases hx
  · rw [Bool.and_eq_true, Bool.and_eq_true, decide_eq_true_eq] at hc
    obtain ⟨⟨⟨rfl, rfl⟩, h1⟩, h2⟩ := hc
    simp only [gv_x7] at hx
    split at hx
    next =>
      split at hx
      next => cases hx
      next hn => cases hx; exact gv_anew h1 h2 hn hd k
    next => cases hx
  · cases hc
end GJA
