section GIA
/-- writing -/
def gv_x6 (J : gv_J) (ls : gv_L) (st : List gv_V) (h : gv_H) : Option gv_S := match J with
  | (76, _, _, _, _, _, nx, _) => match st with
    | Sum.inl x :: Sum.inl i :: Sum.inr (Sum.inr (some a)) :: st => match Nat.beq a 0 with
      | true => none
      | false => match h.2.2 a with
        | some (Sum.inl (0, n, Sum.inl f)) => if i < 0 ∨ n ≤ i.toNatClampNeg then none else some (nx, ls, st, gv_set h a (Sum.inl (0, n, Sum.inl (upd f i.toNatClampNeg x))))
        | _ => none
    | _ => none
  | (77, _, _, _, _, _, nx, _) => match st with
    | Sum.inl x :: Sum.inl i :: Sum.inr (Sum.inr (some a)) :: st => match Nat.beq a 0 with
      | true => none
      | false => match h.2.2 a with
        | some (Sum.inl (2, n, Sum.inl f)) => if i < 0 ∨ n ≤ i.toNatClampNeg then none else if x = 0 ∨ x = 1 then some (nx, ls, st, gv_set h a (Sum.inl (2, n, Sum.inl (upd f i.toNatClampNeg x)))) else none
        | _ => none
    | _ => none
  | (78, _, _, _, _, _, nx, _) => match st with
    | Sum.inr (Sum.inl x) :: Sum.inl i :: Sum.inr (Sum.inr (some a)) :: st => match Nat.beq a 0 with
      | true => none
      | false => match h.2.2 a with
        | some (Sum.inl (1, n, Sum.inl f)) => if i < 0 ∨ n ≤ i.toNatClampNeg then none else if x.toInt32.toInt64 = x then some (nx, ls, st, gv_set h a (Sum.inl (1, n, Sum.inl (upd f i.toNatClampNeg x.toInt32)))) else none
        | _ => none
    | _ => none
  | (79, _, _, _, _, _, nx, _) => match st with
    | Sum.inr (Sum.inr (some v)) :: Sum.inl i :: Sum.inr (Sum.inr (some a)) :: st => match Nat.beq a 0 with
      | true => none
      | false => match h.2.2 a, h.2.2 v with
        | some (Sum.inl (3, n, Sum.inr f)), some (Sum.inr (cj, _)) => if i < 0 ∨ n ≤ i.toNatClampNeg ∨ cj ≠ gv_qi then none else some (nx, ls, st, gv_set h a (Sum.inl (3, n, Sum.inr (va_up f i.toNatClampNeg (some v)))))
        | _, _ => none
    | _ => none
  | (80, _, _, ci, j, _, nx, _) => match st with
    | v :: Sum.inr (Sum.inr (some a)) :: st => match Nat.beq a 0 with
      | true => none
      | false => match h.2.2 a, gv_cl[ci]? with
        | some (Sum.inr (cj, fs)), some r => if cj = ci ∧ j < fs.length ∧ gv_fit (gv_ft r j) v = true then some (nx, ls, st, gv_set h a (Sum.inr (ci, fs.set j v))) else none
        | _, _ => none
    | _ => none
  | _ => none
def gv_ck6 (y : MethodName) (pc : Nat) (J : gv_J) (i : Instr) (n : Nat) : Bool := match J, i with
  | (76, _, _, _, _, _, nx, _), .iastore => decide (n = 1 ∧ nx = pc + 1)
  | (77, _, _, _, _, _, nx, _), .bastore => decide (n = 1 ∧ nx = pc + 1)
  | (78, _, _, _, _, _, nx, _), .lastore => decide (n = 1 ∧ nx = pc + 1)
  | (79, _, _, _, _, _, nx, _), .aastore => decide (n = 1 ∧ nx = pc + 1)
  | (80, _, _, ci, j, wp, nx, _), .putfield x => match gv_cl[ci]? with
    | some r => decide (n = 3 ∧ nx = pc + 3 ∧ j < r.2.2 ∧ ((r.2.1 j).2.2.2 = true → y.name = "<init>" ∧ (r.2.1 j).1 = y.cls)) && gv_tw wp (.fieldLink y.cls x (r.2.1 j).1 (r.2.1 j).2.1 (r.2.1 j).2.2.1)
    | none => false
  | _, _ => false
theorem gv_nz {a : Nat} (h : Nat.beq a 0 = false) : a ≠ 0 := fun e => by rw [e] at h; cases h
theorem gv_arr_set {G : gv_G} {t n : Nat} {f : Nat → Int32} {i x : Int32} (ht : t ≠ 1) : (vp_cell (G.2.2.2.1 t) (gv_arr G.2.1 t n (Sum.inl f))).setSlot i.toNatClampNeg (.int x) = vp_cell (G.2.2.2.1 t) (gv_arr G.2.1 t n (Sum.inl (upd f i.toNatClampNeg x))) := by
  unfold gv_arr
  dsimp only
  rw [if_neg ht, if_neg ht, vp_cell_i, vp_cell_i, arrV_store]
  congr 1
  funext q
  by_cases hq : q = i.toNatClampNeg
  · subst hq
    simp [updV, upd]
  · simp [updV, upd, hq]
variable {G : gv_G} {y : gv_M} {d : Nat} {r : gv_O} {hf : gv_H} {pc : Nat} {J : gv_J} {ls : gv_L} {st : List gv_V} {h : gv_H} {S : gv_S} {i : Instr} {n : Nat}
theorem gv_ain {G : gv_G} {t n : Nat} {x : gv_A} {i : Int32} (hin : ¬ (i < 0 ∨ n ≤ i.toNatClampNeg)) : ¬ (i < 0 ∨ (vp_cell (G.2.2.2.1 t) (gv_arr G.2.1 t n x)).slots.size ≤ i.toNatClampNeg) := by
  have e : (vp_cell (G.2.2.2.1 t) (gv_arr G.2.1 t n x)).slots.size = n := by
    unfold gv_arr
    rcases x with f | f
    · dsimp only
      split
      · rw [vp_cell_l, arrV_size]
      · rw [vp_cell_i, arrV_size]
    · rw [vp_cell_q, arrV_size]
  rw [e]
  exact hin
theorem gv_avm {G : gv_G} {t n : Nat} {x : gv_A} : (vp_cell (G.2.2.2.1 t) (gv_arr G.2.1 t n x)).vm = .none := by
  unfold gv_arr
  rcases x with f | f
  · dsimp only
    split
    · rw [vp_cell_l]; rfl
    · rw [vp_cell_i]; rfl
  · rw [vp_cell_q]; rfl
theorem gv_aof {G : gv_G} {s : State} {t n : Nat} {x : gv_A} {ty : FieldType} (h : ArrOfT s (G.2.2.2.1 t) ty) : s.isArrayOf (vp_cell (G.2.2.2.1 t) (gv_arr G.2.1 t n x)) ty := by
  unfold gv_arr
  rcases x with f | f
  · dsimp only
    split
    · rw [vp_cell_l]; exact h _ _
    · rw [vp_cell_i]; exact h _ _
  · rw [vp_cell_q]; exact h _ _
theorem gv_putf {ci j wp x a : Nat} {rr : vw_C} {fs : List gv_V} {v : gv_V} (hok : ∀ ci r, gv_cl[ci]? = some r → gv_clok ci r) (h0 : a ≠ 0) (hr : gv_cl[ci]? = some rr) (hj : j < rr.2.2) (hfin : (rr.2.1 j).2.2.2 = true → y.1.name = "<init>" ∧ (rr.2.1 j).1 = y.1.cls)
    (hw9 : gv_tw wp (.fieldLink y.1.cls x (rr.2.1 j).1 (rr.2.1 j).2.1 (rr.2.1 j).2.2.1) = true) (hd : decode y.2.1 pc = .ok (.putfield x, 3)) (ha : h.2.2 a = some (Sum.inr (ci, fs))) (hl : j < fs.length) (hfit : gv_fit (gv_ft rr j) v = true)
    (k : gv_go G y d r hf (pc + 3) ls st (gv_set h a (Sum.inr (ci, fs.set j v)))) : gv_go G y d r hf pc ls (v :: gR a :: st) h := by
  obtain ⟨-, o1, o2, o3, -, -⟩ := hok _ _ hr
  refine gv_wr h0 (fun p e R s m args below meth c H locs cells slots Q A X hw hA kk => ?_) k
  have hK := X.2.2.2.2.1.2.1
  have hts := gv_ws X.2.2.2.2.1 o1 args
  have hap := va_apart (own := "") hts (fun _ q => q) (gv_ft rr) o2 o3 hK hr
  obtain ⟨r8, h1, cell, q1, q2, q3, q4⟩ := (hw.2.2.2 a _ ha).2
  have hrr : r8 = rr := Option.some.inj (h1.symm.trans hr)
  subst hrr
  obtain ⟨hS, hfc, kC, hkC, hkind⟩ := hK.1 _ _ hr
  obtain ⟨cf, kf, fi, f, hi, hsl⟩ := hS j hj
  have hlay := hts _ (u_in_lay hj)
  have hst := (u_facts hfc hkC (u_lays hts (fun _ q => q) hj) hi).1
  obtain ⟨hn1, hn2⟩ := gv_fit_ok G.2.1 hfit
  have hend : ∀ H1 : Heap, H1[G.2.1 a]? = some (cell.setSlot (G.2.2.1.2 ci j) (gv_v G.2.1 v)) → H1.size = H.size → (∀ q : Nat, q ≠ G.2.1 a → H1[q]? = H[q]?) → gv_w G (gv_set h a (Sum.inr (ci, fs.set j v))) H1 := by
    intro H1 e1 z1 oq
    refine hw.set h0 ha ⟨_, hr, t_OB.to (V := updV (vp_V (fs.map (gv_v G.2.1))) j (gv_v G.2.1 v)) ⟨_, e1, q2, q3, t_set q4 hap hj _⟩ (fun b _ => ?_)⟩ z1 oq
    rw [vp_updV_set (by rw [List.length_map]; exact hl)]
    show _ = vp_V ((fs.set j v).map (gv_v G.2.1)) b
    rw [List.map_set]
  unfold u_lay at hlay
  by_cases hF : (r8.2.1 j).2.2.2 = true
  · rw [if_pos hF] at hlay
    obtain ⟨hin2, hdecl⟩ := hfin hF
    have hcf : m.cls = cf := by
      obtain ⟨_, _, c', _, _, _, -, -, hf', -, -, -, hown2, -⟩ := Cond.laysFinal_spec hlay
      have e1 : c' = cf := by have := hi.symm.trans hf'; simp at this; exact this.1.symm
      rw [hdecl] at hown2
      rw [← e1]; exact Option.some.inj (X.2.2.2.1.symm.trans hown2)
    have h6 := u_fits hfc hkC hkind (Or.inr hlay) hi (o2 j hj) hn1 hn2
    refine W.putFinK X.1 X.2.1 X.2.2.2.1 (gv_tw_use X.2.2.2.2.1 hw9 args) hi hst hcf (X.2.2.2.2.2.2.2.1.trans hin2) (by rw [q2]; exact h6) q1 q3 (by rw [hsl]; exact k2_hasslot (q4 j hj)) rfl rfl hd fun H1 e1 z1 oq => ?_
    rw [hsl] at e1 ⊢
    exact kk H1 _ (hend H1 e1 z1 oq)
  · rw [if_neg hF] at hlay
    have h6 := u_store hfc hkC hkind hlay hi (o2 j hj) hn1 hn2
    refine W.putK X.1 X.2.1 (f := f) ⟨X.2.2.2.1, gv_tw_use X.2.2.2.2.1 hw9 args, ⟨_, _, _, hi⟩, hst⟩ (by rw [q2]; exact h6) q1 q3 (by rw [hsl]; exact k2_hasslot (q4 j hj)) rfl rfl hd fun H1 e1 z1 oq => ?_
    rw [hsl] at e1 ⊢
    exact kk H1 _ (hend H1 e1 z1 oq)
theorem gv_s6 (hok : ∀ ci r, gv_cl[ci]? = some r → gv_clok ci r) (hqi : ∃ r, gv_cl[gv_qi]? = some r ∧ r.1 = gv_qc) (hd : decode y.2.1 pc = .ok (i, n)) (hc : gv_ck6 y.1 pc J i n = true) (hx : gv_x6 J ls st h = some S) (k : gv_go G y d r hf S.1 S.2.1 S.2.2.1 S.2.2.2) : gv_go G y d r hf pc ls st h := by
  unfold gv_ck6 at hc
  split at hc
  · rw [decide_eq_true_eq] at hc
    obtain ⟨rfl, rfl⟩ := hc
    simp only [gv_x6] at hx
    split at hx
    next x ix a st =>
      split at hx
      next => cases hx
      next h0 =>
       have h0 := gv_nz h0
       split at hx
       next n9 f ha =>
        split at hx
        next => cases hx
        next hin =>
          cases hx
          refine gv_wr h0 (fun p e R s m args below meth c H locs cells slots Q A X hw hA kk => ?_) k
          have hcell : H[G.2.1 a]? = some (vp_cell (G.2.2.2.1 0) (gv_arr G.2.1 0 n9 (Sum.inl f))) := (hw.2.2.2 a _ ha).2
          refine W.iast X.1 X.2.1 hcell (gv_aof (X.2.2.2.2.1.2.1.2 0 _ rfl).1) (by rw [gv_avm]; exact fun q => by cases q) (gv_ain hin) rfl rfl hd fun H1 e1 z1 oq => kk H1 _ (hw.set h0 ha ?_ z1 oq)
          show H1[G.2.1 a]? = some (vp_cell (G.2.2.2.1 0) (gv_arr G.2.1 0 n9 (Sum.inl (upd f ix.toNatClampNeg x))))
          rw [e1, gv_arr_set (by decide)]
       next => cases hx
    next => cases hx
  · rw [decide_eq_true_eq] at hc
    obtain ⟨rfl, rfl⟩ := hc
    simp only [gv_x6] at hx
    split at hx
    next x ix a st =>
      split at hx
      next => cases hx
      next h0 =>
       have h0 := gv_nz h0
       split at hx
       next n9 f ha =>
        split at hx
        next => cases hx
        next hin =>
          split at hx
          next h01 =>
            cases hx
            refine gv_wr h0 (fun p e R s m args below meth c H locs cells slots Q A X hw hA kk => ?_) k
            have hcell : H[G.2.1 a]? = some (vp_cell (G.2.2.2.1 2) (gv_arr G.2.1 2 n9 (Sum.inl f))) := (hw.2.2.2 a _ ha).2
            refine W.zast X.1 X.2.1 hcell (gv_aof (X.2.2.2.2.1.2.1.2 2 _ rfl).1) (by rw [gv_avm]; exact fun q => by cases q) (gv_ain hin) rfl rfl hd fun H1 e1 z1 oq => kk H1 _ (hw.set h0 ha ?_ z1 oq)
            show H1[G.2.1 a]? = some (vp_cell (G.2.2.2.1 2) (gv_arr G.2.1 2 n9 (Sum.inl (upd f ix.toNatClampNeg x))))
            have hnar : narrow .boolean (.int x) = .int x := by
              rcases h01 with q | q <;> subst q <;> rfl
            rw [e1, hnar, gv_arr_set (by decide)]
          next => cases hx
       next => cases hx
    next => cases hx
  · rw [decide_eq_true_eq] at hc
    obtain ⟨rfl, rfl⟩ := hc
    simp only [gv_x6] at hx
    split at hx
    next x ix a st =>
      split at hx
      next => cases hx
      next h0 =>
       have h0 := gv_nz h0
       split at hx
       next n9 f ha =>
        split at hx
        next => cases hx
        next hin =>
          split at hx
          next h01 =>
            cases hx
            refine gv_wr h0 (fun p e R s m args below meth c H locs cells slots Q A X hw hA kk => ?_) k
            have hcell : H[G.2.1 a]? = some (vp_cell (G.2.2.2.1 1) (gv_arr G.2.1 1 n9 (Sum.inl f))) := (hw.2.2.2 a _ ha).2
            refine W.last X.1 X.2.1 hcell (gv_aof (X.2.2.2.2.1.2.1.2 1 _ rfl).1) (by rw [gv_avm]; exact fun q => by cases q) (gv_ain hin) rfl rfl hd fun H1 e1 z1 oq => kk H1 _ (hw.set h0 ha ?_ z1 oq)
            show H1[G.2.1 a]? = some (vp_cell (G.2.2.2.1 1) (gv_arr G.2.1 1 n9 (Sum.inl (upd f ix.toNatClampNeg x.toInt32))))
            rw [e1]
            unfold gv_arr
            dsimp only
            rw [if_pos rfl, if_pos rfl, vp_cell_l, vp_cell_l, arrV_store]
            congr 2
            funext q
            by_cases hq : q = ix.toNatClampNeg
            · subst hq
              simp [updV, upd, h01]
            · simp [updV, upd, hq]
          next => cases hx
       next => cases hx
    next => cases hx
  · rw [decide_eq_true_eq] at hc
    obtain ⟨rfl, rfl⟩ := hc
    simp only [gv_x6] at hx
    split at hx
    next v ix a st =>
      split at hx
      next => cases hx
      next h0 =>
       have h0 := gv_nz h0
       split at hx
       next n9 f cj fs ha hv =>
        split at hx
        next => cases hx
        next hin =>
          cases hx
          have hin1 : ¬ (ix < 0 ∨ n9 ≤ ix.toNatClampNeg) := fun q => hin (q.elim Or.inl (fun q => Or.inr (Or.inl q)))
          have hcj : cj = gv_qi := Classical.byContradiction (fun q => hin (Or.inr (Or.inr q)))
          subst hcj
          refine gv_wr h0 (fun p e R s m args below meth c H locs cells slots Q A X hw hA kk => ?_) k
          have hcell : H[G.2.1 a]? = some (vp_cell (G.2.2.2.1 3) (gv_arr G.2.1 3 n9 (Sum.inr f))) := (hw.2.2.2 a _ ha).2
          obtain ⟨r', hr', cellV, g1, g2, g3, -⟩ := (hw.2.2.2 v _ hv).2
          obtain ⟨rq, hq1, hq2⟩ := hqi
          have hcls := (X.2.2.2.2.1.2.1.1 gv_qi rq hq1).2
          rw [hq2] at hcls
          obtain ⟨kA, comp, k1, k2, k3, -⟩ := (X.2.2.2.2.1.2.1.2 3 _ rfl).2
          have hcomp : comp = G.2.2.1.1 gv_qi := Option.some.inj (k3.symm.trans hcls.1)
          subst hcomp
          obtain ⟨kC, hkC, -⟩ := hcls.2
          refine W.aast X.1 X.2.1 hcell (fun q hh => by rw [gv_avm] at hh; cases hh) (fun hh => by rw [gv_avm] at hh; cases hh) k1 k2 rfl hkC ⟨fun q => hin1 (Or.inl q), Nat.not_le.mp (fun q => gv_ain (G := G) (t := 3) (x := Sum.inr f) hin1 (Or.inr q))⟩ g1 (fun q hh => by rw [g3] at hh; cases hh) (by rw [g2]; exact hkC) (by rw [g2]; exact va_assign hcls) rfl rfl hd fun H1 e1 z1 oq => kk H1 _ (hw.set h0 ha ?_ z1 oq)
          show H1[G.2.1 a]? = some (vp_cell (G.2.2.2.1 3) (gv_arr G.2.1 3 n9 (Sum.inr (va_up f ix.toNatClampNeg (some v)))))
          rw [e1]
          unfold gv_arr
          dsimp only
          rw [vp_cell_q, vp_cell_q, arrV_store]
          congr 2
          funext q
          by_cases hq : q = ix.toNatClampNeg
          · subst hq
            simp [updV, va_up, va_rf]
          · simp [updV, va_up, hq]
       next => cases hx
    next => cases hx
  · split at hc
    next rr hr =>
      rw [Bool.and_eq_true, decide_eq_true_eq] at hc
      obtain ⟨⟨rfl, rfl, hj, hfin⟩, hw9⟩ := hc
      simp only [gv_x6] at hx
      split at hx
      next v a st =>
        split at hx
        next => cases hx
        next h0 =>
         have h0 := gv_nz h0
         rw [hr] at hx
         split at hx
         next cj fs r2 ha hr2 =>
          cases hr2
          split at hx
          next hq9 =>
            obtain ⟨rfl, hl, hfit⟩ := hq9
            cases hx
            exact gv_putf hok h0 hr hj hfin hw9 hd ha hl hfit k
          next => cases hx
         next => cases hx
      next => cases hx
    next => cases hc
  · cases hc
end GIA
