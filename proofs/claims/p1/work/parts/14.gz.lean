section GZB
theorem gv_c1 {z : Nat → Nat} {v : gv_V} (h : ¬ gv_isL (some (some v)) = true) : (gv_v z v).category = 1 := (lv_cat _).resolve_right (fun q => h (gv_cat.mp q))
def gv_ck2 (pc : Nat) (J : gv_J) (i : Instr) (n : Nat) : Bool := match J, i with
  | (20, _, _, _, _, _, nx, _), .iadd => decide (n = 1 ∧ nx = pc + 1)
  | (21, _, _, _, _, _, nx, _), .isub => decide (n = 1 ∧ nx = pc + 1)
  | (22, _, _, _, _, _, nx, _), .imul => decide (n = 1 ∧ nx = pc + 1)
  | (23, _, _, _, _, _, nx, _), .iand => decide (n = 1 ∧ nx = pc + 1)
  | (24, _, _, _, _, _, nx, _), .ior => decide (n = 1 ∧ nx = pc + 1)
  | (25, _, _, _, _, _, nx, _), .ishl => decide (n = 1 ∧ nx = pc + 1)
  | (26, _, _, _, _, _, nx, _), .ishr => decide (n = 1 ∧ nx = pc + 1)
  | (27, _, _, _, _, _, nx, _), .idiv => decide (n = 1 ∧ nx = pc + 1)
  | (28, _, _, _, _, _, nx, _), .iushr => decide (n = 1 ∧ nx = pc + 1)
  | (30, _, _, _, _, _, nx, _), .i2l => decide (n = 1 ∧ nx = pc + 1)
  | (31, _, _, _, _, _, nx, _), .l2i => decide (n = 1 ∧ nx = pc + 1)
  | (32, _, _, _, _, _, nx, _), .ladd => decide (n = 1 ∧ nx = pc + 1)
  | (33, _, _, _, _, _, nx, _), .lsub => decide (n = 1 ∧ nx = pc + 1)
  | (34, _, _, _, _, _, nx, _), .lmul => decide (n = 1 ∧ nx = pc + 1)
  | (35, _, _, _, _, _, nx, _), .ldiv => decide (n = 1 ∧ nx = pc + 1)
  | (36, _, _, _, _, _, nx, _), .lcmp => decide (n = 1 ∧ nx = pc + 1)
  | (37, _, _, _, _, _, nx, _), .lshl => decide (n = 1 ∧ nx = pc + 1)
  | (38, _, _, _, _, _, nx, _), .lshr => decide (n = 1 ∧ nx = pc + 1)
  | _, _ => false
def gv_ck3 (pc : Nat) (J : gv_J) (i : Instr) (n : Nat) : Bool := match J, i with
  | (40, _, _, _, _, _, nx, _), .dup => decide (n = 1 ∧ nx = pc + 1)
  | (41, _, _, _, _, _, nx, _), .dup2 => decide (n = 1 ∧ nx = pc + 1)
  | (42, _, _, _, _, _, nx, _), .dup_x1 => decide (n = 1 ∧ nx = pc + 1)
  | (43, _, _, _, _, _, nx, _), .dup_x2 => decide (n = 1 ∧ nx = pc + 1)
  | (44, _, _, _, _, _, nx, _), .pop => decide (n = 1 ∧ nx = pc + 1)
  | _, _ => false
def gv_ck4 (pc : Nat) (J : gv_J) (i : Instr) (n : Nat) : Bool := match J, i with
  | (50, _, _, a, _, _, nx, _), .ifCond .eq o => decide (n = 3 ∧ nx = pc + 3 ∧ (pc : Int) + o = (a : Int))
  | (51, _, _, a, _, _, nx, _), .ifCond .ne o => decide (n = 3 ∧ nx = pc + 3 ∧ (pc : Int) + o = (a : Int))
  | (52, _, _, a, _, _, nx, _), .ifCond .lt o => decide (n = 3 ∧ nx = pc + 3 ∧ (pc : Int) + o = (a : Int))
  | (53, _, _, a, _, _, nx, _), .ifCond .ge o => decide (n = 3 ∧ nx = pc + 3 ∧ (pc : Int) + o = (a : Int))
  | (54, _, _, a, _, _, nx, _), .ifCond .gt o => decide (n = 3 ∧ nx = pc + 3 ∧ (pc : Int) + o = (a : Int))
  | (55, _, _, a, _, _, nx, _), .ifCond .le o => decide (n = 3 ∧ nx = pc + 3 ∧ (pc : Int) + o = (a : Int))
  | (56, _, _, a, _, _, nx, _), .if_icmp .eq o => decide (n = 3 ∧ nx = pc + 3 ∧ (pc : Int) + o = (a : Int))
  | (57, _, _, a, _, _, nx, _), .if_icmp .ne o => decide (n = 3 ∧ nx = pc + 3 ∧ (pc : Int) + o = (a : Int))
  | (58, _, _, a, _, _, nx, _), .if_icmp .lt o => decide (n = 3 ∧ nx = pc + 3 ∧ (pc : Int) + o = (a : Int))
  | (59, _, _, a, _, _, nx, _), .if_icmp .ge o => decide (n = 3 ∧ nx = pc + 3 ∧ (pc : Int) + o = (a : Int))
  | (60, _, _, a, _, _, nx, _), .if_icmp .gt o => decide (n = 3 ∧ nx = pc + 3 ∧ (pc : Int) + o = (a : Int))
  | (61, _, _, a, _, _, nx, _), .if_icmp .le o => decide (n = 3 ∧ nx = pc + 3 ∧ (pc : Int) + o = (a : Int))
  | (62, _, _, a, _, _, _, tb), .tableswitch df lo hi os => decide ((pc : Int) + df = (a : Int) ∧ hi = lo + os.size - 1 ∧ tb.length = os.size) && (List.range os.size).all (fun j => match tb[j]?, os[j]? with
    | some q, some o => decide (q.1.toInt = lo + (j : Int) ∧ (pc : Int) + o = (q.2 : Int))
    | _, _ => false)
  | _, _ => false
theorem gv_sw_none {x : Int32} {a : Nat} : ∀ {tb : List (Int32 × Nat)}, (∀ q ∈ tb, q.1 ≠ x) → gv_sw x a tb = a
  | [], _ => rfl
  | (k, t) :: l, h => by
    unfold gv_sw
    rw [if_neg (fun e => h (k, t) List.mem_cons_self e.symm)]
    exact gv_sw_none (fun q hq => h q (List.mem_cons_of_mem _ hq))
theorem gv_sw_some {x : Int32} {a t : Nat} : ∀ {tb : List (Int32 × Nat)} {i : Nat}, tb[i]? = some (x, t) → (∀ j q, j < i → tb[j]? = some q → q.1 ≠ x) → gv_sw x a tb = t
  | [], i, h, _ => by simp at h
  | (k, t9) :: l, 0, h, _ => by
    simp at h
    unfold gv_sw
    rw [if_pos h.1.symm, h.2]
  | (k, t9) :: l, i + 1, h, hn => by
    unfold gv_sw
    rw [if_neg (fun e => hn 0 (k, t9) (Nat.succ_pos _) rfl e.symm)]
    exact gv_sw_some (i := i) (by simpa using h) (fun j q hj hq => hn (j + 1) q (by omega) (by simpa using hq))
variable {G : gv_G} {y : gv_M} {d : Nat} {r : gv_O} {hf : gv_H} {pc : Nat} {J : gv_J} {ls : gv_L} {st : List gv_V} {h : gv_H} {S : gv_S} {i : Instr} {n : Nat}
theorem gv_tsw {a : Nat} {tb : List (Int32 × Nat)} {df lo hi : Int} {os : Array Int} {x : Int32} (hd : decode y.2.1 pc = .ok (.tableswitch df lo hi os, n)) (hdf : (pc : Int) + df = (a : Int)) (hhi : hi = lo + os.size - 1) (hln : tb.length = os.size)
    (hall : (List.range os.size).all (fun j => match tb[j]?, os[j]? with
    | some q, some o => decide (q.1.toInt = lo + (j : Int) ∧ (pc : Int) + o = (q.2 : Int))
    | _, _ => false) = true) (k : gv_go G y d r hf (gv_sw x a tb) ls st h) : gv_go G y d r hf pc ls (gI x :: st) h := by
  have key : ∀ j, j < os.size → ∃ k t o, tb[j]? = some (k, t) ∧ os[j]? = some o ∧ k.toInt = lo + (j : Int) ∧ (pc : Int) + o = (t : Int) := by
    intro j hj
    have h1 := List.all_eq_true.mp hall j (List.mem_range.mpr hj)
    split at h1
    next q o e1 e2 =>
      rw [decide_eq_true_eq] at h1
      exact ⟨q.1, q.2, o, e1, e2, h1.1, h1.2⟩
    next => cases h1
  refine gv_pure (fun p e R s m args below meth c H locs cells slots Q A X hw hA kk => ?_) k
  have k9 := kk A hA
  by_cases hout : x.toInt < lo ∨ hi < x.toInt
  · refine lv_tableOut X.1 X.2.1 hd hout hdf ?_
    rw [gv_sw_none (fun q hq e => ?_)] at k9
    · exact k9
    · obtain ⟨j, hj⟩ := List.getElem?_of_mem hq
      have hjl : j < os.size := by rw [← hln]; exact (List.getElem?_eq_some_iff.mp hj).1
      obtain ⟨k, t, o, e1, -, e3, -⟩ := key j hjl
      rw [hj] at e1
      cases e1
      have e : k = x := e
      rw [e] at e3
      omega
  · have h1 : ¬ x.toInt < lo := fun q => hout (Or.inl q)
    have h2 : ¬ hi < x.toInt := fun q => hout (Or.inr q)
    have hj : (x.toInt - lo).toNat < os.size := by omega
    obtain ⟨k, t, o, e1, e2, e3, e4⟩ := key _ hj
    have hk : k = x := Int32.toInt_inj.mp (by omega)
    subst hk
    refine lv_tableIn X.1 X.2.1 hd h1 h2 e2 e4 ?_
    rw [gv_sw_some e1 (fun j q hj9 hq e => ?_)] at k9
    · exact k9
    · obtain ⟨k, t, o, a1, -, a3, -⟩ := key j (by omega)
      rw [hq] at a1
      cases a1
      dsimp only at e
      rw [e] at a3
      omega
theorem gv_s2 (hd : decode y.2.1 pc = .ok (i, n)) (hc : gv_ck2 pc J i n = true) (hx : gv_x2 J ls st h = some S) (k : gv_go G y d r hf S.1 S.2.1 S.2.2.1 S.2.2.2) : gv_go G y d r hf pc ls st h := by
  unfold gv_ck2 at hc
  split at hc
  · rw [decide_eq_true_eq] at hc
    obtain ⟨rfl, rfl⟩ := hc
    simp only [gv_x2] at hx
    split at hx
    next => cases hx; exact gv_pure (fun p e R s m args below meth c H locs cells slots Q A X hw hA kk => lv_iadd X.1 X.2.1 hd (kk A hA)) k
    next => cases hx
  · rw [decide_eq_true_eq] at hc
    obtain ⟨rfl, rfl⟩ := hc
    simp only [gv_x2] at hx
    split at hx
    next => cases hx; exact gv_pure (fun p e R s m args below meth c H locs cells slots Q A X hw hA kk => lv_isub X.1 X.2.1 hd (kk A hA)) k
    next => cases hx
  · rw [decide_eq_true_eq] at hc
    obtain ⟨rfl, rfl⟩ := hc
    simp only [gv_x2] at hx
    split at hx
    next => cases hx; exact gv_pure (fun p e R s m args below meth c H locs cells slots Q A X hw hA kk => lv_imul X.1 X.2.1 hd (kk A hA)) k
    next => cases hx
  · rw [decide_eq_true_eq] at hc
    obtain ⟨rfl, rfl⟩ := hc
    simp only [gv_x2] at hx
    split at hx
    next => cases hx; exact gv_pure (fun p e R s m args below meth c H locs cells slots Q A X hw hA kk => lv_iand X.1 X.2.1 hd (kk A hA)) k
    next => cases hx
  · rw [decide_eq_true_eq] at hc
    obtain ⟨rfl, rfl⟩ := hc
    simp only [gv_x2] at hx
    split at hx
    next => cases hx; exact gv_pure (fun p e R s m args below meth c H locs cells slots Q A X hw hA kk => lv_ior X.1 X.2.1 hd (kk A hA)) k
    next => cases hx
  · rw [decide_eq_true_eq] at hc
    obtain ⟨rfl, rfl⟩ := hc
    simp only [gv_x2] at hx
    split at hx
    next => cases hx; exact gv_pure (fun p e R s m args below meth c H locs cells slots Q A X hw hA kk => lv_ishl X.1 X.2.1 hd (kk A hA)) k
    next => cases hx
  · rw [decide_eq_true_eq] at hc
    obtain ⟨rfl, rfl⟩ := hc
    simp only [gv_x2] at hx
    split at hx
    next => cases hx; exact gv_pure (fun p e R s m args below meth c H locs cells slots Q A X hw hA kk => lv_ishr X.1 X.2.1 hd (kk A hA)) k
    next => cases hx
  · rw [decide_eq_true_eq] at hc
    obtain ⟨rfl, rfl⟩ := hc
    simp only [gv_x2] at hx
    split at hx
    next =>
      split at hx
      next => cases hx
      next hne => cases hx; exact gv_pure (fun p e R s m args below meth c H locs cells slots Q A X hw hA kk => lv_idiv X.1 X.2.1 hd hne (kk A hA)) k
    next => cases hx
  · rw [decide_eq_true_eq] at hc
    obtain ⟨rfl, rfl⟩ := hc
    simp only [gv_x2] at hx
    split at hx
    next => cases hx; exact gv_pure (fun p e R s m args below meth c H locs cells slots Q A X hw hA kk => lv_iushr X.1 X.2.1 hd rfl (kk A hA)) k
    next => cases hx
  · rw [decide_eq_true_eq] at hc
    obtain ⟨rfl, rfl⟩ := hc
    simp only [gv_x2] at hx
    split at hx
    next => cases hx; exact gv_pure (fun p e R s m args below meth c H locs cells slots Q A X hw hA kk => lv_i2l X.1 X.2.1 hd rfl (kk A hA)) k
    next => cases hx
  · rw [decide_eq_true_eq] at hc
    obtain ⟨rfl, rfl⟩ := hc
    simp only [gv_x2] at hx
    split at hx
    next => cases hx; exact gv_pure (fun p e R s m args below meth c H locs cells slots Q A X hw hA kk => lv_l2i X.1 X.2.1 hd rfl (kk A hA)) k
    next => cases hx
  · rw [decide_eq_true_eq] at hc
    obtain ⟨rfl, rfl⟩ := hc
    simp only [gv_x2] at hx
    split at hx
    next => cases hx; exact gv_pure (fun p e R s m args below meth c H locs cells slots Q A X hw hA kk => lv_ladd X.1 X.2.1 hd (kk A hA)) k
    next => cases hx
  · rw [decide_eq_true_eq] at hc
    obtain ⟨rfl, rfl⟩ := hc
    simp only [gv_x2] at hx
    split at hx
    next => cases hx; exact gv_pure (fun p e R s m args below meth c H locs cells slots Q A X hw hA kk => lv_lsub X.1 X.2.1 hd (kk A hA)) k
    next => cases hx
  · rw [decide_eq_true_eq] at hc
    obtain ⟨rfl, rfl⟩ := hc
    simp only [gv_x2] at hx
    split at hx
    next => cases hx; exact gv_pure (fun p e R s m args below meth c H locs cells slots Q A X hw hA kk => lv_lmul X.1 X.2.1 hd (kk A hA)) k
    next => cases hx
  · rw [decide_eq_true_eq] at hc
    obtain ⟨rfl, rfl⟩ := hc
    simp only [gv_x2] at hx
    split at hx
    next =>
      split at hx
      next => cases hx
      next hne => cases hx; exact gv_pure (fun p e R s m args below meth c H locs cells slots Q A X hw hA kk => lv_ldiv X.1 X.2.1 hd hne (kk A hA)) k
    next => cases hx
  · rw [decide_eq_true_eq] at hc
    obtain ⟨rfl, rfl⟩ := hc
    simp only [gv_x2] at hx
    split at hx
    next => cases hx; exact gv_pure (fun p e R s m args below meth c H locs cells slots Q A X hw hA kk => W.lcmp X.1 X.2.1 hd (kk A hA)) k
    next => cases hx
  · rw [decide_eq_true_eq] at hc
    obtain ⟨rfl, rfl⟩ := hc
    simp only [gv_x2] at hx
    split at hx
    next => cases hx; exact gv_pure (fun p e R s m args below meth c H locs cells slots Q A X hw hA kk => lv_lshl X.1 X.2.1 hd rfl (kk A hA)) k
    next => cases hx
  · rw [decide_eq_true_eq] at hc
    obtain ⟨rfl, rfl⟩ := hc
    simp only [gv_x2] at hx
    split at hx
    next => cases hx; exact gv_pure (fun p e R s m args below meth c H locs cells slots Q A X hw hA kk => lv_lshr X.1 X.2.1 hd rfl (kk A hA)) k
    next => cases hx
  · cases hc
theorem gv_s3 (hd : decode y.2.1 pc = .ok (i, n)) (hc : gv_ck3 pc J i n = true) (hx : gv_x3 J ls st h = some S) (k : gv_go G y d r hf S.1 S.2.1 S.2.2.1 S.2.2.2) : gv_go G y d r hf pc ls st h := by
  unfold gv_ck3 at hc
  split at hc
  · rw [decide_eq_true_eq] at hc
    obtain ⟨rfl, rfl⟩ := hc
    simp only [gv_x3] at hx
    split at hx
    next =>
      split at hx
      next => cases hx
      next hq =>
        cases hx
        have h0 := hq
        exact gv_pure (fun p e R s m args below meth c H locs cells slots Q A X hw hA kk => lv_dup X.1 X.2.1 hd (gv_c1 h0) (kk A hA)) k
    next => cases hx
  · rw [decide_eq_true_eq] at hc
    obtain ⟨rfl, rfl⟩ := hc
    simp only [gv_x3] at hx
    split at hx
    next =>
      split at hx
      next => cases hx
      next hq =>
        cases hx
        rw [Bool.or_eq_true] at hq
        have h0 := fun q => hq (Or.inl q)
        have h1 := fun q => hq (Or.inr q)
        exact gv_pure (fun p e R s m args below meth c H locs cells slots Q A X hw hA kk => lv_dup2_11 X.1 X.2.1 hd (gv_c1 h0) (gv_c1 h1) (kk A hA)) k
    next => cases hx
  · rw [decide_eq_true_eq] at hc
    obtain ⟨rfl, rfl⟩ := hc
    simp only [gv_x3] at hx
    split at hx
    next =>
      split at hx
      next => cases hx
      next hq =>
        cases hx
        rw [Bool.or_eq_true] at hq
        have h0 := fun q => hq (Or.inl q)
        have h1 := fun q => hq (Or.inr q)
        exact gv_pure (fun p e R s m args below meth c H locs cells slots Q A X hw hA kk => lv_dup_x1 X.1 X.2.1 hd (gv_c1 h0) (gv_c1 h1) (kk A hA)) k
    next => cases hx
  · rw [decide_eq_true_eq] at hc
    obtain ⟨rfl, rfl⟩ := hc
    simp only [gv_x3] at hx
    split at hx
    next =>
      split at hx
      next => cases hx
      next hq =>
        cases hx
        rw [Bool.or_eq_true, Bool.or_eq_true] at hq
        have h0 := fun q => hq (Or.inl (Or.inl q))
        have h1 := fun q => hq (Or.inl (Or.inr q))
        have h2 := fun q => hq (Or.inr q)
        exact gv_pure (fun p e R s m args below meth c H locs cells slots Q A X hw hA kk => lv_dup_x2 X.1 X.2.1 hd (gv_c1 h0) (gv_c1 h1) (gv_c1 h2) (kk A hA)) k
    next => cases hx
  · rw [decide_eq_true_eq] at hc
    obtain ⟨rfl, rfl⟩ := hc
    simp only [gv_x3] at hx
    split at hx
    next =>
      split at hx
      next => cases hx
      next hq =>
        cases hx
        have h0 := hq
        exact gv_pure (fun p e R s m args below meth c H locs cells slots Q A X hw hA kk => lv_pop X.1 X.2.1 hd (gv_c1 h0) (kk A hA)) k
    next => cases hx
  · cases hc
theorem gv_s4 (hd : decode y.2.1 pc = .ok (i, n)) (hc : gv_ck4 pc J i n = true) (hx : gv_x4 J ls st h = some S) (k : gv_go G y d r hf S.1 S.2.1 S.2.2.1 S.2.2.2) : gv_go G y d r hf pc ls st h := by
  unfold gv_ck4 at hc
  split at hc
  · rw [decide_eq_true_eq] at hc
    obtain ⟨rfl, rfl, ht⟩ := hc
    simp only [gv_x4] at hx
    split at hx
    next => cases hx; exact gv_pure (fun p e R s m args below meth c H locs cells slots Q A X hw hA kk => lv_if_eq X.1 X.2.1 hd ht (fun q => by have k9 := kk A hA; rw [if_pos q] at k9; exact k9) (fun q => by have k9 := kk A hA; rw [if_neg q] at k9; exact k9)) k
    next => cases hx
  · rw [decide_eq_true_eq] at hc
    obtain ⟨rfl, rfl, ht⟩ := hc
    simp only [gv_x4] at hx
    split at hx
    next => cases hx; exact gv_pure (fun p e R s m args below meth c H locs cells slots Q A X hw hA kk => lv_if_ne X.1 X.2.1 hd ht (fun q => by have k9 := kk A hA; rw [if_pos q] at k9; exact k9) (fun q => by have k9 := kk A hA; rw [if_neg (not_not_intro q)] at k9; exact k9)) k
    next => cases hx
  · rw [decide_eq_true_eq] at hc
    obtain ⟨rfl, rfl, ht⟩ := hc
    simp only [gv_x4] at hx
    split at hx
    next => cases hx; exact gv_pure (fun p e R s m args below meth c H locs cells slots Q A X hw hA kk => lv_if_lt X.1 X.2.1 hd ht (fun q => by have k9 := kk A hA; rw [if_pos q] at k9; exact k9) (fun q => by have k9 := kk A hA; rw [if_neg q] at k9; exact k9)) k
    next => cases hx
  · rw [decide_eq_true_eq] at hc
    obtain ⟨rfl, rfl, ht⟩ := hc
    simp only [gv_x4] at hx
    split at hx
    next => cases hx; exact gv_pure (fun p e R s m args below meth c H locs cells slots Q A X hw hA kk => lv_if_ge X.1 X.2.1 hd ht (fun q => by have k9 := kk A hA; rw [if_pos q] at k9; exact k9) (fun q => by have k9 := kk A hA; rw [if_neg q] at k9; exact k9)) k
    next => cases hx
  · rw [decide_eq_true_eq] at hc
    obtain ⟨rfl, rfl, ht⟩ := hc
    simp only [gv_x4] at hx
    split at hx
    next => cases hx; exact gv_pure (fun p e R s m args below meth c H locs cells slots Q A X hw hA kk => lv_if_gt X.1 X.2.1 hd ht (fun q => by have k9 := kk A hA; rw [if_pos q] at k9; exact k9) (fun q => by have k9 := kk A hA; rw [if_neg q] at k9; exact k9)) k
    next => cases hx
  · rw [decide_eq_true_eq] at hc
    obtain ⟨rfl, rfl, ht⟩ := hc
    simp only [gv_x4] at hx
    split at hx
    next => cases hx; exact gv_pure (fun p e R s m args below meth c H locs cells slots Q A X hw hA kk => lv_if_le X.1 X.2.1 hd ht (fun q => by have k9 := kk A hA; rw [if_pos q] at k9; exact k9) (fun q => by have k9 := kk A hA; rw [if_neg q] at k9; exact k9)) k
    next => cases hx
  · rw [decide_eq_true_eq] at hc
    obtain ⟨rfl, rfl, ht⟩ := hc
    simp only [gv_x4] at hx
    split at hx
    next => cases hx; exact gv_pure (fun p e R s m args below meth c H locs cells slots Q A X hw hA kk => lv_icmp_eq X.1 X.2.1 hd ht (fun q => by have k9 := kk A hA; rw [if_pos q] at k9; exact k9) (fun q => by have k9 := kk A hA; rw [if_neg q] at k9; exact k9)) k
    next => cases hx
  · rw [decide_eq_true_eq] at hc
    obtain ⟨rfl, rfl, ht⟩ := hc
    simp only [gv_x4] at hx
    split at hx
    next => cases hx; exact gv_pure (fun p e R s m args below meth c H locs cells slots Q A X hw hA kk => lv_icmp_ne X.1 X.2.1 hd ht (fun q => by have k9 := kk A hA; rw [if_pos q] at k9; exact k9) (fun q => by have k9 := kk A hA; rw [if_neg (not_not_intro q)] at k9; exact k9)) k
    next => cases hx
  · rw [decide_eq_true_eq] at hc
    obtain ⟨rfl, rfl, ht⟩ := hc
    simp only [gv_x4] at hx
    split at hx
    next => cases hx; exact gv_pure (fun p e R s m args below meth c H locs cells slots Q A X hw hA kk => lv_icmp_lt X.1 X.2.1 hd ht (fun q => by have k9 := kk A hA; rw [if_pos q] at k9; exact k9) (fun q => by have k9 := kk A hA; rw [if_neg q] at k9; exact k9)) k
    next => cases hx
  · rw [decide_eq_true_eq] at hc
    obtain ⟨rfl, rfl, ht⟩ := hc
    simp only [gv_x4] at hx
    split at hx
    next => cases hx; exact gv_pure (fun p e R s m args below meth c H locs cells slots Q A X hw hA kk => lv_icmp_ge X.1 X.2.1 hd ht (fun q => by have k9 := kk A hA; rw [if_pos q] at k9; exact k9) (fun q => by have k9 := kk A hA; rw [if_neg q] at k9; exact k9)) k
    next => cases hx
  · rw [decide_eq_true_eq] at hc
    obtain ⟨rfl, rfl, ht⟩ := hc
    simp only [gv_x4] at hx
    split at hx
    next => cases hx; exact gv_pure (fun p e R s m args below meth c H locs cells slots Q A X hw hA kk => lv_icmp_gt X.1 X.2.1 hd ht (fun q => by have k9 := kk A hA; rw [if_pos q] at k9; exact k9) (fun q => by have k9 := kk A hA; rw [if_neg q] at k9; exact k9)) k
    next => cases hx
  · rw [decide_eq_true_eq] at hc
    obtain ⟨rfl, rfl, ht⟩ := hc
    simp only [gv_x4] at hx
    split at hx
    next => cases hx; exact gv_pure (fun p e R s m args below meth c H locs cells slots Q A X hw hA kk => lv_icmp_le X.1 X.2.1 hd ht (fun q => by have k9 := kk A hA; rw [if_pos q] at k9; exact k9) (fun q => by have k9 := kk A hA; rw [if_neg q] at k9; exact k9)) k
    next => cases hx
  · rw [Bool.and_eq_true, decide_eq_true_eq] at hc
    obtain ⟨⟨hdf, hhi, hln⟩, hall⟩ := hc
    simp only [gv_x4] at hx
    split at hx
    next => cases hx; exact gv_tsw hd hdf hhi hln hall k
    next => cases hx
  · cases hc
end GZB
