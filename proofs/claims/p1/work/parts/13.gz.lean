/-! gz: the steps are the machine's -/
section GZA
def gv_tw (i : Nat) (w : Jvm.Cond) : Bool := decide (gv_T[i]? = some w) && gv_gd w
theorem gv_tw_use {G : gv_G} {s : State} (h : gv_K G s) {i : Nat} {w : Jvm.Cond} (hi : gv_tw i w = true) (args : Array Value) : w.before args s = true := by
  unfold gv_tw at hi
  rw [Bool.and_eq_true, decide_eq_true_eq] at hi
  exact h.use i hi.1 hi.2 args
def gv_ck1 (own : String) (nL pc : Nat) (J : gv_J) (i : Instr) (n : Nat) : Bool := match J, i with
  | (1, v, _, _, _, _, nx, _), .iconst c => decide (n = 1 ∧ nx = pc + 1 ∧ Int32.ofInt c = v)
  | (1, v, _, _, _, _, nx, _), .bipush c => decide (n = 2 ∧ nx = pc + 2 ∧ (Int8.ofInt c).toInt32 = v)
  | (1, v, _, _, _, _, nx, _), .sipush c => decide (n = 3 ∧ nx = pc + 3 ∧ (Int16.ofInt c).toInt32 = v)
  | (1, v, _, _, _, wp, nx, _), .ldc x => decide (n = 2 ∧ nx = pc + 2 ∧ gv_tw wp (.constant own x v) = true)
  | (2, _, w, _, _, _, nx, _), .lconst c => decide (n = 1 ∧ nx = pc + 1 ∧ Int64.ofNat (c : Nat) = w)
  | (2, _, w, _, _, wp, nx, _), .ldc2_w x => decide (n = 3 ∧ nx = pc + 3 ∧ gv_tw wp (.constantLong own x w) = true)
  | (3, _, _, a, _, _, nx, _), .iload_n k => decide (n = 1 ∧ nx = pc + 1 ∧ (k : Nat) = a)
  | (3, _, _, a, _, _, nx, _), .iload k => decide (n = 2 ∧ nx = pc + 2 ∧ k = a)
  | (4, _, _, a, _, _, nx, _), .lload_n k => decide (n = 1 ∧ nx = pc + 1 ∧ (k : Nat) = a)
  | (4, _, _, a, _, _, nx, _), .lload k => decide (n = 2 ∧ nx = pc + 2 ∧ k = a)
  | (5, _, _, a, _, _, nx, _), .aload_n k => decide (n = 1 ∧ nx = pc + 1 ∧ (k : Nat) = a)
  | (5, _, _, a, _, _, nx, _), .aload k => decide (n = 2 ∧ nx = pc + 2 ∧ k = a)
  | (6, _, _, a, _, _, nx, _), .istore_n k => decide (n = 1 ∧ nx = pc + 1 ∧ (k : Nat) = a ∧ a < nL)
  | (6, _, _, a, _, _, nx, _), .istore k => decide (n = 2 ∧ nx = pc + 2 ∧ k = a ∧ a < nL)
  | (7, _, _, a, _, _, nx, _), .lstore_n k => decide (n = 1 ∧ nx = pc + 1 ∧ (k : Nat) = a ∧ a + 1 < nL)
  | (7, _, _, a, _, _, nx, _), .lstore k => decide (n = 2 ∧ nx = pc + 2 ∧ k = a ∧ a + 1 < nL)
  | (8, _, _, a, _, _, nx, _), .astore_n k => decide (n = 1 ∧ nx = pc + 1 ∧ (k : Nat) = a ∧ a < nL)
  | (8, _, _, a, _, _, nx, _), .astore k => decide (n = 2 ∧ nx = pc + 2 ∧ k = a ∧ a < nL)
  | (9, v, _, a, _, _, nx, _), .iinc k c => decide (n = 3 ∧ nx = pc + 3 ∧ k = a ∧ Int32.ofInt c = v ∧ a < nL)
  | (10, _, _, a, _, _, _, _), .goto o => decide (n = 3 ∧ (pc : Int) + o = (a : Int))
  | _, _ => false
variable {G : gv_G} {y : gv_M} {d : Nat} {r : gv_O} {hf : gv_H} {pc : Nat} {J : gv_J} {ls : gv_L} {st : List gv_V} {h : gv_H} {S : gv_S} {i : Instr} {n : Nat}
theorem gv_s1 (hd : decode y.2.1 pc = .ok (i, n)) (hc : gv_ck1 y.1.cls y.2.2.1 pc J i n = true) (hx : gv_x1 J ls st h = some S) (k : gv_go G y d r hf S.1 S.2.1 S.2.2.1 S.2.2.2) : gv_go G y d r hf pc ls st h := by
  unfold gv_ck1 at hc
  split at hc
  · -- iconst
    rw [decide_eq_true_eq] at hc
    obtain ⟨rfl, rfl, hv⟩ := hc
    cases hx
    exact gv_pure (fun p e R s m args below meth c H locs cells slots Q A X hw hA kk => lv_iconst X.1 X.2.1 hd hv (kk A hA)) k
  · -- bipush
    rw [decide_eq_true_eq] at hc
    obtain ⟨rfl, rfl, hv⟩ := hc
    cases hx
    exact gv_pure (fun p e R s m args below meth c H locs cells slots Q A X hw hA kk => lv_bipush X.1 X.2.1 hd hv (kk A hA)) k
  · -- sipush
    rw [decide_eq_true_eq] at hc
    obtain ⟨rfl, rfl, hv⟩ := hc
    cases hx
    exact gv_pure (fun p e R s m args below meth c H locs cells slots Q A X hw hA kk => lv_sipush X.1 X.2.1 hd hv (kk A hA)) k
  · -- ldc
    rw [decide_eq_true_eq] at hc
    obtain ⟨rfl, rfl, hv⟩ := hc
    cases hx
    exact gv_pure (fun p e R s m args below meth c H locs cells slots Q A X hw hA kk => lv_ldc X.1 X.2.1 X.2.2.2.1 (gv_tw_use X.2.2.2.2.1 hv args) hd (kk A hA)) k
  · -- lconst
    rw [decide_eq_true_eq] at hc
    obtain ⟨rfl, rfl, hv⟩ := hc
    cases hx
    exact gv_pure (fun p e R s m args below meth c H locs cells slots Q A X hw hA kk => lv_lconst X.1 X.2.1 hd hv (kk A hA)) k
  · -- ldc2
    rw [decide_eq_true_eq] at hc
    obtain ⟨rfl, rfl, hv⟩ := hc
    cases hx
    exact gv_pure (fun p e R s m args below meth c H locs cells slots Q A X hw hA kk => lv_ldc2 X.1 X.2.1 X.2.2.2.1 (gv_tw_use X.2.2.2.2.1 hv args) hd (kk A hA)) k
  · -- iload_n
    rw [decide_eq_true_eq] at hc
    obtain ⟨rfl, rfl, hk⟩ := hc
    simp only [gv_x1] at hx
    split at hx
    next x hg => cases hx; exact gv_pure (fun p e R s m args below meth c H locs cells slots Q A X hw hA kk => lv_iload_n X.1 X.2.1 hd hk (gv_get_at hA hg) (kk A hA)) k
    next => cases hx
  · -- iload
    rw [decide_eq_true_eq] at hc
    obtain ⟨rfl, rfl, rfl⟩ := hc
    simp only [gv_x1] at hx
    split at hx
    next x hg => cases hx; exact gv_pure (fun p e R s m args below meth c H locs cells slots Q A X hw hA kk => lv_iload X.1 X.2.1 hd (gv_get_at hA hg) (kk A hA)) k
    next => cases hx
  · -- lload_n
    rw [decide_eq_true_eq] at hc
    obtain ⟨rfl, rfl, hk⟩ := hc
    simp only [gv_x1] at hx
    split at hx
    next x hg => cases hx; exact gv_pure (fun p e R s m args below meth c H locs cells slots Q A X hw hA kk => lv_lload_n X.1 X.2.1 hd hk (gv_get_at hA hg) (kk A hA)) k
    next => cases hx
  · -- lload
    rw [decide_eq_true_eq] at hc
    obtain ⟨rfl, rfl, rfl⟩ := hc
    simp only [gv_x1] at hx
    split at hx
    next x hg => cases hx; exact gv_pure (fun p e R s m args below meth c H locs cells slots Q A X hw hA kk => lv_lload X.1 X.2.1 hd (gv_get_at hA hg) (kk A hA)) k
    next => cases hx
  · -- aload_n
    rw [decide_eq_true_eq] at hc
    obtain ⟨rfl, rfl, hk⟩ := hc
    simp only [gv_x1] at hx
    split at hx
    next x hg => cases hx; exact gv_pure (fun p e R s m args below meth c H locs cells slots Q A X hw hA kk => lv_aload_n X.1 X.2.1 hd hk (gv_get_at hA hg) (kk A hA)) k
    next => cases hx
  · -- aload
    rw [decide_eq_true_eq] at hc
    obtain ⟨rfl, rfl, rfl⟩ := hc
    simp only [gv_x1] at hx
    split at hx
    next x hg => cases hx; exact gv_pure (fun p e R s m args below meth c H locs cells slots Q A X hw hA kk => lv_aload X.1 X.2.1 hd (gv_get_at hA hg) (kk A hA)) k
    next => cases hx
  · -- istore_n
    rw [decide_eq_true_eq] at hc
    obtain ⟨rfl, rfl, hk, hn⟩ := hc
    simp only [gv_x1] at hx
    split at hx
    next x st => cases hx; exact gv_pure (fun p e R s m args below meth c H locs cells slots Q A X hw hA kk => lv_istore_n X.1 X.2.1 hd hk (gv_ll_has hA) hn rfl (fun A1 h1 => kk A1 (gv_sto_has (v := gI x) h1))) k
    next => cases hx
  · -- istore
    rw [decide_eq_true_eq] at hc
    obtain ⟨rfl, rfl, rfl, hn⟩ := hc
    simp only [gv_x1] at hx
    split at hx
    next x st => cases hx; exact gv_pure (fun p e R s m args below meth c H locs cells slots Q A X hw hA kk => lv_istore X.1 X.2.1 hd (gv_ll_has hA) hn rfl (fun A1 h1 => kk A1 (gv_sto_has (v := gI x) h1))) k
    next => cases hx
  · -- lstore_n
    rw [decide_eq_true_eq] at hc
    obtain ⟨rfl, rfl, hk, hn⟩ := hc
    simp only [gv_x1] at hx
    split at hx
    next x st => cases hx; exact gv_pure (fun p e R s m args below meth c H locs cells slots Q A X hw hA kk => lv_lstore_n X.1 X.2.1 hd hk (gv_ll_has hA) hn rfl (fun A1 h1 => kk A1 (gv_stl_has (v := gL x) h1))) k
    next => cases hx
  · -- lstore
    rw [decide_eq_true_eq] at hc
    obtain ⟨rfl, rfl, rfl, hn⟩ := hc
    simp only [gv_x1] at hx
    split at hx
    next x st => cases hx; exact gv_pure (fun p e R s m args below meth c H locs cells slots Q A X hw hA kk => lv_lstore X.1 X.2.1 hd (gv_ll_has hA) hn rfl (fun A1 h1 => kk A1 (gv_stl_has (v := gL x) h1))) k
    next => cases hx
  · -- astore_n
    rw [decide_eq_true_eq] at hc
    obtain ⟨rfl, rfl, hk, hn⟩ := hc
    simp only [gv_x1] at hx
    split at hx
    next x st => cases hx; exact gv_pure (fun p e R s m args below meth c H locs cells slots Q A X hw hA kk => lv_astore_n X.1 X.2.1 hd hk (gv_ll_has hA) hn rfl (fun A1 h1 => kk A1 (gv_sto_has (v := gR x) h1))) k
    next => cases hx
  · -- astore
    rw [decide_eq_true_eq] at hc
    obtain ⟨rfl, rfl, rfl, hn⟩ := hc
    simp only [gv_x1] at hx
    split at hx
    next x st => cases hx; exact gv_pure (fun p e R s m args below meth c H locs cells slots Q A X hw hA kk => lv_astore X.1 X.2.1 hd (gv_ll_has hA) hn rfl (fun A1 h1 => kk A1 (gv_sto_has (v := gR x) h1))) k
    next => cases hx
  · -- iinc
    rw [decide_eq_true_eq] at hc
    obtain ⟨rfl, rfl, rfl, hv, hn⟩ := hc
    simp only [gv_x1] at hx
    split at hx
    next x hg =>
      cases hx
      refine gv_pure (fun p e R s m args below meth c H locs cells slots Q A X hw hA kk => ?_) k
      obtain ⟨q, hq⟩ := List.getElem?_of_mem (gv_ll_mem (z := G.2.1) (gv_get_some hg))
      exact lv_iinc X.1 X.2.1 hd (gv_ll_has hA) hq (by rw [hv]) hn rfl (fun A1 h1 => kk A1 (gv_sto_has h1))
    next => cases hx
  · -- goto
    rw [decide_eq_true_eq] at hc
    obtain ⟨rfl, ht⟩ := hc
    cases hx
    exact gv_pure (fun p e R s m args below meth c H locs cells slots Q A X hw hA kk => lv_goto X.1 X.2.1 hd ht (kk A hA)) k
  · cases hc
end GZA
