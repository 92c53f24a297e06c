/-! gm: calls, returns and runs of steps, by the code tables -/
section GMA
theorem gv_c84 {own : String} {pc : Nat} {v : Int32} {w : Int64} {w1 w2 wp nx : Nat} {tb : List (Int32 × Nat)} {i : Instr} {n : Nat} (hc : gv_ck8 own pc (84, v, w, w1, w2, wp, nx, tb) i n = true) :
    ∃ x, i = .invokespecial x ∧ n = 3 ∧ nx = pc + 3 ∧ gv_tw wp (.methodLink own x objectInit) = true ∧ gv_tw w1 (.instanceMethod objectInit) = true ∧ gv_tw w2 (.code objectInit ⟨#[0xb1]⟩ 1 none) = true := by
  cases i with
  | invokespecial x =>
    have hc : (decide (n = 3 ∧ nx = pc + 3) && gv_tw wp (.methodLink own x objectInit) && gv_tw w1 (.instanceMethod objectInit) && gv_tw w2 (.code objectInit ⟨#[0xb1]⟩ 1 none)) = true := hc
    rw [Bool.and_eq_true, Bool.and_eq_true, Bool.and_eq_true, decide_eq_true_eq] at hc
    obtain ⟨⟨⟨⟨h1, h2⟩, h3⟩, h4⟩, h5⟩ := hc
    exact ⟨x, rfl, h1, h2, h3, h4, h5⟩
  | _ => exact absurd (show false = true from hc) Bool.false_ne_true
theorem gv_c85 {own : String} {pc : Nat} {v : Int32} {w : Int64} {a b wp nx : Nat} {tb : List (Int32 × Nat)} {i : Instr} {n : Nat} (hc : gv_ck8 own pc (85, v, w, a, b, wp, nx, tb) i n = true) :
    ∃ x, i = .invokespecial x ∧ n = 3 ∧ nx = pc + 3 ∧ gv_lnk own x a wp (gv_mn b) = true := by
  cases i with
  | invokespecial x =>
    have hc : (decide (n = 3 ∧ nx = pc + 3) && gv_lnk own x a wp (gv_mn b)) = true := hc
    rw [Bool.and_eq_true, decide_eq_true_eq] at hc
    exact ⟨x, rfl, hc.1.1, hc.1.2, hc.2⟩
  | _ => exact absurd (show false = true from hc) Bool.false_ne_true
theorem gv_c86 {own : String} {pc : Nat} {v : Int32} {w : Int64} {a b wp nx : Nat} {tb : List (Int32 × Nat)} {i : Instr} {n : Nat} (hc : gv_ck8 own pc (86, v, w, a, b, wp, nx, tb) i n = true) :
    ∃ x, i = .invokevirtual x ∧ n = 3 ∧ nx = pc + 3 ∧ gv_lnk own x a wp (gv_mn b) = true := by
  cases i with
  | invokevirtual x =>
    have hc : (decide (n = 3 ∧ nx = pc + 3) && gv_lnk own x a wp (gv_mn b)) = true := hc
    rw [Bool.and_eq_true, decide_eq_true_eq] at hc
    exact ⟨x, rfl, hc.1.1, hc.1.2, hc.2⟩
  | _ => exact absurd (show false = true from hc) Bool.false_ne_true
theorem gv_c87 {own : String} {pc : Nat} {v : Int32} {w : Int64} {a b wp nx : Nat} {tb : List (Int32 × Nat)} {i : Instr} {n : Nat} (hc : gv_ck8 own pc (87, v, w, a, b, wp, nx, tb) i n = true) :
    ∃ x, i = .invokestatic x ∧ n = 3 ∧ nx = pc + 3 ∧ gv_lnk own x a wp (gv_mn b) = true := by
  cases i with
  | invokestatic x =>
    have hc : (decide (n = 3 ∧ nx = pc + 3) && gv_lnk own x a wp (gv_mn b)) = true := hc
    rw [Bool.and_eq_true, decide_eq_true_eq] at hc
    exact ⟨x, rfl, hc.1.1, hc.1.2, hc.2⟩
  | _ => exact absurd (show false = true from hc) Bool.false_ne_true
theorem gv_c90 {own : String} {pc : Nat} {v : Int32} {w : Int64} {a b wp nx : Nat} {tb : List (Int32 × Nat)} {i : Instr} {n : Nat} (hc : gv_ck8 own pc (90, v, w, a, b, wp, nx, tb) i n = true) : i = .ireturn ∧ n = 1 := by
  cases i with
  | ireturn => exact ⟨rfl, of_decide_eq_true hc⟩
  | _ => exact absurd (show false = true from hc) Bool.false_ne_true
theorem gv_c91 {own : String} {pc : Nat} {v : Int32} {w : Int64} {a b wp nx : Nat} {tb : List (Int32 × Nat)} {i : Instr} {n : Nat} (hc : gv_ck8 own pc (91, v, w, a, b, wp, nx, tb) i n = true) : i = .return_ ∧ n = 1 := by
  cases i with
  | return_ => exact ⟨rfl, of_decide_eq_true hc⟩
  | _ => exact absurd (show false = true from hc) Bool.false_ne_true
theorem gv_c92 {own : String} {pc : Nat} {v : Int32} {w : Int64} {a b wp nx : Nat} {tb : List (Int32 × Nat)} {i : Instr} {n : Nat} (hc : gv_ck8 own pc (92, v, w, a, b, wp, nx, tb) i n = true) : i = .lreturn ∧ n = 1 := by
  cases i with
  | lreturn => exact ⟨rfl, of_decide_eq_true hc⟩
  | _ => exact absurd (show false = true from hc) Bool.false_ne_true
variable {G : gv_G} {y M : gv_M} {d : Nat} {r : gv_O} {hf h h1 : gv_H} {pc : Nat} {ls : gv_L} {st st0 args : List gv_V} {S : gv_S} {v9 : Int32} {w9 : Int64} {a b b9 wp nx : Nat} {tb : List (Int32 × Nat)}
theorem gv_oiJ (hy : gv_ok y) (hj : gv_lk y.2.2.2.2.1 pc = some (84, v9, w9, a, b, wp, nx, tb)) (hcat : gv_cs st ≤ 100) (k : gv_go G y d r hf nx ls st h) : gv_go G y d r hf pc ls (gR b9 :: st) h := by
  obtain ⟨i, n, hd, hc⟩ := gv_dec hy hj
  obtain ⟨x, rfl, rfl, rfl, h1, h2, h3⟩ := gv_c84 (show gv_ck8 y.1.cls pc (84, v9, w9, a, b, wp, nx, tb) i n = true from hc)
  exact gv_oi h1 h2 h3 hd hcat k
theorem gv_I (hy : gv_ok y) (hj : gv_lk y.2.2.2.2.1 pc = some (85, v9, w9, a, b9, wp, nx, tb)) (hM : gv_msI M = true) (hb : gv_mn b9 = M.1) (hE : gv_ev G d M (gR b :: args) h (.inl none) h1) (hst : st0 = args.reverse ++ gR b :: st) (hn : args.length = M.2.2.2.2.2.2.2.2.2.1) (hcat : gv_cs st ≤ 8)
    (k : gv_go G y (d + 1) r hf nx ls st h1) : gv_go G y (d + 1) r hf pc ls st0 h := by
  obtain ⟨i, n, hd, hc⟩ := gv_dec hy hj
  obtain ⟨x, rfl, rfl, rfl, hl⟩ := gv_c85 (show gv_ck8 y.1.cls pc (85, v9, w9, a, b9, wp, nx, tb) i n = true from hc)
  unfold gv_msI at hM
  rw [Bool.and_eq_true, Bool.and_eq_true, decide_eq_true_eq] at hM
  rw [hb] at hl
  rw [hst]
  exact gv_callI hM.1.1 hM.2.2.2 hM.2.1 hM.2.2.1 hM.1.2 hl hd hn hcat hE k
theorem gv_Sc {v : Option gv_V} (hy : gv_ok y) (hj : gv_lk y.2.2.2.2.1 pc = some (87, v9, w9, a, b9, wp, nx, tb)) (hM : gv_msS M = true) (hb : gv_mn b9 = M.1) (hE : gv_ev G d M args h (.inl v) h1) (hst : st0 = args.reverse ++ st) (hn : args.length = M.2.2.2.2.2.2.2.2.2.1) (hcat : gv_cs st ≤ 8)
    (k : gv_go G y (d + 1) r hf nx ls (v.toList ++ st) h1) : gv_go G y (d + 1) r hf pc ls st0 h := by
  obtain ⟨i, n, hd, hc⟩ := gv_dec hy hj
  obtain ⟨x, rfl, rfl, rfl, hl⟩ := gv_c87 (show gv_ck8 y.1.cls pc (87, v9, w9, a, b9, wp, nx, tb) i n = true from hc)
  unfold gv_msS at hM
  rw [Bool.and_eq_true] at hM
  rw [hb] at hl
  rw [hst]
  exact gv_callS hM.1 hM.2 hl hd hn hcat hE k
theorem gv_SL {v : Option gv_V} (hy : gv_ok y) (hj : gv_lk y.2.2.2.2.1 pc = some (87, v9, w9, a, b9, wp, nx, tb)) (hM : gv_msS M = true) (hb : gv_mn b9 = M.1) (hE : gv_ev G d M args h (.inr (.inr (some v))) h1) (hst : st0 = args.reverse ++ st) (hn : args.length = M.2.2.2.2.2.2.2.2.2.1) (hcat : gv_cs st ≤ 8)
    (k : ∀ δ : Nat, gv_go G y (d + 1) r hf nx ls (v.toList ++ st) (h1.1 + δ, h1.2)) : gv_go G y (d + 1) r hf pc ls st0 h := by
  obtain ⟨i, n, hd, hc⟩ := gv_dec hy hj
  obtain ⟨x, rfl, rfl, rfl, hl⟩ := gv_c87 (show gv_ck8 y.1.cls pc (87, v9, w9, a, b9, wp, nx, tb) i n = true from hc)
  unfold gv_msS at hM
  rw [Bool.and_eq_true] at hM
  rw [hb] at hl
  rw [hst]
  exact gv_callSL hM.1 hM.2 hl hd hn hcat hE k
theorem gv_Vc {v : Option gv_V} {ci : Nat} {fs : List gv_V} {rr : vw_C} (hy : gv_ok y) (hj : gv_lk y.2.2.2.2.1 pc = some (86, v9, w9, a, b9, wp, nx, tb)) (hM : gv_msV M = true) (hb : gv_mn b9 = M.1) (hE : gv_ev G d M (gR b :: args) h (.inl v) h1) (hst : st0 = args.reverse ++ gR b :: st) (hn : args.length = M.2.2.2.2.2.2.2.2.2.1) (hcat : gv_cs st ≤ 8)
    (ho : h.2.2 b = some (Sum.inr (ci, fs))) (hci : gv_cl[ci]? = some rr) (hrr : rr.1 = M.1.cls)
    (k : gv_go G y (d + 1) r hf nx ls (v.toList ++ st) h1) : gv_go G y (d + 1) r hf pc ls st0 h := by
  obtain ⟨i, n, hd, hc⟩ := gv_dec hy hj
  obtain ⟨x, rfl, rfl, rfl, hl⟩ := gv_c86 (show gv_ck8 y.1.cls pc (86, v9, w9, a, b9, wp, nx, tb) i n = true from hc)
  unfold gv_msV at hM
  rw [Bool.and_eq_true, Bool.and_eq_true, Bool.and_eq_true, decide_eq_true_eq] at hM
  rw [hb] at hl
  rw [hst]
  exact gv_callV hM.1.1.1 hM.2 hM.1.1.2 hM.1.2 hl hd hn hcat ho hci hrr hE k
theorem gv_Ri {x : Int32} (hy : gv_ok y) (hj : gv_lk y.2.2.2.2.1 pc = some (90, v9, w9, a, b, wp, nx, tb)) (hr : y.2.2.2.1 = some .int) : gv_go G y d (.inl (some (gI x))) h pc ls [gI x] h := by
  obtain ⟨i, n, hd, hc⟩ := gv_dec hy hj
  obtain ⟨rfl, rfl⟩ := gv_c90 (show gv_ck8 y.1.cls pc (90, v9, w9, a, b, wp, nx, tb) i n = true from hc)
  exact gv_iret hr hd
theorem gv_Rz {x : Int32} (hy : gv_ok y) (hj : gv_lk y.2.2.2.2.1 pc = some (90, v9, w9, a, b, wp, nx, tb)) (hr : y.2.2.2.1 = some .boolean) (hx : x = 0 ∨ x = 1) : gv_go G y d (.inl (some (gI x))) h pc ls [gI x] h := by
  obtain ⟨i, n, hd, hc⟩ := gv_dec hy hj
  obtain ⟨rfl, rfl⟩ := gv_c90 (show gv_ck8 y.1.cls pc (90, v9, w9, a, b, wp, nx, tb) i n = true from hc)
  exact gv_zret hr hx hd
theorem gv_Rv (hy : gv_ok y) (hj : gv_lk y.2.2.2.2.1 pc = some (91, v9, w9, a, b, wp, nx, tb)) (hr : y.2.2.2.1 = none) : gv_go G y d (.inl none) h pc ls [] h := by
  obtain ⟨i, n, hd, hc⟩ := gv_dec hy hj
  obtain ⟨rfl, rfl⟩ := gv_c91 (show gv_ck8 y.1.cls pc (91, v9, w9, a, b, wp, nx, tb) i n = true from hc)
  exact gv_vret hr hd
theorem gv_Rl {x : Int64} (hy : gv_ok y) (hj : gv_lk y.2.2.2.2.1 pc = some (92, v9, w9, a, b, wp, nx, tb)) (hr : y.2.2.2.1 = some .long) : gv_go G y d (.inl (some (gL x))) h pc ls [gL x] h := by
  obtain ⟨i, n, hd, hc⟩ := gv_dec hy hj
  obtain ⟨rfl, rfl⟩ := gv_c92 (show gv_ck8 y.1.cls pc (92, v9, w9, a, b, wp, nx, tb) i n = true from hc)
  exact gv_lret hr hd
/-- several steps -/
def gv_rn (L : List (Nat × gv_J)) : Nat → Nat → gv_L → List gv_V → gv_H → Option gv_S
  | 0, pc, ls, st, h => some (pc, ls, st, h)
  | n + 1, pc, ls, st, h => match gv_lk L pc with
    | some J => match gv_ex J ls st h with
      | some (pc', ls', st', h') => gv_rn L n pc' ls' st' h'
      | none => none
    | none => none
theorem gv_B {pc' : Nat} {ls' : gv_L} {st' : List gv_V} {h' : gv_H} (hy : gv_ok y) (n : Nat) (hx : gv_rn y.2.2.2.2.1 n pc ls st h = some (pc', ls', st', h')) (k : gv_go G y d r hf pc' ls' st' h') : gv_go G y d r hf pc ls st h := by
  induction n generalizing pc ls st h with
  | zero =>
    cases hx
    exact k
  | succ n ih =>
    unfold gv_rn at hx
    split at hx
    next J hj =>
      split at hx
      next p1 l1 s1 h1 hs => exact gv_step (S := (p1, l1, s1, h1)) gc_ok gc_qi hy hj hs (ih hx)
      next => cases hx
    next => cases hx
/-- a method from its entry -/
theorem gv_E (hp : plainName M.1.cls = true) (hr : r ≠ .inr (.inr none)) (hcs : gv_cs args ≤ M.2.2.1) (hls : gv_ent args ++ List.replicate (M.2.2.1 - gv_cs args) none = ls) (k : gv_go G M d r hf 0 ls [] h) : gv_ev G d M args h r hf := by
  refine gv_enter hp hcs (fun i v hi => ?_) hr k
  rw [← hls] at hi
  by_cases hlt : i < (gv_ent args).length
  · rwa [List.getElem?_append_left hlt] at hi
  · rw [List.getElem?_append_right (by omega), List.getElem?_replicate] at hi
    split at hi <;> cases hi
end GMA
