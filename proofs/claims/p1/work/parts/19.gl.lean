/-! gl: all steps together -/
section GLA
def gv_ex (J : gv_J) (ls : gv_L) (st : List gv_V) (h : gv_H) : Option gv_S :=
  match Nat.blt J.1 20 with
  | true => gv_x1 J ls st h
  | false => match Nat.blt J.1 40 with
    | true => gv_x2 J ls st h
    | false => match Nat.blt J.1 50 with
      | true => gv_x3 J ls st h
      | false => match Nat.blt J.1 70 with
        | true => gv_x4 J ls st h
        | false => match Nat.blt J.1 76 with
          | true => gv_x5 J ls st h
          | false => match Nat.blt J.1 81 with
            | true => gv_x6 J ls st h
            | false => gv_x7 J ls st h
def gv_ck8 (own : String) (pc : Nat) (J : gv_J) (i : Instr) (n : Nat) : Bool := match J, i with
  | (84, _, _, w1, w2, wp, nx, _), .invokespecial x => decide (n = 3 ∧ nx = pc + 3) && gv_tw wp (.methodLink own x objectInit) && gv_tw w1 (.instanceMethod objectInit) && gv_tw w2 (.code objectInit ⟨#[0xb1]⟩ 1 none)
  | (85, _, _, a, b, wp, nx, _), .invokespecial x => decide (n = 3 ∧ nx = pc + 3) && gv_lnk own x a wp (gv_mn b)
  | (86, _, _, a, b, wp, nx, _), .invokevirtual x => decide (n = 3 ∧ nx = pc + 3) && gv_lnk own x a wp (gv_mn b)
  | (87, _, _, a, b, wp, nx, _), .invokestatic x => decide (n = 3 ∧ nx = pc + 3) && gv_lnk own x a wp (gv_mn b)
  | (90, _, _, _, _, _, _, _), .ireturn => decide (n = 1)
  | (91, _, _, _, _, _, _, _), .return_ => decide (n = 1)
  | (92, _, _, _, _, _, _, _), .lreturn => decide (n = 1)
  | (93, _, _, _, _, _, _, _), .areturn => decide (n = 1)
  | (94, _, _, _, _, _, _, _), .tableswitch _ _ _ _ => true
  | (94, _, _, _, _, _, _, _), .lookupswitch _ _ => true
  | (95, _, _, _, _, _, _, _), .new _ => true
  | _, _ => false
def gv_ck (y : gv_M) (pc : Nat) (J : gv_J) (i : Instr) (n : Nat) : Bool :=
  match Nat.blt J.1 20 with
  | true => gv_ck1 y.1.cls y.2.2.1 pc J i n
  | false => match Nat.blt J.1 40 with
    | true => gv_ck2 pc J i n
    | false => match Nat.blt J.1 50 with
      | true => gv_ck3 pc J i n
      | false => match Nat.blt J.1 70 with
        | true => gv_ck4 pc J i n
        | false => match Nat.blt J.1 76 with
          | true => gv_ck5 y.1.cls pc J i n
          | false => match Nat.blt J.1 81 with
            | true => gv_ck6 y.1 pc J i n
            | false => match Nat.blt J.1 84 with
              | true => gv_ck7 y.1.cls pc J i n
              | false => gv_ck8 y.1.cls pc J i n
def gv_okq (y : gv_M) (q : Nat × gv_J) : Bool := match decode y.2.1 q.1 with
  | .ok (i, n) => gv_ck y q.1 q.2 i n
  | .error _ => false
def gv_ok (y : gv_M) : Prop := ∀ q ∈ y.2.2.2.2.1, gv_okq y q = true
variable {G : gv_G} {y M : gv_M} {d : Nat} {r : gv_O} {hf h h1 : gv_H} {pc : Nat} {J : gv_J} {ls : gv_L} {st args : List gv_V} {S : gv_S}
theorem gv_dec (hy : gv_ok y) (hj : gv_lk y.2.2.2.2.1 pc = some J) : ∃ (i : Instr) (n : Nat), decode y.2.1 pc = .ok (i, n) ∧ gv_ck y pc J i n = true := by
  have h1 := hy _ (gv_lk_mem hj)
  unfold gv_okq at h1
  split at h1
  next i n e => exact ⟨i, n, e, h1⟩
  next => cases h1
theorem gv_step (hok : ∀ ci r, gv_cl[ci]? = some r → gv_clok ci r) (hqi : ∃ r, gv_cl[gv_qi]? = some r ∧ r.1 = gv_qc) (hy : gv_ok y) (hj : gv_lk y.2.2.2.2.1 pc = some J) (hx : gv_ex J ls st h = some S) (k : gv_go G y d r hf S.1 S.2.1 S.2.2.1 S.2.2.2) : gv_go G y d r hf pc ls st h := by
  obtain ⟨i, n, hd, hc⟩ := gv_dec hy hj
  unfold gv_ex at hx
  unfold gv_ck at hc
  split at hx
  next e => rw [e] at hc; exact gv_s1 hd hc hx k
  next e =>
    rw [e] at hc
    dsimp only at hc
    split at hx
    next e => rw [e] at hc; exact gv_s2 hd hc hx k
    next e =>
      rw [e] at hc
      dsimp only at hc
      split at hx
      next e => rw [e] at hc; exact gv_s3 hd hc hx k
      next e =>
        rw [e] at hc
        dsimp only at hc
        split at hx
        next e => rw [e] at hc; exact gv_s4 hd hc hx k
        next e =>
          rw [e] at hc
          dsimp only at hc
          split at hx
          next e => rw [e] at hc; exact gv_s5 hok hd hc hx k
          next e =>
            rw [e] at hc
            dsimp only at hc
            split at hx
            next e => rw [e] at hc; exact gv_s6 hok hqi hd hc hx k
            next e =>
              rw [e] at hc
              dsimp only at hc
              split at hc
              next e => exact gv_s7 hok hd hc hx k
              next e =>
                exfalso
                unfold gv_x7 at hx
                split at hx
                next => exact Bool.noConfusion (show true = false from e)
                next => exact Bool.noConfusion (show true = false from e)
                next => exact Bool.noConfusion (show true = false from e)
                next => cases hx
/-- several steps -/
def gv_run (L : List (Nat × gv_J)) : Nat → gv_S → Option gv_S
  | 0, S => some S
  | n + 1, S => match gv_lk L S.1 with
    | some J => match gv_ex J S.2.1 S.2.2.1 S.2.2.2 with
      | some S' => gv_run L n S'
      | none => none
    | none => none
theorem gv_steps (hok : ∀ ci r, gv_cl[ci]? = some r → gv_clok ci r) (hqi : ∃ r, gv_cl[gv_qi]? = some r ∧ r.1 = gv_qc) (hy : gv_ok y) : ∀ (n : Nat) (S0 : gv_S), gv_run y.2.2.2.2.1 n S0 = some S → gv_go G y d r hf S.1 S.2.1 S.2.2.1 S.2.2.2 → gv_go G y d r hf S0.1 S0.2.1 S0.2.2.1 S0.2.2.2
  | 0, S0, hx, k => by cases hx; exact k
  | n + 1, S0, hx, k => by
    unfold gv_run at hx
    split at hx
    next J hj =>
      split at hx
      next S' hs => exact gv_step hok hqi hy hj hs (gv_steps hok hqi hy n S' hx k)
      next => cases hx
    next => cases hx
end GLA
