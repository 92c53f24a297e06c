/-! the law's own steps: the script, its end -/
section GLW
theorem gv_c72 {y : gv_M} {pc : Nat} {v : Int32} {w : Int64} {a b wp nx : Nat} {tb : List (Int32 × Nat)} {i : Instr} {n : Nat} (hc : gv_ck y pc (72, v, w, a, b, wp, nx, tb) i n = true) : i = .iaload ∧ n = 1 ∧ nx = pc + 1 := by
  have hc : gv_ck5 y.1.cls pc (72, v, w, a, b, wp, nx, tb) i n = true := hc
  cases i with
  | iaload => exact ⟨rfl, of_decide_eq_true hc⟩
  | _ => exact absurd (show false = true from hc) Bool.false_ne_true
theorem gv_c71 {y : gv_M} {pc : Nat} {v : Int32} {w : Int64} {a b wp nx : Nat} {tb : List (Int32 × Nat)} {i : Instr} {n : Nat} (hc : gv_ck y pc (71, v, w, a, b, wp, nx, tb) i n = true) : i = .arraylength ∧ n = 1 ∧ nx = pc + 1 := by
  have hc : gv_ck5 y.1.cls pc (71, v, w, a, b, wp, nx, tb) i n = true := hc
  cases i with
  | arraylength => exact ⟨rfl, of_decide_eq_true hc⟩
  | _ => exact absurd (show false = true from hc) Bool.false_ne_true
variable {G : gv_G} {y : gv_M} {d : Nat} {r : gv_O} {hf h : gv_H} {pc : Nat} {ls : gv_L} {st : List gv_V} {v9 : Int32} {w9 : Int64} {a b wp nx : Nat} {tb : List (Int32 × Nat)} {i : Int32}
theorem gv_sld (hy : gv_ok y) (hj : gv_lk y.2.2.2.2.1 pc = some (72, v9, w9, a, b, wp, nx, tb)) (hi : vp_in i G.2.2.2.2.2.2.1) (k : gv_go G y d r hf nx ls (gI (G.2.2.2.2.2.2.2 i.toNatClampNeg) :: st) h) : gv_go G y d r hf pc ls (gI i :: gR 0 :: st) h := by
  obtain ⟨i9, n, hd, hc⟩ := gv_dec hy hj
  obtain ⟨rfl, rfl, rfl⟩ := gv_c72 hc
  refine gv_pure (fun p e R s m args below meth c H locs cells slots Q A X hw hA kk => ?_) k
  obtain ⟨scr, s1, s2, s3, s4, s5⟩ := X.2.2.2.2.1.2.2.1
  have hlt : i.toNatClampNeg < G.2.2.2.2.2.2.1 := Nat.not_le.mp fun q => hi (Or.inr q)
  exact W.iald (v := .int (G.2.2.2.2.2.2.2 i.toNatClampNeg)) X.1 X.2.1 (by rw [hw.2.2.1 _ hw.1.1.1]; exact s1) s2 s3 (by rw [s4]; exact hi) (s5 _ hlt) rfl rfl hd (kk A hA)
theorem gv_slen (hy : gv_ok y) (hj : gv_lk y.2.2.2.2.1 pc = some (71, v9, w9, a, b, wp, nx, tb)) (k : gv_go G y d r hf nx ls (gI (Int32.ofNat G.2.2.2.2.2.2.1) :: st) h) : gv_go G y d r hf pc ls (gR 0 :: st) h := by
  obtain ⟨i9, n, hd, hc⟩ := gv_dec hy hj
  obtain ⟨rfl, rfl, rfl⟩ := gv_c71 hc
  refine gv_pure (fun p e R s m args below meth c H locs cells slots Q A X hw hA kk => ?_) k
  obtain ⟨scr, s1, s2, s3, s4, s5⟩ := X.2.2.2.2.1.2.2.1
  exact W.alen (n := Int32.ofNat G.2.2.2.2.2.2.1) X.1 X.2.1 (by rw [hw.2.2.1 _ hw.1.1.1]; exact s1) s2 (by rw [s4] <;> rfl) rfl rfl hd (kk A hA)
/-- the law ends with 1 -/
theorem gv_lawret (hy : gv_ok M_LA_law) (hj : gv_lk M_LA_law.2.2.2.2.1 pc = some (90, v9, w9, a, b, wp, nx, tb)) (hC : hf.2.1 = (gv_Cn, gv_Sn)) (h1 : h.2.1.1 ≤ gv_Cn) (h2 : h.2.1.2 ≤ gv_Sn) : gv_go G M_LA_law d (.inr (.inr none)) hf pc ls [gI 1] h := by
  obtain ⟨i9, n, hd, hc⟩ := gv_dec hy hj
  obtain ⟨rfl, rfl⟩ := gv_c90 (show gv_ck8 M_LA_law.1.cls pc (90, v9, w9, a, b, wp, nx, tb) i9 n = true from hc)
  refine ⟨by rw [hC]; exact ⟨h1, h2⟩, fun h0 p e s m args9 below meth c H locs A q1 q2 X hw hl hA => ?_⟩
  intro T hT XX
  by_cases hz : s.heap.size = G.2.2.2.2.2.1
  · have XF : Stand p G.1 e _ s m args9 below meth c T [] _ _ := Stand.forget (locs := []) XX (fun q hq => by rw [hz]; exact hl q hq)
    have X2 := stand_widen (k := gv_Cn) (n := gv_Sn) XF (by omega) (by omega)
    obtain ⟨t, a1, b1⟩ := lw_ret (b := 0) X.1 X.2.1 X.2.2.2.2.2.1 X.2.2.2.2.2.2.1 hd T hT X2
    exact ⟨t, a1, fun _ => b1⟩
  · exact ⟨_, Steps.refl _, fun q => absurd q hz⟩
/-- less room -/
theorem gx_less {p : Program} {l : Launch} {e : Env} {R R' : Room} {s : State} {m : MethodId} {args : Array Value} {below : List Frame} {meth : Method} {c : Code} {T : State} {locs : List Loc} {cells slots : Nat}
    (X : Stand p l e R s m args below meth c T locs cells slots) (h1 : R'.frames ≤ R.frames) (h2 : R'.locals ≤ R.locals) (h3 : R'.cells ≤ R.cells) (h4 : R'.slots ≤ R.slots) : Stand p l e R' s m args below meth c T locs cells slots := by
  refine { X with room := ?_ }
  have h := X.room
  simp only [State.hasRoom, Bool.and_eq_true, decide_eq_true_eq] at h ⊢
  obtain ⟨⟨⟨⟨q1, q2, q3, q4, q5, q6⟩, q7⟩, q8⟩, q9⟩ := h
  exact ⟨⟨⟨⟨by omega, by omega, by omega, by omega, by omega, q6⟩, by omega⟩, by omega⟩, q9⟩
end GLW
