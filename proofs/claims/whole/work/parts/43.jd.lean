/-! Java's own: max, min, bitCount (written by wip/tools/43.jd.py) -/
section JDA
def M_J_jbit : gv_M := (⟨"java/lang/Integer", "bitCount", "(I)I"⟩, prog_21_method_49_code, 1, some .int, [(0, (3, 0, 0, 0, 0, 0, 1, [])),
  (1, (3, 0, 0, 0, 0, 0, 2, [])),
  (2, (1, 1, 0, 0, 0, 0, 3, [])),
  (3, (28, 0, 0, 0, 0, 0, 4, [])),
  (7, (23, 0, 0, 0, 0, 0, 8, [])),
  (8, (21, 0, 0, 0, 0, 0, 9, [])),
  (9, (6, 0, 0, 0, 0, 0, 10, [])),
  (10, (3, 0, 0, 0, 0, 0, 11, [])),
  (14, (23, 0, 0, 0, 0, 0, 15, [])),
  (15, (3, 0, 0, 0, 0, 0, 16, [])),
  (16, (1, 2, 0, 0, 0, 0, 17, [])),
  (17, (28, 0, 0, 0, 0, 0, 18, [])),
  (21, (23, 0, 0, 0, 0, 0, 22, [])),
  (22, (20, 0, 0, 0, 0, 0, 23, [])),
  (23, (6, 0, 0, 0, 0, 0, 24, [])),
  (24, (3, 0, 0, 0, 0, 0, 25, [])),
  (25, (3, 0, 0, 0, 0, 0, 26, [])),
  (26, (1, 4, 0, 0, 0, 0, 27, [])),
  (27, (28, 0, 0, 0, 0, 0, 28, [])),
  (28, (20, 0, 0, 0, 0, 0, 29, [])),
  (32, (23, 0, 0, 0, 0, 0, 33, [])),
  (33, (6, 0, 0, 0, 0, 0, 34, [])),
  (34, (3, 0, 0, 0, 0, 0, 35, [])),
  (35, (3, 0, 0, 0, 0, 0, 36, [])),
  (36, (1, 8, 0, 0, 0, 0, 38, [])),
  (38, (28, 0, 0, 0, 0, 0, 39, [])),
  (39, (20, 0, 0, 0, 0, 0, 40, [])),
  (40, (6, 0, 0, 0, 0, 0, 41, [])),
  (41, (3, 0, 0, 0, 0, 0, 42, [])),
  (42, (3, 0, 0, 0, 0, 0, 43, [])),
  (43, (1, 16, 0, 0, 0, 0, 45, [])),
  (45, (28, 0, 0, 0, 0, 0, 46, [])),
  (46, (20, 0, 0, 0, 0, 0, 47, [])),
  (47, (6, 0, 0, 0, 0, 0, 48, [])),
  (48, (3, 0, 0, 0, 0, 0, 49, [])),
  (49, (1, 63, 0, 0, 0, 0, 51, [])),
  (51, (23, 0, 0, 0, 0, 0, 52, [])),
  (52, (90, 0, 0, 0, 0, 0, 0, []))], (433, 87, 432, 0, 1, []))
theorem ok_J_jbit : gv_ok M_J_jbit := gv_ok_of (by decide +kernel)
theorem mk_J_jbit : gv_msS M_J_jbit = true := by decide +kernel

def jmax (x y : Int32) : Int32 := if x < y then y else x
def jmin (x y : Int32) : Int32 := if y < x then y else x
def ush (x k : Int32) : Int32 := (x.toUInt32 >>> (k.toUInt32 &&& Int32.toUInt32 31)).toInt32
def jb1 (i : Int32) : Int32 := i - (ush i 1 &&& 1431655765)
def jb2 (i : Int32) : Int32 := (i &&& 858993459) + (ush i 2 &&& 858993459)
def jb3 (i : Int32) : Int32 := (i + ush i 4) &&& 252645135
def jb4 (i : Int32) : Int32 := i + ush i 8
def jb5 (i : Int32) : Int32 := i + ush i 16
def jbit (i : Int32) : Int32 := jb5 (jb4 (jb3 (jb2 (jb1 i)))) &&& 63
variable {G : gv_G} {y : gv_M} {d : Nat} {r : gv_O} {hf h : gv_H} {pc wp : Nat} {ls : gv_L} {st : List gv_V} {x z : Int32}
theorem gv_ldw {x9 : Nat} {v : Int32} (hd : decode y.2.1 pc = .ok (.ldc_w x9, 3)) (hv : gv_tw wp (.constant y.1.cls x9 v) = true) (k : gv_go G y d r hf (pc + 3) ls (gI v :: st) h) : gv_go G y d r hf pc ls st h :=
  gv_pure (fun p e R s m args below meth c H locs cells slots Q A X hw hA kk => lv_ldcw X.1 X.2.1 X.2.2.2.1 (gv_tw_use X.2.2.2.2.1 hv args) hd (kk A hA)) k
theorem gv_mx {x9 : Nat} (hd : decode y.2.1 pc = .ok (.invokestatic x9, 3)) (hl : gv_tw wp (.methodLink y.1.cls x9 Lib.Math.max.name) = true) (hcat : gv_cs st ≤ 100) (k : gv_go G y d r hf (pc + 3) ls (gI (jmax x z) :: st) h) : gv_go G y d r hf pc ls (gI z :: gI x :: st) h := by
  refine ⟨k.1, fun h0 p e s m args9 below meth c H locs A q1 q2 X hw hl9 hA => ?_⟩
  have hK := X.2.2.2.2.1
  have k1 := k.1
  refine va_mmax X.1 X.2.1 (X.2.2.1.trans hA.1.symm) X.2.2.2.1 (gv_tw_use hK hl args9) (gv_tw_use hK (i := 490) (by decide +kernel) args9) (gv_tw_use hK (i := 86) (by decide +kernel) args9) (gv_tw_use hK (i := 491) (by decide +kernel) args9) (by show 1 ≤ d + 8; omega) ?_ (by show _ ≤ hf.2.1.1 - h0.2.1.1; omega) (by show _ ≤ hf.2.1.2 - h0.2.1.2; omega) hd (k.2 h0 p e s m args9 below meth c H locs A q1 q2 X hw hl9 hA)
  show ((st.map (gv_v G.2.1)).map fun v => v.category).sum + 13 ≤ 64 * d + 200
  rw [gv_cs_sum]
  omega
theorem gv_mi {x9 : Nat} (hd : decode y.2.1 pc = .ok (.invokestatic x9, 3)) (hl : gv_tw wp (.methodLink y.1.cls x9 Lib.Math.min.name) = true) (hcat : gv_cs st ≤ 100) (k : gv_go G y d r hf (pc + 3) ls (gI (jmin x z) :: st) h) : gv_go G y d r hf pc ls (gI z :: gI x :: st) h := by
  refine ⟨k.1, fun h0 p e s m args9 below meth c H locs A q1 q2 X hw hl9 hA => ?_⟩
  have hK := X.2.2.2.2.1
  have k1 := k.1
  refine va_mmin X.1 X.2.1 (X.2.2.1.trans hA.1.symm) X.2.2.2.1 (gv_tw_use hK hl args9) (gv_tw_use hK (i := 679) (by decide +kernel) args9) (gv_tw_use hK (i := 86) (by decide +kernel) args9) (gv_tw_use hK (i := 680) (by decide +kernel) args9) (by show 1 ≤ d + 8; omega) ?_ (by show _ ≤ hf.2.1.1 - h0.2.1.1; omega) (by show _ ≤ hf.2.1.2 - h0.2.1.2; omega) hd (k.2 h0 p e s m args9 below meth c H locs A q1 q2 X hw hl9 hA)
  show ((st.map (gv_v G.2.1)).map fun v => v.category).sum + 13 ≤ 64 * d + 200
  rw [gv_cs_sum]
  omega
theorem t_jbit : gv_ev G (d + 0) M_J_jbit [gI x] h (.inl (some (gI (jbit x)))) h := by
  refine gv_E (ls := [some (gI x)]) (by decide) (fun h => by cases h) (Nat.le_of_ble_eq_true rfl) rfl ?_
  refine gv_B ok_J_jbit 4 rfl ?_
  refine gv_ldw (wp := 434) (x9 := 265) (v := 1431655765) (by decide +kernel) (by decide +kernel) ?_
  refine gv_B ok_J_jbit 4 rfl ?_
  refine gv_ldw (wp := 435) (x9 := 266) (v := 858993459) (by decide +kernel) (by decide +kernel) ?_
  refine gv_B ok_J_jbit 4 rfl ?_
  refine gv_ldw (wp := 435) (x9 := 266) (v := 858993459) (by decide +kernel) (by decide +kernel) ?_
  refine gv_B ok_J_jbit 8 rfl ?_
  refine gv_ldw (wp := 436) (x9 := 267) (v := 252645135) (by decide +kernel) (by decide +kernel) ?_
  refine gv_B ok_J_jbit 17 rfl ?_
  exact gv_Ri ok_J_jbit rfl rfl
end JDA
