/-! constructors, run (written by wip/tools/conc.py) -/
section CTA
def KA0 : gv_H := (1, (0, 0), fun _ => none)
def KA1 : gv_H := gv_push KA0 4 (Sum.inr (0, [gN, gI 0, gN, gN]))
def KA2 : gv_H := gv_push (gv_set (gv_set (gv_push KA1 30 (Sum.inl (0, 30, Sum.inl (fun _ => 0)))) 1 (Sum.inr (0, [gR 2, gI 0, gN, gN]))) 1 (Sum.inr (0, [gR 2, gI 0, gN, gN]))) 2 (Sum.inr (1, [gN, gI 0]))
def KA3 : gv_H := gv_push (gv_set (gv_push KA2 16 (Sum.inl (3, 16, Sum.inr (fun _ => none)))) 3 (Sum.inr (1, [gR 4, gI 0]))) 4 (Sum.inr (2, [gN, gI 0, gI 0, gI 0]))
def KA4 : gv_H := gv_set (gv_push KA3 30 (Sum.inl (0, 30, Sum.inl (fun _ => 0)))) 5 (Sum.inr (2, [gR 6, gI 0, gI 0, gI 0]))
set_option maxRecDepth 100000 in
theorem ct1_CL_init {G : gv_G} {d : Nat} : gv_ev G (d + 0) M_CL_init [gR 5] KA3 (.inl none) KA4 := by
  refine gv_E (ls := [some (gR 5)]) (by decide) (fun h => by cases h) (Nat.le_of_ble_eq_true rfl) rfl ?_
  refine gv_B ok_CL_init 1 rfl ?_
  refine gv_oiJ ok_CL_init rfl (Nat.le_of_ble_eq_true rfl) ?_
  refine gv_B ok_CL_init 4 rfl ?_
  refine gv_cast (h' := KA4) rfl ?_
  exact gv_Rv ok_CL_init rfl rfl
def KA5 : gv_H := gv_push (gv_set KA4 4 (Sum.inl (3, 16, Sum.inr (va_up (fun _ => none) 0 (some 5))))) 4 (Sum.inr (2, [gN, gI 0, gI 0, gI 0]))
def KA6 : gv_H := gv_set (gv_push KA5 30 (Sum.inl (0, 30, Sum.inl (fun _ => 0)))) 7 (Sum.inr (2, [gR 8, gI 0, gI 0, gI 0]))
set_option maxRecDepth 100000 in
theorem ct2_CL_init {G : gv_G} {d : Nat} : gv_ev G (d + 0) M_CL_init [gR 7] KA5 (.inl none) KA6 := by
  refine gv_E (ls := [some (gR 7)]) (by decide) (fun h => by cases h) (Nat.le_of_ble_eq_true rfl) rfl ?_
  refine gv_B ok_CL_init 1 rfl ?_
  refine gv_oiJ ok_CL_init rfl (Nat.le_of_ble_eq_true rfl) ?_
  refine gv_B ok_CL_init 4 rfl ?_
  refine gv_cast (h' := KA6) rfl ?_
  exact gv_Rv ok_CL_init rfl rfl
def KA7 : gv_H := gv_push (gv_set KA6 4 (Sum.inl (3, 16, Sum.inr (va_up (va_up (fun _ => none) 0 (some 5)) 1 (some 7))))) 4 (Sum.inr (2, [gN, gI 0, gI 0, gI 0]))
def KA8 : gv_H := gv_set (gv_push KA7 30 (Sum.inl (0, 30, Sum.inl (fun _ => 0)))) 9 (Sum.inr (2, [gR 10, gI 0, gI 0, gI 0]))
set_option maxRecDepth 100000 in
theorem ct3_CL_init {G : gv_G} {d : Nat} : gv_ev G (d + 0) M_CL_init [gR 9] KA7 (.inl none) KA8 := by
  refine gv_E (ls := [some (gR 9)]) (by decide) (fun h => by cases h) (Nat.le_of_ble_eq_true rfl) rfl ?_
  refine gv_B ok_CL_init 1 rfl ?_
  refine gv_oiJ ok_CL_init rfl (Nat.le_of_ble_eq_true rfl) ?_
  refine gv_B ok_CL_init 4 rfl ?_
  refine gv_cast (h' := KA8) rfl ?_
  exact gv_Rv ok_CL_init rfl rfl
def KA9 : gv_H := gv_push (gv_set KA8 4 (Sum.inl (3, 16, Sum.inr (va_up (va_up (va_up (fun _ => none) 0 (some 5)) 1 (some 7)) 2 (some 9))))) 4 (Sum.inr (2, [gN, gI 0, gI 0, gI 0]))
def KA10 : gv_H := gv_set (gv_push KA9 30 (Sum.inl (0, 30, Sum.inl (fun _ => 0)))) 11 (Sum.inr (2, [gR 12, gI 0, gI 0, gI 0]))
set_option maxRecDepth 100000 in
theorem ct4_CL_init {G : gv_G} {d : Nat} : gv_ev G (d + 0) M_CL_init [gR 11] KA9 (.inl none) KA10 := by
  refine gv_E (ls := [some (gR 11)]) (by decide) (fun h => by cases h) (Nat.le_of_ble_eq_true rfl) rfl ?_
  refine gv_B ok_CL_init 1 rfl ?_
  refine gv_oiJ ok_CL_init rfl (Nat.le_of_ble_eq_true rfl) ?_
  refine gv_B ok_CL_init 4 rfl ?_
  refine gv_cast (h' := KA10) rfl ?_
  exact gv_Rv ok_CL_init rfl rfl
def KA11 : gv_H := gv_push (gv_set KA10 4 (Sum.inl (3, 16, Sum.inr (va_up (va_up (va_up (va_up (fun _ => none) 0 (some 5)) 1 (some 7)) 2 (some 9)) 3 (some 11))))) 4 (Sum.inr (2, [gN, gI 0, gI 0, gI 0]))
def KA12 : gv_H := gv_set (gv_push KA11 30 (Sum.inl (0, 30, Sum.inl (fun _ => 0)))) 13 (Sum.inr (2, [gR 14, gI 0, gI 0, gI 0]))
set_option maxRecDepth 100000 in
theorem ct5_CL_init {G : gv_G} {d : Nat} : gv_ev G (d + 0) M_CL_init [gR 13] KA11 (.inl none) KA12 := by
  refine gv_E (ls := [some (gR 13)]) (by decide) (fun h => by cases h) (Nat.le_of_ble_eq_true rfl) rfl ?_
  refine gv_B ok_CL_init 1 rfl ?_
  refine gv_oiJ ok_CL_init rfl (Nat.le_of_ble_eq_true rfl) ?_
  refine gv_B ok_CL_init 4 rfl ?_
  refine gv_cast (h' := KA12) rfl ?_
  exact gv_Rv ok_CL_init rfl rfl
def KA13 : gv_H := gv_push (gv_set KA12 4 (Sum.inl (3, 16, Sum.inr (va_up (va_up (va_up (va_up (va_up (fun _ => none) 0 (some 5)) 1 (some 7)) 2 (some 9)) 3 (some 11)) 4 (some 13))))) 4 (Sum.inr (2, [gN, gI 0, gI 0, gI 0]))
def KA14 : gv_H := gv_set (gv_push KA13 30 (Sum.inl (0, 30, Sum.inl (fun _ => 0)))) 15 (Sum.inr (2, [gR 16, gI 0, gI 0, gI 0]))
set_option maxRecDepth 100000 in
theorem ct6_CL_init {G : gv_G} {d : Nat} : gv_ev G (d + 0) M_CL_init [gR 15] KA13 (.inl none) KA14 := by
  refine gv_E (ls := [some (gR 15)]) (by decide) (fun h => by cases h) (Nat.le_of_ble_eq_true rfl) rfl ?_
  refine gv_B ok_CL_init 1 rfl ?_
  refine gv_oiJ ok_CL_init rfl (Nat.le_of_ble_eq_true rfl) ?_
  refine gv_B ok_CL_init 4 rfl ?_
  refine gv_cast (h' := KA14) rfl ?_
  exact gv_Rv ok_CL_init rfl rfl
def KA15 : gv_H := gv_push (gv_set KA14 4 (Sum.inl (3, 16, Sum.inr (va_up (va_up (va_up (va_up (va_up (va_up (fun _ => none) 0 (some 5)) 1 (some 7)) 2 (some 9)) 3 (some 11)) 4 (some 13)) 5 (some 15))))) 4 (Sum.inr (2, [gN, gI 0, gI 0, gI 0]))
def KA16 : gv_H := gv_set (gv_push KA15 30 (Sum.inl (0, 30, Sum.inl (fun _ => 0)))) 17 (Sum.inr (2, [gR 18, gI 0, gI 0, gI 0]))
set_option maxRecDepth 100000 in
theorem ct7_CL_init {G : gv_G} {d : Nat} : gv_ev G (d + 0) M_CL_init [gR 17] KA15 (.inl none) KA16 := by
  refine gv_E (ls := [some (gR 17)]) (by decide) (fun h => by cases h) (Nat.le_of_ble_eq_true rfl) rfl ?_
  refine gv_B ok_CL_init 1 rfl ?_
  refine gv_oiJ ok_CL_init rfl (Nat.le_of_ble_eq_true rfl) ?_
  refine gv_B ok_CL_init 4 rfl ?_
  refine gv_cast (h' := KA16) rfl ?_
  exact gv_Rv ok_CL_init rfl rfl
def KA17 : gv_H := gv_push (gv_set KA16 4 (Sum.inl (3, 16, Sum.inr (va_up (va_up (va_up (va_up (va_up (va_up (va_up (fun _ => none) 0 (some 5)) 1 (some 7)) 2 (some 9)) 3 (some 11)) 4 (some 13)) 5 (some 15)) 6 (some 17))))) 4 (Sum.inr (2, [gN, gI 0, gI 0, gI 0]))
def KA18 : gv_H := gv_set (gv_push KA17 30 (Sum.inl (0, 30, Sum.inl (fun _ => 0)))) 19 (Sum.inr (2, [gR 20, gI 0, gI 0, gI 0]))
set_option maxRecDepth 100000 in
theorem ct8_CL_init {G : gv_G} {d : Nat} : gv_ev G (d + 0) M_CL_init [gR 19] KA17 (.inl none) KA18 := by
  refine gv_E (ls := [some (gR 19)]) (by decide) (fun h => by cases h) (Nat.le_of_ble_eq_true rfl) rfl ?_
  refine gv_B ok_CL_init 1 rfl ?_
  refine gv_oiJ ok_CL_init rfl (Nat.le_of_ble_eq_true rfl) ?_
  refine gv_B ok_CL_init 4 rfl ?_
  refine gv_cast (h' := KA18) rfl ?_
  exact gv_Rv ok_CL_init rfl rfl
def KA19 : gv_H := gv_push (gv_set KA18 4 (Sum.inl (3, 16, Sum.inr (va_up (va_up (va_up (va_up (va_up (va_up (va_up (va_up (fun _ => none) 0 (some 5)) 1 (some 7)) 2 (some 9)) 3 (some 11)) 4 (some 13)) 5 (some 15)) 6 (some 17)) 7 (some 19))))) 4 (Sum.inr (2, [gN, gI 0, gI 0, gI 0]))
def KA20 : gv_H := gv_set (gv_push KA19 30 (Sum.inl (0, 30, Sum.inl (fun _ => 0)))) 21 (Sum.inr (2, [gR 22, gI 0, gI 0, gI 0]))
set_option maxRecDepth 100000 in
theorem ct9_CL_init {G : gv_G} {d : Nat} : gv_ev G (d + 0) M_CL_init [gR 21] KA19 (.inl none) KA20 := by
  refine gv_E (ls := [some (gR 21)]) (by decide) (fun h => by cases h) (Nat.le_of_ble_eq_true rfl) rfl ?_
  refine gv_B ok_CL_init 1 rfl ?_
  refine gv_oiJ ok_CL_init rfl (Nat.le_of_ble_eq_true rfl) ?_
  refine gv_B ok_CL_init 4 rfl ?_
  refine gv_cast (h' := KA20) rfl ?_
  exact gv_Rv ok_CL_init rfl rfl
def KA21 : gv_H := gv_push (gv_set KA20 4 (Sum.inl (3, 16, Sum.inr (va_up (va_up (va_up (va_up (va_up (va_up (va_up (va_up (va_up (fun _ => none) 0 (some 5)) 1 (some 7)) 2 (some 9)) 3 (some 11)) 4 (some 13)) 5 (some 15)) 6 (some 17)) 7 (some 19)) 8 (some 21))))) 4 (Sum.inr (2, [gN, gI 0, gI 0, gI 0]))
def KA22 : gv_H := gv_set (gv_push KA21 30 (Sum.inl (0, 30, Sum.inl (fun _ => 0)))) 23 (Sum.inr (2, [gR 24, gI 0, gI 0, gI 0]))
set_option maxRecDepth 100000 in
theorem ct10_CL_init {G : gv_G} {d : Nat} : gv_ev G (d + 0) M_CL_init [gR 23] KA21 (.inl none) KA22 := by
  refine gv_E (ls := [some (gR 23)]) (by decide) (fun h => by cases h) (Nat.le_of_ble_eq_true rfl) rfl ?_
  refine gv_B ok_CL_init 1 rfl ?_
  refine gv_oiJ ok_CL_init rfl (Nat.le_of_ble_eq_true rfl) ?_
  refine gv_B ok_CL_init 4 rfl ?_
  refine gv_cast (h' := KA22) rfl ?_
  exact gv_Rv ok_CL_init rfl rfl
def KA23 : gv_H := gv_push (gv_set KA22 4 (Sum.inl (3, 16, Sum.inr (va_up (va_up (va_up (va_up (va_up (va_up (va_up (va_up (va_up (va_up (fun _ => none) 0 (some 5)) 1 (some 7)) 2 (some 9)) 3 (some 11)) 4 (some 13)) 5 (some 15)) 6 (some 17)) 7 (some 19)) 8 (some 21)) 9 (some 23))))) 4 (Sum.inr (2, [gN, gI 0, gI 0, gI 0]))
def KA24 : gv_H := gv_set (gv_push KA23 30 (Sum.inl (0, 30, Sum.inl (fun _ => 0)))) 25 (Sum.inr (2, [gR 26, gI 0, gI 0, gI 0]))
set_option maxRecDepth 100000 in
theorem ct11_CL_init {G : gv_G} {d : Nat} : gv_ev G (d + 0) M_CL_init [gR 25] KA23 (.inl none) KA24 := by
  refine gv_E (ls := [some (gR 25)]) (by decide) (fun h => by cases h) (Nat.le_of_ble_eq_true rfl) rfl ?_
  refine gv_B ok_CL_init 1 rfl ?_
  refine gv_oiJ ok_CL_init rfl (Nat.le_of_ble_eq_true rfl) ?_
  refine gv_B ok_CL_init 4 rfl ?_
  refine gv_cast (h' := KA24) rfl ?_
  exact gv_Rv ok_CL_init rfl rfl
def KA25 : gv_H := gv_push (gv_set KA24 4 (Sum.inl (3, 16, Sum.inr (va_up (va_up (va_up (va_up (va_up (va_up (va_up (va_up (va_up (va_up (va_up (fun _ => none) 0 (some 5)) 1 (some 7)) 2 (some 9)) 3 (some 11)) 4 (some 13)) 5 (some 15)) 6 (some 17)) 7 (some 19)) 8 (some 21)) 9 (some 23)) 10 (some 25))))) 4 (Sum.inr (2, [gN, gI 0, gI 0, gI 0]))
def KA26 : gv_H := gv_set (gv_push KA25 30 (Sum.inl (0, 30, Sum.inl (fun _ => 0)))) 27 (Sum.inr (2, [gR 28, gI 0, gI 0, gI 0]))
set_option maxRecDepth 100000 in
theorem ct12_CL_init {G : gv_G} {d : Nat} : gv_ev G (d + 0) M_CL_init [gR 27] KA25 (.inl none) KA26 := by
  refine gv_E (ls := [some (gR 27)]) (by decide) (fun h => by cases h) (Nat.le_of_ble_eq_true rfl) rfl ?_
  refine gv_B ok_CL_init 1 rfl ?_
  refine gv_oiJ ok_CL_init rfl (Nat.le_of_ble_eq_true rfl) ?_
  refine gv_B ok_CL_init 4 rfl ?_
  refine gv_cast (h' := KA26) rfl ?_
  exact gv_Rv ok_CL_init rfl rfl
def KA27 : gv_H := gv_push (gv_set KA26 4 (Sum.inl (3, 16, Sum.inr (va_up (va_up (va_up (va_up (va_up (va_up (va_up (va_up (va_up (va_up (va_up (va_up (fun _ => none) 0 (some 5)) 1 (some 7)) 2 (some 9)) 3 (some 11)) 4 (some 13)) 5 (some 15)) 6 (some 17)) 7 (some 19)) 8 (some 21)) 9 (some 23)) 10 (some 25)) 11 (some 27))))) 4 (Sum.inr (2, [gN, gI 0, gI 0, gI 0]))
def KA28 : gv_H := gv_set (gv_push KA27 30 (Sum.inl (0, 30, Sum.inl (fun _ => 0)))) 29 (Sum.inr (2, [gR 30, gI 0, gI 0, gI 0]))
set_option maxRecDepth 100000 in
theorem ct13_CL_init {G : gv_G} {d : Nat} : gv_ev G (d + 0) M_CL_init [gR 29] KA27 (.inl none) KA28 := by
  refine gv_E (ls := [some (gR 29)]) (by decide) (fun h => by cases h) (Nat.le_of_ble_eq_true rfl) rfl ?_
  refine gv_B ok_CL_init 1 rfl ?_
  refine gv_oiJ ok_CL_init rfl (Nat.le_of_ble_eq_true rfl) ?_
  refine gv_B ok_CL_init 4 rfl ?_
  refine gv_cast (h' := KA28) rfl ?_
  exact gv_Rv ok_CL_init rfl rfl
def KA29 : gv_H := gv_push (gv_set KA28 4 (Sum.inl (3, 16, Sum.inr (va_up (va_up (va_up (va_up (va_up (va_up (va_up (va_up (va_up (va_up (va_up (va_up (va_up (fun _ => none) 0 (some 5)) 1 (some 7)) 2 (some 9)) 3 (some 11)) 4 (some 13)) 5 (some 15)) 6 (some 17)) 7 (some 19)) 8 (some 21)) 9 (some 23)) 10 (some 25)) 11 (some 27)) 12 (some 29))))) 4 (Sum.inr (2, [gN, gI 0, gI 0, gI 0]))
def KA30 : gv_H := gv_set (gv_push KA29 30 (Sum.inl (0, 30, Sum.inl (fun _ => 0)))) 31 (Sum.inr (2, [gR 32, gI 0, gI 0, gI 0]))
set_option maxRecDepth 100000 in
theorem ct14_CL_init {G : gv_G} {d : Nat} : gv_ev G (d + 0) M_CL_init [gR 31] KA29 (.inl none) KA30 := by
  refine gv_E (ls := [some (gR 31)]) (by decide) (fun h => by cases h) (Nat.le_of_ble_eq_true rfl) rfl ?_
  refine gv_B ok_CL_init 1 rfl ?_
  refine gv_oiJ ok_CL_init rfl (Nat.le_of_ble_eq_true rfl) ?_
  refine gv_B ok_CL_init 4 rfl ?_
  refine gv_cast (h' := KA30) rfl ?_
  exact gv_Rv ok_CL_init rfl rfl
def KA31 : gv_H := gv_push (gv_set KA30 4 (Sum.inl (3, 16, Sum.inr (va_up (va_up (va_up (va_up (va_up (va_up (va_up (va_up (va_up (va_up (va_up (va_up (va_up (va_up (fun _ => none) 0 (some 5)) 1 (some 7)) 2 (some 9)) 3 (some 11)) 4 (some 13)) 5 (some 15)) 6 (some 17)) 7 (some 19)) 8 (some 21)) 9 (some 23)) 10 (some 25)) 11 (some 27)) 12 (some 29)) 13 (some 31))))) 4 (Sum.inr (2, [gN, gI 0, gI 0, gI 0]))
def KA32 : gv_H := gv_set (gv_push KA31 30 (Sum.inl (0, 30, Sum.inl (fun _ => 0)))) 33 (Sum.inr (2, [gR 34, gI 0, gI 0, gI 0]))
set_option maxRecDepth 100000 in
theorem ct15_CL_init {G : gv_G} {d : Nat} : gv_ev G (d + 0) M_CL_init [gR 33] KA31 (.inl none) KA32 := by
  refine gv_E (ls := [some (gR 33)]) (by decide) (fun h => by cases h) (Nat.le_of_ble_eq_true rfl) rfl ?_
  refine gv_B ok_CL_init 1 rfl ?_
  refine gv_oiJ ok_CL_init rfl (Nat.le_of_ble_eq_true rfl) ?_
  refine gv_B ok_CL_init 4 rfl ?_
  refine gv_cast (h' := KA32) rfl ?_
  exact gv_Rv ok_CL_init rfl rfl
def KA33 : gv_H := gv_push (gv_set KA32 4 (Sum.inl (3, 16, Sum.inr (va_up (va_up (va_up (va_up (va_up (va_up (va_up (va_up (va_up (va_up (va_up (va_up (va_up (va_up (va_up (fun _ => none) 0 (some 5)) 1 (some 7)) 2 (some 9)) 3 (some 11)) 4 (some 13)) 5 (some 15)) 6 (some 17)) 7 (some 19)) 8 (some 21)) 9 (some 23)) 10 (some 25)) 11 (some 27)) 12 (some 29)) 13 (some 31)) 14 (some 33))))) 4 (Sum.inr (2, [gN, gI 0, gI 0, gI 0]))
def KA34 : gv_H := gv_set (gv_push KA33 30 (Sum.inl (0, 30, Sum.inl (fun _ => 0)))) 35 (Sum.inr (2, [gR 36, gI 0, gI 0, gI 0]))
set_option maxRecDepth 100000 in
theorem ct16_CL_init {G : gv_G} {d : Nat} : gv_ev G (d + 0) M_CL_init [gR 35] KA33 (.inl none) KA34 := by
  refine gv_E (ls := [some (gR 35)]) (by decide) (fun h => by cases h) (Nat.le_of_ble_eq_true rfl) rfl ?_
  refine gv_B ok_CL_init 1 rfl ?_
  refine gv_oiJ ok_CL_init rfl (Nat.le_of_ble_eq_true rfl) ?_
  refine gv_B ok_CL_init 4 rfl ?_
  refine gv_cast (h' := KA34) rfl ?_
  exact gv_Rv ok_CL_init rfl rfl
def KA35 : gv_H := gv_set KA34 4 (Sum.inl (3, 16, Sum.inr (va_up (va_up (va_up (va_up (va_up (va_up (va_up (va_up (va_up (va_up (va_up (va_up (va_up (va_up (va_up (va_up (fun _ => none) 0 (some 5)) 1 (some 7)) 2 (some 9)) 3 (some 11)) 4 (some 13)) 5 (some 15)) 6 (some 17)) 7 (some 19)) 8 (some 21)) 9 (some 23)) 10 (some 25)) 11 (some 27)) 12 (some 29)) 13 (some 31)) 14 (some 33)) 15 (some 35))))
set_option maxRecDepth 100000 in
theorem ct17_RB_init {G : gv_G} {d : Nat} : gv_ev G (d + 1) M_RB_init [gR 3] KA2 (.inl none) KA35 := by
  refine gv_E (ls := [some (gR 3), none]) (by decide) (fun h => by cases h) (Nat.le_of_ble_eq_true rfl) rfl ?_
  refine gv_B ok_RB_init 1 rfl ?_
  refine gv_oiJ ok_RB_init rfl (Nat.le_of_ble_eq_true rfl) ?_
  refine gv_B ok_RB_init 14 rfl ?_
  refine gv_cast (h' := KA3) rfl ?_
  refine gv_I ok_RB_init rfl mk_CL_init rfl (ct1_CL_init (d := d + 0)) rfl rfl (Nat.le_of_ble_eq_true rfl) ?_
  refine gv_B ok_RB_init 11 rfl ?_
  refine gv_cast (h' := KA5) rfl ?_
  refine gv_I ok_RB_init rfl mk_CL_init rfl (ct2_CL_init (d := d + 0)) rfl rfl (Nat.le_of_ble_eq_true rfl) ?_
  refine gv_B ok_RB_init 11 rfl ?_
  refine gv_cast (h' := KA7) rfl ?_
  refine gv_I ok_RB_init rfl mk_CL_init rfl (ct3_CL_init (d := d + 0)) rfl rfl (Nat.le_of_ble_eq_true rfl) ?_
  refine gv_B ok_RB_init 11 rfl ?_
  refine gv_cast (h' := KA9) rfl ?_
  refine gv_I ok_RB_init rfl mk_CL_init rfl (ct4_CL_init (d := d + 0)) rfl rfl (Nat.le_of_ble_eq_true rfl) ?_
  refine gv_B ok_RB_init 11 rfl ?_
  refine gv_cast (h' := KA11) rfl ?_
  refine gv_I ok_RB_init rfl mk_CL_init rfl (ct5_CL_init (d := d + 0)) rfl rfl (Nat.le_of_ble_eq_true rfl) ?_
  refine gv_B ok_RB_init 11 rfl ?_
  refine gv_cast (h' := KA13) rfl ?_
  refine gv_I ok_RB_init rfl mk_CL_init rfl (ct6_CL_init (d := d + 0)) rfl rfl (Nat.le_of_ble_eq_true rfl) ?_
  refine gv_B ok_RB_init 11 rfl ?_
  refine gv_cast (h' := KA15) rfl ?_
  refine gv_I ok_RB_init rfl mk_CL_init rfl (ct7_CL_init (d := d + 0)) rfl rfl (Nat.le_of_ble_eq_true rfl) ?_
  refine gv_B ok_RB_init 11 rfl ?_
  refine gv_cast (h' := KA17) rfl ?_
  refine gv_I ok_RB_init rfl mk_CL_init rfl (ct8_CL_init (d := d + 0)) rfl rfl (Nat.le_of_ble_eq_true rfl) ?_
  refine gv_B ok_RB_init 11 rfl ?_
  refine gv_cast (h' := KA19) rfl ?_
  refine gv_I ok_RB_init rfl mk_CL_init rfl (ct9_CL_init (d := d + 0)) rfl rfl (Nat.le_of_ble_eq_true rfl) ?_
  refine gv_B ok_RB_init 11 rfl ?_
  refine gv_cast (h' := KA21) rfl ?_
  refine gv_I ok_RB_init rfl mk_CL_init rfl (ct10_CL_init (d := d + 0)) rfl rfl (Nat.le_of_ble_eq_true rfl) ?_
  refine gv_B ok_RB_init 11 rfl ?_
  refine gv_cast (h' := KA23) rfl ?_
  refine gv_I ok_RB_init rfl mk_CL_init rfl (ct11_CL_init (d := d + 0)) rfl rfl (Nat.le_of_ble_eq_true rfl) ?_
  refine gv_B ok_RB_init 11 rfl ?_
  refine gv_cast (h' := KA25) rfl ?_
  refine gv_I ok_RB_init rfl mk_CL_init rfl (ct12_CL_init (d := d + 0)) rfl rfl (Nat.le_of_ble_eq_true rfl) ?_
  refine gv_B ok_RB_init 11 rfl ?_
  refine gv_cast (h' := KA27) rfl ?_
  refine gv_I ok_RB_init rfl mk_CL_init rfl (ct13_CL_init (d := d + 0)) rfl rfl (Nat.le_of_ble_eq_true rfl) ?_
  refine gv_B ok_RB_init 11 rfl ?_
  refine gv_cast (h' := KA29) rfl ?_
  refine gv_I ok_RB_init rfl mk_CL_init rfl (ct14_CL_init (d := d + 0)) rfl rfl (Nat.le_of_ble_eq_true rfl) ?_
  refine gv_B ok_RB_init 11 rfl ?_
  refine gv_cast (h' := KA31) rfl ?_
  refine gv_I ok_RB_init rfl mk_CL_init rfl (ct15_CL_init (d := d + 0)) rfl rfl (Nat.le_of_ble_eq_true rfl) ?_
  refine gv_B ok_RB_init 11 rfl ?_
  refine gv_cast (h' := KA33) rfl ?_
  refine gv_I ok_RB_init rfl mk_CL_init rfl (ct16_CL_init (d := d + 0)) rfl rfl (Nat.le_of_ble_eq_true rfl) ?_
  refine gv_B ok_RB_init 6 rfl ?_
  exact gv_Rv ok_RB_init rfl rfl
def KA36 : gv_H := gv_push (gv_set KA35 1 (Sum.inr (0, [gR 2, gI 0, gR 3, gN]))) 13 (Sum.inr (3, [gN, gN, gN, gN, gN, gN, gN, gN, gN, gI 0, gI 0, gI 0, gI 0]))
def KA37 : gv_H := gv_push KA36 4 (Sum.inr (2, [gN, gI 0, gI 0, gI 0]))
def KA38 : gv_H := gv_set (gv_push KA37 30 (Sum.inl (0, 30, Sum.inl (fun _ => 0)))) 38 (Sum.inr (2, [gR 39, gI 0, gI 0, gI 0]))
set_option maxRecDepth 100000 in
theorem ct18_CL_init {G : gv_G} {d : Nat} : gv_ev G (d + 0) M_CL_init [gR 38] KA37 (.inl none) KA38 := by
  refine gv_E (ls := [some (gR 38)]) (by decide) (fun h => by cases h) (Nat.le_of_ble_eq_true rfl) rfl ?_
  refine gv_B ok_CL_init 1 rfl ?_
  refine gv_oiJ ok_CL_init rfl (Nat.le_of_ble_eq_true rfl) ?_
  refine gv_B ok_CL_init 4 rfl ?_
  refine gv_cast (h' := KA38) rfl ?_
  exact gv_Rv ok_CL_init rfl rfl
def KA39 : gv_H := gv_push (gv_set (gv_set KA38 37 (Sum.inr (3, [gN, gR 38, gN, gN, gN, gN, gN, gN, gN, gI 0, gI 0, gI 0, gI 0]))) 37 (Sum.inr (3, [gR 3, gR 38, gN, gN, gN, gN, gN, gN, gN, gI 0, gI 0, gI 0, gI 0]))) 9 (Sum.inr (4, [gN, gI 0, gN, gI 0, gN, gN, gI 0, gN, gI 0]))
def KA40 : gv_H := gv_set (gv_push (gv_set (gv_push KA39 240 (Sum.inl (0, 240, Sum.inl (fun _ => 0)))) 40 (Sum.inr (4, [gR 41, gI 0, gN, gI 0, gN, gN, gI 0, gN, gI 0]))) 240 (Sum.inl (0, 240, Sum.inl (fun _ => 0)))) 40 (Sum.inr (4, [gR 41, gI 0, gR 42, gI 0, gN, gN, gI 0, gN, gI 0]))
def KA41 : gv_H := gv_set (gv_push (gv_set (gv_push KA40 8 (Sum.inl (0, 8, Sum.inl (fun _ => 0)))) 40 (Sum.inr (4, [gR 41, gI 0, gR 42, gI 0, gR 43, gN, gI 0, gN, gI 0]))) 30 (Sum.inl (0, 30, Sum.inl (fun _ => 0)))) 40 (Sum.inr (4, [gR 41, gI 0, gR 42, gI 0, gR 43, gR 44, gI 0, gN, gI 0]))
def KA42 : gv_H := gv_set (gv_push KA41 30 (Sum.inl (0, 30, Sum.inl (fun _ => 0)))) 40 (Sum.inr (4, [gR 41, gI 0, gR 42, gI 0, gR 43, gR 44, gI 0, gR 45, gI 0]))
set_option maxRecDepth 100000 in
theorem ct19_CE_init {G : gv_G} {d : Nat} : gv_ev G (d + 0) M_CE_init [gR 40] KA39 (.inl none) KA42 := by
  refine gv_E (ls := [some (gR 40)]) (by decide) (fun h => by cases h) (Nat.le_of_ble_eq_true rfl) rfl ?_
  refine gv_B ok_CE_init 1 rfl ?_
  refine gv_oiJ ok_CE_init rfl (Nat.le_of_ble_eq_true rfl) ?_
  refine gv_B ok_CE_init 8 rfl ?_
  refine gv_cast (h' := KA40) rfl ?_
  refine gv_B ok_CE_init 8 rfl ?_
  refine gv_cast (h' := KA41) rfl ?_
  refine gv_B ok_CE_init 4 rfl ?_
  refine gv_cast (h' := KA42) rfl ?_
  exact gv_Rv ok_CE_init rfl rfl
def KA43 : gv_H := gv_push (gv_set KA42 37 (Sum.inr (3, [gR 3, gR 38, gR 40, gN, gN, gN, gN, gN, gN, gI 0, gI 0, gI 0, gI 0]))) 4 (Sum.inr (5, [gN, gN, gN, gI 0]))
def KA44 : gv_H := gv_set (gv_push (gv_set (gv_push KA43 240 (Sum.inl (2, 240, Sum.inl (fun _ => 0)))) 46 (Sum.inr (5, [gN, gR 47, gN, gI 0]))) 240 (Sum.inl (0, 240, Sum.inl (fun _ => 0)))) 46 (Sum.inr (5, [gN, gR 47, gR 48, gI 0]))
def KA45 : gv_H := gv_set KA44 46 (Sum.inr (5, [gR 40, gR 47, gR 48, gI 0]))
set_option maxRecDepth 100000 in
theorem ct20_TR_init {G : gv_G} {d : Nat} : gv_ev G (d + 0) M_TR_init [gR 46, gR 40] KA43 (.inl none) KA45 := by
  refine gv_E (ls := [some (gR 46), some (gR 40)]) (by decide) (fun h => by cases h) (Nat.le_of_ble_eq_true rfl) rfl ?_
  refine gv_B ok_TR_init 1 rfl ?_
  refine gv_oiJ ok_TR_init rfl (Nat.le_of_ble_eq_true rfl) ?_
  refine gv_B ok_TR_init 8 rfl ?_
  refine gv_cast (h' := KA44) rfl ?_
  refine gv_B ok_TR_init 3 rfl ?_
  exact gv_Rv ok_TR_init rfl rfl
def KA46 : gv_H := gv_push KA45 5 (Sum.inr (6, [gN, gN, gN, gN, gI 0]))
def KA47 : gv_H := gv_set (gv_push (gv_set (gv_push KA46 601 (Sum.inl (0, 601, Sum.inl (fun _ => 0)))) 49 (Sum.inr (6, [gN, gN, gR 50, gN, gI 0]))) 601 (Sum.inl (0, 601, Sum.inl (fun _ => 0)))) 49 (Sum.inr (6, [gN, gN, gR 50, gR 51, gI 0]))
def KA48 : gv_H := gv_set (gv_set KA47 49 (Sum.inr (6, [gR 40, gN, gR 50, gR 51, gI 0]))) 49 (Sum.inr (6, [gR 40, gR 46, gR 50, gR 51, gI 0]))
set_option maxRecDepth 100000 in
theorem ct21_UN_init {G : gv_G} {d : Nat} : gv_ev G (d + 0) M_UN_init [gR 49, gR 40, gR 46] KA46 (.inl none) KA48 := by
  refine gv_E (ls := [some (gR 49), some (gR 40), some (gR 46)]) (by decide) (fun h => by cases h) (Nat.le_of_ble_eq_true rfl) rfl ?_
  refine gv_B ok_UN_init 1 rfl ?_
  refine gv_oiJ ok_UN_init rfl (Nat.le_of_ble_eq_true rfl) ?_
  refine gv_B ok_UN_init 8 rfl ?_
  refine gv_cast (h' := KA47) rfl ?_
  refine gv_B ok_UN_init 6 rfl ?_
  refine gv_cast (h' := KA48) rfl ?_
  exact gv_Rv ok_UN_init rfl rfl
def KA49 : gv_H := gv_push (gv_set KA48 37 (Sum.inr (3, [gR 3, gR 38, gR 40, gR 49, gN, gN, gN, gN, gN, gI 0, gI 0, gI 0, gI 0]))) 2 (Sum.inr (7, [gN, gI 0]))
def KA50 : gv_H := gv_set KA49 52 (Sum.inr (7, [gR 40, gI 0]))
set_option maxRecDepth 100000 in
theorem ct22_CA_init {G : gv_G} {d : Nat} : gv_ev G (d + 0) M_CA_init [gR 52, gR 40] KA49 (.inl none) KA50 := by
  refine gv_E (ls := [some (gR 52), some (gR 40)]) (by decide) (fun h => by cases h) (Nat.le_of_ble_eq_true rfl) rfl ?_
  refine gv_B ok_CA_init 1 rfl ?_
  refine gv_oiJ ok_CA_init rfl (Nat.le_of_ble_eq_true rfl) ?_
  refine gv_B ok_CA_init 3 rfl ?_
  exact gv_Rv ok_CA_init rfl rfl
def KA51 : gv_H := gv_push (gv_set KA50 37 (Sum.inr (3, [gR 3, gR 38, gR 40, gR 49, gR 52, gN, gN, gN, gN, gI 0, gI 0, gI 0, gI 0]))) 4 (Sum.inr (8, [gN, gN, gN, gN]))
def KA52 : gv_H := gv_set (gv_push (gv_set (gv_push KA51 60 (Sum.inl (0, 60, Sum.inl (fun _ => 0)))) 53 (Sum.inr (8, [gR 54, gN, gN, gN]))) 60 (Sum.inl (0, 60, Sum.inl (fun _ => 0)))) 53 (Sum.inr (8, [gR 54, gR 55, gN, gN]))
def KA53 : gv_H := gv_set (gv_push (gv_set (gv_push KA52 60 (Sum.inl (0, 60, Sum.inl (fun _ => 0)))) 53 (Sum.inr (8, [gR 54, gR 55, gR 56, gN]))) 60 (Sum.inl (2, 60, Sum.inl (fun _ => 0)))) 53 (Sum.inr (8, [gR 54, gR 55, gR 56, gR 57]))
set_option maxRecDepth 100000 in
theorem ct23_GO_init {G : gv_G} {d : Nat} : gv_ev G (d + 0) M_GO_init [gR 53] KA51 (.inl none) KA53 := by
  refine gv_E (ls := [some (gR 53)]) (by decide) (fun h => by cases h) (Nat.le_of_ble_eq_true rfl) rfl ?_
  refine gv_B ok_GO_init 1 rfl ?_
  refine gv_oiJ ok_GO_init rfl (Nat.le_of_ble_eq_true rfl) ?_
  refine gv_B ok_GO_init 8 rfl ?_
  refine gv_cast (h' := KA52) rfl ?_
  refine gv_B ok_GO_init 8 rfl ?_
  refine gv_cast (h' := KA53) rfl ?_
  exact gv_Rv ok_GO_init rfl rfl
def KA54 : gv_H := gv_push (gv_set KA53 37 (Sum.inr (3, [gR 3, gR 38, gR 40, gR 49, gR 52, gR 53, gN, gN, gN, gI 0, gI 0, gI 0, gI 0]))) 6 (Sum.inr (9, [gN, gN, gN, gN, gN, gI 0]))
def KA55 : gv_H := gv_set (gv_push (gv_set (gv_push KA54 300 (Sum.inl (0, 300, Sum.inl (fun _ => 0)))) 58 (Sum.inr (9, [gR 59, gN, gN, gN, gN, gI 0]))) 300 (Sum.inl (0, 300, Sum.inl (fun _ => 0)))) 58 (Sum.inr (9, [gR 59, gR 60, gN, gN, gN, gI 0]))
def KA56 : gv_H := gv_set (gv_push (gv_set (gv_push KA55 300 (Sum.inl (0, 300, Sum.inl (fun _ => 0)))) 58 (Sum.inr (9, [gR 59, gR 60, gR 61, gN, gN, gI 0]))) 300 (Sum.inl (0, 300, Sum.inl (fun _ => 0)))) 58 (Sum.inr (9, [gR 59, gR 60, gR 61, gR 62, gN, gI 0]))
def KA57 : gv_H := gv_set (gv_push KA56 300 (Sum.inl (0, 300, Sum.inl (fun _ => 0)))) 58 (Sum.inr (9, [gR 59, gR 60, gR 61, gR 62, gR 63, gI 0]))
set_option maxRecDepth 100000 in
theorem ct24_CH_init {G : gv_G} {d : Nat} : gv_ev G (d + 0) M_CH_init [gR 58] KA54 (.inl none) KA57 := by
  refine gv_E (ls := [some (gR 58)]) (by decide) (fun h => by cases h) (Nat.le_of_ble_eq_true rfl) rfl ?_
  refine gv_B ok_CH_init 1 rfl ?_
  refine gv_oiJ ok_CH_init rfl (Nat.le_of_ble_eq_true rfl) ?_
  refine gv_B ok_CH_init 8 rfl ?_
  refine gv_cast (h' := KA55) rfl ?_
  refine gv_B ok_CH_init 8 rfl ?_
  refine gv_cast (h' := KA56) rfl ?_
  refine gv_B ok_CH_init 4 rfl ?_
  refine gv_cast (h' := KA57) rfl ?_
  exact gv_Rv ok_CH_init rfl rfl
def KA58 : gv_H := gv_push (gv_set KA57 37 (Sum.inr (3, [gR 3, gR 38, gR 40, gR 49, gR 52, gR 53, gR 58, gN, gN, gI 0, gI 0, gI 0, gI 0]))) 6 (Sum.inr (10, [gN, gN, gN, gN, gN, gI 0]))
def KA59 : gv_H := gv_set (gv_set (gv_set (gv_push KA58 241 (Sum.inl (0, 241, Sum.inl (fun _ => 0)))) 64 (Sum.inr (10, [gN, gN, gN, gN, gR 65, gI 0]))) 64 (Sum.inr (10, [gR 40, gN, gN, gN, gR 65, gI 0]))) 64 (Sum.inr (10, [gR 40, gR 53, gN, gN, gR 65, gI 0]))
def KA60 : gv_H := gv_set (gv_set KA59 64 (Sum.inr (10, [gR 40, gR 53, gR 58, gN, gR 65, gI 0]))) 64 (Sum.inr (10, [gR 40, gR 53, gR 58, gR 46, gR 65, gI 0]))
set_option maxRecDepth 100000 in
theorem ct25_CO_init {G : gv_G} {d : Nat} : gv_ev G (d + 0) M_CO_init [gR 64, gR 40, gR 53, gR 58, gR 46] KA58 (.inl none) KA60 := by
  refine gv_E (ls := [some (gR 64), some (gR 40), some (gR 53), some (gR 58), some (gR 46)]) (by decide) (fun h => by cases h) (Nat.le_of_ble_eq_true rfl) rfl ?_
  refine gv_B ok_CO_init 1 rfl ?_
  refine gv_oiJ ok_CO_init rfl (Nat.le_of_ble_eq_true rfl) ?_
  refine gv_B ok_CO_init 10 rfl ?_
  refine gv_cast (h' := KA59) rfl ?_
  refine gv_B ok_CO_init 6 rfl ?_
  refine gv_cast (h' := KA60) rfl ?_
  exact gv_Rv ok_CO_init rfl rfl
def KA61 : gv_H := gv_push (gv_set KA60 37 (Sum.inr (3, [gR 3, gR 38, gR 40, gR 49, gR 52, gR 53, gR 58, gR 64, gN, gI 0, gI 0, gI 0, gI 0]))) 7 (Sum.inr (11, [gN, gN, gI 0, gN, gI 0, gN, gI 0]))
def KA62 : gv_H := gv_set (gv_push (gv_set (gv_push KA61 90 (Sum.inl (0, 90, Sum.inl (fun _ => 0)))) 66 (Sum.inr (11, [gN, gR 67, gI 0, gN, gI 0, gN, gI 0]))) 90 (Sum.inl (0, 90, Sum.inl (fun _ => 0)))) 66 (Sum.inr (11, [gN, gR 67, gI 0, gR 68, gI 0, gN, gI 0]))
def KA63 : gv_H := gv_set (gv_set (gv_push KA62 181 (Sum.inl (0, 181, Sum.inl (fun _ => 0)))) 66 (Sum.inr (11, [gN, gR 67, gI 0, gR 68, gI 0, gR 69, gI 0]))) 66 (Sum.inr (11, [gR 40, gR 67, gI 0, gR 68, gI 0, gR 69, gI 0]))
set_option maxRecDepth 100000 in
theorem ct26_AN_init {G : gv_G} {d : Nat} : gv_ev G (d + 0) M_AN_init [gR 66, gR 40] KA61 (.inl none) KA63 := by
  refine gv_E (ls := [some (gR 66), some (gR 40)]) (by decide) (fun h => by cases h) (Nat.le_of_ble_eq_true rfl) rfl ?_
  refine gv_B ok_AN_init 1 rfl ?_
  refine gv_oiJ ok_AN_init rfl (Nat.le_of_ble_eq_true rfl) ?_
  refine gv_B ok_AN_init 8 rfl ?_
  refine gv_cast (h' := KA62) rfl ?_
  refine gv_B ok_AN_init 7 rfl ?_
  refine gv_cast (h' := KA63) rfl ?_
  exact gv_Rv ok_AN_init rfl rfl
def KA64 : gv_H := gv_set (gv_set (gv_set (gv_set KA63 37 (Sum.inr (3, [gR 3, gR 38, gR 40, gR 49, gR 52, gR 53, gR 58, gR 64, gR 66, gI 0, gI 0, gI 0, gI 0]))) 37 (Sum.inr (3, [gR 3, gR 38, gR 40, gR 49, gR 52, gR 53, gR 58, gR 64, gR 66, gI (-1), gI 0, gI 0, gI 0]))) 37 (Sum.inr (3, [gR 3, gR 38, gR 40, gR 49, gR 52, gR 53, gR 58, gR 64, gR 66, gI (-1), gI (-1), gI 0, gI 0]))) 37 (Sum.inr (3, [gR 3, gR 38, gR 40, gR 49, gR 52, gR 53, gR 58, gR 64, gR 66, gI (-1), gI (-1), gI 0, gI 0]))
def KA65 : gv_H := gv_set KA64 37 (Sum.inr (3, [gR 3, gR 38, gR 40, gR 49, gR 52, gR 53, gR 58, gR 64, gR 66, gI (-1), gI (-1), gI 0, gI 300]))
set_option maxRecDepth 100000 in
theorem ct27_SE_init {G : gv_G} {d : Nat} : gv_ev G (d + 1) M_SE_init [gR 37, gR 3] KA36 (.inl none) KA65 := by
  refine gv_E (ls := [some (gR 37), some (gR 3), none]) (by decide) (fun h => by cases h) (Nat.le_of_ble_eq_true rfl) rfl ?_
  refine gv_B ok_SE_init 1 rfl ?_
  refine gv_oiJ ok_SE_init rfl (Nat.le_of_ble_eq_true rfl) ?_
  refine gv_B ok_SE_init 3 rfl ?_
  refine gv_I ok_SE_init rfl mk_CL_init rfl (ct18_CL_init (d := d + 0)) rfl rfl (Nat.le_of_ble_eq_true rfl) ?_
  refine gv_B ok_SE_init 7 rfl ?_
  refine gv_cast (h' := KA39) rfl ?_
  refine gv_I ok_SE_init rfl mk_CE_init rfl (ct19_CE_init (d := d + 0)) rfl rfl (Nat.le_of_ble_eq_true rfl) ?_
  refine gv_B ok_SE_init 5 rfl ?_
  refine gv_cast (h' := KA43) rfl ?_
  refine gv_I ok_SE_init rfl mk_TR_init rfl (ct20_TR_init (d := d + 0)) rfl rfl (Nat.le_of_ble_eq_true rfl) ?_
  refine gv_B ok_SE_init 7 rfl ?_
  refine gv_I ok_SE_init rfl mk_UN_init rfl (ct21_UN_init (d := d + 0)) rfl rfl (Nat.le_of_ble_eq_true rfl) ?_
  refine gv_B ok_SE_init 6 rfl ?_
  refine gv_cast (h' := KA49) rfl ?_
  refine gv_I ok_SE_init rfl mk_CA_init rfl (ct22_CA_init (d := d + 0)) rfl rfl (Nat.le_of_ble_eq_true rfl) ?_
  refine gv_B ok_SE_init 4 rfl ?_
  refine gv_cast (h' := KA51) rfl ?_
  refine gv_I ok_SE_init rfl mk_GO_init rfl (ct23_GO_init (d := d + 0)) rfl rfl (Nat.le_of_ble_eq_true rfl) ?_
  refine gv_B ok_SE_init 4 rfl ?_
  refine gv_cast (h' := KA54) rfl ?_
  refine gv_I ok_SE_init rfl mk_CH_init rfl (ct24_CH_init (d := d + 0)) rfl rfl (Nat.le_of_ble_eq_true rfl) ?_
  refine gv_B ok_SE_init 11 rfl ?_
  refine gv_cast (h' := KA58) rfl ?_
  refine gv_I ok_SE_init rfl mk_CO_init rfl (ct25_CO_init (d := d + 0)) rfl rfl (Nat.le_of_ble_eq_true rfl) ?_
  refine gv_B ok_SE_init 6 rfl ?_
  refine gv_cast (h' := KA61) rfl ?_
  refine gv_I ok_SE_init rfl mk_AN_init rfl (ct26_AN_init (d := d + 0)) rfl rfl (Nat.le_of_ble_eq_true rfl) ?_
  refine gv_B ok_SE_init 10 rfl ?_
  refine gv_cast (h' := KA64) rfl ?_
  refine gv_B ok_SE_init 3 rfl ?_
  exact gv_Rv ok_SE_init rfl rfl
def KA66 : gv_H := gv_set KA65 1 (Sum.inr (0, [gR 2, gI 0, gR 3, gR 37]))
set_option maxRecDepth 100000 in
theorem ct28_GE_init {G : gv_G} {d : Nat} : gv_ev G (d + 2) M_GE_init [gR 1] KA1 (.inl none) KA66 := by
  refine gv_E (ls := [some (gR 1)]) (by decide) (fun h => by cases h) (Nat.le_of_ble_eq_true rfl) rfl ?_
  refine gv_B ok_GE_init 1 rfl ?_
  refine gv_oiJ ok_GE_init rfl (Nat.le_of_ble_eq_true rfl) ?_
  refine gv_B ok_GE_init 9 rfl ?_
  refine gv_cast (h' := KA2) rfl ?_
  refine gv_B ok_GE_init 1 rfl ?_
  refine gv_I ok_GE_init rfl mk_RB_init rfl (ct17_RB_init (d := d + 0)) rfl rfl (Nat.le_of_ble_eq_true rfl) ?_
  refine gv_B ok_GE_init 6 rfl ?_
  refine gv_cast (h' := KA36) rfl ?_
  refine gv_I ok_GE_init rfl mk_SE_init rfl (ct27_SE_init (d := d + 0)) rfl rfl (Nat.le_of_ble_eq_true rfl) ?_
  refine gv_B ok_GE_init 1 rfl ?_
  exact gv_Rv ok_GE_init rfl rfl
def KA67 : gv_H := gv_push KA66 50 (Sum.inr (12, [gI 0, gI 0, gN, gI 0, gN, gN, gN, gN, gN, gN, gN, gN, gI 0, gI 0, gN, gN, gI 0, gI 0, gI 0, gN, gN, gN, gN, gI 0, gN, gI 0, gI 0, gI 0, gI 0, gN, gI 0, gN, gN, gN, gI 0, gI 0, gI 0, gN, gI 0, gN, gI 0, gI 0, gN, gI 0, gN, gN, gI 0, gN, gN, gI 0]))
def KA68 : gv_H := gv_set (gv_push (gv_set (gv_push KA67 30 (Sum.inl (0, 30, Sum.inl (fun _ => 0)))) 70 (Sum.inr (12, [gI 0, gI 0, gR 71, gI 0, gN, gN, gN, gN, gN, gN, gN, gN, gI 0, gI 0, gN, gN, gI 0, gI 0, gI 0, gN, gN, gN, gN, gI 0, gN, gI 0, gI 0, gI 0, gI 0, gN, gI 0, gN, gN, gN, gI 0, gI 0, gI 0, gN, gI 0, gN, gI 0, gI 0, gN, gI 0, gN, gN, gI 0, gN, gN, gI 0]))) 480 (Sum.inl (0, 480, Sum.inl (fun _ => 0)))) 70 (Sum.inr (12, [gI 0, gI 0, gR 71, gI 0, gR 72, gN, gN, gN, gN, gN, gN, gN, gI 0, gI 0, gN, gN, gI 0, gI 0, gI 0, gN, gN, gN, gN, gI 0, gN, gI 0, gI 0, gI 0, gI 0, gN, gI 0, gN, gN, gN, gI 0, gI 0, gI 0, gN, gI 0, gN, gI 0, gI 0, gN, gI 0, gN, gN, gI 0, gN, gN, gI 0]))
def KA69 : gv_H := gv_set (gv_push (gv_set (gv_push KA68 16 (Sum.inl (0, 16, Sum.inl (fun _ => 0)))) 70 (Sum.inr (12, [gI 0, gI 0, gR 71, gI 0, gR 72, gR 73, gN, gN, gN, gN, gN, gN, gI 0, gI 0, gN, gN, gI 0, gI 0, gI 0, gN, gN, gN, gN, gI 0, gN, gI 0, gI 0, gI 0, gI 0, gN, gI 0, gN, gN, gN, gI 0, gI 0, gI 0, gN, gI 0, gN, gI 0, gI 0, gN, gI 0, gN, gN, gI 0, gN, gN, gI 0]))) 240 (Sum.inl (0, 240, Sum.inl (fun _ => 0)))) 70 (Sum.inr (12, [gI 0, gI 0, gR 71, gI 0, gR 72, gR 73, gR 74, gN, gN, gN, gN, gN, gI 0, gI 0, gN, gN, gI 0, gI 0, gI 0, gN, gN, gN, gN, gI 0, gN, gI 0, gI 0, gI 0, gI 0, gN, gI 0, gN, gN, gN, gI 0, gI 0, gI 0, gN, gI 0, gN, gI 0, gI 0, gN, gI 0, gN, gN, gI 0, gN, gN, gI 0]))
def KA70 : gv_H := gv_set (gv_push (gv_set (gv_push KA69 240 (Sum.inl (0, 240, Sum.inl (fun _ => 0)))) 70 (Sum.inr (12, [gI 0, gI 0, gR 71, gI 0, gR 72, gR 73, gR 74, gR 75, gN, gN, gN, gN, gI 0, gI 0, gN, gN, gI 0, gI 0, gI 0, gN, gN, gN, gN, gI 0, gN, gI 0, gI 0, gI 0, gI 0, gN, gI 0, gN, gN, gN, gI 0, gI 0, gI 0, gN, gI 0, gN, gI 0, gI 0, gN, gI 0, gN, gN, gI 0, gN, gN, gI 0]))) 240 (Sum.inl (0, 240, Sum.inl (fun _ => 0)))) 70 (Sum.inr (12, [gI 0, gI 0, gR 71, gI 0, gR 72, gR 73, gR 74, gR 75, gR 76, gN, gN, gN, gI 0, gI 0, gN, gN, gI 0, gI 0, gI 0, gN, gN, gN, gN, gI 0, gN, gI 0, gI 0, gI 0, gI 0, gN, gI 0, gN, gN, gN, gI 0, gI 0, gI 0, gN, gI 0, gN, gI 0, gI 0, gN, gI 0, gN, gN, gI 0, gN, gN, gI 0]))
def KA71 : gv_H := gv_set (gv_push (gv_set (gv_push KA70 240 (Sum.inl (0, 240, Sum.inl (fun _ => 0)))) 70 (Sum.inr (12, [gI 0, gI 0, gR 71, gI 0, gR 72, gR 73, gR 74, gR 75, gR 76, gR 77, gN, gN, gI 0, gI 0, gN, gN, gI 0, gI 0, gI 0, gN, gN, gN, gN, gI 0, gN, gI 0, gI 0, gI 0, gI 0, gN, gI 0, gN, gN, gN, gI 0, gI 0, gI 0, gN, gI 0, gN, gI 0, gI 0, gN, gI 0, gN, gN, gI 0, gN, gN, gI 0]))) 240 (Sum.inl (0, 240, Sum.inl (fun _ => 0)))) 70 (Sum.inr (12, [gI 0, gI 0, gR 71, gI 0, gR 72, gR 73, gR 74, gR 75, gR 76, gR 77, gR 78, gN, gI 0, gI 0, gN, gN, gI 0, gI 0, gI 0, gN, gN, gN, gN, gI 0, gN, gI 0, gI 0, gI 0, gI 0, gN, gI 0, gN, gN, gN, gI 0, gI 0, gI 0, gN, gI 0, gN, gI 0, gI 0, gN, gI 0, gN, gN, gI 0, gN, gN, gI 0]))
def KA72 : gv_H := gv_set (gv_push (gv_set (gv_push KA71 720 (Sum.inl (0, 720, Sum.inl (fun _ => 0)))) 70 (Sum.inr (12, [gI 0, gI 0, gR 71, gI 0, gR 72, gR 73, gR 74, gR 75, gR 76, gR 77, gR 78, gR 79, gI 0, gI 0, gN, gN, gI 0, gI 0, gI 0, gN, gN, gN, gN, gI 0, gN, gI 0, gI 0, gI 0, gI 0, gN, gI 0, gN, gN, gN, gI 0, gI 0, gI 0, gN, gI 0, gN, gI 0, gI 0, gN, gI 0, gN, gN, gI 0, gN, gN, gI 0]))) 8900 (Sum.inl (0, 8900, Sum.inl (fun _ => 0)))) 70 (Sum.inr (12, [gI 0, gI 0, gR 71, gI 0, gR 72, gR 73, gR 74, gR 75, gR 76, gR 77, gR 78, gR 79, gI 0, gI 0, gR 80, gN, gI 0, gI 0, gI 0, gN, gN, gN, gN, gI 0, gN, gI 0, gI 0, gI 0, gI 0, gN, gI 0, gN, gN, gN, gI 0, gI 0, gI 0, gN, gI 0, gN, gI 0, gI 0, gN, gI 0, gN, gN, gI 0, gN, gN, gI 0]))
def KA73 : gv_H := gv_set (gv_set (gv_set (gv_push KA72 8900 (Sum.inl (0, 8900, Sum.inl (fun _ => 0)))) 70 (Sum.inr (12, [gI 0, gI 0, gR 71, gI 0, gR 72, gR 73, gR 74, gR 75, gR 76, gR 77, gR 78, gR 79, gI 0, gI 0, gR 80, gR 81, gI 0, gI 0, gI 0, gN, gN, gN, gN, gI 0, gN, gI 0, gI 0, gI 0, gI 0, gN, gI 0, gN, gN, gN, gI 0, gI 0, gI 0, gN, gI 0, gN, gI 0, gI 0, gN, gI 0, gN, gN, gI 0, gN, gN, gI 0]))) 70 (Sum.inr (12, [gI 0, gI 0, gR 71, gI 0, gR 72, gR 73, gR 74, gR 75, gR 76, gR 77, gR 78, gR 79, gI 0, gI 0, gR 80, gR 81, gI (-1), gI 0, gI 0, gN, gN, gN, gN, gI 0, gN, gI 0, gI 0, gI 0, gI 0, gN, gI 0, gN, gN, gN, gI 0, gI 0, gI 0, gN, gI 0, gN, gI 0, gI 0, gN, gI 0, gN, gN, gI 0, gN, gN, gI 0]))) 70 (Sum.inr (12, [gI 0, gI 0, gR 71, gI 0, gR 72, gR 73, gR 74, gR 75, gR 76, gR 77, gR 78, gR 79, gI 0, gI 0, gR 80, gR 81, gI (-1), gI (-1), gI 0, gN, gN, gN, gN, gI 0, gN, gI 0, gI 0, gI 0, gI 0, gN, gI 0, gN, gN, gN, gI 0, gI 0, gI 0, gN, gI 0, gN, gI 0, gI 0, gN, gI 0, gN, gN, gI 0, gN, gN, gI 0]))
def KA74 : gv_H := gv_set (gv_push (gv_set (gv_push KA73 320 (Sum.inl (0, 320, Sum.inl (fun _ => 0)))) 70 (Sum.inr (12, [gI 0, gI 0, gR 71, gI 0, gR 72, gR 73, gR 74, gR 75, gR 76, gR 77, gR 78, gR 79, gI 0, gI 0, gR 80, gR 81, gI (-1), gI (-1), gI 0, gR 82, gN, gN, gN, gI 0, gN, gI 0, gI 0, gI 0, gI 0, gN, gI 0, gN, gN, gN, gI 0, gI 0, gI 0, gN, gI 0, gN, gI 0, gI 0, gN, gI 0, gN, gN, gI 0, gN, gN, gI 0]))) 320 (Sum.inl (0, 320, Sum.inl (fun _ => 0)))) 70 (Sum.inr (12, [gI 0, gI 0, gR 71, gI 0, gR 72, gR 73, gR 74, gR 75, gR 76, gR 77, gR 78, gR 79, gI 0, gI 0, gR 80, gR 81, gI (-1), gI (-1), gI 0, gR 82, gR 83, gN, gN, gI 0, gN, gI 0, gI 0, gI 0, gI 0, gN, gI 0, gN, gN, gN, gI 0, gI 0, gI 0, gN, gI 0, gN, gI 0, gI 0, gN, gI 0, gN, gN, gI 0, gN, gN, gI 0]))
def KA75 : gv_H := gv_set (gv_push (gv_set (gv_push KA74 320 (Sum.inl (0, 320, Sum.inl (fun _ => 0)))) 70 (Sum.inr (12, [gI 0, gI 0, gR 71, gI 0, gR 72, gR 73, gR 74, gR 75, gR 76, gR 77, gR 78, gR 79, gI 0, gI 0, gR 80, gR 81, gI (-1), gI (-1), gI 0, gR 82, gR 83, gR 84, gN, gI 0, gN, gI 0, gI 0, gI 0, gI 0, gN, gI 0, gN, gN, gN, gI 0, gI 0, gI 0, gN, gI 0, gN, gI 0, gI 0, gN, gI 0, gN, gN, gI 0, gN, gN, gI 0]))) 320 (Sum.inl (0, 320, Sum.inl (fun _ => 0)))) 70 (Sum.inr (12, [gI 0, gI 0, gR 71, gI 0, gR 72, gR 73, gR 74, gR 75, gR 76, gR 77, gR 78, gR 79, gI 0, gI 0, gR 80, gR 81, gI (-1), gI (-1), gI 0, gR 82, gR 83, gR 84, gR 85, gI 0, gN, gI 0, gI 0, gI 0, gI 0, gN, gI 0, gN, gN, gN, gI 0, gI 0, gI 0, gN, gI 0, gN, gI 0, gI 0, gN, gI 0, gN, gN, gI 0, gN, gN, gI 0]))
def KA76 : gv_H := gv_push (gv_set (gv_set (gv_push KA75 2600 (Sum.inl (0, 2600, Sum.inl (fun _ => 0)))) 70 (Sum.inr (12, [gI 0, gI 0, gR 71, gI 0, gR 72, gR 73, gR 74, gR 75, gR 76, gR 77, gR 78, gR 79, gI 0, gI 0, gR 80, gR 81, gI (-1), gI (-1), gI 0, gR 82, gR 83, gR 84, gR 85, gI 0, gR 86, gI 0, gI 0, gI 0, gI 0, gN, gI 0, gN, gN, gN, gI 0, gI 0, gI 0, gN, gI 0, gN, gI 0, gI 0, gN, gI 0, gN, gN, gI 0, gN, gN, gI 0]))) 70 (Sum.inr (12, [gI 0, gI 0, gR 71, gI 0, gR 72, gR 73, gR 74, gR 75, gR 76, gR 77, gR 78, gR 79, gI 0, gI 0, gR 80, gR 81, gI (-1), gI (-1), gI 0, gR 82, gR 83, gR 84, gR 85, gI 0, gR 86, gI 0, gI 0, gI 300, gI 0, gN, gI 0, gN, gN, gN, gI 0, gI 0, gI 0, gN, gI 0, gN, gI 0, gI 0, gN, gI 0, gN, gN, gI 0, gN, gN, gI 0]))) 8 (Sum.inl (0, 8, Sum.inl (fun _ => 0)))
def KA77 : gv_H := gv_push (gv_set (gv_push (gv_set KA76 70 (Sum.inr (12, [gI 0, gI 0, gR 71, gI 0, gR 72, gR 73, gR 74, gR 75, gR 76, gR 77, gR 78, gR 79, gI 0, gI 0, gR 80, gR 81, gI (-1), gI (-1), gI 0, gR 82, gR 83, gR 84, gR 85, gI 0, gR 86, gI 0, gI 0, gI 300, gI 0, gR 87, gI 0, gN, gN, gN, gI 0, gI 0, gI 0, gN, gI 0, gN, gI 0, gI 0, gN, gI 0, gN, gN, gI 0, gN, gN, gI 0]))) 1600 (Sum.inl (0, 1600, Sum.inl (fun _ => 0)))) 70 (Sum.inr (12, [gI 0, gI 0, gR 71, gI 0, gR 72, gR 73, gR 74, gR 75, gR 76, gR 77, gR 78, gR 79, gI 0, gI 0, gR 80, gR 81, gI (-1), gI (-1), gI 0, gR 82, gR 83, gR 84, gR 85, gI 0, gR 86, gI 0, gI 0, gI 300, gI 0, gR 87, gI 0, gR 88, gN, gN, gI 0, gI 0, gI 0, gN, gI 0, gN, gI 0, gI 0, gN, gI 0, gN, gN, gI 0, gN, gN, gI 0]))) 1600 (Sum.inl (0, 1600, Sum.inl (fun _ => 0)))
def KA78 : gv_H := gv_push (gv_set (gv_push (gv_set KA77 70 (Sum.inr (12, [gI 0, gI 0, gR 71, gI 0, gR 72, gR 73, gR 74, gR 75, gR 76, gR 77, gR 78, gR 79, gI 0, gI 0, gR 80, gR 81, gI (-1), gI (-1), gI 0, gR 82, gR 83, gR 84, gR 85, gI 0, gR 86, gI 0, gI 0, gI 300, gI 0, gR 87, gI 0, gR 88, gR 89, gN, gI 0, gI 0, gI 0, gN, gI 0, gN, gI 0, gI 0, gN, gI 0, gN, gN, gI 0, gN, gN, gI 0]))) 240 (Sum.inl (0, 240, Sum.inl (fun _ => 0)))) 70 (Sum.inr (12, [gI 0, gI 0, gR 71, gI 0, gR 72, gR 73, gR 74, gR 75, gR 76, gR 77, gR 78, gR 79, gI 0, gI 0, gR 80, gR 81, gI (-1), gI (-1), gI 0, gR 82, gR 83, gR 84, gR 85, gI 0, gR 86, gI 0, gI 0, gI 300, gI 0, gR 87, gI 0, gR 88, gR 89, gR 90, gI 0, gI 0, gI 0, gN, gI 0, gN, gI 0, gI 0, gN, gI 0, gN, gN, gI 0, gN, gN, gI 0]))) 100 (Sum.inl (0, 100, Sum.inl (fun _ => 0)))
def KA79 : gv_H := gv_push (gv_set (gv_push (gv_set KA78 70 (Sum.inr (12, [gI 0, gI 0, gR 71, gI 0, gR 72, gR 73, gR 74, gR 75, gR 76, gR 77, gR 78, gR 79, gI 0, gI 0, gR 80, gR 81, gI (-1), gI (-1), gI 0, gR 82, gR 83, gR 84, gR 85, gI 0, gR 86, gI 0, gI 0, gI 300, gI 0, gR 87, gI 0, gR 88, gR 89, gR 90, gI 0, gI 0, gI 0, gR 91, gI 0, gN, gI 0, gI 0, gN, gI 0, gN, gN, gI 0, gN, gN, gI 0]))) 90 (Sum.inl (0, 90, Sum.inl (fun _ => 0)))) 70 (Sum.inr (12, [gI 0, gI 0, gR 71, gI 0, gR 72, gR 73, gR 74, gR 75, gR 76, gR 77, gR 78, gR 79, gI 0, gI 0, gR 80, gR 81, gI (-1), gI (-1), gI 0, gR 82, gR 83, gR 84, gR 85, gI 0, gR 86, gI 0, gI 0, gI 300, gI 0, gR 87, gI 0, gR 88, gR 89, gR 90, gI 0, gI 0, gI 0, gR 91, gI 0, gR 92, gI 0, gI 0, gN, gI 0, gN, gN, gI 0, gN, gN, gI 0]))) 8 (Sum.inl (0, 8, Sum.inl (fun _ => 0)))
def KA80 : gv_H := gv_push (gv_set (gv_push (gv_set KA79 70 (Sum.inr (12, [gI 0, gI 0, gR 71, gI 0, gR 72, gR 73, gR 74, gR 75, gR 76, gR 77, gR 78, gR 79, gI 0, gI 0, gR 80, gR 81, gI (-1), gI (-1), gI 0, gR 82, gR 83, gR 84, gR 85, gI 0, gR 86, gI 0, gI 0, gI 300, gI 0, gR 87, gI 0, gR 88, gR 89, gR 90, gI 0, gI 0, gI 0, gR 91, gI 0, gR 92, gI 0, gI 0, gR 93, gI 0, gN, gN, gI 0, gN, gN, gI 0]))) 40 (Sum.inl (0, 40, Sum.inl (fun _ => 0)))) 70 (Sum.inr (12, [gI 0, gI 0, gR 71, gI 0, gR 72, gR 73, gR 74, gR 75, gR 76, gR 77, gR 78, gR 79, gI 0, gI 0, gR 80, gR 81, gI (-1), gI (-1), gI 0, gR 82, gR 83, gR 84, gR 85, gI 0, gR 86, gI 0, gI 0, gI 300, gI 0, gR 87, gI 0, gR 88, gR 89, gR 90, gI 0, gI 0, gI 0, gR 91, gI 0, gR 92, gI 0, gI 0, gR 93, gI 0, gR 94, gN, gI 0, gN, gN, gI 0]))) 40 (Sum.inl (0, 40, Sum.inl (fun _ => 0)))
def KA81 : gv_H := gv_push (gv_set (gv_push (gv_set KA80 70 (Sum.inr (12, [gI 0, gI 0, gR 71, gI 0, gR 72, gR 73, gR 74, gR 75, gR 76, gR 77, gR 78, gR 79, gI 0, gI 0, gR 80, gR 81, gI (-1), gI (-1), gI 0, gR 82, gR 83, gR 84, gR 85, gI 0, gR 86, gI 0, gI 0, gI 300, gI 0, gR 87, gI 0, gR 88, gR 89, gR 90, gI 0, gI 0, gI 0, gR 91, gI 0, gR 92, gI 0, gI 0, gR 93, gI 0, gR 94, gR 95, gI 0, gN, gN, gI 0]))) 30 (Sum.inl (0, 30, Sum.inl (fun _ => 0)))) 70 (Sum.inr (12, [gI 0, gI 0, gR 71, gI 0, gR 72, gR 73, gR 74, gR 75, gR 76, gR 77, gR 78, gR 79, gI 0, gI 0, gR 80, gR 81, gI (-1), gI (-1), gI 0, gR 82, gR 83, gR 84, gR 85, gI 0, gR 86, gI 0, gI 0, gI 300, gI 0, gR 87, gI 0, gR 88, gR 89, gR 90, gI 0, gI 0, gI 0, gR 91, gI 0, gR 92, gI 0, gI 0, gR 93, gI 0, gR 94, gR 95, gI 0, gR 96, gN, gI 0]))) 30 (Sum.inl (0, 30, Sum.inl (fun _ => 0)))
def KA82 : gv_H := gv_set KA81 70 (Sum.inr (12, [gI 0, gI 0, gR 71, gI 0, gR 72, gR 73, gR 74, gR 75, gR 76, gR 77, gR 78, gR 79, gI 0, gI 0, gR 80, gR 81, gI (-1), gI (-1), gI 0, gR 82, gR 83, gR 84, gR 85, gI 0, gR 86, gI 0, gI 0, gI 300, gI 0, gR 87, gI 0, gR 88, gR 89, gR 90, gI 0, gI 0, gI 0, gR 91, gI 0, gR 92, gI 0, gI 0, gR 93, gI 0, gR 94, gR 95, gI 0, gR 96, gR 97, gI 0]))
set_option maxRecDepth 100000 in
theorem ct29_MO_init {G : gv_G} {d : Nat} : gv_ev G (d + 0) M_MO_init [gR 70] KA67 (.inl none) KA82 := by
  refine gv_E (ls := [some (gR 70)]) (by decide) (fun h => by cases h) (Nat.le_of_ble_eq_true rfl) rfl ?_
  refine gv_B ok_MO_init 1 rfl ?_
  refine gv_oiJ ok_MO_init rfl (Nat.le_of_ble_eq_true rfl) ?_
  refine gv_B ok_MO_init 8 rfl ?_
  refine gv_cast (h' := KA68) rfl ?_
  refine gv_B ok_MO_init 8 rfl ?_
  refine gv_cast (h' := KA69) rfl ?_
  refine gv_B ok_MO_init 8 rfl ?_
  refine gv_cast (h' := KA70) rfl ?_
  refine gv_B ok_MO_init 8 rfl ?_
  refine gv_cast (h' := KA71) rfl ?_
  refine gv_B ok_MO_init 8 rfl ?_
  refine gv_cast (h' := KA72) rfl ?_
  refine gv_B ok_MO_init 10 rfl ?_
  refine gv_cast (h' := KA73) rfl ?_
  refine gv_B ok_MO_init 8 rfl ?_
  refine gv_cast (h' := KA74) rfl ?_
  refine gv_B ok_MO_init 8 rfl ?_
  refine gv_cast (h' := KA75) rfl ?_
  refine gv_B ok_MO_init 10 rfl ?_
  refine gv_cast (h' := KA76) rfl ?_
  refine gv_B ok_MO_init 8 rfl ?_
  refine gv_cast (h' := KA77) rfl ?_
  refine gv_B ok_MO_init 8 rfl ?_
  refine gv_cast (h' := KA78) rfl ?_
  refine gv_B ok_MO_init 8 rfl ?_
  refine gv_cast (h' := KA79) rfl ?_
  refine gv_B ok_MO_init 8 rfl ?_
  refine gv_cast (h' := KA80) rfl ?_
  refine gv_B ok_MO_init 8 rfl ?_
  refine gv_cast (h' := KA81) rfl ?_
  refine gv_B ok_MO_init 1 rfl ?_
  exact gv_Rv ok_MO_init rfl rfl
end CTA
