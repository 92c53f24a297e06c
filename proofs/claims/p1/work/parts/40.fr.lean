/-! the law on a fresh object: at most one call (written by wip/tools/gen40.py) -/
section FRA
def KB : gv_H := gv_push KA82 1 (Sum.inl (1, 1, Sum.inl (fun _ => 0)))
theorem kb_s {P : Nat → Prop} {n : Nat} (h : ∀ k, k < n → P k) (hn : P n) : ∀ k, k < n + 1 → P k := fun k hk => (Nat.lt_succ_iff_lt_or_eq.mp hk).elim (h k) (fun e => e ▸ hn)
theorem tp_ge {m : Nat → Int32} {k : Nat} (hk : 99 ≤ k) : tpl 54 60 k m = none := by
  have h : tp_a 54 k m = none := by
    unfold tp_a
    split <;> first | rfl | omega
  unfold tpl
  rw [h]
  dsimp only
  rw [if_neg (by omega), if_neg (by omega), if_neg (by omega), if_neg (by omega)]
abbrev kb_P (k : Nat) : Prop := ∀ c, tpl 54 60 k (tp_0 k) = some c → KB.2.2 k = some c
set_option maxRecDepth 100000 in
theorem kb_0 : kb_P 0 := fun c h => (show KB.2.2 0 = tpl 54 60 0 (tp_0 0) from rfl).trans h
set_option maxRecDepth 100000 in
theorem kb_1 : kb_P 1 := fun c h => (show KB.2.2 1 = tpl 54 60 1 (tp_0 1) from rfl).trans h
set_option maxRecDepth 100000 in
theorem kb_2 : kb_P 2 := fun c h => (show KB.2.2 2 = tpl 54 60 2 (tp_0 2) from rfl).trans h
set_option maxRecDepth 100000 in
theorem kb_3 : kb_P 3 := fun c h => (show KB.2.2 3 = tpl 54 60 3 (tp_0 3) from rfl).trans h
set_option maxRecDepth 100000 in
theorem kb_4 : kb_P 4 := fun c h => (show KB.2.2 4 = tpl 54 60 4 (tp_0 4) from rfl).trans h
set_option maxRecDepth 100000 in
theorem kb_5 : kb_P 5 := fun c h => (show KB.2.2 5 = tpl 54 60 5 (tp_0 5) from rfl).trans h
set_option maxRecDepth 100000 in
theorem kb_6 : kb_P 6 := fun c h => (show KB.2.2 6 = tpl 54 60 6 (tp_0 6) from rfl).trans h
set_option maxRecDepth 100000 in
theorem kb_7 : kb_P 7 := fun c h => (show KB.2.2 7 = tpl 54 60 7 (tp_0 7) from rfl).trans h
set_option maxRecDepth 100000 in
theorem kb_8 : kb_P 8 := fun c h => (show KB.2.2 8 = tpl 54 60 8 (tp_0 8) from rfl).trans h
set_option maxRecDepth 100000 in
theorem kb_9 : kb_P 9 := fun c h => (show KB.2.2 9 = tpl 54 60 9 (tp_0 9) from rfl).trans h
set_option maxRecDepth 100000 in
theorem kb_10 : kb_P 10 := fun c h => (show KB.2.2 10 = tpl 54 60 10 (tp_0 10) from rfl).trans h
set_option maxRecDepth 100000 in
theorem kb_11 : kb_P 11 := fun c h => (show KB.2.2 11 = tpl 54 60 11 (tp_0 11) from rfl).trans h
set_option maxRecDepth 100000 in
theorem kb_12 : kb_P 12 := fun c h => (show KB.2.2 12 = tpl 54 60 12 (tp_0 12) from rfl).trans h
set_option maxRecDepth 100000 in
theorem kb_13 : kb_P 13 := fun c h => (show KB.2.2 13 = tpl 54 60 13 (tp_0 13) from rfl).trans h
set_option maxRecDepth 100000 in
theorem kb_14 : kb_P 14 := fun c h => (show KB.2.2 14 = tpl 54 60 14 (tp_0 14) from rfl).trans h
set_option maxRecDepth 100000 in
theorem kb_15 : kb_P 15 := fun c h => (show KB.2.2 15 = tpl 54 60 15 (tp_0 15) from rfl).trans h
set_option maxRecDepth 100000 in
theorem kb_16 : kb_P 16 := fun c h => (show KB.2.2 16 = tpl 54 60 16 (tp_0 16) from rfl).trans h
set_option maxRecDepth 100000 in
theorem kb_17 : kb_P 17 := fun c h => (show KB.2.2 17 = tpl 54 60 17 (tp_0 17) from rfl).trans h
set_option maxRecDepth 100000 in
theorem kb_18 : kb_P 18 := fun c h => (show KB.2.2 18 = tpl 54 60 18 (tp_0 18) from rfl).trans h
set_option maxRecDepth 100000 in
theorem kb_19 : kb_P 19 := fun c h => (show KB.2.2 19 = tpl 54 60 19 (tp_0 19) from rfl).trans h
set_option maxRecDepth 100000 in
theorem kb_20 : kb_P 20 := fun c h => (show KB.2.2 20 = tpl 54 60 20 (tp_0 20) from rfl).trans h
set_option maxRecDepth 100000 in
theorem kb_21 : kb_P 21 := fun c h => (show KB.2.2 21 = tpl 54 60 21 (tp_0 21) from rfl).trans h
set_option maxRecDepth 100000 in
theorem kb_22 : kb_P 22 := fun c h => (show KB.2.2 22 = tpl 54 60 22 (tp_0 22) from rfl).trans h
set_option maxRecDepth 100000 in
theorem kb_23 : kb_P 23 := fun c h => (show KB.2.2 23 = tpl 54 60 23 (tp_0 23) from rfl).trans h
set_option maxRecDepth 100000 in
theorem kb_24 : kb_P 24 := fun c h => (show KB.2.2 24 = tpl 54 60 24 (tp_0 24) from rfl).trans h
set_option maxRecDepth 100000 in
theorem kb_25 : kb_P 25 := fun c h => (show KB.2.2 25 = tpl 54 60 25 (tp_0 25) from rfl).trans h
set_option maxRecDepth 100000 in
theorem kb_26 : kb_P 26 := fun c h => (show KB.2.2 26 = tpl 54 60 26 (tp_0 26) from rfl).trans h
set_option maxRecDepth 100000 in
theorem kb_27 : kb_P 27 := fun c h => (show KB.2.2 27 = tpl 54 60 27 (tp_0 27) from rfl).trans h
set_option maxRecDepth 100000 in
theorem kb_28 : kb_P 28 := fun c h => (show KB.2.2 28 = tpl 54 60 28 (tp_0 28) from rfl).trans h
set_option maxRecDepth 100000 in
theorem kb_29 : kb_P 29 := fun c h => (show KB.2.2 29 = tpl 54 60 29 (tp_0 29) from rfl).trans h
set_option maxRecDepth 100000 in
theorem kb_30 : kb_P 30 := fun c h => (show KB.2.2 30 = tpl 54 60 30 (tp_0 30) from rfl).trans h
set_option maxRecDepth 100000 in
theorem kb_31 : kb_P 31 := fun c h => (show KB.2.2 31 = tpl 54 60 31 (tp_0 31) from rfl).trans h
set_option maxRecDepth 100000 in
theorem kb_32 : kb_P 32 := fun c h => (show KB.2.2 32 = tpl 54 60 32 (tp_0 32) from rfl).trans h
set_option maxRecDepth 100000 in
theorem kb_33 : kb_P 33 := fun c h => (show KB.2.2 33 = tpl 54 60 33 (tp_0 33) from rfl).trans h
set_option maxRecDepth 100000 in
theorem kb_34 : kb_P 34 := fun c h => (show KB.2.2 34 = tpl 54 60 34 (tp_0 34) from rfl).trans h
set_option maxRecDepth 100000 in
theorem kb_35 : kb_P 35 := fun c h => (show KB.2.2 35 = tpl 54 60 35 (tp_0 35) from rfl).trans h
set_option maxRecDepth 100000 in
theorem kb_36 : kb_P 36 := fun c h => (show KB.2.2 36 = tpl 54 60 36 (tp_0 36) from rfl).trans h
set_option maxRecDepth 100000 in
theorem kb_37 : kb_P 37 := fun c h => (show KB.2.2 37 = tpl 54 60 37 (tp_0 37) from rfl).trans h
set_option maxRecDepth 100000 in
theorem kb_38 : kb_P 38 := fun c h => (show KB.2.2 38 = tpl 54 60 38 (tp_0 38) from rfl).trans h
set_option maxRecDepth 100000 in
theorem kb_39 : kb_P 39 := fun c h => (show KB.2.2 39 = tpl 54 60 39 (tp_0 39) from rfl).trans h
set_option maxRecDepth 100000 in
theorem kb_40 : kb_P 40 := fun c h => (show KB.2.2 40 = tpl 54 60 40 (tp_0 40) from rfl).trans h
set_option maxRecDepth 100000 in
theorem kb_41 : kb_P 41 := fun c h => (show KB.2.2 41 = tpl 54 60 41 (tp_0 41) from rfl).trans h
set_option maxRecDepth 100000 in
theorem kb_42 : kb_P 42 := fun c h => (show KB.2.2 42 = tpl 54 60 42 (tp_0 42) from rfl).trans h
set_option maxRecDepth 100000 in
theorem kb_43 : kb_P 43 := fun c h => (show KB.2.2 43 = tpl 54 60 43 (tp_0 43) from rfl).trans h
set_option maxRecDepth 100000 in
theorem kb_44 : kb_P 44 := fun c h => (show KB.2.2 44 = tpl 54 60 44 (tp_0 44) from rfl).trans h
set_option maxRecDepth 100000 in
theorem kb_45 : kb_P 45 := fun c h => (show KB.2.2 45 = tpl 54 60 45 (tp_0 45) from rfl).trans h
set_option maxRecDepth 100000 in
theorem kb_46 : kb_P 46 := fun c h => (show KB.2.2 46 = tpl 54 60 46 (tp_0 46) from rfl).trans h
set_option maxRecDepth 100000 in
theorem kb_47 : kb_P 47 := fun c h => (show KB.2.2 47 = tpl 54 60 47 (tp_0 47) from rfl).trans h
set_option maxRecDepth 100000 in
theorem kb_48 : kb_P 48 := fun c h => (show KB.2.2 48 = tpl 54 60 48 (tp_0 48) from rfl).trans h
set_option maxRecDepth 100000 in
theorem kb_49 : kb_P 49 := fun c h => (show KB.2.2 49 = tpl 54 60 49 (tp_0 49) from rfl).trans h
set_option maxRecDepth 100000 in
theorem kb_50 : kb_P 50 := fun c h => (show KB.2.2 50 = tpl 54 60 50 (tp_0 50) from rfl).trans h
set_option maxRecDepth 100000 in
theorem kb_51 : kb_P 51 := fun c h => (show KB.2.2 51 = tpl 54 60 51 (tp_0 51) from rfl).trans h
set_option maxRecDepth 100000 in
theorem kb_52 : kb_P 52 := fun c h => (show KB.2.2 52 = tpl 54 60 52 (tp_0 52) from rfl).trans h
set_option maxRecDepth 100000 in
theorem kb_53 : kb_P 53 := fun c h => (show KB.2.2 53 = tpl 54 60 53 (tp_0 53) from rfl).trans h
set_option maxRecDepth 100000 in
theorem kb_54 : kb_P 54 := fun c h => (show KB.2.2 54 = tpl 54 60 54 (tp_0 54) from rfl).trans h
set_option maxRecDepth 100000 in
theorem kb_55 : kb_P 55 := fun c h => (show KB.2.2 55 = tpl 54 60 55 (tp_0 55) from rfl).trans h
set_option maxRecDepth 100000 in
theorem kb_56 : kb_P 56 := fun c h => (show KB.2.2 56 = tpl 54 60 56 (tp_0 56) from rfl).trans h
set_option maxRecDepth 100000 in
theorem kb_57 : kb_P 57 := fun c h => (show KB.2.2 57 = tpl 54 60 57 (tp_0 57) from rfl).trans h
set_option maxRecDepth 100000 in
theorem kb_58 : kb_P 58 := fun c h => (show KB.2.2 58 = tpl 54 60 58 (tp_0 58) from rfl).trans h
set_option maxRecDepth 100000 in
theorem kb_59 : kb_P 59 := fun c h => (show KB.2.2 59 = tpl 54 60 59 (tp_0 59) from rfl).trans h
set_option maxRecDepth 100000 in
theorem kb_60 : kb_P 60 := fun c h => (show KB.2.2 60 = tpl 54 60 60 (tp_0 60) from rfl).trans h
set_option maxRecDepth 100000 in
theorem kb_61 : kb_P 61 := fun c h => (show KB.2.2 61 = tpl 54 60 61 (tp_0 61) from rfl).trans h
set_option maxRecDepth 100000 in
theorem kb_62 : kb_P 62 := fun c h => (show KB.2.2 62 = tpl 54 60 62 (tp_0 62) from rfl).trans h
set_option maxRecDepth 100000 in
theorem kb_63 : kb_P 63 := fun c h => (show KB.2.2 63 = tpl 54 60 63 (tp_0 63) from rfl).trans h
set_option maxRecDepth 100000 in
theorem kb_64 : kb_P 64 := fun c h => (show KB.2.2 64 = tpl 54 60 64 (tp_0 64) from rfl).trans h
set_option maxRecDepth 100000 in
theorem kb_65 : kb_P 65 := fun c h => (show KB.2.2 65 = tpl 54 60 65 (tp_0 65) from rfl).trans h
set_option maxRecDepth 100000 in
theorem kb_66 : kb_P 66 := fun c h => (show KB.2.2 66 = tpl 54 60 66 (tp_0 66) from rfl).trans h
set_option maxRecDepth 100000 in
theorem kb_67 : kb_P 67 := fun c h => (show KB.2.2 67 = tpl 54 60 67 (tp_0 67) from rfl).trans h
set_option maxRecDepth 100000 in
theorem kb_68 : kb_P 68 := fun c h => (show KB.2.2 68 = tpl 54 60 68 (tp_0 68) from rfl).trans h
set_option maxRecDepth 100000 in
theorem kb_69 : kb_P 69 := fun c h => (show KB.2.2 69 = tpl 54 60 69 (tp_0 69) from rfl).trans h
set_option maxRecDepth 100000 in
theorem kb_70 : kb_P 70 := fun c h => (show KB.2.2 70 = tpl 54 60 70 (tp_0 70) from rfl).trans h
set_option maxRecDepth 100000 in
theorem kb_71 : kb_P 71 := fun c h => (show KB.2.2 71 = tpl 54 60 71 (tp_0 71) from rfl).trans h
set_option maxRecDepth 100000 in
theorem kb_72 : kb_P 72 := fun c h => (show KB.2.2 72 = tpl 54 60 72 (tp_0 72) from rfl).trans h
set_option maxRecDepth 100000 in
theorem kb_73 : kb_P 73 := fun c h => (show KB.2.2 73 = tpl 54 60 73 (tp_0 73) from rfl).trans h
set_option maxRecDepth 100000 in
theorem kb_74 : kb_P 74 := fun c h => (show KB.2.2 74 = tpl 54 60 74 (tp_0 74) from rfl).trans h
set_option maxRecDepth 100000 in
theorem kb_75 : kb_P 75 := fun c h => (show KB.2.2 75 = tpl 54 60 75 (tp_0 75) from rfl).trans h
set_option maxRecDepth 100000 in
theorem kb_76 : kb_P 76 := fun c h => (show KB.2.2 76 = tpl 54 60 76 (tp_0 76) from rfl).trans h
set_option maxRecDepth 100000 in
theorem kb_77 : kb_P 77 := fun c h => (show KB.2.2 77 = tpl 54 60 77 (tp_0 77) from rfl).trans h
set_option maxRecDepth 100000 in
theorem kb_78 : kb_P 78 := fun c h => (show KB.2.2 78 = tpl 54 60 78 (tp_0 78) from rfl).trans h
set_option maxRecDepth 100000 in
theorem kb_79 : kb_P 79 := fun c h => (show KB.2.2 79 = tpl 54 60 79 (tp_0 79) from rfl).trans h
set_option maxRecDepth 100000 in
theorem kb_80 : kb_P 80 := fun c h => (show KB.2.2 80 = tpl 54 60 80 (tp_0 80) from rfl).trans h
set_option maxRecDepth 100000 in
theorem kb_81 : kb_P 81 := fun c h => (show KB.2.2 81 = tpl 54 60 81 (tp_0 81) from rfl).trans h
set_option maxRecDepth 100000 in
theorem kb_82 : kb_P 82 := fun c h => (show KB.2.2 82 = tpl 54 60 82 (tp_0 82) from rfl).trans h
set_option maxRecDepth 100000 in
theorem kb_83 : kb_P 83 := fun c h => (show KB.2.2 83 = tpl 54 60 83 (tp_0 83) from rfl).trans h
set_option maxRecDepth 100000 in
theorem kb_84 : kb_P 84 := fun c h => (show KB.2.2 84 = tpl 54 60 84 (tp_0 84) from rfl).trans h
set_option maxRecDepth 100000 in
theorem kb_85 : kb_P 85 := fun c h => (show KB.2.2 85 = tpl 54 60 85 (tp_0 85) from rfl).trans h
set_option maxRecDepth 100000 in
theorem kb_86 : kb_P 86 := fun c h => (show KB.2.2 86 = tpl 54 60 86 (tp_0 86) from rfl).trans h
set_option maxRecDepth 100000 in
theorem kb_87 : kb_P 87 := fun c h => (show KB.2.2 87 = tpl 54 60 87 (tp_0 87) from rfl).trans h
set_option maxRecDepth 100000 in
theorem kb_88 : kb_P 88 := fun c h => (show KB.2.2 88 = tpl 54 60 88 (tp_0 88) from rfl).trans h
set_option maxRecDepth 100000 in
theorem kb_89 : kb_P 89 := fun c h => (show KB.2.2 89 = tpl 54 60 89 (tp_0 89) from rfl).trans h
set_option maxRecDepth 100000 in
theorem kb_90 : kb_P 90 := fun c h => (show KB.2.2 90 = tpl 54 60 90 (tp_0 90) from rfl).trans h
set_option maxRecDepth 100000 in
theorem kb_91 : kb_P 91 := fun c h => (show KB.2.2 91 = tpl 54 60 91 (tp_0 91) from rfl).trans h
set_option maxRecDepth 100000 in
theorem kb_92 : kb_P 92 := fun c h => (show KB.2.2 92 = tpl 54 60 92 (tp_0 92) from rfl).trans h
set_option maxRecDepth 100000 in
theorem kb_93 : kb_P 93 := fun c h => (show KB.2.2 93 = tpl 54 60 93 (tp_0 93) from rfl).trans h
set_option maxRecDepth 100000 in
theorem kb_94 : kb_P 94 := fun c h => (show KB.2.2 94 = tpl 54 60 94 (tp_0 94) from rfl).trans h
set_option maxRecDepth 100000 in
theorem kb_95 : kb_P 95 := fun c h => (show KB.2.2 95 = tpl 54 60 95 (tp_0 95) from rfl).trans h
set_option maxRecDepth 100000 in
theorem kb_96 : kb_P 96 := fun c h => (show KB.2.2 96 = tpl 54 60 96 (tp_0 96) from rfl).trans h
set_option maxRecDepth 100000 in
theorem kb_97 : kb_P 97 := fun c h => (show KB.2.2 97 = tpl 54 60 97 (tp_0 97) from rfl).trans h
set_option maxRecDepth 100000 in
theorem kb_98 : kb_P 98 := fun c h => (show KB.2.2 98 = tpl 54 60 98 (tp_0 98) from rfl).trans h
theorem kb_99 : ∀ k, k < 99 → kb_P k := kb_s (kb_s (kb_s (kb_s (kb_s (kb_s (kb_s (kb_s (kb_s (kb_s (kb_s (kb_s (kb_s (kb_s (kb_s (kb_s (kb_s (kb_s (kb_s (kb_s (kb_s (kb_s (kb_s (kb_s (kb_s (kb_s (kb_s (kb_s (kb_s (kb_s (kb_s (kb_s (kb_s (kb_s (kb_s (kb_s (kb_s (kb_s (kb_s (kb_s (kb_s (kb_s (kb_s (kb_s (kb_s (kb_s (kb_s (kb_s (kb_s (kb_s (kb_s (kb_s (kb_s (kb_s (kb_s (kb_s (kb_s (kb_s (kb_s (kb_s (kb_s (kb_s (kb_s (kb_s (kb_s (kb_s (kb_s (kb_s (kb_s (kb_s (kb_s (kb_s (kb_s (kb_s (kb_s (kb_s (kb_s (kb_s (kb_s (kb_s (kb_s (kb_s (kb_s (kb_s (kb_s (kb_s (kb_s (kb_s (kb_s (kb_s (kb_s (kb_s (kb_s (kb_s (kb_s (kb_s (kb_s (kb_s (kb_s (fun k hk => absurd hk (Nat.not_lt_zero k)) kb_0) kb_1) kb_2) kb_3) kb_4) kb_5) kb_6) kb_7) kb_8) kb_9) kb_10) kb_11) kb_12) kb_13) kb_14) kb_15) kb_16) kb_17) kb_18) kb_19) kb_20) kb_21) kb_22) kb_23) kb_24) kb_25) kb_26) kb_27) kb_28) kb_29) kb_30) kb_31) kb_32) kb_33) kb_34) kb_35) kb_36) kb_37) kb_38) kb_39) kb_40) kb_41) kb_42) kb_43) kb_44) kb_45) kb_46) kb_47) kb_48) kb_49) kb_50) kb_51) kb_52) kb_53) kb_54) kb_55) kb_56) kb_57) kb_58) kb_59) kb_60) kb_61) kb_62) kb_63) kb_64) kb_65) kb_66) kb_67) kb_68) kb_69) kb_70) kb_71) kb_72) kb_73) kb_74) kb_75) kb_76) kb_77) kb_78) kb_79) kb_80) kb_81) kb_82) kb_83) kb_84) kb_85) kb_86) kb_87) kb_88) kb_89) kb_90) kb_91) kb_92) kb_93) kb_94) kb_95) kb_96) kb_97) kb_98
theorem kb_all (k : Nat) (c : gv_C) (h : tpl 54 60 k (tp_0 k) = some c) : KB.2.2 k = some c := by
  by_cases e : k < 99
  · exact kb_99 k e c h
  · rw [tp_ge (by omega)] at h
    cases h
def kb_A : Nat × Nat := KB.2.1
theorem kb_A1 : kb_A.1 + 1 ≤ gv_Cn := by decide +kernel
theorem kb_A2 : kb_A.2 + 6 ≤ gv_Sn := by decide +kernel
variable {G : gv_G} {d : Nat} {r : gv_O} {hf : gv_H}
set_option maxRecDepth 100000 in
theorem law_new (K : gv_go G M_LA_law (d + 4) r hf 23 [some (gR 0), some (gR 1), some (gR 70), some (gR 98), some (gI 0), none, none] [] (hp 99 kb_A 54 60 tp_0)) : gv_go G M_LA_law (d + 4) r hf 0 [some (gR 0), none, none, none, none, none, none] [] KA0 := by
  refine gv_B ok_LA_law 2 rfl ?_
  refine gv_cast (h' := KA1) rfl ?_
  refine gv_I ok_LA_law rfl mk_GE_init rfl (ct28_GE_init (d := d + 1)) rfl rfl (Nat.le_of_ble_eq_true rfl) ?_
  refine gv_B ok_LA_law 3 rfl ?_
  refine gv_cast (h' := KA67) rfl ?_
  refine gv_I ok_LA_law rfl mk_MO_init rfl (ct29_MO_init (d := d + 3)) rfl rfl (Nat.le_of_ble_eq_true rfl) ?_
  refine gv_B ok_LA_law 6 rfl ?_
  refine gv_cast (h' := KB) rfl ?_
  exact gv_sub (h' := hp 99 kb_A 54 60 tp_0) rfl rfl kb_all K
theorem k_cases {k : Int32} (h : ∀ j : Nat, j < 7 → k ≠ nI j) (h0 : ¬ k < 0) : ¬ k ≤ 6 := by
  intro h6
  rw [Int32.lt_iff_toInt_lt] at h0
  rw [Int32.le_iff_toInt_le] at h6
  have e0 : (0 : Int32).toInt = 0 := by decide
  have e6 : (6 : Int32).toInt = 6 := by decide
  obtain ⟨j, hj⟩ : ∃ j : Nat, k.toInt = j := ⟨k.toInt.toNat, by omega⟩
  exact h j (by omega) (Int32.toInt_inj.mp (by rw [hj, nI_toInt (by omega)]))
set_option maxRecDepth 100000 in
theorem law_one (hL : G.2.2.2.2.2.2.1 ≤ 2) (hC : hf.2.1 = (gv_Cn, gv_Sn)) : gv_go G M_LA_law (d + 4) (.inr (.inr none)) hf 23 [some (gR 0), some (gR 1), some (gR 70), some (gR 98), some (gI 0), none, none] [] (hp 99 kb_A 54 60 tp_0) := by
  by_cases e : G.2.2.2.2.2.2.1 = 2
  · refine lh_more (i := 0) (by rw [e]; decide) (by rw [e]; unfold vp_in; decide) ?_
    have E : ∀ {l5 l6 : Option gv_V} {h : gv_H}, h.2.1.1 ≤ gv_Cn → h.2.1.2 ≤ gv_Sn → gv_go G M_LA_law (d + 4) (.inr (.inr none)) hf 492 [some (gR 0), some (gR 1), some (gR 70), some (gR 98), some (gI 0), l5, l6] [] h := fun a b => lh_back (lh_end (by rw [e]; decide) hC a b)
    obtain ⟨j, hj, ej⟩ : ∃ j, j < 16 ∧ G.2.2.2.2.2.2.2 (0 : Int32).toNatClampNeg &&& 15 = nI j := pk_andE _ (m := 15) 4 (by decide)
    rw [ej]
    clear ej
    generalize ew : G.2.2.2.2.2.2.2 ((0 : Int32) + 1).toNatClampNeg = w
    rcases (show j = 0 ∨ j = 1 ∨ j = 2 ∨ j = 3 ∨ j = 4 ∨ j = 5 ∨ j = 6 ∨ j = 7 ∨ j = 8 ∨ j = 9 ∨ j = 10 ∨ j = 11 ∨ j = 12 ∨ j = 13 ∨ j = 14 ∨ j = 15 by omega) with q | q | q | q | q | q | q | q | q | q | q | q | q | q | q | q <;> subst q
    · refine gv_pce (p2 := 92) (by decide) ?_
      by_cases hw : isW w
      · exact lh_putE (d := d + 3) (i := 0) (w := w) (h2 := hp 99 kb_A 54 60 (sI (sI (sI (sI (sI (sI tp_0 2 0 w) 1 1 (nI (0 + 1))) 98 0 (nI (0 + 1))) 70 0 0) 71 0 w) 70 1 (nI (0 + 1)))) (by rw [e]; unfold vp_in; decide) ew (l_put0 (d := d + 1) (t := 0) (n := 99) (acc := kb_A) (g := 54) (cap := 60) (μ := tp_0) hw (by decide) (by decide)) (m_put1 (d := d + 3) (t := 0) hw (by decide) (show (0 : Int32) = nI 0 by decide)) rfl (lt_put (d := d + 3) rfl (fun _ => rfl) (E (Nat.le_trans (Nat.le_add_right _ 1) kb_A1) (Nat.le_trans (Nat.le_add_right _ 6) kb_A2)))
      · exact lh_putL (d := d + 3) (i := 0) (h2 := fun δ => hp (99 + δ) (kb_A.1 + 1, kb_A.2 + 6) 54 60 (sI tp_0 70 0 1)) (w := w) (by rw [e]; unfold vp_in; decide) ew (l_putA (d := d + 1) (n := 99) (acc := kb_A) (g := 54) (cap := 60) (μ := tp_0) hw) (fun δ => m_put0 (d := d + 3) (n := 99 + δ) (acc := (kb_A.1 + 1, kb_A.2 + 6)) (g := 54) (cap := 60) (μ := tp_0) hw) rfl (fun δ => lt_put (d := d + 3) rfl (fun c => absurd c (by decide)) (E kb_A1 kb_A2))
    · refine gv_pce (p2 := 148) (by decide) ?_
      exact lh_ruleL (d := d + 3) (i := 0) (h2 := fun δ => hp (99 + δ) (kb_A.1 + 1, kb_A.2 + 6) 54 60 (sI (sI (sI (sI tp_0 1 1 0) 70 0 0) 70 0 2) 70 1 0)) (l_rule0 (d := d) (n := 99) (acc := kb_A) (g := 54) (cap := 60) (μ := tp_0) (by decide) rfl rfl) (fun δ => m_rule0 (d := d + 3) (n := 99 + δ) (acc := (kb_A.1 + 1, kb_A.2 + 6)) (g := 54) (cap := 60) (μ := (sI tp_0 1 1 0)) (by decide) rfl rfl) rfl (fun δ => lt_rule (d := d + 3) rfl (fun c => absurd c (by decide)) (E kb_A1 kb_A2))
    · refine gv_pce (p2 := 192) (by decide) ?_
      exact lh_askL (d := d + 3) (i := 0) (h2 := fun δ => hp (99 + δ) (kb_A.1 + 1, kb_A.2 + 6) 54 60 (sI (sI (sI tp_0 1 1 0) 70 0 1) 70 1 0)) (l_ask0 (d := d + 1) (n := 99) (acc := kb_A) (g := 54) (cap := 60) (μ := tp_0) rfl) (fun δ => m_ask0 (d := d + 3) (n := 99 + δ) (acc := (kb_A.1 + 1, kb_A.2 + 6)) (g := 54) (cap := 60) (μ := (sI tp_0 1 1 0)) rfl) rfl (fun δ => lt_ask (d := d + 3) rfl (fun c => absurd c (by decide)) (E kb_A1 kb_A2))
    · refine gv_pce (p2 := 236) (by decide) ?_
      by_cases c1 : w < 1
      · exact lh_solveL (d := d + 3) (i := 0) (h2 := fun δ => hp (99 + δ) (kb_A.1 + 1, kb_A.2 + 6) 54 60 (sI tp_0 70 0 1)) (w := w) (by rw [e]; unfold vp_in; decide) ew (l_solveA (d := d + 2) (n := 99) (acc := kb_A) (g := 54) (cap := 60) (μ := tp_0) c1) (fun δ => m_solveA (d := d + 3) (n := 99 + δ) (acc := (kb_A.1 + 1, kb_A.2 + 6)) (g := 54) (cap := 60) (μ := tp_0) c1) rfl (fun δ => lt_solve (d := d + 3) rfl (fun c => absurd c (by decide)) (E kb_A1 kb_A2))
      · by_cases c2 : w ≤ 20
        · exact lh_solveL (d := d + 3) (i := 0) (h2 := fun δ => hp (99 + δ) (kb_A.1 + 1, kb_A.2 + 6) 54 60 (sI tp_0 70 0 2)) (w := w) (by rw [e]; unfold vp_in; decide) ew (l_solveS (d := d + 2) (n := 99) (acc := kb_A) (g := 54) (cap := 60) (μ := tp_0) c1 c2 (by decide)) (fun δ => m_solveS (d := d + 3) (n := 99 + δ) (acc := (kb_A.1 + 1, kb_A.2 + 6)) (g := 54) (cap := 60) (μ := tp_0) c1 c2 rfl) rfl (fun δ => lt_solve (d := d + 3) rfl (fun c => absurd c (by decide)) (E kb_A1 kb_A2))
        · exact lh_solveL (d := d + 3) (i := 0) (h2 := fun δ => hp (99 + δ) (kb_A.1 + 1, kb_A.2 + 6) 54 60 (sI tp_0 70 0 1)) (w := w) (by rw [e]; unfold vp_in; decide) ew (l_solveB (d := d + 2) (n := 99) (acc := kb_A) (g := 54) (cap := 60) (μ := tp_0) c1 c2) (fun δ => m_solveB (d := d + 3) (n := 99 + δ) (acc := (kb_A.1 + 1, kb_A.2 + 6)) (g := 54) (cap := 60) (μ := tp_0) c1 c2) rfl (fun δ => lt_solve (d := d + 3) rfl (fun c => absurd c (by decide)) (E kb_A1 kb_A2))
    · refine gv_pce (p2 := 292) (by decide) ?_
      exact lh_nextL (d := d + 3) (i := 0) (h2 := fun δ => hp (99 + δ) (kb_A.1 + 1, kb_A.2 + 6) 54 60 (sI tp_0 70 0 1)) (l_nextS (d := d + 2) (n := 99) (acc := kb_A) (g := 54) (cap := 60) (μ := tp_0) (by decide)) (fun δ => m_next0 (d := d + 3) (n := 99 + δ) (acc := (kb_A.1 + 1, kb_A.2 + 6)) (g := 54) (cap := 60) (μ := tp_0) rfl) rfl (fun δ => lt_next (d := d + 3) (Or.inl rfl) rfl (fun c => absurd c (by decide)) (E kb_A1 kb_A2))
    · refine gv_pce (p2 := 343) (by decide) ?_
      exact lh_stop (d := d + 3) (e_stop (d := d + 3) (n := 99) (acc := kb_A) (g := 54) (cap := 60) (μ := tp_0)) (m_stop0 (d := d + 3) rfl) rfl rfl (E (Nat.le_trans (Nat.le_add_right _ 1) kb_A1) (Nat.le_trans (Nat.le_add_right _ 6) kb_A2))
    · refine gv_pce (p2 := 354) (by decide) ?_
      exact lh_collect (d := d + 3) (e_collect0 (d := d + 3) (n := 99) (acc := kb_A) (g := 54) (cap := 60) (μ := tp_0) rfl) (m_collect0 (d := d + 3) rfl) rfl rfl (E (Nat.le_trans (Nat.le_add_right _ 1) kb_A1) (Nat.le_trans (Nat.le_add_right _ 6) kb_A2))
    · refine gv_pce (p2 := 367) (by decide) ?_
      by_cases c : ∀ j : Nat, j < 7 → w ≠ nI j
      · by_cases c1 : w < 0
        · exact lh_countL (d := d + 3) (i := 0) (h2 := fun δ => hp (99 + δ) (kb_A.1 + 1, kb_A.2 + 6) 54 60 (sI tp_0 70 0 1)) (w := w) (by rw [e]; unfold vp_in; decide) ew (l_countA (d := d + 2) (n := 99) (acc := kb_A) (g := 54) (cap := 60) (μ := tp_0) c) (fun δ => m_countN (d := d + 2) (n := 99 + δ) (acc := (kb_A.1 + 1, kb_A.2 + 6)) (g := 54) (cap := 60) (μ := tp_0) (by decide) c1) rfl (fun δ => lt_count (d := d + 3) rfl (fun c => absurd c (by decide)) (E kb_A1 kb_A2))
        · exact lh_countL (d := d + 3) (i := 0) (h2 := fun δ => hp (99 + δ) (kb_A.1 + 1, kb_A.2 + 6) 54 60 (sI tp_0 70 0 1)) (w := w) (by rw [e]; unfold vp_in; decide) ew (l_countA (d := d + 2) (n := 99) (acc := kb_A) (g := 54) (cap := 60) (μ := tp_0) c) (fun δ => m_countB (d := d + 2) (n := 99 + δ) (acc := (kb_A.1 + 1, kb_A.2 + 6)) (g := 54) (cap := 60) (μ := tp_0) (by decide) c1 (k_cases c c1)) rfl (fun δ => lt_count (d := d + 3) rfl (fun c => absurd c (by decide)) (E kb_A1 kb_A2))
      · obtain ⟨j, hj, ej⟩ : ∃ j : Nat, j < 7 ∧ w = nI j := Classical.byContradiction fun q => c fun j hj ej => q ⟨j, hj, ej⟩
        rcases (show j = 0 ∨ j = 1 ∨ j = 2 ∨ j = 3 ∨ j = 4 ∨ j = 5 ∨ j = 6 by omega) with q | q | q | q | q | q | q <;> subst q <;> subst ej
        · exact lh_countE (d := d + 3) (i := 0) (w := nI 0) (h2 := hp 99 kb_A 54 60 (sI (sI tp_0 98 0 0) 70 0 0)) (by rw [e]; unfold vp_in; decide) ew (l_count0 (d := d + 1) (n := 99) (acc := kb_A) (g := 54) (cap := 60) (μ := tp_0) rfl) (m_count0 (d := d + 2) (by decide)) rfl (lt_count (d := d + 3) rfl (fun _ => (congrArg nI (cntP0 (fun j => rfl) 240)).symm) (E (Nat.le_trans (Nat.le_add_right _ 1) kb_A1) (Nat.le_trans (Nat.le_add_right _ 6) kb_A2)))
        · exact lh_countE (d := d + 3) (i := 0) (w := nI 1) (h2 := hp 99 kb_A 54 60 (sI (sI tp_0 98 0 0) 70 0 0)) (by rw [e]; unfold vp_in; decide) ew (l_count1 (d := d + 1) (n := 99) (acc := kb_A) (g := 54) (cap := 60) (μ := tp_0) rfl) (m_count1 (d := d + 2) (by decide)) rfl (lt_count (d := d + 3) rfl (fun _ => rfl) (E (Nat.le_trans (Nat.le_add_right _ 1) kb_A1) (Nat.le_trans (Nat.le_add_right _ 6) kb_A2)))
        · exact lh_countE (d := d + 3) (i := 0) (w := nI 2) (h2 := hp 99 kb_A 54 60 (sI (sI tp_0 98 0 0) 70 0 0)) (by rw [e]; unfold vp_in; decide) ew (l_count2 (d := d + 1) (n := 99) (acc := kb_A) (g := 54) (cap := 60) (μ := tp_0) rfl) (m_count2 (d := d + 2) (by decide)) rfl (lt_count (d := d + 3) rfl (fun _ => rfl) (E (Nat.le_trans (Nat.le_add_right _ 1) kb_A1) (Nat.le_trans (Nat.le_add_right _ 6) kb_A2)))
        · exact lh_countE (d := d + 3) (i := 0) (w := nI 3) (h2 := hp 99 kb_A 54 60 (sI (sI tp_0 98 0 (tp_0 37 12)) 70 0 0)) (by rw [e]; unfold vp_in; decide) ew (l_count3 (d := d + 1) (n := 99) (acc := kb_A) (g := 54) (cap := 60) (μ := tp_0)) (m_count3 (d := d + 2) (by decide)) rfl (lt_count (d := d + 3) rfl (fun _ => rfl) (E (Nat.le_trans (Nat.le_add_right _ 1) kb_A1) (Nat.le_trans (Nat.le_add_right _ 6) kb_A2)))
        · exact lh_countE (d := d + 3) (i := 0) (w := nI 4) (h2 := hp 99 kb_A 54 60 (sI (sI tp_0 98 0 (tp_0 3 1)) 70 0 0)) (by rw [e]; unfold vp_in; decide) ew (l_count4 (d := d + 1) (n := 99) (acc := kb_A) (g := 54) (cap := 60) (μ := tp_0)) (m_count4 (d := d + 2) (by decide)) rfl (lt_count (d := d + 3) rfl (fun _ => rfl) (E (Nat.le_trans (Nat.le_add_right _ 1) kb_A1) (Nat.le_trans (Nat.le_add_right _ 6) kb_A2)))
        · exact lh_countE (d := d + 3) (i := 0) (w := nI 5) (h2 := hp 99 kb_A 54 60 (sI (sI tp_0 98 0 (tp_0 1 1)) 70 0 0)) (by rw [e]; unfold vp_in; decide) ew (l_count5 (d := d + 1) (n := 99) (acc := kb_A) (g := 54) (cap := 60) (μ := tp_0)) (m_count5 (d := d + 2) (by decide)) rfl (lt_count (d := d + 3) rfl (fun _ => rfl) (E (Nat.le_trans (Nat.le_add_right _ 1) kb_A1) (Nat.le_trans (Nat.le_add_right _ 6) kb_A2)))
        · exact lh_countE (d := d + 3) (i := 0) (w := nI 6) (h2 := hp 99 kb_A 54 60 (sI (sI tp_0 98 0 (tp_0 64 5)) 70 0 0)) (by rw [e]; unfold vp_in; decide) ew (l_count6 (d := d + 1) (n := 99) (acc := kb_A) (g := 54) (cap := 60) (μ := tp_0)) (m_count6 (d := d + 2) (by decide)) rfl (lt_count (d := d + 3) rfl (fun _ => rfl) (E (Nat.le_trans (Nat.le_add_right _ 1) kb_A1) (Nat.le_trans (Nat.le_add_right _ 6) kb_A2)))
    · refine gv_pce (p2 := 423) (by decide) ?_
      exact lh_words (d := d + 3) (e_words0 (d := d + 2) (n := 99) (acc := kb_A) (g := 54) (cap := 60) (μ := tp_0) (by decide)) (m_words0 (d := d + 2) rfl) rfl rfl (E (Nat.le_trans (Nat.le_add_right _ 1) kb_A1) (Nat.le_trans (Nat.le_add_right _ 6) kb_A2))
    · refine gv_pce (p2 := 436) (by decide) ?_
      by_cases c1 : w < 0
      · exact lh_wordL (d := d + 3) (i := 0) (h2 := fun δ => hp (99 + δ) (kb_A.1 + 1, kb_A.2 + 6) 54 60 (sI (fa0 tp_0) 70 0 1)) (w := w) (by rw [e]; unfold vp_in; decide) ew (l_wordN (d := d + 2) (n := 99) (acc := kb_A) (g := 54) (cap := 60) (μ := tp_0) c1) (fun δ => m_wordN (d := d + 2) (n := 99 + δ) (acc := (kb_A.1 + 1, kb_A.2 + 6)) (g := 54) (cap := 60) (μ := tp_0) rfl c1) rfl (fun δ => lt_word (d := d + 3) rfl (fun c => absurd c (by decide)) (E kb_A1 kb_A2))
      · exact lh_wordL (d := d + 3) (i := 0) (h2 := fun δ => hp (99 + δ) (kb_A.1 + 1, kb_A.2 + 6) 54 60 (sI (fa0 tp_0) 70 0 1)) (w := w) (by rw [e]; unfold vp_in; decide) ew (l_word0 (d := d + 1) (n := 99) (acc := kb_A) (g := 54) (cap := 60) (μ := tp_0) (by decide) c1) (fun δ => m_word0 (d := d + 2) (n := 99 + δ) (acc := (kb_A.1 + 1, kb_A.2 + 6)) (g := 54) (cap := 60) (μ := tp_0) rfl c1) rfl (fun δ => lt_word (d := d + 3) rfl (fun c => absurd c (by decide)) (E kb_A1 kb_A2))
    · refine gv_pce (p2 := 492) (by decide) ?_
      exact E (Nat.le_trans (Nat.le_add_right _ 1) kb_A1) (Nat.le_trans (Nat.le_add_right _ 6) kb_A2)
    · refine gv_pce (p2 := 492) (by decide) ?_
      exact E (Nat.le_trans (Nat.le_add_right _ 1) kb_A1) (Nat.le_trans (Nat.le_add_right _ 6) kb_A2)
    · refine gv_pce (p2 := 492) (by decide) ?_
      exact E (Nat.le_trans (Nat.le_add_right _ 1) kb_A1) (Nat.le_trans (Nat.le_add_right _ 6) kb_A2)
    · refine gv_pce (p2 := 492) (by decide) ?_
      exact E (Nat.le_trans (Nat.le_add_right _ 1) kb_A1) (Nat.le_trans (Nat.le_add_right _ 6) kb_A2)
    · refine gv_pce (p2 := 492) (by decide) ?_
      exact E (Nat.le_trans (Nat.le_add_right _ 1) kb_A1) (Nat.le_trans (Nat.le_add_right _ 6) kb_A2)
    · refine gv_pce (p2 := 492) (by decide) ?_
      exact E (Nat.le_trans (Nat.le_add_right _ 1) kb_A1) (Nat.le_trans (Nat.le_add_right _ 6) kb_A2)
  · exact lh_end (by have e1 : G.2.2.2.2.2.2.1 = 0 ∨ G.2.2.2.2.2.2.1 = 1 := by omega
                     rcases e1 with e1 | e1 <;> rw [e1] <;> decide) hC (Nat.le_trans (Nat.le_add_right _ 1) kb_A1) (Nat.le_trans (Nat.le_add_right _ 6) kb_A2)
end FRA
