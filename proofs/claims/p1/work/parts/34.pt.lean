/-! put, class and reference -/
section PTA
variable {G : gv_G} {y M : gv_M} {d : Nat} {r : gv_O} {hf h h1 : gv_H} {pc : Nat} {ls : gv_L} {st st0 args : List gv_V} {v9 : Int32} {w9 : Int64} {a a9 b b9 ci j wp nx n n9 g cap t : Nat} {acc : Nat × Nat} {μ : Nat → Nat → Int32} {tb : List (Int32 × Nat)} {fs : List gv_V} {rr : vw_C} {i x w : Int32}
theorem gv_VX {hpc k9 sp ep ct wl wc : Nat} {E nm : String} {q9 : Fin 4} (pre suf : List (Nat × Nat × Nat × Nat)) (hy : gv_ok y) (hj : gv_lk y.2.2.2.2.1 pc = some (86, v9, w9, 0, b9, wp, nx, tb)) (hM : gv_msV M = true) (hb : gv_mn b9 = M.1) (hE : gv_ev G d M (gR b :: args) h (.inr (.inl E)) h1) (hst : st0 = args.reverse ++ gR b :: st) (hn : args.length = M.2.2.2.2.2.2.2.2.2.1) (hcat : gv_cs st ≤ 8)
    (ho : h.2.2 b = some (Sum.inr (ci, fs))) (hci : gv_cl[ci]? = some rr) (hrr : rr.1 = M.1.cls)
    (hsplit : y.2.2.2.2.2.2.2.2.2.2 = pre ++ (sp, ep, hpc, ct) :: suf) (hpass : ∀ z ∈ pre, z.2.2.2 ≠ 0 ∧ ∃ (w : Nat) (n : String), gv_tw w (.classLink y.1.cls z.2.2.2 n) = true ∧ (E, n) ∈ gx_nc) (hcov : sp ≤ pc ∧ pc < ep) (hct : ct ≠ 0)
    (hlink : gv_tw wl (.classLink y.1.cls ct nm) = true) (hcast : gv_tw wc (.castable E nm) = true) (dh : decode y.2.1 hpc = .ok (.astore_n q9, 1)) (hq9 : (q9 : Nat) = k9) (hk9 : k9 < y.2.2.1)
    (k : ∀ δ : Nat, gv_go G y (d + 1) r hf (hpc + 1) ((gv_kill ls k9).set k9 none) [] (h1.1 + δ, h1.2)) : gv_go G y (d + 1) r hf pc ls st0 h := by
  obtain ⟨i, n, hd, hc⟩ := gv_dec hy hj
  obtain ⟨x, rfl, rfl, rfl, hl⟩ := gv_c86 (show gv_ck8 y.1.cls pc (86, v9, w9, 0, b9, wp, nx, tb) i n = true from hc)
  unfold gv_msV at hM
  rw [Bool.and_eq_true, Bool.and_eq_true, Bool.and_eq_true, decide_eq_true_eq] at hM
  rw [hb] at hl
  rw [hst]
  exact gv_callVX pre suf hM.1.1.1 hM.2 hM.1.1.2 hM.1.2 hl hd hn hcat ho hci hrr hE hsplit hpass hcov hct hlink hcast dh hq9 hk9 k
theorem gv_las {f : Nat → Int32} {z : Int32} {xl : Int64} (hy : gv_ok y) (hj : gv_lk y.2.2.2.2.1 pc = some (78, v9, w9, a9, b, wp, nx, tb)) (h0 : Nat.beq a 0 = false) (ha : h.2.2 a = some (Sum.inl (1, n, Sum.inl f))) (hi : vp_in i n) (hx : xl = z.toInt64) (k : gv_go G y d r hf nx ls st (gv_set h a (Sum.inl (1, n, Sum.inl (upd f i.toNatClampNeg z))))) : gv_go G y d r hf pc ls (gL xl :: gI i :: gR a :: st) h := by
  subst hx
  refine gv_step (S := (nx, ls, st, gv_set h a (Sum.inl (1, n, Sum.inl (upd f i.toNatClampNeg z))))) gc_ok gc_qi hy hj ?_ k
  show gv_x6 (78, v9, w9, a9, b, wp, nx, tb) ls (gL z.toInt64 :: gI i :: gR a :: st) h = _
  have e9 : z.toInt64.toInt32 = z := by simp
  simp only [gv_x6, ha, h0]
  rw [if_neg hi, if_pos (by rw [e9]), e9]
/-- the law's own row gets a number -/
theorem hp_out {z : Int32} {xl : Int64} (hy : gv_ok y) (hj : gv_lk y.2.2.2.2.1 pc = some (78, v9, w9, a9, b, wp, nx, tb)) (hx : xl = z.toInt64) (k : gv_go G y d r hf nx ls st (hp n acc g cap (sI μ 98 0 z))) : gv_go G y d r hf pc ls (gL xl :: gI 0 :: gR 98 :: st) (hp n acc g cap μ) :=
  gv_las (i := 0) hy hj rfl rfl (by unfold vp_in; decide) hx (gv_cast (hp_set (m := upd (μ 98) 0 z) rfl) k)
theorem e_put1 (hw : isW w) (ht : t < 30) (hμ : μ 1 1 = nI t) : gv_ev G (d + 1) M_GE_put [gR 1, gI w] (hp n acc g cap μ) (.inl (some (gI (nI (t + 1))))) (hp n acc g cap (sI (sI μ 2 t w) 1 1 (nI (t + 1)))) := by
  refine gv_E (ls := [some (gR 1), some (gI w)]) (by decide) (fun h => by cases h) (Nat.le_of_ble_eq_true rfl) rfl ?_
  refine gv_B ok_GE_put 1 rfl ?_
  refine gv_Sc ok_GE_put rfl mk_GE_isWord rfl (e_isWord1 hw) rfl rfl (Nat.le_of_ble_eq_true rfl) ?_
  refine gv_B ok_GE_put 5 rfl ?_
  refine gv_brT (by show μ 1 1 < 30; rw [hμ]; exact nI_lt (b := 30) ht (by decide)) ?_
  refine gv_B ok_GE_put 5 rfl ?_
  refine hp_ias ok_GE_put rfl rfl rfl rfl hμ ht (by decide) ?_
  refine gv_B ok_GE_put 5 rfl ?_
  refine gv_st1 (x' := nI (t + 1)) (by show sI μ 2 t w 1 1 + 1 = _; rw [sI_nk (by decide), hμ, ← nI_succ]) ?_
  refine hp_pf ok_GE_put rfl rfl rfl rfl rfl (Nat.le_of_ble_eq_true rfl) rfl ?_
  refine gv_B ok_GE_put 2 rfl ?_
  refine gv_st1 sI_at ?_
  exact gv_Ri ok_GE_put rfl rfl
theorem e_putA (hw : ¬ isW w) : gv_ev G (d + 1) M_GE_put [gR 1, gI w] (hp n acc g cap μ) (.inr (.inl "java/lang/IllegalArgumentException")) (hp n (acc.1 + 1, acc.2 + 6) g cap μ) := by
  refine gv_E (ls := [some (gR 1), some (gI w)]) (by decide) (fun h => by cases h) (Nat.le_of_ble_eq_true rfl) rfl ?_
  refine gv_B ok_GE_put 1 rfl ?_
  refine gv_Sc ok_GE_put rfl mk_GE_isWord rfl (e_isWord0 hw) rfl rfl (Nat.le_of_ble_eq_true rfl) ?_
  refine gv_B ok_GE_put 1 rfl ?_
  refine gv_pce (p2 := 7) (by decide) ?_
  exact th_IAE rfl rfl (Nat.le_of_ble_eq_true rfl) (by decide +kernel) (by decide +kernel) (by decide +kernel) (by decide +kernel)
theorem e_putS (hw : isW w) (hμ : μ 1 1 = nI 30) : gv_ev G (d + 1) M_GE_put [gR 1, gI w] (hp n acc g cap μ) (.inr (.inl "java/lang/IllegalStateException")) (hp n (acc.1 + 1, acc.2 + 6) g cap μ) := by
  refine gv_E (ls := [some (gR 1), some (gI w)]) (by decide) (fun h => by cases h) (Nat.le_of_ble_eq_true rfl) rfl ?_
  refine gv_B ok_GE_put 1 rfl ?_
  refine gv_Sc ok_GE_put rfl mk_GE_isWord rfl (e_isWord1 hw) rfl rfl (Nat.le_of_ble_eq_true rfl) ?_
  refine gv_B ok_GE_put 5 rfl ?_
  refine gv_brF (by show ¬ μ 1 1 < 30; rw [hμ]; decide) ?_
  exact th_ISE rfl rfl (Nat.le_of_ble_eq_true rfl) (by decide +kernel) (by decide +kernel) (by decide +kernel) (by decide +kernel)
/-- the law's put: 0, and the answer in its row; 1 or 2 for an exception -/
theorem l_put0 (hw : isW w) (ht : t < 30) (hμ : μ 1 1 = nI t) : gv_ev G (d + 2) M_LA_put [gR 1, gI w, gR 98] (hp n acc g cap μ) (.inl (some (gI 0))) (hp n acc g cap (sI (sI (sI μ 2 t w) 1 1 (nI (t + 1))) 98 0 (nI (t + 1)))) := by
  refine gv_E (ls := [some (gR 1), some (gI w), some (gR 98), none]) (by decide) (fun h => by cases h) (Nat.le_of_ble_eq_true rfl) rfl ?_
  refine gv_B ok_LA_put 4 rfl ?_
  refine gv_Vc ok_LA_put rfl mk_GE_put rfl (e_put1 hw ht hμ) rfl rfl (Nat.le_of_ble_eq_true rfl) rfl rfl rfl ?_
  refine gv_B ok_LA_put 1 rfl ?_
  refine hp_out ok_LA_put rfl rfl ?_
  refine gv_B ok_LA_put 2 rfl ?_
  exact gv_Ri ok_LA_put rfl rfl
theorem l_putA (hw : ¬ isW w) : gv_ev G (d + 2) M_LA_put [gR 1, gI w, gR 98] (hp n acc g cap μ) (.inr (.inr (some (some (gI 1))))) (hp n (acc.1 + 1, acc.2 + 6) g cap μ) := by
  refine gv_E (ls := [some (gR 1), some (gI w), some (gR 98), none]) (by decide) (fun h => by cases h) (Nat.le_of_ble_eq_true rfl) rfl ?_
  refine gv_B ok_LA_put 4 rfl ?_
  refine gv_VX (wl := 540) (wc := 551) (nm := "java/lang/IllegalArgumentException") (q9 := 3) [] [(0, 9, 15, 15)] ok_LA_put rfl mk_GE_put rfl (e_putA hw) rfl rfl (Nat.le_of_ble_eq_true rfl) rfl rfl rfl rfl (fun z hz => nomatch hz) (by decide) (by decide) (by decide +kernel) (by decide +kernel) (by decide +kernel) rfl (by decide) (fun δ => ?_)
  refine gv_loose (hf := hp (n + δ) (acc.1 + 1, acc.2 + 6) g cap μ) (Nat.le_add_right _ _) ?_
  refine gv_B ok_LA_put 1 rfl ?_
  exact gv_Ri ok_LA_put rfl rfl
theorem l_putS (hw : isW w) (hμ : μ 1 1 = nI 30) : gv_ev G (d + 2) M_LA_put [gR 1, gI w, gR 98] (hp n acc g cap μ) (.inr (.inr (some (some (gI 2))))) (hp n (acc.1 + 1, acc.2 + 6) g cap μ) := by
  refine gv_E (ls := [some (gR 1), some (gI w), some (gR 98), none]) (by decide) (fun h => by cases h) (Nat.le_of_ble_eq_true rfl) rfl ?_
  refine gv_B ok_LA_put 4 rfl ?_
  refine gv_VX (wl := 541) (wc := 616) (nm := "java/lang/IllegalStateException") (q9 := 3) [(0, 9, 12, 13)] [] ok_LA_put rfl mk_GE_put rfl (e_putS hw hμ) rfl rfl (Nat.le_of_ble_eq_true rfl) rfl rfl rfl rfl (List.forall_mem_singleton.mpr ⟨by decide, 540, "java/lang/IllegalArgumentException", by decide +kernel, by decide⟩) (by decide) (by decide) (by decide +kernel) (by decide +kernel) (by decide +kernel) rfl (by decide) (fun δ => ?_)
  refine gv_loose (hf := hp (n + δ) (acc.1 + 1, acc.2 + 6) g cap μ) (Nat.le_add_right _ _) ?_
  refine gv_B ok_LA_put 1 rfl ?_
  exact gv_Ri ok_LA_put rfl rfl
end PTA
