/-! Arrays.copyOf, and the goals' rows grow (written by wip/tools/54.gr.py) -/
section GRA
def M_AR_copyOf : gv_M := (⟨"java/util/Arrays", "copyOf", "([II)[I"⟩, prog_27_method_123_code, 3, some (.array .int), [(0, (3, 0, 0, 1, 0, 0, 1, [])),
  (1, (5, 0, 0, 0, 0, 0, 2, [])),
  (2, (71, 0, 0, 0, 0, 0, 3, [])),
  (3, (57, 0, 0, 14, 0, 0, 6, [])),
  (14, (3, 0, 0, 1, 0, 0, 15, [])),
  (15, (82, 0, 0, 0, 0, 133, 17, [])),
  (17, (8, 0, 0, 2, 0, 0, 18, [])),
  (18, (5, 0, 0, 0, 0, 0, 19, [])),
  (19, (1, 0, 0, 0, 0, 0, 20, [])),
  (20, (5, 0, 0, 2, 0, 0, 21, [])),
  (21, (1, 0, 0, 0, 0, 0, 22, [])),
  (22, (5, 0, 0, 0, 0, 0, 23, [])),
  (23, (71, 0, 0, 0, 0, 0, 24, [])),
  (24, (3, 0, 0, 1, 0, 0, 25, [])),
  (31, (5, 0, 0, 2, 0, 0, 32, []))], (718, 88, 717, 0, 2, []))
theorem ok_AR_copyOf : gv_ok M_AR_copyOf := gv_ok_of (by decide +kernel)
theorem mk_AR_copyOf : gv_msS M_AR_copyOf = true := by decide +kernel
variable {G : gv_G} {y : gv_M} {d : Nat} {r : gv_O} {hf h : gv_H} {pc : Nat} {ls : gv_L} {st : List gv_V} {v9 : Int32} {w9 : Int64} {a a9 b wp nx n t g cap : Nat} {acc : Nat × Nat} {μ : Mu} {tb : List (Int32 × Nat)} {cc : gv_A} {i : Int32}
theorem gv_Ra (hr : y.2.2.2.1 = some (.array .int)) (hd : decode y.2.1 pc = .ok (.areturn, 1)) : gv_go G y d (.inl (some (gR a))) h pc ls [gR a] h :=
  ⟨⟨Nat.le_refl _, Nat.le_refl _⟩, fun h0 p e s m args9 below meth c H locs A q1 q2 X hw hl hA => W.aret X.1 X.2.1 (X.2.2.2.2.2.1.trans hr) (Or.inr ⟨_, rfl⟩) (Or.inr ⟨_, rfl⟩) (fun t ht hW => ⟨rfl, by rw [ht]; exact hw⟩) hl hd X.2.2.2.2.2.2.1⟩
theorem gv_na (hy : gv_ok y) (hj : gv_lk y.2.2.2.2.1 pc = some (82, v9, w9, t, b, wp, nx, tb)) (hn : ¬ (i < 0 ∨ 100000 < i.toNatClampNeg ∨ 2 < t)) (k : gv_go G y d r hf nx ls (gR h.1 :: st) (gv_push h i.toNatClampNeg (Sum.inl (t, i.toNatClampNeg, Sum.inl (fun _ => 0))))) : gv_go G y d r hf pc ls (gI i :: st) h := by
  refine gv_step (S := (nx, ls, gR h.1 :: st, gv_push h i.toNatClampNeg (Sum.inl (t, i.toNatClampNeg, Sum.inl (fun _ => 0))))) gc_ok gc_qi hy hj ?_ k
  show gv_x7 (82, v9, w9, t, b, wp, nx, tb) ls (gI i :: st) h = _
  simp only [gv_x7]
  rw [if_neg hn]
theorem gv_al (hy : gv_ok y) (hj : gv_lk y.2.2.2.2.1 pc = some (71, v9, w9, a9, b, wp, nx, tb)) (ha : h.2.2 a = some (Sum.inl (t, n, cc))) (ht : t < 4) (k : gv_go G y d r hf nx ls (gI (Int32.ofNat n) :: st) h) : gv_go G y d r hf pc ls (gR a :: st) h := by
  refine gv_step (S := (nx, ls, gI (Int32.ofNat n) :: st, h)) gc_ok gc_qi hy hj ?_ k
  show gv_x5 (71, v9, w9, a9, b, wp, nx, tb) ls (gR a :: st) h = _
  simp only [gv_x5, ha]
  rw [if_pos ht]
theorem gv_ac {x9 ca cb : Nat} {f f2 : Nat → Int32} {n : Int32} (hd : decode y.2.1 pc = .ok (.invokestatic x9, 3)) (hl : gv_tw wp (.methodLink y.1.cls x9 arraycopyName) = true) (hb0 : b ≠ 0) (ha : h.2.2 a = some (Sum.inl (0, ca, Sum.inl f))) (hb : h.2.2 b = some (Sum.inl (0, cb, Sum.inl f2))) (h3 : ¬ n < 0) (h4 : n.toNatClampNeg ≤ ca) (h5 : n.toNatClampNeg ≤ cb) (hcat : gv_cs st ≤ 60)
    (k : gv_go G y d r hf (pc + 3) ls st (gv_set h b (Sum.inl (0, cb, Sum.inl (va_cpy f f2 0 0 n.toNatClampNeg))))) : gv_go G y d r hf pc ls (gI n :: gI 0 :: gR b :: gI 0 :: gR a :: st) h := by
  refine ⟨k.1, fun h0 p e s m args9 below meth c H locs A q1 q2 X hw hl9 hA => ?_⟩
  have hK := X.2.2.2.2.1
  have nn : n.toInt = (n.toNatClampNeg : Int) := by
    have hz0 : (0 : Int) ≤ n.toInt := by
      have := Int32.not_lt.mp h3
      simpa using Int32.le_iff_toInt_le.mp this
    show n.toInt = ((n.toInt.toNat : Nat) : Int)
    omega
  have z1 : (0 : Int32).toInt = 0 := by decide
  have z2 : (0 : Int32).toNatClampNeg = 0 := by decide
  intro T hT XX
  have hc0 : H[G.2.1 a]? = some (vp_cell (G.2.2.2.1 0) (ca, .inl f)) := (hw.2.2.2 a _ ha).2
  have hc1 : H[G.2.1 b]? = some (vp_cell (G.2.2.2.1 0) (cb, .inl f2)) := (hw.2.2.2 b _ hb).2
  obtain ⟨-, k0, hk0, cm0, hkk0⟩ := (hK.2.1.2 0 (G.2.2.2.1 0, .int) rfl).1 ca (fun j => .int (f j))
  obtain ⟨-, k1, hk1, cm1, hkk1⟩ := (hK.2.1.2 0 (G.2.2.2.1 0, .int) rfl).1 cb (fun j => .int (f2 j))
  obtain ⟨vm', X', step⟩ := XX.arraycopy X.1 X.2.2.2.1 (gv_tw_use hK hl args9) (gv_tw_use hK (i := 729) (by decide +kernel) args9) (gv_tw_use hK (i := 728) (by decide +kernel) args9) (gv_tw_use hK (i := 89) (by decide +kernel) args9) (src := G.2.1 a) (dst := G.2.1 b) (cs := vp_cell (G.2.2.2.1 0) (ca, .inl f)) (cd := vp_cell (G.2.2.2.1 0) (cb, .inl f2)) (srcPos := 0) (destPos := 0) (n := n) (by rw [hT]; exact hc0) (by rw [hT]; exact hc1)
    (fun _ h => by cases h) (fun _ h => by cases h) (fun h => by cases h) (fun h => by cases h) hk0 hk1 hkk0 hkk1 rfl (by decide) (by decide) h3
    (by rw [z1, nn]; show ¬ _ > ((arrV (G.2.2.2.1 0) ca (fun j => .int (f j))).slots.size : Int); rw [arrV_size]; omega)
    (by rw [z1, nn]; show ¬ _ > ((arrV (G.2.2.2.1 0) cb (fun j => .int (f2 j))).slots.size : Int); rw [arrV_size]; omega)
    (fun vm₁ _ i hi => by
      have e : (vp_cell (G.2.2.2.1 0) (ca, .inl f)).slots.getD ((0 : Int32).toNatClampNeg + i) .null = .int (f ((0 : Int32).toNatClampNeg + i)) := by
        show (arrV (G.2.2.2.1 0) ca (fun j => .int (f j))).slots.getD _ _ = _
        rw [Array.getD_eq_getD_getElem?, arrV_read _ _ (by rw [z2]; omega)]
        rfl
      refine ⟨?_, ?_⟩
      · rw [e]; rfl
      · rw [e]; exact trivial)
    (g := F0 m pc A (.int n :: .int 0 :: .ref (G.2.1 b) :: .int 0 :: .ref (G.2.1 a) :: st.map (gv_v G.2.1))) rfl (hA.1.trans X.2.2.1.symm) (rest := st.map (gv_v G.2.1)) rfl (by rw [X.2.1]; exact hd) (by show 1 ≤ d + 8; omega) (by
      show 2 * 0 + ((st.map (gv_v G.2.1)).map fun v => v.category).sum + (nativeFrameWords "java/lang/System" "arraycopy" 5 + 11) ≤ 64 * d + 200
      rw [gv_cs_sum]
      have e9 : nativeFrameWords "java/lang/System" "arraycopy" 5 ≤ 100 := by decide +kernel
      omega)
  have e1 : copied (vp_cell (G.2.2.2.1 0) (ca, .inl f)) (vp_cell (G.2.2.2.1 0) (cb, .inl f2)) 0 0 n = vp_cell (G.2.2.2.1 0) (cb, .inl (va_cpy f f2 0 0 n.toNatClampNeg)) := va_copied (fun z => .int z) (G.2.2.2.1 0) (G.2.2.2.1 0) f f2 (by omega)
  rw [e1] at X' step
  have hlt : G.2.1 b < H.size := (Array.getElem?_eq_some_iff.mp hc1).1
  have hheap : ((T.setVm vm').setCell (G.2.1 b) (vp_cell (G.2.2.2.1 0) (cb, .inl (va_cpy f f2 0 0 n.toNatClampNeg)))).heap = H.setIfInBounds (G.2.1 b) (vp_cell (G.2.2.2.1 0) (cb, .inl (va_cpy f f2 0 0 n.toNatClampNeg))) := by rw [← hT]; rfl
  have oq : ∀ q : Nat, q ≠ G.2.1 b → (H.setIfInBounds (G.2.1 b) (vp_cell (G.2.2.2.1 0) (cb, .inl (va_cpy f f2 0 0 n.toNatClampNeg))))[q]? = H[q]? := fun q hq => by simp [Array.getElem?_setIfInBounds, Ne.symm hq]
  obtain ⟨t, a1, b1⟩ := k.2 h0 p e s m args9 below meth c _ _ A q1 q2 X (hw.set hb0 hb (show (H.setIfInBounds (G.2.1 b) _)[G.2.1 b]? = some _ by simp [Array.getElem?_setIfInBounds, hlt]; rfl) (by simp) oq) (fun q hq => by
      rcases List.mem_append.mp hq with h | h
      · exact hl9 q h
      · obtain ⟨z, -, hz⟩ := List.mem_map.mp h
        rw [← hz]
        exact hw.1.1.ge hb0) hA _ hheap X'
  exact ⟨t, step t a1, b1⟩
theorem jmin_le {c : Nat} (hc : 2 * c < 2 ^ 31) : jmin (nI c) (nI (2 * c)) = nI c := by
  unfold jmin
  rw [if_neg (nI_nlt (by omega) hc)]
theorem t_copyOf {c : Nat} {f : Nat → Int32} (ha : h.2.2 a = some (Sum.inl (0, c, Sum.inl f))) (hne : a ≠ h.1) (hz : h.1 ≠ 0) (h0 : 0 < c) (hc : 2 * c ≤ 100000) : gv_ev G (d + 0) M_AR_copyOf [gR a, gI (nI (2 * c))] h (.inl (some (gR h.1))) (gv_set (gv_push h (2 * c) (Sum.inl (0, 2 * c, Sum.inl (fun _ => 0)))) h.1 (Sum.inl (0, 2 * c, Sum.inl (va_cpy f (fun _ => 0) 0 0 c)))) := by
  have e2 : (nI (2 * c)).toNatClampNeg = 2 * c := nI_clamp (by omega)
  have e1 : (nI c).toNatClampNeg = c := nI_clamp (by omega)
  refine gv_E (ls := [some (gR a), some (gI (nI (2 * c))), none]) (by decide) (fun h => by cases h) (Nat.le_of_ble_eq_true rfl) rfl ?_
  refine gv_B ok_AR_copyOf 2 rfl ?_
  refine gv_al ok_AR_copyOf rfl ha (by decide) ?_
  refine gv_B ok_AR_copyOf 1 rfl ?_
  refine gv_brT (show ¬ nI (2 * c) = nI c from fun q => absurd ((nI_eq (by omega) (by omega)).mp q) (by omega)) ?_
  refine gv_B ok_AR_copyOf 1 rfl ?_
  refine gv_na ok_AR_copyOf rfl (by
    rw [e2]
    rintro (q | q | q)
    · exact nI_pos (n := 2 * c) (by omega) q
    · omega
    · omega) ?_
  rw [e2]
  refine gv_B ok_AR_copyOf 6 rfl ?_
  refine gv_al ok_AR_copyOf rfl ((gv_push_ne hne).trans ha) (by decide) ?_
  refine gv_B ok_AR_copyOf 1 rfl ?_
  refine gv_mi (wp := 726) (x9 := 304) (x := nI c) (z := nI (2 * c)) (by decide +kernel) (by decide +kernel) (Nat.le_of_ble_eq_true rfl) ?_
  rw [jmin_le (by omega)]
  refine gv_ac (wp := 727) (x9 := 150) (n := nI c) (by decide +kernel) (by decide +kernel) hz ((gv_push_ne hne).trans ha) gv_push_at (nI_pos (by omega)) (by rw [e1]; exact Nat.le_refl _) (by rw [e1]; omega) (Nat.le_of_ble_eq_true rfl) ?_
  rw [e1]
  refine gv_B ok_AR_copyOf 1 rfl ?_
  exact gv_Ra rfl (by decide +kernel)

theorem tp_ag0 {g g1 : Nat} : ∀ k, k < 99 → (k ≠ 53 → ∀ m : Nat → Int32, tp_a g k m = tp_a g1 k m) := kb_s (kb_s (kb_s (kb_s (kb_s (kb_s (kb_s (kb_s (kb_s (kb_s (kb_s (kb_s (kb_s (kb_s (kb_s (kb_s (kb_s (kb_s (kb_s (kb_s (kb_s (kb_s (kb_s (kb_s (kb_s (kb_s (kb_s (kb_s (kb_s (kb_s (kb_s (kb_s (kb_s (kb_s (kb_s (kb_s (kb_s (kb_s (kb_s (kb_s (kb_s (kb_s (kb_s (kb_s (kb_s (kb_s (kb_s (kb_s (kb_s (kb_s (kb_s (kb_s (kb_s (kb_s (kb_s (kb_s (kb_s (kb_s (kb_s (kb_s (kb_s (kb_s (kb_s (kb_s (kb_s (kb_s (kb_s (kb_s (kb_s (kb_s (kb_s (kb_s (kb_s (kb_s (kb_s (kb_s (kb_s (kb_s (kb_s (kb_s (kb_s (kb_s (kb_s (kb_s (kb_s (kb_s (kb_s (kb_s (kb_s (kb_s (kb_s (kb_s (kb_s (kb_s (kb_s (kb_s (kb_s (kb_s (kb_s (fun k hk => absurd hk (Nat.not_lt_zero k)) (fun _ _ => rfl)) (fun _ _ => rfl)) (fun _ _ => rfl)) (fun _ _ => rfl)) (fun _ _ => rfl)) (fun _ _ => rfl)) (fun _ _ => rfl)) (fun _ _ => rfl)) (fun _ _ => rfl)) (fun _ _ => rfl)) (fun _ _ => rfl)) (fun _ _ => rfl)) (fun _ _ => rfl)) (fun _ _ => rfl)) (fun _ _ => rfl)) (fun _ _ => rfl)) (fun _ _ => rfl)) (fun _ _ => rfl)) (fun _ _ => rfl)) (fun _ _ => rfl)) (fun _ _ => rfl)) (fun _ _ => rfl)) (fun _ _ => rfl)) (fun _ _ => rfl)) (fun _ _ => rfl)) (fun _ _ => rfl)) (fun _ _ => rfl)) (fun _ _ => rfl)) (fun _ _ => rfl)) (fun _ _ => rfl)) (fun _ _ => rfl)) (fun _ _ => rfl)) (fun _ _ => rfl)) (fun _ _ => rfl)) (fun _ _ => rfl)) (fun _ _ => rfl)) (fun _ _ => rfl)) (fun _ _ => rfl)) (fun _ _ => rfl)) (fun _ _ => rfl)) (fun _ _ => rfl)) (fun _ _ => rfl)) (fun _ _ => rfl)) (fun _ _ => rfl)) (fun _ _ => rfl)) (fun _ _ => rfl)) (fun _ _ => rfl)) (fun _ _ => rfl)) (fun _ _ => rfl)) (fun _ _ => rfl)) (fun _ _ => rfl)) (fun _ _ => rfl)) (fun _ _ => rfl)) (fun h => absurd rfl h)) (fun _ _ => rfl)) (fun _ _ => rfl)) (fun _ _ => rfl)) (fun _ _ => rfl)) (fun _ _ => rfl)) (fun _ _ => rfl)) (fun _ _ => rfl)) (fun _ _ => rfl)) (fun _ _ => rfl)) (fun _ _ => rfl)) (fun _ _ => rfl)) (fun _ _ => rfl)) (fun _ _ => rfl)) (fun _ _ => rfl)) (fun _ _ => rfl)) (fun _ _ => rfl)) (fun _ _ => rfl)) (fun _ _ => rfl)) (fun _ _ => rfl)) (fun _ _ => rfl)) (fun _ _ => rfl)) (fun _ _ => rfl)) (fun _ _ => rfl)) (fun _ _ => rfl)) (fun _ _ => rfl)) (fun _ _ => rfl)) (fun _ _ => rfl)) (fun _ _ => rfl)) (fun _ _ => rfl)) (fun _ _ => rfl)) (fun _ _ => rfl)) (fun _ _ => rfl)) (fun _ _ => rfl)) (fun _ _ => rfl)) (fun _ _ => rfl)) (fun _ _ => rfl)) (fun _ _ => rfl)) (fun _ _ => rfl)) (fun _ _ => rfl)) (fun _ _ => rfl)) (fun _ _ => rfl)) (fun _ _ => rfl)) (fun _ _ => rfl)) (fun _ _ => rfl)) (fun _ _ => rfl)
theorem tp_ag {g g1 k : Nat} (h : k ≠ 53) (m : Nat → Int32) : tp_a g k m = tp_a g1 k m := by
  by_cases e : k < 99
  · exact tp_ag0 k e h m
  · rw [tp_a9 (by omega), tp_a9 (by omega)]
/-- the numbers behind it -/
def gwM (n g cap : Nat) (μ : Mu) : Mu := upM (upM (upM (upM μ n (va_cpy (μ g) (fun _ => 0) 0 0 cap)) (n + 1) (va_cpy (μ (g + 1)) (fun _ => 0) 0 0 cap)) (n + 2) (va_cpy (μ (g + 2)) (fun _ => 0) 0 0 cap)) (n + 3) (fun _ => 0)
def gwA (acc : Nat × Nat) (cap : Nat) : Nat × Nat := (acc.1 + 1 + 1 + 1 + 1, acc.2 + 2 * cap + 2 * cap + 2 * cap + 2 * cap)
theorem mul2 {c : Nat} : (2 : Int32) * Int32.ofNat c = nI (2 * c) := (Int32.ofNat_mul 2 c).symm
theorem t_GO_grow (hg : gPb g = true) (hn : 99 ≤ n) (hgn : g + 3 < n) (h0 : 0 < cap) (hc : 2 * cap ≤ 100000) : gv_ev G (d + 1) M_GO_grow [gR 53] (hp n acc g cap μ) (.inl none) (hp (n + 1 + 1 + 1 + 1) (gwA acc cap) n (2 * cap) (gwM n g cap μ)) := by
  have g53 : g ≠ 53 ∧ g + 1 ≠ 53 ∧ g + 2 ≠ 53 ∧ g + 3 ≠ 53 := by rcases gP_or hg with e | e <;> omega
  have e2 : (nI (2 * cap)).toNatClampNeg = 2 * cap := nI_clamp (by omega)
  refine gv_E (ls := [some (gR 53), none]) (by decide) (fun h => by cases h) (Nat.le_of_ble_eq_true rfl) rfl ?_
  refine gv_B ok_GO_grow 3 rfl ?_
  refine gv_al ok_GO_grow rfl (tg_0 hg _) (by decide) ?_
  refine gv_B ok_GO_grow 1 rfl ?_
  refine gv_st1 mul2 ?_
  refine gv_B ok_GO_grow 5 rfl ?_
  refine gv_Sx (wp := 716) (x9 := 28) (by decide +kernel) (by decide +kernel) mk_AR_copyOf (t_copyOf (d := d) (a := g) (c := cap) (tg_0 hg _) (show g ≠ n by omega) (show n ≠ 0 by omega) h0 hc) rfl rfl (Nat.le_of_ble_eq_true rfl) ?_
  show gv_go G M_GO_grow (d + 1) _ _ 17 _ [gR n, gR 53] _
  generalize e3 : gv_set (gv_push (hp n acc g cap μ) (2 * cap) (Sum.inl (0, 2 * cap, Sum.inl (fun _ => 0)))) (hp n acc g cap μ).1 (Sum.inl (0, 2 * cap, Sum.inl (va_cpy (μ g) (fun _ => 0) 0 0 cap))) = h1
  have a53 : h1.2.2 53 = some (Sum.inr (8, [gR g, gR (g + 1), gR (g + 2), gR (g + 3)])) := by
    rw [← e3]
    exact (gv_set_ne (show 53 ≠ n by omega)).trans (gv_push_ne (show 53 ≠ n by omega))
  have f1 : h1.1 = n + 1 := by rw [← e3]; rfl
  have f2 : h1.2.1 = (acc.1 + 1, acc.2 + 2 * cap) := by rw [← e3]; rfl
  have f3 : h1.2.2 n = some (Sum.inl (0, 2 * cap, Sum.inl (va_cpy (μ g) (fun _ => 0) 0 0 cap))) := by rw [← e3]; exact gv_set_at
  have f4 : ∀ k, k ≠ n → h1.2.2 k = tpl g cap k (μ k) := fun k hk => by rw [← e3]; exact (gv_set_ne hk).trans (gv_push_ne hk)
  clear e3
  refine gv_pf (rr := ("GoalEngine$Goals", gF_GO, 4)) ok_GO_grow rfl rfl a53 rfl (Nat.le_of_ble_eq_true rfl) rfl ?_
  refine gv_B ok_GO_grow 2 rfl ?_
  refine gv_gf ok_GO_grow rfl gv_set_at rfl ?_
  refine gv_B ok_GO_grow 1 rfl ?_
  refine gv_Sx (wp := 716) (x9 := 28) (by decide +kernel) (by decide +kernel) mk_AR_copyOf (t_copyOf (d := d) (a := g + 1) (c := cap) ((gv_set_ne g53.2.1).trans ((f4 (g + 1) (by omega)).trans (tg_1 hg _))) (show g + 1 ≠ h1.1 by omega) (show h1.1 ≠ 0 by omega) h0 hc) rfl rfl (Nat.le_of_ble_eq_true rfl) ?_
  show gv_go G M_GO_grow (d + 1) _ _ 29 _ [gR h1.1, gR 53] _
  generalize e3 : gv_set (gv_push (gv_set h1 53 (Sum.inr (8, [gR g, gR (g + 1), gR (g + 2), gR (g + 3)].set 0 (gR n)))) (2 * cap) (Sum.inl (0, 2 * cap, Sum.inl (fun _ => 0)))) (gv_set h1 53 (Sum.inr (8, [gR g, gR (g + 1), gR (g + 2), gR (g + 3)].set 0 (gR n)))).1 (Sum.inl (0, 2 * cap, Sum.inl (va_cpy (μ (g + 1)) (fun _ => 0) 0 0 cap))) = h2
  rw [f1]
  have b53 : h2.2.2 53 = some (Sum.inr (8, [gR n, gR (g + 1), gR (g + 2), gR (g + 3)])) := by
    rw [← e3]
    exact (gv_set_ne (show 53 ≠ h1.1 by omega)).trans ((gv_push_ne (h := gv_set h1 53 (Sum.inr (8, [gR g, gR (g + 1), gR (g + 2), gR (g + 3)].set 0 (gR n)))) (show 53 ≠ h1.1 by omega)).trans gv_set_at)
  have d1 : h2.1 = n + 1 + 1 := by rw [← e3]; show h1.1 + 1 = _; rw [f1]
  have d2 : h2.2.1 = (acc.1 + 1 + 1, acc.2 + 2 * cap + 2 * cap) := by rw [← e3]; show (h1.2.1.1 + 1, h1.2.1.2 + 2 * cap) = _; rw [f2]
  have d3 : h2.2.2 (n + 1) = some (Sum.inl (0, 2 * cap, Sum.inl (va_cpy (μ (g + 1)) (fun _ => 0) 0 0 cap))) := by rw [← e3, ← f1]; exact gv_set_at
  have d4 : ∀ k, k ≠ n + 1 → k ≠ 53 → h2.2.2 k = h1.2.2 k := fun k hk h5 => by rw [← e3]; exact (gv_set_ne (show k ≠ h1.1 by omega)).trans ((gv_push_ne (h := gv_set h1 53 (Sum.inr (8, [gR g, gR (g + 1), gR (g + 2), gR (g + 3)].set 0 (gR n)))) (show k ≠ h1.1 by omega)).trans (gv_set_ne h5))
  clear e3
  refine gv_pf (rr := ("GoalEngine$Goals", gF_GO, 4)) ok_GO_grow rfl rfl b53 rfl (Nat.le_of_ble_eq_true rfl) rfl ?_
  refine gv_B ok_GO_grow 2 rfl ?_
  refine gv_gf ok_GO_grow rfl gv_set_at rfl ?_
  refine gv_B ok_GO_grow 1 rfl ?_
  refine gv_Sx (wp := 716) (x9 := 28) (by decide +kernel) (by decide +kernel) mk_AR_copyOf (t_copyOf (d := d) (a := g + 2) (c := cap) ((gv_set_ne g53.2.2.1).trans ((d4 (g + 2) (by omega) g53.2.2.1).trans ((f4 (g + 2) (by omega)).trans (tg_2 hg _)))) (show g + 2 ≠ h2.1 by omega) (show h2.1 ≠ 0 by omega) h0 hc) rfl rfl (Nat.le_of_ble_eq_true rfl) ?_
  show gv_go G M_GO_grow (d + 1) _ _ 41 _ [gR h2.1, gR 53] _
  generalize e3 : gv_set (gv_push (gv_set h2 53 (Sum.inr (8, [gR n, gR (g + 1), gR (g + 2), gR (g + 3)].set 1 (gR (n + 1))))) (2 * cap) (Sum.inl (0, 2 * cap, Sum.inl (fun _ => 0)))) (gv_set h2 53 (Sum.inr (8, [gR n, gR (g + 1), gR (g + 2), gR (g + 3)].set 1 (gR (n + 1))))).1 (Sum.inl (0, 2 * cap, Sum.inl (va_cpy (μ (g + 2)) (fun _ => 0) 0 0 cap))) = h3
  rw [d1]
  have c53 : h3.2.2 53 = some (Sum.inr (8, [gR n, gR (n + 1), gR (g + 2), gR (g + 3)])) := by
    rw [← e3]
    exact (gv_set_ne (show 53 ≠ h2.1 by omega)).trans ((gv_push_ne (h := gv_set h2 53 (Sum.inr (8, [gR n, gR (g + 1), gR (g + 2), gR (g + 3)].set 1 (gR (n + 1))))) (show 53 ≠ h2.1 by omega)).trans gv_set_at)
  have c1 : h3.1 = n + 1 + 1 + 1 := by rw [← e3]; show h2.1 + 1 = _; rw [d1]
  have c2 : h3.2.1 = (acc.1 + 1 + 1 + 1, acc.2 + 2 * cap + 2 * cap + 2 * cap) := by rw [← e3]; show (h2.2.1.1 + 1, h2.2.1.2 + 2 * cap) = _; rw [d2]
  have c3 : h3.2.2 (n + 1 + 1) = some (Sum.inl (0, 2 * cap, Sum.inl (va_cpy (μ (g + 2)) (fun _ => 0) 0 0 cap))) := by rw [← e3, ← d1]; exact gv_set_at
  have c4 : ∀ k, k ≠ n + 1 + 1 → k ≠ 53 → h3.2.2 k = h2.2.2 k := fun k hk h5 => by rw [← e3]; exact (gv_set_ne (show k ≠ h2.1 by omega)).trans ((gv_push_ne (h := gv_set h2 53 (Sum.inr (8, [gR n, gR (g + 1), gR (g + 2), gR (g + 3)].set 1 (gR (n + 1))))) (show k ≠ h2.1 by omega)).trans (gv_set_ne h5))
  clear e3
  refine gv_pf (rr := ("GoalEngine$Goals", gF_GO, 4)) ok_GO_grow rfl rfl c53 rfl (Nat.le_of_ble_eq_true rfl) rfl ?_
  refine gv_B ok_GO_grow 2 rfl ?_
  refine gv_na ok_GO_grow rfl (by
    rw [e2]
    rintro (q | q | q)
    · exact nI_pos (n := 2 * cap) (by omega) q
    · omega
    · omega) ?_
  rw [e2]
  show gv_go G M_GO_grow (d + 1) _ _ 48 _ [gR h3.1, gR 53] _
  rw [c1]
  generalize e3 : gv_push (gv_set h3 53 (Sum.inr (8, [gR n, gR (n + 1), gR (g + 2), gR (g + 3)].set 2 (gR (n + 1 + 1))))) (2 * cap) (Sum.inl (2, 2 * cap, Sum.inl (fun _ => 0))) = h4
  have x53 : h4.2.2 53 = some (Sum.inr (8, [gR n, gR (n + 1), gR (n + 1 + 1), gR (g + 3)])) := by
    rw [← e3]
    exact (gv_push_ne (h := gv_set h3 53 (Sum.inr (8, [gR n, gR (n + 1), gR (g + 2), gR (g + 3)].set 2 (gR (n + 1 + 1))))) (show 53 ≠ h3.1 by omega)).trans gv_set_at
  have x1 : h4.1 = n + 1 + 1 + 1 + 1 := by rw [← e3]; show h3.1 + 1 = _; rw [c1]
  have x2 : h4.2.1 = gwA acc cap := by rw [← e3]; show (h3.2.1.1 + 1, h3.2.1.2 + 2 * cap) = _; rw [c2]; rfl
  have x3 : h4.2.2 (n + 1 + 1 + 1) = some (Sum.inl (2, 2 * cap, Sum.inl (fun _ => 0))) := by rw [← e3, ← c1]; exact gv_push_at
  have x4 : ∀ k, k ≠ n + 1 + 1 + 1 → k ≠ 53 → h4.2.2 k = h3.2.2 k := fun k hk h5 => by rw [← e3]; exact (gv_push_ne (h := gv_set h3 53 (Sum.inr (8, [gR n, gR (n + 1), gR (g + 2), gR (g + 3)].set 2 (gR (n + 1 + 1))))) (show k ≠ h3.1 by omega)).trans (gv_set_ne h5)
  clear e3
  refine gv_pf (rr := ("GoalEngine$Goals", gF_GO, 4)) ok_GO_grow rfl rfl x53 rfl (Nat.le_of_ble_eq_true rfl) rfl ?_
  refine gv_sub (h' := hp (n + 1 + 1 + 1 + 1) (gwA acc cap) n (2 * cap) (gwM n g cap μ)) x1.symm x2.symm (fun k c hk => ?_) (gv_Rv ok_GO_grow rfl rfl)
  have hP : gPb n = true := by
    unfold gPb
    rw [Bool.or_eq_true]
    exact Or.inr (Nat.ble_eq_true_of_le hn)
  have hk : tpl n (2 * cap) k (gwM n g cap μ k) = some c := hk
  by_cases q53 : k = 53
  · subst q53
    have e9 : tpl n (2 * cap) 53 (gwM n g cap μ 53) = some (Sum.inr (8, [gR n, gR (n + 1), gR (n + 2), gR (n + 3)])) := rfl
    exact gv_set_at.trans (e9.symm.trans hk)
  refine (gv_set_ne q53).trans ?_
  by_cases q3 : k = n + 1 + 1 + 1
  · subst q3
    have e9 := tg_3 (cap := 2 * cap) hP (gwM n g cap μ (n + 1 + 1 + 1))
    have e8 : gwM n g cap μ (n + 3) = fun _ => 0 := upM_at
    rw [x3, ← hk]
    refine Eq.trans ?_ e9.symm
    show _ = some (Sum.inl (2, 2 * cap, Sum.inl (gwM n g cap μ (n + 3))))
    rw [e8]
  rw [x4 k q3 q53]
  by_cases q2 : k = n + 1 + 1
  · subst q2
    have e9 := tg_2 (cap := 2 * cap) hP (gwM n g cap μ (n + 1 + 1))
    have e8 : gwM n g cap μ (n + 2) = va_cpy (μ (g + 2)) (fun _ => 0) 0 0 cap := (upM_ne (by omega)).trans upM_at
    rw [c3, ← hk]
    refine Eq.trans ?_ e9.symm
    show _ = some (Sum.inl (0, 2 * cap, Sum.inl (gwM n g cap μ (n + 2))))
    rw [e8]
  rw [c4 k q2 q53]
  by_cases q1 : k = n + 1
  · subst q1
    have e9 := tg_1 (cap := 2 * cap) hP (gwM n g cap μ (n + 1))
    have e8 : gwM n g cap μ (n + 1) = va_cpy (μ (g + 1)) (fun _ => 0) 0 0 cap := (upM_ne (by omega)).trans ((upM_ne (by omega)).trans upM_at)
    rw [d3, ← hk]
    refine Eq.trans ?_ e9.symm
    rw [e8]
  rw [d4 k q1 q53]
  by_cases q0 : k = n
  · subst q0
    have e9 := tg_0 (cap := 2 * cap) hP (gwM k g cap μ k)
    have e8 : gwM k g cap μ k = va_cpy (μ g) (fun _ => 0) 0 0 cap := (upM_ne (by omega)).trans ((upM_ne (by omega)).trans ((upM_ne (by omega)).trans upM_at))
    rw [f3, ← hk]
    refine Eq.trans ?_ e9.symm
    rw [e8]
  rw [f4 k q0]
  have e8 : gwM n g cap μ k = μ k := (upM_ne q3).trans ((upM_ne q2).trans ((upM_ne q1).trans (upM_ne q0)))
  rw [e8] at hk
  have e7 : tp_a n k (μ k) = some c := by
    unfold tpl at hk
    cases e6 : tp_a n k (μ k) with
    | some c9 => rw [e6] at hk; exact hk
    | none =>
      rw [e6] at hk
      dsimp only at hk
      rw [if_neg q0, if_neg q1, if_neg q2, if_neg q3] at hk
      cases hk
  unfold tpl
  rw [tp_ag (g1 := n) q53, e7]
end GRA
